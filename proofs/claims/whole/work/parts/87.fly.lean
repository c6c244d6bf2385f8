/-! ===== Flights of the class: one more goes ===== -/
/-- where a search begins -/
def kw_in (w : Int → Int) (s : (Int → Int) × (Int → Int)) (v : Int) : (Int → Int) × (Int → Int) := (kv_fn s.1 v 6 (fun j => if 0 < w j then 0 else 1000000), kv_fl s.2 v 6 (-1))
theorem lp_way_2 {q : Nat × Int × Int × Int × Int} {c s : Nat} {Q : Option km_V → km_Al → km_Mm → Prop} {g l : Int} {m : km_Mm} {R : (Int → Int) × (Int → Int) → Prop} (hR : ∀ st : (Int → Int) × (Int → Int), km_G M_X2_findWay 42 [some (.inr (.inr 59)), some (.inl g), some (.inl l), some (.inl 6), none, none] [] (km_A0 q c s) (kf_s m st) Q ↔ R st) : ∀ (n : Nat) (v : Int) (st : (Int → Int) × (Int → Int)), 0 ≤ v → v + n = 6 → (km_G M_X2_findWay 2 [some (.inr (.inr 59)), some (.inl g), some (.inl l), some (.inl v), none, none] [] (km_A0 q c s) (kf_s m st) Q ↔ R (kw_in (m 65) st v)) := by
  intro n
  induction n with
  | zero =>
    intro v st h0 h1
    have e2 : v = 6 := by omega
    subst e2
    have e3 : kw_in (m 65) st 6 = st := by unfold kw_in; rw [kv_fn_end (Int.le_refl _), kv_fl_end (Int.le_refl _)]
    rw [g_X2_findWay_2]
    simp (config := { decide := true }) (disch := first | decide | assumption | omega | (simp (config := { decide := true }) only [km_sr_sf, km_sr_of, km_up_of, km_up_o, km_upx_i, km_upx_s, km_fl2_o, ne_eq, not_true_eq_false, not_false_eq_true] <;> omega) | fail) only [g_X2_findWay, e3, Int.le_refl, hR, h0, Int.add_sub_cancel, true_or, or_true, false_or, or_false, false_and, and_false, if_true, if_false, ka_lo, ka_hi, ka_nn, km_sr_sf, km_sr_of, km_up_of, km_sr_us, km_sr_uo, km_sr_sr, km_sr_fl, km_sr_flo, km_up_up, km_up_lt, km_lay, km_unL, km_up_o, km_upx_i, km_upx_s, km_fl2_o, km_is, Option.some.injEq, Sum.inl.injEq, Sum.inr.injEq, Option.toList_some, Option.toList_none, List.cons_append, List.nil_append, ne_eq, true_and, and_true, and_self, not_true_eq_false, not_false_eq_true, true_implies, false_implies, reduceCtorEq]
    all_goals grind
  | succ n ih =>
    intro v st h0 h1
    have e : ¬ (6 : Int) ≤ v := by omega
    have u := @kv_fn_up st.1 (fun j => if 0 < m 65 j then 0 else 1000000) v 6 (by omega)
    have u2 := @kv_fl_up st.2 v 6 (-1) (by omega)
    have i1 := ih (v + 1) (km_u1 st.1 v (if 0 < m 65 v then 0 else 1000000), km_u1 st.2 v (-1)) (by omega) (by omega)
    have e3 : kw_in (m 65) (km_u1 st.1 v (if 0 < m 65 v then 0 else 1000000), km_u1 st.2 v (-1)) (v + 1) = kw_in (m 65) st v := by
      unfold kw_in; dsimp only; rw [u, u2]
    rw [e3] at i1
    unfold kf_s at *
    rw [g_X2_findWay_2]
    by_cases z : 0 < m 65 v
    · rw [if_pos z] at i1
      dsimp only at i1
      simp (config := { decide := true }) (disch := first | decide | assumption | omega | (simp (config := { decide := true }) only [km_sr_sf, km_sr_of, km_up_of, km_up_o, km_upx_i, km_upx_s, km_fl2_o, ne_eq, not_true_eq_false, not_false_eq_true] <;> omega) | fail) only [g_X2_findWay, e, i1, ka_lt, ka_le, ka_nlt, ka_nle, ka_ne, ka_eq, Int.add_sub_cancel, true_or, or_true, false_or, or_false, false_and, and_false, if_true, if_false, ka_lo, ka_hi, ka_nn, km_sr_sf, km_sr_of, km_up_of, km_sr_us, km_sr_uo, km_sr_sr, km_sr_fl, km_sr_flo, km_up_up, km_up_lt, km_lay, km_unL, km_up_o, km_upx_i, km_upx_s, km_fl2_o, km_is, Option.some.injEq, Sum.inl.injEq, Sum.inr.injEq, Option.toList_some, Option.toList_none, List.cons_append, List.nil_append, ne_eq, true_and, and_true, and_self, not_true_eq_false, not_false_eq_true, true_implies, false_implies, reduceCtorEq]
    · rw [if_neg z] at i1
      dsimp only at i1
      simp (config := { decide := true }) (disch := first | decide | assumption | omega | (simp (config := { decide := true }) only [km_sr_sf, km_sr_of, km_up_of, km_up_o, km_upx_i, km_upx_s, km_fl2_o, ne_eq, not_true_eq_false, not_false_eq_true] <;> omega) | fail) only [g_X2_findWay, e, i1, ka_lt, ka_le, ka_nlt, ka_nle, ka_ne, ka_eq, Int.add_sub_cancel, true_or, or_true, false_or, or_false, false_and, and_false, if_true, if_false, ka_lo, ka_hi, ka_nn, km_sr_sf, km_sr_of, km_up_of, km_sr_us, km_sr_uo, km_sr_sr, km_sr_fl, km_sr_flo, km_up_up, km_up_lt, km_lay, km_unL, km_up_o, km_upx_i, km_upx_s, km_fl2_o, km_is, Option.some.injEq, Sum.inl.injEq, Sum.inr.injEq, Option.toList_some, Option.toList_none, List.cons_append, List.nil_append, ne_eq, true_and, and_true, and_self, not_true_eq_false, not_false_eq_true, true_implies, false_implies, reduceCtorEq]
/-- the labels after a search -/
noncomputable def kw_fi (m : km_Mm) (l : Int) : (Int → Int) × (Int → Int) := kw_w (m 60) (m 61) (m 64) (kf_e1 m l) (kf_e2 m l) (m 59 0) 6 (kw_in (m 65) (m 67, m 68) 0)
def kf_src (m : km_Mm) : Int → Prop := fun v => (0 ≤ v ∧ v < 6) ∧ 0 < m 65 v
theorem kw_in_0 {m : km_Mm} {s : (Int → Int) × (Int → Int)} : kw_0 (kf_src m) (kw_in (m 65) s 0).1 ∧ ∀ v : Int, 0 ≤ v → v < 6 → (kw_in (m 65) s 0).2 v = -1 := by
  refine ⟨fun v v0 v1 => ?_, fun v v0 v1 => ?_⟩
  · unfold kw_in kv_fn kf_src
    dsimp only
    rw [if_pos ⟨v0, v1⟩]
    exact ⟨fun h => by rw [if_pos h.2], fun h => by rw [if_neg (fun w => h ⟨⟨v0, v1⟩, w⟩)]⟩
  · unfold kw_in kv_fl; dsimp only; rw [if_pos ⟨v0, v1⟩]
theorem r_findWay {q : Nat × Int × Int × Int × Int} {c s : Nat} {m : km_Mm} {g l : Int} (hf : kf_cl m) (hg : 0 ≤ g ∧ g < 6) (Q : Option km_V → km_Al → km_Mm → Prop) :
    km_E M_X2_findWay [.inr (.inr 59), .inl g, .inl l] (km_A0 q c s) m Q ↔ Q (some (.inl (if (kw_fi m l).1 g < 1000000 then 1 else 0))) (km_A0 q c s) (kf_s m (kw_fi m l)) := by
  have id0 : kf_s m (m 67, m 68) = m := by
    unfold kf_s
    funext b j
    by_cases e : b = 68
    · subst e; rw [km_sr_s]
    · rw [km_sr_o e]
      by_cases e2 : b = 67
      · subst e2; rw [km_sr_s]
      · rw [km_sr_o e2]
  have h2 := @lp_way_2 q c s Q g l m (fun st => km_G M_X2_findWay 42 [some (.inr (.inr 59)), some (.inl g), some (.inl l), some (.inl 6), none, none] [] (km_A0 q c s) (kf_s m st) Q) (fun st => Iff.rfl) 6 0 (m 67, m 68) (by omega) (by omega)
  rw [id0] at h2
  have L := @kw_it_L (m 60) (m 61) (m 64) (kf_e1 m l) (kf_e2 m l) (m 59 0) (kf_src m) (kf_cl_ok hf) hf.1.1 (kw_in (m 65) (m 67, m 68) 0) kw_in_0.1 0 (by omega)
  have h47 := @cl_way47 q c s m l g (kf_src m) hf hg Q 6 0 True (kw_in (m 65) (m 67, m 68) 0) none (by omega) (by omega) L
  rw [if_pos trivial, if_pos trivial] at h47
  rw [e_X2_findWay]
  simp (config := { decide := true }) (disch := first | decide | assumption | omega | (simp (config := { decide := true }) only [km_sr_sf, km_sr_of, km_up_of, km_up_o, km_upx_i, km_upx_s, km_fl2_o, ne_eq, not_true_eq_false, not_false_eq_true] <;> omega) | fail) only [g_X2_findWay, h2, h47, Int.add_sub_cancel, true_or, or_true, false_or, or_false, false_and, and_false, if_true, if_false, ka_lo, ka_hi, ka_nn, km_sr_sf, km_sr_of, km_up_of, km_sr_us, km_sr_uo, km_sr_sr, km_sr_fl, km_sr_flo, km_up_up, km_up_lt, km_lay, km_unL, km_up_o, km_upx_i, km_upx_s, km_fl2_o, km_is, Option.some.injEq, Sum.inl.injEq, Sum.inr.injEq, Option.toList_some, Option.toList_none, List.cons_append, List.nil_append, ne_eq, true_and, and_true, and_self, not_true_eq_false, not_false_eq_true, true_implies, false_implies, reduceCtorEq]
  exact Iff.rfl
theorem cl_along {q : Nat × Int × Int × Int × Int} {c s : Nat} {m : km_Mm} {l g : Int} {st : (Int → Int) × (Int → Int)} {src : Int → Prop} {o : Int → Int} (hf : kf_cl m) (K : kw_K (m 60) (m 61) (m 64) (kf_e1 m l) (kf_e2 m l) (m 59 0) src st o) (hw : ∀ v : Int, 0 ≤ v → v < 6 → -1000 ≤ m 65 v ∧ m 65 v ≤ 1000) (Q : Option km_V → km_Al → km_Mm → Prop) : ∀ (k : Nat) (v i : Int) (T : Int → Int), 0 ≤ v → v < 6 → kw_F (m 60) (m 61) (m 64) (kf_e1 m l) (kf_e2 m l) (m 59 0) src st.1 v → o v < k → 0 ≤ i → i + k = 6 → (∀ f : Int, 0 ≤ f → f < 14 → -(1000 - (k : Int)) ≤ T f ∧ T f ≤ 1000 - k) →
    (km_G M_X2_goAlong 4 [some (.inr (.inr 59)), some (.inl g), some (.inl v), some (.inl i)] [] (km_A0 q c s) (km_sr (kf_s m st) 66 T) Q ↔
      Q none (km_A0 q c s) (km_up (km_sr (kf_s m st) 66 (kw_go (m 60) (m 61) st.2 k v T).2) 65 (kw_go (m 60) (m 61) st.2 k v T).1 (m 65 (kw_go (m 60) (m 61) st.2 k v T).1 - 1))) := by
  have f0 := hf.1
  have ho := kf_cl_ok hf
  intro k
  induction k with
  | zero =>
    intro v i T v0 v1 hF hk
    have := (K v v0 v1 hF).1.1
    omega
  | succ k ih =>
    intro v i T v0 v1 hF hk h0 h1 hT
    obtain ⟨k1, k2, k3⟩ := K v v0 v1 hF
    have y : ¬ 6 ≤ i := by omega
    have wv := hw v v0 v1
    unfold kw_go
    by_cases z : st.2 v = -1
    · rw [if_pos z, g_X2_goAlong_4]
      unfold kf_s
      simp (config := { decide := true }) (disch := first | decide | assumption | omega | (simp (config := { decide := true }) only [km_sr_sf, km_sr_of, km_up_of, km_up_o, km_upx_i, km_upx_s, km_fl2_o, ne_eq, not_true_eq_false, not_false_eq_true] <;> omega) | fail) only [g_X2_goAlong, y, z, ka_lt, ka_le, ka_nlt, ka_nle, ka_ne, ka_eq, Int.add_sub_cancel, true_or, or_true, false_or, or_false, false_and, and_false, if_true, if_false, ka_lo, ka_hi, ka_nn, km_sr_sf, km_sr_of, km_up_of, km_sr_us, km_sr_uo, km_sr_sr, km_sr_fl, km_sr_flo, km_up_up, km_up_lt, km_lay, km_unL, km_up_o, km_upx_i, km_upx_s, km_fl2_o, km_is, Option.some.injEq, Sum.inl.injEq, Sum.inr.injEq, Option.toList_some, Option.toList_none, List.cons_append, List.nil_append, ne_eq, true_and, and_true, and_self, not_true_eq_false, not_false_eq_true, true_implies, false_implies, reduceCtorEq]
    · rw [if_neg z]
      obtain ⟨u, w, q1, q2, q3, q4⟩ := k3 z
      have hin := kw_arc_in ho (kw_par_arc q1)
      obtain ⟨f, p0, p1, h | h⟩ := q1
      · obtain ⟨g1, g2, g3, g4, g5⟩ := h
        have f14 : f < 14 := by omega
        have Tf := hT f p0 f14
        have i1 := ih (m 60 f) (i + 1) (km_u1 T f (T f + 1)) (g3 ▸ hin.1.1) (g3 ▸ hin.1.2) (g3 ▸ q2) (by rw [g3] at q3; omega) (by omega) (by omega) (fun x x0 x1 => by unfold km_u1; split; omega; have := hT x x0 x1; omega)
        rw [if_pos (by omega), g1, ← i1, g_X2_goAlong_4]
        unfold kf_s
        simp (config := { decide := true }) (disch := first | decide | assumption | omega | (simp (config := { decide := true }) only [km_sr_sf, km_sr_of, km_up_of, km_up_o, km_upx_i, km_upx_s, km_fl2_o, ne_eq, not_true_eq_false, not_false_eq_true] <;> omega) | fail) only [g_X2_goAlong, y, g1, ka_lt, ka_le, ka_nlt, ka_nle, ka_ne, ka_eq, Int.add_sub_cancel, true_or, or_true, false_or, or_false, false_and, and_false, if_true, if_false, ka_lo, ka_hi, ka_nn, km_sr_sf, km_sr_of, km_up_of, km_sr_us, km_sr_uo, km_sr_sr, km_sr_fl, km_sr_flo, km_up_up, km_up_lt, km_lay, km_unL, km_up_o, km_upx_i, km_upx_s, km_fl2_o, km_is, Option.some.injEq, Sum.inl.injEq, Sum.inr.injEq, Option.toList_some, Option.toList_none, List.cons_append, List.nil_append, ne_eq, true_and, and_true, and_self, not_true_eq_false, not_false_eq_true, true_implies, false_implies, reduceCtorEq]
      · obtain ⟨g1, g2, g3, g4, g5⟩ := h
        have f14 : f < 14 := by omega
        have Tf := hT f p0 f14
        have i1 := ih (m 61 f) (i + 1) (km_u1 T f (T f - 1)) (g3 ▸ hin.1.1) (g3 ▸ hin.1.2) (g3 ▸ q2) (by rw [g3] at q3; omega) (by omega) (by omega) (fun x x0 x1 => by unfold km_u1; split; omega; have := hT x x0 x1; omega)
        have e14 : 14 + f - 14 = f := by omega
        rw [if_neg (by omega), g1, e14, ← i1, g_X2_goAlong_4]
        unfold kf_s
        simp (config := { decide := true }) (disch := first | decide | assumption | omega | (simp (config := { decide := true }) only [km_sr_sf, km_sr_of, km_up_of, km_up_o, km_upx_i, km_upx_s, km_fl2_o, ne_eq, not_true_eq_false, not_false_eq_true] <;> omega) | fail) only [g_X2_goAlong, y, g1, e14, ka_lt, ka_le, ka_nlt, ka_nle, ka_ne, ka_eq, Int.add_sub_cancel, true_or, or_true, false_or, or_false, false_and, and_false, if_true, if_false, ka_lo, ka_hi, ka_nn, km_sr_sf, km_sr_of, km_up_of, km_sr_us, km_sr_uo, km_sr_sr, km_sr_fl, km_sr_flo, km_up_up, km_up_lt, km_lay, km_unL, km_up_o, km_upx_i, km_upx_s, km_fl2_o, km_is, Option.some.injEq, Sum.inl.injEq, Sum.inr.injEq, Option.toList_some, Option.toList_none, List.cons_append, List.nil_append, ne_eq, true_and, and_true, and_self, not_true_eq_false, not_false_eq_true, true_implies, false_implies, reduceCtorEq]

