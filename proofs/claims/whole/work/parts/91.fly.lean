/-! ===== flights in the reference: rounds, and the way back ===== -/
theorem md_way47 {q : Nat × Int × Int × Int × Int} {c s : Nat} {m mm : km_Mm} {l o : Int} {T : Int → Int} {src : Int → Prop} (hf : kf_cl m) (hm : kf_md m mm) (hT : mm 160 = T) (ho : 0 ≤ o ∧ o < 6) (hl : mm 152 o = l) (Q : Option km_V → km_Al → km_Mm → Prop) : ∀ (k : Nat) (rd : Int) (P : Prop) (st : (Int → Int) × (Int → Int)) (o2 o3 o4 : Option km_V), 0 ≤ rd → rd + k ≤ 20 → kw_L (kw_arc (m 60) (m 61) (m 64) (kx_e1 m l T) (kx_e2 m l T) (m 59 0)) src (m 59 0 * rd) st.1 → (P → ¬ kw_rh (m 60) (m 61) (m 64) (kx_e1 m l T) (kx_e2 m l T) (m 59 0).toNat 0 (kw_w (m 60) (m 61) (m 64) (kx_e1 m l T) (kx_e2 m l T) (m 59 0) k st)) →
    ∃ p2 p3 p4 : Option km_V, (km_G M_X12_oneMore 47 [some (.inr (.inr 123)), some (.inl o), o2, o3, o4] [] (km_A0 q c s) (kq_s mm P st) Q ↔
      km_G M_X12_oneMore 201 [some (.inr (.inr 123)), some (.inl o), p2, p3, p4] [] (km_A0 q c s) (kq_s mm False (@ite _ P (Classical.propDecidable _) (kw_w (m 60) (m 61) (m 64) (kx_e1 m l T) (kx_e2 m l T) (m 59 0) k st) st)) Q) := by
  have f0 := hf.1
  have same : ∀ (P R : Prop) (st : (Int → Int) × (Int → Int)), (P ↔ R) → kq_s mm P st = kq_s mm R st := fun P R st h => by unfold kq_s; rw [@km_ite_iff _ _ _ (Classical.propDecidable _) _ _ h]
  have stop : ∀ (P : Prop) (st : (Int → Int) × (Int → Int)) (o2 o3 o4 : Option km_V), ¬ P → (km_G M_X12_oneMore 47 [some (.inr (.inr 123)), some (.inl o), o2, o3, o4] [] (km_A0 q c s) (kq_s mm P st) Q ↔ km_G M_X12_oneMore 201 [some (.inr (.inr 123)), some (.inl o), o2, o3, o4] [] (km_A0 q c s) (kq_s mm False st) Q) := fun P st o2 o3 o4 h => by
    rw [same P False st ⟨fun w => absurd w h, fun w => w.elim⟩, g_X12_oneMore_47]
    unfold kq_s
    rw [if_neg (fun w => w)]
    simp (config := { decide := true }) (disch := first | decide | assumption | omega | (simp (config := { decide := true }) only [km_sr_sf, km_sr_of, km_up_of, km_up_o, km_upx_i, km_upx_s, km_fl2_o, ne_eq, not_true_eq_false, not_false_eq_true] <;> omega) | fail) only [g_X12_oneMore, Int.add_sub_cancel, true_or, or_true, false_or, or_false, false_and, and_false, if_true, if_false, ka_lo, ka_hi, ka_nn, km_sr_sf, km_sr_of, km_up_of, km_sr_us, km_sr_uo, km_sr_sr, km_sr_fl, km_sr_flo, km_up_up, km_up_lt, km_lay, km_unL, km_up_o, km_upx_i, km_upx_s, km_fl2_o, km_is, Option.some.injEq, Sum.inl.injEq, Sum.inr.injEq, Option.toList_some, Option.toList_none, List.cons_append, List.nil_append, ne_eq, true_and, and_true, and_self, not_true_eq_false, not_false_eq_true, true_implies, false_implies, reduceCtorEq]
  have round : ∀ (rd : Int) (st : (Int → Int) × (Int → Int)) (o2 o3 o4 : Option km_V), 0 ≤ rd → rd ≤ 20 → kw_L (kw_arc (m 60) (m 61) (m 64) (kx_e1 m l T) (kx_e2 m l T) (m 59 0)) src (m 59 0 * rd) st.1 → ∃ p2 p3 p4 : Option km_V, (km_G M_X12_oneMore 47 [some (.inr (.inr 123)), some (.inl o), o2, o3, o4] [] (km_A0 q c s) (kq_s mm True st) Q ↔ km_G M_X12_oneMore 47 [some (.inr (.inr 123)), some (.inl o), p2, p3, p4] [] (km_A0 q c s) (kq_s mm (kw_rh (m 60) (m 61) (m 64) (kx_e1 m l T) (kx_e2 m l T) (m 59 0).toNat 0 st) (kw_r (m 60) (m 61) (m 64) (kx_e1 m l T) (kx_e2 m l T) (m 59 0).toNat 0 st)) Q) := fun rd st o2 o3 o4 r0 r1 L => by
    have bn : m 59 0 * rd ≤ 14 * rd := Int.mul_le_mul_of_nonneg_right f0.2 r0
    have b0 : 0 ≤ m 59 0 * rd := Int.mul_nonneg f0.1 r0
    obtain ⟨p2, p3, p4, h⟩ := @md_way61 q c s m mm l o T src hf hm hT ho hl Q (m 59 0).toNat 0 (m 59 0 * rd) False st o3 o4 (by omega) (by omega) b0 (by omega) L
    refine ⟨p2, p3, p4, ?_⟩
    rw [same (False ∨ _) _ _ ⟨fun w => w.elim (fun w => w.elim) id, Or.inr⟩] at h
    rw [← h, g_X12_oneMore_47]
    unfold kq_s
    rw [if_pos trivial, if_neg (fun w => w)]
    simp (config := { decide := true }) (disch := first | decide | assumption | omega | (simp (config := { decide := true }) only [km_sr_sf, km_sr_of, km_up_of, km_up_o, km_upx_i, km_upx_s, km_fl2_o, ne_eq, not_true_eq_false, not_false_eq_true] <;> omega) | fail) only [g_X12_oneMore, Int.add_sub_cancel, true_or, or_true, false_or, or_false, false_and, and_false, if_true, if_false, ka_lo, ka_hi, ka_nn, km_sr_sf, km_sr_of, km_up_of, km_sr_us, km_sr_uo, km_sr_sr, km_sr_fl, km_sr_flo, km_up_up, km_up_lt, km_lay, km_unL, km_up_o, km_upx_i, km_upx_s, km_fl2_o, km_is, Option.some.injEq, Sum.inl.injEq, Sum.inr.injEq, Option.toList_some, Option.toList_none, List.cons_append, List.nil_append, ne_eq, true_and, and_true, and_self, not_true_eq_false, not_false_eq_true, true_implies, false_implies, reduceCtorEq]
  have next : ∀ (rd : Int) (st : (Int → Int) × (Int → Int)), 0 ≤ rd → rd ≤ 20 → kw_L (kw_arc (m 60) (m 61) (m 64) (kx_e1 m l T) (kx_e2 m l T) (m 59 0)) src (m 59 0 * rd) st.1 → kw_L (kw_arc (m 60) (m 61) (m 64) (kx_e1 m l T) (kx_e2 m l T) (m 59 0)) src (m 59 0 * (rd + 1)) (kw_r (m 60) (m 61) (m 64) (kx_e1 m l T) (kx_e2 m l T) (m 59 0).toNat 0 st).1 := fun rd st r0 r1 L => by
    have bn : m 59 0 * rd ≤ 14 * rd := Int.mul_le_mul_of_nonneg_right f0.2 r0
    have b0 : 0 ≤ m 59 0 * rd := Int.mul_nonneg f0.1 r0
    have L1 := (kw_r_L (kf_cl_ok hf) (m 59 0).toNat 0 (m 59 0 * rd) st (by omega) (by omega) b0 (by omega) L).1
    have en : m 59 0 * (rd + 1) = m 59 0 * rd + ((m 59 0).toNat : Int) := by rw [Int.mul_add, Int.mul_one]; omega
    rw [en]; exact L1
  intro k
  induction k with
  | zero =>
    intro rd P st o2 o3 o4 h0 h1 L ht
    by_cases p : P
    · obtain ⟨p2, p3, p4, r1⟩ := round rd st o2 o3 o4 h0 (by omega) L
      have nr : ¬ kw_rh (m 60) (m 61) (m 64) (kx_e1 m l T) (kx_e2 m l T) (m 59 0).toNat 0 st := ht p
      refine ⟨p2, p3, p4, ?_⟩
      rw [if_pos p, same P True st ⟨fun _ => trivial, fun _ => p⟩, r1, stop _ _ _ _ _ nr, kw_rh_no _ _ _ nr]
      all_goals exact Iff.rfl
    · refine ⟨o2, o3, o4, ?_⟩
      rw [if_neg p]
      exact stop P st o2 o3 o4 p
  | succ k ih =>
    intro rd P st o2 o3 o4 h0 h1 L ht
    by_cases p : P
    · obtain ⟨p2, p3, p4, r1⟩ := round rd st o2 o3 o4 h0 (by omega) L
      have ht := ht p
      by_cases z : kw_rh (m 60) (m 61) (m 64) (kx_e1 m l T) (kx_e2 m l T) (m 59 0).toNat 0 st
      · have ew : kw_w (m 60) (m 61) (m 64) (kx_e1 m l T) (kx_e2 m l T) (m 59 0) (k + 1) st = kw_w (m 60) (m 61) (m 64) (kx_e1 m l T) (kx_e2 m l T) (m 59 0) k (kw_r (m 60) (m 61) (m 64) (kx_e1 m l T) (kx_e2 m l T) (m 59 0).toNat 0 st) := by rw [kw_w, if_pos z]
        rw [ew] at ht
        obtain ⟨t2, t3, t4, i1⟩ := ih (rd + 1) (kw_rh (m 60) (m 61) (m 64) (kx_e1 m l T) (kx_e2 m l T) (m 59 0).toNat 0 st) (kw_r (m 60) (m 61) (m 64) (kx_e1 m l T) (kx_e2 m l T) (m 59 0).toNat 0 st) p2 p3 p4 (by omega) (by omega) (next rd st h0 (by omega) L) (fun _ => ht)
        refine ⟨t2, t3, t4, ?_⟩
        rw [if_pos z] at i1
        rw [if_pos p, ew, ← i1, same P True st ⟨fun _ => trivial, fun _ => p⟩]
        exact r1
      · have ew : kw_w (m 60) (m 61) (m 64) (kx_e1 m l T) (kx_e2 m l T) (m 59 0) (k + 1) st = st := by rw [kw_w, if_neg z]
        refine ⟨p2, p3, p4, ?_⟩
        rw [if_pos p, ew, same P True st ⟨fun _ => trivial, fun _ => p⟩, r1, stop _ _ _ _ _ z, kw_rh_no _ _ _ z]
        all_goals exact Iff.rfl
    · refine ⟨o2, o3, o4, ?_⟩
      rw [if_neg p]
      exact stop P st o2 o3 o4 p
/-- the way back, seats taken and given back, one less waits -/
theorem md_back {q : Nat × Int × Int × Int × Int} {c s : Nat} {m mm : km_Mm} {l o : Int} {T0 : Int → Int} {st : (Int → Int) × (Int → Int)} {src : Int → Prop} {od : Int → Int} (hf : kf_cl m) (hm : kf_md m mm) (h162 : mm 162 = st.2) (K : kw_K (m 60) (m 61) (m 64) (kx_e1 m l T0) (kx_e2 m l T0) (m 59 0) src st od) (hw : ∀ v : Int, 0 ≤ v → v < 6 → -1000 ≤ mm 159 v ∧ mm 159 v ≤ 1000) (hb : -1000 ≤ mm 123 77 ∧ mm 123 77 ≤ 1000) (Q : Option km_V → km_Al → km_Mm → Prop) : ∀ (k : Nat) (v : Int) (T : Int → Int) (o3 o4 : Option km_V), 0 ≤ v → v < 6 → kw_F (m 60) (m 61) (m 64) (kx_e1 m l T0) (kx_e2 m l T0) (m 59 0) src st.1 v → od v < k → (∀ f : Int, 0 ≤ f → f < 14 → -(1000 - (k : Int)) ≤ T f ∧ T f ≤ 1000 - k) → k ≤ 100 →
    (km_G M_X12_oneMore 236 [some (.inr (.inr 123)), some (.inl o), some (.inl v), o3, o4] [] (km_A0 q c s) (km_sr mm 160 T) Q ↔
      Q (some (.inl 1)) (km_A0 q c s) (km_up (km_sr (km_up mm 123 77 (mm 123 77 + 1)) 160 (kw_go (m 60) (m 61) st.2 k v T).2) 159 (kw_go (m 60) (m 61) st.2 k v T).1 (mm 159 (kw_go (m 60) (m 61) st.2 k v T).1 - 1))) := by
  have f0 := hf.1
  have ho := kf_cl_ok hf
  intro k
  induction k with
  | zero =>
    intro v T o3 o4 v0 v1 hF hk
    have := (K v v0 v1 hF).1.1
    omega
  | succ k ih =>
    intro v T o3 o4 v0 v1 hF hk hT k100
    obtain ⟨k1, k2, k3⟩ := K v v0 v1 hF
    have wv := hw v v0 v1
    unfold kw_go
    by_cases z : st.2 v = -1
    · rw [if_pos z, g_X12_oneMore_236]
      simp (config := { decide := true }) (disch := first | decide | assumption | omega | (simp (config := { decide := true }) only [km_sr_sf, km_sr_of, km_up_of, km_up_o, km_upx_i, km_upx_s, km_fl2_o, ne_eq, not_true_eq_false, not_false_eq_true] <;> omega) | fail) only [g_X12_oneMore, h162, z, ka_lt, ka_le, ka_nlt, ka_nle, ka_ne, ka_eq, Int.add_sub_cancel, true_or, or_true, false_or, or_false, false_and, and_false, if_true, if_false, ka_lo, ka_hi, ka_nn, km_sr_sf, km_sr_of, km_up_of, km_sr_us, km_sr_uo, km_sr_sr, km_sr_fl, km_sr_flo, km_up_up, km_up_lt, km_lay, km_unL, km_up_o, km_upx_i, km_upx_s, km_fl2_o, km_is, Option.some.injEq, Sum.inl.injEq, Sum.inr.injEq, Option.toList_some, Option.toList_none, List.cons_append, List.nil_append, ne_eq, true_and, and_true, and_self, not_true_eq_false, not_false_eq_true, true_implies, false_implies, reduceCtorEq]
    · rw [if_neg z]
      obtain ⟨u, w, q1, q2, q3, q4⟩ := k3 z
      have hin := kw_arc_in ho (kw_par_arc q1)
      obtain ⟨f, p0, p1, h | h⟩ := q1
      · obtain ⟨g1, g2, g3, g4, g5⟩ := h
        have f14 : f < 14 := by omega
        have Tf := hT f p0 f14
        obtain ⟨c1, c2, -⟩ := hm.2 f p0 p1
        have tm : Int.tmod f 14 = f := by rw [Int.tmod_eq_emod_of_nonneg p0]; omega
        have n14 : ¬ (14 : Int) = 0 := by decide
        have i1 := fun o3 o4 => ih (m 60 f) (km_u1 T f (T f + 1)) o3 o4 (g3 ▸ hin.1.1) (g3 ▸ hin.1.2) (g3 ▸ q2) (by rw [g3] at q3; omega) (fun x x0 x1 => by unfold km_u1; split; omega; have := hT x x0 x1; omega) (by omega)
        rw [if_pos (by omega), g1, ← i1 (some (.inl f)) o4, g_X12_oneMore_236]
        simp (config := { decide := true }) (disch := first | decide | assumption | omega | (simp (config := { decide := true }) only [km_sr_sf, km_sr_of, km_up_of, km_up_o, km_upx_i, km_upx_s, km_fl2_o, ne_eq, not_true_eq_false, not_false_eq_true] <;> omega) | fail) only [g_X12_oneMore, h162, z, g1, tm, n14, c1, ka_lt, ka_le, ka_nlt, ka_nle, ka_ne, ka_eq, Int.add_sub_cancel, true_or, or_true, false_or, or_false, false_and, and_false, if_true, if_false, ka_lo, ka_hi, ka_nn, km_sr_sf, km_sr_of, km_up_of, km_sr_us, km_sr_uo, km_sr_sr, km_sr_fl, km_sr_flo, km_up_up, km_up_lt, km_lay, km_unL, km_up_o, km_upx_i, km_upx_s, km_fl2_o, km_is, Option.some.injEq, Sum.inl.injEq, Sum.inr.injEq, Option.toList_some, Option.toList_none, List.cons_append, List.nil_append, ne_eq, true_and, and_true, and_self, not_true_eq_false, not_false_eq_true, true_implies, false_implies, reduceCtorEq]
      · obtain ⟨g1, g2, g3, g4, g5⟩ := h
        have f14 : f < 14 := by omega
        have Tf := hT f p0 f14
        obtain ⟨c1, c2, -⟩ := hm.2 f p0 p1
        have tm : Int.tmod (14 + f) 14 = f := by rw [Int.tmod_eq_emod_of_nonneg (by omega)]; omega
        have n14 : ¬ (14 : Int) = 0 := by decide
        have i1 := fun o3 o4 => ih (m 61 f) (km_u1 T f (T f - 1)) o3 o4 (g3 ▸ hin.1.1) (g3 ▸ hin.1.2) (g3 ▸ q2) (by rw [g3] at q3; omega) (fun x x0 x1 => by unfold km_u1; split; omega; have := hT x x0 x1; omega) (by omega)
        have e14 : 14 + f - 14 = f := by omega
        have em : T f + -1 = T f - 1 := by omega
        rw [if_neg (by omega), g1, e14, ← i1 (some (.inl f)) o4, g_X12_oneMore_236]
        simp (config := { decide := true }) (disch := first | decide | assumption | omega | (simp (config := { decide := true }) only [km_sr_sf, km_sr_of, km_up_of, km_up_o, km_upx_i, km_upx_s, km_fl2_o, ne_eq, not_true_eq_false, not_false_eq_true] <;> omega) | fail) only [g_X12_oneMore, h162, z, g1, tm, n14, c2, em, ka_lt, ka_le, ka_nlt, ka_nle, ka_ne, ka_eq, Int.add_sub_cancel, true_or, or_true, false_or, or_false, false_and, and_false, if_true, if_false, ka_lo, ka_hi, ka_nn, km_sr_sf, km_sr_of, km_up_of, km_sr_us, km_sr_uo, km_sr_sr, km_sr_fl, km_sr_flo, km_up_up, km_up_lt, km_lay, km_unL, km_up_o, km_upx_i, km_upx_s, km_fl2_o, km_is, Option.some.injEq, Sum.inl.injEq, Sum.inr.injEq, Option.toList_some, Option.toList_none, List.cons_append, List.nil_append, ne_eq, true_and, and_true, and_self, not_true_eq_false, not_false_eq_true, true_implies, false_implies, reduceCtorEq]

