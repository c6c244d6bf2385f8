/-! ===== Flights of the class: the search for one way ===== -/
/-- flights that go by the day l, with a seat left; with one taken -/
def kf_e1 (m : km_Mm) (l : Int) : Int → Bool := fun f => decide (m 62 f ≤ l) && decide (m 66 f < m 63 f)
def kf_e2 (m : km_Mm) (l : Int) : Int → Bool := fun f => decide (m 62 f ≤ l) && decide (0 < m 66 f)
/-- the class's flights -/
def kf_cl (m : km_Mm) : Prop := (0 ≤ m 59 0 ∧ m 59 0 ≤ 14) ∧ ∀ f : Int, 0 ≤ f → f < m 59 0 → (0 ≤ m 60 f ∧ m 60 f < 6) ∧ (0 ≤ m 61 f ∧ m 61 f < 6) ∧ m 60 f ≠ m 61 f ∧ (0 ≤ m 64 f ∧ m 64 f ≤ 999)
theorem kf_cl_ok {m : km_Mm} (h : kf_cl m) : kw_ok (m 60) (m 61) (m 64) (m 59 0) := ⟨h.1.2, h.2⟩
def kf_s (m : km_Mm) (s : (Int → Int) × (Int → Int)) : km_Mm := km_sr (km_sr m 67 s.1) 68 s.2
theorem kL_rng {arc : Int → Int → Int → Prop} {src : Int → Prop} {c : Int} {s : Int → Int} (L : kw_L arc src c s) (c0 : 0 ≤ c) (c1 : c < 1000) {v : Int} (v0 : 0 ≤ v) (v1 : v < 6) : -1000000 ≤ s v ∧ s v ≤ 1000000 := by
  rcases (L v v0 v1).1 with z | z
  · omega
  · omega
theorem r_tryFlight {q : Nat × Int × Int × Int × Int} {c s : Nat} {m : km_Mm} {st : (Int → Int) × (Int → Int)} {l i : Int} (hf : kf_cl m) (i0 : 0 ≤ i) (i1 : i < m 59 0) (hd : m 62 i ≤ l) (hr : ∀ v : Int, 0 ≤ v → v < 6 → -1000000 ≤ st.1 v ∧ st.1 v ≤ 1000000) (Q : Option km_V → km_Al → km_Mm → Prop) :
    km_E M_X2_tryFlight [.inr (.inr 59), .inl i] (km_A0 q c s) (kf_s m st) Q ↔ Q (some (.inl (@ite Int (kw_h (m 60) (m 61) (m 64) (kf_e1 m l) (kf_e2 m l) i st) (Classical.propDecidable _) 1 0))) (km_A0 q c s) (kf_s m (kw_s (m 60) (m 61) (m 64) (kf_e1 m l) (kf_e2 m l) i st)) := by
  obtain ⟨a, b, d, e⟩ := hf.2 i i0 i1
  have f0 := hf.1
  have ra := hr _ a.1 a.2
  have rb := hr _ b.1 b.2
  have x1 : kf_e1 m l i = true ↔ m 66 i < m 63 i := by unfold kf_e1; simp [hd]
  have x2 : kf_e2 m l i = true ↔ 0 < m 66 i := by unfold kf_e2; simp [hd]
  have i14 : i < 14 := by omega
  rw [e_X2_tryFlight]
  unfold kf_s kw_h kw_s
  by_cases z1 : kf_e1 m l i = true ∧ st.1 (m 60 i) < 1000000 ∧ st.1 (m 60 i) + m 64 i < st.1 (m 61 i)
  · rw [if_pos z1, if_pos (Or.inl z1)]
    have t1 := x1.mp z1.1
    have t2 := z1.2
    simp (config := { decide := true }) (disch := first | decide | assumption | omega | (simp (config := { decide := true }) only [km_sr_sf, km_sr_of, km_up_of, km_up_o, km_upx_i, km_upx_s, km_fl2_o, ne_eq, not_true_eq_false, not_false_eq_true] <;> omega) | fail) only [g_X2_tryFlight, ka_lt, ka_le, ka_nlt, ka_nle, ka_ne, ka_eq, Int.add_sub_cancel, true_or, or_true, false_or, or_false, false_and, and_false, if_true, if_false, ka_lo, ka_hi, ka_nn, km_sr_sf, km_sr_of, km_up_of, km_sr_us, km_sr_uo, km_sr_sr, km_sr_fl, km_sr_flo, km_up_up, km_up_lt, km_lay, km_unL, km_up_o, km_upx_i, km_upx_s, km_fl2_o, km_is, Option.some.injEq, Sum.inl.injEq, Sum.inr.injEq, Option.toList_some, Option.toList_none, List.cons_append, List.nil_append, ne_eq, true_and, and_true, and_self, not_true_eq_false, not_false_eq_true, true_implies, false_implies, reduceCtorEq]
  · rw [if_neg z1]
    have nz1 : ¬ (m 66 i < m 63 i ∧ st.1 (m 60 i) < 1000000 ∧ st.1 (m 60 i) + m 64 i < st.1 (m 61 i)) := fun w => z1 ⟨x1.mpr w.1, w.2⟩
    by_cases z2 : kf_e2 m l i = true ∧ st.1 (m 61 i) < 1000000 ∧ st.1 (m 61 i) - m 64 i < st.1 (m 60 i)
    · rw [if_pos z2, if_pos (Or.inr z2)]
      have t1 := x2.mp z2.1
      have t2 := z2.2
      by_cases w1 : st.1 (m 60 i) < 1000000
      · by_cases w2 : m 66 i < m 63 i
        · simp (config := { decide := true }) (disch := first | decide | assumption | omega | (simp (config := { decide := true }) only [km_sr_sf, km_sr_of, km_up_of, km_up_o, km_upx_i, km_upx_s, km_fl2_o, ne_eq, not_true_eq_false, not_false_eq_true] <;> omega) | fail) only [g_X2_tryFlight, ka_lt, ka_le, ka_nlt, ka_nle, ka_ne, ka_eq, Int.add_sub_cancel, true_or, or_true, false_or, or_false, false_and, and_false, if_true, if_false, ka_lo, ka_hi, ka_nn, km_sr_sf, km_sr_of, km_up_of, km_sr_us, km_sr_uo, km_sr_sr, km_sr_fl, km_sr_flo, km_up_up, km_up_lt, km_lay, km_unL, km_up_o, km_upx_i, km_upx_s, km_fl2_o, km_is, Option.some.injEq, Sum.inl.injEq, Sum.inr.injEq, Option.toList_some, Option.toList_none, List.cons_append, List.nil_append, ne_eq, true_and, and_true, and_self, not_true_eq_false, not_false_eq_true, true_implies, false_implies, reduceCtorEq]
        · simp (config := { decide := true }) (disch := first | decide | assumption | omega | (simp (config := { decide := true }) only [km_sr_sf, km_sr_of, km_up_of, km_up_o, km_upx_i, km_upx_s, km_fl2_o, ne_eq, not_true_eq_false, not_false_eq_true] <;> omega) | fail) only [g_X2_tryFlight, ka_lt, ka_le, ka_nlt, ka_nle, ka_ne, ka_eq, Int.add_sub_cancel, true_or, or_true, false_or, or_false, false_and, and_false, if_true, if_false, ka_lo, ka_hi, ka_nn, km_sr_sf, km_sr_of, km_up_of, km_sr_us, km_sr_uo, km_sr_sr, km_sr_fl, km_sr_flo, km_up_up, km_up_lt, km_lay, km_unL, km_up_o, km_upx_i, km_upx_s, km_fl2_o, km_is, Option.some.injEq, Sum.inl.injEq, Sum.inr.injEq, Option.toList_some, Option.toList_none, List.cons_append, List.nil_append, ne_eq, true_and, and_true, and_self, not_true_eq_false, not_false_eq_true, true_implies, false_implies, reduceCtorEq]
      · simp (config := { decide := true }) (disch := first | decide | assumption | omega | (simp (config := { decide := true }) only [km_sr_sf, km_sr_of, km_up_of, km_up_o, km_upx_i, km_upx_s, km_fl2_o, ne_eq, not_true_eq_false, not_false_eq_true] <;> omega) | fail) only [g_X2_tryFlight, ka_lt, ka_le, ka_nlt, ka_nle, ka_ne, ka_eq, Int.add_sub_cancel, true_or, or_true, false_or, or_false, false_and, and_false, if_true, if_false, ka_lo, ka_hi, ka_nn, km_sr_sf, km_sr_of, km_up_of, km_sr_us, km_sr_uo, km_sr_sr, km_sr_fl, km_sr_flo, km_up_up, km_up_lt, km_lay, km_unL, km_up_o, km_upx_i, km_upx_s, km_fl2_o, km_is, Option.some.injEq, Sum.inl.injEq, Sum.inr.injEq, Option.toList_some, Option.toList_none, List.cons_append, List.nil_append, ne_eq, true_and, and_true, and_self, not_true_eq_false, not_false_eq_true, true_implies, false_implies, reduceCtorEq]
    · rw [if_neg z2, if_neg (fun w => w.elim z1 z2)]
      have nz2 : ¬ (0 < m 66 i ∧ st.1 (m 61 i) < 1000000 ∧ st.1 (m 61 i) - m 64 i < st.1 (m 60 i)) := fun w => z2 ⟨x2.mpr w.1, w.2⟩
      by_cases w1 : st.1 (m 60 i) < 1000000
      · by_cases w2 : m 66 i < m 63 i
        · by_cases w3 : st.1 (m 61 i) < 1000000
          · by_cases w4 : 0 < m 66 i <;> simp (config := { decide := true }) (disch := first | decide | assumption | omega | (simp (config := { decide := true }) only [km_sr_sf, km_sr_of, km_up_of, km_up_o, km_upx_i, km_upx_s, km_fl2_o, ne_eq, not_true_eq_false, not_false_eq_true] <;> omega) | fail) only [g_X2_tryFlight, ka_lt, ka_le, ka_nlt, ka_nle, ka_ne, ka_eq, Int.add_sub_cancel, true_or, or_true, false_or, or_false, false_and, and_false, if_true, if_false, ka_lo, ka_hi, ka_nn, km_sr_sf, km_sr_of, km_up_of, km_sr_us, km_sr_uo, km_sr_sr, km_sr_fl, km_sr_flo, km_up_up, km_up_lt, km_lay, km_unL, km_up_o, km_upx_i, km_upx_s, km_fl2_o, km_is, Option.some.injEq, Sum.inl.injEq, Sum.inr.injEq, Option.toList_some, Option.toList_none, List.cons_append, List.nil_append, ne_eq, true_and, and_true, and_self, not_true_eq_false, not_false_eq_true, true_implies, false_implies, reduceCtorEq]
          · simp (config := { decide := true }) (disch := first | decide | assumption | omega | (simp (config := { decide := true }) only [km_sr_sf, km_sr_of, km_up_of, km_up_o, km_upx_i, km_upx_s, km_fl2_o, ne_eq, not_true_eq_false, not_false_eq_true] <;> omega) | fail) only [g_X2_tryFlight, ka_lt, ka_le, ka_nlt, ka_nle, ka_ne, ka_eq, Int.add_sub_cancel, true_or, or_true, false_or, or_false, false_and, and_false, if_true, if_false, ka_lo, ka_hi, ka_nn, km_sr_sf, km_sr_of, km_up_of, km_sr_us, km_sr_uo, km_sr_sr, km_sr_fl, km_sr_flo, km_up_up, km_up_lt, km_lay, km_unL, km_up_o, km_upx_i, km_upx_s, km_fl2_o, km_is, Option.some.injEq, Sum.inl.injEq, Sum.inr.injEq, Option.toList_some, Option.toList_none, List.cons_append, List.nil_append, ne_eq, true_and, and_true, and_self, not_true_eq_false, not_false_eq_true, true_implies, false_implies, reduceCtorEq]
        · by_cases w3 : st.1 (m 61 i) < 1000000
          · by_cases w4 : 0 < m 66 i <;> simp (config := { decide := true }) (disch := first | decide | assumption | omega | (simp (config := { decide := true }) only [km_sr_sf, km_sr_of, km_up_of, km_up_o, km_upx_i, km_upx_s, km_fl2_o, ne_eq, not_true_eq_false, not_false_eq_true] <;> omega) | fail) only [g_X2_tryFlight, ka_lt, ka_le, ka_nlt, ka_nle, ka_ne, ka_eq, Int.add_sub_cancel, true_or, or_true, false_or, or_false, false_and, and_false, if_true, if_false, ka_lo, ka_hi, ka_nn, km_sr_sf, km_sr_of, km_up_of, km_sr_us, km_sr_uo, km_sr_sr, km_sr_fl, km_sr_flo, km_up_up, km_up_lt, km_lay, km_unL, km_up_o, km_upx_i, km_upx_s, km_fl2_o, km_is, Option.some.injEq, Sum.inl.injEq, Sum.inr.injEq, Option.toList_some, Option.toList_none, List.cons_append, List.nil_append, ne_eq, true_and, and_true, and_self, not_true_eq_false, not_false_eq_true, true_implies, false_implies, reduceCtorEq]
          · simp (config := { decide := true }) (disch := first | decide | assumption | omega | (simp (config := { decide := true }) only [km_sr_sf, km_sr_of, km_up_of, km_up_o, km_upx_i, km_upx_s, km_fl2_o, ne_eq, not_true_eq_false, not_false_eq_true] <;> omega) | fail) only [g_X2_tryFlight, ka_lt, ka_le, ka_nlt, ka_nle, ka_ne, ka_eq, Int.add_sub_cancel, true_or, or_true, false_or, or_false, false_and, and_false, if_true, if_false, ka_lo, ka_hi, ka_nn, km_sr_sf, km_sr_of, km_up_of, km_sr_us, km_sr_uo, km_sr_sr, km_sr_fl, km_sr_flo, km_up_up, km_up_lt, km_lay, km_unL, km_up_o, km_upx_i, km_upx_s, km_fl2_o, km_is, Option.some.injEq, Sum.inl.injEq, Sum.inr.injEq, Option.toList_some, Option.toList_none, List.cons_append, List.nil_append, ne_eq, true_and, and_true, and_self, not_true_eq_false, not_false_eq_true, true_implies, false_implies, reduceCtorEq]
      · by_cases w3 : st.1 (m 61 i) < 1000000
        · by_cases w4 : 0 < m 66 i <;> simp (config := { decide := true }) (disch := first | decide | assumption | omega | (simp (config := { decide := true }) only [km_sr_sf, km_sr_of, km_up_of, km_up_o, km_upx_i, km_upx_s, km_fl2_o, ne_eq, not_true_eq_false, not_false_eq_true] <;> omega) | fail) only [g_X2_tryFlight, ka_lt, ka_le, ka_nlt, ka_nle, ka_ne, ka_eq, Int.add_sub_cancel, true_or, or_true, false_or, or_false, false_and, and_false, if_true, if_false, ka_lo, ka_hi, ka_nn, km_sr_sf, km_sr_of, km_up_of, km_sr_us, km_sr_uo, km_sr_sr, km_sr_fl, km_sr_flo, km_up_up, km_up_lt, km_lay, km_unL, km_up_o, km_upx_i, km_upx_s, km_fl2_o, km_is, Option.some.injEq, Sum.inl.injEq, Sum.inr.injEq, Option.toList_some, Option.toList_none, List.cons_append, List.nil_append, ne_eq, true_and, and_true, and_self, not_true_eq_false, not_false_eq_true, true_implies, false_implies, reduceCtorEq]
        · simp (config := { decide := true }) (disch := first | decide | assumption | omega | (simp (config := { decide := true }) only [km_sr_sf, km_sr_of, km_up_of, km_up_o, km_upx_i, km_upx_s, km_fl2_o, ne_eq, not_true_eq_false, not_false_eq_true] <;> omega) | fail) only [g_X2_tryFlight, ka_lt, ka_le, ka_nlt, ka_nle, ka_ne, ka_eq, Int.add_sub_cancel, true_or, or_true, false_or, or_false, false_and, and_false, if_true, if_false, ka_lo, ka_hi, ka_nn, km_sr_sf, km_sr_of, km_up_of, km_sr_us, km_sr_uo, km_sr_sr, km_sr_fl, km_sr_flo, km_up_up, km_up_lt, km_lay, km_unL, km_up_o, km_upx_i, km_upx_s, km_fl2_o, km_is, Option.some.injEq, Sum.inl.injEq, Sum.inr.injEq, Option.toList_some, Option.toList_none, List.cons_append, List.nil_append, ne_eq, true_and, and_true, and_self, not_true_eq_false, not_false_eq_true, true_implies, false_implies, reduceCtorEq]
theorem cl_way63 {q : Nat × Int × Int × Int × Int} {c s : Nat} {m : km_Mm} {l g rd : Int} {src : Int → Prop} (hf : kf_cl m) (hrd : 0 ≤ rd ∧ rd < 6) (Q : Option km_V → km_Al → km_Mm → Prop) : ∀ (k : Nat) (i cc : Int) (P : Prop) (st : (Int → Int) × (Int → Int)), 0 ≤ i → i + k = m 59 0 → 0 ≤ cc → cc + k < 1000 → kw_L (kw_arc (m 60) (m 61) (m 64) (kf_e1 m l) (kf_e2 m l) (m 59 0)) src cc st.1 →
    (km_G M_X2_findWay 63 [some (.inr (.inr 59)), some (.inl g), some (.inl l), some (.inl (@ite Int P (Classical.propDecidable _) 1 0)), some (.inl rd), some (.inl i)] [] (km_A0 q c s) (kf_s m st) Q ↔
      km_G M_X2_findWay 47 [some (.inr (.inr 59)), some (.inl g), some (.inl l), some (.inl (@ite Int (P ∨ kw_rh (m 60) (m 61) (m 64) (kf_e1 m l) (kf_e2 m l) k i st) (Classical.propDecidable _) 1 0)), some (.inl (rd + 1)), some (.inl (m 59 0))] [] (km_A0 q c s) (kf_s m (kw_r (m 60) (m 61) (m 64) (kf_e1 m l) (kf_e2 m l) k i st)) Q) := by
  have f0 := hf.1
  have r0 : ∀ st, kf_s m st 59 0 = m 59 0 := fun st => by unfold kf_s; rw [km_sr_o (by decide), km_sr_o (by decide)]
  have r62 : ∀ st, kf_s m st 62 = m 62 := fun st => by unfold kf_s; rw [km_sr_of (by decide), km_sr_of (by decide)]
  intro k
  induction k with
  | zero =>
    intro i cc P st h0 h1 h2 h3 L
    have e2 : i = m 59 0 := by omega
    subst e2
    have e : (P ∨ kw_rh (m 60) (m 61) (m 64) (kf_e1 m l) (kf_e2 m l) 0 (m 59 0) st) ↔ P := ⟨fun w => w.elim id (fun w => w.elim), Or.inl⟩
    rw [@km_ite_iff _ _ _ (Classical.propDecidable _) _ _ e, g_X2_findWay_63]
    simp (config := { decide := true }) (disch := first | decide | assumption | omega | (simp (config := { decide := true }) only [km_sr_sf, km_sr_of, km_up_of, km_up_o, km_upx_i, km_upx_s, km_fl2_o, ne_eq, not_true_eq_false, not_false_eq_true] <;> omega) | fail) only [g_X2_findWay, r0, Int.le_refl, kw_r, Int.add_sub_cancel, true_or, or_true, false_or, or_false, false_and, and_false, if_true, if_false, ka_lo, ka_hi, ka_nn, km_sr_sf, km_sr_of, km_up_of, km_sr_us, km_sr_uo, km_sr_sr, km_sr_fl, km_sr_flo, km_up_up, km_up_lt, km_lay, km_unL, km_up_o, km_upx_i, km_upx_s, km_fl2_o, km_is, Option.some.injEq, Sum.inl.injEq, Sum.inr.injEq, Option.toList_some, Option.toList_none, List.cons_append, List.nil_append, ne_eq, true_and, and_true, and_self, not_true_eq_false, not_false_eq_true, true_implies, false_implies, reduceCtorEq]
  | succ k ih =>
    intro i cc P st h0 h1 h2 h3 L
    have e3 : ¬ m 59 0 ≤ i := by omega
    by_cases z : m 62 i ≤ l
    · have rt := fun Q => @r_tryFlight q c s m st l i hf h0 (by omega) z (fun v v0 v1 => kL_rng L h2 (by omega) v0 v1) Q
      have L1 := (kw_s_L (kf_cl_ok hf) h2 (by omega) h0 (by omega : i < m 59 0) L).1
      have i1 := ih (i + 1) (cc + 1) (P ∨ kw_h (m 60) (m 61) (m 64) (kf_e1 m l) (kf_e2 m l) i st) (kw_s (m 60) (m 61) (m 64) (kf_e1 m l) (kf_e2 m l) i st) (by omega) (by omega) (by omega) (by omega) L1
      have assoc : ((P ∨ kw_h (m 60) (m 61) (m 64) (kf_e1 m l) (kf_e2 m l) i st) ∨ kw_rh (m 60) (m 61) (m 64) (kf_e1 m l) (kf_e2 m l) k (i + 1) (kw_s (m 60) (m 61) (m 64) (kf_e1 m l) (kf_e2 m l) i st)) ↔ (P ∨ kw_rh (m 60) (m 61) (m 64) (kf_e1 m l) (kf_e2 m l) (k + 1) i st) := by
        show _ ↔ (P ∨ (kw_h _ _ _ _ _ _ _ ∨ kw_rh _ _ _ _ _ _ _ _)); exact or_assoc
      rw [@km_ite_iff _ _ _ (Classical.propDecidable _) _ _ assoc] at i1
      unfold kw_r
      rw [← i1, g_X2_findWay_63]
      by_cases w : kw_h (m 60) (m 61) (m 64) (kf_e1 m l) (kf_e2 m l) i st
      · rw [if_pos (Or.inr w)]
        simp (config := { decide := true }) (disch := first | decide | assumption | omega | (simp (config := { decide := true }) only [km_sr_sf, km_sr_of, km_up_of, km_up_o, km_upx_i, km_upx_s, km_fl2_o, ne_eq, not_true_eq_false, not_false_eq_true] <;> omega) | fail) only [g_X2_findWay, r0, r62, e3, z, rt, w, ka_lt, ka_le, ka_nlt, ka_nle, ka_ne, ka_eq, Int.add_sub_cancel, true_or, or_true, false_or, or_false, false_and, and_false, if_true, if_false, ka_lo, ka_hi, ka_nn, km_sr_sf, km_sr_of, km_up_of, km_sr_us, km_sr_uo, km_sr_sr, km_sr_fl, km_sr_flo, km_up_up, km_up_lt, km_lay, km_unL, km_up_o, km_upx_i, km_upx_s, km_fl2_o, km_is, Option.some.injEq, Sum.inl.injEq, Sum.inr.injEq, Option.toList_some, Option.toList_none, List.cons_append, List.nil_append, ne_eq, true_and, and_true, and_self, not_true_eq_false, not_false_eq_true, true_implies, false_implies, reduceCtorEq]
      · have e : (P ∨ kw_h (m 60) (m 61) (m 64) (kf_e1 m l) (kf_e2 m l) i st) ↔ P := ⟨fun x => x.elim id (fun x => absurd x w), Or.inl⟩
        rw [@km_ite_iff _ _ _ (Classical.propDecidable _) _ _ e]
        simp (config := { decide := true }) (disch := first | decide | assumption | omega | (simp (config := { decide := true }) only [km_sr_sf, km_sr_of, km_up_of, km_up_o, km_upx_i, km_upx_s, km_fl2_o, ne_eq, not_true_eq_false, not_false_eq_true] <;> omega) | fail) only [g_X2_findWay, r0, r62, e3, z, rt, w, ka_lt, ka_le, ka_nlt, ka_nle, ka_ne, ka_eq, Int.add_sub_cancel, true_or, or_true, false_or, or_false, false_and, and_false, if_true, if_false, ka_lo, ka_hi, ka_nn, km_sr_sf, km_sr_of, km_up_of, km_sr_us, km_sr_uo, km_sr_sr, km_sr_fl, km_sr_flo, km_up_up, km_up_lt, km_lay, km_unL, km_up_o, km_upx_i, km_upx_s, km_fl2_o, km_is, Option.some.injEq, Sum.inl.injEq, Sum.inr.injEq, Option.toList_some, Option.toList_none, List.cons_append, List.nil_append, ne_eq, true_and, and_true, and_self, not_true_eq_false, not_false_eq_true, true_implies, false_implies, reduceCtorEq]
    · have n1 : kf_e1 m l i = false := by unfold kf_e1; simp [z]
      have n2 : kf_e2 m l i = false := by unfold kf_e2; simp [z]
      have nh : ¬ kw_h (m 60) (m 61) (m 64) (kf_e1 m l) (kf_e2 m l) i st := by unfold kw_h; rw [n1, n2]; simp
      have i1 := ih (i + 1) cc P st (by omega) (by omega) h2 (by omega) L
      have same : (P ∨ kw_rh (m 60) (m 61) (m 64) (kf_e1 m l) (kf_e2 m l) k (i + 1) st) ↔ (P ∨ kw_rh (m 60) (m 61) (m 64) (kf_e1 m l) (kf_e2 m l) (k + 1) i st) := by
        show _ ↔ (P ∨ (kw_h _ _ _ _ _ _ _ ∨ kw_rh _ _ _ _ _ _ _ _))
        rw [kw_s_no nh]
        exact ⟨fun x => x.imp id Or.inr, fun x => x.imp id (fun x => x.elim (fun x => absurd x nh) id)⟩
      rw [@km_ite_iff _ _ _ (Classical.propDecidable _) _ _ same] at i1
      unfold kw_r
      rw [kw_s_no nh, ← i1, g_X2_findWay_63]
      simp (config := { decide := true }) (disch := first | decide | assumption | omega | (simp (config := { decide := true }) only [km_sr_sf, km_sr_of, km_up_of, km_up_o, km_upx_i, km_upx_s, km_fl2_o, ne_eq, not_true_eq_false, not_false_eq_true] <;> omega) | fail) only [g_X2_findWay, r0, r62, e3, z, ka_lt, ka_le, ka_nlt, ka_nle, ka_ne, ka_eq, Int.add_sub_cancel, true_or, or_true, false_or, or_false, false_and, and_false, if_true, if_false, ka_lo, ka_hi, ka_nn, km_sr_sf, km_sr_of, km_up_of, km_sr_us, km_sr_uo, km_sr_sr, km_sr_fl, km_sr_flo, km_up_up, km_up_lt, km_lay, km_unL, km_up_o, km_upx_i, km_upx_s, km_fl2_o, km_is, Option.some.injEq, Sum.inl.injEq, Sum.inr.injEq, Option.toList_some, Option.toList_none, List.cons_append, List.nil_append, ne_eq, true_and, and_true, and_self, not_true_eq_false, not_false_eq_true, true_implies, false_implies, reduceCtorEq]
theorem cl_way47 {q : Nat × Int × Int × Int × Int} {c s : Nat} {m : km_Mm} {l g : Int} {src : Int → Prop} (hf : kf_cl m) (hg : 0 ≤ g ∧ g < 6) (Q : Option km_V → km_Al → km_Mm → Prop) : ∀ (k : Nat) (rd : Int) (P : Prop) (st : (Int → Int) × (Int → Int)) (o5 : Option km_V), 0 ≤ rd → rd + k = 6 → kw_L (kw_arc (m 60) (m 61) (m 64) (kf_e1 m l) (kf_e2 m l) (m 59 0)) src (m 59 0 * rd) st.1 →
    (km_G M_X2_findWay 47 [some (.inr (.inr 59)), some (.inl g), some (.inl l), some (.inl (@ite Int P (Classical.propDecidable _) 1 0)), some (.inl rd), o5] [] (km_A0 q c s) (kf_s m st) Q ↔
      Q (some (.inl (if (@ite _ P (Classical.propDecidable _) (kw_w (m 60) (m 61) (m 64) (kf_e1 m l) (kf_e2 m l) (m 59 0) k st) st).1 g < 1000000 then 1 else 0))) (km_A0 q c s) (kf_s m (@ite _ P (Classical.propDecidable _) (kw_w (m 60) (m 61) (m 64) (kf_e1 m l) (kf_e2 m l) (m 59 0) k st) st))) := by
  have f0 := hf.1
  have r67 : ∀ st, kf_s m st 67 = st.1 := fun st => by unfold kf_s; rw [km_sr_of (by decide), km_sr_sf]
  have stop : ∀ (rd : Int) (P : Prop) (st : (Int → Int) × (Int → Int)) (o5 : Option km_V), (6 ≤ rd ∨ ¬ P) → (km_G M_X2_findWay 47 [some (.inr (.inr 59)), some (.inl g), some (.inl l), some (.inl (@ite Int P (Classical.propDecidable _) 1 0)), some (.inl rd), o5] [] (km_A0 q c s) (kf_s m st) Q ↔ Q (some (.inl (if st.1 g < 1000000 then 1 else 0))) (km_A0 q c s) (kf_s m st)) := by
    intro rd P st o5 h
    rw [g_X2_findWay_47]
    by_cases z : st.1 g < 1000000
    · by_cases y : 6 ≤ rd
      · simp (config := { decide := true }) (disch := first | decide | assumption | omega | (simp (config := { decide := true }) only [km_sr_sf, km_sr_of, km_up_of, km_up_o, km_upx_i, km_upx_s, km_fl2_o, ne_eq, not_true_eq_false, not_false_eq_true] <;> omega) | fail) only [g_X2_findWay, y, r67, hg.1, hg.2, z, ka_lt, ka_le, ka_nlt, ka_nle, ka_ne, ka_eq, Int.add_sub_cancel, true_or, or_true, false_or, or_false, false_and, and_false, if_true, if_false, ka_lo, ka_hi, ka_nn, km_sr_sf, km_sr_of, km_up_of, km_sr_us, km_sr_uo, km_sr_sr, km_sr_fl, km_sr_flo, km_up_up, km_up_lt, km_lay, km_unL, km_up_o, km_upx_i, km_upx_s, km_fl2_o, km_is, Option.some.injEq, Sum.inl.injEq, Sum.inr.injEq, Option.toList_some, Option.toList_none, List.cons_append, List.nil_append, ne_eq, true_and, and_true, and_self, not_true_eq_false, not_false_eq_true, true_implies, false_implies, reduceCtorEq]
      · have p := h.resolve_left y
        rw [if_neg p]
        simp (config := { decide := true }) (disch := first | decide | assumption | omega | (simp (config := { decide := true }) only [km_sr_sf, km_sr_of, km_up_of, km_up_o, km_upx_i, km_upx_s, km_fl2_o, ne_eq, not_true_eq_false, not_false_eq_true] <;> omega) | fail) only [g_X2_findWay, y, r67, hg.1, hg.2, z, ka_lt, ka_le, ka_nlt, ka_nle, ka_ne, ka_eq, Int.add_sub_cancel, true_or, or_true, false_or, or_false, false_and, and_false, if_true, if_false, ka_lo, ka_hi, ka_nn, km_sr_sf, km_sr_of, km_up_of, km_sr_us, km_sr_uo, km_sr_sr, km_sr_fl, km_sr_flo, km_up_up, km_up_lt, km_lay, km_unL, km_up_o, km_upx_i, km_upx_s, km_fl2_o, km_is, Option.some.injEq, Sum.inl.injEq, Sum.inr.injEq, Option.toList_some, Option.toList_none, List.cons_append, List.nil_append, ne_eq, true_and, and_true, and_self, not_true_eq_false, not_false_eq_true, true_implies, false_implies, reduceCtorEq]
    · by_cases y : 6 ≤ rd
      · simp (config := { decide := true }) (disch := first | decide | assumption | omega | (simp (config := { decide := true }) only [km_sr_sf, km_sr_of, km_up_of, km_up_o, km_upx_i, km_upx_s, km_fl2_o, ne_eq, not_true_eq_false, not_false_eq_true] <;> omega) | fail) only [g_X2_findWay, y, r67, hg.1, hg.2, z, ka_lt, ka_le, ka_nlt, ka_nle, ka_ne, ka_eq, Int.add_sub_cancel, true_or, or_true, false_or, or_false, false_and, and_false, if_true, if_false, ka_lo, ka_hi, ka_nn, km_sr_sf, km_sr_of, km_up_of, km_sr_us, km_sr_uo, km_sr_sr, km_sr_fl, km_sr_flo, km_up_up, km_up_lt, km_lay, km_unL, km_up_o, km_upx_i, km_upx_s, km_fl2_o, km_is, Option.some.injEq, Sum.inl.injEq, Sum.inr.injEq, Option.toList_some, Option.toList_none, List.cons_append, List.nil_append, ne_eq, true_and, and_true, and_self, not_true_eq_false, not_false_eq_true, true_implies, false_implies, reduceCtorEq]
      · have p := h.resolve_left y
        rw [if_neg p]
        simp (config := { decide := true }) (disch := first | decide | assumption | omega | (simp (config := { decide := true }) only [km_sr_sf, km_sr_of, km_up_of, km_up_o, km_upx_i, km_upx_s, km_fl2_o, ne_eq, not_true_eq_false, not_false_eq_true] <;> omega) | fail) only [g_X2_findWay, y, r67, hg.1, hg.2, z, ka_lt, ka_le, ka_nlt, ka_nle, ka_ne, ka_eq, Int.add_sub_cancel, true_or, or_true, false_or, or_false, false_and, and_false, if_true, if_false, ka_lo, ka_hi, ka_nn, km_sr_sf, km_sr_of, km_up_of, km_sr_us, km_sr_uo, km_sr_sr, km_sr_fl, km_sr_flo, km_up_up, km_up_lt, km_lay, km_unL, km_up_o, km_upx_i, km_upx_s, km_fl2_o, km_is, Option.some.injEq, Sum.inl.injEq, Sum.inr.injEq, Option.toList_some, Option.toList_none, List.cons_append, List.nil_append, ne_eq, true_and, and_true, and_self, not_true_eq_false, not_false_eq_true, true_implies, false_implies, reduceCtorEq]
  intro k
  induction k with
  | zero =>
    intro rd P st o5 h0 h1 L
    have e : (@ite _ P (Classical.propDecidable _) (kw_w (m 60) (m 61) (m 64) (kf_e1 m l) (kf_e2 m l) (m 59 0) 0 st) st) = st := by
      by_cases p : P
      · rw [if_pos p]; rfl
      · rw [if_neg p]
    rw [e]
    exact stop rd P st o5 (Or.inl (by omega))
  | succ k ih =>
    intro rd P st o5 h0 h1 L
    by_cases p : P
    · rw [if_pos p]
      have y : ¬ 6 ≤ rd := by omega
      have bn : m 59 0 * rd ≤ 14 * rd := Int.mul_le_mul_of_nonneg_right f0.2 h0
      have b0 : 0 ≤ m 59 0 * rd := Int.mul_nonneg f0.1 h0
      have w63 := @cl_way63 q c s m l g rd src hf ⟨h0, by omega⟩ Q (m 59 0).toNat 0 (m 59 0 * rd) False st (by omega) (by omega) b0 (by omega) L
      have L1 := (kw_r_L (kf_cl_ok hf) (m 59 0).toNat 0 (m 59 0 * rd) st (by omega) (by omega) b0 (by omega) L).1
      have en : m 59 0 * (rd + 1) = m 59 0 * rd + ((m 59 0).toNat : Int) := by rw [Int.mul_add, Int.mul_one]; omega
      rw [← en] at L1
      have i1 := ih (rd + 1) (kw_rh (m 60) (m 61) (m 64) (kf_e1 m l) (kf_e2 m l) (m 59 0).toNat 0 st) _ (some (.inl (m 59 0))) (by omega) (by omega) L1
      have nf : (False ∨ kw_rh (m 60) (m 61) (m 64) (kf_e1 m l) (kf_e2 m l) (m 59 0).toNat 0 st) ↔ kw_rh (m 60) (m 61) (m 64) (kf_e1 m l) (kf_e2 m l) (m 59 0).toNat 0 st := ⟨fun x => x.elim (fun x => x.elim) id, Or.inr⟩
      rw [@km_ite_iff _ _ _ (Classical.propDecidable _) _ _ nf, if_neg (fun x => x)] at w63
      have ew : kw_w (m 60) (m 61) (m 64) (kf_e1 m l) (kf_e2 m l) (m 59 0) (k + 1) st = @ite _ (kw_rh (m 60) (m 61) (m 64) (kf_e1 m l) (kf_e2 m l) (m 59 0).toNat 0 st) (Classical.propDecidable _) (kw_w (m 60) (m 61) (m 64) (kf_e1 m l) (kf_e2 m l) (m 59 0) k (kw_r (m 60) (m 61) (m 64) (kf_e1 m l) (kf_e2 m l) (m 59 0).toNat 0 st)) (kw_r (m 60) (m 61) (m 64) (kf_e1 m l) (kf_e2 m l) (m 59 0).toNat 0 st) := by
        rw [kw_w]
        by_cases z : kw_rh (m 60) (m 61) (m 64) (kf_e1 m l) (kf_e2 m l) (m 59 0).toNat 0 st
        · rw [if_pos z, if_pos z]
        · rw [if_neg z, if_neg z, kw_rh_no _ _ _ z]
      rw [if_pos p, ew, ← i1, ← w63, g_X2_findWay_47]
      simp (config := { decide := true }) (disch := first | decide | assumption | omega | (simp (config := { decide := true }) only [km_sr_sf, km_sr_of, km_up_of, km_up_o, km_upx_i, km_upx_s, km_fl2_o, ne_eq, not_true_eq_false, not_false_eq_true] <;> omega) | fail) only [g_X2_findWay, y, ka_lt, ka_le, ka_nlt, ka_nle, ka_ne, ka_eq, Int.add_sub_cancel, true_or, or_true, false_or, or_false, false_and, and_false, if_true, if_false, ka_lo, ka_hi, ka_nn, km_sr_sf, km_sr_of, km_up_of, km_sr_us, km_sr_uo, km_sr_sr, km_sr_fl, km_sr_flo, km_up_up, km_up_lt, km_lay, km_unL, km_up_o, km_upx_i, km_upx_s, km_fl2_o, km_is, Option.some.injEq, Sum.inl.injEq, Sum.inr.injEq, Option.toList_some, Option.toList_none, List.cons_append, List.nil_append, ne_eq, true_and, and_true, and_self, not_true_eq_false, not_false_eq_true, true_implies, false_implies, reduceCtorEq]
    · rw [if_neg p]
      have := stop rd P st o5 (Or.inr p)
      rw [if_neg p] at this
      rw [this, if_neg p]

