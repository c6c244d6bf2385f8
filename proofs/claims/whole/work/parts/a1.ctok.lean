/-! ===== tokens in the class ===== -/
theorem km_up_id {m : km_Mm} {a i : Int} : km_up m a i (m a i) = m := by
  funext b j; unfold km_up; by_cases h : b = a <;> by_cases k : j = i <;> simp [h, k]
theorem sp_isLetter {q : Nat × Int × Int × Int × Int} {c s : Nat} {m : km_Mm} {x : Int} : km_E M_X10_isLetter [.inl x] (km_A0 q c s) m (km_is (some (.inl (if 97 ≤ x ∧ x ≤ 122 then 1 else 0))) (km_A0 q c s) (m)) := by
  rw [km_E.of (by decide)]
  show km_G M_X10_isLetter 0 [some (.inl x)] [] (km_A0 q c s) m _
  simp (config := { decide := true }) (disch := first | decide | assumption | omega | (simp (config := { decide := true }) only [km_sr_sf, km_sr_of, km_up_of, km_up_o, km_upx_i, km_upx_s, km_fl2_o, ne_eq, not_true_eq_false, not_false_eq_true] <;> omega) | fail) only [g_X10_isLetter, Int.add_sub_cancel, true_or, or_true, false_or, or_false, false_and, and_false, if_true, if_false, ka_lo, ka_hi, ka_nn, km_sr_sf, km_sr_of, km_up_of, km_sr_us, km_sr_uo, km_sr_sr, km_sr_fl, km_sr_flo, km_up_up, km_up_lt, km_lay, km_unL, km_up_o, km_upx_i, km_upx_s, km_fl2_o, km_is, Option.some.injEq, Sum.inl.injEq, Sum.inr.injEq, Option.toList_some, Option.toList_none, List.cons_append, List.nil_append, ne_eq, true_and, and_true, and_self, not_true_eq_false, not_false_eq_true, true_implies, false_implies, reduceCtorEq]
  by_cases a : 97 ≤ x <;> by_cases b : x ≤ 122 <;> simp (config := { decide := true }) (disch := first | decide | assumption | omega | (simp (config := { decide := true }) only [km_sr_sf, km_sr_of, km_up_of, km_up_o, km_upx_i, km_upx_s, km_fl2_o, ne_eq, not_true_eq_false, not_false_eq_true] <;> omega) | fail) only [a, b, ka_lt, ka_le, ka_nlt, ka_nle, ka_ne, ka_eq, Int.add_sub_cancel, true_or, or_true, false_or, or_false, false_and, and_false, if_true, if_false, ka_lo, ka_hi, ka_nn, km_sr_sf, km_sr_of, km_up_of, km_sr_us, km_sr_uo, km_sr_sr, km_sr_fl, km_sr_flo, km_up_up, km_up_lt, km_lay, km_unL, km_up_o, km_upx_i, km_upx_s, km_fl2_o, km_is, Option.some.injEq, Sum.inl.injEq, Sum.inr.injEq, Option.toList_some, Option.toList_none, List.cons_append, List.nil_append, ne_eq, true_and, and_true, and_self, not_true_eq_false, not_false_eq_true, true_implies, false_implies, reduceCtorEq]
theorem r_isLetter {q : Nat × Int × Int × Int × Int} {c s : Nat} {m : km_Mm} {x : Int} (Q : Option km_V → km_Al → km_Mm → Prop) : km_E M_X10_isLetter [.inl x] (km_A0 q c s) m Q ↔ Q (some (.inl (if 97 ≤ x ∧ x ≤ 122 then 1 else 0))) (km_A0 q c s) (m) := km_E.rule (sp_isLetter ) Q
theorem sp_isDigitc {q : Nat × Int × Int × Int × Int} {c s : Nat} {m : km_Mm} {x : Int} : km_E M_X10_isDigit [.inl x] (km_A0 q c s) m (km_is (some (.inl (if 48 ≤ x ∧ x ≤ 57 then 1 else 0))) (km_A0 q c s) (m)) := by
  rw [km_E.of (by decide)]
  show km_G M_X10_isDigit 0 [some (.inl x)] [] (km_A0 q c s) m _
  simp (config := { decide := true }) (disch := first | decide | assumption | omega | (simp (config := { decide := true }) only [km_sr_sf, km_sr_of, km_up_of, km_up_o, km_upx_i, km_upx_s, km_fl2_o, ne_eq, not_true_eq_false, not_false_eq_true] <;> omega) | fail) only [g_X10_isDigit, Int.add_sub_cancel, true_or, or_true, false_or, or_false, false_and, and_false, if_true, if_false, ka_lo, ka_hi, ka_nn, km_sr_sf, km_sr_of, km_up_of, km_sr_us, km_sr_uo, km_sr_sr, km_sr_fl, km_sr_flo, km_up_up, km_up_lt, km_lay, km_unL, km_up_o, km_upx_i, km_upx_s, km_fl2_o, km_is, Option.some.injEq, Sum.inl.injEq, Sum.inr.injEq, Option.toList_some, Option.toList_none, List.cons_append, List.nil_append, ne_eq, true_and, and_true, and_self, not_true_eq_false, not_false_eq_true, true_implies, false_implies, reduceCtorEq]
  by_cases a : 48 ≤ x <;> by_cases b : x ≤ 57 <;> simp (config := { decide := true }) (disch := first | decide | assumption | omega | (simp (config := { decide := true }) only [km_sr_sf, km_sr_of, km_up_of, km_up_o, km_upx_i, km_upx_s, km_fl2_o, ne_eq, not_true_eq_false, not_false_eq_true] <;> omega) | fail) only [a, b, ka_lt, ka_le, ka_nlt, ka_nle, ka_ne, ka_eq, Int.add_sub_cancel, true_or, or_true, false_or, or_false, false_and, and_false, if_true, if_false, ka_lo, ka_hi, ka_nn, km_sr_sf, km_sr_of, km_up_of, km_sr_us, km_sr_uo, km_sr_sr, km_sr_fl, km_sr_flo, km_up_up, km_up_lt, km_lay, km_unL, km_up_o, km_upx_i, km_upx_s, km_fl2_o, km_is, Option.some.injEq, Sum.inl.injEq, Sum.inr.injEq, Option.toList_some, Option.toList_none, List.cons_append, List.nil_append, ne_eq, true_and, and_true, and_self, not_true_eq_false, not_false_eq_true, true_implies, false_implies, reduceCtorEq]
theorem r_isDigitc {q : Nat × Int × Int × Int × Int} {c s : Nat} {m : km_Mm} {x : Int} (Q : Option km_V → km_Al → km_Mm → Prop) : km_E M_X10_isDigit [.inl x] (km_A0 q c s) m Q ↔ Q (some (.inl (if 48 ≤ x ∧ x ≤ 57 then 1 else 0))) (km_A0 q c s) (m) := km_E.rule (sp_isDigitc ) Q
theorem r_byteAt {q : Nat × Int × Int × Int × Int} {c s : Nat} {m : km_Mm} {i : Int} (h : m 3 2 ≤ 600) (Q : Option km_V → km_Al → km_Mm → Prop) : km_E M_X10_byteAt [.inr (.inr 3), .inl i] (km_A0 q c s) m Q ↔ Q (some (.inl (if 0 ≤ i ∧ i < m 3 2 then m 4 i else -1))) (km_A0 q c s) m := by
  rw [e_X10_byteAt]
  by_cases a : 0 ≤ i
  · by_cases b : i < m 3 2
    · rw [if_pos ⟨a, b⟩]
      simp (config := { decide := true }) (disch := first | decide | assumption | omega | (simp (config := { decide := true }) only [km_sr_sf, km_sr_of, km_up_of, km_up_o, km_upx_i, km_upx_s, km_fl2_o, ne_eq, not_true_eq_false, not_false_eq_true] <;> omega) | fail) only [g_X10_byteAt, a, b, ka_lt, ka_le, ka_nlt, ka_nle, ka_ne, ka_eq, Int.add_sub_cancel, true_or, or_true, false_or, or_false, false_and, and_false, if_true, if_false, ka_lo, ka_hi, ka_nn, km_sr_sf, km_sr_of, km_up_of, km_sr_us, km_sr_uo, km_sr_sr, km_sr_fl, km_sr_flo, km_up_up, km_up_lt, km_lay, km_unL, km_up_o, km_upx_i, km_upx_s, km_fl2_o, km_is, Option.some.injEq, Sum.inl.injEq, Sum.inr.injEq, Option.toList_some, Option.toList_none, List.cons_append, List.nil_append, ne_eq, true_and, and_true, and_self, not_true_eq_false, not_false_eq_true, true_implies, false_implies, reduceCtorEq]
    · rw [if_neg (fun w => b w.2)]
      simp (config := { decide := true }) (disch := first | decide | assumption | omega | (simp (config := { decide := true }) only [km_sr_sf, km_sr_of, km_up_of, km_up_o, km_upx_i, km_upx_s, km_fl2_o, ne_eq, not_true_eq_false, not_false_eq_true] <;> omega) | fail) only [g_X10_byteAt, a, b, ka_lt, ka_le, ka_nlt, ka_nle, ka_ne, ka_eq, Int.add_sub_cancel, true_or, or_true, false_or, or_false, false_and, and_false, if_true, if_false, ka_lo, ka_hi, ka_nn, km_sr_sf, km_sr_of, km_up_of, km_sr_us, km_sr_uo, km_sr_sr, km_sr_fl, km_sr_flo, km_up_up, km_up_lt, km_lay, km_unL, km_up_o, km_upx_i, km_upx_s, km_fl2_o, km_is, Option.some.injEq, Sum.inl.injEq, Sum.inr.injEq, Option.toList_some, Option.toList_none, List.cons_append, List.nil_append, ne_eq, true_and, and_true, and_self, not_true_eq_false, not_false_eq_true, true_implies, false_implies, reduceCtorEq]
  · rw [if_neg (fun w => a w.1)]
    simp (config := { decide := true }) (disch := first | decide | assumption | omega | (simp (config := { decide := true }) only [km_sr_sf, km_sr_of, km_up_of, km_up_o, km_upx_i, km_upx_s, km_fl2_o, ne_eq, not_true_eq_false, not_false_eq_true] <;> omega) | fail) only [g_X10_byteAt, a, ka_lt, ka_le, ka_nlt, ka_nle, ka_ne, ka_eq, Int.add_sub_cancel, true_or, or_true, false_or, or_false, false_and, and_false, if_true, if_false, ka_lo, ka_hi, ka_nn, km_sr_sf, km_sr_of, km_up_of, km_sr_us, km_sr_uo, km_sr_sr, km_sr_fl, km_sr_flo, km_up_up, km_up_lt, km_lay, km_unL, km_up_o, km_upx_i, km_upx_s, km_fl2_o, km_is, Option.some.injEq, Sum.inl.injEq, Sum.inr.injEq, Option.toList_some, Option.toList_none, List.cons_append, List.nil_append, ne_eq, true_and, and_true, and_self, not_true_eq_false, not_false_eq_true, true_implies, false_implies, reduceCtorEq]
theorem lp_rw0 {q : Nat × Int × Int × Int × Int} {c s : Nat} {m : km_Mm} {n : Int} (hn : m 3 2 = n) (n6 : n ≤ 600) (Q : Option km_V → km_Al → km_Mm → Prop) : ∀ (f : Nat) (p : Int), 0 ≤ p → p ≤ n → n - p ≤ f → (km_G M_X10_readWord 0 [some (.inr (.inr 3)), none, none, none, none] [] (km_A0 q c s) (km_up m 3 3 p) Q ↔ km_G M_X10_readWord 39 [some (.inr (.inr 3)), none, none, none, none] [] (km_A0 q c s) (km_up m 3 3 (kle (m 4) n f p)) Q) := by
  intro f
  induction f with
  | zero =>
    intro p p0 pn h
    have e : ¬ p < n := by omega
    rw [g_X10_readWord_0]
    unfold kle
    simp (config := { decide := true }) (disch := first | decide | assumption | omega | (simp (config := { decide := true }) only [km_sr_sf, km_sr_of, km_up_of, km_up_o, km_upx_i, km_upx_s, km_fl2_o, ne_eq, not_true_eq_false, not_false_eq_true] <;> omega) | fail) only [g_X10_readWord, hn, e, ka_lt, ka_le, ka_nlt, ka_nle, ka_ne, ka_eq, Int.add_sub_cancel, true_or, or_true, false_or, or_false, false_and, and_false, if_true, if_false, ka_lo, ka_hi, ka_nn, km_sr_sf, km_sr_of, km_up_of, km_sr_us, km_sr_uo, km_sr_sr, km_sr_fl, km_sr_flo, km_up_up, km_up_lt, km_lay, km_unL, km_up_o, km_upx_i, km_upx_s, km_fl2_o, km_is, Option.some.injEq, Sum.inl.injEq, Sum.inr.injEq, Option.toList_some, Option.toList_none, List.cons_append, List.nil_append, ne_eq, true_and, and_true, and_self, not_true_eq_false, not_false_eq_true, true_implies, false_implies, reduceCtorEq]
  | succ f ih =>
    intro p p0 pn h
    rw [g_X10_readWord_0]
    unfold kle
    by_cases z1 : p < n
    · by_cases z2 : 97 ≤ m 4 p ∧ m 4 p ≤ 122
      · rw [if_pos ⟨z1, z2⟩, ← ih (p + 1) (by omega) (by omega) (by omega)]
        simp (config := { decide := true }) (disch := first | decide | assumption | omega | (simp (config := { decide := true }) only [km_sr_sf, km_sr_of, km_up_of, km_up_o, km_upx_i, km_upx_s, km_fl2_o, ne_eq, not_true_eq_false, not_false_eq_true] <;> omega) | fail) only [g_X10_readWord, r_isLetter, hn, z1, z2, ka_lt, ka_le, ka_nlt, ka_nle, ka_ne, ka_eq, Int.add_sub_cancel, true_or, or_true, false_or, or_false, false_and, and_false, if_true, if_false, ka_lo, ka_hi, ka_nn, km_sr_sf, km_sr_of, km_up_of, km_sr_us, km_sr_uo, km_sr_sr, km_sr_fl, km_sr_flo, km_up_up, km_up_lt, km_lay, km_unL, km_up_o, km_upx_i, km_upx_s, km_fl2_o, km_is, Option.some.injEq, Sum.inl.injEq, Sum.inr.injEq, Option.toList_some, Option.toList_none, List.cons_append, List.nil_append, ne_eq, true_and, and_true, and_self, not_true_eq_false, not_false_eq_true, true_implies, false_implies, reduceCtorEq]
      · rw [if_neg (fun w => z2 w.2)]
        simp (config := { decide := true }) (disch := first | decide | assumption | omega | (simp (config := { decide := true }) only [km_sr_sf, km_sr_of, km_up_of, km_up_o, km_upx_i, km_upx_s, km_fl2_o, ne_eq, not_true_eq_false, not_false_eq_true] <;> omega) | fail) only [g_X10_readWord, r_isLetter, hn, z1, z2, ka_lt, ka_le, ka_nlt, ka_nle, ka_ne, ka_eq, Int.add_sub_cancel, true_or, or_true, false_or, or_false, false_and, and_false, if_true, if_false, ka_lo, ka_hi, ka_nn, km_sr_sf, km_sr_of, km_up_of, km_sr_us, km_sr_uo, km_sr_sr, km_sr_fl, km_sr_flo, km_up_up, km_up_lt, km_lay, km_unL, km_up_o, km_upx_i, km_upx_s, km_fl2_o, km_is, Option.some.injEq, Sum.inl.injEq, Sum.inr.injEq, Option.toList_some, Option.toList_none, List.cons_append, List.nil_append, ne_eq, true_and, and_true, and_self, not_true_eq_false, not_false_eq_true, true_implies, false_implies, reduceCtorEq]
    · rw [if_neg (fun w => z1 w.1)]
      simp (config := { decide := true }) (disch := first | decide | assumption | omega | (simp (config := { decide := true }) only [km_sr_sf, km_sr_of, km_up_of, km_up_o, km_upx_i, km_upx_s, km_fl2_o, ne_eq, not_true_eq_false, not_false_eq_true] <;> omega) | fail) only [g_X10_readWord, hn, z1, ka_lt, ka_le, ka_nlt, ka_nle, ka_ne, ka_eq, Int.add_sub_cancel, true_or, or_true, false_or, or_false, false_and, and_false, if_true, if_false, ka_lo, ka_hi, ka_nn, km_sr_sf, km_sr_of, km_up_of, km_sr_us, km_sr_uo, km_sr_sr, km_sr_fl, km_sr_flo, km_up_up, km_up_lt, km_lay, km_unL, km_up_o, km_upx_i, km_upx_s, km_fl2_o, km_is, Option.some.injEq, Sum.inl.injEq, Sum.inr.injEq, Option.toList_some, Option.toList_none, List.cons_append, List.nil_append, ne_eq, true_and, and_true, and_self, not_true_eq_false, not_false_eq_true, true_implies, false_implies, reduceCtorEq]
theorem lp_rw54 {q : Nat × Int × Int × Int × Int} {c s : Nat} {M : km_Mm} {k e : Int} {w : Nat} (hw : w < 27) (k0 : 0 ≤ k) (ke : k ≤ e) (e6 : e ≤ 600) (h4 : M 3 4 = 1) (h3 : M 3 3 = e) : ∀ (N j : Nat) (o : Option km_V), (j : Int) + N = kwL.getD w 0 → ∃ o' : Option km_V, ∀ Q : Option km_V → km_Al → km_Mm → Prop, (km_G M_X10_readWord 54 [some (.inr (.inr 3)), some (.inl (20 + (w : Int))), some (.inl (kat (M 4) k e w j)), some (.inl (kwS.getD w 0 + (j : Int))), o] [] (km_A0 q c s) M Q ↔ km_G M_X10_readWord 54 [some (.inr (.inr 3)), some (.inl (20 + (w : Int))), some (.inl (kat (M 4) k e w (kwL.getD w 0).toNat)), some (.inl (kwS.getD w 0 + kwL.getD w 0)), o'] [] (km_A0 q c s) M Q) := by
  intro N
  obtain ⟨-, -, lw, lc⟩ := kw_tab ⟨w, hw⟩
  simp only [] at lw lc
  induction N with
  | zero =>
    intro j o h
    have e1 : (kwL.getD w 0).toNat = j := by omega
    have e2 : (j : Int) = kwL.getD w 0 := by omega
    rw [e1, ← e2]
    exact ⟨o, fun Q => Iff.rfl⟩
  | succ N ih =>
    intro j o h
    have ch := lc ⟨j, by omega⟩ (by show (j : Int) < _; omega)
    simp only [] at ch
    have kb := @kat_b (M 4) k e w ke j
    have ej : kwS.getD w 0 + ((j + 1 : Nat) : Int) = kwS.getD w 0 + (j : Int) + 1 := by omega
    have st : kat (M 4) k e w (j + 1) = if kat (M 4) k e w j < e ∧ M 4 (kat (M 4) k e w j) = km_wl.getD (kwS.getD w 0 + (j : Int)).toNat 0 then kat (M 4) k e w j + 1 else e + 1 := rfl
    generalize kat (M 4) k e w j = x at *
    have x0 : 0 ≤ x ∧ x ≤ e + 1 := by omega
    by_cases z1 : x < e
    · by_cases z2 : M 4 x = km_wl.getD (kwS.getD w 0 + (j : Int)).toNat 0
      · rw [if_pos ⟨z1, z2⟩] at st
        obtain ⟨o', i1⟩ := ih (j + 1) (some (.inl (km_wl.getD (kwS.getD w 0 + (j : Int)).toNat 0))) (by omega)
        rw [st, ej] at i1
        refine ⟨o', fun Q => ?_⟩
        rw [← i1 Q, g_X10_readWord_54]
        simp (config := { decide := true }) (disch := first | decide | assumption | omega | (simp (config := { decide := true }) only [km_sr_sf, km_sr_of, km_up_of, km_up_o, km_upx_i, km_upx_s, km_fl2_o, ne_eq, not_true_eq_false, not_false_eq_true] <;> omega) | fail) only [g_X10_readWord, h4, h3, ch, z1, z2, ka_lt, ka_le, ka_nlt, ka_nle, ka_ne, ka_eq, Int.add_sub_cancel, true_or, or_true, false_or, or_false, false_and, and_false, if_true, if_false, ka_lo, ka_hi, ka_nn, km_sr_sf, km_sr_of, km_up_of, km_sr_us, km_sr_uo, km_sr_sr, km_sr_fl, km_sr_flo, km_up_up, km_up_lt, km_lay, km_unL, km_up_o, km_upx_i, km_upx_s, km_fl2_o, km_is, Option.some.injEq, Sum.inl.injEq, Sum.inr.injEq, Option.toList_some, Option.toList_none, List.cons_append, List.nil_append, ne_eq, true_and, and_true, and_self, not_true_eq_false, not_false_eq_true, true_implies, false_implies, reduceCtorEq]
      · rw [if_neg (fun w => z2 w.2)] at st
        obtain ⟨o', i1⟩ := ih (j + 1) (some (.inl (km_wl.getD (kwS.getD w 0 + (j : Int)).toNat 0))) (by omega)
        rw [st, ej] at i1
        refine ⟨o', fun Q => ?_⟩
        rw [← i1 Q, g_X10_readWord_54]
        simp (config := { decide := true }) (disch := first | decide | assumption | omega | (simp (config := { decide := true }) only [km_sr_sf, km_sr_of, km_up_of, km_up_o, km_upx_i, km_upx_s, km_fl2_o, ne_eq, not_true_eq_false, not_false_eq_true] <;> omega) | fail) only [g_X10_readWord, h4, h3, ch, z1, z2, ka_lt, ka_le, ka_nlt, ka_nle, ka_ne, ka_eq, Int.add_sub_cancel, true_or, or_true, false_or, or_false, false_and, and_false, if_true, if_false, ka_lo, ka_hi, ka_nn, km_sr_sf, km_sr_of, km_up_of, km_sr_us, km_sr_uo, km_sr_sr, km_sr_fl, km_sr_flo, km_up_up, km_up_lt, km_lay, km_unL, km_up_o, km_upx_i, km_upx_s, km_fl2_o, km_is, Option.some.injEq, Sum.inl.injEq, Sum.inr.injEq, Option.toList_some, Option.toList_none, List.cons_append, List.nil_append, ne_eq, true_and, and_true, and_self, not_true_eq_false, not_false_eq_true, true_implies, false_implies, reduceCtorEq]
    · rw [if_neg (fun w => z1 w.1)] at st
      obtain ⟨o', i1⟩ := ih (j + 1) (some (.inl (km_wl.getD (kwS.getD w 0 + (j : Int)).toNat 0))) (by omega)
      rw [st, ej] at i1
      refine ⟨o', fun Q => ?_⟩
      rw [← i1 Q, g_X10_readWord_54]
      simp (config := { decide := true }) (disch := first | decide | assumption | omega | (simp (config := { decide := true }) only [km_sr_sf, km_sr_of, km_up_of, km_up_o, km_upx_i, km_upx_s, km_fl2_o, ne_eq, not_true_eq_false, not_false_eq_true] <;> omega) | fail) only [g_X10_readWord, h4, h3, ch, z1, ka_lt, ka_le, ka_nlt, ka_nle, ka_ne, ka_eq, Int.add_sub_cancel, true_or, or_true, false_or, or_false, false_and, and_false, if_true, if_false, ka_lo, ka_hi, ka_nn, km_sr_sf, km_sr_of, km_up_of, km_sr_us, km_sr_uo, km_sr_sr, km_sr_fl, km_sr_flo, km_up_up, km_up_lt, km_lay, km_unL, km_up_o, km_upx_i, km_upx_s, km_fl2_o, km_is, Option.some.injEq, Sum.inl.injEq, Sum.inr.injEq, Option.toList_some, Option.toList_none, List.cons_append, List.nil_append, ne_eq, true_and, and_true, and_self, not_true_eq_false, not_false_eq_true, true_implies, false_implies, reduceCtorEq]
theorem lp_rwW {q : Nat × Int × Int × Int × Int} {c s : Nat} {Z : km_Mm} {k e : Int} (k0 : 0 ≤ k) (ke : k ≤ e) (e6 : e ≤ 600) (h3 : Z 3 3 = e) (h5 : Z 3 5 = k) (Q : Option km_V → km_Al → km_Mm → Prop) : ∀ (N w : Nat) (o : Option km_V), w + N = 27 → (km_G M_X10_readWord 54 [some (.inr (.inr 3)), some (.inl (20 + (w : Int))), some (.inl k), some (.inl (kwS.getD w 0)), o] [] (km_A0 q c s) (km_up Z 3 4 1) Q ↔ Q none (km_A0 q c s) (km_up Z 3 4 (kwt (Z 4) k e N w))) := by
  intro N
  induction N with
  | zero =>
    intro w o h
    have e : w = 27 := by omega
    subst e
    have s27 : kwS.getD 27 0 = 132 := by decide
    rw [g_X10_readWord_54, s27]
    unfold kwt
    simp (config := { decide := true }) (disch := first | decide | assumption | omega | (simp (config := { decide := true }) only [km_sr_sf, km_sr_of, km_up_of, km_up_o, km_upx_i, km_upx_s, km_fl2_o, ne_eq, not_true_eq_false, not_false_eq_true] <;> omega) | fail) only [g_X10_readWord, ka_lt, ka_le, ka_nlt, ka_nle, ka_ne, ka_eq, Int.add_sub_cancel, true_or, or_true, false_or, or_false, false_and, and_false, if_true, if_false, ka_lo, ka_hi, ka_nn, km_sr_sf, km_sr_of, km_up_of, km_sr_us, km_sr_uo, km_sr_sr, km_sr_fl, km_sr_flo, km_up_up, km_up_lt, km_lay, km_unL, km_up_o, km_upx_i, km_upx_s, km_fl2_o, km_is, Option.some.injEq, Sum.inl.injEq, Sum.inr.injEq, Option.toList_some, Option.toList_none, List.cons_append, List.nil_append, ne_eq, true_and, and_true, and_self, not_true_eq_false, not_false_eq_true, true_implies, false_implies, reduceCtorEq]
  | succ N ih =>
    intro w o h
    obtain ⟨t1, t2, lw, lc⟩ := kw_tab ⟨w, by omega⟩
    simp only [] at t1 t2 lw lc
    have e4 : km_up Z 3 4 1 4 = Z 4 := km_up_of (by decide)
    obtain ⟨o', c1⟩ := @lp_rw54 q c s (km_up Z 3 4 1) k e w (by omega) k0 ke e6 km_upx_s ((km_upx_i (by decide)).trans h3) (kwL.getD w 0).toNat 0 o (by omega)
    have c2 := c1 Q
    rw [e4, show ((0 : Nat) : Int) = 0 from rfl, Int.add_zero, show kat (Z 4) k e w 0 = k from rfl] at c2
    rw [c2]
    have kb := @kat_b (Z 4) k e w ke (kwL.getD w 0).toNat
    unfold kwt
    have ew : ((w + 1 : Nat) : Int) = (w : Int) + 1 := by omega
    by_cases z : kat (Z 4) k e w (kwL.getD w 0).toNat = e
    · rw [if_pos z, g_X10_readWord_54]
      have n1 : ¬ (20 + (w : Int)) = 1 := by omega
      by_cases l : kwS.getD w 0 + kwL.getD w 0 + 1 < 132
      · simp (config := { decide := true }) (disch := first | decide | assumption | omega | (simp (config := { decide := true }) only [km_sr_sf, km_sr_of, km_up_of, km_up_o, km_upx_i, km_upx_s, km_fl2_o, ne_eq, not_true_eq_false, not_false_eq_true] <;> omega) | fail) only [g_X10_readWord, t2, z, h3, ka_lt, ka_le, ka_nlt, ka_nle, ka_ne, ka_eq, Int.add_sub_cancel, true_or, or_true, false_or, or_false, false_and, and_false, if_true, if_false, ka_lo, ka_hi, ka_nn, km_sr_sf, km_sr_of, km_up_of, km_sr_us, km_sr_uo, km_sr_sr, km_sr_fl, km_sr_flo, km_up_up, km_up_lt, km_lay, km_unL, km_up_o, km_upx_i, km_upx_s, km_fl2_o, km_is, Option.some.injEq, Sum.inl.injEq, Sum.inr.injEq, Option.toList_some, Option.toList_none, List.cons_append, List.nil_append, ne_eq, true_and, and_true, and_self, not_true_eq_false, not_false_eq_true, true_implies, false_implies, reduceCtorEq]
        rw [g_X10_readWord_54]
        simp (config := { decide := true }) (disch := first | decide | assumption | omega | (simp (config := { decide := true }) only [km_sr_sf, km_sr_of, km_up_of, km_up_o, km_upx_i, km_upx_s, km_fl2_o, ne_eq, not_true_eq_false, not_false_eq_true] <;> omega) | fail) only [g_X10_readWord, n1, l, ka_lt, ka_le, ka_nlt, ka_nle, ka_ne, ka_eq, Int.add_sub_cancel, true_or, or_true, false_or, or_false, false_and, and_false, if_true, if_false, ka_lo, ka_hi, ka_nn, km_sr_sf, km_sr_of, km_up_of, km_sr_us, km_sr_uo, km_sr_sr, km_sr_fl, km_sr_flo, km_up_up, km_up_lt, km_lay, km_unL, km_up_o, km_upx_i, km_upx_s, km_fl2_o, km_is, Option.some.injEq, Sum.inl.injEq, Sum.inr.injEq, Option.toList_some, Option.toList_none, List.cons_append, List.nil_append, ne_eq, true_and, and_true, and_self, not_true_eq_false, not_false_eq_true, true_implies, false_implies, reduceCtorEq]
      · simp (config := { decide := true }) (disch := first | decide | assumption | omega | (simp (config := { decide := true }) only [km_sr_sf, km_sr_of, km_up_of, km_up_o, km_upx_i, km_upx_s, km_fl2_o, ne_eq, not_true_eq_false, not_false_eq_true] <;> omega) | fail) only [g_X10_readWord, t2, z, h3, ka_lt, ka_le, ka_nlt, ka_nle, ka_ne, ka_eq, Int.add_sub_cancel, true_or, or_true, false_or, or_false, false_and, and_false, if_true, if_false, ka_lo, ka_hi, ka_nn, km_sr_sf, km_sr_of, km_up_of, km_sr_us, km_sr_uo, km_sr_sr, km_sr_fl, km_sr_flo, km_up_up, km_up_lt, km_lay, km_unL, km_up_o, km_upx_i, km_upx_s, km_fl2_o, km_is, Option.some.injEq, Sum.inl.injEq, Sum.inr.injEq, Option.toList_some, Option.toList_none, List.cons_append, List.nil_append, ne_eq, true_and, and_true, and_self, not_true_eq_false, not_false_eq_true, true_implies, false_implies, reduceCtorEq]
        rw [g_X10_readWord_54]
        simp (config := { decide := true }) (disch := first | decide | assumption | omega | (simp (config := { decide := true }) only [km_sr_sf, km_sr_of, km_up_of, km_up_o, km_upx_i, km_upx_s, km_fl2_o, ne_eq, not_true_eq_false, not_false_eq_true] <;> omega) | fail) only [g_X10_readWord, l, ka_lt, ka_le, ka_nlt, ka_nle, ka_ne, ka_eq, Int.add_sub_cancel, true_or, or_true, false_or, or_false, false_and, and_false, if_true, if_false, ka_lo, ka_hi, ka_nn, km_sr_sf, km_sr_of, km_up_of, km_sr_us, km_sr_uo, km_sr_sr, km_sr_fl, km_sr_flo, km_up_up, km_up_lt, km_lay, km_unL, km_up_o, km_upx_i, km_upx_s, km_fl2_o, km_is, Option.some.injEq, Sum.inl.injEq, Sum.inr.injEq, Option.toList_some, Option.toList_none, List.cons_append, List.nil_append, ne_eq, true_and, and_true, and_self, not_true_eq_false, not_false_eq_true, true_implies, false_implies, reduceCtorEq]
    · rw [if_neg z, g_X10_readWord_54]
      have i1 := ih (w + 1) (some (.inl 32)) (by omega)
      rw [t1, ew, ← Int.add_assoc] at i1
      simp (config := { decide := true }) (disch := first | decide | assumption | omega | (simp (config := { decide := true }) only [km_sr_sf, km_sr_of, km_up_of, km_up_o, km_upx_i, km_upx_s, km_fl2_o, ne_eq, not_true_eq_false, not_false_eq_true] <;> omega) | fail) only [g_X10_readWord, t2, z, h3, h5, i1, ka_lt, ka_le, ka_nlt, ka_nle, ka_ne, ka_eq, Int.add_sub_cancel, true_or, or_true, false_or, or_false, false_and, and_false, if_true, if_false, ka_lo, ka_hi, ka_nn, km_sr_sf, km_sr_of, km_up_of, km_sr_us, km_sr_uo, km_sr_sr, km_sr_fl, km_sr_flo, km_up_up, km_up_lt, km_lay, km_unL, km_up_o, km_upx_i, km_upx_s, km_fl2_o, km_is, Option.some.injEq, Sum.inl.injEq, Sum.inr.injEq, Option.toList_some, Option.toList_none, List.cons_append, List.nil_append, ne_eq, true_and, and_true, and_self, not_true_eq_false, not_false_eq_true, true_implies, false_implies, reduceCtorEq]
theorem cl_readWord {q : Nat × Int × Int × Int × Int} {c s : Nat} {m : km_Mm} {n k : Int} (hn : m 3 2 = n) (n6 : n ≤ 600) (k0 : 0 ≤ k) (kn : k ≤ n) (h3 : m 3 3 = k) (h5 : m 3 5 = k) (Q : Option km_V → km_Al → km_Mm → Prop) : km_E M_X10_readWord [.inr (.inr 3)] (km_A0 q c s) m Q ↔ Q none (km_A0 q c s) (km_up (km_up m 3 3 (kle (m 4) n 600 k)) 3 4 (kwt (m 4) k (kle (m 4) n 600 k) 27 0)) := by
  have b := kle_b (B := m 4) (n := n) 600 k kn
  have l0 := @lp_rw0 q c s m n hn n6 Q 600 k k0 kn (by omega)
  have id : km_up m 3 3 k = m := by rw [← h3]; exact km_up_id
  rw [id] at l0
  have l1 := @lp_rwW q c s (km_up m 3 3 (kle (m 4) n 600 k)) k (kle (m 4) n 600 k) k0 b.1 (by omega) km_upx_s ((km_upx_i (by decide)).trans h5) Q 27 0 none rfl
  rw [km_up_of (show (4 : Int) ≠ 3 by decide), show kwS.getD 0 0 = 0 from rfl, show (20 + ((0 : Nat) : Int)) = 20 from rfl] at l1
  rw [e_X10_readWord, l0]
  simp (config := { decide := true }) (disch := first | decide | assumption | omega | (simp (config := { decide := true }) only [km_sr_sf, km_sr_of, km_up_of, km_up_o, km_upx_i, km_upx_s, km_fl2_o, ne_eq, not_true_eq_false, not_false_eq_true] <;> omega) | fail) only [g_X10_readWord, h5, l1, ka_lt, ka_le, ka_nlt, ka_nle, ka_ne, ka_eq, Int.add_sub_cancel, true_or, or_true, false_or, or_false, false_and, and_false, if_true, if_false, ka_lo, ka_hi, ka_nn, km_sr_sf, km_sr_of, km_up_of, km_sr_us, km_sr_uo, km_sr_sr, km_sr_fl, km_sr_flo, km_up_up, km_up_lt, km_lay, km_unL, km_up_o, km_upx_i, km_upx_s, km_fl2_o, km_is, Option.some.injEq, Sum.inl.injEq, Sum.inr.injEq, Option.toList_some, Option.toList_none, List.cons_append, List.nil_append, ne_eq, true_and, and_true, and_self, not_true_eq_false, not_false_eq_true, true_implies, false_implies, reduceCtorEq]
theorem lp_rn10 {q : Nat × Int × Int × Int × Int} {c s : Nat} {m : km_Mm} {n : Int} (hn : m 3 2 = n) (n6 : n ≤ 600) (Q : Option km_V → km_Al → km_Mm → Prop) : ∀ (f : Nat) (p v : Int), 0 ≤ p → p ≤ n → n - p ≤ f → 0 ≤ v ∧ v ≤ 1000000 → (km_G M_X10_readNumber 10 [some (.inr (.inr 3))] [] (km_A0 q c s) (km_up (km_up m 3 3 p) 3 6 v) Q ↔ Q none (km_A0 q c s) (km_up (km_up m 3 3 (kde (m 4) n f p)) 3 6 (kdc (m 4) n f p v))) := by
  intro f
  induction f with
  | zero =>
    intro p v p0 pn h hv
    have e : ¬ p < n := by omega
    rw [g_X10_readNumber_10]
    unfold kde kdc
    simp (config := { decide := true }) (disch := first | decide | assumption | omega | (simp (config := { decide := true }) only [km_sr_sf, km_sr_of, km_up_of, km_up_o, km_upx_i, km_upx_s, km_fl2_o, ne_eq, not_true_eq_false, not_false_eq_true] <;> omega) | fail) only [g_X10_readNumber, hn, e, ka_lt, ka_le, ka_nlt, ka_nle, ka_ne, ka_eq, Int.add_sub_cancel, true_or, or_true, false_or, or_false, false_and, and_false, if_true, if_false, ka_lo, ka_hi, ka_nn, km_sr_sf, km_sr_of, km_up_of, km_sr_us, km_sr_uo, km_sr_sr, km_sr_fl, km_sr_flo, km_up_up, km_up_lt, km_lay, km_unL, km_up_o, km_upx_i, km_upx_s, km_fl2_o, km_is, Option.some.injEq, Sum.inl.injEq, Sum.inr.injEq, Option.toList_some, Option.toList_none, List.cons_append, List.nil_append, ne_eq, true_and, and_true, and_self, not_true_eq_false, not_false_eq_true, true_implies, false_implies, reduceCtorEq]
  | succ f ih =>
    intro p v p0 pn h hv
    rw [g_X10_readNumber_10]
    unfold kde kdc
    by_cases z1 : p < n
    · by_cases z2 : 48 ≤ m 4 p ∧ m 4 p ≤ 57
      · have sw : km_up (km_up m 3 3 (p + 1)) 3 6 (if 1000000 < v * 10 + m 4 p - 48 then 1000000 else v * 10 + m 4 p - 48) = km_up (km_up (km_up (km_up m 3 3 p) 3 6 v) 3 6 (if 1000000 < v * 10 + m 4 p - 48 then 1000000 else v * 10 + m 4 p - 48)) 3 3 (p + 1) := by
          funext b j; unfold km_up; grind
        rw [if_pos ⟨z1, z2⟩, if_pos ⟨z1, z2⟩, ← ih (p + 1) _ (by omega) (by omega) (by omega) (by split <;> omega), sw]
        have vb : -2147483648 ≤ v * 10 + m 4 p - 48 ∧ v * 10 + m 4 p - 48 ≤ 2147483647 := by omega
        simp (config := { decide := true }) (disch := first | decide | assumption | omega | (simp (config := { decide := true }) only [km_sr_sf, km_sr_of, km_up_of, km_up_o, km_upx_i, km_upx_s, km_fl2_o, ne_eq, not_true_eq_false, not_false_eq_true] <;> omega) | fail) only [g_X10_readNumber, r_isDigitc, hn, z1, z2, vb, ka_lt, ka_le, ka_nlt, ka_nle, ka_ne, ka_eq, Int.add_sub_cancel, true_or, or_true, false_or, or_false, false_and, and_false, if_true, if_false, ka_lo, ka_hi, ka_nn, km_sr_sf, km_sr_of, km_up_of, km_sr_us, km_sr_uo, km_sr_sr, km_sr_fl, km_sr_flo, km_up_up, km_up_lt, km_lay, km_unL, km_up_o, km_upx_i, km_upx_s, km_fl2_o, km_is, Option.some.injEq, Sum.inl.injEq, Sum.inr.injEq, Option.toList_some, Option.toList_none, List.cons_append, List.nil_append, ne_eq, true_and, and_true, and_self, not_true_eq_false, not_false_eq_true, true_implies, false_implies, reduceCtorEq]
      · rw [if_neg (fun w => z2 w.2), if_neg (fun w => z2 w.2)]
        simp (config := { decide := true }) (disch := first | decide | assumption | omega | (simp (config := { decide := true }) only [km_sr_sf, km_sr_of, km_up_of, km_up_o, km_upx_i, km_upx_s, km_fl2_o, ne_eq, not_true_eq_false, not_false_eq_true] <;> omega) | fail) only [g_X10_readNumber, r_isDigitc, hn, z1, z2, ka_lt, ka_le, ka_nlt, ka_nle, ka_ne, ka_eq, Int.add_sub_cancel, true_or, or_true, false_or, or_false, false_and, and_false, if_true, if_false, ka_lo, ka_hi, ka_nn, km_sr_sf, km_sr_of, km_up_of, km_sr_us, km_sr_uo, km_sr_sr, km_sr_fl, km_sr_flo, km_up_up, km_up_lt, km_lay, km_unL, km_up_o, km_upx_i, km_upx_s, km_fl2_o, km_is, Option.some.injEq, Sum.inl.injEq, Sum.inr.injEq, Option.toList_some, Option.toList_none, List.cons_append, List.nil_append, ne_eq, true_and, and_true, and_self, not_true_eq_false, not_false_eq_true, true_implies, false_implies, reduceCtorEq]
    · rw [if_neg (fun w => z1 w.1), if_neg (fun w => z1 w.1)]
      simp (config := { decide := true }) (disch := first | decide | assumption | omega | (simp (config := { decide := true }) only [km_sr_sf, km_sr_of, km_up_of, km_up_o, km_upx_i, km_upx_s, km_fl2_o, ne_eq, not_true_eq_false, not_false_eq_true] <;> omega) | fail) only [g_X10_readNumber, hn, z1, ka_lt, ka_le, ka_nlt, ka_nle, ka_ne, ka_eq, Int.add_sub_cancel, true_or, or_true, false_or, or_false, false_and, and_false, if_true, if_false, ka_lo, ka_hi, ka_nn, km_sr_sf, km_sr_of, km_up_of, km_sr_us, km_sr_uo, km_sr_sr, km_sr_fl, km_sr_flo, km_up_up, km_up_lt, km_lay, km_unL, km_up_o, km_upx_i, km_upx_s, km_fl2_o, km_is, Option.some.injEq, Sum.inl.injEq, Sum.inr.injEq, Option.toList_some, Option.toList_none, List.cons_append, List.nil_append, ne_eq, true_and, and_true, and_self, not_true_eq_false, not_false_eq_true, true_implies, false_implies, reduceCtorEq]
theorem cl_readNumber {q : Nat × Int × Int × Int × Int} {c s : Nat} {m : km_Mm} {n k : Int} (hn : m 3 2 = n) (n6 : n ≤ 600) (k0 : 0 ≤ k) (kn : k ≤ n) (h3 : m 3 3 = k) (Q : Option km_V → km_Al → km_Mm → Prop) : km_E M_X10_readNumber [.inr (.inr 3)] (km_A0 q c s) m Q ↔ Q none (km_A0 q c s) (km_up (km_up (km_up m 3 4 2) 3 3 (kde (m 4) n 600 k)) 3 6 (kdc (m 4) n 600 k 0)) := by
  have l := @lp_rn10 q c s (km_up m 3 4 2) n ((km_upx_i (by decide)).trans hn) n6 Q 600 k 0 k0 kn (by omega) (by decide)
  have e4 : km_up m 3 4 2 4 = m 4 := km_up_of (by decide)
  have id : km_up (km_up m 3 4 2) 3 3 k = km_up m 3 4 2 := by
    rw [show k = km_up m 3 4 2 3 3 from ((km_upx_i (by decide)).trans h3).symm]; exact km_up_id
  rw [e4, id] at l
  rw [e_X10_readNumber]
  simp (config := { decide := true }) (disch := first | decide | assumption | omega | (simp (config := { decide := true }) only [km_sr_sf, km_sr_of, km_up_of, km_up_o, km_upx_i, km_upx_s, km_fl2_o, ne_eq, not_true_eq_false, not_false_eq_true] <;> omega) | fail) only [g_X10_readNumber, l, Int.add_sub_cancel, true_or, or_true, false_or, or_false, false_and, and_false, if_true, if_false, ka_lo, ka_hi, ka_nn, km_sr_sf, km_sr_of, km_up_of, km_sr_us, km_sr_uo, km_sr_sr, km_sr_fl, km_sr_flo, km_up_up, km_up_lt, km_lay, km_unL, km_up_o, km_upx_i, km_upx_s, km_fl2_o, km_is, Option.some.injEq, Sum.inl.injEq, Sum.inr.injEq, Option.toList_some, Option.toList_none, List.cons_append, List.nil_append, ne_eq, true_and, and_true, and_self, not_true_eq_false, not_false_eq_true, true_implies, false_implies, reduceCtorEq]
theorem km_six_b {x : Int} : -1 ≤ km_six x ∧ km_six x ≤ 10 := by
  unfold km_six
  repeat' split
  all_goals omega
theorem km_six_x {x : Int} : (km_six x = 8 ↔ x = 60) ∧ (km_six x = 10 ↔ x = 62) := by
  unfold km_six
  repeat' split
  all_goals omega
theorem cl_readSign {q : Nat × Int × Int × Int × Int} {c s : Nat} {m : km_Mm} {n k : Int} (hn : m 3 2 = n) (n6 : n ≤ 600) (k0 : 0 ≤ k) (kn : k < n) (h3 : m 3 3 = k) (hB : 0 ≤ m 4 k ∧ m 4 k < 256) :
    ∃ M' : km_Mm, (∀ b j : Int, ¬ (b = 3 ∧ (j = 3 ∨ j = 4)) → M' b j = m b j) ∧ M' 3 4 = ksgn (m 4) n k ∧ M' 3 3 = (if ksgn (m 4) n k = 14 ∨ ksgn (m 4) n k = 15 ∨ ksgn (m 4) n k = 16 then k + 2 else k + 1) ∧ ∀ Q : Option km_V → km_Al → km_Mm → Prop, (km_E M_X10_readSign [.inr (.inr 3)] (km_A0 q c s) m Q ↔ Q none (km_A0 q c s) M') := by
  have sb := @km_six_b (m 4 k)
  obtain ⟨x60, x62⟩ := @km_six_x (m 4 k)
  have by1 := fun Q => @r_byteAt q c s m (k + 1) (by omega) Q
  have eb : (if 0 ≤ k + 1 ∧ k + 1 < m 3 2 then m 4 (k + 1) else -1) = kb1 (m 4) n k := by
    unfold kb1
    by_cases z : k + 1 < n
    · rw [if_pos z, if_pos ⟨by omega, by omega⟩]
    · rw [if_neg z, if_neg (fun w => z (by omega))]
  rw [eb] at by1
  generalize hb : kb1 (m 4) n k = b1 at *
  have fin : ∀ (t d : Int), t = ksgn (m 4) n k → d = (if ksgn (m 4) n k = 14 ∨ ksgn (m 4) n k = 15 ∨ ksgn (m 4) n k = 16 then k + 2 else k + 1) → ∀ M' : km_Mm, M' = km_up (km_up m 3 4 t) 3 3 d → (∀ Q : Option km_V → km_Al → km_Mm → Prop, (km_E M_X10_readSign [.inr (.inr 3)] (km_A0 q c s) m Q ↔ Q none (km_A0 q c s) M')) → ∃ M' : km_Mm, (∀ b j : Int, ¬ (b = 3 ∧ (j = 3 ∨ j = 4)) → M' b j = m b j) ∧ M' 3 4 = ksgn (m 4) n k ∧ M' 3 3 = (if ksgn (m 4) n k = 14 ∨ ksgn (m 4) n k = 15 ∨ ksgn (m 4) n k = 16 then k + 2 else k + 1) ∧ ∀ Q : Option km_V → km_Al → km_Mm → Prop, (km_E M_X10_readSign [.inr (.inr 3)] (km_A0 q c s) m Q ↔ Q none (km_A0 q c s) M') := by
    intro t d ht hd M' hM hQ
    refine ⟨M', fun b j z => ?_, ?_, ?_, hQ⟩
    · rw [hM, km_up_ne (by omega), km_up_ne (by omega)]
    · rw [hM, km_upx_i (by decide), km_upx_s, ht]
    · rw [hM, km_upx_s, hd]
  have sg : ksgn (m 4) n k = if m 4 k = 60 ∧ b1 = 61 then 14 else if m 4 k = 62 ∧ b1 = 61 then 15 else if m 4 k = 60 ∧ b1 = 62 then 16 else if km_six (m 4 k) < 0 then 1 else 3 + km_six (m 4 k) := by unfold ksgn; rw [hb]
  have nb : 0 ≤ m 4 k ∧ m 4 k < 65536 := by omega
  have k11 : k + 1 + 1 = k + 2 := by omega
  have k60 : 3 + km_six 60 = 11 := by decide
  have k62 : 3 + km_six 62 = 13 := by decide
  by_cases c1 : m 4 k = 60
  · have s8 := x60.mpr c1
    by_cases d1 : b1 = 61
    · rw [if_pos ⟨c1, d1⟩] at sg
      refine fin 14 (k + 2) sg.symm (by rw [sg, if_pos (Or.inl rfl)]) _ rfl (fun Q => ?_)
      rw [e_X10_readSign]
      simp (config := { decide := true }) (disch := first | decide | assumption | omega | (simp (config := { decide := true }) only [km_sr_sf, km_sr_of, km_up_of, km_up_o, km_upx_i, km_upx_s, km_fl2_o, ne_eq, not_true_eq_false, not_false_eq_true] <;> omega) | fail) only [g_X10_readSign, h3, c1, s8, by1, d1, hn, Int.reduceLT, k11, ka_lt, ka_le, ka_nlt, ka_nle, ka_ne, ka_eq, Int.add_sub_cancel, true_or, or_true, false_or, or_false, false_and, and_false, if_true, if_false, ka_lo, ka_hi, ka_nn, km_sr_sf, km_sr_of, km_up_of, km_sr_us, km_sr_uo, km_sr_sr, km_sr_fl, km_sr_flo, km_up_up, km_up_lt, km_lay, km_unL, km_up_o, km_upx_i, km_upx_s, km_fl2_o, km_is, Option.some.injEq, Sum.inl.injEq, Sum.inr.injEq, Option.toList_some, Option.toList_none, List.cons_append, List.nil_append, ne_eq, true_and, and_true, and_self, not_true_eq_false, not_false_eq_true, true_implies, false_implies, reduceCtorEq]
    · by_cases d2 : b1 = 62
      · rw [if_neg (fun w => d1 w.2), if_neg (fun w => d1 w.2), if_pos ⟨c1, d2⟩] at sg
        refine fin 16 (k + 2) sg.symm (by rw [sg, if_pos (Or.inr (Or.inr rfl))]) _ rfl (fun Q => ?_)
        rw [e_X10_readSign]
        simp (config := { decide := true }) (disch := first | decide | assumption | omega | (simp (config := { decide := true }) only [km_sr_sf, km_sr_of, km_up_of, km_up_o, km_upx_i, km_upx_s, km_fl2_o, ne_eq, not_true_eq_false, not_false_eq_true] <;> omega) | fail) only [g_X10_readSign, h3, c1, s8, by1, d1, d2, hn, Int.reduceLT, k11, k60, ka_lt, ka_le, ka_nlt, ka_nle, ka_ne, ka_eq, Int.add_sub_cancel, true_or, or_true, false_or, or_false, false_and, and_false, if_true, if_false, ka_lo, ka_hi, ka_nn, km_sr_sf, km_sr_of, km_up_of, km_sr_us, km_sr_uo, km_sr_sr, km_sr_fl, km_sr_flo, km_up_up, km_up_lt, km_lay, km_unL, km_up_o, km_upx_i, km_upx_s, km_fl2_o, km_is, Option.some.injEq, Sum.inl.injEq, Sum.inr.injEq, Option.toList_some, Option.toList_none, List.cons_append, List.nil_append, ne_eq, true_and, and_true, and_self, not_true_eq_false, not_false_eq_true, true_implies, false_implies, reduceCtorEq]
      · rw [if_neg (fun w => d1 w.2), if_neg (fun w => d1 w.2), if_neg (fun w => d2 w.2), s8, if_neg (by decide)] at sg
        refine fin 11 (k + 1) (by omega) (by rw [sg]; rfl) _ rfl (fun Q => ?_)
        rw [e_X10_readSign]
        simp (config := { decide := true }) (disch := first | decide | assumption | omega | (simp (config := { decide := true }) only [km_sr_sf, km_sr_of, km_up_of, km_up_o, km_upx_i, km_upx_s, km_fl2_o, ne_eq, not_true_eq_false, not_false_eq_true] <;> omega) | fail) only [g_X10_readSign, h3, c1, s8, by1, d1, d2, hn, Int.reduceLT, k11, k60, ka_lt, ka_le, ka_nlt, ka_nle, ka_ne, ka_eq, Int.add_sub_cancel, true_or, or_true, false_or, or_false, false_and, and_false, if_true, if_false, ka_lo, ka_hi, ka_nn, km_sr_sf, km_sr_of, km_up_of, km_sr_us, km_sr_uo, km_sr_sr, km_sr_fl, km_sr_flo, km_up_up, km_up_lt, km_lay, km_unL, km_up_o, km_upx_i, km_upx_s, km_fl2_o, km_is, Option.some.injEq, Sum.inl.injEq, Sum.inr.injEq, Option.toList_some, Option.toList_none, List.cons_append, List.nil_append, ne_eq, true_and, and_true, and_self, not_true_eq_false, not_false_eq_true, true_implies, false_implies, reduceCtorEq]
  · by_cases c2 : m 4 k = 62
    · have s10 := x62.mpr c2
      by_cases d1 : b1 = 61
      · rw [if_neg (fun w => c1 w.1), if_pos ⟨c2, d1⟩] at sg
        refine fin 15 (k + 2) sg.symm (by rw [sg, if_pos (Or.inr (Or.inl rfl))]) _ rfl (fun Q => ?_)
        rw [e_X10_readSign]
        simp (config := { decide := true }) (disch := first | decide | assumption | omega | (simp (config := { decide := true }) only [km_sr_sf, km_sr_of, km_up_of, km_up_o, km_upx_i, km_upx_s, km_fl2_o, ne_eq, not_true_eq_false, not_false_eq_true] <;> omega) | fail) only [g_X10_readSign, h3, c2, s10, by1, d1, hn, Int.reduceLT, k11, k62, ka_lt, ka_le, ka_nlt, ka_nle, ka_ne, ka_eq, Int.add_sub_cancel, true_or, or_true, false_or, or_false, false_and, and_false, if_true, if_false, ka_lo, ka_hi, ka_nn, km_sr_sf, km_sr_of, km_up_of, km_sr_us, km_sr_uo, km_sr_sr, km_sr_fl, km_sr_flo, km_up_up, km_up_lt, km_lay, km_unL, km_up_o, km_upx_i, km_upx_s, km_fl2_o, km_is, Option.some.injEq, Sum.inl.injEq, Sum.inr.injEq, Option.toList_some, Option.toList_none, List.cons_append, List.nil_append, ne_eq, true_and, and_true, and_self, not_true_eq_false, not_false_eq_true, true_implies, false_implies, reduceCtorEq]
      · rw [if_neg (fun w => c1 w.1), if_neg (fun w => d1 w.2), if_neg (fun w => c1 w.1), s10, if_neg (by decide)] at sg
        refine fin 13 (k + 1) (by omega) (by rw [sg]; rfl) _ rfl (fun Q => ?_)
        rw [e_X10_readSign]
        simp (config := { decide := true }) (disch := first | decide | assumption | omega | (simp (config := { decide := true }) only [km_sr_sf, km_sr_of, km_up_of, km_up_o, km_upx_i, km_upx_s, km_fl2_o, ne_eq, not_true_eq_false, not_false_eq_true] <;> omega) | fail) only [g_X10_readSign, h3, c2, s10, by1, d1, hn, Int.reduceLT, k11, k62, ka_lt, ka_le, ka_nlt, ka_nle, ka_ne, ka_eq, Int.add_sub_cancel, true_or, or_true, false_or, or_false, false_and, and_false, if_true, if_false, ka_lo, ka_hi, ka_nn, km_sr_sf, km_sr_of, km_up_of, km_sr_us, km_sr_uo, km_sr_sr, km_sr_fl, km_sr_flo, km_up_up, km_up_lt, km_lay, km_unL, km_up_o, km_upx_i, km_upx_s, km_fl2_o, km_is, Option.some.injEq, Sum.inl.injEq, Sum.inr.injEq, Option.toList_some, Option.toList_none, List.cons_append, List.nil_append, ne_eq, true_and, and_true, and_self, not_true_eq_false, not_false_eq_true, true_implies, false_implies, reduceCtorEq]
    · rw [if_neg (fun w => c1 w.1), if_neg (fun w => c2 w.1), if_neg (fun w => c1 w.1)] at sg
      have n8 : ¬ km_six (m 4 k) = 8 := fun w => c1 (x60.mp w)
      have n10 : ¬ km_six (m 4 k) = 10 := fun w => c2 (x62.mp w)
      by_cases l : km_six (m 4 k) < 0
      · rw [if_pos l] at sg
        refine fin 1 (k + 1) sg.symm (by rw [sg]; rfl) _ rfl (fun Q => ?_)
        rw [e_X10_readSign]
        have l2 : ¬ 0 ≤ km_six (m 4 k) := by omega
        simp (config := { decide := true }) (disch := first | decide | assumption | omega | (simp (config := { decide := true }) only [km_sr_sf, km_sr_of, km_up_of, km_up_o, km_upx_i, km_upx_s, km_fl2_o, ne_eq, not_true_eq_false, not_false_eq_true] <;> omega) | fail) only [g_X10_readSign, h3, nb, by1, l, l2, hn, ka_lt, ka_le, ka_nlt, ka_nle, ka_ne, ka_eq, Int.add_sub_cancel, true_or, or_true, false_or, or_false, false_and, and_false, if_true, if_false, ka_lo, ka_hi, ka_nn, km_sr_sf, km_sr_of, km_up_of, km_sr_us, km_sr_uo, km_sr_sr, km_sr_fl, km_sr_flo, km_up_up, km_up_lt, km_lay, km_unL, km_up_o, km_upx_i, km_upx_s, km_fl2_o, km_is, Option.some.injEq, Sum.inl.injEq, Sum.inr.injEq, Option.toList_some, Option.toList_none, List.cons_append, List.nil_append, ne_eq, true_and, and_true, and_self, not_true_eq_false, not_false_eq_true, true_implies, false_implies, reduceCtorEq]
      · rw [if_neg l] at sg
        have t1 : ¬ 3 + km_six (m 4 k) = 11 := by omega
        have t2 : ¬ 3 + km_six (m 4 k) = 13 := by omega
        have l2 : 0 ≤ km_six (m 4 k) := by omega
        refine fin (3 + km_six (m 4 k)) (k + 1) sg.symm (by rw [sg, if_neg (by omega)]) _ rfl (fun Q => ?_)
        rw [e_X10_readSign]
        simp (config := { decide := true }) (disch := first | decide | assumption | omega | (simp (config := { decide := true }) only [km_sr_sf, km_sr_of, km_up_of, km_up_o, km_upx_i, km_upx_s, km_fl2_o, ne_eq, not_true_eq_false, not_false_eq_true] <;> omega) | fail) only [g_X10_readSign, h3, nb, by1, l, l2, t1, t2, hn, ka_lt, ka_le, ka_nlt, ka_nle, ka_ne, ka_eq, Int.add_sub_cancel, true_or, or_true, false_or, or_false, false_and, and_false, if_true, if_false, ka_lo, ka_hi, ka_nn, km_sr_sf, km_sr_of, km_up_of, km_sr_us, km_sr_uo, km_sr_sr, km_sr_fl, km_sr_flo, km_up_up, km_up_lt, km_lay, km_unL, km_up_o, km_upx_i, km_upx_s, km_fl2_o, km_is, Option.some.injEq, Sum.inl.injEq, Sum.inr.injEq, Option.toList_some, Option.toList_none, List.cons_append, List.nil_append, ne_eq, true_and, and_true, and_self, not_true_eq_false, not_false_eq_true, true_implies, false_implies, reduceCtorEq]

