/-! ===== promise 24: settle: a group pays, in both ===== -/
section PY
variable {q q' : Nat × Int × Int × Int × Int} {c s : Nat} {X Y : km_Mm} {g side kn i p : Int} {f : Int → Int}
theorem kFC_rf : kFC X X := fun _ _ _ _ => rfl
theorem kFM_rf : kFM Y Y := fun _ _ _ _ => rfl
theorem kFC_tr {X' X'' : km_Mm} (h : kFC X X') (g : kFC X' X'') : kFC X X'' := fun d j u1 u2 => (g d j u1 u2).trans (h d j u1 u2)
theorem kFM_tr {Y' Y'' : km_Mm} (h : kFM Y Y') (g : kFM Y' Y'') : kFM Y Y'' := fun d j u1 u2 => (g d j u1 u2).trans (h d j u1 u2)
/-- nobody left who owes, or nobody who gets -/
theorem c_pay0 {v u : Int} (h6 : X 113 6 = p) (eD : ∀ Q : Option km_V → km_Al → km_Mm → Prop, km_E M_X9_firstOpen [.inr (.inr 113), .inl g, .inl (-1)] (km_A0 q c s) X Q ↔ Q (some (.inl v)) (km_A0 q c s) X) (eC : ∀ Q : Option km_V → km_Al → km_Mm → Prop, km_E M_X9_firstOpen [.inr (.inr 113), .inl g, .inl 1] (km_A0 q c s) X Q ↔ Q (some (.inl u)) (km_A0 q c s) X) (no : v = -1 ∨ u = -1) (o3 o4 o5 : Option km_V) (Q : Option km_V → km_Al → km_Mm → Prop) : km_G M_X9_payWithin 2 [some (.inr (.inr 113)), some (.inl g), some (.inl i), o3, o4, o5] [] (km_A0 q c s) X Q ↔ Q none (km_A0 q c s) X := by
  rw [g_X9_payWithin_2]
  by_cases a : 10 ≤ i
  · simp (config := { decide := true }) (disch := first | decide | assumption | omega | (simp (config := { decide := true }) only [km_sr_sf, km_sr_of, km_up_of, km_up_o, km_upx_i, km_upx_s, km_fl2_o, ne_eq, not_true_eq_false, not_false_eq_true] <;> omega) | fail) only [g_X9_payWithin, a, ka_lt, ka_le, ka_nlt, ka_nle, ka_ne, ka_eq, Int.add_sub_cancel, true_or, or_true, false_or, or_false, false_and, and_false, if_true, if_false, ka_lo, ka_hi, ka_nn, km_sr_sf, km_sr_of, km_up_of, km_sr_us, km_sr_uo, km_sr_sr, km_sr_fl, km_sr_flo, km_up_up, km_up_lt, km_lay, km_unL, km_up_o, km_upx_i, km_upx_s, km_fl2_o, km_is, Option.some.injEq, Sum.inl.injEq, Sum.inr.injEq, Option.toList_some, Option.toList_none, List.cons_append, List.nil_append, ne_eq, true_and, and_true, and_self, not_true_eq_false, not_false_eq_true, true_implies, false_implies, reduceCtorEq]
  by_cases b : 10 ≤ p
  · simp (config := { decide := true }) (disch := first | decide | assumption | omega | (simp (config := { decide := true }) only [km_sr_sf, km_sr_of, km_up_of, km_up_o, km_upx_i, km_upx_s, km_fl2_o, ne_eq, not_true_eq_false, not_false_eq_true] <;> omega) | fail) only [g_X9_payWithin, a, h6, b, ka_lt, ka_le, ka_nlt, ka_nle, ka_ne, ka_eq, Int.add_sub_cancel, true_or, or_true, false_or, or_false, false_and, and_false, if_true, if_false, ka_lo, ka_hi, ka_nn, km_sr_sf, km_sr_of, km_up_of, km_sr_us, km_sr_uo, km_sr_sr, km_sr_fl, km_sr_flo, km_up_up, km_up_lt, km_lay, km_unL, km_up_o, km_upx_i, km_upx_s, km_fl2_o, km_is, Option.some.injEq, Sum.inl.injEq, Sum.inr.injEq, Option.toList_some, Option.toList_none, List.cons_append, List.nil_append, ne_eq, true_and, and_true, and_self, not_true_eq_false, not_false_eq_true, true_implies, false_implies, reduceCtorEq]
  by_cases y : v = -1
  · simp (config := { decide := true }) (disch := first | decide | assumption | omega | (simp (config := { decide := true }) only [km_sr_sf, km_sr_of, km_up_of, km_up_o, km_upx_i, km_upx_s, km_fl2_o, ne_eq, not_true_eq_false, not_false_eq_true] <;> omega) | fail) only [g_X9_payWithin, a, h6, b, eD, eC, y, ka_lt, ka_le, ka_nlt, ka_nle, ka_ne, ka_eq, Int.add_sub_cancel, true_or, or_true, false_or, or_false, false_and, and_false, if_true, if_false, ka_lo, ka_hi, ka_nn, km_sr_sf, km_sr_of, km_up_of, km_sr_us, km_sr_uo, km_sr_sr, km_sr_fl, km_sr_flo, km_up_up, km_up_lt, km_lay, km_unL, km_up_o, km_upx_i, km_upx_s, km_fl2_o, km_is, Option.some.injEq, Sum.inl.injEq, Sum.inr.injEq, Option.toList_some, Option.toList_none, List.cons_append, List.nil_append, ne_eq, true_and, and_true, and_self, not_true_eq_false, not_false_eq_true, true_implies, false_implies, reduceCtorEq]
  · have z : u = -1 := no.resolve_left y
    simp (config := { decide := true }) (disch := first | decide | assumption | omega | (simp (config := { decide := true }) only [km_sr_sf, km_sr_of, km_up_of, km_up_o, km_upx_i, km_upx_s, km_fl2_o, ne_eq, not_true_eq_false, not_false_eq_true] <;> omega) | fail) only [g_X9_payWithin, a, h6, b, eD, eC, y, z, ka_lt, ka_le, ka_nlt, ka_nle, ka_ne, ka_eq, Int.add_sub_cancel, true_or, or_true, false_or, or_false, false_and, and_false, if_true, if_false, ka_lo, ka_hi, ka_nn, km_sr_sf, km_sr_of, km_up_of, km_sr_us, km_sr_uo, km_sr_sr, km_sr_fl, km_sr_flo, km_up_up, km_up_lt, km_lay, km_unL, km_up_o, km_upx_i, km_upx_s, km_fl2_o, km_is, Option.some.injEq, Sum.inl.injEq, Sum.inr.injEq, Option.toList_some, Option.toList_none, List.cons_append, List.nil_append, ne_eq, true_and, and_true, and_self, not_true_eq_false, not_false_eq_true, true_implies, false_implies, reduceCtorEq]
theorem c_pay1 {v u n : Int} (h6 : X 113 6 = p) (eD : ∀ Q : Option km_V → km_Al → km_Mm → Prop, km_E M_X9_firstOpen [.inr (.inr 113), .inl g, .inl (-1)] (km_A0 q c s) X Q ↔ Q (some (.inl v)) (km_A0 q c s) X) (eC : ∀ Q : Option km_V → km_Al → km_Mm → Prop, km_E M_X9_firstOpen [.inr (.inr 113), .inl g, .inl 1] (km_A0 q c s) X Q ↔ Q (some (.inl u)) (km_A0 q c s) X)
    (i0 : 0 ≤ i) (i1 : i < 10) (p0 : 0 ≤ p) (p1 : p < 10) (v0 : 0 ≤ v) (v1 : v < 10) (u0 : 0 ≤ u) (u1 : u < 10) (vu : v ≠ u) (bv : -9999991 ≤ X 119 v ∧ X 119 v ≤ 9999991) (bu : -9999991 ≤ X 119 u ∧ X 119 u ≤ 9999991) (bn : 0 ≤ n ∧ n ≤ 9999991) (hn : (if X 119 u < -X 119 v then X 119 u else -X 119 v) = n) (o3 o4 o5 : Option km_V) (Q : Option km_V → km_Al → km_Mm → Prop) : km_G M_X9_payWithin 2 [some (.inr (.inr 113)), some (.inl g), some (.inl i), o3, o4, o5] [] (km_A0 q c s) X Q ↔ km_G M_X9_payWithin 2 [some (.inr (.inr 113)), some (.inl g), some (.inl (i + 1)), some (.inl v), some (.inl u), some (.inl n)] [] (km_A0 q c s) (km_up (km_up (km_up (km_up (km_up (km_up X 119 v (X 119 v + n)) 119 u (X 119 u - n)) 120 p v) 121 p u) 122 p n) 113 6 (p + 1)) Q := by
  have a1 : ¬ v = -1 := by omega
  have a2 : ¬ u = -1 := by omega
  have a3 : ¬ u = v := fun w => vu w.symm
  have a4 : ¬ v = u := vu
  obtain ⟨b1, b2⟩ := bv
  obtain ⟨b3, b4⟩ := bu
  obtain ⟨b5, b6⟩ := bn
  rw [g_X9_payWithin_2]
  simp (config := { decide := true }) (disch := first | decide | assumption | omega | (simp (config := { decide := true }) only [km_sr_sf, km_sr_of, km_up_of, km_up_o, km_upx_i, km_upx_s, km_fl2_o, ne_eq, not_true_eq_false, not_false_eq_true] <;> omega) | fail) only [g_X9_payWithin, i0, i1, p0, p1, h6, eD, eC, a1, a2, a3, a4, v0, v1, u0, u1, hn, ka_lt, ka_le, ka_nlt, ka_nle, ka_ne, ka_eq, Int.add_sub_cancel, true_or, or_true, false_or, or_false, false_and, and_false, if_true, if_false, ka_lo, ka_hi, ka_nn, km_sr_sf, km_sr_of, km_up_of, km_sr_us, km_sr_uo, km_sr_sr, km_sr_fl, km_sr_flo, km_up_up, km_up_lt, km_lay, km_unL, km_up_o, km_upx_i, km_upx_s, km_fl2_o, km_is, Option.some.injEq, Sum.inl.injEq, Sum.inr.injEq, Option.toList_some, Option.toList_none, List.cons_append, List.nil_append, ne_eq, true_and, and_true, and_self, not_true_eq_false, not_false_eq_true, true_implies, false_implies, reduceCtorEq]
theorem m_pay0 {v u : Int} {o6 : Option km_V} (h3 : Y 123 3 = kn) (k0 : 0 ≤ kn) (k1 : kn ≤ 10) (eS : ∀ Q : Option km_V → km_Al → km_Mm → Prop, km_G M_X12_paysOff 19 [some (.inr (.inr 123)), some (.inl g), some (.inl 1), some (.inl (-1)), some (.inl (-1)), some (.inl (kn - 1)), o6] [] (km_A0 q c s) Y Q ↔ km_G M_X12_paysOff 73 [some (.inr (.inr 123)), some (.inl g), some (.inl 1), some (.inl v), some (.inl u), some (.inl (-1)), o6] [] (km_A0 q c s) Y Q) (no : v < 0 ∨ u < 0) (r3 r4 r5 : Option km_V) (Q : Option km_V → km_Al → km_Mm → Prop) : km_G M_X12_paysOff 2 [some (.inr (.inr 123)), some (.inl g), some (.inl 1), r3, r4, r5, o6] [] (km_A0 q c s) Y Q ↔ Q none (km_A0 q c s) Y := by
  have w : km_G M_X12_paysOff 2 [some (.inr (.inr 123)), some (.inl g), some (.inl 1), r3, r4, r5, o6] [] (km_A0 q c s) Y Q ↔ km_G M_X12_paysOff 19 [some (.inr (.inr 123)), some (.inl g), some (.inl 1), some (.inl (-1)), some (.inl (-1)), some (.inl (kn - 1)), o6] [] (km_A0 q c s) Y Q := by
    rw [g_X12_paysOff_2]
    simp (config := { decide := true }) (disch := first | decide | assumption | omega | (simp (config := { decide := true }) only [km_sr_sf, km_sr_of, km_up_of, km_up_o, km_upx_i, km_upx_s, km_fl2_o, ne_eq, not_true_eq_false, not_false_eq_true] <;> omega) | fail) only [g_X12_paysOff, h3, ka_lt, ka_le, ka_nlt, ka_nle, ka_ne, ka_eq, Int.add_sub_cancel, true_or, or_true, false_or, or_false, false_and, and_false, if_true, if_false, ka_lo, ka_hi, ka_nn, km_sr_sf, km_sr_of, km_up_of, km_sr_us, km_sr_uo, km_sr_sr, km_sr_fl, km_sr_flo, km_up_up, km_up_lt, km_lay, km_unL, km_up_o, km_upx_i, km_upx_s, km_fl2_o, km_is, Option.some.injEq, Sum.inl.injEq, Sum.inr.injEq, Option.toList_some, Option.toList_none, List.cons_append, List.nil_append, ne_eq, true_and, and_true, and_self, not_true_eq_false, not_false_eq_true, true_implies, false_implies, reduceCtorEq]
  rw [w, eS]
  by_cases a : v < 0
  · simp (config := { decide := true }) (disch := first | decide | assumption | omega | (simp (config := { decide := true }) only [km_sr_sf, km_sr_of, km_up_of, km_up_o, km_upx_i, km_upx_s, km_fl2_o, ne_eq, not_true_eq_false, not_false_eq_true] <;> omega) | fail) only [g_X12_paysOff, a, ka_lt, ka_le, ka_nlt, ka_nle, ka_ne, ka_eq, Int.add_sub_cancel, true_or, or_true, false_or, or_false, false_and, and_false, if_true, if_false, ka_lo, ka_hi, ka_nn, km_sr_sf, km_sr_of, km_up_of, km_sr_us, km_sr_uo, km_sr_sr, km_sr_fl, km_sr_flo, km_up_up, km_up_lt, km_lay, km_unL, km_up_o, km_upx_i, km_upx_s, km_fl2_o, km_is, Option.some.injEq, Sum.inl.injEq, Sum.inr.injEq, Option.toList_some, Option.toList_none, List.cons_append, List.nil_append, ne_eq, true_and, and_true, and_self, not_true_eq_false, not_false_eq_true, true_implies, false_implies, reduceCtorEq]
    rw [g_X12_paysOff_2]
    simp (config := { decide := true }) (disch := first | decide | assumption | omega | (simp (config := { decide := true }) only [km_sr_sf, km_sr_of, km_up_of, km_up_o, km_upx_i, km_upx_s, km_fl2_o, ne_eq, not_true_eq_false, not_false_eq_true] <;> omega) | fail) only [g_X12_paysOff, ka_lt, ka_le, ka_nlt, ka_nle, ka_ne, ka_eq, Int.add_sub_cancel, true_or, or_true, false_or, or_false, false_and, and_false, if_true, if_false, ka_lo, ka_hi, ka_nn, km_sr_sf, km_sr_of, km_up_of, km_sr_us, km_sr_uo, km_sr_sr, km_sr_fl, km_sr_flo, km_up_up, km_up_lt, km_lay, km_unL, km_up_o, km_upx_i, km_upx_s, km_fl2_o, km_is, Option.some.injEq, Sum.inl.injEq, Sum.inr.injEq, Option.toList_some, Option.toList_none, List.cons_append, List.nil_append, ne_eq, true_and, and_true, and_self, not_true_eq_false, not_false_eq_true, true_implies, false_implies, reduceCtorEq]
  · have b : u < 0 := no.resolve_left a
    simp (config := { decide := true }) (disch := first | decide | assumption | omega | (simp (config := { decide := true }) only [km_sr_sf, km_sr_of, km_up_of, km_up_o, km_upx_i, km_upx_s, km_fl2_o, ne_eq, not_true_eq_false, not_false_eq_true] <;> omega) | fail) only [g_X12_paysOff, a, b, ka_lt, ka_le, ka_nlt, ka_nle, ka_ne, ka_eq, Int.add_sub_cancel, true_or, or_true, false_or, or_false, false_and, and_false, if_true, if_false, ka_lo, ka_hi, ka_nn, km_sr_sf, km_sr_of, km_up_of, km_sr_us, km_sr_uo, km_sr_sr, km_sr_fl, km_sr_flo, km_up_up, km_up_lt, km_lay, km_unL, km_up_o, km_upx_i, km_upx_s, km_fl2_o, km_is, Option.some.injEq, Sum.inl.injEq, Sum.inr.injEq, Option.toList_some, Option.toList_none, List.cons_append, List.nil_append, ne_eq, true_and, and_true, and_self, not_true_eq_false, not_false_eq_true, true_implies, false_implies, reduceCtorEq]
    rw [g_X12_paysOff_2]
    simp (config := { decide := true }) (disch := first | decide | assumption | omega | (simp (config := { decide := true }) only [km_sr_sf, km_sr_of, km_up_of, km_up_o, km_upx_i, km_upx_s, km_fl2_o, ne_eq, not_true_eq_false, not_false_eq_true] <;> omega) | fail) only [g_X12_paysOff, ka_lt, ka_le, ka_nlt, ka_nle, ka_ne, ka_eq, Int.add_sub_cancel, true_or, or_true, false_or, or_false, false_and, and_false, if_true, if_false, ka_lo, ka_hi, ka_nn, km_sr_sf, km_sr_of, km_up_of, km_sr_us, km_sr_uo, km_sr_sr, km_sr_fl, km_sr_flo, km_up_up, km_up_lt, km_lay, km_unL, km_up_o, km_upx_i, km_upx_s, km_fl2_o, km_is, Option.some.injEq, Sum.inl.injEq, Sum.inr.injEq, Option.toList_some, Option.toList_none, List.cons_append, List.nil_append, ne_eq, true_and, and_true, and_self, not_true_eq_false, not_false_eq_true, true_implies, false_implies, reduceCtorEq]
theorem m_pay1 {v u n fv fu : Int} {o6 : Option km_V} (h3 : Y 123 3 = kn) (k0 : 0 ≤ kn) (k1 : kn ≤ 10) (h6 : Y 123 101 = p) (eS : ∀ Q : Option km_V → km_Al → km_Mm → Prop, km_G M_X12_paysOff 19 [some (.inr (.inr 123)), some (.inl g), some (.inl 1), some (.inl (-1)), some (.inl (-1)), some (.inl (kn - 1)), o6] [] (km_A0 q c s) Y Q ↔ km_G M_X12_paysOff 73 [some (.inr (.inr 123)), some (.inl g), some (.inl 1), some (.inl v), some (.inl u), some (.inl (-1)), o6] [] (km_A0 q c s) Y Q)
    (p0 : 0 ≤ p) (p1 : p < 10) (v0 : 0 ≤ v) (v1 : v < 10) (u0 : 0 ≤ u) (u1 : u < 10) (vu : v ≠ u) (yv : Y 176 v = fv) (yu : Y 176 u = fu) (bv : -9999991 ≤ fv ∧ fv ≤ 9999991) (bu : -9999991 ≤ fu ∧ fu ≤ 9999991) (bn : 0 ≤ n ∧ n ≤ 9999991) (hn : n = if fu < -fv then fu else -fv) (r3 r4 r5 : Option km_V) (Q : Option km_V → km_Al → km_Mm → Prop) : km_G M_X12_paysOff 2 [some (.inr (.inr 123)), some (.inl g), some (.inl 1), r3, r4, r5, o6] [] (km_A0 q c s) Y Q ↔ km_G M_X12_paysOff 2 [some (.inr (.inr 123)), some (.inl g), some (.inl 1), some (.inl v), some (.inl u), some (.inr (.inl n)), none] [] (km_A0 q c s) (km_up (km_up (km_up (km_up (km_up (km_up Y 177 p v) 178 p u) 179 p n) 123 101 (p + 1)) 176 v (fv + n)) 176 u (fu - n)) Q := by
  have w : km_G M_X12_paysOff 2 [some (.inr (.inr 123)), some (.inl g), some (.inl 1), r3, r4, r5, o6] [] (km_A0 q c s) Y Q ↔ km_G M_X12_paysOff 19 [some (.inr (.inr 123)), some (.inl g), some (.inl 1), some (.inl (-1)), some (.inl (-1)), some (.inl (kn - 1)), o6] [] (km_A0 q c s) Y Q := by
    rw [g_X12_paysOff_2]
    simp (config := { decide := true }) (disch := first | decide | assumption | omega | (simp (config := { decide := true }) only [km_sr_sf, km_sr_of, km_up_of, km_up_o, km_upx_i, km_upx_s, km_fl2_o, ne_eq, not_true_eq_false, not_false_eq_true] <;> omega) | fail) only [g_X12_paysOff, h3, ka_lt, ka_le, ka_nlt, ka_nle, ka_ne, ka_eq, Int.add_sub_cancel, true_or, or_true, false_or, or_false, false_and, and_false, if_true, if_false, ka_lo, ka_hi, ka_nn, km_sr_sf, km_sr_of, km_up_of, km_sr_us, km_sr_uo, km_sr_sr, km_sr_fl, km_sr_flo, km_up_up, km_up_lt, km_lay, km_unL, km_up_o, km_upx_i, km_upx_s, km_fl2_o, km_is, Option.some.injEq, Sum.inl.injEq, Sum.inr.injEq, Option.toList_some, Option.toList_none, List.cons_append, List.nil_append, ne_eq, true_and, and_true, and_self, not_true_eq_false, not_false_eq_true, true_implies, false_implies, reduceCtorEq]
  have a1 : ¬ v < 0 := by omega
  have a2 : ¬ u < 0 := by omega
  have a3 : ¬ u = v := fun w => vu w.symm
  have a4 : ¬ v = u := vu
  obtain ⟨b1, b2⟩ := bv
  obtain ⟨b3, b4⟩ := bu
  rw [w, eS]
  by_cases l : -fv < fu
  · have e5 : n = -fv := by rw [hn]; split <;> omega
    have l2 : ¬ fu ≤ -fv := by omega
    rw [e5] at bn ⊢
    obtain ⟨b5, b6⟩ := bn
    simp (config := { decide := true }) (disch := first | decide | assumption | omega | (simp (config := { decide := true }) only [km_sr_sf, km_sr_of, km_up_of, km_up_o, km_upx_i, km_upx_s, km_fl2_o, ne_eq, not_true_eq_false, not_false_eq_true] <;> omega) | fail) only [g_X12_paysOff, p0, p1, h6, a1, a2, a3, a4, v0, v1, u0, u1, yv, yu, kl_ge, l, l2, ka_lt, ka_le, ka_nlt, ka_nle, ka_ne, ka_eq, Int.add_sub_cancel, true_or, or_true, false_or, or_false, false_and, and_false, if_true, if_false, ka_lo, ka_hi, ka_nn, km_sr_sf, km_sr_of, km_up_of, km_sr_us, km_sr_uo, km_sr_sr, km_sr_fl, km_sr_flo, km_up_up, km_up_lt, km_lay, km_unL, km_up_o, km_upx_i, km_upx_s, km_fl2_o, km_is, Option.some.injEq, Sum.inl.injEq, Sum.inr.injEq, Option.toList_some, Option.toList_none, List.cons_append, List.nil_append, ne_eq, true_and, and_true, and_self, not_true_eq_false, not_false_eq_true, true_implies, false_implies, reduceCtorEq]
  · have e5 : n = fu := by rw [hn]; split <;> omega
    have l2 : fu ≤ -fv := by omega
    rw [e5] at bn ⊢
    obtain ⟨b5, b6⟩ := bn
    simp (config := { decide := true }) (disch := first | decide | assumption | omega | (simp (config := { decide := true }) only [km_sr_sf, km_sr_of, km_up_of, km_up_o, km_upx_i, km_upx_s, km_fl2_o, ne_eq, not_true_eq_false, not_false_eq_true] <;> omega) | fail) only [g_X12_paysOff, p0, p1, h6, a1, a2, a3, a4, v0, v1, u0, u1, yv, yu, kl_ge, l, l2, ka_lt, ka_le, ka_nlt, ka_nle, ka_ne, ka_eq, Int.add_sub_cancel, true_or, or_true, false_or, or_false, false_and, and_false, if_true, if_false, ka_lo, ka_hi, ka_nn, km_sr_sf, km_sr_of, km_up_of, km_sr_us, km_sr_uo, km_sr_sr, km_sr_fl, km_sr_flo, km_up_up, km_up_lt, km_lay, km_unL, km_up_o, km_upx_i, km_upx_s, km_fl2_o, km_is, Option.some.injEq, Sum.inl.injEq, Sum.inr.injEq, Option.toList_some, Option.toList_none, List.cons_append, List.nil_append, ne_eq, true_and, and_true, and_self, not_true_eq_false, not_false_eq_true, true_implies, false_implies, reduceCtorEq]
theorem st_pay (hg : ten g) (k0 : 0 ≤ kn) (k1 : kn ≤ 10) : ∀ (n : Nat) (i p : Int) (X Y : km_Mm) (o3 o4 o5 r3 r4 r5 r6 : Option km_V), Y 123 3 = kn → kPz kn X Y p → kcnt (fun k => X 119 k ≠ 0) 10 ≤ n → 0 ≤ i → i + n ≤ 10 → ∃ (X' Y' : km_Mm) (p' : Int), kPz kn X' Y' p' ∧ kFC X X' ∧ kFM Y Y' ∧ (∀ Q : Option km_V → km_Al → km_Mm → Prop, km_G M_X9_payWithin 2 [some (.inr (.inr 113)), some (.inl g), some (.inl i), o3, o4, o5] [] (km_A0 q c s) X Q ↔ Q none (km_A0 q c s) X') ∧ ∀ Q : Option km_V → km_Al → km_Mm → Prop, km_G M_X12_paysOff 2 [some (.inr (.inr 123)), some (.inl g), some (.inl 1), r3, r4, r5, r6] [] (km_A0 q' c s) Y Q ↔ Q none (km_A0 q' c s) Y' := by
  intro n
  induction n with
  | zero =>
    intro i p X Y o3 o4 o5 r3 r4 r5 r6 h3 hR hc i0 hi
    obtain ⟨f1, f2, f3, f4, f5, f6, f7, f8⟩ := hR
    obtain ⟨v, hv, ev⟩ := @c_firstOpen q c s X g (-1) hg f3 (Or.inl rfl)
    obtain ⟨u, hu, eu⟩ := @c_firstOpen q c s X g 1 hg f3 (Or.inr rfl)
    obtain ⟨a, b, ha, hb, hS⟩ := @m_scan q' c s Y g kn (X 119) hg k1 f1 r6 kn.toNat (kn - 1) (-1) (-1) (by omega) (by omega) (Or.inl ⟨rfl, fun j j0 j1 => absurd j1 (by omega)⟩) (Or.inl ⟨rfl, fun j j0 j1 => absurd j1 (by omega)⟩)
    have nv : v = -1 := by
      rcases hv with h | ⟨h1, h2, h3⟩
      · exact h.1
      · have := ksgz_neg.mp h2.2
        have := @kcnt_drop (fun k => False) (fun k => X 119 k ≠ 0) v h1.1 (by omega) (fun h => h) 10 (by omega) (fun k _ _ h => h.elim)
        have z := kcnt_none (P := fun _ => False) 10 (fun _ _ _ h => h)
        omega
    have na : a < 0 := by
      rcases ha with h | ⟨h1, h2, h3⟩
      · omega
      · have := h2.2
        have := @kcnt_drop (fun k => False) (fun k => X 119 k ≠ 0) a (by omega) (by omega) (fun h => h) 10 (by omega) (fun k _ _ h => h.elim)
        have z := kcnt_none (P := fun _ => False) 10 (fun _ _ _ h => h)
        omega
    exact ⟨X, Y, p, ⟨f1, f2, f3, f4, f5, f6, f7, f8⟩, kFC_rf, kFM_rf, fun Q => c_pay0 f4 ev eu (Or.inl nv) o3 o4 o5 Q, fun Q => m_pay0 h3 k0 k1 hS (Or.inl na) r3 r4 r5 Q⟩
  | succ n ih =>
    intro i p X Y o3 o4 o5 r3 r4 r5 r6 h3 hR hc i0 hi
    have hR0 := hR
    obtain ⟨f1, f2, f3, f4, f5, f6, f7, f8⟩ := hR
    obtain ⟨v, hv, ev⟩ := @c_firstOpen q c s X g (-1) hg f3 (Or.inl rfl)
    obtain ⟨u, hu, eu⟩ := @c_firstOpen q c s X g 1 hg f3 (Or.inr rfl)
    obtain ⟨a, b, ha, hb, hS⟩ := @m_scan q' c s Y g kn (X 119) hg k1 f1 r6 kn.toNat (kn - 1) (-1) (-1) (by omega) (by omega) (Or.inl ⟨rfl, fun j j0 j1 => absurd j1 (by omega)⟩) (Or.inl ⟨rfl, fun j j0 j1 => absurd j1 (by omega)⟩)
    have pv : (fun k => tb g k = true ∧ ksgz (X 119 k) = -1) = fun k => tb g k = true ∧ X 119 k < 0 := funext fun k => by rw [ksgz_neg]
    have pu : (fun k => tb g k = true ∧ ksgz (X 119 k) = 1) = fun k => tb g k = true ∧ 0 < X 119 k := funext fun k => by rw [ksgz_pos]
    rw [pv] at hv
    rw [pu] at hu
    have ea : a = v := kF1_un (kF2_1 ha k1 (fun j j0 j1 h => by have := f2 j j0 j1; have := h.2; omega)) hv
    have eb : b = u := kF1_un (kF2_1 hb k1 (fun j j0 j1 h => by have := f2 j j0 j1; have := h.2; omega)) hu
    subst ea
    subst eb
    by_cases no : a = -1 ∨ b = -1
    · exact ⟨X, Y, p, hR0, kFC_rf, kFM_rf, fun Q => c_pay0 f4 ev eu no o3 o4 o5 Q, fun Q => m_pay0 h3 k0 k1 hS (by omega) r3 r4 r5 Q⟩
    · have na : ¬ a = -1 := fun w => no (Or.inl w)
      have nb : ¬ b = -1 := fun w => no (Or.inr w)
      obtain ⟨v1, v2, -⟩ := hv.resolve_left (fun w => na w.1)
      obtain ⟨u1, u2, -⟩ := hu.resolve_left (fun w => nb w.1)
      have fa := v2.2
      have fb := u2.2
      have ba := f3 a v1.1 v1.2
      have bb := f3 b u1.1 u1.2
      have ab : a ≠ b := fun w => by rw [w] at fa; omega
      have ka : a < kn := by
        refine Classical.byContradiction fun w => ?_
        have := f2 a (by omega) v1.2; omega
      have kb : b < kn := by
        refine Classical.byContradiction fun w => ?_
        have := f2 b (by omega) u1.2; omega
      obtain ⟨N, hN⟩ : ∃ N : Int, N = if X 119 b < -X 119 a then X 119 b else -X 119 a := ⟨_, rfl⟩
      have bN : 0 ≤ N ∧ N ≤ 9999991 := by rw [hN]; split <;> omega
      obtain ⟨X1, dX⟩ : ∃ X1 : km_Mm, X1 = km_up (km_up (km_up (km_up (km_up (km_up X 119 a (X 119 a + N)) 119 b (X 119 b - N)) 120 p a) 121 p b) 122 p N) 113 6 (p + 1) := ⟨_, rfl⟩
      obtain ⟨Y1, dY⟩ : ∃ Y1 : km_Mm, Y1 = km_up (km_up (km_up (km_up (km_up (km_up Y 177 p a) 178 p b) 179 p N) 123 101 (p + 1)) 176 a (X 119 a + N)) 176 b (X 119 b - N) := ⟨_, rfl⟩
      obtain ⟨s1, s2, s3, s4⟩ := kpay_step hR0 v1.1 v1.2 u1.1 u1.2 fa fb hN X1 Y1 dX dY
      have c1 := (kcnt_b (P := fun k => X1 119 k ≠ 0) 10).1
      obtain ⟨X', Y', p', t1, t2, t3, t4, t5⟩ := ih (i + 1) (p + 1) X1 Y1 (some (.inl a)) (some (.inl b)) (some (.inl N)) (some (.inl a)) (some (.inl b)) (some (.inr (.inl N))) none ((s4 123 3 (by decide) (by decide)).trans h3) s1 (by omega) (by omega) (by omega)
      refine ⟨X', Y', p', t1, kFC_tr s3 t2, kFM_tr s4 t3, fun Q => ?_, fun Q => ?_⟩
      · rw [← t4 Q, dX]
        exact c_pay1 f4 ev eu i0 (by omega) f6 (by omega) v1.1 v1.2 u1.1 u1.2 ab ba bb bN hN.symm o3 o4 o5 Q
      · rw [← t5 Q, dY]
        exact m_pay1 h3 k0 k1 f5 hS f6 (by omega) v1.1 v1.2 u1.1 u1.2 ab (f1 a v1.1 ka) (f1 b u1.1 kb) ba bb bN hN r3 r4 r5 Q
end PY

