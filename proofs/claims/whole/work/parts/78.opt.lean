/-! ===== options in the reference ===== -/
/-- mm's cells of the reference are m's, but for scratch -/
def kMj (m mm : km_Mm) : Prop := ∀ b j : Int, 123 ≤ b → ¬ kJ b j → mm b j = m b j
theorem kMj_jk {m mm : km_Mm} (h : km_jk m mm) : kMj m mm := fun b j _ z => h b j z
theorem kMj_sr {m mm : km_Mm} {g : Int → Int} (h : kMj m mm) : kMj m (km_sr mm 130 g) := fun b j h1 h2 => by rw [km_sr_ne (fun e => h2 (by unfold kJ; omega))]; exact h b j h1 h2
theorem md_livesM {q : Nat × Int × Int × Int × Int} {c s : Nat} {m mm : km_Mm} {a : Int} (hb : kI_book m) (hj : kMj m mm) (ha : 0 ≤ a ∧ a < 10) :
    ∃ g : Int → Int, ∀ Q : Option km_V → km_Al → km_Mm → Prop, (km_E M_X12_lives [.inr (.inr 123), .inl a] (km_A0 q c s) mm Q ↔ Q (some (.inl (@ite Int (kA m a) (Classical.propDecidable _) 1 0))) (km_A0 q c s) (km_sr mm 130 g)) := by
  -- the memory with m's class cells and mm's cells of the reference
  have fix : ∀ b j : Int, fB b j → (fun b j => if 123 ≤ b then mm b j else m b j) b j = m b j := fun b j z => by
    unfold fB at z
    by_cases e : 123 ≤ b
    · simp only [if_pos e]; exact hj b j e (by unfold kJ; omega)
    · simp only [if_neg e]
  obtain ⟨b1, b2, b3, b4, b5, b6⟩ := id hb
  have E11 : mm 123 11 = m 5 2 := (hj 123 11 (by decide) (by unfold kJ; omega)).trans b2.2.2
  have E5 : mm 123 5 = m 5 3 := (hj 123 5 (by decide) (by unfold kJ; omega)).trans b3.2.2
  have e126 : mm 126 = m 126 := funext fun j => hj 126 j (by decide) (kJ_no (by decide))
  have e127 : mm 127 = m 127 := funext fun j => hj 127 j (by decide) (kJ_no (by decide))
  have e128 : mm 128 = m 128 := funext fun j => hj 128 j (by decide) (kJ_no (by decide))
  have e129 : mm 129 = m 129 := funext fun j => hj 129 j (by decide) (kJ_no (by decide))
  have rk := fun Q => @r_know q c s (m 5 3) mm ⟨b3.1, b3.2.1⟩ (by intro i i0 i1; rw [e127]; exact (b5 i i0 i1).1) Q
  obtain ⟨c1, c2⟩ := kI_cnt hb b3.1 (Int.le_refl _) (C := mm 130)
  refine ⟨kq_kn (mm 126) (mm 127) (m 5 3).toNat (kq_k0 (m 5 3) (mm 130) 0), fun Q => ?_⟩
  have fr2 : kI_fresh m (km_sr mm 130 (kq_kn (mm 126) (mm 127) (m 5 3).toNat (kq_k0 (m 5 3) (mm 130) 0))) (m 5 3) := by
    unfold kI_fresh
    simp (config := { decide := true }) only [e126, e127, e128, e129, Int.add_sub_cancel, true_or, or_true, false_or, or_false, false_and, and_false, if_true, if_false, km_sr_sf, km_sr_of, km_up_of, km_sr_us, km_sr_uo, km_sr_sr, km_sr_fl, km_sr_flo, km_up_up, km_up_lt, km_lay, km_unL, km_up_o, km_upx_i, km_upx_s, km_fl2_o, km_is, Option.some.injEq, Sum.inl.injEq, Sum.inr.injEq, Option.toList_some, Option.toList_none, List.cons_append, List.nil_append, ne_eq, true_and, and_true, and_self, not_true_eq_false, not_false_eq_true, true_implies, false_implies, reduceCtorEq]
    exact ⟨⟨b3.1, Int.le_refl _⟩, E5, c1, c2⟩
  have k1 := (kI_al hb fr2 ha b2.1).1
  have l1 := fun Q => @r_misAlive q c s (km_sr mm 130 (kq_kn (mm 126) (mm 127) (m 5 3).toNat (kq_k0 (m 5 3) (mm 130) 0))) a (m 5 2) (by simp (config := { decide := true }) only [Int.add_sub_cancel, true_or, or_true, false_or, or_false, false_and, and_false, if_true, if_false, km_sr_sf, km_sr_of, km_up_of, km_sr_us, km_sr_uo, km_sr_sr, km_sr_fl, km_sr_flo, km_up_up, km_up_lt, km_lay, km_unL, km_up_o, km_upx_i, km_upx_s, km_fl2_o, km_is, Option.some.injEq, Sum.inl.injEq, Sum.inr.injEq, Option.toList_some, Option.toList_none, List.cons_append, List.nil_append, ne_eq, true_and, and_true, and_self, not_true_eq_false, not_false_eq_true, true_implies, false_implies, reduceCtorEq]; omega) Q
  rw [e_X12_lives]
  simp (config := { decide := true }) only [g_X12_lives, E5, E11, rk, l1, Int.add_sub_cancel, true_or, or_true, false_or, or_false, false_and, and_false, if_true, if_false, km_sr_sf, km_sr_of, km_up_of, km_sr_us, km_sr_uo, km_sr_sr, km_sr_fl, km_sr_flo, km_up_up, km_up_lt, km_lay, km_unL, km_up_o, km_upx_i, km_upx_s, km_fl2_o, km_is, Option.some.injEq, Sum.inl.injEq, Sum.inr.injEq, Option.toList_some, Option.toList_none, List.cons_append, List.nil_append, ne_eq, true_and, and_true, and_self, not_true_eq_false, not_false_eq_true, true_implies, false_implies, reduceCtorEq]
  unfold kA
  by_cases z : kL m (m 5 3) a (m 5 2)
  · have z2 := k1.mpr z
    simp (config := { decide := true }) only [z, z2, Int.add_sub_cancel, true_or, or_true, false_or, or_false, false_and, and_false, if_true, if_false, km_sr_sf, km_sr_of, km_up_of, km_sr_us, km_sr_uo, km_sr_sr, km_sr_fl, km_sr_flo, km_up_up, km_up_lt, km_lay, km_unL, km_up_o, km_upx_i, km_upx_s, km_fl2_o, km_is, Option.some.injEq, Sum.inl.injEq, Sum.inr.injEq, Option.toList_some, Option.toList_none, List.cons_append, List.nil_append, ne_eq, true_and, and_true, and_self, not_true_eq_false, not_false_eq_true, true_implies, false_implies, reduceCtorEq]
  · have z2 : ¬ kq_al (km_sr mm 130 (kq_kn (mm 126) (mm 127) (m 5 3).toNat (kq_k0 (m 5 3) (mm 130) 0))) a (m 5 2) := fun w => z (k1.mp w)
    simp (config := { decide := true }) only [z, z2, Int.add_sub_cancel, true_or, or_true, false_or, or_false, false_and, and_false, if_true, if_false, km_sr_sf, km_sr_of, km_up_of, km_sr_us, km_sr_uo, km_sr_sr, km_sr_fl, km_sr_flo, km_up_up, km_up_lt, km_lay, km_unL, km_up_o, km_upx_i, km_upx_s, km_fl2_o, km_is, Option.some.injEq, Sum.inl.injEq, Sum.inr.injEq, Option.toList_some, Option.toList_none, List.cons_append, List.nil_append, ne_eq, true_and, and_true, and_self, not_true_eq_false, not_false_eq_true, true_implies, false_implies, reduceCtorEq]
theorem md_regretOf {q : Nat × Int × Int × Int × Int} {c s : Nat} {m mm : km_Mm} {o k : Int} (hb : kI_book m) (hO : kI_opt m) (hj : kMj m mm) (o0 : 0 ≤ o) (o1 : o < m 19 1) (k0 : 0 ≤ k) (k1 : k < m 5 1) :
    ∃ g : Int → Int, ∀ Q : Option km_V → km_Al → km_Mm → Prop, (km_E M_X12_regretOf [.inr (.inr 123), .inl k, .inl o] (km_A0 q c s) mm Q ↔ Q (some (.inl (kQ m o k))) (km_A0 q c s) (km_sr mm 130 g)) := by
  have b1 := hb.1
  have f4 := hO.1
  obtain ⟨g, lv⟩ := @md_livesM q c s m mm k hb hj ⟨k0, by omega⟩
  have e153 : mm 153 = m 153 := funext fun j => hj 153 j (by decide) (kJ_no (by decide))
  have r := (hO.2.2 o k o0 o1 k0 (by omega)).2.1 k1
  refine ⟨g, fun Q => ?_⟩
  rw [e_X12_regretOf]
  unfold kQ
  by_cases z : kA m k
  · simp (config := { decide := true }) (disch := first | decide | assumption | omega | (simp (config := { decide := true }) only [km_sr_sf, km_sr_of, km_up_of, km_up_o, km_upx_i, km_upx_s, km_fl2_o, ne_eq, not_true_eq_false, not_false_eq_true] <;> omega) | fail) only [g_X12_regretOf, lv, z, e153, r, ka_lt, ka_le, ka_nlt, ka_nle, ka_ne, ka_eq, Int.add_sub_cancel, true_or, or_true, false_or, or_false, false_and, and_false, if_true, if_false, ka_lo, ka_hi, ka_nn, km_sr_sf, km_sr_of, km_up_of, km_sr_us, km_sr_uo, km_sr_sr, km_sr_fl, km_sr_flo, km_up_up, km_up_lt, km_lay, km_unL, km_up_o, km_upx_i, km_upx_s, km_fl2_o, km_is, Option.some.injEq, Sum.inl.injEq, Sum.inr.injEq, Option.toList_some, Option.toList_none, List.cons_append, List.nil_append, ne_eq, true_and, and_true, and_self, not_true_eq_false, not_false_eq_true, true_implies, false_implies, reduceCtorEq]
  · simp (config := { decide := true }) (disch := first | decide | assumption | omega | (simp (config := { decide := true }) only [km_sr_sf, km_sr_of, km_up_of, km_up_o, km_upx_i, km_upx_s, km_fl2_o, ne_eq, not_true_eq_false, not_false_eq_true] <;> omega) | fail) only [g_X12_regretOf, lv, z, Int.add_sub_cancel, true_or, or_true, false_or, or_false, false_and, and_false, if_true, if_false, ka_lo, ka_hi, ka_nn, km_sr_sf, km_sr_of, km_up_of, km_sr_us, km_sr_uo, km_sr_sr, km_sr_fl, km_sr_flo, km_up_up, km_up_lt, km_lay, km_unL, km_up_o, km_upx_i, km_upx_s, km_fl2_o, km_is, Option.some.injEq, Sum.inl.injEq, Sum.inr.injEq, Option.toList_some, Option.toList_none, List.cons_append, List.nil_append, ne_eq, true_and, and_true, and_self, not_true_eq_false, not_false_eq_true, true_implies, false_implies, reduceCtorEq]
theorem md_canCome {q : Nat × Int × Int × Int × Int} {c s : Nat} {m mm : km_Mm} {o k : Int} (hb : kI_book m) (hO : kI_opt m) (hj : kMj m mm) (o0 : 0 ≤ o) (o1 : o < m 19 1) (k0 : 0 ≤ k) (k1 : k < m 5 1) :
    ∃ g : Int → Int, ∀ Q : Option km_V → km_Al → km_Mm → Prop, (km_E M_X12_canCome [.inr (.inr 123), .inl k, .inl o] (km_A0 q c s) mm Q ↔ Q (some (.inl (@ite Int (kC m o k) (Classical.propDecidable _) 1 0))) (km_A0 q c s) (km_sr mm 130 g)) := by
  obtain ⟨g, lv⟩ := @md_regretOf q c s m mm o k hb hO hj o0 o1 k0 k1
  refine ⟨g, fun Q => ?_⟩
  rw [e_X12_canCome]
  unfold kC
  by_cases z : kQ m o k < 100
  · simp (config := { decide := true }) (disch := first | decide | assumption | omega | (simp (config := { decide := true }) only [km_sr_sf, km_sr_of, km_up_of, km_up_o, km_upx_i, km_upx_s, km_fl2_o, ne_eq, not_true_eq_false, not_false_eq_true] <;> omega) | fail) only [g_X12_canCome, lv, z, ka_lt, ka_le, ka_nlt, ka_nle, ka_ne, ka_eq, Int.add_sub_cancel, true_or, or_true, false_or, or_false, false_and, and_false, if_true, if_false, ka_lo, ka_hi, ka_nn, km_sr_sf, km_sr_of, km_up_of, km_sr_us, km_sr_uo, km_sr_sr, km_sr_fl, km_sr_flo, km_up_up, km_up_lt, km_lay, km_unL, km_up_o, km_upx_i, km_upx_s, km_fl2_o, km_is, Option.some.injEq, Sum.inl.injEq, Sum.inr.injEq, Option.toList_some, Option.toList_none, List.cons_append, List.nil_append, ne_eq, true_and, and_true, and_self, not_true_eq_false, not_false_eq_true, true_implies, false_implies, reduceCtorEq]
  · simp (config := { decide := true }) (disch := first | decide | assumption | omega | (simp (config := { decide := true }) only [km_sr_sf, km_sr_of, km_up_of, km_up_o, km_upx_i, km_upx_s, km_fl2_o, ne_eq, not_true_eq_false, not_false_eq_true] <;> omega) | fail) only [g_X12_canCome, lv, z, ka_lt, ka_le, ka_nlt, ka_nle, ka_ne, ka_eq, Int.add_sub_cancel, true_or, or_true, false_or, or_false, false_and, and_false, if_true, if_false, ka_lo, ka_hi, ka_nn, km_sr_sf, km_sr_of, km_up_of, km_sr_us, km_sr_uo, km_sr_sr, km_sr_fl, km_sr_flo, km_up_up, km_up_lt, km_lay, km_unL, km_up_o, km_upx_i, km_upx_s, km_fl2_o, km_is, Option.some.injEq, Sum.inl.injEq, Sum.inr.injEq, Option.toList_some, Option.toList_none, List.cons_append, List.nil_append, ne_eq, true_and, and_true, and_self, not_true_eq_false, not_false_eq_true, true_implies, false_implies, reduceCtorEq]
theorem md_comeOf {q : Nat × Int × Int × Int × Int} {c s : Nat} {m mm : km_Mm} {o : Int} (hb : kI_book m) (hO : kI_opt m) (hj : kMj m mm) (o0 : 0 ≤ o) (o1 : o < m 19 1) :
    ∃ g : Int → Int, ∀ Q : Option km_V → km_Al → km_Mm → Prop, (km_E M_X12_comeOf [.inr (.inr 123), .inl o] (km_A0 q c s) mm Q ↔ Q (some (.inl (kcnt (kC m o) (m 5 1).toNat))) (km_A0 q c s) (km_sr mm 130 g)) := by
  have b1 := hb.1
  have key : ∀ (n i : Nat) (f : Int → Int), (i : Int) + n = m 5 1 → ∃ g : Int → Int, ∀ Q : Option km_V → km_Al → km_Mm → Prop, (km_G M_X12_comeOf 4 [some (.inr (.inr 123)), some (.inl o), some (.inl (kcnt (kC m o) i)), some (.inl (i : Int))] [] (km_A0 q c s) (km_sr mm 130 f) Q ↔ Q (some (.inl (kcnt (kC m o) (m 5 1).toNat))) (km_A0 q c s) (km_sr mm 130 g)) := by
    intro n
    induction n with
    | zero =>
      intro i f h
      have e1 : mm 123 3 = m 5 1 := (hj 123 3 (by decide) (by unfold kJ; omega)).trans b1.2.2
      have e2 : i = (m 5 1).toNat := by omega
      subst e2
      have e3 : m 5 1 ≤ ((m 5 1).toNat : Int) := by omega
      refine ⟨f, fun Q => ?_⟩
      rw [g_X12_comeOf_4]
      simp (config := { decide := true }) (disch := first | decide | assumption | omega | (simp (config := { decide := true }) only [km_sr_sf, km_sr_of, km_up_of, km_up_o, km_upx_i, km_upx_s, km_fl2_o, ne_eq, not_true_eq_false, not_false_eq_true] <;> omega) | fail) only [g_X12_comeOf, e1, e3, Int.add_sub_cancel, true_or, or_true, false_or, or_false, false_and, and_false, if_true, if_false, ka_lo, ka_hi, ka_nn, km_sr_sf, km_sr_of, km_up_of, km_sr_us, km_sr_uo, km_sr_sr, km_sr_fl, km_sr_flo, km_up_up, km_up_lt, km_lay, km_unL, km_up_o, km_upx_i, km_upx_s, km_fl2_o, km_is, Option.some.injEq, Sum.inl.injEq, Sum.inr.injEq, Option.toList_some, Option.toList_none, List.cons_append, List.nil_append, ne_eq, true_and, and_true, and_self, not_true_eq_false, not_false_eq_true, true_implies, false_implies, reduceCtorEq]
    | succ n ih =>
      intro i f h
      have e1 : mm 123 3 = m 5 1 := (hj 123 3 (by decide) (by unfold kJ; omega)).trans b1.2.2
      have e3 : ¬ m 5 1 ≤ (i : Int) := by omega
      obtain ⟨g1, lv⟩ := @md_canCome q c s m (km_sr mm 130 f) o i hb hO (kMj_sr hj) o0 o1 (by omega) (by omega)
      obtain ⟨g2, i1⟩ := ih (i + 1) g1 (by omega)
      have e4 : ((i + 1 : Nat) : Int) = (i : Int) + 1 := by omega
      have u : kcnt (kC m o) (i + 1) = kcnt (kC m o) i + @ite Int (kC m o i) (Classical.propDecidable _) 1 0 := by rw [kcnt]
      have bd := @kcnt_b (kC m o) i
      rw [e4, u] at i1
      refine ⟨g2, fun Q => ?_⟩
      rw [g_X12_comeOf_4]
      by_cases z : kC m o i
      · rw [if_pos z] at i1
        simp (config := { decide := true }) (disch := first | decide | assumption | omega | (simp (config := { decide := true }) only [km_sr_sf, km_sr_of, km_up_of, km_up_o, km_upx_i, km_upx_s, km_fl2_o, ne_eq, not_true_eq_false, not_false_eq_true] <;> omega) | fail) only [g_X12_comeOf, e1, e3, lv, z, i1, Int.add_sub_cancel, true_or, or_true, false_or, or_false, false_and, and_false, if_true, if_false, ka_lo, ka_hi, ka_nn, km_sr_sf, km_sr_of, km_up_of, km_sr_us, km_sr_uo, km_sr_sr, km_sr_fl, km_sr_flo, km_up_up, km_up_lt, km_lay, km_unL, km_up_o, km_upx_i, km_upx_s, km_fl2_o, km_is, Option.some.injEq, Sum.inl.injEq, Sum.inr.injEq, Option.toList_some, Option.toList_none, List.cons_append, List.nil_append, ne_eq, true_and, and_true, and_self, not_true_eq_false, not_false_eq_true, true_implies, false_implies, reduceCtorEq]
      · rw [if_neg z, Int.add_zero] at i1
        simp (config := { decide := true }) (disch := first | decide | assumption | omega | (simp (config := { decide := true }) only [km_sr_sf, km_sr_of, km_up_of, km_up_o, km_upx_i, km_upx_s, km_fl2_o, ne_eq, not_true_eq_false, not_false_eq_true] <;> omega) | fail) only [g_X12_comeOf, e1, e3, lv, z, i1, Int.add_zero, Int.add_sub_cancel, true_or, or_true, false_or, or_false, false_and, and_false, if_true, if_false, ka_lo, ka_hi, ka_nn, km_sr_sf, km_sr_of, km_up_of, km_sr_us, km_sr_uo, km_sr_sr, km_sr_fl, km_sr_flo, km_up_up, km_up_lt, km_lay, km_unL, km_up_o, km_upx_i, km_upx_s, km_fl2_o, km_is, Option.some.injEq, Sum.inl.injEq, Sum.inr.injEq, Option.toList_some, Option.toList_none, List.cons_append, List.nil_append, ne_eq, true_and, and_true, and_self, not_true_eq_false, not_false_eq_true, true_implies, false_implies, reduceCtorEq]
  obtain ⟨g, h⟩ := key (m 5 1).toNat 0 (mm 130) (by omega)
  rw [km_sr_id] at h
  refine ⟨g, fun Q => ?_⟩
  have h := h Q
  have e : kcnt (kC m o) 0 = 0 := rfl
  rw [e] at h
  rw [e_X12_comeOf]
  simp (config := { decide := true }) only [g_X12_comeOf, Int.add_sub_cancel, true_or, or_true, false_or, or_false, false_and, and_false, if_true, if_false, km_sr_sf, km_sr_of, km_up_of, km_sr_us, km_sr_uo, km_sr_sr, km_sr_fl, km_sr_flo, km_up_up, km_up_lt, km_lay, km_unL, km_up_o, km_upx_i, km_upx_s, km_fl2_o, km_is, Option.some.injEq, Sum.inl.injEq, Sum.inr.injEq, Option.toList_some, Option.toList_none, List.cons_append, List.nil_append, ne_eq, true_and, and_true, and_self, not_true_eq_false, not_false_eq_true, true_implies, false_implies, reduceCtorEq]
  exact h
theorem md_beats {q : Nat × Int × Int × Int × Int} {c s : Nat} {m mm : km_Mm} {a b : Int} (hb : kI_book m) (hO : kI_opt m) (hj : kMj m mm) (a0 : 0 ≤ a) (a1 : a < m 19 1) (b0 : 0 ≤ b) (b1 : b < m 19 1) :
    ∃ g : Int → Int, ∀ Q : Option km_V → km_Al → km_Mm → Prop, (km_E M_X12_beats [.inr (.inr 123), .inl a, .inl b] (km_A0 q c s) mm Q ↔ Q (some (.inl (if 0 < kbt m a b (m 5 1).toNat then 1 else 0))) (km_A0 q c s) (km_sr mm 130 g)) := by
  have h1 := hb.1
  have key : ∀ (n i : Nat) (f : Int → Int) (o5 o6 : Option km_V), (i : Int) + n = m 5 1 → ∃ g : Int → Int, ∀ Q : Option km_V → km_Al → km_Mm → Prop, (km_G M_X12_beats 5 [some (.inr (.inr 123)), some (.inl a), some (.inl b), some (.inl (kbt m a b i)), some (.inl (i : Int)), o5, o6] [] (km_A0 q c s) (km_sr mm 130 f) Q ↔ Q (some (.inl (if 0 < kbt m a b (m 5 1).toNat then 1 else 0))) (km_A0 q c s) (km_sr mm 130 g)) := by
    intro n
    induction n with
    | zero =>
      intro i f o5 o6 h
      have e1 : mm 123 3 = m 5 1 := (hj 123 3 (by decide) (by unfold kJ; omega)).trans h1.2.2
      have e2 : i = (m 5 1).toNat := by omega
      subst e2
      have e3 : m 5 1 ≤ ((m 5 1).toNat : Int) := by omega
      refine ⟨f, fun Q => ?_⟩
      rw [g_X12_beats_5]
      by_cases z : 0 < kbt m a b (m 5 1).toNat <;> simp (config := { decide := true }) (disch := first | decide | assumption | omega | (simp (config := { decide := true }) only [km_sr_sf, km_sr_of, km_up_of, km_up_o, km_upx_i, km_upx_s, km_fl2_o, ne_eq, not_true_eq_false, not_false_eq_true] <;> omega) | fail) only [g_X12_beats, e1, e3, z, ka_lt, ka_le, ka_nlt, ka_nle, ka_ne, ka_eq, Int.add_sub_cancel, true_or, or_true, false_or, or_false, false_and, and_false, if_true, if_false, ka_lo, ka_hi, ka_nn, km_sr_sf, km_sr_of, km_up_of, km_sr_us, km_sr_uo, km_sr_sr, km_sr_fl, km_sr_flo, km_up_up, km_up_lt, km_lay, km_unL, km_up_o, km_upx_i, km_upx_s, km_fl2_o, km_is, Option.some.injEq, Sum.inl.injEq, Sum.inr.injEq, Option.toList_some, Option.toList_none, List.cons_append, List.nil_append, ne_eq, true_and, and_true, and_self, not_true_eq_false, not_false_eq_true, true_implies, false_implies, reduceCtorEq]
    | succ n ih =>
      intro i f o5 o6 h
      have e1 : mm 123 3 = m 5 1 := (hj 123 3 (by decide) (by unfold kJ; omega)).trans h1.2.2
      have e3 : ¬ m 5 1 ≤ (i : Int) := by omega
      have bd := @kbt_b m a b i
      have u : kbt m a b (i + 1) = kbt m a b i + (if kQ m b i < kQ m a i then -1 else if kQ m b i = kQ m a i then 0 else 1) := rfl
      have e4 : ((i + 1 : Nat) : Int) = (i : Int) + 1 := by omega
      obtain ⟨g0, lv⟩ := @md_livesM q c s m (km_sr mm 130 f) i hb (kMj_sr hj) ⟨by omega, by omega⟩
      by_cases z : kA m i
      · obtain ⟨g1, r1⟩ := @md_regretOf q c s m (km_sr mm 130 g0) a i hb hO (kMj_sr hj) a0 a1 (by omega) (by omega)
        obtain ⟨g2, r2⟩ := @md_regretOf q c s m (km_sr mm 130 g1) b i hb hO (kMj_sr hj) b0 b1 (by omega) (by omega)
        obtain ⟨g3, i1⟩ := ih (i + 1) g2 (some (.inl (kQ m a i))) (some (.inl (kQ m b i))) (by omega)
        rw [e4, u] at i1
        refine ⟨g3, fun Q => ?_⟩
        rw [g_X12_beats_5]
        by_cases z1 : kQ m a i < kQ m b i
        · rw [if_neg (by omega), if_neg (by omega)] at i1
          simp (config := { decide := true }) (disch := first | decide | assumption | omega | (simp (config := { decide := true }) only [km_sr_sf, km_sr_of, km_up_of, km_up_o, km_upx_i, km_upx_s, km_fl2_o, ne_eq, not_true_eq_false, not_false_eq_true] <;> omega) | fail) only [g_X12_beats, e1, e3, lv, z, r1, r2, i1, ka_lt, ka_le, ka_nlt, ka_nle, ka_ne, ka_eq, Int.add_sub_cancel, true_or, or_true, false_or, or_false, false_and, and_false, if_true, if_false, ka_lo, ka_hi, ka_nn, km_sr_sf, km_sr_of, km_up_of, km_sr_us, km_sr_uo, km_sr_sr, km_sr_fl, km_sr_flo, km_up_up, km_up_lt, km_lay, km_unL, km_up_o, km_upx_i, km_upx_s, km_fl2_o, km_is, Option.some.injEq, Sum.inl.injEq, Sum.inr.injEq, Option.toList_some, Option.toList_none, List.cons_append, List.nil_append, ne_eq, true_and, and_true, and_self, not_true_eq_false, not_false_eq_true, true_implies, false_implies, reduceCtorEq]
        · by_cases z2 : kQ m b i < kQ m a i
          · rw [if_pos z2] at i1
            simp (config := { decide := true }) (disch := first | decide | assumption | omega | (simp (config := { decide := true }) only [km_sr_sf, km_sr_of, km_up_of, km_up_o, km_upx_i, km_upx_s, km_fl2_o, ne_eq, not_true_eq_false, not_false_eq_true] <;> omega) | fail) only [g_X12_beats, e1, e3, lv, z, r1, r2, i1, ka_lt, ka_le, ka_nlt, ka_nle, ka_ne, ka_eq, Int.add_sub_cancel, true_or, or_true, false_or, or_false, false_and, and_false, if_true, if_false, ka_lo, ka_hi, ka_nn, km_sr_sf, km_sr_of, km_up_of, km_sr_us, km_sr_uo, km_sr_sr, km_sr_fl, km_sr_flo, km_up_up, km_up_lt, km_lay, km_unL, km_up_o, km_upx_i, km_upx_s, km_fl2_o, km_is, Option.some.injEq, Sum.inl.injEq, Sum.inr.injEq, Option.toList_some, Option.toList_none, List.cons_append, List.nil_append, ne_eq, true_and, and_true, and_self, not_true_eq_false, not_false_eq_true, true_implies, false_implies, reduceCtorEq]
          · rw [if_neg z2, if_pos (by omega), Int.add_zero] at i1
            simp (config := { decide := true }) (disch := first | decide | assumption | omega | (simp (config := { decide := true }) only [km_sr_sf, km_sr_of, km_up_of, km_up_o, km_upx_i, km_upx_s, km_fl2_o, ne_eq, not_true_eq_false, not_false_eq_true] <;> omega) | fail) only [g_X12_beats, e1, e3, lv, z, r1, r2, i1, Int.add_zero, ka_lt, ka_le, ka_nlt, ka_nle, ka_ne, ka_eq, Int.add_sub_cancel, true_or, or_true, false_or, or_false, false_and, and_false, if_true, if_false, ka_lo, ka_hi, ka_nn, km_sr_sf, km_sr_of, km_up_of, km_sr_us, km_sr_uo, km_sr_sr, km_sr_fl, km_sr_flo, km_up_up, km_up_lt, km_lay, km_unL, km_up_o, km_upx_i, km_upx_s, km_fl2_o, km_is, Option.some.injEq, Sum.inl.injEq, Sum.inr.injEq, Option.toList_some, Option.toList_none, List.cons_append, List.nil_append, ne_eq, true_and, and_true, and_self, not_true_eq_false, not_false_eq_true, true_implies, false_implies, reduceCtorEq]
      · obtain ⟨g3, i1⟩ := ih (i + 1) g0 o5 o6 (by omega)
        have q1 : kQ m a i = 100 := by unfold kQ; rw [if_neg z]
        have q2 : kQ m b i = 100 := by unfold kQ; rw [if_neg z]
        rw [e4, u, q1, q2, if_neg (by omega), if_pos rfl, Int.add_zero] at i1
        refine ⟨g3, fun Q => ?_⟩
        rw [g_X12_beats_5]
        simp (config := { decide := true }) (disch := first | decide | assumption | omega | (simp (config := { decide := true }) only [km_sr_sf, km_sr_of, km_up_of, km_up_o, km_upx_i, km_upx_s, km_fl2_o, ne_eq, not_true_eq_false, not_false_eq_true] <;> omega) | fail) only [g_X12_beats, e1, e3, lv, z, i1, Int.add_sub_cancel, true_or, or_true, false_or, or_false, false_and, and_false, if_true, if_false, ka_lo, ka_hi, ka_nn, km_sr_sf, km_sr_of, km_up_of, km_sr_us, km_sr_uo, km_sr_sr, km_sr_fl, km_sr_flo, km_up_up, km_up_lt, km_lay, km_unL, km_up_o, km_upx_i, km_upx_s, km_fl2_o, km_is, Option.some.injEq, Sum.inl.injEq, Sum.inr.injEq, Option.toList_some, Option.toList_none, List.cons_append, List.nil_append, ne_eq, true_and, and_true, and_self, not_true_eq_false, not_false_eq_true, true_implies, false_implies, reduceCtorEq]
  obtain ⟨g, h⟩ := key (m 5 1).toNat 0 (mm 130) none none (by omega)
  rw [km_sr_id] at h
  refine ⟨g, fun Q => ?_⟩
  have h := h Q
  have e : kbt m a b 0 = 0 := rfl
  rw [e] at h
  rw [e_X12_beats]
  simp (config := { decide := true }) only [g_X12_beats, Int.add_sub_cancel, true_or, or_true, false_or, or_false, false_and, and_false, if_true, if_false, km_sr_sf, km_sr_of, km_up_of, km_sr_us, km_sr_uo, km_sr_sr, km_sr_fl, km_sr_flo, km_up_up, km_up_lt, km_lay, km_unL, km_up_o, km_upx_i, km_upx_s, km_fl2_o, km_is, Option.some.injEq, Sum.inl.injEq, Sum.inr.injEq, Option.toList_some, Option.toList_none, List.cons_append, List.nil_append, ne_eq, true_and, and_true, and_self, not_true_eq_false, not_false_eq_true, true_implies, false_implies, reduceCtorEq]
  exact h
/-- how many of a branch are alive now -/
def kPe (m : km_Mm) (b : Int) : Int → Prop := fun k => m 8 k = b ∧ kA m k
theorem md_peopleOf {q : Nat × Int × Int × Int × Int} {c s : Nat} {m mm : km_Mm} {b : Int} (hb : kI_book m) (hT : kI_trait m) (hj : kMj m mm) :
    ∃ g : Int → Int, ∀ Q : Option km_V → km_Al → km_Mm → Prop, (km_E M_X12_peopleOf [.inr (.inr 123), .inl b] (km_A0 q c s) mm Q ↔ Q (some (.inl (kcnt (kPe m b) (m 5 1).toNat))) (km_A0 q c s) (km_sr mm 130 g)) := by
  have h1 := hb.1
  have e125 : mm 125 = m 125 := funext fun j => hj 125 j (by decide) (kJ_no (by decide))
  have key : ∀ (n i : Nat) (f : Int → Int), (i : Int) + n = m 5 1 → ∃ g : Int → Int, ∀ Q : Option km_V → km_Al → km_Mm → Prop, (km_G M_X12_peopleOf 4 [some (.inr (.inr 123)), some (.inl b), some (.inl (kcnt (kPe m b) i)), some (.inl (i : Int))] [] (km_A0 q c s) (km_sr mm 130 f) Q ↔ Q (some (.inl (kcnt (kPe m b) (m 5 1).toNat))) (km_A0 q c s) (km_sr mm 130 g)) := by
    intro n
    induction n with
    | zero =>
      intro i f h
      have e1 : mm 123 3 = m 5 1 := (hj 123 3 (by decide) (by unfold kJ; omega)).trans h1.2.2
      have e2 : i = (m 5 1).toNat := by omega
      subst e2
      have e3 : m 5 1 ≤ ((m 5 1).toNat : Int) := by omega
      refine ⟨f, fun Q => ?_⟩
      rw [g_X12_peopleOf_4]
      simp (config := { decide := true }) (disch := first | decide | assumption | omega | (simp (config := { decide := true }) only [km_sr_sf, km_sr_of, km_up_of, km_up_o, km_upx_i, km_upx_s, km_fl2_o, ne_eq, not_true_eq_false, not_false_eq_true] <;> omega) | fail) only [g_X12_peopleOf, e1, e3, Int.add_sub_cancel, true_or, or_true, false_or, or_false, false_and, and_false, if_true, if_false, ka_lo, ka_hi, ka_nn, km_sr_sf, km_sr_of, km_up_of, km_sr_us, km_sr_uo, km_sr_sr, km_sr_fl, km_sr_flo, km_up_up, km_up_lt, km_lay, km_unL, km_up_o, km_upx_i, km_upx_s, km_fl2_o, km_is, Option.some.injEq, Sum.inl.injEq, Sum.inr.injEq, Option.toList_some, Option.toList_none, List.cons_append, List.nil_append, ne_eq, true_and, and_true, and_self, not_true_eq_false, not_false_eq_true, true_implies, false_implies, reduceCtorEq]
    | succ n ih =>
      intro i f h
      have e1 : mm 123 3 = m 5 1 := (hj 123 3 (by decide) (by unfold kJ; omega)).trans h1.2.2
      have e3 : ¬ m 5 1 ≤ (i : Int) := by omega
      have tr := (hT i (by omega) (by omega)).1.2.1
      have e4 : ((i + 1 : Nat) : Int) = (i : Int) + 1 := by omega
      have u : kcnt (kPe m b) (i + 1) = kcnt (kPe m b) i + @ite Int (kPe m b i) (Classical.propDecidable _) 1 0 := by rw [kcnt]
      have bd := @kcnt_b (kPe m b) i
      by_cases z0 : m 8 i = b
      · obtain ⟨g1, lv⟩ := @md_livesM q c s m (km_sr mm 130 f) i hb (kMj_sr hj) ⟨by omega, by omega⟩
        obtain ⟨g2, i1⟩ := ih (i + 1) g1 (by omega)
        rw [e4, u] at i1
        refine ⟨g2, fun Q => ?_⟩
        rw [g_X12_peopleOf_4]
        by_cases z : kA m i
        · rw [if_pos ⟨z0, z⟩] at i1
          simp (config := { decide := true }) (disch := first | decide | assumption | omega | (simp (config := { decide := true }) only [km_sr_sf, km_sr_of, km_up_of, km_up_o, km_upx_i, km_upx_s, km_fl2_o, ne_eq, not_true_eq_false, not_false_eq_true] <;> omega) | fail) only [g_X12_peopleOf, e1, e3, e125, tr, z0, lv, z, i1, ka_lt, ka_le, ka_nlt, ka_nle, ka_ne, ka_eq, Int.add_sub_cancel, true_or, or_true, false_or, or_false, false_and, and_false, if_true, if_false, ka_lo, ka_hi, ka_nn, km_sr_sf, km_sr_of, km_up_of, km_sr_us, km_sr_uo, km_sr_sr, km_sr_fl, km_sr_flo, km_up_up, km_up_lt, km_lay, km_unL, km_up_o, km_upx_i, km_upx_s, km_fl2_o, km_is, Option.some.injEq, Sum.inl.injEq, Sum.inr.injEq, Option.toList_some, Option.toList_none, List.cons_append, List.nil_append, ne_eq, true_and, and_true, and_self, not_true_eq_false, not_false_eq_true, true_implies, false_implies, reduceCtorEq]
        · rw [if_neg (fun w => z w.2), Int.add_zero] at i1
          simp (config := { decide := true }) (disch := first | decide | assumption | omega | (simp (config := { decide := true }) only [km_sr_sf, km_sr_of, km_up_of, km_up_o, km_upx_i, km_upx_s, km_fl2_o, ne_eq, not_true_eq_false, not_false_eq_true] <;> omega) | fail) only [g_X12_peopleOf, e1, e3, e125, tr, z0, lv, z, i1, Int.add_zero, ka_lt, ka_le, ka_nlt, ka_nle, ka_ne, ka_eq, Int.add_sub_cancel, true_or, or_true, false_or, or_false, false_and, and_false, if_true, if_false, ka_lo, ka_hi, ka_nn, km_sr_sf, km_sr_of, km_up_of, km_sr_us, km_sr_uo, km_sr_sr, km_sr_fl, km_sr_flo, km_up_up, km_up_lt, km_lay, km_unL, km_up_o, km_upx_i, km_upx_s, km_fl2_o, km_is, Option.some.injEq, Sum.inl.injEq, Sum.inr.injEq, Option.toList_some, Option.toList_none, List.cons_append, List.nil_append, ne_eq, true_and, and_true, and_self, not_true_eq_false, not_false_eq_true, true_implies, false_implies, reduceCtorEq]
      · obtain ⟨g2, i1⟩ := ih (i + 1) f (by omega)
        rw [e4, u, if_neg (fun w => z0 w.1), Int.add_zero] at i1
        refine ⟨g2, fun Q => ?_⟩
        rw [g_X12_peopleOf_4]
        simp (config := { decide := true }) (disch := first | decide | assumption | omega | (simp (config := { decide := true }) only [km_sr_sf, km_sr_of, km_up_of, km_up_o, km_upx_i, km_upx_s, km_fl2_o, ne_eq, not_true_eq_false, not_false_eq_true] <;> omega) | fail) only [g_X12_peopleOf, e1, e3, e125, tr, z0, i1, Int.add_zero, ka_lt, ka_le, ka_nlt, ka_nle, ka_ne, ka_eq, Int.add_sub_cancel, true_or, or_true, false_or, or_false, false_and, and_false, if_true, if_false, ka_lo, ka_hi, ka_nn, km_sr_sf, km_sr_of, km_up_of, km_sr_us, km_sr_uo, km_sr_sr, km_sr_fl, km_sr_flo, km_up_up, km_up_lt, km_lay, km_unL, km_up_o, km_upx_i, km_upx_s, km_fl2_o, km_is, Option.some.injEq, Sum.inl.injEq, Sum.inr.injEq, Option.toList_some, Option.toList_none, List.cons_append, List.nil_append, ne_eq, true_and, and_true, and_self, not_true_eq_false, not_false_eq_true, true_implies, false_implies, reduceCtorEq]
  obtain ⟨g, h⟩ := key (m 5 1).toNat 0 (mm 130) (by omega)
  rw [km_sr_id] at h
  refine ⟨g, fun Q => ?_⟩
  have h := h Q
  have e : kcnt (kPe m b) 0 = 0 := rfl
  rw [e] at h
  rw [e_X12_peopleOf]
  simp (config := { decide := true }) only [g_X12_peopleOf, Int.add_sub_cancel, true_or, or_true, false_or, or_false, false_and, and_false, if_true, if_false, km_sr_sf, km_sr_of, km_up_of, km_sr_us, km_sr_uo, km_sr_sr, km_sr_fl, km_sr_flo, km_up_up, km_up_lt, km_lay, km_unL, km_up_o, km_upx_i, km_upx_s, km_fl2_o, km_is, Option.some.injEq, Sum.inl.injEq, Sum.inr.injEq, Option.toList_some, Option.toList_none, List.cons_append, List.nil_append, ne_eq, true_and, and_true, and_self, not_true_eq_false, not_false_eq_true, true_implies, false_implies, reduceCtorEq]
  exact h

