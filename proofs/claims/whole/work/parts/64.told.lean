/-! ===== told in the reference; who lives ===== -/
theorem kq_m1_jk {mm : km_Mm} {n : Int} : km_jk mm (kq_m1 mm n) := fun b j h => by
  have : b ≠ 130 ∧ ¬ (b = 123 ∧ j = 2) := by unfold kJ at h; omega
  unfold kq_m1
  rw [km_sr_o this.1]
  unfold km_up
  grind
theorem kq_m2_jk {mm : km_Mm} : km_jk mm (kq_m2 mm) := fun b j h => by
  have : b ≠ 134 ∧ b ≠ 133 ∧ b ≠ 132 ∧ b ≠ 131 ∧ ¬ (b = 123 ∧ j = 14) := by unfold kJ at h; omega
  unfold kq_m2
  rw [km_sr_o this.1, km_sr_o this.2.1, km_sr_o this.2.2.1, km_sr_o this.2.2.2.1]
  unfold km_up
  grind
theorem md_told {q : Nat × Int × Int × Int × Int} {c s : Nat} {m mm : km_Mm} {n y a b what : Int} (hb : kI_book m) (hbm : kI_book mm) (hj : km_jk m mm) (Q : Option km_V → km_Al → km_Mm → Prop) :
    ∃ m' : km_Mm, km_jk mm m' ∧ m' 52 = mm 52 ∧ (km_E M_X12_told [.inr (.inr 123), .inl n, .inl y, .inl a, .inl b, .inl what] (km_A0 q c s) mm Q ↔ Q (some (.inl (@ite Int (kT_ok m n y a b what) (Classical.propDecidable _) (kT_ans m n y a b what) (-2)))) (km_A0 q c s) m') := by
  obtain ⟨b1, -, b3, b4, b5, -⟩ := id hb
  have bm5 := hbm.2.2.2.2.1
  have E3 : mm 123 3 = m 5 1 := (hj 123 3 (by unfold kJ; omega)).trans b1.2.2
  have E5 : mm 123 5 = m 5 3 := (hj 123 5 (by unfold kJ; omega)).trans b3.2.2
  by_cases v : kT_ok m n y a b what
  · obtain ⟨v1, v2, v3, v4, v5⟩ := id v
    have fr := kI_fresh_m1 hb hj v1.1 v1.2
    have a10 : a < 10 := by omega
    have rk := fun Q => @r_know q c s n (km_up mm 123 2 0) ⟨v1.1, by omega⟩ (by intro i i0 i1; simp (config := { decide := true }) only [true_or, or_true, false_or, or_false, false_and, and_false, if_true, if_false, km_sr_sf, km_sr_of, km_up_of, km_sr_us, km_sr_uo, km_sr_sr, km_sr_fl, km_sr_flo, km_up_up, km_up_lt, km_lay, km_unL, km_up_o, km_upx_i, km_upx_s, km_fl2_o, km_is, Option.some.injEq, Sum.inl.injEq, Sum.inr.injEq, Option.toList_some, Option.toList_none, List.cons_append, List.nil_append, ne_eq, true_and, and_true, and_self, not_true_eq_false, not_false_eq_true, true_implies, false_implies, reduceCtorEq]; exact (bm5 i i0 i1).1) Q
    have ek : km_sr (km_up mm 123 2 0) 130 (kq_kn (km_up mm 123 2 0 126) (km_up mm 123 2 0 127) n.toNat (kq_k0 n (km_up mm 123 2 0 130) 0)) = kq_m1 mm n := by unfold kq_m1; simp (config := { decide := true }) only [true_or, or_true, false_or, or_false, false_and, and_false, if_true, if_false, km_sr_sf, km_sr_of, km_up_of, km_sr_us, km_sr_uo, km_sr_sr, km_sr_fl, km_sr_flo, km_up_up, km_up_lt, km_lay, km_unL, km_up_o, km_upx_i, km_upx_s, km_fl2_o, km_is, Option.some.injEq, Sum.inl.injEq, Sum.inr.injEq, Option.toList_some, Option.toList_none, List.cons_append, List.nil_append, ne_eq, true_and, and_true, and_self, not_true_eq_false, not_false_eq_true, true_implies, false_implies, reduceCtorEq]
    rw [ek] at rk
    have M5 : kq_m1 mm n 123 5 = m 5 3 := by unfold kq_m1; simp (config := { decide := true }) only [true_or, or_true, false_or, or_false, false_and, and_false, if_true, if_false, km_sr_sf, km_sr_of, km_up_of, km_sr_us, km_sr_uo, km_sr_sr, km_sr_fl, km_sr_flo, km_up_up, km_up_lt, km_lay, km_unL, km_up_o, km_upx_i, km_upx_s, km_fl2_o, km_is, Option.some.injEq, Sum.inl.injEq, Sum.inr.injEq, Option.toList_some, Option.toList_none, List.cons_append, List.nil_append, ne_eq, true_and, and_true, and_self, not_true_eq_false, not_false_eq_true, true_implies, false_implies, reduceCtorEq]; exact E5
    have r52 : kq_m1 mm n 52 = mm 52 := by unfold kq_m1; simp (config := { decide := true }) only [true_or, or_true, false_or, or_false, false_and, and_false, if_true, if_false, km_sr_sf, km_sr_of, km_up_of, km_sr_us, km_sr_uo, km_sr_sr, km_sr_fl, km_sr_flo, km_up_up, km_up_lt, km_lay, km_unL, km_up_o, km_upx_i, km_upx_s, km_fl2_o, km_is, Option.some.injEq, Sum.inl.injEq, Sum.inr.injEq, Option.toList_some, Option.toList_none, List.cons_append, List.nil_append, ne_eq, true_and, and_true, and_self, not_true_eq_false, not_false_eq_true, true_implies, false_implies, reduceCtorEq]
    have nM : km_ntM (kq_m1 mm n) := by intro i i0 i1; unfold kq_m1; simp (config := { decide := true }) only [true_or, or_true, false_or, or_false, false_and, and_false, if_true, if_false, km_sr_sf, km_sr_of, km_up_of, km_sr_us, km_sr_uo, km_sr_sr, km_sr_fl, km_sr_flo, km_up_up, km_up_lt, km_lay, km_unL, km_up_o, km_upx_i, km_upx_s, km_fl2_o, km_is, Option.some.injEq, Sum.inl.injEq, Sum.inr.injEq, Option.toList_some, Option.toList_none, List.cons_append, List.nil_append, ne_eq, true_and, and_true, and_self, not_true_eq_false, not_false_eq_true, true_implies, false_implies, reduceCtorEq]; exact bm5 i i0 i1
    have x1 : ¬ n < 0 := by omega
    have x2 : ¬ m 5 3 < n := by omega
    by_cases y0 : what = 0
    · have u4 := v4.resolve_left (by omega)
      have l1 := fun Q => @r_misAlive q c s (kq_m1 mm n) a y (by omega) Q
      have k1 := (kI_al hb fr ⟨v2.1, a10⟩ u4.1).1
      refine ⟨kq_m1 mm n, kq_m1_jk, r52, ?_⟩
      subst y0
      rw [if_pos v, kT_ans, if_pos rfl, km_E.of (by decide)]
      show km_G M_X12_told 0 [some (.inr (.inr 123)), some (.inl n), some (.inl y), some (.inl a), some (.inl b), some (.inl 0)] [] (km_A0 q c s) mm _ ↔ _
      simp (config := { decide := true }) only [g_X12_told, r_misKin, r_misYear, E3, E5, v2, x1, x2, u4, rk, l1, true_or, or_true, false_or, or_false, false_and, and_false, if_true, if_false, km_sr_sf, km_sr_of, km_up_of, km_sr_us, km_sr_uo, km_sr_sr, km_sr_fl, km_sr_flo, km_up_up, km_up_lt, km_lay, km_unL, km_up_o, km_upx_i, km_upx_s, km_fl2_o, km_is, Option.some.injEq, Sum.inl.injEq, Sum.inr.injEq, Option.toList_some, Option.toList_none, List.cons_append, List.nil_append, ne_eq, true_and, and_true, and_self, not_true_eq_false, not_false_eq_true, true_implies, false_implies, reduceCtorEq]
      by_cases z : kL m n a y
      · rw [if_pos z]; have z := k1.mpr z; simp (config := { decide := true }) only [z, true_or, or_true, false_or, or_false, false_and, and_false, if_true, if_false, km_sr_sf, km_sr_of, km_up_of, km_sr_us, km_sr_uo, km_sr_sr, km_sr_fl, km_sr_flo, km_up_up, km_up_lt, km_lay, km_unL, km_up_o, km_upx_i, km_upx_s, km_fl2_o, km_is, Option.some.injEq, Sum.inl.injEq, Sum.inr.injEq, Option.toList_some, Option.toList_none, List.cons_append, List.nil_append, ne_eq, true_and, and_true, and_self, not_true_eq_false, not_false_eq_true, true_implies, false_implies, reduceCtorEq]
      · rw [if_neg z]; have z : ¬ kq_al (kq_m1 mm n) a y := fun w => z (k1.mp w); simp (config := { decide := true }) only [z, true_or, or_true, false_or, or_false, false_and, and_false, if_true, if_false, km_sr_sf, km_sr_of, km_up_of, km_sr_us, km_sr_uo, km_sr_sr, km_sr_fl, km_sr_flo, km_up_up, km_up_lt, km_lay, km_unL, km_up_o, km_upx_i, km_upx_s, km_fl2_o, km_is, Option.some.injEq, Sum.inl.injEq, Sum.inr.injEq, Option.toList_some, Option.toList_none, List.cons_append, List.nil_append, ne_eq, true_and, and_true, and_self, not_true_eq_false, not_false_eq_true, true_implies, false_implies, reduceCtorEq]
    by_cases y1 : what = 1
    · have u4 := v4.resolve_left (by omega)
      have l1 := fun Q => @r_mageOf q c s (kq_m1 mm n) a y (by omega) u4 nM Q
      have k1 := (kI_al hb fr ⟨v2.1, a10⟩ u4.1).2.1
      refine ⟨kq_m1 mm n, kq_m1_jk, r52, ?_⟩
      subst y1
      rw [if_pos v, kT_ans, if_neg (by decide), if_pos rfl, km_E.of (by decide)]
      show km_G M_X12_told 0 [some (.inr (.inr 123)), some (.inl n), some (.inl y), some (.inl a), some (.inl b), some (.inl 1)] [] (km_A0 q c s) mm _ ↔ _
      simp (config := { decide := true }) only [g_X12_told, r_misKin, r_misYear, E3, E5, v2, x1, x2, u4, rk, l1, k1, true_or, or_true, false_or, or_false, false_and, and_false, if_true, if_false, km_sr_sf, km_sr_of, km_up_of, km_sr_us, km_sr_uo, km_sr_sr, km_sr_fl, km_sr_flo, km_up_up, km_up_lt, km_lay, km_unL, km_up_o, km_upx_i, km_upx_s, km_fl2_o, km_is, Option.some.injEq, Sum.inl.injEq, Sum.inr.injEq, Option.toList_some, Option.toList_none, List.cons_append, List.nil_append, ne_eq, true_and, and_true, and_self, not_true_eq_false, not_false_eq_true, true_implies, false_implies, reduceCtorEq]
    by_cases y2 : what = 2
    · have u4 := v4.resolve_left (by omega)
      have u5 := v5.resolve_left (by omega)
      have l1 := fun Q => @r_mareCouple q c s (kq_m1 mm n) a b y (by omega) Q
      have k1 := @kI_cp m (kq_m1 mm n) n a b y hb fr
      refine ⟨kq_m1 mm n, kq_m1_jk, r52, ?_⟩
      subst y2
      rw [if_pos v, kT_ans, if_neg (by decide), if_neg (by decide), if_pos rfl, km_E.of (by decide)]
      show km_G M_X12_told 0 [some (.inr (.inr 123)), some (.inl n), some (.inl y), some (.inl a), some (.inl b), some (.inl 2)] [] (km_A0 q c s) mm _ ↔ _
      simp (config := { decide := true }) only [g_X12_told, r_misKin, r_misYear, E3, E5, v2, x1, x2, u4, u5, rk, l1, true_or, or_true, false_or, or_false, false_and, and_false, if_true, if_false, km_sr_sf, km_sr_of, km_up_of, km_sr_us, km_sr_uo, km_sr_sr, km_sr_fl, km_sr_flo, km_up_up, km_up_lt, km_lay, km_unL, km_up_o, km_upx_i, km_upx_s, km_fl2_o, km_is, Option.some.injEq, Sum.inl.injEq, Sum.inr.injEq, Option.toList_some, Option.toList_none, List.cons_append, List.nil_append, ne_eq, true_and, and_true, and_self, not_true_eq_false, not_false_eq_true, true_implies, false_implies, reduceCtorEq]
      by_cases z : kLc m n a b y
      · rw [if_pos z]
        have z := k1.mpr z
        simp (config := { decide := true }) only [z, true_or, or_true, false_or, or_false, false_and, and_false, if_true, if_false, km_sr_sf, km_sr_of, km_up_of, km_sr_us, km_sr_uo, km_sr_sr, km_sr_fl, km_sr_flo, km_up_up, km_up_lt, km_lay, km_unL, km_up_o, km_upx_i, km_upx_s, km_fl2_o, km_is, Option.some.injEq, Sum.inl.injEq, Sum.inr.injEq, Option.toList_some, Option.toList_none, List.cons_append, List.nil_append, ne_eq, true_and, and_true, and_self, not_true_eq_false, not_false_eq_true, true_implies, false_implies, reduceCtorEq]
      · rw [if_neg z]
        have z : ¬ (km_cpl (kV (kq_m1 mm n)) a b y (kq_m1 mm n 123 5).toNat 0 (-1) ≠ -1 ∧ kq_m1 mm n 126 (km_cpl (kV (kq_m1 mm n)) a b y (kq_m1 mm n 123 5).toNat 0 (-1)) = 1) := fun w => z (k1.mp w)
        rw [if_neg z]
        simp (config := { decide := true }) only [true_or, or_true, false_or, or_false, false_and, and_false, if_true, if_false, km_sr_sf, km_sr_of, km_up_of, km_sr_us, km_sr_uo, km_sr_sr, km_sr_fl, km_sr_flo, km_up_up, km_up_lt, km_lay, km_unL, km_up_o, km_upx_i, km_upx_s, km_fl2_o, km_is, Option.some.injEq, Sum.inl.injEq, Sum.inr.injEq, Option.toList_some, Option.toList_none, List.cons_append, List.nil_append, ne_eq, true_and, and_true, and_self, not_true_eq_false, not_false_eq_true, true_implies, false_implies, reduceCtorEq]
    have y3 : what = 3 := by omega
    have rf := fun Q => @r_family q c s (kq_m1 mm n) (by omega) nM Q
    have ef : km_sr (km_sr (km_sr (km_sr (km_up (kq_m1 mm n) 123 14 (kf_f2 (kq_m1 mm n)).2.2) 131 (kf_f1 (kq_m1 mm n)).2) 132 (kf_f1 (kq_m1 mm n)).1) 133 (kf_f2 (kq_m1 mm n)).1) 134 (kf_f2 (kq_m1 mm n)).2.1 = kq_m2 (kq_m1 mm n) := rfl
    rw [ef] at rf
    have sm := (@kI_fam m mm n hb (funext fun j => hj 126 j (kJ_no (by decide))) (funext fun j => hj 127 j (kJ_no (by decide))) (funext fun j => hj 128 j (kJ_no (by decide))) (funext fun j => hj 129 j (kJ_no (by decide))) (hj 123 3 (by unfold kJ; omega)) (hj 123 5 (by unfold kJ; omega)) v1.1 v1.2).1 a v2.1 a10
    refine ⟨kq_m2 (kq_m1 mm n), kq_m1_jk.tr kq_m2_jk, by rw [← r52]; unfold kq_m2; simp (config := { decide := true }) only [true_or, or_true, false_or, or_false, false_and, and_false, if_true, if_false, km_sr_sf, km_sr_of, km_up_of, km_sr_us, km_sr_uo, km_sr_sr, km_sr_fl, km_sr_flo, km_up_up, km_up_lt, km_lay, km_unL, km_up_o, km_upx_i, km_upx_s, km_fl2_o, km_is, Option.some.injEq, Sum.inl.injEq, Sum.inr.injEq, Option.toList_some, Option.toList_none, List.cons_append, List.nil_append, ne_eq, true_and, and_true, and_self, not_true_eq_false, not_false_eq_true, true_implies, false_implies, reduceCtorEq], ?_⟩
    subst y3
    rw [if_pos v, kT_ans, if_neg (by decide), if_neg (by decide), if_neg (by decide), km_E.of (by decide)]
    show km_G M_X12_told 0 [some (.inr (.inr 123)), some (.inl n), some (.inl y), some (.inl a), some (.inl b), some (.inl 3)] [] (km_A0 q c s) mm _ ↔ _
    have p1 := sm.2.1
    dsimp only at p1
    simp (config := { decide := true }) only [g_X12_told, r_misKin, r_misYear, E3, E5, v2, x1, x2, rk, rf, a10, p1, true_or, or_true, false_or, or_false, false_and, and_false, if_true, if_false, km_sr_sf, km_sr_of, km_up_of, km_sr_us, km_sr_uo, km_sr_sr, km_sr_fl, km_sr_flo, km_up_up, km_up_lt, km_lay, km_unL, km_up_o, km_upx_i, km_upx_s, km_fl2_o, km_is, Option.some.injEq, Sum.inl.injEq, Sum.inr.injEq, Option.toList_some, Option.toList_none, List.cons_append, List.nil_append, ne_eq, true_and, and_true, and_self, not_true_eq_false, not_false_eq_true, true_implies, false_implies, reduceCtorEq]
  · refine ⟨km_up mm 123 2 0, fun b j h => ?_, by simp (config := { decide := true }) only [true_or, or_true, false_or, or_false, false_and, and_false, if_true, if_false, km_sr_sf, km_sr_of, km_up_of, km_sr_us, km_sr_uo, km_sr_sr, km_sr_fl, km_sr_flo, km_up_up, km_up_lt, km_lay, km_unL, km_up_o, km_upx_i, km_upx_s, km_fl2_o, km_is, Option.some.injEq, Sum.inl.injEq, Sum.inr.injEq, Option.toList_some, Option.toList_none, List.cons_append, List.nil_append, ne_eq, true_and, and_true, and_self, not_true_eq_false, not_false_eq_true, true_implies, false_implies, reduceCtorEq], ?_⟩
    · unfold km_up; unfold kJ at h; grind
    · rw [if_neg v, km_E.of (by decide)]
      show km_G M_X12_told 0 [some (.inr (.inr 123)), some (.inl n), some (.inl y), some (.inl a), some (.inl b), some (.inl what)] [] (km_A0 q c s) mm _ ↔ _
      unfold kT_ok at v
      by_cases v1 : n < 0 <;> by_cases v1' : m 5 3 < n <;> by_cases v2 : 0 ≤ a ∧ a < m 5 1 <;> by_cases v3 : what < 0 <;> by_cases v4 : 3 < what <;> simp (config := { decide := true }) only [g_X12_told, r_misKin, r_misYear, E3, E5, v1, v1', v2, v3, v4, true_or, or_true, false_or, or_false, false_and, and_false, if_true, if_false, km_sr_sf, km_sr_of, km_up_of, km_sr_us, km_sr_uo, km_sr_sr, km_sr_fl, km_sr_flo, km_up_up, km_up_lt, km_lay, km_unL, km_up_o, km_upx_i, km_upx_s, km_fl2_o, km_is, Option.some.injEq, Sum.inl.injEq, Sum.inr.injEq, Option.toList_some, Option.toList_none, List.cons_append, List.nil_append, ne_eq, true_and, and_true, and_self, not_true_eq_false, not_false_eq_true, true_implies, false_implies, reduceCtorEq]
      by_cases v6 : 0 ≤ y ∧ y ≤ 999 <;> by_cases v5 : 3 ≤ what <;> by_cases v7 : what = 2 <;> by_cases v8 : 0 ≤ b ∧ b < m 5 1 <;> simp (config := { decide := true }) only [v5, v6, v7, v8, true_or, or_true, false_or, or_false, false_and, and_false, if_true, if_false, km_sr_sf, km_sr_of, km_up_of, km_sr_us, km_sr_uo, km_sr_sr, km_sr_fl, km_sr_flo, km_up_up, km_up_lt, km_lay, km_unL, km_up_o, km_upx_i, km_upx_s, km_fl2_o, km_is, Option.some.injEq, Sum.inl.injEq, Sum.inr.injEq, Option.toList_some, Option.toList_none, List.cons_append, List.nil_append, ne_eq, true_and, and_true, and_self, not_true_eq_false, not_false_eq_true, true_implies, false_implies, reduceCtorEq]
      all_goals (exfalso; apply v; omega)
/-- the reference asks the whole book who lives -/
theorem md_lives {q : Nat × Int × Int × Int × Int} {c s : Nat} {m mm : km_Mm} {a : Int} (hb : kI_book m) (hj : km_jk m mm) (ha : 0 ≤ a ∧ a < 10) :
    ∃ g : Int → Int, ∀ Q : Option km_V → km_Al → km_Mm → Prop, (km_E M_X12_lives [.inr (.inr 123), .inl a] (km_A0 q c s) mm Q ↔ Q (some (.inl (@ite Int (kL m (m 5 3) a (m 5 2)) (Classical.propDecidable _) 1 0))) (km_A0 q c s) (km_sr mm 130 g)) := by
  obtain ⟨b1, b2, b3, b4, b5, b6⟩ := id hb
  have E11 : mm 123 11 = m 5 2 := (hj 123 11 (by unfold kJ; omega)).trans b2.2.2
  have E5 : mm 123 5 = m 5 3 := (hj 123 5 (by unfold kJ; omega)).trans b3.2.2
  have e127 : mm 127 = m 127 := funext fun j => hj 127 j (kJ_no (by decide))
  have rk := fun Q => @r_know q c s (m 5 3) mm ⟨b3.1, b3.2.1⟩ (by intro i i0 i1; rw [e127]; exact (b5 i i0 i1).1) Q
  have fr := kI_fresh_m1 hb hj b3.1 (Int.le_refl _)
  refine ⟨kq_kn (mm 126) (mm 127) (m 5 3).toNat (kq_k0 (m 5 3) (mm 130) 0), fun Q => ?_⟩
  have fr2 : kI_fresh m (km_sr mm 130 (kq_kn (mm 126) (mm 127) (m 5 3).toNat (kq_k0 (m 5 3) (mm 130) 0))) (m 5 3) := by
    unfold kI_fresh kq_m1 at *
    simp (config := { decide := true }) only [true_or, or_true, false_or, or_false, false_and, and_false, if_true, if_false, km_sr_sf, km_sr_of, km_up_of, km_sr_us, km_sr_uo, km_sr_sr, km_sr_fl, km_sr_flo, km_up_up, km_up_lt, km_lay, km_unL, km_up_o, km_upx_i, km_upx_s, km_fl2_o, km_is, Option.some.injEq, Sum.inl.injEq, Sum.inr.injEq, Option.toList_some, Option.toList_none, List.cons_append, List.nil_append, ne_eq, true_and, and_true, and_self, not_true_eq_false, not_false_eq_true, true_implies, false_implies, reduceCtorEq] at fr
    simp (config := { decide := true }) only [true_or, or_true, false_or, or_false, false_and, and_false, if_true, if_false, km_sr_sf, km_sr_of, km_up_of, km_sr_us, km_sr_uo, km_sr_sr, km_sr_fl, km_sr_flo, km_up_up, km_up_lt, km_lay, km_unL, km_up_o, km_upx_i, km_upx_s, km_fl2_o, km_is, Option.some.injEq, Sum.inl.injEq, Sum.inr.injEq, Option.toList_some, Option.toList_none, List.cons_append, List.nil_append, ne_eq, true_and, and_true, and_self, not_true_eq_false, not_false_eq_true, true_implies, false_implies, reduceCtorEq]
    exact fr
  have k1 := (kI_al hb fr2 ha b2.1).1
  have l1 := fun Q => @r_misAlive q c s (km_sr mm 130 (kq_kn (mm 126) (mm 127) (m 5 3).toNat (kq_k0 (m 5 3) (mm 130) 0))) a (m 5 2) (by simp (config := { decide := true }) only [true_or, or_true, false_or, or_false, false_and, and_false, if_true, if_false, km_sr_sf, km_sr_of, km_up_of, km_sr_us, km_sr_uo, km_sr_sr, km_sr_fl, km_sr_flo, km_up_up, km_up_lt, km_lay, km_unL, km_up_o, km_upx_i, km_upx_s, km_fl2_o, km_is, Option.some.injEq, Sum.inl.injEq, Sum.inr.injEq, Option.toList_some, Option.toList_none, List.cons_append, List.nil_append, ne_eq, true_and, and_true, and_self, not_true_eq_false, not_false_eq_true, true_implies, false_implies, reduceCtorEq]; omega) Q
  rw [km_E.of (by decide)]
  show km_G M_X12_lives 0 [some (.inr (.inr 123)), some (.inl a)] [] (km_A0 q c s) mm _ ↔ _
  simp (config := { decide := true }) only [g_X12_lives, E5, E11, rk, l1, true_or, or_true, false_or, or_false, false_and, and_false, if_true, if_false, km_sr_sf, km_sr_of, km_up_of, km_sr_us, km_sr_uo, km_sr_sr, km_sr_fl, km_sr_flo, km_up_up, km_up_lt, km_lay, km_unL, km_up_o, km_upx_i, km_upx_s, km_fl2_o, km_is, Option.some.injEq, Sum.inl.injEq, Sum.inr.injEq, Option.toList_some, Option.toList_none, List.cons_append, List.nil_append, ne_eq, true_and, and_true, and_self, not_true_eq_false, not_false_eq_true, true_implies, false_implies, reduceCtorEq]
  by_cases z : kL m (m 5 3) a (m 5 2)
  · have z2 := k1.mpr z
    simp (config := { decide := true }) only [z, z2, true_or, or_true, false_or, or_false, false_and, and_false, if_true, if_false, km_sr_sf, km_sr_of, km_up_of, km_sr_us, km_sr_uo, km_sr_sr, km_sr_fl, km_sr_flo, km_up_up, km_up_lt, km_lay, km_unL, km_up_o, km_upx_i, km_upx_s, km_fl2_o, km_is, Option.some.injEq, Sum.inl.injEq, Sum.inr.injEq, Option.toList_some, Option.toList_none, List.cons_append, List.nil_append, ne_eq, true_and, and_true, and_self, not_true_eq_false, not_false_eq_true, true_implies, false_implies, reduceCtorEq]
  · have z2 : ¬ kq_al (km_sr mm 130 (kq_kn (mm 126) (mm 127) (m 5 3).toNat (kq_k0 (m 5 3) (mm 130) 0))) a (m 5 2) := fun w => z (k1.mp w)
    simp (config := { decide := true }) only [z, z2, true_or, or_true, false_or, or_false, false_and, and_false, if_true, if_false, km_sr_sf, km_sr_of, km_up_of, km_sr_us, km_sr_uo, km_sr_sr, km_sr_fl, km_sr_flo, km_up_up, km_up_lt, km_lay, km_unL, km_up_o, km_upx_i, km_upx_s, km_fl2_o, km_is, Option.some.injEq, Sum.inl.injEq, Sum.inr.injEq, Option.toList_some, Option.toList_none, List.cons_append, List.nil_append, ne_eq, true_and, and_true, and_self, not_true_eq_false, not_false_eq_true, true_implies, false_implies, reduceCtorEq]

