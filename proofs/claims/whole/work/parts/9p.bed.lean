/-! ===== bed: both answer alike ===== -/
/-- the invariant but THE MEETING, when only cells of THE MEETING (and scratch) changed -/
theorem kI0_mt {N : Int} {m m2 : km_Mm} (hi : kI0 N m) (f : ∀ b j : Int, ¬ kJ b j → ¬ (b = 100 ∧ j = 4) → ¬ (101 ≤ b ∧ b ≤ 112) → ¬ (b = 123 ∧ j = 91) → ¬ (b = 166 ∨ b = 168 ∨ b = 169 ∨ b = 170) → m2 b j = m b j) (s : m2 52 = m 52) (hE : kI_meet m2) : kI0 N m2 ∧ kP_eq m m2 := by
  obtain ⟨hB, hR, hT, hO, hM, hF, hH, -, hS, hA⟩ := hi
  refine ⟨⟨kB_cg hB ?_, ?_, kT_cg hT ?_, kO_cg hO ?_, kM_cg hM ?_, kF_cg hF ?_, kH_cg hH ?_, hE, kS_cg hS ?_, kA_cg hA ?_⟩, ?_⟩
  · intro b j z; unfold fB at z; exact f b j (by unfold kJ; omega) (by omega) (by omega) (by omega) (by omega)
  · unfold kI_scr at *; rw [s]; exact hR
  · intro b j z; unfold fT at z; exact f b j (by unfold kJ; omega) (by omega) (by omega) (by omega) (by omega)
  · intro b j z; unfold fO at z; exact f b j (by unfold kJ; omega) (by omega) (by omega) (by omega) (by omega)
  · intro b j z; unfold fM at z; exact f b j (by unfold kJ; omega) (by omega) (by omega) (by omega) (by omega)
  · intro b j z; unfold fF at z; exact f b j (by unfold kJ; omega) (by omega) (by omega) (by omega) (by omega)
  · intro b j z; unfold fH at z; exact f b j (by unfold kJ; omega) (by omega) (by omega) (by omega) (by omega)
  · intro b j z; unfold fS at z; exact f b j (by unfold kJ; omega) (by omega) (by omega) (by omega) (by omega)
  · intro b j z; unfold fA at z; exact f b j (by unfold kJ; omega) (by omega) (by omega) (by omega) (by omega)
  · intro b j z1 z2; unfold kP at z1; exact f b j z2 (by omega) (by omega) (by omega) (by omega)
theorem fc_bed {N : Int} {q : Nat × Int × Int × Int × Int} {c s : Nat} {m : km_Mm} (h : kI0 N m) : kF M_X11_bed M_X12_bed [] N q c s m := by
  intro Q1 Q2
  have hi := h
  obtain ⟨hB, hR, hT, hO, hM, hF, hH, hE, hS, hA⟩ := h
  obtain ⟨⟨e1a, e1b⟩, ⟨e2, hw, e3⟩, e4, e5, e6, e7, e8, e9, e10⟩ := id hE
  by_cases on : m 100 0 = -1
  · refine ⟨.inl (-1), m, km_up m 123 2 0, ?_, ?_, kI0_t hi, kP_t⟩
    · rw [e_X11_bed]
      simp (config := { decide := true }) (disch := first | decide | assumption | omega | (simp (config := { decide := true }) only [km_sr_sf, km_sr_of, km_up_of, km_up_o, km_upx_i, km_upx_s, km_fl2_o, ne_eq, not_true_eq_false, not_false_eq_true] <;> omega) | fail) only [g_X11_bed, r_isOn, on, Int.add_sub_cancel, true_or, or_true, false_or, or_false, false_and, and_false, if_true, if_false, ka_lo, ka_hi, ka_nn, km_sr_sf, km_sr_of, km_up_of, km_sr_us, km_sr_uo, km_sr_sr, km_sr_fl, km_sr_flo, km_up_up, km_up_lt, km_lay, km_unL, km_up_o, km_upx_i, km_upx_s, km_fl2_o, km_is, Option.some.injEq, Sum.inl.injEq, Sum.inr.injEq, Option.toList_some, Option.toList_none, List.cons_append, List.nil_append, ne_eq, true_and, and_true, and_self, not_true_eq_false, not_false_eq_true, true_implies, false_implies, reduceCtorEq]
    · rw [if_pos on] at e1b
      rw [e_X12_bed]
      simp (config := { decide := true }) (disch := first | decide | assumption | omega | (simp (config := { decide := true }) only [km_sr_sf, km_sr_of, km_up_of, km_up_o, km_upx_i, km_upx_s, km_fl2_o, ne_eq, not_true_eq_false, not_false_eq_true] <;> omega) | fail) only [g_X12_bed, e1b, Int.add_sub_cancel, true_or, or_true, false_or, or_false, false_and, and_false, if_true, if_false, ka_lo, ka_hi, ka_nn, km_sr_sf, km_sr_of, km_up_of, km_sr_us, km_sr_uo, km_sr_sr, km_sr_fl, km_sr_flo, km_up_up, km_up_lt, km_lay, km_unL, km_up_o, km_upx_i, km_upx_s, km_fl2_o, km_is, Option.some.injEq, Sum.inl.injEq, Sum.inr.injEq, Option.toList_some, Option.toList_none, List.cons_append, List.nil_append, ne_eq, true_and, and_true, and_self, not_true_eq_false, not_false_eq_true, true_implies, false_implies, reduceCtorEq]
  obtain ⟨M, jM, rM, nM, eM⟩ := @cl_now q c s m hB
  obtain ⟨v, M5, a1, a2, a3, a4⟩ := @cl_findBedding q c s m M hB hH hE jM nM
  have f1 := hB.1
  have f4 : 0 ≤ m 85 0 ∧ m 85 0 ≤ 4 := ⟨hH.1.1, hH.1.2.1⟩
  have nn : (((m 85 0).toNat : Nat) : Int) = m 85 0 := by omega
  have M1001 : M 100 1 = m 100 1 := jM 100 1 (kJ_no (by decide))
  have M850 : M5 85 0 = m 85 0 := (a1 85 0 (by decide) (by decide)).trans (jM 85 0 (kJ_no (by decide)))
  have cc := kVC_cc (m := m) ⟨f1.1, f1.2.1⟩ e3
  have p0 := fun (i : Int) (i0 : 0 ≤ i) (i1 : i < 3) => (hH.2.2.2.2.2.1 i i0 i1).2
  have xb := fun (p t : Int) (w : kbFt m p t) => kbX_b hw ⟨f1.1, f1.2.1⟩ p0 (p := p) w.1
  have mj : ∀ X : km_Mm, (∀ b j : Int, 123 ≤ b → X b j = M b j) → kMj m X := fun X hX b j hb z => (hX b j hb).trans (jM b j z)
  have fin : ∀ m2 : km_Mm, (∀ b j : Int, ¬ kJ b j → b ≠ 102 → b ≠ 166 → m2 b j = m b j) → m2 52 = m 52 → (∀ k : Int, 0 ≤ k → k < 10 → (-1 ≤ m2 102 k ∧ m2 102 k < 4) ∧ (k < m 5 1 → m2 166 k = m2 102 k) ∧ (m 5 1 ≤ k → m2 102 k = -1)) → kI0 N m2 ∧ kP_eq m m2 := fun m2 g1 g2 g3 => by
    refine kI0_mt hi (fun b j z1 z2 z3 z4 z5 => g1 b j z1 (by omega) (by omega)) g2 ?_
    have r : ∀ b : Int, (100 ≤ b ∧ b ≤ 112 ∧ b ≠ 102) ∨ (168 ≤ b ∧ b ≤ 170) → ∀ j, m2 b j = m b j := fun b hb j => g1 b j (kJ_no (by omega)) (by omega) (by omega)
    have t : ∀ j : Int, j = 80 ∨ j = 81 ∨ j = 82 ∨ j = 91 → m2 123 j = m 123 j := fun j hj => g1 123 j (by unfold kJ; omega) (by decide) (by decide)
    have r5 : m2 5 1 = m 5 1 := g1 5 1 (by unfold kJ; omega) (by decide) (by decide)
    have r19 : m2 19 1 = m 19 1 := g1 19 1 (kJ_no (by decide)) (by decide) (by decide)
    unfold kI_meet
    rw [r5, r19, t 80 (by decide), t 81 (by decide), t 82 (by decide), t 91 (by decide)]
    simp only [r 100 (by decide), r 101 (by decide), r 170 (by decide), r 168 (by decide), r 112 (by decide), r 169 (by decide)]
    refine ⟨⟨e1a, e1b⟩, ⟨e2, hw, e3⟩, e4, e5, fun w => absurd w on, fun k k0 k1 => ?_, fun d k d0 d1 k0 k1 => ?_, e9, e10⟩
    · obtain ⟨w1, w2, w3⟩ := g3 k k0 k1
      exact ⟨w1, fun _ => w2, w3⟩
    · rw [r (104 + d) (by omega)]; exact e8 d k d0 d1 k0 k1
  by_cases ex : ∃ v', kdD (kbX m) (kbFt m) (m 85 0).toNat 0 (m 100 1) v'
  · have hv : kdD (kbX m) (kbFt m) (m 85 0).toNat 0 (m 100 1) v := by
      rcases a2 with w | w
      · exact w
      · exact absurd ex w.1
    have hS5 := a3 hv
    have vb := kdD_b xb _ _ _ _ hv
    have v5 : ¬ 500000 < v := by omega
    have tS : ∀ p : Int, 0 ≤ p → p < m 85 0 → ksb (M5 99 p) (m 100 1) := fun p p0 p1 => kdS_in _ 0 _ hw hS5 p p0 (by omega)
    have kb := fun Q => @cl_keepBedding q c s M5 (m 85 0) f4.1 f4.2 (fun p p0 p1 => ksb_ten hw (tS p p0 p1)) Q
    obtain ⟨m1, hm1⟩ : ∃ m1 : km_Mm, m1 = km_sr M5 102 (fun j => if 0 ≤ j ∧ j < 10 then kdP (M5 99) (m 85 0).toNat j else M5 102 j) := ⟨_, rfl⟩
    rw [← hm1] at kb
    have g1 : ∀ b j : Int, b ≠ 102 → m1 b j = M5 b j := fun b j z => by rw [hm1, km_sr_o z]
    have g2 : ∀ j : Int, 0 ≤ j → j < 10 → m1 102 j = kdP (M5 99) (m 85 0).toNat j := fun j j0 j1 => by rw [hm1, km_sr_s, if_pos ⟨j0, j1⟩]
    obtain ⟨m2, i1, i2, i3, i4⟩ := (@md_bed q c s m m1 hB hT hH hE on (mj m1 (fun b j hb => (g1 b j (by omega)).trans (a1 b j (by omega) (by omega))))).1 v hv (M5 99) hS5
    have ne : ¬ v + m 89 1 * kVC m (m 100 1) = -1 := by omega
    refine ⟨.inl (v + m 89 1 * kVC m (m 100 1)), m1, m2, ?_, i4 Q2, ?_⟩
    · rw [← cc, if_neg v5] at a4
      rw [e_X11_bed]
      simp (config := { decide := true }) (disch := first | decide | assumption | omega | (simp (config := { decide := true }) only [km_sr_sf, km_sr_of, km_up_of, km_up_o, km_upx_i, km_upx_s, km_fl2_o, ne_eq, not_true_eq_false, not_false_eq_true] <;> omega) | fail) only [g_X11_bed, r_isOn, on, eM, M1001, a4, ne, M850, kb, Int.add_sub_cancel, true_or, or_true, false_or, or_false, false_and, and_false, if_true, if_false, ka_lo, ka_hi, ka_nn, km_sr_sf, km_sr_of, km_up_of, km_sr_us, km_sr_uo, km_sr_sr, km_sr_fl, km_sr_flo, km_up_up, km_up_lt, km_lay, km_unL, km_up_o, km_upx_i, km_upx_s, km_fl2_o, km_is, Option.some.injEq, Sum.inl.injEq, Sum.inr.injEq, Option.toList_some, Option.toList_none, List.cons_append, List.nil_append, ne_eq, true_and, and_true, and_self, not_true_eq_false, not_false_eq_true, true_implies, false_implies, reduceCtorEq]
    · refine fin m2 (fun b j z1 z2 z3 => ?_) ?_ (fun k k0 k1 => ?_)
      · rw [i1 b j z3 (by unfold kJ at z1; omega) (by unfold kJ at z1; omega), g1 b j z2, a1 b j (by unfold kJ at z1; omega) (by unfold kJ at z1; omega)]
        exact jM b j z1
      · funext j
        rw [i1 52 j (by omega) (by omega) (by omega), g1 52 j (by decide), a1 52 j (by omega) (by omega), rM]
      · have pb := (kdP_b (cc := M5 99) (j := k) (m 85 0).toNat).1
        have e102 : m2 102 k = kdP (M5 99) (m 85 0).toNat k := by rw [i1 102 k (by omega) (by omega) (by omega), g2 k k0 k1]
        refine ⟨by rw [e102]; omega, fun _ => by rw [e102]; exact i2 k k0 k1, fun hk => ?_⟩
        rw [e102]
        refine kdP_no _ (fun p p0 p1 => ?_)
        cases z : tb (M5 99 p) k
        · rfl
        · have := ((ksb_tb hw).mp (tS p p0 (by omega))).2 k k0 z
          rw [e3 k hk k1] at this; cases this
  · have v5 : 500000 < v := by
      rcases a2 with w | w
      · exact absurd ⟨_, w⟩ ex
      · omega
    rw [if_pos v5] at a4
    obtain ⟨m2, i1, i2⟩ := (@md_bed q c s m M5 hB hT hH hE on (mj M5 (fun b j hb => a1 b j (by omega) (by omega)))).2 ex
    refine ⟨.inl (-1), M5, m2, ?_, i2 Q2, ?_⟩
    · rw [e_X11_bed]
      simp (config := { decide := true }) (disch := first | decide | assumption | omega | (simp (config := { decide := true }) only [km_sr_sf, km_sr_of, km_up_of, km_up_o, km_upx_i, km_upx_s, km_fl2_o, ne_eq, not_true_eq_false, not_false_eq_true] <;> omega) | fail) only [g_X11_bed, r_isOn, on, eM, M1001, a4, Int.add_sub_cancel, true_or, or_true, false_or, or_false, false_and, and_false, if_true, if_false, ka_lo, ka_hi, ka_nn, km_sr_sf, km_sr_of, km_up_of, km_sr_us, km_sr_uo, km_sr_sr, km_sr_fl, km_sr_flo, km_up_up, km_up_lt, km_lay, km_unL, km_up_o, km_upx_i, km_upx_s, km_fl2_o, km_is, Option.some.injEq, Sum.inl.injEq, Sum.inr.injEq, Option.toList_some, Option.toList_none, List.cons_append, List.nil_append, ne_eq, true_and, and_true, and_self, not_true_eq_false, not_false_eq_true, true_implies, false_implies, reduceCtorEq]
    · have e : ∀ b j : Int, ¬ kJ b j → m2 b j = m b j := fun b j z1 => by
        rw [i1 b j (by unfold kJ at z1; omega) (by unfold kJ at z1; omega), a1 b j (by unfold kJ at z1; omega) (by unfold kJ at z1; omega)]
        exact jM b j z1
      refine fin m2 (fun b j z1 _ _ => e b j z1) ?_ (fun k k0 k1 => ?_)
      · funext j
        rw [i1 52 j (by omega) (by omega), a1 52 j (by omega) (by omega), rM]
      · rw [e 102 k (kJ_no (by decide)), e 166 k (kJ_no (by decide))]
        obtain ⟨w1, w2, w3⟩ := e7 k k0 k1
        exact ⟨w1, w2 on, w3⟩

