/-! ===== the face: kin ===== -/
theorem lp_mkin_183 {q : Nat × Int × Int × Int × Int} {c s : Nat} {a0 a1 a2 a3 a4 : Int} {m : km_Mm} (hs : 0 ≤ m 123 3 ∧ m 123 3 < 10) {Q : Option km_V → km_Al → km_Mm → Prop} : ∀ (n : Nat) (k : Int) (f : Int → Int), 0 ≤ k → k + n = 8 → (km_G M_X12_kin 183 [some (.inr (.inr 123)), some (.inl a0), some (.inl a1), some (.inl a2), some (.inl a3), some (.inl a4), some (.inl k)] [] (km_A0 q c s) (km_sr m 168 f) Q ↔ Q (some (.inl ((m 123 3)))) (km_A0 q c s) (km_sr (km_up m 123 3 (m 123 3 + 1)) 168 (kq_ro 10 (m 123 3) (-1) n k f))) := by
  intro n
  induction n with
  | zero =>
    intro k f h0 h1
    have e2 : k = 8 := by omega
    subst e2
    rw [g_X12_kin_183]
    simp (config := { decide := true }) (disch := first | decide | assumption | omega | (simp (config := { decide := true }) only [km_sr_sf, km_sr_of, km_up_of, km_up_o, km_upx_i, km_upx_s, km_fl2_o, ne_eq, not_true_eq_false, not_false_eq_true] <;> omega) | fail) only [g_X12_kin, kq_ro, Int.le_refl, hs.1, hs.2, ka_lt, ka_le, ka_nlt, ka_nle, ka_ne, ka_eq, h0, Int.add_sub_cancel, true_or, or_true, false_or, or_false, false_and, and_false, if_true, if_false, ka_lo, ka_hi, ka_nn, km_sr_sf, km_sr_of, km_up_of, km_sr_us, km_sr_uo, km_sr_sr, km_sr_fl, km_sr_flo, km_up_up, km_up_lt, km_lay, km_unL, km_up_o, km_upx_i, km_upx_s, km_fl2_o, km_is, Option.some.injEq, Sum.inl.injEq, Sum.inr.injEq, Option.toList_some, Option.toList_none, List.cons_append, List.nil_append, ne_eq, true_and, and_true, and_self, not_true_eq_false, not_false_eq_true, true_implies, false_implies, reduceCtorEq]
    all_goals grind
  | succ n ih =>
    intro k f h0 h1
    have e : ¬ (8 : Int) ≤ k := by omega
    rw [g_X12_kin_183]
    simp (config := { decide := true }) (disch := first | decide | assumption | omega | (simp (config := { decide := true }) only [km_sr_sf, km_sr_of, km_up_of, km_up_o, km_upx_i, km_upx_s, km_fl2_o, ne_eq, not_true_eq_false, not_false_eq_true] <;> omega) | fail) only [g_X12_kin, ih, e, kq_ro, hs.1, hs.2, ka_lt, ka_le, ka_nlt, ka_nle, ka_ne, ka_eq, h0, Int.add_sub_cancel, true_or, or_true, false_or, or_false, false_and, and_false, if_true, if_false, ka_lo, ka_hi, ka_nn, km_sr_sf, km_sr_of, km_up_of, km_sr_us, km_sr_uo, km_sr_sr, km_sr_fl, km_sr_flo, km_up_up, km_up_lt, km_lay, km_unL, km_up_o, km_upx_i, km_upx_s, km_fl2_o, km_is, Option.some.injEq, Sum.inl.injEq, Sum.inr.injEq, Option.toList_some, Option.toList_none, List.cons_append, List.nil_append, ne_eq, true_and, and_true, and_self, not_true_eq_false, not_false_eq_true, true_implies, false_implies, reduceCtorEq]
    all_goals grind
theorem lp_mkin_130 {q : Nat × Int × Int × Int × Int} {c s : Nat} {Q : Option km_V → km_Al → km_Mm → Prop} {a0 a1 a2 a3 a4 : Int} {m : km_Mm} (hs : 0 ≤ m 123 3 ∧ m 123 3 < 10) {R : (Int → Int) → Prop} (hR : ∀ f : Int → Int, km_G M_X12_kin 160 [some (.inr (.inr 123)), some (.inl a0), some (.inl a1), some (.inl a2), some (.inl a3), some (.inl a4), some (.inl 6)] [] (km_A0 q c s) (km_sr m 153 f) Q ↔ R f) : ∀ (n : Nat) (k : Int) (f : Int → Int), 0 ≤ k → k + n = 6 → (km_G M_X12_kin 130 [some (.inr (.inr 123)), some (.inl a0), some (.inl a1), some (.inl a2), some (.inl a3), some (.inl a4), some (.inl k)] [] (km_A0 q c s) (km_sr m 153 f) Q ↔ km_G M_X12_kin 160 [some (.inr (.inr 123)), some (.inl a0), some (.inl a1), some (.inl a2), some (.inl a3), some (.inl a4), some (.inl 6)] [] (km_A0 q c s) (km_sr m 153 (kv_fl f (6 * m 123 3 + k) (6 * m 123 3 + 6) 100)) Q) := by
  intro n
  induction n with
  | zero =>
    intro k f h0 h1
    have e2 : k = 6 := by omega
    subst e2
    rw [g_X12_kin_130]
    simp (config := { decide := true }) (disch := first | decide | assumption | omega | (simp (config := { decide := true }) only [km_sr_sf, km_sr_of, km_up_of, km_up_o, km_upx_i, km_upx_s, km_fl2_o, ne_eq, not_true_eq_false, not_false_eq_true] <;> omega) | fail) only [g_X12_kin, kv_fl_end, Int.le_refl, ka_lt, ka_le, ka_nlt, ka_nle, ka_ne, ka_eq, h0, Int.add_sub_cancel, true_or, or_true, false_or, or_false, false_and, and_false, if_true, if_false, ka_lo, ka_hi, ka_nn, km_sr_sf, km_sr_of, km_up_of, km_sr_us, km_sr_uo, km_sr_sr, km_sr_fl, km_sr_flo, km_up_up, km_up_lt, km_lay, km_unL, km_up_o, km_upx_i, km_upx_s, km_fl2_o, km_is, Option.some.injEq, Sum.inl.injEq, Sum.inr.injEq, Option.toList_some, Option.toList_none, List.cons_append, List.nil_append, ne_eq, true_and, and_true, and_self, not_true_eq_false, not_false_eq_true, true_implies, false_implies, reduceCtorEq]
    all_goals grind
  | succ n ih =>
    intro k f h0 h1
    have e : ¬ (6 : Int) ≤ k := by omega
    have e2 : kv_fl (km_u1 f (6 * m 123 3 + k) 100) (6 * m 123 3 + (k + 1)) (6 * m 123 3 + 6) 100 = kv_fl f (6 * m 123 3 + k) (6 * m 123 3 + 6) 100 := by
      have := @kv_fl_up f (6 * m 123 3 + k) (6 * m 123 3 + 6) 100 (by omega)
      rw [← this, Int.add_assoc]
    rw [g_X12_kin_130]
    simp (config := { decide := true }) (disch := first | decide | assumption | omega | (simp (config := { decide := true }) only [km_sr_sf, km_sr_of, km_up_of, km_up_o, km_upx_i, km_upx_s, km_fl2_o, ne_eq, not_true_eq_false, not_false_eq_true] <;> omega) | fail) only [g_X12_kin, ih, e, e2, hs.1, hs.2, ka_lt, ka_le, ka_nlt, ka_nle, ka_ne, ka_eq, h0, Int.add_sub_cancel, true_or, or_true, false_or, or_false, false_and, and_false, if_true, if_false, ka_lo, ka_hi, ka_nn, km_sr_sf, km_sr_of, km_up_of, km_sr_us, km_sr_uo, km_sr_sr, km_sr_fl, km_sr_flo, km_up_up, km_up_lt, km_lay, km_unL, km_up_o, km_upx_i, km_upx_s, km_fl2_o, km_is, Option.some.injEq, Sum.inl.injEq, Sum.inr.injEq, Option.toList_some, Option.toList_none, List.cons_append, List.nil_append, ne_eq, true_and, and_true, and_self, not_true_eq_false, not_false_eq_true, true_implies, false_implies, reduceCtorEq]
    all_goals grind

theorem fc_kin {N : Int} {q : Nat × Int × Int × Int × Int} {c s : Nat} {m : km_Mm} (h : kI0 N m) {a0 a1 a2 a3 a4 : Int} (ht : a4 = 0 ∨ a4 = 1) : kF M_X11_kin M_X12_kin [.inl a0, .inl a1, .inl a2, .inl a3, .inl a4] N q c s m := by
  intro Q1 Q2
  have hi := h
  obtain ⟨hB, hR, hT, hO, hM, hF, hH, hE, hS, hA⟩ := h
  have f1 := hB.1
  have f4 := hO.1
  have sn : (if a4 = 0 then (0 : Int) else 1) = a4 := by rcases ht with rfl | rfl <;> rfl
  have sn2 : (if ¬ a4 = 0 then (1 : Int) else 0) = a4 := by rcases ht with rfl | rfl <;> rfl
  have fit : ∀ w v b : Int, (0 ≤ w ∧ w < 4) → (if w = 0 then (6 : Int) else if w = 2 then 100 else if w = 4 then 2 else 4) = b → ∀ (mm : km_Mm) (Q : Option km_V → km_Al → km_Mm → Prop), km_E M_X1_traitFits [.inr (.inr 5), .inl w, .inl v] (km_A0 q c s) mm Q ↔ Q (some (.inl (if 0 ≤ v ∧ v < b then 1 else 0))) (km_A0 q c s) mm := fun w v b hw hb mm Q => by
    rw [r_traitFits, hb]
    by_cases z : 0 ≤ v ∧ v < b
    · rw [if_pos z, if_pos ⟨hw.1, by omega, z⟩]
    · rw [if_neg z, if_neg (fun w => z w.2.2)]
  have t0 := fun v => fit 0 v 6 (by decide) rfl
  have t1 := fun v => fit 1 v 4 (by decide) rfl
  have t2 := fun v => fit 2 v 100 (by decide) rfl
  have t3 := fun v => fit 3 v 4 (by decide) rfl
  have mt0 : ∀ (v : Int) (mm : km_Mm) (Q : Option km_V → km_Al → km_Mm → Prop), km_E M_X12_isTrait [.inl 0, .inl v] (km_A0 q c s) mm Q ↔ Q (some (.inl (if 0 ≤ v ∧ v ≤ 5 then 1 else 0))) (km_A0 q c s) mm := fun v mm Q => by rw [r_misTrait]; rfl
  have mt1 : ∀ (v : Int) (mm : km_Mm) (Q : Option km_V → km_Al → km_Mm → Prop), km_E M_X12_isTrait [.inl 1, .inl v] (km_A0 q c s) mm Q ↔ Q (some (.inl (if 0 ≤ v ∧ v ≤ 3 then 1 else 0))) (km_A0 q c s) mm := fun v mm Q => by rw [r_misTrait]; rfl
  have mt2 : ∀ (v : Int) (mm : km_Mm) (Q : Option km_V → km_Al → km_Mm → Prop), km_E M_X12_isTrait [.inl 2, .inl v] (km_A0 q c s) mm Q ↔ Q (some (.inl (if 0 ≤ v ∧ v ≤ 99 then 1 else 0))) (km_A0 q c s) mm := fun v mm Q => by rw [r_misTrait]; rfl
  have mt3 : ∀ (v : Int) (mm : km_Mm) (Q : Option km_V → km_Al → km_Mm → Prop), km_E M_X12_isTrait [.inl 3, .inl v] (km_A0 q c s) mm Q ↔ Q (some (.inl (if 0 ≤ v ∧ v ≤ 3 then 1 else 0))) (km_A0 q c s) mm := fun v mm Q => by rw [r_misTrait]; rfl
  by_cases v : m 5 1 < 10 ∧ (0 ≤ a0 ∧ a0 < 6) ∧ (0 ≤ a1 ∧ a1 < 4) ∧ (0 ≤ a2 ∧ a2 < 100) ∧ (0 ≤ a3 ∧ a3 < 4)
  · obtain ⟨v0, v1, v2, v3, v4⟩ := v
    have ak := fun Q => @r_addKin q c s m a0 a1 a2 a3 a4 f1.1 v0 Q
    refine ⟨.inl (m 5 1), km_up (km_up (km_up (km_up (km_up (km_up m 7 (m 5 1) a0) 8 (m 5 1) a1) 9 (m 5 1) a2) 10 (m 5 1) a3) 11 (m 5 1) a4) 5 1 (m 5 1 + 1), km_sr (km_up (km_up (km_up (km_sr (km_up (km_up (km_up (km_up (km_up (km_up (km_up (km_up (km_up (km_up (km_up (km_up m 7 (m 5 1) a0) 8 (m 5 1) a1) 9 (m 5 1) a2) 10 (m 5 1) a3) 11 (m 5 1) a4) 5 1 (m 5 1 + 1)) 123 2 0) 125 (5 * m 5 1) a0) 125 (5 * m 5 1 + 1) a1) 125 (5 * m 5 1 + 2) a2) 125 (5 * m 5 1 + 3) a3) 125 (5 * m 5 1 + 4) a4) 153 (kv_fl (m 153) (6 * m 5 1) (6 * m 5 1 + 6) 100)) 123 3 (m 5 1 + 1)) 166 (m 5 1) (-1)) 170 (m 5 1) 0) 168 (kq_ro 10 (m 5 1) (-1) 8 0 (m 168)), ?_, ?_, ⟨?_, kR_cg hR (by intro b j z; unfold fR at z; simp (disch := omega) only [km_up_ne, km_fl2_ne, km_sr_ne]), ?_, ?_, kM_cg hM (by intro b j z; unfold fM at z; simp (disch := omega) only [km_up_ne, km_fl2_ne, km_sr_ne]), kF_cg hF (by intro b j z; unfold fF at z; simp (disch := omega) only [km_up_ne, km_fl2_ne, km_sr_ne]), kH_cg hH (by intro b j z; unfold fH at z; simp (disch := omega) only [km_up_ne, km_fl2_ne, km_sr_ne]), ?_, kS_cg hS (by intro b j z; unfold fS at z; simp (disch := omega) only [km_up_ne, km_fl2_ne, km_sr_ne]), kA_cg hA (by intro b j z; unfold fA at z; simp (disch := omega) only [km_up_ne, km_fl2_ne, km_sr_ne])⟩, by intro b j z1 z2; unfold kP at z1; unfold kJ at z2; simp (disch := omega) only [km_up_ne, km_fl2_ne, km_sr_ne]⟩
    · rw [e_X11_kin]
      rcases ht with rfl | rfl <;> simp (config := { decide := true }) (disch := first | decide | assumption | omega | (simp (config := { decide := true }) only [km_sr_sf, km_sr_of, km_up_of, km_up_o, km_upx_i, km_upx_s, km_fl2_o, ne_eq, not_true_eq_false, not_false_eq_true] <;> omega) | fail) only [g_X11_kin, t0, t1, t2, t3, v1, v2, v3, v4, ak, ka_lt, ka_le, ka_nlt, ka_nle, ka_ne, ka_eq, Int.add_sub_cancel, true_or, or_true, false_or, or_false, false_and, and_false, if_true, if_false, ka_lo, ka_hi, ka_nn, km_sr_sf, km_sr_of, km_up_of, km_sr_us, km_sr_uo, km_sr_sr, km_sr_fl, km_sr_flo, km_up_up, km_up_lt, km_lay, km_unL, km_up_o, km_upx_i, km_upx_s, km_fl2_o, km_is, Option.some.injEq, Sum.inl.injEq, Sum.inr.injEq, Option.toList_some, Option.toList_none, List.cons_append, List.nil_append, ne_eq, true_and, and_true, and_self, not_true_eq_false, not_false_eq_true, true_implies, false_implies, reduceCtorEq]
    · generalize hM1 : km_up (km_up (km_up (km_up (km_up (km_up m 7 (m 5 1) a0) 8 (m 5 1) a1) 9 (m 5 1) a2) 10 (m 5 1) a3) 11 (m 5 1) a4) 5 1 (m 5 1 + 1) = M1
      have x3 : M1 123 3 = m 5 1 := by rw [← hM1]; simp (disch := omega) only [km_up_ne, km_up_eq, km_fl2_ne, km_fl2_eq, km_sr_ne, km_sr_s, and_true, true_and, implies_true]; exact f1.2.2
      have x153 : M1 153 = m 153 := by rw [← hM1]; funext j; simp (disch := omega) only [km_up_ne, km_up_eq, km_fl2_ne, km_fl2_eq, km_sr_ne, km_sr_s, and_true, true_and, implies_true]
      have x168 : M1 168 = m 168 := by rw [← hM1]; funext j; simp (disch := omega) only [km_up_ne, km_up_eq, km_fl2_ne, km_fl2_eq, km_sr_ne, km_sr_s, and_true, true_and, implies_true]
      generalize hM2 : km_up (km_up (km_up (km_up (km_up (km_up M1 123 2 0) 125 (5 * m 5 1) a0) 125 (5 * m 5 1 + 1) a1) 125 (5 * m 5 1 + 2) a2) 125 (5 * m 5 1 + 3) a3) 125 (5 * m 5 1 + 4) a4 = M2
      have y3 : M2 123 3 = m 5 1 := by rw [← hM2]; simp (disch := omega) only [km_up_ne, km_up_eq, km_fl2_ne, km_fl2_eq, km_sr_ne, km_sr_s, and_true, true_and, implies_true]; exact x3
      have y153 : M2 153 = m 153 := by rw [← hM2]; funext j; simp (disch := omega) only [km_up_ne, km_up_eq, km_fl2_ne, km_fl2_eq, km_sr_ne, km_sr_s, and_true, true_and, implies_true]; rw [x153]
      have y168 : M2 168 = m 168 := by rw [← hM2]; funext j; simp (disch := omega) only [km_up_ne, km_up_eq, km_fl2_ne, km_fl2_eq, km_sr_ne, km_sr_s, and_true, true_and, implies_true]; rw [x168]
      have l1 := @lp_mkin_130 q c s Q2 a0 a1 a2 a3 a4 M2 (by omega) (fun f => km_G M_X12_kin 160 [some (.inr (.inr 123)), some (.inl a0), some (.inl a1), some (.inl a2), some (.inl a3), some (.inl a4), some (.inl 6)] [] (km_A0 q c s) (km_sr M2 153 f) Q2) (fun f => Iff.rfl) 6 0 (m 153) (by omega) (by omega)
      rw [← y153, km_sr_id, y153, y3, Int.add_zero] at l1
      have l2 := @lp_mkin_183 q c s a0 a1 a2 a3 a4 (km_up (km_up (km_sr M2 153 (kv_fl (m 153) (6 * m 5 1) (6 * m 5 1 + 6) 100)) 166 (m 5 1) (-1)) 170 (m 5 1) 0) (by simp (disch := omega) only [km_up_ne, km_up_eq, km_fl2_ne, km_fl2_eq, km_sr_ne, km_sr_s, and_true, true_and, implies_true]; omega) Q2 8 0 (m 168) (by omega) (by omega)
      have e9 : km_sr (km_up (km_up (km_sr M2 153 (kv_fl (m 153) (6 * m 5 1) (6 * m 5 1 + 6) 100)) 166 (m 5 1) (-1)) 170 (m 5 1) 0) 168 (m 168) = km_up (km_up (km_sr M2 153 (kv_fl (m 153) (6 * m 5 1) (6 * m 5 1 + 6) 100)) 166 (m 5 1) (-1)) 170 (m 5 1) 0 := by
        funext b j; by_cases e : b = 168
        · subst e; rw [km_sr_s]; simp (disch := omega) only [km_up_ne, km_up_eq, km_fl2_ne, km_fl2_eq, km_sr_ne, km_sr_s, and_true, true_and, implies_true]; rw [y168]
        · rw [km_sr_ne e]
      rw [e9] at l2
      simp (config := { decide := true }) only [y3, Int.add_sub_cancel, true_or, or_true, false_or, or_false, false_and, and_false, if_true, if_false, km_sr_sf, km_sr_of, km_up_of, km_sr_us, km_sr_uo, km_sr_sr, km_sr_fl, km_sr_flo, km_up_up, km_up_lt, km_lay, km_unL, km_up_o, km_upx_i, km_upx_s, km_fl2_o, km_is, Option.some.injEq, Sum.inl.injEq, Sum.inr.injEq, Option.toList_some, Option.toList_none, List.cons_append, List.nil_append, ne_eq, true_and, and_true, and_self, not_true_eq_false, not_false_eq_true, true_implies, false_implies, reduceCtorEq] at l2
      rw [e_X12_kin]
      rcases ht with rfl | rfl
      all_goals simp (config := { decide := true }) (disch := first | decide | assumption | omega | (simp (config := { decide := true }) only [km_sr_sf, km_sr_of, km_up_of, km_up_o, km_upx_i, km_upx_s, km_fl2_o, ne_eq, not_true_eq_false, not_false_eq_true] <;> omega) | fail) only [g_X12_kin, mt0, mt1, mt2, mt3, x3, ka_lt, ka_le, ka_nlt, ka_nle, ka_ne, ka_eq, Int.add_sub_cancel, true_or, or_true, false_or, or_false, false_and, and_false, if_true, if_false, ka_lo, ka_hi, ka_nn, km_sr_sf, km_sr_of, km_up_of, km_sr_us, km_sr_uo, km_sr_sr, km_sr_fl, km_sr_flo, km_up_up, km_up_lt, km_lay, km_unL, km_up_o, km_upx_i, km_upx_s, km_fl2_o, km_is, Option.some.injEq, Sum.inl.injEq, Sum.inr.injEq, Option.toList_some, Option.toList_none, List.cons_append, List.nil_append, ne_eq, true_and, and_true, and_self, not_true_eq_false, not_false_eq_true, true_implies, false_implies, reduceCtorEq]
      all_goals rw [hM2]
      all_goals rw [l1]
      all_goals simp (config := { decide := true }) (disch := first | decide | assumption | omega | (simp (config := { decide := true }) only [km_sr_sf, km_sr_of, km_up_of, km_up_o, km_upx_i, km_upx_s, km_fl2_o, ne_eq, not_true_eq_false, not_false_eq_true] <;> omega) | fail) only [g_X12_kin, y3, l2, ka_lt, ka_le, ka_nlt, ka_nle, ka_ne, ka_eq, Int.add_sub_cancel, true_or, or_true, false_or, or_false, false_and, and_false, if_true, if_false, ka_lo, ka_hi, ka_nn, km_sr_sf, km_sr_of, km_up_of, km_sr_us, km_sr_uo, km_sr_sr, km_sr_fl, km_sr_flo, km_up_up, km_up_lt, km_lay, km_unL, km_up_o, km_upx_i, km_upx_s, km_fl2_o, km_is, Option.some.injEq, Sum.inl.injEq, Sum.inr.injEq, Option.toList_some, Option.toList_none, List.cons_append, List.nil_append, ne_eq, true_and, and_true, and_self, not_true_eq_false, not_false_eq_true, true_implies, false_implies, reduceCtorEq]
    · obtain ⟨b1, b2, b3, b4, b5, b6⟩ := hB
      refine ⟨?_, ?_, ?_, ?_, ?_, ?_⟩
      · simp (disch := omega) only [km_up_ne, km_up_eq, km_fl2_ne, km_fl2_eq, km_sr_ne, km_sr_s, and_true, true_and, implies_true]; omega
      · simp (disch := omega) only [km_up_ne, km_up_eq, km_fl2_ne, km_fl2_eq, km_sr_ne, km_sr_s, and_true, true_and, implies_true]; omega
      · simp (disch := omega) only [km_up_ne, km_up_eq, km_fl2_ne, km_fl2_eq, km_sr_ne, km_sr_s, and_true, true_and, implies_true]; omega
      · intro i i0 i1; have := b4 i i0 i1; simp (disch := omega) only [km_up_ne, km_up_eq, km_fl2_ne, km_fl2_eq, km_sr_ne, km_sr_s, and_true, true_and, implies_true]; exact this
      · intro i i0 i1; have := b5 i i0 i1; simp (disch := omega) only [km_up_ne, km_up_eq, km_fl2_ne, km_fl2_eq, km_sr_ne, km_sr_s, and_true, true_and, implies_true]; exact this
      · intro i i0 i1; simp (disch := omega) only [km_up_ne, km_up_eq, km_fl2_ne, km_fl2_eq, km_sr_ne, km_sr_s, and_true, true_and, implies_true] at i1; have := b6 i i0 i1; unfold kI_note at *; simp (disch := omega) only [km_up_ne, km_up_eq, km_fl2_ne, km_fl2_eq, km_sr_ne, km_sr_s, and_true, true_and, implies_true]; omega
    · intro x x0 x1
      simp (disch := omega) only [km_up_ne, km_up_eq, km_fl2_ne, km_fl2_eq, km_sr_ne, km_sr_s, and_true, true_and, implies_true] at x1
      by_cases e : x = m 5 1
      · subst e; simp (disch := omega) only [km_up_ne, km_up_eq, km_fl2_ne, km_fl2_eq, km_sr_ne, km_sr_s, and_true, true_and, implies_true]; omega
      · have := hT x x0 (by omega); simp (disch := omega) only [km_up_ne, km_up_eq, km_fl2_ne, km_fl2_eq, km_sr_ne, km_sr_s, and_true, true_and, implies_true]; exact this
    · refine ⟨?_, fun o o0 o1 => ?_, fun o k o0 o1 k0 k1 => ?_⟩
      · simp (disch := omega) only [km_up_ne, km_up_eq, km_fl2_ne, km_fl2_eq, km_sr_ne, km_sr_s, and_true, true_and, implies_true]; omega
      · simp (disch := omega) only [km_up_ne, km_up_eq, km_fl2_ne, km_fl2_eq, km_sr_ne, km_sr_s, and_true, true_and, implies_true] at o1; have := hO.2.1 o o0 o1; simp (disch := omega) only [km_up_ne, km_up_eq, km_fl2_ne, km_fl2_eq, km_sr_ne, km_sr_s, and_true, true_and, implies_true]; exact this
      · simp (disch := omega) only [km_up_ne, km_up_eq, km_fl2_ne, km_fl2_eq, km_sr_ne, km_sr_s, and_true, true_and, implies_true] at o1
        have := hO.2.2 o k o0 o1 k0 k1
        by_cases e : k = m 5 1
        · subst e; simp (disch := omega) only [km_up_ne, km_up_eq, km_fl2_ne, km_fl2_eq, km_sr_ne, km_sr_s, and_true, true_and, implies_true]; unfold kv_fl; rw [if_pos (by omega)]; omega
        · simp (disch := omega) only [km_up_ne, km_up_eq, km_fl2_ne, km_fl2_eq, km_sr_ne, km_sr_s, and_true, true_and, implies_true]; unfold kv_fl; rw [if_neg (by omega)]; omega
    · obtain ⟨b1, b2, b3, b4, b5, b6, b7, b8, b9⟩ := hE
      refine ⟨?_, ?_, ?_, ?_, ?_, ?_, ?_, ?_, ?_⟩
      · simp (disch := omega) only [km_up_ne, km_up_eq, km_fl2_ne, km_fl2_eq, km_sr_ne, km_sr_s, and_true, true_and, implies_true]; exact b1
      · simp (disch := omega) only [km_up_ne, km_up_eq, km_fl2_ne, km_fl2_eq, km_sr_ne, km_sr_s, and_true, true_and, implies_true]; exact ⟨b2.1, b2.2.1, fun k k0 k1 => b2.2.2 k (by omega) k1⟩
      · simp (disch := omega) only [km_up_ne, km_up_eq, km_fl2_ne, km_fl2_eq, km_sr_ne, km_sr_s, and_true, true_and, implies_true]; exact b3
      · intro x x0 x1
        have := b4 x x0 x1
        by_cases e : x = m 5 1
        · subst e
          have z := this.2.2 (b2.2.2 _ (Int.le_refl _) v0)
          simp (disch := omega) only [km_up_ne, km_up_eq, km_fl2_ne, km_fl2_eq, km_sr_ne, km_sr_s, and_true, true_and, implies_true]
          rw [z]
          exact ⟨by omega, fun _ => rfl, fun _ => rfl⟩
        · simp (disch := omega) only [km_up_ne, km_up_eq, km_fl2_ne, km_fl2_eq, km_sr_ne, km_sr_s, and_true, true_and, implies_true]; exact ⟨this.1, fun w => this.2.1 (by omega), this.2.2⟩
      · simp (disch := omega) only [km_up_ne, km_up_eq, km_fl2_ne, km_fl2_eq, km_sr_ne, km_sr_s, and_true, true_and, implies_true]; exact b5
      · intro x x0 x1
        have := b6 x x0 x1
        by_cases e : x = m 5 1
        · subst e; have z := this.2.2 (Int.le_refl _); simp (disch := omega) only [km_up_ne, km_up_eq, km_fl2_ne, km_fl2_eq, km_sr_ne, km_sr_s, and_true, true_and, implies_true]; rw [z]; exact ⟨by omega, fun _ _ => rfl, fun _ => rfl⟩
        · simp (disch := omega) only [km_up_ne, km_up_eq, km_fl2_ne, km_fl2_eq, km_sr_ne, km_sr_s, and_true, true_and, implies_true]; exact ⟨this.1, fun w1 w2 => this.2.1 w1 (by omega), fun w => this.2.2 (by omega)⟩
      · intro d x d0 d1 x0 x1
        simp (disch := omega) only [km_up_ne, km_up_eq, km_fl2_ne, km_fl2_eq, km_sr_ne, km_sr_s, and_true, true_and, implies_true] at d1
        have := b7 d x d0 d1 x0 x1
        simp (disch := omega) only [km_up_ne, km_up_eq, km_fl2_ne, km_fl2_eq, km_sr_ne, km_sr_s, and_true, true_and, implies_true]
        rw [kq_ro_at (by decide) ⟨f1.1, v0⟩ ⟨x0, x1⟩]
        by_cases e : x = m 5 1
        · subst e; have z := this.2.2 (Int.le_refl _); rw [if_pos (by omega), z]; exact ⟨by omega, fun _ => rfl, fun _ => rfl⟩
        · rw [if_neg (by omega)]; exact ⟨this.1, fun w => this.2.1 (by omega), fun w => this.2.2 (by omega)⟩
      · simp (disch := omega) only [km_up_ne, km_up_eq, km_fl2_ne, km_fl2_eq, km_sr_ne, km_sr_s, and_true, true_and, implies_true]; exact b8
      · simp (disch := omega) only [km_up_ne, km_up_eq, km_fl2_ne, km_fl2_eq, km_sr_ne, km_sr_s, and_true, true_and, implies_true]; exact b9
  · refine ⟨.inl (-1), m, km_up m 123 2 0, ?_, ?_, kI0_t hi, kP_t⟩
    · rw [e_X11_kin]
      by_cases c0 : m 5 1 < 10
      case neg => simp (config := { decide := true }) (disch := first | decide | assumption | omega | (simp (config := { decide := true }) only [km_sr_sf, km_sr_of, km_up_of, km_up_o, km_upx_i, km_upx_s, km_fl2_o, ne_eq, not_true_eq_false, not_false_eq_true] <;> omega) | fail) only [g_X11_kin, ka_lt, ka_le, ka_nlt, ka_nle, ka_ne, ka_eq, Int.add_sub_cancel, true_or, or_true, false_or, or_false, false_and, and_false, if_true, if_false, ka_lo, ka_hi, ka_nn, km_sr_sf, km_sr_of, km_up_of, km_sr_us, km_sr_uo, km_sr_sr, km_sr_fl, km_sr_flo, km_up_up, km_up_lt, km_lay, km_unL, km_up_o, km_upx_i, km_upx_s, km_fl2_o, km_is, Option.some.injEq, Sum.inl.injEq, Sum.inr.injEq, Option.toList_some, Option.toList_none, List.cons_append, List.nil_append, ne_eq, true_and, and_true, and_self, not_true_eq_false, not_false_eq_true, true_implies, false_implies, reduceCtorEq]
      by_cases c1 : 0 ≤ a0 ∧ a0 < 6
      case neg => simp (config := { decide := true }) (disch := first | decide | assumption | omega | (simp (config := { decide := true }) only [km_sr_sf, km_sr_of, km_up_of, km_up_o, km_upx_i, km_upx_s, km_fl2_o, ne_eq, not_true_eq_false, not_false_eq_true] <;> omega) | fail) only [g_X11_kin, t0, c1, ka_lt, ka_le, ka_nlt, ka_nle, ka_ne, ka_eq, Int.add_sub_cancel, true_or, or_true, false_or, or_false, false_and, and_false, if_true, if_false, ka_lo, ka_hi, ka_nn, km_sr_sf, km_sr_of, km_up_of, km_sr_us, km_sr_uo, km_sr_sr, km_sr_fl, km_sr_flo, km_up_up, km_up_lt, km_lay, km_unL, km_up_o, km_upx_i, km_upx_s, km_fl2_o, km_is, Option.some.injEq, Sum.inl.injEq, Sum.inr.injEq, Option.toList_some, Option.toList_none, List.cons_append, List.nil_append, ne_eq, true_and, and_true, and_self, not_true_eq_false, not_false_eq_true, true_implies, false_implies, reduceCtorEq]
      by_cases c2 : 0 ≤ a1 ∧ a1 < 4
      case neg => simp (config := { decide := true }) (disch := first | decide | assumption | omega | (simp (config := { decide := true }) only [km_sr_sf, km_sr_of, km_up_of, km_up_o, km_upx_i, km_upx_s, km_fl2_o, ne_eq, not_true_eq_false, not_false_eq_true] <;> omega) | fail) only [g_X11_kin, t0, t1, c1, c2, ka_lt, ka_le, ka_nlt, ka_nle, ka_ne, ka_eq, Int.add_sub_cancel, true_or, or_true, false_or, or_false, false_and, and_false, if_true, if_false, ka_lo, ka_hi, ka_nn, km_sr_sf, km_sr_of, km_up_of, km_sr_us, km_sr_uo, km_sr_sr, km_sr_fl, km_sr_flo, km_up_up, km_up_lt, km_lay, km_unL, km_up_o, km_upx_i, km_upx_s, km_fl2_o, km_is, Option.some.injEq, Sum.inl.injEq, Sum.inr.injEq, Option.toList_some, Option.toList_none, List.cons_append, List.nil_append, ne_eq, true_and, and_true, and_self, not_true_eq_false, not_false_eq_true, true_implies, false_implies, reduceCtorEq]
      by_cases c3 : 0 ≤ a2 ∧ a2 < 100
      case neg => simp (config := { decide := true }) (disch := first | decide | assumption | omega | (simp (config := { decide := true }) only [km_sr_sf, km_sr_of, km_up_of, km_up_o, km_upx_i, km_upx_s, km_fl2_o, ne_eq, not_true_eq_false, not_false_eq_true] <;> omega) | fail) only [g_X11_kin, t0, t1, t2, c1, c2, c3, ka_lt, ka_le, ka_nlt, ka_nle, ka_ne, ka_eq, Int.add_sub_cancel, true_or, or_true, false_or, or_false, false_and, and_false, if_true, if_false, ka_lo, ka_hi, ka_nn, km_sr_sf, km_sr_of, km_up_of, km_sr_us, km_sr_uo, km_sr_sr, km_sr_fl, km_sr_flo, km_up_up, km_up_lt, km_lay, km_unL, km_up_o, km_upx_i, km_upx_s, km_fl2_o, km_is, Option.some.injEq, Sum.inl.injEq, Sum.inr.injEq, Option.toList_some, Option.toList_none, List.cons_append, List.nil_append, ne_eq, true_and, and_true, and_self, not_true_eq_false, not_false_eq_true, true_implies, false_implies, reduceCtorEq]
      by_cases c4 : 0 ≤ a3 ∧ a3 < 4
      case neg => simp (config := { decide := true }) (disch := first | decide | assumption | omega | (simp (config := { decide := true }) only [km_sr_sf, km_sr_of, km_up_of, km_up_o, km_upx_i, km_upx_s, km_fl2_o, ne_eq, not_true_eq_false, not_false_eq_true] <;> omega) | fail) only [g_X11_kin, t0, t1, t2, t3, c1, c2, c3, c4, ka_lt, ka_le, ka_nlt, ka_nle, ka_ne, ka_eq, Int.add_sub_cancel, true_or, or_true, false_or, or_false, false_and, and_false, if_true, if_false, ka_lo, ka_hi, ka_nn, km_sr_sf, km_sr_of, km_up_of, km_sr_us, km_sr_uo, km_sr_sr, km_sr_fl, km_sr_flo, km_up_up, km_up_lt, km_lay, km_unL, km_up_o, km_upx_i, km_upx_s, km_fl2_o, km_is, Option.some.injEq, Sum.inl.injEq, Sum.inr.injEq, Option.toList_some, Option.toList_none, List.cons_append, List.nil_append, ne_eq, true_and, and_true, and_self, not_true_eq_false, not_false_eq_true, true_implies, false_implies, reduceCtorEq]
      exact absurd (by omega) v
    · rw [e_X12_kin]
      by_cases c0 : m 5 1 < 10
      case neg => simp (config := { decide := true }) (disch := first | decide | assumption | omega | (simp (config := { decide := true }) only [km_sr_sf, km_sr_of, km_up_of, km_up_o, km_upx_i, km_upx_s, km_fl2_o, ne_eq, not_true_eq_false, not_false_eq_true] <;> omega) | fail) only [g_X12_kin, f1.2.2, ka_lt, ka_le, ka_nlt, ka_nle, ka_ne, ka_eq, Int.add_sub_cancel, true_or, or_true, false_or, or_false, false_and, and_false, if_true, if_false, ka_lo, ka_hi, ka_nn, km_sr_sf, km_sr_of, km_up_of, km_sr_us, km_sr_uo, km_sr_sr, km_sr_fl, km_sr_flo, km_up_up, km_up_lt, km_lay, km_unL, km_up_o, km_upx_i, km_upx_s, km_fl2_o, km_is, Option.some.injEq, Sum.inl.injEq, Sum.inr.injEq, Option.toList_some, Option.toList_none, List.cons_append, List.nil_append, ne_eq, true_and, and_true, and_self, not_true_eq_false, not_false_eq_true, true_implies, false_implies, reduceCtorEq]
      by_cases c1 : 0 ≤ a0 ∧ a0 ≤ 5
      case neg => simp (config := { decide := true }) (disch := first | decide | assumption | omega | (simp (config := { decide := true }) only [km_sr_sf, km_sr_of, km_up_of, km_up_o, km_upx_i, km_upx_s, km_fl2_o, ne_eq, not_true_eq_false, not_false_eq_true] <;> omega) | fail) only [g_X12_kin, f1.2.2, mt0, c1, ka_lt, ka_le, ka_nlt, ka_nle, ka_ne, ka_eq, Int.add_sub_cancel, true_or, or_true, false_or, or_false, false_and, and_false, if_true, if_false, ka_lo, ka_hi, ka_nn, km_sr_sf, km_sr_of, km_up_of, km_sr_us, km_sr_uo, km_sr_sr, km_sr_fl, km_sr_flo, km_up_up, km_up_lt, km_lay, km_unL, km_up_o, km_upx_i, km_upx_s, km_fl2_o, km_is, Option.some.injEq, Sum.inl.injEq, Sum.inr.injEq, Option.toList_some, Option.toList_none, List.cons_append, List.nil_append, ne_eq, true_and, and_true, and_self, not_true_eq_false, not_false_eq_true, true_implies, false_implies, reduceCtorEq]
      by_cases c2 : 0 ≤ a1 ∧ a1 ≤ 3
      case neg => simp (config := { decide := true }) (disch := first | decide | assumption | omega | (simp (config := { decide := true }) only [km_sr_sf, km_sr_of, km_up_of, km_up_o, km_upx_i, km_upx_s, km_fl2_o, ne_eq, not_true_eq_false, not_false_eq_true] <;> omega) | fail) only [g_X12_kin, f1.2.2, mt0, mt1, c1, c2, ka_lt, ka_le, ka_nlt, ka_nle, ka_ne, ka_eq, Int.add_sub_cancel, true_or, or_true, false_or, or_false, false_and, and_false, if_true, if_false, ka_lo, ka_hi, ka_nn, km_sr_sf, km_sr_of, km_up_of, km_sr_us, km_sr_uo, km_sr_sr, km_sr_fl, km_sr_flo, km_up_up, km_up_lt, km_lay, km_unL, km_up_o, km_upx_i, km_upx_s, km_fl2_o, km_is, Option.some.injEq, Sum.inl.injEq, Sum.inr.injEq, Option.toList_some, Option.toList_none, List.cons_append, List.nil_append, ne_eq, true_and, and_true, and_self, not_true_eq_false, not_false_eq_true, true_implies, false_implies, reduceCtorEq]
      by_cases c3 : 0 ≤ a2 ∧ a2 ≤ 99
      case neg => simp (config := { decide := true }) (disch := first | decide | assumption | omega | (simp (config := { decide := true }) only [km_sr_sf, km_sr_of, km_up_of, km_up_o, km_upx_i, km_upx_s, km_fl2_o, ne_eq, not_true_eq_false, not_false_eq_true] <;> omega) | fail) only [g_X12_kin, f1.2.2, mt0, mt1, mt2, c1, c2, c3, ka_lt, ka_le, ka_nlt, ka_nle, ka_ne, ka_eq, Int.add_sub_cancel, true_or, or_true, false_or, or_false, false_and, and_false, if_true, if_false, ka_lo, ka_hi, ka_nn, km_sr_sf, km_sr_of, km_up_of, km_sr_us, km_sr_uo, km_sr_sr, km_sr_fl, km_sr_flo, km_up_up, km_up_lt, km_lay, km_unL, km_up_o, km_upx_i, km_upx_s, km_fl2_o, km_is, Option.some.injEq, Sum.inl.injEq, Sum.inr.injEq, Option.toList_some, Option.toList_none, List.cons_append, List.nil_append, ne_eq, true_and, and_true, and_self, not_true_eq_false, not_false_eq_true, true_implies, false_implies, reduceCtorEq]
      by_cases c4 : 0 ≤ a3 ∧ a3 ≤ 3
      case neg => simp (config := { decide := true }) (disch := first | decide | assumption | omega | (simp (config := { decide := true }) only [km_sr_sf, km_sr_of, km_up_of, km_up_o, km_upx_i, km_upx_s, km_fl2_o, ne_eq, not_true_eq_false, not_false_eq_true] <;> omega) | fail) only [g_X12_kin, f1.2.2, mt0, mt1, mt2, mt3, c1, c2, c3, c4, ka_lt, ka_le, ka_nlt, ka_nle, ka_ne, ka_eq, Int.add_sub_cancel, true_or, or_true, false_or, or_false, false_and, and_false, if_true, if_false, ka_lo, ka_hi, ka_nn, km_sr_sf, km_sr_of, km_up_of, km_sr_us, km_sr_uo, km_sr_sr, km_sr_fl, km_sr_flo, km_up_up, km_up_lt, km_lay, km_unL, km_up_o, km_upx_i, km_upx_s, km_fl2_o, km_is, Option.some.injEq, Sum.inl.injEq, Sum.inr.injEq, Option.toList_some, Option.toList_none, List.cons_append, List.nil_append, ne_eq, true_and, and_true, and_self, not_true_eq_false, not_false_eq_true, true_implies, false_implies, reduceCtorEq]
      exact absurd (by omega) v

