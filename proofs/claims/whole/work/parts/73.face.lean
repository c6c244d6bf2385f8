/-! ===== the face: receipt, regret, feud, guest ===== -/

theorem fc_receipt {N : Int} {q : Nat × Int × Int × Int × Int} {c s : Nat} {m : km_Mm} (h : kI0 N m) {k n : Int} : kF M_X11_receipt M_X12_receipt [.inl k, .inl n] N q c s m := by
  intro Q1 Q2
  have hi := h
  obtain ⟨hB, hR, hT, hO, hM, hF, hH, hE, hS, hA⟩ := h
  have f1 := hB.1
  obtain ⟨a1, a2, a3, a4, a5, a6, a7, a8, a9⟩ := id hE
  have g1 := fun Q => @cl_isGuest q c s m k a2.2.1 Q
  have g2 := fun Q => @md_isGuest q c s m (km_up m 123 2 0) k hE f1.2.1 (km_up_ne (by omega)) (km_up_ne (by omega)) ((km_up_ne (by omega)).trans f1.2.2) Q
  by_cases g : kG m k
  case neg =>
    refine ⟨.inl (-1), m, km_up m 123 2 0, ?_, ?_, kI0_t hi, kP_t⟩
    · rw [e_X11_receipt]
      simp (config := { decide := true }) (disch := first | decide | assumption | omega | (simp (config := { decide := true }) only [km_sr_sf, km_sr_of, km_up_of, km_up_o, km_upx_i, km_upx_s, km_fl2_o, ne_eq, not_true_eq_false, not_false_eq_true] <;> omega) | fail) only [g_X11_receipt, g1, g, Int.add_sub_cancel, true_or, or_true, false_or, or_false, false_and, and_false, if_true, if_false, ka_lo, ka_hi, ka_nn, km_sr_sf, km_sr_of, km_up_of, km_sr_us, km_sr_uo, km_sr_sr, km_sr_fl, km_sr_flo, km_up_up, km_up_lt, km_lay, km_unL, km_up_o, km_upx_i, km_upx_s, km_fl2_o, km_is, Option.some.injEq, Sum.inl.injEq, Sum.inr.injEq, Option.toList_some, Option.toList_none, List.cons_append, List.nil_append, ne_eq, true_and, and_true, and_self, not_true_eq_false, not_false_eq_true, true_implies, false_implies, reduceCtorEq]
    · rw [e_X12_receipt]
      simp (config := { decide := true }) (disch := first | decide | assumption | omega | (simp (config := { decide := true }) only [km_sr_sf, km_sr_of, km_up_of, km_up_o, km_upx_i, km_upx_s, km_fl2_o, ne_eq, not_true_eq_false, not_false_eq_true] <;> omega) | fail) only [g_X12_receipt, g2, g, Int.add_sub_cancel, true_or, or_true, false_or, or_false, false_and, and_false, if_true, if_false, ka_lo, ka_hi, ka_nn, km_sr_sf, km_sr_of, km_up_of, km_sr_us, km_sr_uo, km_sr_sr, km_sr_fl, km_sr_flo, km_up_up, km_up_lt, km_lay, km_unL, km_up_o, km_upx_i, km_upx_s, km_fl2_o, km_is, Option.some.injEq, Sum.inl.injEq, Sum.inr.injEq, Option.toList_some, Option.toList_none, List.cons_append, List.nil_append, ne_eq, true_and, and_true, and_self, not_true_eq_false, not_false_eq_true, true_implies, false_implies, reduceCtorEq]
  have kk : k < m 5 1 := by
    by_cases w : k < m 5 1
    · exact w
    · have := a2.2.2 k (by omega) g.2.1; have := g.2.2; simp_all
  have k4 := a4 k g.1 g.2.1
  have k5 := k4.2.1 kk
  have gb := g.1
  have gc := g.2.1
  by_cases v : 1 ≤ n ∧ n ≤ 99999 ∧ m 101 k + n ≤ 999999
  · have g3 := fun Q => @md_isGuest q c s m (km_up (km_up m 101 k (m 101 k + n)) 123 2 0) k hE f1.2.1 (by simp (disch := omega) only [km_up_ne, km_up_eq, km_fl2_ne, km_fl2_eq, and_true, true_and, implies_true]) (by simp (disch := omega) only [km_up_ne, km_up_eq, km_fl2_ne, km_fl2_eq, and_true, true_and, implies_true]) (by simp (disch := omega) only [km_up_ne, km_up_eq, km_fl2_ne, km_fl2_eq, and_true, true_and, implies_true]; exact f1.2.2) Q
    refine ⟨.inl (m 101 k + n), km_up m 101 k (m 101 k + n), km_up (km_up (km_up m 101 k (m 101 k + n)) 123 2 0) 170 k (m 101 k + n), ?_, ?_, ⟨kB_cg hB (by intro b j z; unfold fB at z; simp (disch := omega) only [km_up_ne, km_fl2_ne, km_sr_ne]), kR_cg hR (by intro b j z; unfold fR at z; simp (disch := omega) only [km_up_ne, km_fl2_ne, km_sr_ne]), kT_cg hT (by intro b j z; unfold fT at z; simp (disch := omega) only [km_up_ne, km_fl2_ne, km_sr_ne]), kO_cg hO (by intro b j z; unfold fO at z; simp (disch := omega) only [km_up_ne, km_fl2_ne, km_sr_ne]), kM_cg hM (by intro b j z; unfold fM at z; simp (disch := omega) only [km_up_ne, km_fl2_ne, km_sr_ne]), kF_cg hF (by intro b j z; unfold fF at z; simp (disch := omega) only [km_up_ne, km_fl2_ne, km_sr_ne]), kH_cg hH (by intro b j z; unfold fH at z; simp (disch := omega) only [km_up_ne, km_fl2_ne, km_sr_ne]), ?_, kS_cg hS (by intro b j z; unfold fS at z; simp (disch := omega) only [km_up_ne, km_fl2_ne, km_sr_ne]), kA_cg hA (by intro b j z; unfold fA at z; simp (disch := omega) only [km_up_ne, km_fl2_ne, km_sr_ne])⟩, by intro b j z1 z2; unfold kP at z1; unfold kJ at z2; simp (disch := omega) only [km_up_ne, km_fl2_ne, km_sr_ne]⟩
    · rw [e_X11_receipt]
      simp (config := { decide := true }) (disch := first | decide | assumption | omega | (simp (config := { decide := true }) only [km_sr_sf, km_sr_of, km_up_of, km_up_o, km_upx_i, km_upx_s, km_fl2_o, ne_eq, not_true_eq_false, not_false_eq_true] <;> omega) | fail) only [g_X11_receipt, g1, g, ka_lt, ka_le, ka_nlt, ka_nle, ka_ne, ka_eq, Int.add_sub_cancel, true_or, or_true, false_or, or_false, false_and, and_false, if_true, if_false, ka_lo, ka_hi, ka_nn, km_sr_sf, km_sr_of, km_up_of, km_sr_us, km_sr_uo, km_sr_sr, km_sr_fl, km_sr_flo, km_up_up, km_up_lt, km_lay, km_unL, km_up_o, km_upx_i, km_upx_s, km_fl2_o, km_is, Option.some.injEq, Sum.inl.injEq, Sum.inr.injEq, Option.toList_some, Option.toList_none, List.cons_append, List.nil_append, ne_eq, true_and, and_true, and_self, not_true_eq_false, not_false_eq_true, true_implies, false_implies, reduceCtorEq]
    · rw [e_X12_receipt]
      simp (config := { decide := true }) (disch := first | decide | assumption | omega | (simp (config := { decide := true }) only [km_sr_sf, km_sr_of, km_up_of, km_up_o, km_upx_i, km_upx_s, km_fl2_o, ne_eq, not_true_eq_false, not_false_eq_true] <;> omega) | fail) only [g_X12_receipt, g3, g, k5, ka_lt, ka_le, ka_nlt, ka_nle, ka_ne, ka_eq, Int.add_sub_cancel, true_or, or_true, false_or, or_false, false_and, and_false, if_true, if_false, ka_lo, ka_hi, ka_nn, km_sr_sf, km_sr_of, km_up_of, km_sr_us, km_sr_uo, km_sr_sr, km_sr_fl, km_sr_flo, km_up_up, km_up_lt, km_lay, km_unL, km_up_o, km_upx_i, km_upx_s, km_fl2_o, km_is, Option.some.injEq, Sum.inl.injEq, Sum.inr.injEq, Option.toList_some, Option.toList_none, List.cons_append, List.nil_append, ne_eq, true_and, and_true, and_self, not_true_eq_false, not_false_eq_true, true_implies, false_implies, reduceCtorEq]
    · refine ⟨?_, ?_, ?_, ?_, ?_, ?_, ?_, ?_, ?_⟩
      · simp (disch := omega) only [km_up_ne, km_up_eq, km_fl2_ne, km_fl2_eq, and_true, true_and, implies_true]; exact a1
      · simp (disch := omega) only [km_up_ne, km_up_eq, km_fl2_ne, km_fl2_eq, and_true, true_and, implies_true]; exact a2
      · simp (disch := omega) only [km_up_ne, km_up_eq, km_fl2_ne, km_fl2_eq, and_true, true_and, implies_true]; exact a3
      · intro x x0 x1
        have := a4 x x0 x1
        by_cases e : x = k
        · subst e; simp (disch := omega) only [km_up_ne, km_up_eq, km_fl2_ne, km_fl2_eq, and_true, true_and, implies_true]; exact ⟨by omega, fun w => by have := g.2.2; rw [w] at this; cases this⟩
        · simp (disch := omega) only [km_up_ne, km_up_eq, km_fl2_ne, km_fl2_eq, and_true, true_and, implies_true]; exact this
      · simp (disch := omega) only [km_up_ne, km_up_eq, km_fl2_ne, km_fl2_eq, and_true, true_and, implies_true]; exact a5
      · intro x x0 x1; have := a6 x x0 x1; simp (disch := omega) only [km_up_ne, km_up_eq, km_fl2_ne, km_fl2_eq, and_true, true_and, implies_true]; exact this
      · intro d x d0 d1 x0 x1; simp (disch := omega) only [km_up_ne] at d1; have := a7 d x d0 d1 x0 x1; simp (disch := omega) only [km_up_ne, km_up_eq, km_fl2_ne, km_fl2_eq, and_true, true_and, implies_true]; exact this
      · simp (disch := omega) only [km_up_ne, km_up_eq, km_fl2_ne, km_fl2_eq, and_true, true_and, implies_true]; exact a8
      · simp (disch := omega) only [km_up_ne, km_up_eq, km_fl2_ne, km_fl2_eq, and_true, true_and, implies_true]; exact a9
  · refine ⟨.inl (-1), m, km_up m 123 2 0, ?_, ?_, kI0_t hi, kP_t⟩
    · rw [e_X11_receipt]
      by_cases c0 : 1 ≤ n
      case neg => simp (config := { decide := true }) (disch := first | decide | assumption | omega | (simp (config := { decide := true }) only [km_sr_sf, km_sr_of, km_up_of, km_up_o, km_upx_i, km_upx_s, km_fl2_o, ne_eq, not_true_eq_false, not_false_eq_true] <;> omega) | fail) only [g_X11_receipt, g1, g, ka_lt, ka_le, ka_nlt, ka_nle, ka_ne, ka_eq, Int.add_sub_cancel, true_or, or_true, false_or, or_false, false_and, and_false, if_true, if_false, ka_lo, ka_hi, ka_nn, km_sr_sf, km_sr_of, km_up_of, km_sr_us, km_sr_uo, km_sr_sr, km_sr_fl, km_sr_flo, km_up_up, km_up_lt, km_lay, km_unL, km_up_o, km_upx_i, km_upx_s, km_fl2_o, km_is, Option.some.injEq, Sum.inl.injEq, Sum.inr.injEq, Option.toList_some, Option.toList_none, List.cons_append, List.nil_append, ne_eq, true_and, and_true, and_self, not_true_eq_false, not_false_eq_true, true_implies, false_implies, reduceCtorEq]
      by_cases c1 : n ≤ 99999
      case neg => simp (config := { decide := true }) (disch := first | decide | assumption | omega | (simp (config := { decide := true }) only [km_sr_sf, km_sr_of, km_up_of, km_up_o, km_upx_i, km_upx_s, km_fl2_o, ne_eq, not_true_eq_false, not_false_eq_true] <;> omega) | fail) only [g_X11_receipt, g1, g, ka_lt, ka_le, ka_nlt, ka_nle, ka_ne, ka_eq, Int.add_sub_cancel, true_or, or_true, false_or, or_false, false_and, and_false, if_true, if_false, ka_lo, ka_hi, ka_nn, km_sr_sf, km_sr_of, km_up_of, km_sr_us, km_sr_uo, km_sr_sr, km_sr_fl, km_sr_flo, km_up_up, km_up_lt, km_lay, km_unL, km_up_o, km_upx_i, km_upx_s, km_fl2_o, km_is, Option.some.injEq, Sum.inl.injEq, Sum.inr.injEq, Option.toList_some, Option.toList_none, List.cons_append, List.nil_append, ne_eq, true_and, and_true, and_self, not_true_eq_false, not_false_eq_true, true_implies, false_implies, reduceCtorEq]
      simp (config := { decide := true }) (disch := first | decide | assumption | omega | (simp (config := { decide := true }) only [km_sr_sf, km_sr_of, km_up_of, km_up_o, km_upx_i, km_upx_s, km_fl2_o, ne_eq, not_true_eq_false, not_false_eq_true] <;> omega) | fail) only [g_X11_receipt, g1, g, ka_lt, ka_le, ka_nlt, ka_nle, ka_ne, ka_eq, Int.add_sub_cancel, true_or, or_true, false_or, or_false, false_and, and_false, if_true, if_false, ka_lo, ka_hi, ka_nn, km_sr_sf, km_sr_of, km_up_of, km_sr_us, km_sr_uo, km_sr_sr, km_sr_fl, km_sr_flo, km_up_up, km_up_lt, km_lay, km_unL, km_up_o, km_upx_i, km_upx_s, km_fl2_o, km_is, Option.some.injEq, Sum.inl.injEq, Sum.inr.injEq, Option.toList_some, Option.toList_none, List.cons_append, List.nil_append, ne_eq, true_and, and_true, and_self, not_true_eq_false, not_false_eq_true, true_implies, false_implies, reduceCtorEq]
    · rw [e_X12_receipt]
      by_cases c0 : 1 ≤ n
      case neg => simp (config := { decide := true }) (disch := first | decide | assumption | omega | (simp (config := { decide := true }) only [km_sr_sf, km_sr_of, km_up_of, km_up_o, km_upx_i, km_upx_s, km_fl2_o, ne_eq, not_true_eq_false, not_false_eq_true] <;> omega) | fail) only [g_X12_receipt, g2, g, ka_lt, ka_le, ka_nlt, ka_nle, ka_ne, ka_eq, Int.add_sub_cancel, true_or, or_true, false_or, or_false, false_and, and_false, if_true, if_false, ka_lo, ka_hi, ka_nn, km_sr_sf, km_sr_of, km_up_of, km_sr_us, km_sr_uo, km_sr_sr, km_sr_fl, km_sr_flo, km_up_up, km_up_lt, km_lay, km_unL, km_up_o, km_upx_i, km_upx_s, km_fl2_o, km_is, Option.some.injEq, Sum.inl.injEq, Sum.inr.injEq, Option.toList_some, Option.toList_none, List.cons_append, List.nil_append, ne_eq, true_and, and_true, and_self, not_true_eq_false, not_false_eq_true, true_implies, false_implies, reduceCtorEq]
      by_cases c1 : n ≤ 99999
      case neg => simp (config := { decide := true }) (disch := first | decide | assumption | omega | (simp (config := { decide := true }) only [km_sr_sf, km_sr_of, km_up_of, km_up_o, km_upx_i, km_upx_s, km_fl2_o, ne_eq, not_true_eq_false, not_false_eq_true] <;> omega) | fail) only [g_X12_receipt, g2, g, ka_lt, ka_le, ka_nlt, ka_nle, ka_ne, ka_eq, Int.add_sub_cancel, true_or, or_true, false_or, or_false, false_and, and_false, if_true, if_false, ka_lo, ka_hi, ka_nn, km_sr_sf, km_sr_of, km_up_of, km_sr_us, km_sr_uo, km_sr_sr, km_sr_fl, km_sr_flo, km_up_up, km_up_lt, km_lay, km_unL, km_up_o, km_upx_i, km_upx_s, km_fl2_o, km_is, Option.some.injEq, Sum.inl.injEq, Sum.inr.injEq, Option.toList_some, Option.toList_none, List.cons_append, List.nil_append, ne_eq, true_and, and_true, and_self, not_true_eq_false, not_false_eq_true, true_implies, false_implies, reduceCtorEq]
      simp (config := { decide := true }) (disch := first | decide | assumption | omega | (simp (config := { decide := true }) only [km_sr_sf, km_sr_of, km_up_of, km_up_o, km_upx_i, km_upx_s, km_fl2_o, ne_eq, not_true_eq_false, not_false_eq_true] <;> omega) | fail) only [g_X12_receipt, g2, g, k5, ka_lt, ka_le, ka_nlt, ka_nle, ka_ne, ka_eq, Int.add_sub_cancel, true_or, or_true, false_or, or_false, false_and, and_false, if_true, if_false, ka_lo, ka_hi, ka_nn, km_sr_sf, km_sr_of, km_up_of, km_sr_us, km_sr_uo, km_sr_sr, km_sr_fl, km_sr_flo, km_up_up, km_up_lt, km_lay, km_unL, km_up_o, km_upx_i, km_upx_s, km_fl2_o, km_is, Option.some.injEq, Sum.inl.injEq, Sum.inr.injEq, Option.toList_some, Option.toList_none, List.cons_append, List.nil_append, ne_eq, true_and, and_true, and_self, not_true_eq_false, not_false_eq_true, true_implies, false_implies, reduceCtorEq]

theorem fc_regret {N : Int} {q : Nat × Int × Int × Int × Int} {c s : Nat} {m : km_Mm} (h : kI0 N m) {k o n : Int} : kF M_X11_regret M_X12_regret [.inl k, .inl o, .inl n] N q c s m := by
  intro Q1 Q2
  have hi := h
  obtain ⟨hB, hR, hT, hO, hM, hF, hH, hE, hS, hA⟩ := h
  have f1 := hB.1
  have f4 := hO.1
  have a1 := hE.1.1
  have a1' := hE.1.2
  by_cases v : (0 ≤ k ∧ k < m 5 1) ∧ (0 ≤ o ∧ o < m 19 1) ∧ (0 ≤ n ∧ n ≤ 100) ∧ m 100 0 = -1
  · obtain ⟨v1, v2, v3, v4⟩ := v
    rw [if_pos v4] at a1'
    have r := km_row22 q c s
    have ra := @km_rowc22 q c s o v2.1 (by omega)
    have e : ∀ x : Int, 22 + 1 + x = 23 + x := fun x => by omega
    rw [e] at ra
    refine ⟨.inl 1, km_up m (23 + o) k n, km_up (km_up (km_up m (23 + o) k n) 123 2 0) 153 (6 * k + o) n, ?_, ?_, ⟨kB_cg hB (by intro b j z; unfold fB at z; simp (disch := omega) only [km_up_ne, km_fl2_ne, km_sr_ne]), kR_cg hR (by intro b j z; unfold fR at z; simp (disch := omega) only [km_up_ne, km_fl2_ne, km_sr_ne]), kT_cg hT (by intro b j z; unfold fT at z; simp (disch := omega) only [km_up_ne, km_fl2_ne, km_sr_ne]), ?_, kM_cg hM (by intro b j z; unfold fM at z; simp (disch := omega) only [km_up_ne, km_fl2_ne, km_sr_ne]), kF_cg hF (by intro b j z; unfold fF at z; simp (disch := omega) only [km_up_ne, km_fl2_ne, km_sr_ne]), kH_cg hH (by intro b j z; unfold fH at z; simp (disch := omega) only [km_up_ne, km_fl2_ne, km_sr_ne]), kE_cg hE (by intro b j z; unfold fE at z; simp (disch := omega) only [km_up_ne, km_fl2_ne, km_sr_ne]), kS_cg hS (by intro b j z; unfold fS at z; simp (disch := omega) only [km_up_ne, km_fl2_ne, km_sr_ne]), kA_cg hA (by intro b j z; unfold fA at z; simp (disch := omega) only [km_up_ne, km_fl2_ne, km_sr_ne])⟩, by intro b j z1 z2; unfold kP at z1; unfold kJ at z2; simp (disch := omega) only [km_up_ne, km_fl2_ne, km_sr_ne]⟩
    · rw [e_X11_regret]
      simp (config := { decide := true }) (disch := first | decide | assumption | omega | (simp (config := { decide := true }) only [km_sr_sf, km_sr_of, km_up_of, km_up_o, km_upx_i, km_upx_s, km_fl2_o, ne_eq, not_true_eq_false, not_false_eq_true] <;> omega) | fail) only [g_X11_regret, r_isKin, r_ohas, r_isOn, v1, v2, v4, r, e, ra.1, ra.2, ka_lt, ka_le, ka_nlt, ka_nle, ka_ne, ka_eq, Int.add_sub_cancel, true_or, or_true, false_or, or_false, false_and, and_false, if_true, if_false, ka_lo, ka_hi, ka_nn, km_sr_sf, km_sr_of, km_up_of, km_sr_us, km_sr_uo, km_sr_sr, km_sr_fl, km_sr_flo, km_up_up, km_up_lt, km_lay, km_unL, km_up_o, km_upx_i, km_upx_s, km_fl2_o, km_is, Option.some.injEq, Sum.inl.injEq, Sum.inr.injEq, Option.toList_some, Option.toList_none, List.cons_append, List.nil_append, ne_eq, true_and, and_true, and_self, not_true_eq_false, not_false_eq_true, true_implies, false_implies, reduceCtorEq]
    · rw [e_X12_regret]
      simp (config := { decide := true }) (disch := first | decide | assumption | omega | (simp (config := { decide := true }) only [km_sr_sf, km_sr_of, km_up_of, km_up_o, km_upx_i, km_upx_s, km_fl2_o, ne_eq, not_true_eq_false, not_false_eq_true] <;> omega) | fail) only [g_X12_regret, r_misKin, r_mopt, f1.2.2, f4.2.2, a1', v1, v2, ka_lt, ka_le, ka_nlt, ka_nle, ka_ne, ka_eq, Int.add_sub_cancel, true_or, or_true, false_or, or_false, false_and, and_false, if_true, if_false, ka_lo, ka_hi, ka_nn, km_sr_sf, km_sr_of, km_up_of, km_sr_us, km_sr_uo, km_sr_sr, km_sr_fl, km_sr_flo, km_up_up, km_up_lt, km_lay, km_unL, km_up_o, km_upx_i, km_upx_s, km_fl2_o, km_is, Option.some.injEq, Sum.inl.injEq, Sum.inr.injEq, Option.toList_some, Option.toList_none, List.cons_append, List.nil_append, ne_eq, true_and, and_true, and_self, not_true_eq_false, not_false_eq_true, true_implies, false_implies, reduceCtorEq]
    · refine ⟨?_, fun x x0 x1 => ?_, fun x y x0 x1 y0 y1 => ?_⟩
      · simp (disch := omega) only [km_up_ne, km_up_eq, km_fl2_ne, km_fl2_eq, and_true, true_and, implies_true]; omega
      · simp (disch := omega) only [km_up_ne] at x1
        have := hO.2.1 x x0 x1
        simp (disch := omega) only [km_up_ne, km_up_eq, km_fl2_ne, km_fl2_eq, and_true, true_and, implies_true]; exact this
      · simp (disch := omega) only [km_up_ne] at x1
        have := hO.2.2 x y x0 x1 y0 y1
        by_cases e : x = o ∧ y = k
        · obtain ⟨rfl, rfl⟩ := e; simp (disch := omega) only [km_up_ne, km_up_eq, km_fl2_ne, km_fl2_eq, and_true, true_and, implies_true]; omega
        · simp (disch := omega) only [km_up_ne, km_up_eq, km_fl2_ne, km_fl2_eq, and_true, true_and, implies_true]; exact this
  · refine ⟨.inl 0, m, km_up m 123 2 0, ?_, ?_, kI0_t hi, kP_t⟩
    · rw [e_X11_regret]
      by_cases c0 : 0 ≤ k ∧ k < m 5 1
      case neg => simp (config := { decide := true }) (disch := first | decide | assumption | omega | (simp (config := { decide := true }) only [km_sr_sf, km_sr_of, km_up_of, km_up_o, km_upx_i, km_upx_s, km_fl2_o, ne_eq, not_true_eq_false, not_false_eq_true] <;> omega) | fail) only [g_X11_regret, r_isKin, r_ohas, r_isOn, c0, Int.add_sub_cancel, true_or, or_true, false_or, or_false, false_and, and_false, if_true, if_false, ka_lo, ka_hi, ka_nn, km_sr_sf, km_sr_of, km_up_of, km_sr_us, km_sr_uo, km_sr_sr, km_sr_fl, km_sr_flo, km_up_up, km_up_lt, km_lay, km_unL, km_up_o, km_upx_i, km_upx_s, km_fl2_o, km_is, Option.some.injEq, Sum.inl.injEq, Sum.inr.injEq, Option.toList_some, Option.toList_none, List.cons_append, List.nil_append, ne_eq, true_and, and_true, and_self, not_true_eq_false, not_false_eq_true, true_implies, false_implies, reduceCtorEq]
      by_cases c1 : 0 ≤ o ∧ o < m 19 1
      case neg => simp (config := { decide := true }) (disch := first | decide | assumption | omega | (simp (config := { decide := true }) only [km_sr_sf, km_sr_of, km_up_of, km_up_o, km_upx_i, km_upx_s, km_fl2_o, ne_eq, not_true_eq_false, not_false_eq_true] <;> omega) | fail) only [g_X11_regret, r_isKin, r_ohas, r_isOn, c0, c1, Int.add_sub_cancel, true_or, or_true, false_or, or_false, false_and, and_false, if_true, if_false, ka_lo, ka_hi, ka_nn, km_sr_sf, km_sr_of, km_up_of, km_sr_us, km_sr_uo, km_sr_sr, km_sr_fl, km_sr_flo, km_up_up, km_up_lt, km_lay, km_unL, km_up_o, km_upx_i, km_upx_s, km_fl2_o, km_is, Option.some.injEq, Sum.inl.injEq, Sum.inr.injEq, Option.toList_some, Option.toList_none, List.cons_append, List.nil_append, ne_eq, true_and, and_true, and_self, not_true_eq_false, not_false_eq_true, true_implies, false_implies, reduceCtorEq]
      by_cases c2 : 0 ≤ n
      case neg => simp (config := { decide := true }) (disch := first | decide | assumption | omega | (simp (config := { decide := true }) only [km_sr_sf, km_sr_of, km_up_of, km_up_o, km_upx_i, km_upx_s, km_fl2_o, ne_eq, not_true_eq_false, not_false_eq_true] <;> omega) | fail) only [g_X11_regret, r_isKin, r_ohas, r_isOn, c0, c1, ka_lt, ka_le, ka_nlt, ka_nle, ka_ne, ka_eq, Int.add_sub_cancel, true_or, or_true, false_or, or_false, false_and, and_false, if_true, if_false, ka_lo, ka_hi, ka_nn, km_sr_sf, km_sr_of, km_up_of, km_sr_us, km_sr_uo, km_sr_sr, km_sr_fl, km_sr_flo, km_up_up, km_up_lt, km_lay, km_unL, km_up_o, km_upx_i, km_upx_s, km_fl2_o, km_is, Option.some.injEq, Sum.inl.injEq, Sum.inr.injEq, Option.toList_some, Option.toList_none, List.cons_append, List.nil_append, ne_eq, true_and, and_true, and_self, not_true_eq_false, not_false_eq_true, true_implies, false_implies, reduceCtorEq]
      by_cases c3 : n ≤ 100
      case neg => simp (config := { decide := true }) (disch := first | decide | assumption | omega | (simp (config := { decide := true }) only [km_sr_sf, km_sr_of, km_up_of, km_up_o, km_upx_i, km_upx_s, km_fl2_o, ne_eq, not_true_eq_false, not_false_eq_true] <;> omega) | fail) only [g_X11_regret, r_isKin, r_ohas, r_isOn, c0, c1, ka_lt, ka_le, ka_nlt, ka_nle, ka_ne, ka_eq, Int.add_sub_cancel, true_or, or_true, false_or, or_false, false_and, and_false, if_true, if_false, ka_lo, ka_hi, ka_nn, km_sr_sf, km_sr_of, km_up_of, km_sr_us, km_sr_uo, km_sr_sr, km_sr_fl, km_sr_flo, km_up_up, km_up_lt, km_lay, km_unL, km_up_o, km_upx_i, km_upx_s, km_fl2_o, km_is, Option.some.injEq, Sum.inl.injEq, Sum.inr.injEq, Option.toList_some, Option.toList_none, List.cons_append, List.nil_append, ne_eq, true_and, and_true, and_self, not_true_eq_false, not_false_eq_true, true_implies, false_implies, reduceCtorEq]
      by_cases c4 : m 100 0 = -1
      case neg => simp (config := { decide := true }) (disch := first | decide | assumption | omega | (simp (config := { decide := true }) only [km_sr_sf, km_sr_of, km_up_of, km_up_o, km_upx_i, km_upx_s, km_fl2_o, ne_eq, not_true_eq_false, not_false_eq_true] <;> omega) | fail) only [g_X11_regret, r_isKin, r_ohas, r_isOn, c0, c1, c4, ka_lt, ka_le, ka_nlt, ka_nle, ka_ne, ka_eq, Int.add_sub_cancel, true_or, or_true, false_or, or_false, false_and, and_false, if_true, if_false, ka_lo, ka_hi, ka_nn, km_sr_sf, km_sr_of, km_up_of, km_sr_us, km_sr_uo, km_sr_sr, km_sr_fl, km_sr_flo, km_up_up, km_up_lt, km_lay, km_unL, km_up_o, km_upx_i, km_upx_s, km_fl2_o, km_is, Option.some.injEq, Sum.inl.injEq, Sum.inr.injEq, Option.toList_some, Option.toList_none, List.cons_append, List.nil_append, ne_eq, true_and, and_true, and_self, not_true_eq_false, not_false_eq_true, true_implies, false_implies, reduceCtorEq]
      exact absurd (by omega) v
    · rw [e_X12_regret]
      by_cases c4 : m 100 0 = -1
      case neg =>
        rw [if_neg c4] at a1'
        simp (config := { decide := true }) (disch := first | decide | assumption | omega | (simp (config := { decide := true }) only [km_sr_sf, km_sr_of, km_up_of, km_up_o, km_upx_i, km_upx_s, km_fl2_o, ne_eq, not_true_eq_false, not_false_eq_true] <;> omega) | fail) only [g_X12_regret, a1', Int.add_sub_cancel, true_or, or_true, false_or, or_false, false_and, and_false, if_true, if_false, ka_lo, ka_hi, ka_nn, km_sr_sf, km_sr_of, km_up_of, km_sr_us, km_sr_uo, km_sr_sr, km_sr_fl, km_sr_flo, km_up_up, km_up_lt, km_lay, km_unL, km_up_o, km_upx_i, km_upx_s, km_fl2_o, km_is, Option.some.injEq, Sum.inl.injEq, Sum.inr.injEq, Option.toList_some, Option.toList_none, List.cons_append, List.nil_append, ne_eq, true_and, and_true, and_self, not_true_eq_false, not_false_eq_true, true_implies, false_implies, reduceCtorEq]
      rw [if_pos c4] at a1'
      by_cases c0 : 0 ≤ k ∧ k < m 5 1
      case neg => simp (config := { decide := true }) (disch := first | decide | assumption | omega | (simp (config := { decide := true }) only [km_sr_sf, km_sr_of, km_up_of, km_up_o, km_upx_i, km_upx_s, km_fl2_o, ne_eq, not_true_eq_false, not_false_eq_true] <;> omega) | fail) only [g_X12_regret, r_misKin, r_mopt, f1.2.2, f4.2.2, a1', c0, Int.add_sub_cancel, true_or, or_true, false_or, or_false, false_and, and_false, if_true, if_false, ka_lo, ka_hi, ka_nn, km_sr_sf, km_sr_of, km_up_of, km_sr_us, km_sr_uo, km_sr_sr, km_sr_fl, km_sr_flo, km_up_up, km_up_lt, km_lay, km_unL, km_up_o, km_upx_i, km_upx_s, km_fl2_o, km_is, Option.some.injEq, Sum.inl.injEq, Sum.inr.injEq, Option.toList_some, Option.toList_none, List.cons_append, List.nil_append, ne_eq, true_and, and_true, and_self, not_true_eq_false, not_false_eq_true, true_implies, false_implies, reduceCtorEq]
      by_cases c1 : 0 ≤ o ∧ o < m 19 1
      case neg => simp (config := { decide := true }) (disch := first | decide | assumption | omega | (simp (config := { decide := true }) only [km_sr_sf, km_sr_of, km_up_of, km_up_o, km_upx_i, km_upx_s, km_fl2_o, ne_eq, not_true_eq_false, not_false_eq_true] <;> omega) | fail) only [g_X12_regret, r_misKin, r_mopt, f1.2.2, f4.2.2, a1', c0, c1, Int.add_sub_cancel, true_or, or_true, false_or, or_false, false_and, and_false, if_true, if_false, ka_lo, ka_hi, ka_nn, km_sr_sf, km_sr_of, km_up_of, km_sr_us, km_sr_uo, km_sr_sr, km_sr_fl, km_sr_flo, km_up_up, km_up_lt, km_lay, km_unL, km_up_o, km_upx_i, km_upx_s, km_fl2_o, km_is, Option.some.injEq, Sum.inl.injEq, Sum.inr.injEq, Option.toList_some, Option.toList_none, List.cons_append, List.nil_append, ne_eq, true_and, and_true, and_self, not_true_eq_false, not_false_eq_true, true_implies, false_implies, reduceCtorEq]
      by_cases c2 : 0 ≤ n
      case neg => simp (config := { decide := true }) (disch := first | decide | assumption | omega | (simp (config := { decide := true }) only [km_sr_sf, km_sr_of, km_up_of, km_up_o, km_upx_i, km_upx_s, km_fl2_o, ne_eq, not_true_eq_false, not_false_eq_true] <;> omega) | fail) only [g_X12_regret, r_misKin, r_mopt, f1.2.2, f4.2.2, a1', c0, c1, ka_lt, ka_le, ka_nlt, ka_nle, ka_ne, ka_eq, Int.add_sub_cancel, true_or, or_true, false_or, or_false, false_and, and_false, if_true, if_false, ka_lo, ka_hi, ka_nn, km_sr_sf, km_sr_of, km_up_of, km_sr_us, km_sr_uo, km_sr_sr, km_sr_fl, km_sr_flo, km_up_up, km_up_lt, km_lay, km_unL, km_up_o, km_upx_i, km_upx_s, km_fl2_o, km_is, Option.some.injEq, Sum.inl.injEq, Sum.inr.injEq, Option.toList_some, Option.toList_none, List.cons_append, List.nil_append, ne_eq, true_and, and_true, and_self, not_true_eq_false, not_false_eq_true, true_implies, false_implies, reduceCtorEq]
      by_cases c3 : n ≤ 100
      case neg => simp (config := { decide := true }) (disch := first | decide | assumption | omega | (simp (config := { decide := true }) only [km_sr_sf, km_sr_of, km_up_of, km_up_o, km_upx_i, km_upx_s, km_fl2_o, ne_eq, not_true_eq_false, not_false_eq_true] <;> omega) | fail) only [g_X12_regret, r_misKin, r_mopt, f1.2.2, f4.2.2, a1', c0, c1, ka_lt, ka_le, ka_nlt, ka_nle, ka_ne, ka_eq, Int.add_sub_cancel, true_or, or_true, false_or, or_false, false_and, and_false, if_true, if_false, ka_lo, ka_hi, ka_nn, km_sr_sf, km_sr_of, km_up_of, km_sr_us, km_sr_uo, km_sr_sr, km_sr_fl, km_sr_flo, km_up_up, km_up_lt, km_lay, km_unL, km_up_o, km_upx_i, km_upx_s, km_fl2_o, km_is, Option.some.injEq, Sum.inl.injEq, Sum.inr.injEq, Option.toList_some, Option.toList_none, List.cons_append, List.nil_append, ne_eq, true_and, and_true, and_self, not_true_eq_false, not_false_eq_true, true_implies, false_implies, reduceCtorEq]
      exact absurd (by omega) v

theorem fc_feud {N : Int} {q : Nat × Int × Int × Int × Int} {c s : Nat} {m : km_Mm} (h : kI0 N m) {a b t : Int} (ht : t = 0 ∨ t = 1) : kF M_X11_feud M_X12_feud [.inl a, .inl b, .inl t] N q c s m := by
  intro Q1 Q2
  have hi := h
  obtain ⟨hB, hR, hT, hO, hM, hF, hH, hE, hS, hA⟩ := h
  have f1 := hB.1
  obtain ⟨b1, b2, b3, b4, b5, b6⟩ := id hH
  by_cases v : (0 ≤ a ∧ a < m 5 1) ∧ (0 ≤ b ∧ b < m 5 1) ∧ a ≠ b
  case neg =>
    refine ⟨.inl 0, m, km_up m 123 2 0, ?_, ?_, kI0_t hi, kP_t⟩
    · rw [e_X11_feud]
      by_cases c0 : 0 ≤ a ∧ a < m 5 1
      case neg => simp (config := { decide := true }) (disch := first | decide | assumption | omega | (simp (config := { decide := true }) only [km_sr_sf, km_sr_of, km_up_of, km_up_o, km_upx_i, km_upx_s, km_fl2_o, ne_eq, not_true_eq_false, not_false_eq_true] <;> omega) | fail) only [g_X11_feud, r_isKin, c0, Int.add_sub_cancel, true_or, or_true, false_or, or_false, false_and, and_false, if_true, if_false, ka_lo, ka_hi, ka_nn, km_sr_sf, km_sr_of, km_up_of, km_sr_us, km_sr_uo, km_sr_sr, km_sr_fl, km_sr_flo, km_up_up, km_up_lt, km_lay, km_unL, km_up_o, km_upx_i, km_upx_s, km_fl2_o, km_is, Option.some.injEq, Sum.inl.injEq, Sum.inr.injEq, Option.toList_some, Option.toList_none, List.cons_append, List.nil_append, ne_eq, true_and, and_true, and_self, not_true_eq_false, not_false_eq_true, true_implies, false_implies, reduceCtorEq]
      by_cases c1 : 0 ≤ b ∧ b < m 5 1
      case neg => simp (config := { decide := true }) (disch := first | decide | assumption | omega | (simp (config := { decide := true }) only [km_sr_sf, km_sr_of, km_up_of, km_up_o, km_upx_i, km_upx_s, km_fl2_o, ne_eq, not_true_eq_false, not_false_eq_true] <;> omega) | fail) only [g_X11_feud, r_isKin, c0, c1, Int.add_sub_cancel, true_or, or_true, false_or, or_false, false_and, and_false, if_true, if_false, ka_lo, ka_hi, ka_nn, km_sr_sf, km_sr_of, km_up_of, km_sr_us, km_sr_uo, km_sr_sr, km_sr_fl, km_sr_flo, km_up_up, km_up_lt, km_lay, km_unL, km_up_o, km_upx_i, km_upx_s, km_fl2_o, km_is, Option.some.injEq, Sum.inl.injEq, Sum.inr.injEq, Option.toList_some, Option.toList_none, List.cons_append, List.nil_append, ne_eq, true_and, and_true, and_self, not_true_eq_false, not_false_eq_true, true_implies, false_implies, reduceCtorEq]
      have c2 : a = b := by omega
      subst c2
      simp (config := { decide := true }) (disch := first | decide | assumption | omega | (simp (config := { decide := true }) only [km_sr_sf, km_sr_of, km_up_of, km_up_o, km_upx_i, km_upx_s, km_fl2_o, ne_eq, not_true_eq_false, not_false_eq_true] <;> omega) | fail) only [g_X11_feud, r_isKin, c0, Int.add_sub_cancel, true_or, or_true, false_or, or_false, false_and, and_false, if_true, if_false, ka_lo, ka_hi, ka_nn, km_sr_sf, km_sr_of, km_up_of, km_sr_us, km_sr_uo, km_sr_sr, km_sr_fl, km_sr_flo, km_up_up, km_up_lt, km_lay, km_unL, km_up_o, km_upx_i, km_upx_s, km_fl2_o, km_is, Option.some.injEq, Sum.inl.injEq, Sum.inr.injEq, Option.toList_some, Option.toList_none, List.cons_append, List.nil_append, ne_eq, true_and, and_true, and_self, not_true_eq_false, not_false_eq_true, true_implies, false_implies, reduceCtorEq]
    · rw [e_X12_feud]
      by_cases c0 : 0 ≤ a ∧ a < m 5 1
      case neg => simp (config := { decide := true }) (disch := first | decide | assumption | omega | (simp (config := { decide := true }) only [km_sr_sf, km_sr_of, km_up_of, km_up_o, km_upx_i, km_upx_s, km_fl2_o, ne_eq, not_true_eq_false, not_false_eq_true] <;> omega) | fail) only [g_X12_feud, r_misKin, f1.2.2, c0, Int.add_sub_cancel, true_or, or_true, false_or, or_false, false_and, and_false, if_true, if_false, ka_lo, ka_hi, ka_nn, km_sr_sf, km_sr_of, km_up_of, km_sr_us, km_sr_uo, km_sr_sr, km_sr_fl, km_sr_flo, km_up_up, km_up_lt, km_lay, km_unL, km_up_o, km_upx_i, km_upx_s, km_fl2_o, km_is, Option.some.injEq, Sum.inl.injEq, Sum.inr.injEq, Option.toList_some, Option.toList_none, List.cons_append, List.nil_append, ne_eq, true_and, and_true, and_self, not_true_eq_false, not_false_eq_true, true_implies, false_implies, reduceCtorEq]
      by_cases c1 : 0 ≤ b ∧ b < m 5 1
      case neg => simp (config := { decide := true }) (disch := first | decide | assumption | omega | (simp (config := { decide := true }) only [km_sr_sf, km_sr_of, km_up_of, km_up_o, km_upx_i, km_upx_s, km_fl2_o, ne_eq, not_true_eq_false, not_false_eq_true] <;> omega) | fail) only [g_X12_feud, r_misKin, f1.2.2, c0, c1, Int.add_sub_cancel, true_or, or_true, false_or, or_false, false_and, and_false, if_true, if_false, ka_lo, ka_hi, ka_nn, km_sr_sf, km_sr_of, km_up_of, km_sr_us, km_sr_uo, km_sr_sr, km_sr_fl, km_sr_flo, km_up_up, km_up_lt, km_lay, km_unL, km_up_o, km_upx_i, km_upx_s, km_fl2_o, km_is, Option.some.injEq, Sum.inl.injEq, Sum.inr.injEq, Option.toList_some, Option.toList_none, List.cons_append, List.nil_append, ne_eq, true_and, and_true, and_self, not_true_eq_false, not_false_eq_true, true_implies, false_implies, reduceCtorEq]
      have c2 : a = b := by omega
      subst c2
      simp (config := { decide := true }) (disch := first | decide | assumption | omega | (simp (config := { decide := true }) only [km_sr_sf, km_sr_of, km_up_of, km_up_o, km_upx_i, km_upx_s, km_fl2_o, ne_eq, not_true_eq_false, not_false_eq_true] <;> omega) | fail) only [g_X12_feud, r_misKin, f1.2.2, c0, Int.add_sub_cancel, true_or, or_true, false_or, or_false, false_and, and_false, if_true, if_false, ka_lo, ka_hi, ka_nn, km_sr_sf, km_sr_of, km_up_of, km_sr_us, km_sr_uo, km_sr_sr, km_sr_fl, km_sr_flo, km_up_up, km_up_lt, km_lay, km_unL, km_up_o, km_upx_i, km_upx_s, km_fl2_o, km_is, Option.some.injEq, Sum.inl.injEq, Sum.inr.injEq, Option.toList_some, Option.toList_none, List.cons_append, List.nil_append, ne_eq, true_and, and_true, and_self, not_true_eq_false, not_false_eq_true, true_implies, false_implies, reduceCtorEq]
  obtain ⟨v1, v2, v3⟩ := v
  have a10 : a < 10 := by omega
  have b10 : b < 10 := by omega
  have ba := b5 a v1.1 a10
  have bb := b5 b v2.1 b10
  have k1 := (ba.2 b v2.1 b10).1
  have bit := ks_bit0 (x := m 88 a) (k := b) ba.1.1 (by have := ba.1.2; omega) v2.1 (by omega)
  have fe := fun Q => @r_isFeud q c s m a b v1.1 a10 Q
  have fe2 : (if km_and (km_shr (m 88 a) b) 1 ≠ 0 then (1 : Int) else 0) = (if tb (m 88 a) b = true then 1 else 0) := by
    by_cases z : tb (m 88 a) b = true
    · rw [if_pos z, if_pos (fun w => by rw [bit.mp w] at z; cases z)]
    · have z2 : tb (m 88 a) b = false := by cases e : tb (m 88 a) b; rfl; exact absurd e z
      rw [if_neg z, if_neg (fun w => w (bit.mpr z2))]
  rw [fe2] at fe
  by_cases z : (if tb (m 88 a) b = true then (1 : Int) else 0) = t
  · refine ⟨.inl 0, m, km_up m 123 2 0, ?_, ?_, kI0_t hi, kP_t⟩
    · rw [e_X11_feud]
      simp (config := { decide := true }) (disch := first | decide | assumption | omega | (simp (config := { decide := true }) only [km_sr_sf, km_sr_of, km_up_of, km_up_o, km_upx_i, km_upx_s, km_fl2_o, ne_eq, not_true_eq_false, not_false_eq_true] <;> omega) | fail) only [g_X11_feud, r_isKin, v1, v2, v3, fe, z, Int.add_sub_cancel, true_or, or_true, false_or, or_false, false_and, and_false, if_true, if_false, ka_lo, ka_hi, ka_nn, km_sr_sf, km_sr_of, km_up_of, km_sr_us, km_sr_uo, km_sr_sr, km_sr_fl, km_sr_flo, km_up_up, km_up_lt, km_lay, km_unL, km_up_o, km_upx_i, km_upx_s, km_fl2_o, km_is, Option.some.injEq, Sum.inl.injEq, Sum.inr.injEq, Option.toList_some, Option.toList_none, List.cons_append, List.nil_append, ne_eq, true_and, and_true, and_self, not_true_eq_false, not_false_eq_true, true_implies, false_implies, reduceCtorEq]
    · rw [e_X12_feud]
      simp (config := { decide := true }) (disch := first | decide | assumption | omega | (simp (config := { decide := true }) only [km_sr_sf, km_sr_of, km_up_of, km_up_o, km_upx_i, km_upx_s, km_fl2_o, ne_eq, not_true_eq_false, not_false_eq_true] <;> omega) | fail) only [g_X12_feud, r_misKin, f1.2.2, v1, v2, v3, k1, z, ka_lt, ka_le, ka_nlt, ka_nle, ka_ne, ka_eq, Int.add_sub_cancel, true_or, or_true, false_or, or_false, false_and, and_false, if_true, if_false, ka_lo, ka_hi, ka_nn, km_sr_sf, km_sr_of, km_up_of, km_sr_us, km_sr_uo, km_sr_sr, km_sr_fl, km_sr_flo, km_up_up, km_up_lt, km_lay, km_unL, km_up_o, km_upx_i, km_upx_s, km_fl2_o, km_is, Option.some.injEq, Sum.inl.injEq, Sum.inr.injEq, Option.toList_some, Option.toList_none, List.cons_append, List.nil_append, ne_eq, true_and, and_true, and_self, not_true_eq_false, not_false_eq_true, true_implies, false_implies, reduceCtorEq]
  · have tf := fun Q => @r_turnFeud q c s m a b v1.1 a10 v2.1 b10 (fun w => v3 w.symm) Q
    refine ⟨.inl 1, km_up (km_up m 88 a (km_xor (m 88 a) (km_shl 1 b))) 88 b (km_xor (m 88 b) (km_shl 1 a)), km_up (km_up (km_up (km_up (km_up m 88 a (km_xor (m 88 a) (km_shl 1 b))) 88 b (km_xor (m 88 b) (km_shl 1 a))) 123 2 0) 164 (10 * a + b) t) 164 (10 * b + a) t, ?_, ?_, ⟨kB_cg hB (by intro b j z; unfold fB at z; simp (disch := omega) only [km_up_ne, km_fl2_ne, km_sr_ne]), kR_cg hR (by intro b j z; unfold fR at z; simp (disch := omega) only [km_up_ne, km_fl2_ne, km_sr_ne]), kT_cg hT (by intro b j z; unfold fT at z; simp (disch := omega) only [km_up_ne, km_fl2_ne, km_sr_ne]), kO_cg hO (by intro b j z; unfold fO at z; simp (disch := omega) only [km_up_ne, km_fl2_ne, km_sr_ne]), kM_cg hM (by intro b j z; unfold fM at z; simp (disch := omega) only [km_up_ne, km_fl2_ne, km_sr_ne]), kF_cg hF (by intro b j z; unfold fF at z; simp (disch := omega) only [km_up_ne, km_fl2_ne, km_sr_ne]), ?_, kE_cg hE (by intro b j z; unfold fE at z; simp (disch := omega) only [km_up_ne, km_fl2_ne, km_sr_ne]), kS_cg hS (by intro b j z; unfold fS at z; simp (disch := omega) only [km_up_ne, km_fl2_ne, km_sr_ne]), kA_cg hA (by intro b j z; unfold fA at z; simp (disch := omega) only [km_up_ne, km_fl2_ne, km_sr_ne])⟩, by intro b j z1 z2; unfold kP at z1; unfold kJ at z2; simp (disch := omega) only [km_up_ne, km_fl2_ne, km_sr_ne]⟩
    · rw [e_X11_feud]
      simp (config := { decide := true }) (disch := first | decide | assumption | omega | (simp (config := { decide := true }) only [km_sr_sf, km_sr_of, km_up_of, km_up_o, km_upx_i, km_upx_s, km_fl2_o, ne_eq, not_true_eq_false, not_false_eq_true] <;> omega) | fail) only [g_X11_feud, r_isKin, v1, v2, v3, fe, z, tf, Int.add_sub_cancel, true_or, or_true, false_or, or_false, false_and, and_false, if_true, if_false, ka_lo, ka_hi, ka_nn, km_sr_sf, km_sr_of, km_up_of, km_sr_us, km_sr_uo, km_sr_sr, km_sr_fl, km_sr_flo, km_up_up, km_up_lt, km_lay, km_unL, km_up_o, km_upx_i, km_upx_s, km_fl2_o, km_is, Option.some.injEq, Sum.inl.injEq, Sum.inr.injEq, Option.toList_some, Option.toList_none, List.cons_append, List.nil_append, ne_eq, true_and, and_true, and_self, not_true_eq_false, not_false_eq_true, true_implies, false_implies, reduceCtorEq]
    · rw [e_X12_feud]
      simp (config := { decide := true }) (disch := first | decide | assumption | omega | (simp (config := { decide := true }) only [km_sr_sf, km_sr_of, km_up_of, km_up_o, km_upx_i, km_upx_s, km_fl2_o, ne_eq, not_true_eq_false, not_false_eq_true] <;> omega) | fail) only [g_X12_feud, r_misKin, f1.2.2, v1, v2, v3, k1, z, ka_lt, ka_le, ka_nlt, ka_nle, ka_ne, ka_eq, Int.add_sub_cancel, true_or, or_true, false_or, or_false, false_and, and_false, if_true, if_false, ka_lo, ka_hi, ka_nn, km_sr_sf, km_sr_of, km_up_of, km_sr_us, km_sr_uo, km_sr_sr, km_sr_fl, km_sr_flo, km_up_up, km_up_lt, km_lay, km_unL, km_up_o, km_upx_i, km_upx_s, km_fl2_o, km_is, Option.some.injEq, Sum.inl.injEq, Sum.inr.injEq, Option.toList_some, Option.toList_none, List.cons_append, List.nil_append, ne_eq, true_and, and_true, and_self, not_true_eq_false, not_false_eq_true, true_implies, false_implies, reduceCtorEq]
    · refine ⟨?_, ?_, ?_, ?_, fun x x0 x1 => ?_, ?_⟩
      · simp (disch := omega) only [km_up_ne, km_up_eq, km_fl2_ne, km_fl2_eq, and_true, true_and, implies_true]; omega
      · simp (disch := omega) only [km_up_ne, km_up_eq, km_fl2_ne, km_fl2_eq, and_true, true_and, implies_true]; exact b2
      · simp (disch := omega) only [km_up_ne, km_up_eq, km_fl2_ne, km_fl2_eq, and_true, true_and, implies_true]; omega
      · simp (disch := omega) only [km_up_ne, km_up_eq, km_fl2_ne, km_fl2_eq, and_true, true_and, implies_true]; exact b4
      · have oa := ten_one v1.1 a10
        have ob := ten_one v2.1 b10
        have ta : ∀ y : Int, 0 ≤ y → tb (km_xor (m 88 a) (km_shl 1 b)) y = (tb (m 88 a) y ^^ decide (y = b)) := fun y y0 => by
          rw [tb_xor ba.1.1 (by have := ba.1.2; omega) ob.1 (by have := ob.2; omega), tb_one v2.1 (by omega) y0]
        have tbb : ∀ y : Int, 0 ≤ y → tb (km_xor (m 88 b) (km_shl 1 a)) y = (tb (m 88 b) y ^^ decide (y = a)) := fun y y0 => by
          rw [tb_xor bb.1.1 (by have := bb.1.2; omega) oa.1 (by have := oa.2; omega), tb_one v1.1 (by omega) y0]
        have nt : (if (!tb (m 88 a) b) = true then (1 : Int) else 0) = t := by
          cases e : tb (m 88 a) b <;> simp [e] at z ⊢ <;> omega
        have sy := (ba.2 b v2.1 b10).2.1
        have bx := b5 x x0 x1
        by_cases ex : x = a
        · subst ex
          refine ⟨by simp (disch := omega) only [km_up_ne, km_up_eq, km_fl2_ne, km_fl2_eq, and_true, true_and, implies_true]; exact ten_xor bx.1 ob, fun y y0 y1 => ?_⟩
          by_cases ey : y = b
          · subst ey
            simp (disch := omega) only [km_up_ne, km_up_eq, km_fl2_ne, km_fl2_eq, and_true, true_and, implies_true]
            rw [ta y y0, tbb x x0, sy]
            simp only [decide_true, Bool.xor_true]
            exact ⟨nt.symm, trivial, fun _ => v3⟩
          · have by' := b5 y y0 y1
            have := bx.2 y y0 y1
            by_cases eyx : y = x
            · subst eyx
              simp (disch := omega) only [km_up_ne, km_up_eq, km_fl2_ne, km_fl2_eq, and_true, true_and, implies_true]
              rw [ta y y0]
              simp only [ey, decide_false, Bool.xor_false]
              exact ⟨this.1, this.2.2⟩
            · simp (disch := omega) only [km_up_ne, km_up_eq, km_fl2_ne, km_fl2_eq, and_true, true_and, implies_true]
              rw [ta y y0]
              simp only [ey, decide_false, Bool.xor_false]
              exact this
        · by_cases ex2 : x = b
          · subst ex2
            refine ⟨by simp (disch := omega) only [km_up_ne, km_up_eq, km_fl2_ne, km_fl2_eq, and_true, true_and, implies_true]; exact ten_xor bx.1 oa, fun y y0 y1 => ?_⟩
            by_cases ey : y = a
            · subst ey
              simp (disch := omega) only [km_up_ne, km_up_eq, km_fl2_ne, km_fl2_eq, and_true, true_and, implies_true]
              rw [ta x x0, tbb y y0, sy]
              simp only [decide_true, Bool.xor_true]
              exact ⟨nt.symm, trivial, fun _ => ex⟩
            · have := bx.2 y y0 y1
              by_cases eyx : y = x
              · subst eyx
                simp (disch := omega) only [km_up_ne, km_up_eq, km_fl2_ne, km_fl2_eq, and_true, true_and, implies_true]
                rw [tbb y y0]
                simp only [ey, decide_false, Bool.xor_false]
                exact ⟨this.1, this.2.2⟩
              · simp (disch := omega) only [km_up_ne, km_up_eq, km_fl2_ne, km_fl2_eq, and_true, true_and, implies_true]
                rw [tbb y y0]
                simp only [ey, decide_false, Bool.xor_false]
                exact this
          · refine ⟨by simp (disch := omega) only [km_up_ne, km_up_eq, km_fl2_ne, km_fl2_eq, and_true, true_and, implies_true]; exact bx.1, fun y y0 y1 => ?_⟩
            have := bx.2 y y0 y1
            by_cases ey : y = a
            · subst ey
              simp (disch := omega) only [km_up_ne, km_up_eq, km_fl2_ne, km_fl2_eq, and_true, true_and, implies_true]
              rw [ta x x0]
              simp only [ex2, decide_false, Bool.xor_false]
              exact this
            · by_cases ey2 : y = b
              · subst ey2
                simp (disch := omega) only [km_up_ne, km_up_eq, km_fl2_ne, km_fl2_eq, and_true, true_and, implies_true]
                rw [tbb x x0]
                simp only [ex, decide_false, Bool.xor_false]
                exact this
              · simp (disch := omega) only [km_up_ne, km_up_eq, km_fl2_ne, km_fl2_eq, and_true, true_and, implies_true]
                exact this
      · simp (disch := omega) only [km_up_ne, km_up_eq, km_fl2_ne, km_fl2_eq, and_true, true_and, implies_true]; exact b6

