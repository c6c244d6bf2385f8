/-! ===== promises 24, 25: settle, payment: the faces ===== -/
section ST
variable {q q' : Nat × Int × Int × Int × Int} {c s : Nat} {m C M X X1 Y Z : km_Mm} {N p1 b P k kn what : Int}
theorem kBl_kin (hE : kI_meet m) (k0 : 0 ≤ k) (k1 : k < 10) (hk : m 5 1 ≤ k) : kBl m b k = 0 := by
  obtain ⟨a1, a2, a3, a4⟩ := kPt_kin (b := b) hE k0 k1 hk
  unfold kBl kSf
  rw [a3, a4, if_neg (fun w => by have := w.1; unfold kPy at this; omega)]
  rfl
theorem st_both (h : kI0 N m) (hN : N ≤ 1000) (hp : kIp P m) (hX : ∀ j : Int, 0 ≤ j → j < 10 → X 116 j = kBl m b j) (h3 : Y 123 3 = m 5 1) (hY : ∀ j : Int, 0 ≤ j → j < m 5 1 → Y 176 j = kBl m b j) :
    ∃ (X' Y' : km_Mm) (p' : Int), kPz (m 5 1) X' Y' p' ∧ (∀ d j : Int, ¬ (d = 113 ∧ j = 6) → ¬ (117 ≤ d ∧ d ≤ 122) → X' d j = X d j) ∧ (∀ d j : Int, ¬ (d = 123 ∧ j = 101) → ¬ (176 ≤ d ∧ d ≤ 181) → Y' d j = Y d j) ∧ (∀ Q : Option km_V → km_Al → km_Mm → Prop, km_E M_X9_settleAll [.inr (.inr 113), .inl (m 100 1)] (km_A0 q c s) X Q ↔ Q none (km_A0 q c s) X') ∧ ∀ Q : Option km_V → km_Al → km_Mm → Prop, km_G M_X12_settles 4 [some (.inr (.inr 123)), none, none, none, none] [] (km_A0 q' c s) Y Q ↔ Q none (km_A0 q' c s) Y' := by
  have f1 := h.1.1
  have hE := h.2.2.2.2.2.2.2.1
  have hT := h.2.2.1
  refine @st_settle q q' c s X Y (m 5 1) (kBl m b) (m 100 1) hE.2.1.2.1 f1.1 f1.2.1 (fun j j0 j1 => kBl_kin hE (by have := f1.1; omega) j1 j0) (fun j j0 j1 => by have := (kSf_b (b := b) hT hE j0 j1).2; omega) (kBl_sum hT hE) (fun j j0 j1 hne => ?_) hX h3 hY
  refine Classical.byContradiction fun no => hne (kBl_no hE j0 j1 (fun g => no g.2.2))
/-- the reference settles from any memory alike -/
theorem m_settles (h : kI0 N m) (hN : N ≤ 1000) (hp : kIp P m) (on : m 100 0 ≠ -1) (hY : kMj m Y) (hX : ∀ j : Int, 0 ≤ j → j < 10 → X 116 j = kBl m (Y 123 58) j) : ∃ (X' Y' : km_Mm) (p' : Int), kPz (m 5 1) X' Y' p' ∧ (∀ d j : Int, ¬ (d = 113 ∧ j = 6) → ¬ (117 ≤ d ∧ d ≤ 122) → X' d j = X d j) ∧ kMj m Y' ∧ (∀ d j : Int, d < 123 → Y' d j = Y d j) ∧ (∀ Q : Option km_V → km_Al → km_Mm → Prop, km_E M_X9_settleAll [.inr (.inr 113), .inl (m 100 1)] (km_A0 q c s) X Q ↔ Q none (km_A0 q c s) X') ∧ ∀ Q : Option km_V → km_Al → km_Mm → Prop, km_E M_X12_settles [.inr (.inr 123)] (km_A0 q' c s) Y Q ↔ Q none (km_A0 q' c s) Y' := by
  have f1 := h.1.1
  obtain ⟨Z, ⟨z1, z2, z3⟩, z4⟩ := @m_share q' c s m Y N (Y 123 58) P h hN hp on hY rfl
  obtain ⟨X', Y', p', u1, u2, u3, u4, u5⟩ := @st_both q q' c s m X Z N (Y 123 58) P h hN hp hX ((z1 123 3 (by decide) (by unfold kJ; omega)).trans f1.2.2) (fun j j0 j1 => (z3 j j0 j1).2.2)
  refine ⟨X', Y', p', u1, u2, fun d j h1 h2 => ?_, fun d j hd => by rw [u3 d j (by omega) (by omega)]; exact z2 d j hd, u4, fun Q => ?_⟩
  · rw [u3 d j (fun w => h2 (by unfold kJ; omega)) (fun w => h2 (by unfold kJ; omega))]
    exact z1 d j h1 h2
  · rw [← u5 Q, e_X12_settles]
    simp (config := { decide := true }) (disch := first | decide | assumption | omega | (simp (config := { decide := true }) only [km_sr_sf, km_sr_of, km_up_of, km_up_o, km_upx_i, km_upx_s, km_fl2_o, ne_eq, not_true_eq_false, not_false_eq_true] <;> omega) | fail) only [g_X12_settles, z4, ka_lt, ka_le, ka_nlt, ka_nle, ka_ne, ka_eq, Int.add_sub_cancel, true_or, or_true, false_or, or_false, false_and, and_false, if_true, if_false, ka_lo, ka_hi, ka_nn, km_sr_sf, km_sr_of, km_up_of, km_sr_us, km_sr_uo, km_sr_sr, km_sr_fl, km_sr_flo, km_up_up, km_up_lt, km_lay, km_unL, km_up_o, km_upx_i, km_upx_s, km_fl2_o, km_is, Option.some.injEq, Sum.inl.injEq, Sum.inr.injEq, Option.toList_some, Option.toList_none, List.cons_append, List.nil_append, ne_eq, true_and, and_true, and_self, not_true_eq_false, not_false_eq_true, true_implies, false_implies, reduceCtorEq]
theorem st_run (h : kI0 N m) (hN : N ≤ 1000) (hp : kIp P m) (hq : kQo q P) (on : m 100 0 ≠ -1) :
    ∃ (q' : Nat × Int × Int × Int × Int) (X1 C Z : km_Mm) (p : Int), (kQo q' P ∧ q'.1 = q.1) ∧ kZ m X1 ∧ kZ m C ∧ kPz (m 5 1) C Z p ∧ kMj m Z ∧ (∀ d j : Int, d < 123 → Z d j = (km_up C 123 2 0) d j) ∧ (∀ Q : Option km_V → km_Al → km_Mm → Prop, km_E M_X11_shareOut [.inr (.inr 0)] (km_A0 q c s) m Q ↔ Q none (km_A0 q' c s) X1) ∧ (∀ Q : Option km_V → km_Al → km_Mm → Prop, km_E M_X9_settleAll [.inr (.inr 113), .inl (m 100 1)] (km_A0 q' c s) X1 Q ↔ Q none (km_A0 q' c s) C) ∧ ∀ Q : Option km_V → km_Al → km_Mm → Prop, km_E M_X12_settles [.inr (.inr 123)] (km_A0 q' c s) (km_up C 123 2 0) Q ↔ Q none (km_A0 q' c s) Z := by
  have f1 := h.1.1
  have hE := h.2.2.2.2.2.2.2.1
  obtain ⟨p, b, q', C, ⟨cp, cb⟩, -, e2⟩ := @km_pick (fun Q => km_E M_X11_shareOut [.inr (.inr 0)] (km_A0 q c s) m (fun _ A M => km_E M_X9_settleAll [.inr (.inr 113), .inl (m 100 1)] A M Q)) (fun _ _ => True) (fun _ _ => none) (fun q' => km_A0 q' c s) (fun p b => by
    obtain ⟨q1, X1, u1, u2, u3, u4⟩ := @c_share q c s m N b P h hN hp hq on
    obtain ⟨X', Y', p', v1, v2, v3, v4, v5⟩ := @st_both q1 q1 c s m X1 (km_sr (km_up m 123 3 (m 5 1)) 176 (kBl m b)) N b P h hN hp (fun j j0 j1 => (u3 j j0 j1).2.2) (by rw [km_sr_o (by decide), km_upx_s]) (fun j j0 j1 => by rw [km_sr_s])
    exact ⟨q1, X', trivial, fun Q => by rw [u4]; exact v4 Q⟩)
  obtain ⟨q1, X1, u1, u2, u3, u4⟩ := @c_share q c s m N b P h hN hp hq on
  have x0 : ∀ X' : km_Mm, (∀ d j : Int, ¬ (d = 113 ∧ j = 6) → ¬ (117 ≤ d ∧ d ≤ 122) → X' d j = X1 d j) → kZ m X' := fun X' hh => kZ_pu u2 (fun d j w => hh d j (by omega) (by omega))
  obtain ⟨X0, Y0, p0, t1, t2, t3, t4, t5⟩ := @st_both q1 q1 c s m X1 (km_sr (km_up m 123 3 (m 5 1)) 176 (kBl m b)) N b P h hN hp (fun j j0 j1 => (u3 j j0 j1).2.2) (by rw [km_sr_o (by decide), km_upx_s]) (fun j j0 j1 => by rw [km_sr_s])
  have e0 : X0 = C := by
    have a := (e2 (fun _ _ M => M = C)).mpr rfl
    rw [u4] at a
    exact (t4 _).mp a
  subst e0
  have zC := x0 X0 t2
  have jY : kMj m (km_up X0 123 2 0) := fun d j h1 h2 => by rw [km_up_ne (fun w => h2 (by unfold kJ; omega))]; exact zC.1 d j h2
  have b58 : (km_up X0 123 2 0) 123 58 = b := (km_up_ne (by omega)).trans cb
  obtain ⟨X', Z, p', v1, v2, v3, v4, v5, v6⟩ := @m_settles q1 q1 c s m X1 (km_up X0 123 2 0) N P h hN hp on jY (fun j j0 j1 => by rw [b58]; exact (u3 j j0 j1).2.2)
  have e1 : X' = X0 := (t4 (fun _ _ M => X' = M)).mp ((v5 _).mpr rfl)
  rw [e1] at v1
  exact ⟨q1, X1, X0, Z, p', u1, u2, zC, v1, v3, v4, u4, t4, v6⟩
theorem kIN_low (h : kIN N q m) (hM : kMj m Z) (low : ∀ d j : Int, d < 123 → Z d j = m d j) : kIN N q Z := by
  obtain ⟨h0, P, hq, hp⟩ := h
  have jk : km_jk m Z := fun d j z => by
    by_cases w : d < 123
    · exact low d j w
    · exact hM d j (by omega) z
  have s : kI_scr Z := by
    have := h0.2.1
    unfold kI_scr at *
    rw [low 52 7 (by decide), low 52 8 (by decide)]
    exact this
  exact ⟨kI0_jk h0 jk s, P, hq, kIp_eq hq.1 hp (kP_jk jk)⟩
theorem fc_settle (h : kIN N q m) (hN : N ≤ 1000) : kFq M_X11_settle M_X12_settle [] N N q c s m := by
  intro Q1 Q2
  have hi := h
  obtain ⟨h0, P, hq, hp⟩ := h
  have hE := h0.2.2.2.2.2.2.2.1
  obtain ⟨⟨e1a, e1b⟩, e1c⟩ := id hE
  by_cases on : m 100 0 = -1
  · refine ⟨.inl (-1), q, m, km_up m 123 2 0, ?_, ?_, rfl, kIN_t hi⟩
    · rw [e_X11_settle]
      simp (config := { decide := true }) (disch := first | decide | assumption | omega | (simp (config := { decide := true }) only [km_sr_sf, km_sr_of, km_up_of, km_up_o, km_upx_i, km_upx_s, km_fl2_o, ne_eq, not_true_eq_false, not_false_eq_true] <;> omega) | fail) only [g_X11_settle, r_isOn, on, Int.add_sub_cancel, true_or, or_true, false_or, or_false, false_and, and_false, if_true, if_false, ka_lo, ka_hi, ka_nn, km_sr_sf, km_sr_of, km_up_of, km_sr_us, km_sr_uo, km_sr_sr, km_sr_fl, km_sr_flo, km_up_up, km_up_lt, km_lay, km_unL, km_up_o, km_upx_i, km_upx_s, km_fl2_o, km_is, Option.some.injEq, Sum.inl.injEq, Sum.inr.injEq, Option.toList_some, Option.toList_none, List.cons_append, List.nil_append, ne_eq, true_and, and_true, and_self, not_true_eq_false, not_false_eq_true, true_implies, false_implies, reduceCtorEq]
    · rw [if_pos on] at e1b
      rw [e_X12_settle]
      simp (config := { decide := true }) (disch := first | decide | assumption | omega | (simp (config := { decide := true }) only [km_sr_sf, km_sr_of, km_up_of, km_up_o, km_upx_i, km_upx_s, km_fl2_o, ne_eq, not_true_eq_false, not_false_eq_true] <;> omega) | fail) only [g_X12_settle, e1b, Int.add_sub_cancel, true_or, or_true, false_or, or_false, false_and, and_false, if_true, if_false, ka_lo, ka_hi, ka_nn, km_sr_sf, km_sr_of, km_up_of, km_sr_us, km_sr_uo, km_sr_sr, km_sr_fl, km_sr_flo, km_up_up, km_up_lt, km_lay, km_unL, km_up_o, km_upx_i, km_upx_s, km_fl2_o, km_is, Option.some.injEq, Sum.inl.injEq, Sum.inr.injEq, Option.toList_some, Option.toList_none, List.cons_append, List.nil_append, ne_eq, true_and, and_true, and_self, not_true_eq_false, not_false_eq_true, true_implies, false_implies, reduceCtorEq]
  · obtain ⟨q', X1, C, Z, p, u1, u2, u3, u4, u5, u6, u7, u8, u9⟩ := @st_run q c s m N P h0 hN hp hq on
    have x1 : X1 100 1 = m 100 1 := u2.1 100 1 (by unfold kJ; omega)
    refine ⟨.inl p, q', C, Z, ?_, ?_, u1.2, kIN_fin2 hi hq u3 u5 (fun d j hd => (u6 d j hd).trans (km_up_ne (by omega))) u1.1⟩
    · rw [e_X11_settle]
      have c6 := u4.2.2.2.1
      simp (config := { decide := true }) (disch := first | decide | assumption | omega | (simp (config := { decide := true }) only [km_sr_sf, km_sr_of, km_up_of, km_up_o, km_upx_i, km_upx_s, km_fl2_o, ne_eq, not_true_eq_false, not_false_eq_true] <;> omega) | fail) only [g_X11_settle, r_isOn, on, u7, x1, u8, c6, ka_lt, ka_le, ka_nlt, ka_nle, ka_ne, ka_eq, Int.add_sub_cancel, true_or, or_true, false_or, or_false, false_and, and_false, if_true, if_false, ka_lo, ka_hi, ka_nn, km_sr_sf, km_sr_of, km_up_of, km_sr_us, km_sr_uo, km_sr_sr, km_sr_fl, km_sr_flo, km_up_up, km_up_lt, km_lay, km_unL, km_up_o, km_upx_i, km_upx_s, km_fl2_o, km_is, Option.some.injEq, Sum.inl.injEq, Sum.inr.injEq, Option.toList_some, Option.toList_none, List.cons_append, List.nil_append, ne_eq, true_and, and_true, and_self, not_true_eq_false, not_false_eq_true, true_implies, false_implies, reduceCtorEq]
    · rw [if_neg on] at e1b
      have C80 : (C 123 80) = 1 := (u3.1 123 80 (by unfold kJ; omega)).trans (by omega)
      have z6 := u4.2.2.2.2.1
      rw [e_X12_settle]
      simp (config := { decide := true }) (disch := first | decide | assumption | omega | (simp (config := { decide := true }) only [km_sr_sf, km_sr_of, km_up_of, km_up_o, km_upx_i, km_upx_s, km_fl2_o, ne_eq, not_true_eq_false, not_false_eq_true] <;> omega) | fail) only [g_X12_settle, C80, u9, z6, ka_lt, ka_le, ka_nlt, ka_nle, ka_ne, ka_eq, Int.add_sub_cancel, true_or, or_true, false_or, or_false, false_and, and_false, if_true, if_false, ka_lo, ka_hi, ka_nn, km_sr_sf, km_sr_of, km_up_of, km_sr_us, km_sr_uo, km_sr_sr, km_sr_fl, km_sr_flo, km_up_up, km_up_lt, km_lay, km_unL, km_up_o, km_upx_i, km_upx_s, km_fl2_o, km_is, Option.some.injEq, Sum.inl.injEq, Sum.inr.injEq, Option.toList_some, Option.toList_none, List.cons_append, List.nil_append, ne_eq, true_and, and_true, and_self, not_true_eq_false, not_false_eq_true, true_implies, false_implies, reduceCtorEq]
end ST

