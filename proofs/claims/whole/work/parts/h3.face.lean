/-! ===== promises 17, 18: score, judged ===== -/
/-- the reference's cells that the class left may choose the names' places -/
theorem km_pick {E : (Option km_V → km_Al → km_Mm → Prop) → Prop} {R : Nat × Int × Int × Int × Int → km_Mm → Prop} {v : Int → Int → Option km_V} {A : Nat × Int × Int × Int × Int → km_Al} (h : ∀ p b : Int, ∃ (q' : Nat × Int × Int × Int × Int) (X' : km_Mm), R q' X' ∧ ∀ Q, E Q ↔ Q (v p b) (A q') X') : ∃ (p b : Int) (q' : Nat × Int × Int × Int × Int) (X' : km_Mm), (X' 123 57 = p ∧ X' 123 58 = b) ∧ R q' X' ∧ ∀ Q, E Q ↔ Q (v p b) (A q') X' := by
  obtain ⟨q0, X0, r0, e0⟩ := h 0 0
  obtain ⟨q1, X1, r1, e1⟩ := h (X0 123 57) (X0 123 58)
  have e : X1 = X0 := (e1 (fun _ _ m => m = X0)).mp ((e0 _).mpr rfl)
  exact ⟨_, _, q1, X1, ⟨by rw [e], by rw [e]⟩, r1, e1⟩
section FS
variable {q q' : Nat × Int × Int × Int × Int} {c s : Nat} {m C X Y Z : km_Mm} {N o o1 p b P : Int}
theorem kRy_0 (hC : kZ m C) : kRy m C (C 123 55) (C 123 57) (C 123 58) (km_up C 123 2 0) := ⟨fun d j h1 h2 => by rw [km_up_ne (fun w => h2 (by unfold kJ; omega))]; exact hC.1 d j h2, fun d j hd => km_up_ne (by omega), km_up_ne (by omega), km_up_ne (by omega), km_up_ne (by omega)⟩
theorem kIN_fin (h : kIN N q m) (hq : kQo q P) (hC : kZ m C) (hY : kRy m C o p b Z) (hq' : kQo q' P) : kIN N q' Z := by
  obtain ⟨h0, P', hq1, hp⟩ := h
  have e : P' = P := by rw [← hq1.2.1]; exact hq.2.1
  subst e
  have jk : km_jk m Z := fun d j z => by
    by_cases w : d < 123
    · rw [hY.2.1 d j (Or.inl w)]; exact hC.1 d j z
    · exact hY.1 d j (by omega) z
  have s : kI_scr Z := kR_cg h0.2.1 (fun d j f => by
    unfold fR at f
    rw [hY.2.1 d j (by omega), f.1, hC.2.1])
  exact ⟨kI0_jk h0 jk s, P', hq', kIp_eq hq'.1 hp (kP_jk jk)⟩
theorem kZ_now (hb : kI_book m) : ∃ M : km_Mm, kZ m M ∧ ∀ Q : Option km_V → km_Al → km_Mm → Prop, (km_E M_X1_readNow [.inr (.inr 5)] (km_A0 q c s) m Q ↔ Q none (km_A0 q c s) M) := by
  obtain ⟨M, h1, h2, h3, h4⟩ := @cl_now q c s m hb
  exact ⟨M, ⟨h1, h2, h3⟩, h4⟩
theorem kIN_t (h : kIN N q m) : kIN N q (km_up m 123 2 0) := by
  obtain ⟨h0, P, hq, hp⟩ := h
  exact ⟨kI0_t h0, P, hq, kIp_eq hq.1 hp kP_t⟩
theorem fc_score (h : kIN N q m) (hN : N ≤ 1000) : kFq M_X11_score M_X12_score [.inl o] N N q c s m := by
  intro Q1 Q2
  have hi := h
  obtain ⟨h0, P, hq, hp⟩ := h
  have f1 := h0.1.1
  have f4 := h0.2.2.2.1.1
  by_cases v : 0 ≤ o ∧ o < m 19 1
  · obtain ⟨M, zM, eM⟩ := @kZ_now q c s m h0.1
    have M19 : M 19 1 = m 19 1 := zM.1 19 1 (by unfold kJ; omega)
    obtain ⟨M1, z1, x1, e1⟩ := @cl_lookAt q c s m M N o P h0 hp hq zM v.1 v.2
    obtain ⟨p, b, q', C, ⟨cp, cb⟩, ⟨hq', zC⟩, e2⟩ := @km_pick (fun Q => km_E M_X11_score [.inr (.inr 0), .inl o] (km_A0 q c s) m Q) (fun q' X' => (kQo q' P ∧ q'.1 = q.1) ∧ kZ m X') (fun p b => some (.inr (.inl (kvl (kScv m o p b))))) (fun q' => km_A0 q' c s) (fun p b => by
      obtain ⟨q', X', u1, u2, u3, u4⟩ := @c_score q c s m M1 N o p b P (-1) h0 hN hp hq z1 x1
      refine ⟨q', X', ⟨u1, u2⟩, fun Q => ?_⟩
      rw [e_X11_score]
      simp (config := { decide := true }) (disch := first | decide | assumption | omega | (simp (config := { decide := true }) only [km_sr_sf, km_sr_of, km_up_of, km_up_o, km_upx_i, km_upx_s, km_fl2_o, ne_eq, not_true_eq_false, not_false_eq_true] <;> omega) | fail) only [g_X11_score, r_ohas, v, eM, e1, u4, ka_lt, ka_le, ka_nlt, ka_nle, ka_ne, ka_eq, Int.add_sub_cancel, true_or, or_true, false_or, or_false, false_and, and_false, if_true, if_false, ka_lo, ka_hi, ka_nn, km_sr_sf, km_sr_of, km_up_of, km_sr_us, km_sr_uo, km_sr_sr, km_sr_fl, km_sr_flo, km_up_up, km_up_lt, km_lay, km_unL, km_up_o, km_upx_i, km_upx_s, km_fl2_o, km_is, Option.some.injEq, Sum.inl.injEq, Sum.inr.injEq, Option.toList_some, Option.toList_none, List.cons_append, List.nil_append, ne_eq, true_and, and_true, and_self, not_true_eq_false, not_false_eq_true, true_implies, false_implies, reduceCtorEq])
    have y0 := @kRy_0 m C zC
    rw [cp, cb] at y0
    obtain ⟨Z, w1, w2, w3⟩ := @m_score q' c s m C (km_up C 123 2 0) N o (C 123 55) p b P h0 hN hp v y0
    have c63 : C 123 63 = m 19 1 := (zC.1 123 63 (by unfold kJ; omega)).trans f4.2.2
    refine ⟨.inr (.inl (kvl (kScv m o p b))), q', C, Z, e2 Q1, ?_, hq'.2, kIN_fin hi hq zC w1 hq'.1⟩
    rw [e_X12_score]
    cases hr : kScv m o p b with
    | none =>
      rw [hr] at w2 w3
      rw [if_pos rfl] at w2
      have w3 : ∀ Q : Option km_V → km_Al → km_Mm → Prop, km_E M_X12_scoreOf [.inr (.inr 123), .inl o] (km_A0 q' c s) (km_up C 123 2 0) Q ↔ Q (some (.inr (.inl 0))) (km_A0 q' c s) Z := w3
      show _ ↔ Q2 (some (.inr (.inl (-9223372036854775808)))) (km_A0 q' c s) Z
      simp (config := { decide := true }) (disch := first | decide | assumption | omega | (simp (config := { decide := true }) only [km_sr_sf, km_sr_of, km_up_of, km_up_o, km_upx_i, km_upx_s, km_fl2_o, ne_eq, not_true_eq_false, not_false_eq_true] <;> omega) | fail) only [g_X12_score, r_mopt, c63, v, w3, w2, ka_lt, ka_le, ka_nlt, ka_nle, ka_ne, ka_eq, Int.add_sub_cancel, true_or, or_true, false_or, or_false, false_and, and_false, if_true, if_false, ka_lo, ka_hi, ka_nn, km_sr_sf, km_sr_of, km_up_of, km_sr_us, km_sr_uo, km_sr_sr, km_sr_fl, km_sr_flo, km_up_up, km_up_lt, km_lay, km_unL, km_up_o, km_upx_i, km_upx_s, km_fl2_o, km_is, Option.some.injEq, Sum.inl.injEq, Sum.inr.injEq, Option.toList_some, Option.toList_none, List.cons_append, List.nil_append, ne_eq, true_and, and_true, and_self, not_true_eq_false, not_false_eq_true, true_implies, false_implies, reduceCtorEq]
    | some u =>
      rw [hr] at w2 w3
      rw [if_neg (fun w => by cases w)] at w2
      have w3 : ∀ Q : Option km_V → km_Al → km_Mm → Prop, km_E M_X12_scoreOf [.inr (.inr 123), .inl o] (km_A0 q' c s) (km_up C 123 2 0) Q ↔ Q (some (.inr (.inl u))) (km_A0 q' c s) Z := w3
      show _ ↔ Q2 (some (.inr (.inl u))) (km_A0 q' c s) Z
      simp (config := { decide := true }) (disch := first | decide | assumption | omega | (simp (config := { decide := true }) only [km_sr_sf, km_sr_of, km_up_of, km_up_o, km_upx_i, km_upx_s, km_fl2_o, ne_eq, not_true_eq_false, not_false_eq_true] <;> omega) | fail) only [g_X12_score, r_mopt, c63, v, w3, w2, ka_lt, ka_le, ka_nlt, ka_nle, ka_ne, ka_eq, Int.add_sub_cancel, true_or, or_true, false_or, or_false, false_and, and_false, if_true, if_false, ka_lo, ka_hi, ka_nn, km_sr_sf, km_sr_of, km_up_of, km_sr_us, km_sr_uo, km_sr_sr, km_sr_fl, km_sr_flo, km_up_up, km_up_lt, km_lay, km_unL, km_up_o, km_upx_i, km_upx_s, km_fl2_o, km_is, Option.some.injEq, Sum.inl.injEq, Sum.inr.injEq, Option.toList_some, Option.toList_none, List.cons_append, List.nil_append, ne_eq, true_and, and_true, and_self, not_true_eq_false, not_false_eq_true, true_implies, false_implies, reduceCtorEq]
  · refine ⟨.inr (.inl (-9223372036854775808)), q, m, km_up m 123 2 0, ?_, ?_, rfl, kIN_t hi⟩
    · rw [e_X11_score]
      simp (config := { decide := true }) (disch := first | decide | assumption | omega | (simp (config := { decide := true }) only [km_sr_sf, km_sr_of, km_up_of, km_up_o, km_upx_i, km_upx_s, km_fl2_o, ne_eq, not_true_eq_false, not_false_eq_true] <;> omega) | fail) only [g_X11_score, r_ohas, v, Int.add_sub_cancel, true_or, or_true, false_or, or_false, false_and, and_false, if_true, if_false, ka_lo, ka_hi, ka_nn, km_sr_sf, km_sr_of, km_up_of, km_sr_us, km_sr_uo, km_sr_sr, km_sr_fl, km_sr_flo, km_up_up, km_up_lt, km_lay, km_unL, km_up_o, km_upx_i, km_upx_s, km_fl2_o, km_is, Option.some.injEq, Sum.inl.injEq, Sum.inr.injEq, Option.toList_some, Option.toList_none, List.cons_append, List.nil_append, ne_eq, true_and, and_true, and_self, not_true_eq_false, not_false_eq_true, true_implies, false_implies, reduceCtorEq]
    · rw [e_X12_score]
      simp (config := { decide := true }) (disch := first | decide | assumption | omega | (simp (config := { decide := true }) only [km_sr_sf, km_sr_of, km_up_of, km_up_o, km_upx_i, km_upx_s, km_fl2_o, ne_eq, not_true_eq_false, not_false_eq_true] <;> omega) | fail) only [g_X12_score, r_mopt, f4.2.2, v, Int.add_sub_cancel, true_or, or_true, false_or, or_false, false_and, and_false, if_true, if_false, ka_lo, ka_hi, ka_nn, km_sr_sf, km_sr_of, km_up_of, km_sr_us, km_sr_uo, km_sr_sr, km_sr_fl, km_sr_flo, km_up_up, km_up_lt, km_lay, km_unL, km_up_o, km_upx_i, km_upx_s, km_fl2_o, km_is, Option.some.injEq, Sum.inl.injEq, Sum.inr.injEq, Option.toList_some, Option.toList_none, List.cons_append, List.nil_append, ne_eq, true_and, and_true, and_self, not_true_eq_false, not_false_eq_true, true_implies, false_implies, reduceCtorEq]
/-- the reference counts what it beats -/
theorem md_beatsAll (hB : kI_book m) (hO : kI_opt m) (ho : 0 ≤ o ∧ o < m 19 1) : ∀ (n i : Nat) (Y : km_Mm), (i : Int) + n = m 19 1 → kMj m Y → (∀ d j : Int, d < 123 → Y d j = C d j) → ∃ Z : km_Mm, kMj m Z ∧ (∀ d j : Int, d < 123 → Z d j = C d j) ∧ ∀ Q : Option km_V → km_Al → km_Mm → Prop, km_G M_X12_judged 39 [some (.inr (.inr 123)), some (.inl o), some (.inl 1), some (.inl (kcnt (kBt m o) i)), some (.inl (i : Int))] [] (km_A0 q c s) Y Q ↔ Q (some (.inl (kcnt (kBt m o) (m 19 1).toNat))) (km_A0 q c s) Z := by
  have f4 := hO.1
  intro n
  induction n with
  | zero =>
    intro i Y hi hY hC
    have e63 : Y 123 63 = m 19 1 := (hY 123 63 (by decide) (by unfold kJ; omega)).trans f4.2.2
    have e : i = (m 19 1).toNat := by omega
    have w : ¬ (i : Int) < m 19 1 := by omega
    refine ⟨Y, hY, hC, fun Q => ?_⟩
    rw [← e, g_X12_judged_39]
    simp (config := { decide := true }) (disch := first | decide | assumption | omega | (simp (config := { decide := true }) only [km_sr_sf, km_sr_of, km_up_of, km_up_o, km_upx_i, km_upx_s, km_fl2_o, ne_eq, not_true_eq_false, not_false_eq_true] <;> omega) | fail) only [g_X12_judged, e63, w, ka_lt, ka_le, ka_nlt, ka_nle, ka_ne, ka_eq, Int.add_sub_cancel, true_or, or_true, false_or, or_false, false_and, and_false, if_true, if_false, ka_lo, ka_hi, ka_nn, km_sr_sf, km_sr_of, km_up_of, km_sr_us, km_sr_uo, km_sr_sr, km_sr_fl, km_sr_flo, km_up_up, km_up_lt, km_lay, km_unL, km_up_o, km_upx_i, km_upx_s, km_fl2_o, km_is, Option.some.injEq, Sum.inl.injEq, Sum.inr.injEq, Option.toList_some, Option.toList_none, List.cons_append, List.nil_append, ne_eq, true_and, and_true, and_self, not_true_eq_false, not_false_eq_true, true_implies, false_implies, reduceCtorEq]
  | succ n ih =>
    intro i Y hi hY hC
    have e63 : Y 123 63 = m 19 1 := (hY 123 63 (by decide) (by unfold kJ; omega)).trans f4.2.2
    have w : (i : Int) < m 19 1 := by omega
    have cb := kcnt_b (P := kBt m o) i
    by_cases z : (i : Int) = o
    · have nb : ¬ kBt m o i := by unfold kBt; rw [z, kbt_self]; decide
      obtain ⟨Z, z1, z2, z3⟩ := ih (i + 1) Y (by omega) hY hC
      refine ⟨Z, z1, z2, fun Q => ?_⟩
      rw [← z3 Q, kcnt_no nb, show ((i + 1 : Nat) : Int) = (i : Int) + 1 by omega, g_X12_judged_39]
      simp (config := { decide := true }) (disch := first | decide | assumption | omega | (simp (config := { decide := true }) only [km_sr_sf, km_sr_of, km_up_of, km_up_o, km_upx_i, km_upx_s, km_fl2_o, ne_eq, not_true_eq_false, not_false_eq_true] <;> omega) | fail) only [g_X12_judged, e63, w, z, cb, Int.add_zero, ka_lt, ka_le, ka_nlt, ka_nle, ka_ne, ka_eq, Int.add_sub_cancel, true_or, or_true, false_or, or_false, false_and, and_false, if_true, if_false, ka_lo, ka_hi, ka_nn, km_sr_sf, km_sr_of, km_up_of, km_sr_us, km_sr_uo, km_sr_sr, km_sr_fl, km_sr_flo, km_up_up, km_up_lt, km_lay, km_unL, km_up_o, km_upx_i, km_upx_s, km_fl2_o, km_is, Option.some.injEq, Sum.inl.injEq, Sum.inr.injEq, Option.toList_some, Option.toList_none, List.cons_append, List.nil_append, ne_eq, true_and, and_true, and_self, not_true_eq_false, not_false_eq_true, true_implies, false_implies, reduceCtorEq]
    · obtain ⟨g, bt⟩ := @md_beats q c s m Y o i hB hO hY ho.1 ho.2 (by omega) w
      obtain ⟨Z, z1, z2, z3⟩ := ih (i + 1) (km_sr Y 130 g) (by omega) (kMj_sr hY) (fun d j hd => by rw [km_sr_o (by omega)]; exact hC d j hd)
      refine ⟨Z, z1, z2, fun Q => ?_⟩
      rw [← z3 Q, show ((i + 1 : Nat) : Int) = (i : Int) + 1 by omega, g_X12_judged_39]
      by_cases y : 0 < kbt m o i (m 5 1).toNat
      · have yb : kBt m o i := y
        simp only [if_pos y] at bt
        rw [kcnt_yes yb]
        simp (config := { decide := true }) (disch := first | decide | assumption | omega | (simp (config := { decide := true }) only [km_sr_sf, km_sr_of, km_up_of, km_up_o, km_upx_i, km_upx_s, km_fl2_o, ne_eq, not_true_eq_false, not_false_eq_true] <;> omega) | fail) only [g_X12_judged, e63, w, z, bt, cb, ka_lt, ka_le, ka_nlt, ka_nle, ka_ne, ka_eq, Int.add_sub_cancel, true_or, or_true, false_or, or_false, false_and, and_false, if_true, if_false, ka_lo, ka_hi, ka_nn, km_sr_sf, km_sr_of, km_up_of, km_sr_us, km_sr_uo, km_sr_sr, km_sr_fl, km_sr_flo, km_up_up, km_up_lt, km_lay, km_unL, km_up_o, km_upx_i, km_upx_s, km_fl2_o, km_is, Option.some.injEq, Sum.inl.injEq, Sum.inr.injEq, Option.toList_some, Option.toList_none, List.cons_append, List.nil_append, ne_eq, true_and, and_true, and_self, not_true_eq_false, not_false_eq_true, true_implies, false_implies, reduceCtorEq]
      · have yb : ¬ kBt m o i := y
        simp only [if_neg y] at bt
        rw [kcnt_no yb]
        simp (config := { decide := true }) (disch := first | decide | assumption | omega | (simp (config := { decide := true }) only [km_sr_sf, km_sr_of, km_up_of, km_up_o, km_upx_i, km_upx_s, km_fl2_o, ne_eq, not_true_eq_false, not_false_eq_true] <;> omega) | fail) only [g_X12_judged, e63, w, z, bt, cb, Int.add_zero, ka_lt, ka_le, ka_nlt, ka_nle, ka_ne, ka_eq, Int.add_sub_cancel, true_or, or_true, false_or, or_false, false_and, and_false, if_true, if_false, ka_lo, ka_hi, ka_nn, km_sr_sf, km_sr_of, km_up_of, km_sr_us, km_sr_uo, km_sr_sr, km_sr_fl, km_sr_flo, km_up_up, km_up_lt, km_lay, km_unL, km_up_o, km_upx_i, km_upx_s, km_fl2_o, km_is, Option.some.injEq, Sum.inl.injEq, Sum.inr.injEq, Option.toList_some, Option.toList_none, List.cons_append, List.nil_append, ne_eq, true_and, and_true, and_self, not_true_eq_false, not_false_eq_true, true_implies, false_implies, reduceCtorEq]
theorem fc_judged (h : kIN N q m) (hN : N ≤ 1000) {w : Int} : kFq M_X11_judged M_X12_judged [.inl o, .inl w] N N q c s m := by
  intro Q1 Q2
  have hi := h
  obtain ⟨h0, P, hq, hp⟩ := h
  have f1 := h0.1.1
  have f4 := h0.2.2.2.1.1
  by_cases v : (0 ≤ o ∧ o < m 19 1) ∧ 0 ≤ w ∧ w ≤ 1
  · obtain ⟨v1, v2, v3⟩ := v
    obtain ⟨M, zM, eM⟩ := @kZ_now q c s m h0.1
    have M19 : M 19 1 = m 19 1 := zM.1 19 1 (by unfold kJ; omega)
    by_cases w1 : w = 1
    · subst w1
      have ks := kset_ten (P := kBt m o) (m 19 1).toNat (by omega)
      have kp := kset_pop (P := kBt m o) (m 19 1).toNat (by omega)
      have bb := fun Q => @r_beatenBy q c s o m M zM.2.2 zM.1 ⟨f1.1, f1.2.1⟩ ⟨f4.1, f4.2.1⟩ v1.1 (by omega) Q
      have bc := fun Q => @sp_bitCount _ ks.1 ks.2 (km_A0 q c s) M Q
      rw [kp] at bc
      have y0 := @kRy_0 m M zM
      obtain ⟨Z, z1, z2, z3⟩ := @md_beatsAll q c s m M o h0.1 h0.2.2.2.1 v1 (m 19 1).toNat 0 (km_up M 123 2 0) (by omega) y0.1 (fun d j hd => y0.2.1 d j (Or.inl hd))
      have jk : km_jk m Z := fun d j z => by
        by_cases w : d < 123
        · rw [z2 d j w]; exact zM.1 d j z
        · exact z1 d j (by omega) z
      have s0 : kI_scr Z := kR_cg h0.2.1 (fun d j f => by unfold fR at f; rw [z2 d j (by omega), f.1, zM.2.1])
      have c63 : M 123 63 = m 19 1 := (zM.1 123 63 (by unfold kJ; omega)).trans f4.2.2
      refine ⟨.inl (kcnt (kBt m o) (m 19 1).toNat), q, M, Z, ?_, ?_, rfl, kI0_jk h0 jk s0, P, hq, kIp_eq hq.1 hp (kP_jk jk)⟩
      · rw [e_X11_judged]
        simp (config := { decide := true }) (disch := first | decide | assumption | omega | (simp (config := { decide := true }) only [km_sr_sf, km_sr_of, km_up_of, km_up_o, km_upx_i, km_upx_s, km_fl2_o, ne_eq, not_true_eq_false, not_false_eq_true] <;> omega) | fail) only [g_X11_judged, r_ohas, v1, eM, bb, bc, ka_lt, ka_le, ka_nlt, ka_nle, ka_ne, ka_eq, Int.add_sub_cancel, true_or, or_true, false_or, or_false, false_and, and_false, if_true, if_false, ka_lo, ka_hi, ka_nn, km_sr_sf, km_sr_of, km_up_of, km_sr_us, km_sr_uo, km_sr_sr, km_sr_fl, km_sr_flo, km_up_up, km_up_lt, km_lay, km_unL, km_up_o, km_upx_i, km_upx_s, km_fl2_o, km_is, Option.some.injEq, Sum.inl.injEq, Sum.inr.injEq, Option.toList_some, Option.toList_none, List.cons_append, List.nil_append, ne_eq, true_and, and_true, and_self, not_true_eq_false, not_false_eq_true, true_implies, false_implies, reduceCtorEq]
      · rw [← z3 Q2, e_X12_judged]
        have k0 : kcnt (kBt m o) 0 = 0 := rfl
        have k1 : ((0 : Nat) : Int) = 0 := rfl
        rw [k0, k1]
        simp (config := { decide := true }) (disch := first | decide | assumption | omega | (simp (config := { decide := true }) only [km_sr_sf, km_sr_of, km_up_of, km_up_o, km_upx_i, km_upx_s, km_fl2_o, ne_eq, not_true_eq_false, not_false_eq_true] <;> omega) | fail) only [g_X12_judged, r_mopt, c63, v1, ka_lt, ka_le, ka_nlt, ka_nle, ka_ne, ka_eq, Int.add_sub_cancel, true_or, or_true, false_or, or_false, false_and, and_false, if_true, if_false, ka_lo, ka_hi, ka_nn, km_sr_sf, km_sr_of, km_up_of, km_sr_us, km_sr_uo, km_sr_sr, km_sr_fl, km_sr_flo, km_up_up, km_up_lt, km_lay, km_unL, km_up_o, km_upx_i, km_upx_s, km_fl2_o, km_is, Option.some.injEq, Sum.inl.injEq, Sum.inr.injEq, Option.toList_some, Option.toList_none, List.cons_append, List.nil_append, ne_eq, true_and, and_true, and_self, not_true_eq_false, not_false_eq_true, true_implies, false_implies, reduceCtorEq]
    · have w0 : w = 0 := by omega
      subst w0
      obtain ⟨M1, z1, x1, e1⟩ := @cl_lookAt q c s m M N o P h0 hp hq zM v1.1 v1.2
      obtain ⟨p, b, q', C, ⟨cp, cb⟩, ⟨hq', zC⟩, e2⟩ := @km_pick (fun Q => km_E M_X11_judged [.inr (.inr 0), .inl o, .inl 0] (km_A0 q c s) m Q) (fun q' X' => (kQo q' P ∧ q'.1 = q.1) ∧ kZ m X') (fun p b => some (.inl (kOt m o p b))) (fun q' => km_A0 q' c s) (fun p b => by
        obtain ⟨q2, X2, u1, u2, u3, u4⟩ := @c_bar q c s m M1 N o p b P (-1) h0 hN hp hq z1 x1
        unfold kOt
        by_cases y : kBr m o p b 4 0 = 0
        · obtain ⟨q3, X3, t1, t2, t3, t4⟩ := @c_score q2 c s m X2 N o p b P (-1) h0 hN hp u1.1 u2 u3
          refine ⟨q3, X3, ⟨⟨t1.1, t1.2.trans u1.2⟩, t2⟩, fun Q => ?_⟩
          rw [if_pos y, e_X11_judged]
          cases hr : kScv m o p b with
          | none =>
            rw [hr] at t4
            have t4 : ∀ Q : Option km_V → km_Al → km_Mm → Prop, km_E M_X11_scoreAt [.inr (.inr 0), .inl o] (km_A0 q2 c s) X2 Q ↔ Q (some (.inr (.inl (-9223372036854775808)))) (km_A0 q3 c s) X3 := t4
            rw [if_pos rfl]
            simp (config := { decide := true }) (disch := first | decide | assumption | omega | (simp (config := { decide := true }) only [km_sr_sf, km_sr_of, km_up_of, km_up_o, km_upx_i, km_upx_s, km_fl2_o, ne_eq, not_true_eq_false, not_false_eq_true] <;> omega) | fail) only [g_X11_judged, r_ohas, v1, eM, e1, u4, y, t4, kl_0, ka_lt, ka_le, ka_nlt, ka_nle, ka_ne, ka_eq, Int.add_sub_cancel, true_or, or_true, false_or, or_false, false_and, and_false, if_true, if_false, ka_lo, ka_hi, ka_nn, km_sr_sf, km_sr_of, km_up_of, km_sr_us, km_sr_uo, km_sr_sr, km_sr_fl, km_sr_flo, km_up_up, km_up_lt, km_lay, km_unL, km_up_o, km_upx_i, km_upx_s, km_fl2_o, km_is, Option.some.injEq, Sum.inl.injEq, Sum.inr.injEq, Option.toList_some, Option.toList_none, List.cons_append, List.nil_append, ne_eq, true_and, and_true, and_self, not_true_eq_false, not_false_eq_true, true_implies, false_implies, reduceCtorEq]
          | some u =>
            rw [hr] at t4
            have t4 : ∀ Q : Option km_V → km_Al → km_Mm → Prop, km_E M_X11_scoreAt [.inr (.inr 0), .inl o] (km_A0 q2 c s) X2 Q ↔ Q (some (.inr (.inl u))) (km_A0 q3 c s) X3 := t4
            have u12 : k12 u := by
              unfold kScv at hr
              split at hr
              · cases hr
                have := kRa_b h0.2.2.2.1 v1.1 v1.2 (m 5 1).toNat (by omega)
                unfold k12; omega
              · next hz => exact kLv_12 h0 hN hp (by decide) (fun z => hz ((kIl_s (hp.2.2.2.1 4 (by decide) (by decide))).mp z)) hr
            unfold k12 at u12
            have un : ¬ u = -9223372036854775808 := by omega
            rw [if_neg (fun z => by cases z)]
            simp (config := { decide := true }) (disch := first | decide | assumption | omega | (simp (config := { decide := true }) only [km_sr_sf, km_sr_of, km_up_of, km_up_o, km_upx_i, km_upx_s, km_fl2_o, ne_eq, not_true_eq_false, not_false_eq_true] <;> omega) | fail) only [g_X11_judged, r_ohas, v1, eM, e1, u4, y, t4, kl_0, un, ka_lt, ka_le, ka_nlt, ka_nle, ka_ne, ka_eq, Int.add_sub_cancel, true_or, or_true, false_or, or_false, false_and, and_false, if_true, if_false, ka_lo, ka_hi, ka_nn, km_sr_sf, km_sr_of, km_up_of, km_sr_us, km_sr_uo, km_sr_sr, km_sr_fl, km_sr_flo, km_up_up, km_up_lt, km_lay, km_unL, km_up_o, km_upx_i, km_upx_s, km_fl2_o, km_is, Option.some.injEq, Sum.inl.injEq, Sum.inr.injEq, Option.toList_some, Option.toList_none, List.cons_append, List.nil_append, ne_eq, true_and, and_true, and_self, not_true_eq_false, not_false_eq_true, true_implies, false_implies, reduceCtorEq]
        · refine ⟨q2, X2, ⟨u1, u2⟩, fun Q => ?_⟩
          rw [if_neg y, e_X11_judged]
          simp (config := { decide := true }) (disch := first | decide | assumption | omega | (simp (config := { decide := true }) only [km_sr_sf, km_sr_of, km_up_of, km_up_o, km_upx_i, km_upx_s, km_fl2_o, ne_eq, not_true_eq_false, not_false_eq_true] <;> omega) | fail) only [g_X11_judged, r_ohas, v1, eM, e1, u4, y, ka_lt, ka_le, ka_nlt, ka_nle, ka_ne, ka_eq, Int.add_sub_cancel, true_or, or_true, false_or, or_false, false_and, and_false, if_true, if_false, ka_lo, ka_hi, ka_nn, km_sr_sf, km_sr_of, km_up_of, km_sr_us, km_sr_uo, km_sr_sr, km_sr_fl, km_sr_flo, km_up_up, km_up_lt, km_lay, km_unL, km_up_o, km_upx_i, km_upx_s, km_fl2_o, km_is, Option.some.injEq, Sum.inl.injEq, Sum.inr.injEq, Option.toList_some, Option.toList_none, List.cons_append, List.nil_append, ne_eq, true_and, and_true, and_self, not_true_eq_false, not_false_eq_true, true_implies, false_implies, reduceCtorEq])
      have y0 := @kRy_0 m C zC
      rw [cp, cb] at y0
      obtain ⟨Z, w1, w3⟩ := @m_out q' c s m C (km_up C 123 2 0) N o (C 123 55) p b P h0 hN hp v1 y0
      have c63 : C 123 63 = m 19 1 := (zC.1 123 63 (by unfold kJ; omega)).trans f4.2.2
      refine ⟨.inl (kOt m o p b), q', C, Z, e2 Q1, ?_, hq'.2, kIN_fin hi hq zC w1 hq'.1⟩
      rw [e_X12_judged]
      simp (config := { decide := true }) (disch := first | decide | assumption | omega | (simp (config := { decide := true }) only [km_sr_sf, km_sr_of, km_up_of, km_up_o, km_upx_i, km_upx_s, km_fl2_o, ne_eq, not_true_eq_false, not_false_eq_true] <;> omega) | fail) only [g_X12_judged, r_mopt, c63, v1, w3, ka_lt, ka_le, ka_nlt, ka_nle, ka_ne, ka_eq, Int.add_sub_cancel, true_or, or_true, false_or, or_false, false_and, and_false, if_true, if_false, ka_lo, ka_hi, ka_nn, km_sr_sf, km_sr_of, km_up_of, km_sr_us, km_sr_uo, km_sr_sr, km_sr_fl, km_sr_flo, km_up_up, km_up_lt, km_lay, km_unL, km_up_o, km_upx_i, km_upx_s, km_fl2_o, km_is, Option.some.injEq, Sum.inl.injEq, Sum.inr.injEq, Option.toList_some, Option.toList_none, List.cons_append, List.nil_append, ne_eq, true_and, and_true, and_self, not_true_eq_false, not_false_eq_true, true_implies, false_implies, reduceCtorEq]
  · refine ⟨.inl (-1), q, m, km_up m 123 2 0, ?_, ?_, rfl, kIN_t hi⟩
    · rw [e_X11_judged]
      by_cases c0 : 0 ≤ o ∧ o < m 19 1
      case neg => simp (config := { decide := true }) (disch := first | decide | assumption | omega | (simp (config := { decide := true }) only [km_sr_sf, km_sr_of, km_up_of, km_up_o, km_upx_i, km_upx_s, km_fl2_o, ne_eq, not_true_eq_false, not_false_eq_true] <;> omega) | fail) only [g_X11_judged, r_ohas, c0, Int.add_sub_cancel, true_or, or_true, false_or, or_false, false_and, and_false, if_true, if_false, ka_lo, ka_hi, ka_nn, km_sr_sf, km_sr_of, km_up_of, km_sr_us, km_sr_uo, km_sr_sr, km_sr_fl, km_sr_flo, km_up_up, km_up_lt, km_lay, km_unL, km_up_o, km_upx_i, km_upx_s, km_fl2_o, km_is, Option.some.injEq, Sum.inl.injEq, Sum.inr.injEq, Option.toList_some, Option.toList_none, List.cons_append, List.nil_append, ne_eq, true_and, and_true, and_self, not_true_eq_false, not_false_eq_true, true_implies, false_implies, reduceCtorEq]
      by_cases c1 : 0 ≤ w
      case neg => simp (config := { decide := true }) (disch := first | decide | assumption | omega | (simp (config := { decide := true }) only [km_sr_sf, km_sr_of, km_up_of, km_up_o, km_upx_i, km_upx_s, km_fl2_o, ne_eq, not_true_eq_false, not_false_eq_true] <;> omega) | fail) only [g_X11_judged, r_ohas, c0, ka_lt, ka_le, ka_nlt, ka_nle, ka_ne, ka_eq, Int.add_sub_cancel, true_or, or_true, false_or, or_false, false_and, and_false, if_true, if_false, ka_lo, ka_hi, ka_nn, km_sr_sf, km_sr_of, km_up_of, km_sr_us, km_sr_uo, km_sr_sr, km_sr_fl, km_sr_flo, km_up_up, km_up_lt, km_lay, km_unL, km_up_o, km_upx_i, km_upx_s, km_fl2_o, km_is, Option.some.injEq, Sum.inl.injEq, Sum.inr.injEq, Option.toList_some, Option.toList_none, List.cons_append, List.nil_append, ne_eq, true_and, and_true, and_self, not_true_eq_false, not_false_eq_true, true_implies, false_implies, reduceCtorEq]
      by_cases c2 : w ≤ 1
      case neg => simp (config := { decide := true }) (disch := first | decide | assumption | omega | (simp (config := { decide := true }) only [km_sr_sf, km_sr_of, km_up_of, km_up_o, km_upx_i, km_upx_s, km_fl2_o, ne_eq, not_true_eq_false, not_false_eq_true] <;> omega) | fail) only [g_X11_judged, r_ohas, c0, ka_lt, ka_le, ka_nlt, ka_nle, ka_ne, ka_eq, Int.add_sub_cancel, true_or, or_true, false_or, or_false, false_and, and_false, if_true, if_false, ka_lo, ka_hi, ka_nn, km_sr_sf, km_sr_of, km_up_of, km_sr_us, km_sr_uo, km_sr_sr, km_sr_fl, km_sr_flo, km_up_up, km_up_lt, km_lay, km_unL, km_up_o, km_upx_i, km_upx_s, km_fl2_o, km_is, Option.some.injEq, Sum.inl.injEq, Sum.inr.injEq, Option.toList_some, Option.toList_none, List.cons_append, List.nil_append, ne_eq, true_and, and_true, and_self, not_true_eq_false, not_false_eq_true, true_implies, false_implies, reduceCtorEq]
      exact absurd (by omega) v
    · rw [e_X12_judged]
      by_cases c0 : 0 ≤ o ∧ o < m 19 1
      case neg => simp (config := { decide := true }) (disch := first | decide | assumption | omega | (simp (config := { decide := true }) only [km_sr_sf, km_sr_of, km_up_of, km_up_o, km_upx_i, km_upx_s, km_fl2_o, ne_eq, not_true_eq_false, not_false_eq_true] <;> omega) | fail) only [g_X12_judged, r_mopt, f4.2.2, c0, Int.add_sub_cancel, true_or, or_true, false_or, or_false, false_and, and_false, if_true, if_false, ka_lo, ka_hi, ka_nn, km_sr_sf, km_sr_of, km_up_of, km_sr_us, km_sr_uo, km_sr_sr, km_sr_fl, km_sr_flo, km_up_up, km_up_lt, km_lay, km_unL, km_up_o, km_upx_i, km_upx_s, km_fl2_o, km_is, Option.some.injEq, Sum.inl.injEq, Sum.inr.injEq, Option.toList_some, Option.toList_none, List.cons_append, List.nil_append, ne_eq, true_and, and_true, and_self, not_true_eq_false, not_false_eq_true, true_implies, false_implies, reduceCtorEq]
      by_cases c1 : 0 ≤ w
      case neg => simp (config := { decide := true }) (disch := first | decide | assumption | omega | (simp (config := { decide := true }) only [km_sr_sf, km_sr_of, km_up_of, km_up_o, km_upx_i, km_upx_s, km_fl2_o, ne_eq, not_true_eq_false, not_false_eq_true] <;> omega) | fail) only [g_X12_judged, r_mopt, f4.2.2, c0, ka_lt, ka_le, ka_nlt, ka_nle, ka_ne, ka_eq, Int.add_sub_cancel, true_or, or_true, false_or, or_false, false_and, and_false, if_true, if_false, ka_lo, ka_hi, ka_nn, km_sr_sf, km_sr_of, km_up_of, km_sr_us, km_sr_uo, km_sr_sr, km_sr_fl, km_sr_flo, km_up_up, km_up_lt, km_lay, km_unL, km_up_o, km_upx_i, km_upx_s, km_fl2_o, km_is, Option.some.injEq, Sum.inl.injEq, Sum.inr.injEq, Option.toList_some, Option.toList_none, List.cons_append, List.nil_append, ne_eq, true_and, and_true, and_self, not_true_eq_false, not_false_eq_true, true_implies, false_implies, reduceCtorEq]
      by_cases c2 : w ≤ 1
      case neg => simp (config := { decide := true }) (disch := first | decide | assumption | omega | (simp (config := { decide := true }) only [km_sr_sf, km_sr_of, km_up_of, km_up_o, km_upx_i, km_upx_s, km_fl2_o, ne_eq, not_true_eq_false, not_false_eq_true] <;> omega) | fail) only [g_X12_judged, r_mopt, f4.2.2, c0, ka_lt, ka_le, ka_nlt, ka_nle, ka_ne, ka_eq, Int.add_sub_cancel, true_or, or_true, false_or, or_false, false_and, and_false, if_true, if_false, ka_lo, ka_hi, ka_nn, km_sr_sf, km_sr_of, km_up_of, km_sr_us, km_sr_uo, km_sr_sr, km_sr_fl, km_sr_flo, km_up_up, km_up_lt, km_lay, km_unL, km_up_o, km_upx_i, km_upx_s, km_fl2_o, km_is, Option.some.injEq, Sum.inl.injEq, Sum.inr.injEq, Option.toList_some, Option.toList_none, List.cons_append, List.nil_append, ne_eq, true_and, and_true, and_self, not_true_eq_false, not_false_eq_true, true_implies, false_implies, reduceCtorEq]
      exact absurd (by omega) v
end FS

