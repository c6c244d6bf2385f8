/-! ===== promise 20: meet, side by side ===== -/
section FM
variable {q q' : Nat × Int × Int × Int × Int} {c s : Nat} {m C M X Y Z : km_Mm} {N o o1 p b P a k : Int}
theorem kMt_fin (h : kI0 N m) (off : m 100 0 = -1) (ha : 0 ≤ a ∧ a < m 19 1) (c1 : ∀ d j : Int, ¬ kJ d j → ¬ (d = 100 ∧ (j = 0 ∨ j = 1)) → C d j = m d j) (c2 : C 52 = m 52) (c3 : C 100 0 = a ∧ C 100 1 = kset (kC m a) (m 5 1).toNat) (hY : ∀ d j : Int, d < 123 → Y d j = C d j) (hZ : kMt m Y Z a) : kI0 N Z ∧ kP_eq m Z := by
  obtain ⟨hB, hR, hT, hO, hM, hF, hH, hE, hS, hA⟩ := h
  have f1 := hB.1
  obtain ⟨z1, z2, z3, z4, z5⟩ := hZ
  have same : ∀ d j : Int, ¬ kJ d j → ¬ (d = 100 ∧ (j = 0 ∨ j = 1)) → ¬ (d = 123 ∧ (j = 80 ∨ j = 81 ∨ j = 82 ∨ j = 91)) → ¬ (d = 166 ∨ d = 169 ∨ d = 170) → Z d j = m d j := fun d j w1 w2 w3 w4 => by
    by_cases e : d < 123
    · rw [z1 d j e, hY d j e]; exact c1 d j w1 w2
    · exact z2 d j (by omega) w1 w3 w4
  have t0 : Z 100 0 = a := by rw [z1 _ _ (by decide), hY _ _ (by decide)]; exact c3.1
  have t1 : Z 100 1 = kset (kC m a) (m 5 1).toNat := by rw [z1 _ _ (by decide), hY _ _ (by decide)]; exact c3.2
  have t51 : Z 5 1 = m 5 1 := same 5 1 (by unfold kJ; omega) (by omega) (by omega) (by omega)
  have t19 : Z 19 1 = m 19 1 := same 19 1 (by unfold kJ; omega) (by omega) (by omega) (by omega)
  have t4 : Z 100 4 = m 100 4 := same 100 4 (by unfold kJ; omega) (by omega) (by omega) (by omega)
  have t101 : ∀ j : Int, Z 101 j = m 101 j := fun j => same 101 j (by unfold kJ; omega) (by omega) (by omega) (by omega)
  have t102 : ∀ j : Int, Z 102 j = m 102 j := fun j => same 102 j (by unfold kJ; omega) (by omega) (by omega) (by omega)
  have t112 : ∀ j : Int, Z 112 j = m 112 j := fun j => same 112 j (by unfold kJ; omega) (by omega) (by omega) (by omega)
  have ks := kset_ten (P := kC m a) (m 5 1).toNat (by omega)
  have kt := kset_tb (P := kC m a) (m 5 1).toNat (by omega)
  have an : ¬ a = -1 := by omega
  obtain ⟨e1, e2, e3, e4, e5, e6, e7, e8, e9⟩ := id hE
  obtain ⟨e51, e52, e53⟩ := e5 off
  have g0 : ∀ k : Int, 0 ≤ k → k < 10 → m 101 k = 0 := fun k k0 k1 => (e4 k k0 k1).2.2 (by rw [e51]; exact tb_zero)
  refine ⟨⟨kB_cg hB (fun d j f => same d j ?_ ?_ ?_ ?_), ?_, kT_cg hT (fun d j f => same d j ?_ ?_ ?_ ?_), kO_cg hO (fun d j f => same d j ?_ ?_ ?_ ?_), kM_cg hM (fun d j f => same d j ?_ ?_ ?_ ?_), kF_cg hF (fun d j f => same d j ?_ ?_ ?_ ?_), kH_cg hH (fun d j f => same d j ?_ ?_ ?_ ?_), ?_, kS_cg hS (fun d j f => same d j ?_ ?_ ?_ ?_), kA_cg hA (fun d j f => same d j ?_ ?_ ?_ ?_)⟩, ?_⟩
  all_goals first | (unfold fB at f; first | (unfold kJ; omega) | omega) | (unfold fT at f; first | (unfold kJ; omega) | omega) | (unfold fO at f; first | (unfold kJ; omega) | omega) | (unfold fM at f; first | (unfold kJ; omega) | omega) | (unfold fF at f; first | (unfold kJ; omega) | omega) | (unfold fH at f; first | (unfold kJ; omega) | omega) | (unfold fS at f; first | (unfold kJ; omega) | omega) | (unfold fA at f; first | (unfold kJ; omega) | omega) | skip
  · exact kR_cg hR (fun d j f => by unfold fR at f; rw [z1 d j (by omega), hY d j (by omega), f.1, c2])
  · refine ⟨⟨⟨?_, ?_, ?_⟩, ?_⟩, ⟨?_, ?_, ?_⟩, ⟨?_, ?_, ?_⟩, ?_, ?_, ?_, ?_, ?_, ?_⟩
    · rw [t0]; omega
    · rw [t0, t19]; exact ha.2
    · rw [t0]; exact z3.2.1
    · rw [t0, if_neg an]; exact z3.1
    · rw [t1]; exact z3.2.2.1
    · rw [t1]; exact ks
    · intro k k0 k1
      rw [t51] at k0
      rw [t1]
      cases e : tb (kset (kC m a) (m 5 1).toNat) k with
      | false => rfl
      | true => exact absurd ((kt k (by omega)).mp e).1 (by omega)
    · rw [t4, e52]; decide
    · rw [t4, e52]; decide
    · rw [t4, e52]; exact z3.2.2.2
    · intro k k0 k1
      rw [t101 k, g0 k k0 k1]
      exact ⟨⟨by decide, by decide⟩, fun _ => (z5 k k0 k1).2, fun _ => rfl⟩
    · intro w; rw [t0] at w; exact absurd w an
    · intro k k0 k1
      rw [t102 k, (e53 k k0 k1).1]
      exact ⟨⟨by decide, by decide⟩, fun _ _ => (z5 k k0 k1).1, fun _ => rfl⟩
    · intro d k d0 d1; rw [t4, e52] at d1; exact absurd d1 (by omega)
    · intro k k0 k1; rw [t112]; exact e8 k k0 k1
    · intro _ x y y0 y1 x1
      rw [t112 y, (e53 y y0 (by omega)).2, tb_zero]
      exact z4 _ (by omega) (by omega)
  · intro d j f w
    unfold kP at f
    exact same d j w (by omega) (by omega) (by omega)
theorem fc_meet (h : kIN N q m) (hN : N ≤ 1000) : kFq M_X11_meet M_X12_meet [.inl o] N N q c s m := by
  intro Q1 Q2
  have hi := h
  obtain ⟨h0, P, hq, hp⟩ := h
  have f1 := h0.1.1
  have f4 := h0.2.2.2.1.1
  have e1 := h0.2.2.2.2.2.2.2.1.1
  by_cases on : m 100 0 = -1
  case neg =>
    have e80 : m 123 80 = 1 := e1.2.trans (if_neg on)
    refine ⟨.inl (-1), q, m, km_up m 123 2 0, ?_, ?_, rfl, kIN_t hi⟩
    · rw [e_X11_meet]
      simp (config := { decide := true }) (disch := first | decide | assumption | omega | (simp (config := { decide := true }) only [km_sr_sf, km_sr_of, km_up_of, km_up_o, km_upx_i, km_upx_s, km_fl2_o, ne_eq, not_true_eq_false, not_false_eq_true] <;> omega) | fail) only [g_X11_meet, r_isOn, on, ka_lt, ka_le, ka_nlt, ka_nle, ka_ne, ka_eq, Int.add_sub_cancel, true_or, or_true, false_or, or_false, false_and, and_false, if_true, if_false, ka_lo, ka_hi, ka_nn, km_sr_sf, km_sr_of, km_up_of, km_sr_us, km_sr_uo, km_sr_sr, km_sr_fl, km_sr_flo, km_up_up, km_up_lt, km_lay, km_unL, km_up_o, km_upx_i, km_upx_s, km_fl2_o, km_is, Option.some.injEq, Sum.inl.injEq, Sum.inr.injEq, Option.toList_some, Option.toList_none, List.cons_append, List.nil_append, ne_eq, true_and, and_true, and_self, not_true_eq_false, not_false_eq_true, true_implies, false_implies, reduceCtorEq]
    · rw [e_X12_meet]
      simp (config := { decide := true }) (disch := first | decide | assumption | omega | (simp (config := { decide := true }) only [km_sr_sf, km_sr_of, km_up_of, km_up_o, km_upx_i, km_upx_s, km_fl2_o, ne_eq, not_true_eq_false, not_false_eq_true] <;> omega) | fail) only [g_X12_meet, e80, ka_lt, ka_le, ka_nlt, ka_nle, ka_ne, ka_eq, Int.add_sub_cancel, true_or, or_true, false_or, or_false, false_and, and_false, if_true, if_false, ka_lo, ka_hi, ka_nn, km_sr_sf, km_sr_of, km_up_of, km_sr_us, km_sr_uo, km_sr_sr, km_sr_fl, km_sr_flo, km_up_up, km_up_lt, km_lay, km_unL, km_up_o, km_upx_i, km_upx_s, km_fl2_o, km_is, Option.some.injEq, Sum.inl.injEq, Sum.inr.injEq, Option.toList_some, Option.toList_none, List.cons_append, List.nil_append, ne_eq, true_and, and_true, and_self, not_true_eq_false, not_false_eq_true, true_implies, false_implies, reduceCtorEq]
  have e80 : m 123 80 = 0 := e1.2.trans (if_pos on)
  by_cases o1 : o = -1
  · subst o1
    obtain ⟨p, b, q', X, ⟨cp, cb⟩, ⟨hq', zX⟩, e2⟩ := @km_pick (fun Q => km_E M_X11_choice [.inr (.inr 0)] (km_A0 q c s) m Q) (fun q' X' => (kQo q' P ∧ q'.1 = q.1) ∧ kZ m X') (fun p b => some (.inl (kCh m p b (m 19 1).toNat 0 (-1, 0)).1)) (fun q' => km_A0 q' c s) (fun p b => by
      obtain ⟨q', X', u1, u2, u3⟩ := @c_choice q c s m N p b P h0 hN hp hq
      exact ⟨q', X', ⟨u1, u2⟩, u3⟩)
    have cb2 := @kCh_b m p b (m 19 1).toNat 0 (-1, 0) (Int.le_refl _) ⟨by decide, by decide⟩
    obtain ⟨a, da⟩ : ∃ a : Int, a = (kCh m p b (m 19 1).toNat 0 (-1, 0)).1 := ⟨_, rfl⟩
    rw [← da] at cb2 e2
    have X19 : X 19 1 = m 19 1 := zX.1 19 1 (by unfold kJ; omega)
    by_cases an : a = -1
    · have an0 : ¬ 0 ≤ a := by omega
      have y0 := @kRy_0 m X zX
      rw [cp, cb] at y0
      obtain ⟨o2, Z, w1, w2⟩ := @m_choice q' c s m X (km_up X 123 2 0) N (X 123 55) p b P h0 hN hp y0
      rw [← da] at w2
      subst an
      refine ⟨.inl (-1), q', X, Z, ?_, ?_, hq'.2, kIN_fin hi hq zX w1 hq'.1⟩
      · rw [e_X11_meet]
        simp (config := { decide := true }) (disch := first | decide | assumption | omega | (simp (config := { decide := true }) only [km_sr_sf, km_sr_of, km_up_of, km_up_o, km_upx_i, km_upx_s, km_fl2_o, ne_eq, not_true_eq_false, not_false_eq_true] <;> omega) | fail) only [g_X11_meet, r_isOn, on, e2, r_ohas, ka_lt, ka_le, ka_nlt, ka_nle, ka_ne, ka_eq, Int.add_sub_cancel, true_or, or_true, false_or, or_false, false_and, and_false, if_true, if_false, ka_lo, ka_hi, ka_nn, km_sr_sf, km_sr_of, km_up_of, km_sr_us, km_sr_uo, km_sr_sr, km_sr_fl, km_sr_flo, km_up_up, km_up_lt, km_lay, km_unL, km_up_o, km_upx_i, km_upx_s, km_fl2_o, km_is, Option.some.injEq, Sum.inl.injEq, Sum.inr.injEq, Option.toList_some, Option.toList_none, List.cons_append, List.nil_append, ne_eq, true_and, and_true, and_self, not_true_eq_false, not_false_eq_true, true_implies, false_implies, reduceCtorEq]
      · have X80 : X 123 80 = 0 := (zX.1 123 80 (by unfold kJ; omega)).trans e80
        rw [e_X12_meet]
        simp (config := { decide := true }) (disch := first | decide | assumption | omega | (simp (config := { decide := true }) only [km_sr_sf, km_sr_of, km_up_of, km_up_o, km_upx_i, km_upx_s, km_fl2_o, ne_eq, not_true_eq_false, not_false_eq_true] <;> omega) | fail) only [g_X12_meet, X80, w2, ka_lt, ka_le, ka_nlt, ka_nle, ka_ne, ka_eq, Int.add_sub_cancel, true_or, or_true, false_or, or_false, false_and, and_false, if_true, if_false, ka_lo, ka_hi, ka_nn, km_sr_sf, km_sr_of, km_up_of, km_sr_us, km_sr_uo, km_sr_sr, km_sr_fl, km_sr_flo, km_up_up, km_up_lt, km_lay, km_unL, km_up_o, km_upx_i, km_upx_s, km_fl2_o, km_is, Option.some.injEq, Sum.inl.injEq, Sum.inr.injEq, Option.toList_some, Option.toList_none, List.cons_append, List.nil_append, ne_eq, true_and, and_true, and_self, not_true_eq_false, not_false_eq_true, true_implies, false_implies, reduceCtorEq]
    · have a0 : 0 ≤ a := by omega
      have a1 : a < m 19 1 := by omega
      obtain ⟨C, c1, c2, c3, c4, c5⟩ := @c_meet q' c s m X N (-1) a h0 zX.1 zX.2.1 ⟨a0, a1⟩
      have y0 : kRy m C (C 123 55) p b (km_up C 123 2 0) := ⟨fun d j h1 h2 => by rw [km_up_ne (fun w => h2 (by unfold kJ; omega)), c3 d j h1]; exact zX.1 d j h2, fun d j hd => km_up_ne (by omega), km_up_ne (by omega), by rw [km_up_ne (by omega), c3 _ _ (by decide)]; exact cp, by rw [km_up_ne (by omega), c3 _ _ (by decide)]; exact cb⟩
      obtain ⟨o2, W, w1, w2⟩ := @m_choice q' c s m C (km_up C 123 2 0) N (C 123 55) p b P h0 hN hp y0
      rw [← da] at w2
      obtain ⟨Z, v1, v2⟩ := @m_meet q' c s m W N (-1) a h0 w1.1 ⟨a0, a1⟩
      have fin := kMt_fin h0 on ⟨a0, a1⟩ c1 c2 c4 (fun d j hd => w1.2.1 d j (Or.inl hd)) v1
      have C80 : C 123 80 = 0 := by rw [c3 _ _ (by decide)]; exact (zX.1 123 80 (by unfold kJ; omega)).trans e80
      refine ⟨.inl (kcnt (kC m a) (m 5 1).toNat), q', C, Z, ?_, ?_, hq'.2, fin.1, P, hq'.1, kIp_eq hq'.1.1 hp fin.2⟩
      · rw [← c5 Q1, e_X11_meet]
        simp (config := { decide := true }) (disch := first | decide | assumption | omega | (simp (config := { decide := true }) only [km_sr_sf, km_sr_of, km_up_of, km_up_o, km_upx_i, km_upx_s, km_fl2_o, ne_eq, not_true_eq_false, not_false_eq_true] <;> omega) | fail) only [g_X11_meet, r_isOn, on, e2, ka_lt, ka_le, ka_nlt, ka_nle, ka_ne, ka_eq, Int.add_sub_cancel, true_or, or_true, false_or, or_false, false_and, and_false, if_true, if_false, ka_lo, ka_hi, ka_nn, km_sr_sf, km_sr_of, km_up_of, km_sr_us, km_sr_uo, km_sr_sr, km_sr_fl, km_sr_flo, km_up_up, km_up_lt, km_lay, km_unL, km_up_o, km_upx_i, km_upx_s, km_fl2_o, km_is, Option.some.injEq, Sum.inl.injEq, Sum.inr.injEq, Option.toList_some, Option.toList_none, List.cons_append, List.nil_append, ne_eq, true_and, and_true, and_self, not_true_eq_false, not_false_eq_true, true_implies, false_implies, reduceCtorEq]
      · rw [← v2 Q2, e_X12_meet]
        simp (config := { decide := true }) (disch := first | decide | assumption | omega | (simp (config := { decide := true }) only [km_sr_sf, km_sr_of, km_up_of, km_up_o, km_upx_i, km_upx_s, km_fl2_o, ne_eq, not_true_eq_false, not_false_eq_true] <;> omega) | fail) only [↓v2, g_X12_meet, C80, w2, a0, ka_lt, ka_le, ka_nlt, ka_nle, ka_ne, ka_eq, Int.add_sub_cancel, true_or, or_true, false_or, or_false, false_and, and_false, if_true, if_false, ka_lo, ka_hi, ka_nn, km_sr_sf, km_sr_of, km_up_of, km_sr_us, km_sr_uo, km_sr_sr, km_sr_fl, km_sr_flo, km_up_up, km_up_lt, km_lay, km_unL, km_up_o, km_upx_i, km_upx_s, km_fl2_o, km_is, Option.some.injEq, Sum.inl.injEq, Sum.inr.injEq, Option.toList_some, Option.toList_none, List.cons_append, List.nil_append, ne_eq, true_and, and_true, and_self, not_true_eq_false, not_false_eq_true, true_implies, false_implies, reduceCtorEq]
  · by_cases v : 0 ≤ o ∧ o < m 19 1
    · obtain ⟨C, c1, c2, c3, c4, c5⟩ := @c_meet q c s m m N o o h0 km_jk_rf rfl v
      have j0 : kMj m (km_up C 123 2 0) := fun d j h1 h2 => by rw [km_up_ne (fun w => h2 (by unfold kJ; omega)), c3 d j h1]
      obtain ⟨Z, v1, v2⟩ := @m_meet q c s m (km_up C 123 2 0) N o o h0 j0 v
      have fin := kMt_fin h0 on v c1 c2 c4 (fun d j hd => km_up_ne (by omega)) v1
      have C80 : C 123 80 = 0 := by rw [c3 _ _ (by decide)]; exact e80
      have C63 : C 123 63 = m 19 1 := by rw [c3 _ _ (by decide)]; exact f4.2.2
      refine ⟨.inl (kcnt (kC m o) (m 5 1).toNat), q, C, Z, ?_, ?_, rfl, fin.1, P, hq, kIp_eq hq.1 hp fin.2⟩
      · rw [← c5 Q1, e_X11_meet]
        simp (config := { decide := true }) (disch := first | decide | assumption | omega | (simp (config := { decide := true }) only [km_sr_sf, km_sr_of, km_up_of, km_up_o, km_upx_i, km_upx_s, km_fl2_o, ne_eq, not_true_eq_false, not_false_eq_true] <;> omega) | fail) only [g_X11_meet, r_isOn, on, o1, ka_lt, ka_le, ka_nlt, ka_nle, ka_ne, ka_eq, Int.add_sub_cancel, true_or, or_true, false_or, or_false, false_and, and_false, if_true, if_false, ka_lo, ka_hi, ka_nn, km_sr_sf, km_sr_of, km_up_of, km_sr_us, km_sr_uo, km_sr_sr, km_sr_fl, km_sr_flo, km_up_up, km_up_lt, km_lay, km_unL, km_up_o, km_upx_i, km_upx_s, km_fl2_o, km_is, Option.some.injEq, Sum.inl.injEq, Sum.inr.injEq, Option.toList_some, Option.toList_none, List.cons_append, List.nil_append, ne_eq, true_and, and_true, and_self, not_true_eq_false, not_false_eq_true, true_implies, false_implies, reduceCtorEq]
      · rw [← v2 Q2, e_X12_meet]
        simp (config := { decide := true }) (disch := first | decide | assumption | omega | (simp (config := { decide := true }) only [km_sr_sf, km_sr_of, km_up_of, km_up_o, km_upx_i, km_upx_s, km_fl2_o, ne_eq, not_true_eq_false, not_false_eq_true] <;> omega) | fail) only [↓v2, g_X12_meet, C80, o1, r_mopt, C63, v, ka_lt, ka_le, ka_nlt, ka_nle, ka_ne, ka_eq, Int.add_sub_cancel, true_or, or_true, false_or, or_false, false_and, and_false, if_true, if_false, ka_lo, ka_hi, ka_nn, km_sr_sf, km_sr_of, km_up_of, km_sr_us, km_sr_uo, km_sr_sr, km_sr_fl, km_sr_flo, km_up_up, km_up_lt, km_lay, km_unL, km_up_o, km_upx_i, km_upx_s, km_fl2_o, km_is, Option.some.injEq, Sum.inl.injEq, Sum.inr.injEq, Option.toList_some, Option.toList_none, List.cons_append, List.nil_append, ne_eq, true_and, and_true, and_self, not_true_eq_false, not_false_eq_true, true_implies, false_implies, reduceCtorEq]
    · refine ⟨.inl (-1), q, m, km_up m 123 2 0, ?_, ?_, rfl, kIN_t hi⟩
      · rw [e_X11_meet]
        simp (config := { decide := true }) (disch := first | decide | assumption | omega | (simp (config := { decide := true }) only [km_sr_sf, km_sr_of, km_up_of, km_up_o, km_upx_i, km_upx_s, km_fl2_o, ne_eq, not_true_eq_false, not_false_eq_true] <;> omega) | fail) only [g_X11_meet, r_isOn, on, o1, r_ohas, v, ka_lt, ka_le, ka_nlt, ka_nle, ka_ne, ka_eq, Int.add_sub_cancel, true_or, or_true, false_or, or_false, false_and, and_false, if_true, if_false, ka_lo, ka_hi, ka_nn, km_sr_sf, km_sr_of, km_up_of, km_sr_us, km_sr_uo, km_sr_sr, km_sr_fl, km_sr_flo, km_up_up, km_up_lt, km_lay, km_unL, km_up_o, km_upx_i, km_upx_s, km_fl2_o, km_is, Option.some.injEq, Sum.inl.injEq, Sum.inr.injEq, Option.toList_some, Option.toList_none, List.cons_append, List.nil_append, ne_eq, true_and, and_true, and_self, not_true_eq_false, not_false_eq_true, true_implies, false_implies, reduceCtorEq]
      · rw [e_X12_meet]
        simp (config := { decide := true }) (disch := first | decide | assumption | omega | (simp (config := { decide := true }) only [km_sr_sf, km_sr_of, km_up_of, km_up_o, km_upx_i, km_upx_s, km_fl2_o, ne_eq, not_true_eq_false, not_false_eq_true] <;> omega) | fail) only [g_X12_meet, e80, o1, r_mopt, f4.2.2, v, ka_lt, ka_le, ka_nlt, ka_nle, ka_ne, ka_eq, Int.add_sub_cancel, true_or, or_true, false_or, or_false, false_and, and_false, if_true, if_false, ka_lo, ka_hi, ka_nn, km_sr_sf, km_sr_of, km_up_of, km_sr_us, km_sr_uo, km_sr_sr, km_sr_fl, km_sr_flo, km_up_up, km_up_lt, km_lay, km_unL, km_up_o, km_upx_i, km_upx_s, km_fl2_o, km_is, Option.some.injEq, Sum.inl.injEq, Sum.inr.injEq, Option.toList_some, Option.toList_none, List.cons_append, List.nil_append, ne_eq, true_and, and_true, and_self, not_true_eq_false, not_false_eq_true, true_implies, false_implies, reduceCtorEq]
end FM

