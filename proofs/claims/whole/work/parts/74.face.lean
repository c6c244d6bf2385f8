/-! ===== the face: guest, option, kin, fault ===== -/

theorem kI_fresh_b {m mm : km_Mm} {n : Int} (hb : kI_book m) (hk : ∀ b j : Int, fB b j → mm b j = m b j) (n0 : 0 ≤ n) (n1 : n ≤ m 5 3) : kI_fresh m (kq_m1 mm n) n := by
  have e126 : mm 126 = m 126 := funext fun j => hk 126 j (by unfold fB; omega)
  have e127 : mm 127 = m 127 := funext fun j => hk 127 j (by unfold fB; omega)
  have e128 : mm 128 = m 128 := funext fun j => hk 128 j (by unfold fB; omega)
  have e129 : mm 129 = m 129 := funext fun j => hk 129 j (by unfold fB; omega)
  have e5 : mm 123 5 = m 123 5 := hk 123 5 (by unfold fB; omega)
  obtain ⟨c1, c2⟩ := kI_cnt hb n0 n1 (C := mm 130)
  have b3 := hb.2.2.1
  unfold kI_fresh kq_m1
  simp (config := { decide := true }) only [e126, e127, e128, e129, e5, Int.add_sub_cancel, true_or, or_true, false_or, or_false, false_and, and_false, if_true, if_false, km_sr_sf, km_sr_of, km_up_of, km_sr_us, km_sr_uo, km_sr_sr, km_sr_fl, km_sr_flo, km_up_up, km_up_lt, km_lay, km_unL, km_up_o, km_upx_i, km_upx_s, km_fl2_o, km_is, Option.some.injEq, Sum.inl.injEq, Sum.inr.injEq, Option.toList_some, Option.toList_none, List.cons_append, List.nil_append, ne_eq, true_and, and_true, and_self, not_true_eq_false, not_false_eq_true, true_implies, false_implies, reduceCtorEq]
  exact ⟨⟨n0, n1⟩, b3.2.2, c1, c2⟩
theorem md_livesB {q : Nat × Int × Int × Int × Int} {c s : Nat} {m mm : km_Mm} {a : Int} (hb : kI_book m) (hk : ∀ b j : Int, fB b j → mm b j = m b j) (ha : 0 ≤ a ∧ a < 10) :
    ∃ g : Int → Int, ∀ Q : Option km_V → km_Al → km_Mm → Prop, (km_E M_X12_lives [.inr (.inr 123), .inl a] (km_A0 q c s) mm Q ↔ Q (some (.inl (@ite Int (kA m a) (Classical.propDecidable _) 1 0))) (km_A0 q c s) (km_sr mm 130 g)) := by
  obtain ⟨b1, b2, b3, b4, b5, b6⟩ := id hb
  have E11 : mm 123 11 = m 5 2 := (hk 123 11 (by unfold fB; omega)).trans b2.2.2
  have E5 : mm 123 5 = m 5 3 := (hk 123 5 (by unfold fB; omega)).trans b3.2.2
  have e127 : mm 127 = m 127 := funext fun j => hk 127 j (by unfold fB; omega)
  have rk := fun Q => @r_know q c s (m 5 3) mm ⟨b3.1, b3.2.1⟩ (by intro i i0 i1; rw [e127]; exact (b5 i i0 i1).1) Q
  have fr := kI_fresh_b hb hk b3.1 (Int.le_refl _)
  refine ⟨kq_kn (mm 126) (mm 127) (m 5 3).toNat (kq_k0 (m 5 3) (mm 130) 0), fun Q => ?_⟩
  have fr2 : kI_fresh m (km_sr mm 130 (kq_kn (mm 126) (mm 127) (m 5 3).toNat (kq_k0 (m 5 3) (mm 130) 0))) (m 5 3) := by
    unfold kI_fresh kq_m1 at *
    simp (config := { decide := true }) only [Int.add_sub_cancel, true_or, or_true, false_or, or_false, false_and, and_false, if_true, if_false, km_sr_sf, km_sr_of, km_up_of, km_sr_us, km_sr_uo, km_sr_sr, km_sr_fl, km_sr_flo, km_up_up, km_up_lt, km_lay, km_unL, km_up_o, km_upx_i, km_upx_s, km_fl2_o, km_is, Option.some.injEq, Sum.inl.injEq, Sum.inr.injEq, Option.toList_some, Option.toList_none, List.cons_append, List.nil_append, ne_eq, true_and, and_true, and_self, not_true_eq_false, not_false_eq_true, true_implies, false_implies, reduceCtorEq] at fr
    simp (config := { decide := true }) only [Int.add_sub_cancel, true_or, or_true, false_or, or_false, false_and, and_false, if_true, if_false, km_sr_sf, km_sr_of, km_up_of, km_sr_us, km_sr_uo, km_sr_sr, km_sr_fl, km_sr_flo, km_up_up, km_up_lt, km_lay, km_unL, km_up_o, km_upx_i, km_upx_s, km_fl2_o, km_is, Option.some.injEq, Sum.inl.injEq, Sum.inr.injEq, Option.toList_some, Option.toList_none, List.cons_append, List.nil_append, ne_eq, true_and, and_true, and_self, not_true_eq_false, not_false_eq_true, true_implies, false_implies, reduceCtorEq]
    exact fr
  have k1 := (kI_al hb fr2 ha b2.1).1
  have l1 := fun Q => @r_misAlive q c s (km_sr mm 130 (kq_kn (mm 126) (mm 127) (m 5 3).toNat (kq_k0 (m 5 3) (mm 130) 0))) a (m 5 2) (by simp (config := { decide := true }) only [Int.add_sub_cancel, true_or, or_true, false_or, or_false, false_and, and_false, if_true, if_false, km_sr_sf, km_sr_of, km_up_of, km_sr_us, km_sr_uo, km_sr_sr, km_sr_fl, km_sr_flo, km_up_up, km_up_lt, km_lay, km_unL, km_up_o, km_upx_i, km_upx_s, km_fl2_o, km_is, Option.some.injEq, Sum.inl.injEq, Sum.inr.injEq, Option.toList_some, Option.toList_none, List.cons_append, List.nil_append, ne_eq, true_and, and_true, and_self, not_true_eq_false, not_false_eq_true, true_implies, false_implies, reduceCtorEq]; omega) Q
  rw [e_X12_lives]
  simp (config := { decide := true }) only [g_X12_lives, E5, E11, rk, l1, Int.add_sub_cancel, true_or, or_true, false_or, or_false, false_and, and_false, if_true, if_false, km_sr_sf, km_sr_of, km_up_of, km_sr_us, km_sr_uo, km_sr_sr, km_sr_fl, km_sr_flo, km_up_up, km_up_lt, km_lay, km_unL, km_up_o, km_upx_i, km_upx_s, km_fl2_o, km_is, Option.some.injEq, Sum.inl.injEq, Sum.inr.injEq, Option.toList_some, Option.toList_none, List.cons_append, List.nil_append, ne_eq, true_and, and_true, and_self, not_true_eq_false, not_false_eq_true, true_implies, false_implies, reduceCtorEq]
  unfold kA
  by_cases z : kL m (m 5 3) a (m 5 2)
  · have z2 := k1.mpr z
    simp (config := { decide := true }) only [z, z2, Int.add_sub_cancel, true_or, or_true, false_or, or_false, false_and, and_false, if_true, if_false, km_sr_sf, km_sr_of, km_up_of, km_sr_us, km_sr_uo, km_sr_sr, km_sr_fl, km_sr_flo, km_up_up, km_up_lt, km_lay, km_unL, km_up_o, km_upx_i, km_upx_s, km_fl2_o, km_is, Option.some.injEq, Sum.inl.injEq, Sum.inr.injEq, Option.toList_some, Option.toList_none, List.cons_append, List.nil_append, ne_eq, true_and, and_true, and_self, not_true_eq_false, not_false_eq_true, true_implies, false_implies, reduceCtorEq]
  · have z2 : ¬ kq_al (km_sr mm 130 (kq_kn (mm 126) (mm 127) (m 5 3).toNat (kq_k0 (m 5 3) (mm 130) 0))) a (m 5 2) := fun w => z (k1.mp w)
    simp (config := { decide := true }) only [z, z2, Int.add_sub_cancel, true_or, or_true, false_or, or_false, false_and, and_false, if_true, if_false, km_sr_sf, km_sr_of, km_up_of, km_sr_us, km_sr_uo, km_sr_sr, km_sr_fl, km_sr_flo, km_up_up, km_up_lt, km_lay, km_unL, km_up_o, km_upx_i, km_upx_s, km_fl2_o, km_is, Option.some.injEq, Sum.inl.injEq, Sum.inr.injEq, Option.toList_some, Option.toList_none, List.cons_append, List.nil_append, ne_eq, true_and, and_true, and_self, not_true_eq_false, not_false_eq_true, true_implies, false_implies, reduceCtorEq]

theorem fc_guest {N : Int} {q : Nat × Int × Int × Int × Int} {c s : Nat} {m : km_Mm} (h : kI0 N m) {k t : Int} (ht : t = 0 ∨ t = 1) : kF M_X11_guest M_X12_guest [.inl k, .inl t] N q c s m := by
  intro Q1 Q2
  have hi := h
  have f1 := h.1.1
  obtain ⟨⟨a1, a1'⟩, a2, a3, a4, a5, a6, a7, a8, a9⟩ := id h.2.2.2.2.2.2.2.1
  have g1 := fun Q => @cl_isGuest q c s m k a2.2.1 Q
  have refuse : ∀ (M M2 : km_Mm), km_jk m M → M 52 = m 52 → km_jk M M2 → M2 52 = M 52 → (km_E M_X11_guest [.inr (.inr 0), .inl k, .inl t] (km_A0 q c s) m Q1 ↔ Q1 (some (.inl 0)) (km_A0 q c s) M) → (km_E M_X12_guest [.inr (.inr 123), .inl k, .inl t] (km_A0 q c s) M Q2 ↔ Q2 (some (.inl 0)) (km_A0 q c s) M2) → ∃ (v : km_V) (m1 m2 : km_Mm), (km_E M_X11_guest [.inr (.inr 0), .inl k, .inl t] (km_A0 q c s) m Q1 ↔ Q1 (some v) (km_A0 q c s) m1) ∧ (km_E M_X12_guest [.inr (.inr 123), .inl k, .inl t] (km_A0 q c s) m1 Q2 ↔ Q2 (some v) (km_A0 q c s) m2) ∧ kI0 N m2 ∧ kP_eq m m2 := by
    intro M M2 j1 j2 j3 j4 x1 x2
    refine ⟨_, M, M2, x1, x2, kI0_jk hi (j1.tr j3) ?_, kP_jk (j1.tr j3)⟩
    unfold kI_scr; rw [j4, j2]; exact hi.2.1
  have jt : ∀ M : km_Mm, km_jk M (km_up M 123 2 0) := fun M b j z => km_up_ne (fun e => z (by unfold kJ; omega))
  by_cases on : m 100 0 = -1
  case pos =>
    rw [if_pos on] at a1'
    refine refuse m _ km_jk_rf rfl (jt m) (km_up_of (by decide)) ?_ ?_
    · rw [e_X11_guest]
      simp (config := { decide := true }) (disch := first | decide | assumption | omega | (simp (config := { decide := true }) only [km_sr_sf, km_sr_of, km_up_of, km_up_o, km_upx_i, km_upx_s, km_fl2_o, ne_eq, not_true_eq_false, not_false_eq_true] <;> omega) | fail) only [g_X11_guest, r_isOn, on, Int.add_sub_cancel, true_or, or_true, false_or, or_false, false_and, and_false, if_true, if_false, ka_lo, ka_hi, ka_nn, km_sr_sf, km_sr_of, km_up_of, km_sr_us, km_sr_uo, km_sr_sr, km_sr_fl, km_sr_flo, km_up_up, km_up_lt, km_lay, km_unL, km_up_o, km_upx_i, km_upx_s, km_fl2_o, km_is, Option.some.injEq, Sum.inl.injEq, Sum.inr.injEq, Option.toList_some, Option.toList_none, List.cons_append, List.nil_append, ne_eq, true_and, and_true, and_self, not_true_eq_false, not_false_eq_true, true_implies, false_implies, reduceCtorEq]
    · rw [e_X12_guest]
      simp (config := { decide := true }) (disch := first | decide | assumption | omega | (simp (config := { decide := true }) only [km_sr_sf, km_sr_of, km_up_of, km_up_o, km_upx_i, km_upx_s, km_fl2_o, ne_eq, not_true_eq_false, not_false_eq_true] <;> omega) | fail) only [g_X12_guest, a1', Int.add_sub_cancel, true_or, or_true, false_or, or_false, false_and, and_false, if_true, if_false, ka_lo, ka_hi, ka_nn, km_sr_sf, km_sr_of, km_up_of, km_sr_us, km_sr_uo, km_sr_sr, km_sr_fl, km_sr_flo, km_up_up, km_up_lt, km_lay, km_unL, km_up_o, km_upx_i, km_upx_s, km_fl2_o, km_is, Option.some.injEq, Sum.inl.injEq, Sum.inr.injEq, Option.toList_some, Option.toList_none, List.cons_append, List.nil_append, ne_eq, true_and, and_true, and_self, not_true_eq_false, not_false_eq_true, true_implies, false_implies, reduceCtorEq]
  rw [if_neg on] at a1'
  by_cases c0 : 0 ≤ k ∧ k < m 5 1
  case neg =>
    refine refuse m _ km_jk_rf rfl (jt m) (km_up_of (by decide)) ?_ ?_
    · rw [e_X11_guest]
      simp (config := { decide := true }) (disch := first | decide | assumption | omega | (simp (config := { decide := true }) only [km_sr_sf, km_sr_of, km_up_of, km_up_o, km_upx_i, km_upx_s, km_fl2_o, ne_eq, not_true_eq_false, not_false_eq_true] <;> omega) | fail) only [g_X11_guest, r_isOn, on, r_isKin, c0, Int.add_sub_cancel, true_or, or_true, false_or, or_false, false_and, and_false, if_true, if_false, ka_lo, ka_hi, ka_nn, km_sr_sf, km_sr_of, km_up_of, km_sr_us, km_sr_uo, km_sr_sr, km_sr_fl, km_sr_flo, km_up_up, km_up_lt, km_lay, km_unL, km_up_o, km_upx_i, km_upx_s, km_fl2_o, km_is, Option.some.injEq, Sum.inl.injEq, Sum.inr.injEq, Option.toList_some, Option.toList_none, List.cons_append, List.nil_append, ne_eq, true_and, and_true, and_self, not_true_eq_false, not_false_eq_true, true_implies, false_implies, reduceCtorEq]
    · rw [e_X12_guest]
      simp (config := { decide := true }) (disch := first | decide | assumption | omega | (simp (config := { decide := true }) only [km_sr_sf, km_sr_of, km_up_of, km_up_o, km_upx_i, km_upx_s, km_fl2_o, ne_eq, not_true_eq_false, not_false_eq_true] <;> omega) | fail) only [g_X12_guest, a1', r_misKin, f1.2.2, c0, Int.add_sub_cancel, true_or, or_true, false_or, or_false, false_and, and_false, if_true, if_false, ka_lo, ka_hi, ka_nn, km_sr_sf, km_sr_of, km_up_of, km_sr_us, km_sr_uo, km_sr_sr, km_sr_fl, km_sr_flo, km_up_up, km_up_lt, km_lay, km_unL, km_up_o, km_upx_i, km_upx_s, km_fl2_o, km_is, Option.some.injEq, Sum.inl.injEq, Sum.inr.injEq, Option.toList_some, Option.toList_none, List.cons_append, List.nil_append, ne_eq, true_and, and_true, and_self, not_true_eq_false, not_false_eq_true, true_implies, false_implies, reduceCtorEq]
  have k10 : k < 10 := by omega
  have g2 := fun Q => @md_isGuest q c s m (km_up m 123 2 0) k hi.2.2.2.2.2.2.2.1 f1.2.1 (km_up_ne (by omega)) (km_up_ne (by omega)) ((km_up_ne (by omega)).trans f1.2.2) Q
  by_cases c1 : @ite Int (kG m k) (Classical.propDecidable _) 1 0 = t
  case pos =>
    refine refuse m _ km_jk_rf rfl (jt m) (km_up_of (by decide)) ?_ ?_
    · rw [e_X11_guest]
      simp (config := { decide := true }) (disch := first | decide | assumption | omega | (simp (config := { decide := true }) only [km_sr_sf, km_sr_of, km_up_of, km_up_o, km_upx_i, km_upx_s, km_fl2_o, ne_eq, not_true_eq_false, not_false_eq_true] <;> omega) | fail) only [g_X11_guest, r_isOn, on, r_isKin, c0, g1, c1, Int.add_sub_cancel, true_or, or_true, false_or, or_false, false_and, and_false, if_true, if_false, ka_lo, ka_hi, ka_nn, km_sr_sf, km_sr_of, km_up_of, km_sr_us, km_sr_uo, km_sr_sr, km_sr_fl, km_sr_flo, km_up_up, km_up_lt, km_lay, km_unL, km_up_o, km_upx_i, km_upx_s, km_fl2_o, km_is, Option.some.injEq, Sum.inl.injEq, Sum.inr.injEq, Option.toList_some, Option.toList_none, List.cons_append, List.nil_append, ne_eq, true_and, and_true, and_self, not_true_eq_false, not_false_eq_true, true_implies, false_implies, reduceCtorEq]
    · rw [e_X12_guest]
      simp (config := { decide := true }) (disch := first | decide | assumption | omega | (simp (config := { decide := true }) only [km_sr_sf, km_sr_of, km_up_of, km_up_o, km_upx_i, km_upx_s, km_fl2_o, ne_eq, not_true_eq_false, not_false_eq_true] <;> omega) | fail) only [g_X12_guest, a1', r_misKin, f1.2.2, c0, g2, c1, Int.add_sub_cancel, true_or, or_true, false_or, or_false, false_and, and_false, if_true, if_false, ka_lo, ka_hi, ka_nn, km_sr_sf, km_sr_of, km_up_of, km_sr_us, km_sr_uo, km_sr_sr, km_sr_fl, km_sr_flo, km_up_up, km_up_lt, km_lay, km_unL, km_up_o, km_upx_i, km_upx_s, km_fl2_o, km_is, Option.some.injEq, Sum.inl.injEq, Sum.inr.injEq, Option.toList_some, Option.toList_none, List.cons_append, List.nil_append, ne_eq, true_and, and_true, and_self, not_true_eq_false, not_false_eq_true, true_implies, false_implies, reduceCtorEq]
  obtain ⟨M, jM, rM, nM, eM⟩ := @cl_now q c s m hi.1
  have iM := kI0_jk hi jM (by unfold kI_scr; rw [rM]; exact hi.2.1)
  have M3 : M 123 3 = m 5 1 := (jM 123 3 (by unfold kJ; omega)).trans f1.2.2
  have M80 : M 123 80 = 1 := (jM 123 80 (by unfold kJ; omega)).trans a1'
  have M82 : M 123 82 = m 123 82 := jM 123 82 (by unfold kJ; omega)
  have M170 : M 170 k = m 101 k := (jM 170 k (kJ_no (by decide))).trans ((a4 k c0.1 k10).2.1 c0.2)
  have M101 : M 101 = m 101 := funext fun j => jM 101 j (kJ_no (by decide))
  have M100 : M 100 1 = m 100 1 := jM 100 1 (kJ_no (by decide))
  have g3 := fun Q => @md_isGuest q c s m (km_up M 123 2 0) k hi.2.2.2.2.2.2.2.1 f1.2.1 ((km_up_ne (by omega)).trans (jM 123 80 (by unfold kJ; omega))) ((km_up_ne (by omega)).trans M82) ((km_up_ne (by omega)).trans M3) Q
  have al := fun Q => @cl_isAlive q c s m M k nM c0 f1.2.1 Q
  obtain ⟨gg, lv⟩ := @md_lives q c s m (km_up M 123 2 0) k hi.1 (jM.tr (jt M)) ⟨c0.1, k10⟩
  have kAe : kL m (m 5 3) k (m 5 2) = kA m k := rfl
  rw [kAe] at lv
  have jt2 : km_jk M (km_sr (km_up M 123 2 0) 130 gg) := (jt M).tr (fun b j z => km_sr_o (fun e => z (by unfold kJ; omega)))
  have r52 : km_sr (km_up M 123 2 0) 130 gg 52 = M 52 := by rw [km_sr_of (by decide), km_up_of (by decide)]
  have bits : ∀ x : Int, 0 ≤ x → tb (km_xor (m 100 1) (km_shl 1 k)) x = (tb (m 100 1) x ^^ decide (x = k)) := fun x x0 => by
    have t1 := ten_one c0.1 k10
    rw [tb_xor a2.2.1.1 (by have := a2.2.1.2; omega) t1.1 (by have := t1.2; omega), tb_one c0.1 (by omega) x0]
  have accept : ∀ M2 : km_Mm, (∀ b j : Int, ¬ kJ b j → M2 b j = km_up (km_up M 100 1 (km_xor (m 100 1) (km_shl 1 k))) 123 82 (km_xor (m 100 1) (km_shl 1 k)) b j) → M2 52 = M 52 → (t = 0 → m 101 k = 0) → kI0 N M2 ∧ kP_eq m M2 := by
    intro M2 j3 j4 hp
    have hw : kI0 N (km_up (km_up M 100 1 (km_xor (m 100 1) (km_shl 1 k))) 123 82 (km_xor (m 100 1) (km_shl 1 k))) := by
      obtain ⟨hB, hR, hT, hO, hM, hF, hH, hE, hS, hA⟩ := iM
      refine ⟨kB_cg hB (by intro b j z; unfold fB at z; simp (disch := omega) only [km_up_ne, km_fl2_ne, km_sr_ne]), kR_cg hR (by intro b j z; unfold fR at z; simp (disch := omega) only [km_up_ne, km_fl2_ne, km_sr_ne]), kT_cg hT (by intro b j z; unfold fT at z; simp (disch := omega) only [km_up_ne, km_fl2_ne, km_sr_ne]), kO_cg hO (by intro b j z; unfold fO at z; simp (disch := omega) only [km_up_ne, km_fl2_ne, km_sr_ne]), kM_cg hM (by intro b j z; unfold fM at z; simp (disch := omega) only [km_up_ne, km_fl2_ne, km_sr_ne]), kF_cg hF (by intro b j z; unfold fF at z; simp (disch := omega) only [km_up_ne, km_fl2_ne, km_sr_ne]), kH_cg hH (by intro b j z; unfold fH at z; simp (disch := omega) only [km_up_ne, km_fl2_ne, km_sr_ne]), ?_, kS_cg hS (by intro b j z; unfold fS at z; simp (disch := omega) only [km_up_ne, km_fl2_ne, km_sr_ne]), kA_cg hA (by intro b j z; unfold fA at z; simp (disch := omega) only [km_up_ne, km_fl2_ne, km_sr_ne])⟩
      obtain ⟨e1, e2, e3, e4, e5, e6, e7, e8, e9⟩ := hE
      have M51 : M 5 1 = m 5 1 := jM 5 1 (by unfold kJ; omega)
      have M1000 : M 100 0 = m 100 0 := jM 100 0 (kJ_no (by decide))
      refine ⟨?_, ?_, ?_, ?_, ?_, ?_, ?_, ?_, ?_⟩
      · simp (disch := omega) only [km_up_ne, km_up_eq, km_fl2_ne, km_fl2_eq, km_sr_ne, and_true, true_and, implies_true]; exact e1
      · simp (disch := omega) only [km_up_ne, km_up_eq, km_fl2_ne, km_fl2_eq, km_sr_ne, and_true, true_and, implies_true]
        refine ⟨ten_xor a2.2.1 (ten_one c0.1 k10), fun x x0 x1 => ?_⟩
        rw [M51] at x0
        rw [bits x (by omega), a2.2.2 x x0 x1]
        have : ¬ x = k := by omega
        simp [this]
      · simp (disch := omega) only [km_up_ne, km_up_eq, km_fl2_ne, km_fl2_eq, km_sr_ne, and_true, true_and, implies_true]; exact e3
      · intro x x0 x1
        have := e4 x x0 x1
        simp (disch := omega) only [km_up_ne, km_up_eq, km_fl2_ne, km_fl2_eq, km_sr_ne, and_true, true_and, implies_true]
        refine ⟨this.1, this.2.1, fun w => ?_⟩
        rw [bits x x0] at w
        by_cases ex : x = k
        · subst ex
          rw [M101]
          refine hp ?_
          rcases ht with ht | ht
          · exact ht
          · exfalso
            subst ht
            apply c1
            rw [if_pos]
            refine ⟨x0, x1, ?_⟩
            cases e : tb (m 100 1) x
            · rw [e] at w; simp at w
            · rfl
        · simp only [ex, decide_false, Bool.xor_false] at w
          rw [← M100] at w
          exact this.2.2 w
      · simp (disch := omega) only [km_up_ne, km_up_eq, km_fl2_ne, km_fl2_eq, km_sr_ne, and_true, true_and, implies_true]; intro w; exact absurd (M1000.symm.trans w) on
      · simp (disch := omega) only [km_up_ne, km_up_eq, km_fl2_ne, km_fl2_eq, km_sr_ne, and_true, true_and, implies_true]; exact e6
      · intro d x d0 d1 x0 x1; simp (disch := omega) only [km_up_ne] at d1; have := e7 d x d0 d1 x0 x1; simp (disch := omega) only [km_up_ne, km_up_eq, km_fl2_ne, km_fl2_eq, km_sr_ne, and_true, true_and, implies_true]; exact this
      · simp (disch := omega) only [km_up_ne, km_up_eq, km_fl2_ne, km_fl2_eq, km_sr_ne, and_true, true_and, implies_true]; exact e8
      · simp (disch := omega) only [km_up_ne, km_up_eq, km_fl2_ne, km_fl2_eq, km_sr_ne, and_true, true_and, implies_true]; exact e9
    refine ⟨kI0_jk hw j3 ?_, fun b j z1 z2 => ?_⟩
    · unfold kI_scr; rw [j4, rM]; exact hi.2.1
    · rw [j3 b j z2]
      unfold kP at z1
      rw [km_up_ne (by omega), km_up_ne (by omega), jM b j z2]
  rcases ht with ht | ht
  · subst ht
    by_cases c2 : 0 < m 101 k
    · refine refuse M _ jM rM (jt M) (km_up_of (by decide)) ?_ ?_
      · rw [e_X11_guest]
        simp (config := { decide := true }) (disch := first | decide | assumption | omega | (simp (config := { decide := true }) only [km_sr_sf, km_sr_of, km_up_of, km_up_o, km_upx_i, km_upx_s, km_fl2_o, ne_eq, not_true_eq_false, not_false_eq_true] <;> omega) | fail) only [g_X11_guest, r_isOn, on, r_isKin, c0, g1, c1, eM, M101, k10, ka_lt, ka_le, ka_nlt, ka_nle, ka_ne, ka_eq, Int.add_sub_cancel, true_or, or_true, false_or, or_false, false_and, and_false, if_true, if_false, ka_lo, ka_hi, ka_nn, km_sr_sf, km_sr_of, km_up_of, km_sr_us, km_sr_uo, km_sr_sr, km_sr_fl, km_sr_flo, km_up_up, km_up_lt, km_lay, km_unL, km_up_o, km_upx_i, km_upx_s, km_fl2_o, km_is, Option.some.injEq, Sum.inl.injEq, Sum.inr.injEq, Option.toList_some, Option.toList_none, List.cons_append, List.nil_append, ne_eq, true_and, and_true, and_self, not_true_eq_false, not_false_eq_true, true_implies, false_implies, reduceCtorEq]
      · rw [e_X12_guest]
        simp (config := { decide := true }) (disch := first | decide | assumption | omega | (simp (config := { decide := true }) only [km_sr_sf, km_sr_of, km_up_of, km_up_o, km_upx_i, km_upx_s, km_fl2_o, ne_eq, not_true_eq_false, not_false_eq_true] <;> omega) | fail) only [g_X12_guest, M80, r_misKin, M3, c0, g3, c1, M170, c2, k10, ka_lt, ka_le, ka_nlt, ka_nle, ka_ne, ka_eq, Int.add_sub_cancel, true_or, or_true, false_or, or_false, false_and, and_false, if_true, if_false, ka_lo, ka_hi, ka_nn, km_sr_sf, km_sr_of, km_up_of, km_sr_us, km_sr_uo, km_sr_sr, km_sr_fl, km_sr_flo, km_up_up, km_up_lt, km_lay, km_unL, km_up_o, km_upx_i, km_upx_s, km_fl2_o, km_is, Option.some.injEq, Sum.inl.injEq, Sum.inr.injEq, Option.toList_some, Option.toList_none, List.cons_append, List.nil_append, ne_eq, true_and, and_true, and_self, not_true_eq_false, not_false_eq_true, true_implies, false_implies, reduceCtorEq]
    · have p0 := (a4 k c0.1 k10).1.1
      have := accept (km_up (km_up (km_up M 100 1 (km_xor (m 100 1) (km_shl 1 k))) 123 2 0) 123 82 (km_xor (m 100 1) (km_shl 1 k))) (fun b j z => by
        by_cases e : b = 123 ∧ j = 82
        · rw [km_up_eq e, km_up_eq e]
        · rw [km_up_ne e, km_up_ne e, km_up_ne (fun w => z (by unfold kJ; omega))]) (by funext j; simp (disch := omega) only [km_up_ne, km_up_eq, km_fl2_ne, km_fl2_eq, km_sr_ne, and_true, true_and, implies_true]) (fun _ => by omega)
      refine ⟨.inl 1, km_up M 100 1 (km_xor (m 100 1) (km_shl 1 k)), _, ?_, ?_, this⟩
      · rw [e_X11_guest]
        simp (config := { decide := true }) (disch := first | decide | assumption | omega | (simp (config := { decide := true }) only [km_sr_sf, km_sr_of, km_up_of, km_up_o, km_upx_i, km_upx_s, km_fl2_o, ne_eq, not_true_eq_false, not_false_eq_true] <;> omega) | fail) only [g_X11_guest, r_isOn, on, r_isKin, c0, g1, c1, eM, M101, M100, k10, ka_lt, ka_le, ka_nlt, ka_nle, ka_ne, ka_eq, Int.add_sub_cancel, true_or, or_true, false_or, or_false, false_and, and_false, if_true, if_false, ka_lo, ka_hi, ka_nn, km_sr_sf, km_sr_of, km_up_of, km_sr_us, km_sr_uo, km_sr_sr, km_sr_fl, km_sr_flo, km_up_up, km_up_lt, km_lay, km_unL, km_up_o, km_upx_i, km_upx_s, km_fl2_o, km_is, Option.some.injEq, Sum.inl.injEq, Sum.inr.injEq, Option.toList_some, Option.toList_none, List.cons_append, List.nil_append, ne_eq, true_and, and_true, and_self, not_true_eq_false, not_false_eq_true, true_implies, false_implies, reduceCtorEq]
      · have g4 := fun Q => @md_isGuest q c s m (km_up (km_up M 100 1 (km_xor (m 100 1) (km_shl 1 k))) 123 2 0) k hi.2.2.2.2.2.2.2.1 f1.2.1 ((by simp (disch := omega) only [km_up_ne, km_up_eq, km_fl2_ne, km_fl2_eq, km_sr_ne, and_true, true_and, implies_true] : _ = M 123 80).trans (jM 123 80 (by unfold kJ; omega))) ((by simp (disch := omega) only [km_up_ne, km_up_eq, km_fl2_ne, km_fl2_eq, km_sr_ne, and_true, true_and, implies_true] : _ = M 123 82).trans M82) ((by simp (disch := omega) only [km_up_ne, km_up_eq, km_fl2_ne, km_fl2_eq, km_sr_ne, and_true, true_and, implies_true] : _ = M 123 3).trans M3) Q
        rw [e_X12_guest]
        simp (config := { decide := true }) (disch := first | decide | assumption | omega | (simp (config := { decide := true }) only [km_sr_sf, km_sr_of, km_up_of, km_up_o, km_upx_i, km_upx_s, km_fl2_o, ne_eq, not_true_eq_false, not_false_eq_true] <;> omega) | fail) only [g_X12_guest, M80, r_misKin, M3, c0, g4, c1, M170, c2, k10, M82, a2.1, ka_lt, ka_le, ka_nlt, ka_nle, ka_ne, ka_eq, Int.add_sub_cancel, true_or, or_true, false_or, or_false, false_and, and_false, if_true, if_false, ka_lo, ka_hi, ka_nn, km_sr_sf, km_sr_of, km_up_of, km_sr_us, km_sr_uo, km_sr_sr, km_sr_fl, km_sr_flo, km_up_up, km_up_lt, km_lay, km_unL, km_up_o, km_upx_i, km_upx_s, km_fl2_o, km_is, Option.some.injEq, Sum.inl.injEq, Sum.inr.injEq, Option.toList_some, Option.toList_none, List.cons_append, List.nil_append, ne_eq, true_and, and_true, and_self, not_true_eq_false, not_false_eq_true, true_implies, false_implies, reduceCtorEq]
  · subst ht
    by_cases c2 : kA m k
    case neg =>
      refine refuse M _ jM rM jt2 r52 ?_ ?_
      · rw [e_X11_guest]
        simp (config := { decide := true }) (disch := first | decide | assumption | omega | (simp (config := { decide := true }) only [km_sr_sf, km_sr_of, km_up_of, km_up_o, km_upx_i, km_upx_s, km_fl2_o, ne_eq, not_true_eq_false, not_false_eq_true] <;> omega) | fail) only [g_X11_guest, r_isOn, on, r_isKin, c0, g1, c1, eM, al, c2, Int.add_sub_cancel, true_or, or_true, false_or, or_false, false_and, and_false, if_true, if_false, ka_lo, ka_hi, ka_nn, km_sr_sf, km_sr_of, km_up_of, km_sr_us, km_sr_uo, km_sr_sr, km_sr_fl, km_sr_flo, km_up_up, km_up_lt, km_lay, km_unL, km_up_o, km_upx_i, km_upx_s, km_fl2_o, km_is, Option.some.injEq, Sum.inl.injEq, Sum.inr.injEq, Option.toList_some, Option.toList_none, List.cons_append, List.nil_append, ne_eq, true_and, and_true, and_self, not_true_eq_false, not_false_eq_true, true_implies, false_implies, reduceCtorEq]
      · rw [e_X12_guest]
        simp (config := { decide := true }) (disch := first | decide | assumption | omega | (simp (config := { decide := true }) only [km_sr_sf, km_sr_of, km_up_of, km_up_o, km_upx_i, km_upx_s, km_fl2_o, ne_eq, not_true_eq_false, not_false_eq_true] <;> omega) | fail) only [g_X12_guest, M80, r_misKin, M3, c0, g3, c1, lv, c2, ka_lt, ka_le, ka_nlt, ka_nle, ka_ne, ka_eq, Int.add_sub_cancel, true_or, or_true, false_or, or_false, false_and, and_false, if_true, if_false, ka_lo, ka_hi, ka_nn, km_sr_sf, km_sr_of, km_up_of, km_sr_us, km_sr_uo, km_sr_sr, km_sr_fl, km_sr_flo, km_up_up, km_up_lt, km_lay, km_unL, km_up_o, km_upx_i, km_upx_s, km_fl2_o, km_is, Option.some.injEq, Sum.inl.injEq, Sum.inr.injEq, Option.toList_some, Option.toList_none, List.cons_append, List.nil_append, ne_eq, true_and, and_true, and_self, not_true_eq_false, not_false_eq_true, true_implies, false_implies, reduceCtorEq]
    · obtain ⟨gg2, lv2⟩ := @md_livesB q c s m (km_up (km_up M 100 1 (km_xor (m 100 1) (km_shl 1 k))) 123 2 0) k hi.1 (fun b j z => by
        have z2 : ¬ kJ b j := by unfold fB at z; unfold kJ; omega
        unfold fB at z
        rw [km_up_ne (by omega), km_up_ne (by omega), jM b j z2]) ⟨c0.1, k10⟩
      have := accept (km_sr (km_up (km_up (km_up M 100 1 (km_xor (m 100 1) (km_shl 1 k))) 123 2 0) 123 82 (km_xor (m 100 1) (km_shl 1 k))) 130 gg2) (fun b j z => by
        rw [km_sr_ne (fun e => z (by unfold kJ; omega))]
        by_cases e : b = 123 ∧ j = 82
        · rw [km_up_eq e, km_up_eq e]
        · rw [km_up_ne e, km_up_ne e, km_up_ne (fun w => z (by unfold kJ; omega))]) (by funext j; simp (disch := omega) only [km_up_ne, km_up_eq, km_fl2_ne, km_fl2_eq, km_sr_ne, and_true, true_and, implies_true]) (fun w => absurd w (by decide))
      refine ⟨.inl 1, km_up M 100 1 (km_xor (m 100 1) (km_shl 1 k)), _, ?_, ?_, this⟩
      · rw [e_X11_guest]
        simp (config := { decide := true }) (disch := first | decide | assumption | omega | (simp (config := { decide := true }) only [km_sr_sf, km_sr_of, km_up_of, km_up_o, km_upx_i, km_upx_s, km_fl2_o, ne_eq, not_true_eq_false, not_false_eq_true] <;> omega) | fail) only [g_X11_guest, r_isOn, on, r_isKin, c0, g1, c1, eM, al, c2, M100, Int.add_sub_cancel, true_or, or_true, false_or, or_false, false_and, and_false, if_true, if_false, ka_lo, ka_hi, ka_nn, km_sr_sf, km_sr_of, km_up_of, km_sr_us, km_sr_uo, km_sr_sr, km_sr_fl, km_sr_flo, km_up_up, km_up_lt, km_lay, km_unL, km_up_o, km_upx_i, km_upx_s, km_fl2_o, km_is, Option.some.injEq, Sum.inl.injEq, Sum.inr.injEq, Option.toList_some, Option.toList_none, List.cons_append, List.nil_append, ne_eq, true_and, and_true, and_self, not_true_eq_false, not_false_eq_true, true_implies, false_implies, reduceCtorEq]
      · have g4 := fun Q => @md_isGuest q c s m (km_up (km_up M 100 1 (km_xor (m 100 1) (km_shl 1 k))) 123 2 0) k hi.2.2.2.2.2.2.2.1 f1.2.1 ((by simp (disch := omega) only [km_up_ne, km_up_eq, km_fl2_ne, km_fl2_eq, km_sr_ne, and_true, true_and, implies_true] : _ = M 123 80).trans (jM 123 80 (by unfold kJ; omega))) ((by simp (disch := omega) only [km_up_ne, km_up_eq, km_fl2_ne, km_fl2_eq, km_sr_ne, and_true, true_and, implies_true] : _ = M 123 82).trans M82) ((by simp (disch := omega) only [km_up_ne, km_up_eq, km_fl2_ne, km_fl2_eq, km_sr_ne, and_true, true_and, implies_true] : _ = M 123 3).trans M3) Q
        rw [e_X12_guest]
        simp (config := { decide := true }) (disch := first | decide | assumption | omega | (simp (config := { decide := true }) only [km_sr_sf, km_sr_of, km_up_of, km_up_o, km_upx_i, km_upx_s, km_fl2_o, ne_eq, not_true_eq_false, not_false_eq_true] <;> omega) | fail) only [g_X12_guest, M80, r_misKin, M3, c0, g4, c1, lv2, c2, M82, a2.1, ka_lt, ka_le, ka_nlt, ka_nle, ka_ne, ka_eq, Int.add_sub_cancel, true_or, or_true, false_or, or_false, false_and, and_false, if_true, if_false, ka_lo, ka_hi, ka_nn, km_sr_sf, km_sr_of, km_up_of, km_sr_us, km_sr_uo, km_sr_sr, km_sr_fl, km_sr_flo, km_up_up, km_up_lt, km_lay, km_unL, km_up_o, km_upx_i, km_upx_s, km_fl2_o, km_is, Option.some.injEq, Sum.inl.injEq, Sum.inr.injEq, Option.toList_some, Option.toList_none, List.cons_append, List.nil_append, ne_eq, true_and, and_true, and_self, not_true_eq_false, not_false_eq_true, true_implies, false_implies, reduceCtorEq]

