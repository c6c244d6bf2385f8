/-! ===== travel: the class ===== -/
theorem r_clearWaiting {q : Nat × Int × Int × Int × Int} {c s : Nat} {m : km_Mm} (Q : Option km_V → km_Al → km_Mm → Prop) : km_E M_X2_clearWaiting [.inr (.inr 59)] (km_A0 q c s) m Q ↔ Q none (km_A0 q c s) (km_fl2 m 65 0 6 0) := by
  have f := fun m' Q => @r_fill q c s m' 65 0 6 (by decide) (by simp (config := { decide := true }) only [km_lay, km_unL, km_up_o, km_upx_i, km_upx_s, km_fl2_o, km_is, Option.some.injEq, Sum.inl.injEq, Sum.inr.injEq, Option.toList_some, Option.toList_none, List.cons_append, List.nil_append, ne_eq, true_and, and_true, and_self, not_true_eq_false, not_false_eq_true, true_implies, false_implies, reduceCtorEq]) (by simp (config := { decide := true }) only [km_lay, km_unL, km_up_o, km_upx_i, km_upx_s, km_fl2_o, km_is, Option.some.injEq, Sum.inl.injEq, Sum.inr.injEq, Option.toList_some, Option.toList_none, List.cons_append, List.nil_append, ne_eq, true_and, and_true, and_self, not_true_eq_false, not_false_eq_true, true_implies, false_implies, reduceCtorEq]) (by simp (config := { decide := true }) only [km_lay, km_unL, km_up_o, km_upx_i, km_upx_s, km_fl2_o, km_is, Option.some.injEq, Sum.inl.injEq, Sum.inr.injEq, Option.toList_some, Option.toList_none, List.cons_append, List.nil_append, ne_eq, true_and, and_true, and_self, not_true_eq_false, not_false_eq_true, true_implies, false_implies, reduceCtorEq]) (by decide) Q
  rw [e_X2_clearWaiting]
  simp (config := { decide := true }) (disch := first | decide | assumption | omega | (simp (config := { decide := true }) only [km_sr_sf, km_sr_of, km_up_of, km_up_o, km_upx_i, km_upx_s, km_fl2_o, ne_eq, not_true_eq_false, not_false_eq_true] <;> omega) | fail) only [g_X2_clearWaiting, f, Int.add_sub_cancel, true_or, or_true, false_or, or_false, false_and, and_false, if_true, if_false, ka_lo, ka_hi, ka_nn, km_sr_sf, km_sr_of, km_up_of, km_sr_us, km_sr_uo, km_sr_sr, km_sr_fl, km_sr_flo, km_up_up, km_up_lt, km_lay, km_unL, km_up_o, km_upx_i, km_upx_s, km_fl2_o, km_is, Option.some.injEq, Sum.inl.injEq, Sum.inr.injEq, Option.toList_some, Option.toList_none, List.cons_append, List.nil_append, ne_eq, true_and, and_true, and_self, not_true_eq_false, not_false_eq_true, true_implies, false_implies, reduceCtorEq]
theorem cl_fly18 {q : Nat × Int × Int × Int × Int} {c s : Nat} {m M0 : km_Mm} {o : Int} (hb : kI_book m) (hT : kI_trait m) (o0 : 0 ≤ o) (o1 : o < 6) (h51 : M0 5 1 = m 5 1) (h7 : M0 7 = m 7) : ∀ (n i : Nat) (M : km_Mm), (i : Int) + n = m 5 1 → (∀ b j : Int, b ≠ 65 → M b j = M0 b j) → (∀ v : Int, 0 ≤ v → v < 6 → M 65 v = kcnt (kWt m o v) i) →
    ∃ M' : km_Mm, (∀ b j : Int, b ≠ 65 → M' b j = M0 b j) ∧ (∀ v : Int, 0 ≤ v → v < 6 → M' 65 v = kcnt (kWt m o v) (m 5 1).toNat) ∧ ∀ Q : Option km_V → km_Al → km_Mm → Prop, (km_G M_X11_flyTo 18 [some (.inr (.inr 0)), some (.inl o), some (.inl (kset (kC m o) (m 5 1).toNat)), some (.inl (i : Int))] [] (km_A0 q c s) M Q ↔ km_G M_X11_flyTo 18 [some (.inr (.inr 0)), some (.inl o), some (.inl (kset (kC m o) (m 5 1).toNat)), some (.inl (m 5 1))] [] (km_A0 q c s) M' Q) := by
  have h1 := hb.1
  have ks := kset_ten (P := kC m o) (m 5 1).toNat (by omega)
  have r6 := km_row6 q c s
  intro n
  induction n with
  | zero =>
    intro i M h fr h65
    have e2 : i = (m 5 1).toNat := by omega
    subst e2
    have e3 : (((m 5 1).toNat : Nat) : Int) = m 5 1 := by omega
    exact ⟨M, fr, h65, fun Q => by rw [e3]⟩
  | succ n ih =>
    intro i M h fr h65
    have e1 : M 5 1 = m 5 1 := (fr 5 1 (by decide)).trans h51
    have e7 : M 7 i = m 7 i := (fr 7 i (by decide)).trans (by rw [h7])
    have e3 : ¬ m 5 1 ≤ (i : Int) := by omega
    have e4 : ((i + 1 : Nat) : Int) = (i : Int) + 1 := by omega
    have tr := (hT i (by omega) (by omega)).2.1
    have hb := ks_bit0 (x := kset (kC m o) (m 5 1).toNat) (k := i) ks.1 (by have := ks.2; omega) (by omega) (by omega)
    have tb1 := kset_tb (P := kC m o) (m 5 1).toNat (by omega) i (by omega)
    have bv := @kcnt_b (kWt m o (m 7 i)) i
    by_cases z : kC m o i
    · have w65 := h65 (m 7 i) tr.1 tr.2
      have z2 : ¬ km_and (km_shr (kset (kC m o) (m 5 1).toNat) i) 1 = 0 := fun w => by have := tb1.mpr ⟨by omega, z⟩; rw [hb.mp w] at this; cases this
      obtain ⟨M', a1, a2, a3⟩ := ih (i + 1) (km_up M 65 (m 7 i) (kcnt (kWt m o (m 7 i)) i + 1)) (by omega) (fun b j b1 => by rw [km_up_ne (by omega)]; exact fr b j b1) (fun v v0 v1 => by
        by_cases e : v = m 7 i
        · rw [km_up_eq ⟨rfl, e⟩, e, kcnt_yes ⟨z, rfl⟩]
        · rw [km_up_ne (fun w => e w.2), h65 v v0 v1, kcnt_no (fun w => e w.2.symm)])
      refine ⟨M', a1, a2, fun Q => ?_⟩
      rw [← a3, e4, g_X11_flyTo_18]
      simp (config := { decide := true }) (disch := first | decide | assumption | omega | (simp (config := { decide := true }) only [km_sr_sf, km_sr_of, km_up_of, km_up_o, km_upx_i, km_upx_s, km_fl2_o, ne_eq, not_true_eq_false, not_false_eq_true] <;> omega) | fail) only [g_X11_flyTo, e1, e3, z2, r6, Int.reduceAdd, e7, w65, tr.1, tr.2, ka_lt, ka_le, ka_nlt, ka_nle, ka_ne, ka_eq, Int.add_sub_cancel, true_or, or_true, false_or, or_false, false_and, and_false, if_true, if_false, ka_lo, ka_hi, ka_nn, km_sr_sf, km_sr_of, km_up_of, km_sr_us, km_sr_uo, km_sr_sr, km_sr_fl, km_sr_flo, km_up_up, km_up_lt, km_lay, km_unL, km_up_o, km_upx_i, km_upx_s, km_fl2_o, km_is, Option.some.injEq, Sum.inl.injEq, Sum.inr.injEq, Option.toList_some, Option.toList_none, List.cons_append, List.nil_append, ne_eq, true_and, and_true, and_self, not_true_eq_false, not_false_eq_true, true_implies, false_implies, reduceCtorEq]
    · have z2 : km_and (km_shr (kset (kC m o) (m 5 1).toNat) i) 1 = 0 := hb.mpr (by cases e : tb (kset (kC m o) (m 5 1).toNat) i; rfl; exact absurd (tb1.mp e).2 z)
      obtain ⟨M', a1, a2, a3⟩ := ih (i + 1) M (by omega) fr (fun v v0 v1 => by rw [h65 v v0 v1, kcnt_no (fun w => z w.1)])
      refine ⟨M', a1, a2, fun Q => ?_⟩
      rw [← a3, e4, g_X11_flyTo_18]
      simp (config := { decide := true }) (disch := first | decide | assumption | omega | (simp (config := { decide := true }) only [km_sr_sf, km_sr_of, km_up_of, km_up_o, km_upx_i, km_upx_s, km_fl2_o, ne_eq, not_true_eq_false, not_false_eq_true] <;> omega) | fail) only [g_X11_flyTo, e1, e3, z2, ka_lt, ka_le, ka_nlt, ka_nle, ka_ne, ka_eq, Int.add_sub_cancel, true_or, or_true, false_or, or_false, false_and, and_false, if_true, if_false, ka_lo, ka_hi, ka_nn, km_sr_sf, km_sr_of, km_up_of, km_sr_us, km_sr_uo, km_sr_sr, km_sr_fl, km_sr_flo, km_up_up, km_up_lt, km_lay, km_unL, km_up_o, km_upx_i, km_upx_s, km_fl2_o, km_is, Option.some.injEq, Sum.inl.injEq, Sum.inr.injEq, Option.toList_some, Option.toList_none, List.cons_append, List.nil_append, ne_eq, true_and, and_true, and_self, not_true_eq_false, not_false_eq_true, true_implies, false_implies, reduceCtorEq]
theorem cl_flyTo {q : Nat × Int × Int × Int × Int} {c s : Nat} {m M : km_Mm} {o : Int} (hb : kI_book m) (hT : kI_trait m) (hO : kI_opt m) (hF : kI_fl m) (hN : kN m M) (hj : km_jk m M) (o0 : 0 ≤ o) (o1 : o < m 19 1) :
    ∃ M' : km_Mm, (∀ b j : Int, ¬ (65 ≤ b ∧ b ≤ 68) → ¬ (b = 59 ∧ 10 ≤ j) → M' b j = M b j) ∧ (M' 59 10, M' 59 11) = kTr m o ∧ ∀ Q : Option km_V → km_Al → km_Mm → Prop, (km_E M_X11_flyTo [.inr (.inr 0), .inl o] (km_A0 q c s) M Q ↔ Q none (km_A0 q c s) M') := by
  have h1 := hb.1
  have f4 := hO.1
  have op := hO.2.1 o o0 o1
  have wc := fun Q => @r_whoCan q c s o m M hN hj ⟨h1.1, h1.2.1⟩ o0 (by omega) Q
  have e51 : M 5 1 = m 5 1 := hj 5 1 (by unfold kJ; omega)
  have e7 : M 7 = m 7 := funext fun j => hj 7 j (kJ_no (by decide))
  have e20 : M 20 o = m 20 o := hj 20 o (kJ_no (by decide))
  have e21 : M 21 o = m 21 o := hj 21 o (kJ_no (by decide))
  obtain ⟨M1, a1, a2, a3⟩ := @cl_fly18 q c s m (km_fl2 M 65 0 6 0) o hb hT o0 (by omega) (by rw [km_fl2_o (by decide)]; exact e51) (by funext j; rw [km_fl2_o (by decide), e7]) (m 5 1).toNat 0 (km_fl2 M 65 0 6 0) (by omega) (fun _ _ _ => rfl) (fun v v0 v1 => by rw [km_fl2_eq ⟨rfl, v0, v1⟩]; rfl)
  have r1 : ∀ b j : Int, b ≠ 65 → M1 b j = M b j := fun b j h => (a1 b j h).trans (km_fl2_o h)
  have rows : ∀ b : Int, 60 ≤ b → b ≤ 64 → M1 b = m b := fun b b0 b1 => funext fun j => (r1 b j (by omega)).trans (hj b j (by unfold kJ; omega))
  have n0 : M1 59 0 = m 59 0 := (r1 59 0 (by decide)).trans (hj 59 0 (by unfold kJ; omega))
  have c1 : kf_cl M1 := by
    refine ⟨by rw [n0]; exact (kI_fl_cl hF).1, fun f f0 f1 => ?_⟩
    rw [rows 60 (by decide) (by decide), rows 61 (by decide) (by decide), rows 64 (by decide) (by decide)]
    exact (kI_fl_cl hF).2 f f0 (by omega)
  obtain ⟨M2, b1, b2, b3⟩ := @cl_carry q c s M1 (m 21 o) (m 20 o) op.2.1 c1 (fun f f0 f1 => by rw [rows 63 (by decide) (by decide)]; have := hF.2 f f0 (by omega); omega) (fun v v0 v1 => by rw [a2 v v0 v1]; have := kcnt_b (P := kWt m o v) (m 5 1).toNat; omega)
  refine ⟨M2, fun b j h2 h3 => (b1 b j h2 h3).trans (r1 b j (by omega)), ?_, fun Q => ?_⟩
  · rw [b2, kx_mem rows n0, a2 _ op.2.1.1 op.2.1.2]
    unfold kTr
    refine (kx_cong op.2.1 10 _ _ _ _ _ _ (kTr_ok ⟨h1.1, h1.2.1⟩ hF) (fun v v0 v1 => ?_) (fun f f0 f1 => ?_)).symm
    · unfold kTw km_u1
      by_cases e : v = m 20 o
      · rw [if_pos e, if_pos e]
      · rw [if_neg e, if_neg e, a2 v v0 v1]
    · unfold kv_fl; rw [if_pos ⟨f0, f1⟩]
  · have s51 : M1 5 1 = m 5 1 := (r1 5 1 (by decide)).trans e51
    have s20 : M1 20 o = m 20 o := (r1 20 o (by decide)).trans e20
    have s21 : M1 21 o = m 21 o := (r1 21 o (by decide)).trans e21
    have le : m 5 1 ≤ m 5 1 := Int.le_refl _
    have tail : km_G M_X11_flyTo 18 [some (.inr (.inr 0)), some (.inl o), some (.inl (kset (kC m o) (m 5 1).toNat)), some (.inl (m 5 1))] [] (km_A0 q c s) M1 Q ↔ Q none (km_A0 q c s) M2 := by
      rw [g_X11_flyTo_18]
      simp (config := { decide := true }) (disch := first | decide | assumption | omega | (simp (config := { decide := true }) only [km_sr_sf, km_sr_of, km_up_of, km_up_o, km_upx_i, km_upx_s, km_fl2_o, ne_eq, not_true_eq_false, not_false_eq_true] <;> omega) | fail) only [g_X11_flyTo, s51, s20, s21, le, b3, ka_lt, ka_le, ka_nlt, ka_nle, ka_ne, ka_eq, Int.add_sub_cancel, true_or, or_true, false_or, or_false, false_and, and_false, if_true, if_false, ka_lo, ka_hi, ka_nn, km_sr_sf, km_sr_of, km_up_of, km_sr_us, km_sr_uo, km_sr_sr, km_sr_fl, km_sr_flo, km_up_up, km_up_lt, km_lay, km_unL, km_up_o, km_upx_i, km_upx_s, km_fl2_o, km_is, Option.some.injEq, Sum.inl.injEq, Sum.inr.injEq, Option.toList_some, Option.toList_none, List.cons_append, List.nil_append, ne_eq, true_and, and_true, and_self, not_true_eq_false, not_false_eq_true, true_implies, false_implies, reduceCtorEq]
    rw [← tail, ← a3, e_X11_flyTo]
    simp (config := { decide := true }) (disch := first | decide | assumption | omega | (simp (config := { decide := true }) only [km_sr_sf, km_sr_of, km_up_of, km_up_o, km_upx_i, km_upx_s, km_fl2_o, ne_eq, not_true_eq_false, not_false_eq_true] <;> omega) | fail) only [g_X11_flyTo, wc, r_clearWaiting, Int.add_sub_cancel, true_or, or_true, false_or, or_false, false_and, and_false, if_true, if_false, ka_lo, ka_hi, ka_nn, km_sr_sf, km_sr_of, km_up_of, km_sr_us, km_sr_uo, km_sr_sr, km_sr_fl, km_sr_flo, km_up_up, km_up_lt, km_lay, km_unL, km_up_o, km_upx_i, km_upx_s, km_fl2_o, km_is, Option.some.injEq, Sum.inl.injEq, Sum.inr.injEq, Option.toList_some, Option.toList_none, List.cons_append, List.nil_append, ne_eq, true_and, and_true, and_self, not_true_eq_false, not_false_eq_true, true_implies, false_implies, reduceCtorEq]
    exact Iff.rfl
theorem fc_travel {N : Int} {q : Nat × Int × Int × Int × Int} {c s : Nat} {m : km_Mm} (h : kI0 N m) {o w : Int} : kF M_X11_travel M_X12_travel [.inl o, .inl w] N q c s m := by
  intro Q1 Q2
  have hi := h
  obtain ⟨hB, hR, hT, hO, hM, hF, hH, hE, hS, hA⟩ := h
  have f1 := hB.1
  have f4 := hO.1
  by_cases v : (0 ≤ o ∧ o < m 19 1) ∧ 0 ≤ w ∧ w ≤ 2
  · obtain ⟨v1, v2, v3⟩ := v
    obtain ⟨M, jM, rM, nM, eM⟩ := @cl_now q c s m hB
    have ks := kset_ten (P := kC m o) (m 5 1).toNat (by omega)
    have M63 : ∀ X : km_Mm, km_jk m X → X 123 63 = m 19 1 := fun X hX => (hX 123 63 (by unfold kJ; omega)).trans f4.2.2
    have M19 : M 19 1 = m 19 1 := jM 19 1 (by unfold kJ; omega)
    by_cases w2 : w = 2
    · subst w2
      have wc := fun Q => @r_whoCan q c s o m M nM jM ⟨f1.1, f1.2.1⟩ v1.1 (by omega) Q
      have bc := fun Q => @sp_bitCount _ ks.1 ks.2 (km_A0 q c s) M Q
      have j1 : km_jk m (km_up M 123 2 0) := jM.tr (fun b j z => km_up_ne (fun e => z (by unfold kJ; omega)))
      obtain ⟨M2, j2, s2, -, t2⟩ := @md_travels q c s m (km_up M 123 2 0) o hB hT hO hF (kMj_jk j1) v1.1 v1.2
      have j3 : km_jk m M2 := j1.tr j2
      obtain ⟨g, t3⟩ := @md_comeOf q c s m M2 o hB hO (kMj_jk j3) v1.1 v1.2
      have j4 : km_jk m (km_sr M2 130 g) := j3.tr (fun b j z => km_sr_ne (fun e => z (by unfold kJ; omega)))
      refine ⟨.inl (km_pop (kset (kC m o) (m 5 1).toNat)), M, km_sr M2 130 g, ?_, ?_, kI0_jk hi j4 (by unfold kI_scr; rw [km_sr_of (by decide), s2, km_up_of (by decide), rM]; exact hi.2.1), kP_jk j4⟩
      · rw [e_X11_travel]
        simp (config := { decide := true }) (disch := first | decide | assumption | omega | (simp (config := { decide := true }) only [km_sr_sf, km_sr_of, km_up_of, km_up_o, km_upx_i, km_upx_s, km_fl2_o, ne_eq, not_true_eq_false, not_false_eq_true] <;> omega) | fail) only [g_X11_travel, r_ohas, v1, eM, wc, bc, Int.add_sub_cancel, true_or, or_true, false_or, or_false, false_and, and_false, if_true, if_false, ka_lo, ka_hi, ka_nn, km_sr_sf, km_sr_of, km_up_of, km_sr_us, km_sr_uo, km_sr_sr, km_sr_fl, km_sr_flo, km_up_up, km_up_lt, km_lay, km_unL, km_up_o, km_upx_i, km_upx_s, km_fl2_o, km_is, Option.some.injEq, Sum.inl.injEq, Sum.inr.injEq, Option.toList_some, Option.toList_none, List.cons_append, List.nil_append, ne_eq, true_and, and_true, and_self, not_true_eq_false, not_false_eq_true, true_implies, false_implies, reduceCtorEq]
      · rw [e_X12_travel, kset_pop _ (by omega)]
        simp (config := { decide := true }) (disch := first | decide | assumption | omega | (simp (config := { decide := true }) only [km_sr_sf, km_sr_of, km_up_of, km_up_o, km_upx_i, km_upx_s, km_fl2_o, ne_eq, not_true_eq_false, not_false_eq_true] <;> omega) | fail) only [g_X12_travel, r_mopt, M63 M jM, v1, t2, t3, Int.add_sub_cancel, true_or, or_true, false_or, or_false, false_and, and_false, if_true, if_false, ka_lo, ka_hi, ka_nn, km_sr_sf, km_sr_of, km_up_of, km_sr_us, km_sr_uo, km_sr_sr, km_sr_fl, km_sr_flo, km_up_up, km_up_lt, km_lay, km_unL, km_up_o, km_upx_i, km_upx_s, km_fl2_o, km_is, Option.some.injEq, Sum.inl.injEq, Sum.inr.injEq, Option.toList_some, Option.toList_none, List.cons_append, List.nil_append, ne_eq, true_and, and_true, and_self, not_true_eq_false, not_false_eq_true, true_implies, false_implies, reduceCtorEq]
    · obtain ⟨M1, a1, a2, a3⟩ := @cl_flyTo q c s m M o hB hT hO hF nM jM v1.1 v1.2
      have j1 : km_jk m M1 := jM.tr (fun b j z => a1 b j (fun e => z (by unfold kJ; omega)) (fun e => z (by unfold kJ; omega)))
      have s1 : M1 52 = m 52 := by funext j; rw [a1 52 j (by omega) (by omega), rM]
      have j1' : km_jk m (km_up M1 123 2 0) := j1.tr (fun b j z => km_up_ne (fun e => z (by unfold kJ; omega)))
      obtain ⟨M2, j2, s2, t1, t2⟩ := @md_travels q c s m (km_up M1 123 2 0) o hB hT hO hF (kMj_jk j1') v1.1 v1.2
      have j3 : km_jk m M2 := j1'.tr j2
      have p1 : M1 59 10 = (kTr m o).1 := by rw [← a2]
      have p2 : M1 59 11 = (kTr m o).2 := by rw [← a2]
      have p3 : M2 123 77 = (kTr m o).1 := by rw [← t1]
      have p4 : M2 123 78 = (kTr m o).2 := by rw [← t1]
      refine ⟨.inl (if w = 0 then (kTr m o).1 else (kTr m o).2), M1, M2, ?_, ?_, kI0_jk hi j3 (by unfold kI_scr; rw [s2, km_up_of (by decide), s1]; exact hi.2.1), kP_jk j3⟩
      · rw [e_X11_travel]
        by_cases w0 : w = 0
        · subst w0
          simp (config := { decide := true }) (disch := first | decide | assumption | omega | (simp (config := { decide := true }) only [km_sr_sf, km_sr_of, km_up_of, km_up_o, km_upx_i, km_upx_s, km_fl2_o, ne_eq, not_true_eq_false, not_false_eq_true] <;> omega) | fail) only [g_X11_travel, r_ohas, v1, eM, a3, p1, ka_lt, ka_le, ka_nlt, ka_nle, ka_ne, ka_eq, Int.add_sub_cancel, true_or, or_true, false_or, or_false, false_and, and_false, if_true, if_false, ka_lo, ka_hi, ka_nn, km_sr_sf, km_sr_of, km_up_of, km_sr_us, km_sr_uo, km_sr_sr, km_sr_fl, km_sr_flo, km_up_up, km_up_lt, km_lay, km_unL, km_up_o, km_upx_i, km_upx_s, km_fl2_o, km_is, Option.some.injEq, Sum.inl.injEq, Sum.inr.injEq, Option.toList_some, Option.toList_none, List.cons_append, List.nil_append, ne_eq, true_and, and_true, and_self, not_true_eq_false, not_false_eq_true, true_implies, false_implies, reduceCtorEq]
        · simp (config := { decide := true }) (disch := first | decide | assumption | omega | (simp (config := { decide := true }) only [km_sr_sf, km_sr_of, km_up_of, km_up_o, km_upx_i, km_upx_s, km_fl2_o, ne_eq, not_true_eq_false, not_false_eq_true] <;> omega) | fail) only [g_X11_travel, r_ohas, v1, eM, w2, a3, w0, p2, ka_lt, ka_le, ka_nlt, ka_nle, ka_ne, ka_eq, Int.add_sub_cancel, true_or, or_true, false_or, or_false, false_and, and_false, if_true, if_false, ka_lo, ka_hi, ka_nn, km_sr_sf, km_sr_of, km_up_of, km_sr_us, km_sr_uo, km_sr_sr, km_sr_fl, km_sr_flo, km_up_up, km_up_lt, km_lay, km_unL, km_up_o, km_upx_i, km_upx_s, km_fl2_o, km_is, Option.some.injEq, Sum.inl.injEq, Sum.inr.injEq, Option.toList_some, Option.toList_none, List.cons_append, List.nil_append, ne_eq, true_and, and_true, and_self, not_true_eq_false, not_false_eq_true, true_implies, false_implies, reduceCtorEq]
      · rw [e_X12_travel]
        by_cases w0 : w = 0
        · subst w0
          simp (config := { decide := true }) (disch := first | decide | assumption | omega | (simp (config := { decide := true }) only [km_sr_sf, km_sr_of, km_up_of, km_up_o, km_upx_i, km_upx_s, km_fl2_o, ne_eq, not_true_eq_false, not_false_eq_true] <;> omega) | fail) only [g_X12_travel, r_mopt, M63 M1 j1, v1, t2, p3, ka_lt, ka_le, ka_nlt, ka_nle, ka_ne, ka_eq, Int.add_sub_cancel, true_or, or_true, false_or, or_false, false_and, and_false, if_true, if_false, ka_lo, ka_hi, ka_nn, km_sr_sf, km_sr_of, km_up_of, km_sr_us, km_sr_uo, km_sr_sr, km_sr_fl, km_sr_flo, km_up_up, km_up_lt, km_lay, km_unL, km_up_o, km_upx_i, km_upx_s, km_fl2_o, km_is, Option.some.injEq, Sum.inl.injEq, Sum.inr.injEq, Option.toList_some, Option.toList_none, List.cons_append, List.nil_append, ne_eq, true_and, and_true, and_self, not_true_eq_false, not_false_eq_true, true_implies, false_implies, reduceCtorEq]
        · have w1 : w = 1 := by omega
          subst w1
          simp (config := { decide := true }) (disch := first | decide | assumption | omega | (simp (config := { decide := true }) only [km_sr_sf, km_sr_of, km_up_of, km_up_o, km_upx_i, km_upx_s, km_fl2_o, ne_eq, not_true_eq_false, not_false_eq_true] <;> omega) | fail) only [g_X12_travel, r_mopt, M63 M1 j1, v1, t2, p4, w0, ka_lt, ka_le, ka_nlt, ka_nle, ka_ne, ka_eq, Int.add_sub_cancel, true_or, or_true, false_or, or_false, false_and, and_false, if_true, if_false, ka_lo, ka_hi, ka_nn, km_sr_sf, km_sr_of, km_up_of, km_sr_us, km_sr_uo, km_sr_sr, km_sr_fl, km_sr_flo, km_up_up, km_up_lt, km_lay, km_unL, km_up_o, km_upx_i, km_upx_s, km_fl2_o, km_is, Option.some.injEq, Sum.inl.injEq, Sum.inr.injEq, Option.toList_some, Option.toList_none, List.cons_append, List.nil_append, ne_eq, true_and, and_true, and_self, not_true_eq_false, not_false_eq_true, true_implies, false_implies, reduceCtorEq]
  · refine ⟨.inl (-1), m, km_up m 123 2 0, ?_, ?_, kI0_t hi, kP_t⟩
    · rw [e_X11_travel]
      by_cases c0 : 0 ≤ o ∧ o < m 19 1
      case neg => simp (config := { decide := true }) (disch := first | decide | assumption | omega | (simp (config := { decide := true }) only [km_sr_sf, km_sr_of, km_up_of, km_up_o, km_upx_i, km_upx_s, km_fl2_o, ne_eq, not_true_eq_false, not_false_eq_true] <;> omega) | fail) only [g_X11_travel, r_ohas, c0, Int.add_sub_cancel, true_or, or_true, false_or, or_false, false_and, and_false, if_true, if_false, ka_lo, ka_hi, ka_nn, km_sr_sf, km_sr_of, km_up_of, km_sr_us, km_sr_uo, km_sr_sr, km_sr_fl, km_sr_flo, km_up_up, km_up_lt, km_lay, km_unL, km_up_o, km_upx_i, km_upx_s, km_fl2_o, km_is, Option.some.injEq, Sum.inl.injEq, Sum.inr.injEq, Option.toList_some, Option.toList_none, List.cons_append, List.nil_append, ne_eq, true_and, and_true, and_self, not_true_eq_false, not_false_eq_true, true_implies, false_implies, reduceCtorEq]
      by_cases c1 : 0 ≤ w
      case neg => simp (config := { decide := true }) (disch := first | decide | assumption | omega | (simp (config := { decide := true }) only [km_sr_sf, km_sr_of, km_up_of, km_up_o, km_upx_i, km_upx_s, km_fl2_o, ne_eq, not_true_eq_false, not_false_eq_true] <;> omega) | fail) only [g_X11_travel, r_ohas, c0, ka_lt, ka_le, ka_nlt, ka_nle, ka_ne, ka_eq, Int.add_sub_cancel, true_or, or_true, false_or, or_false, false_and, and_false, if_true, if_false, ka_lo, ka_hi, ka_nn, km_sr_sf, km_sr_of, km_up_of, km_sr_us, km_sr_uo, km_sr_sr, km_sr_fl, km_sr_flo, km_up_up, km_up_lt, km_lay, km_unL, km_up_o, km_upx_i, km_upx_s, km_fl2_o, km_is, Option.some.injEq, Sum.inl.injEq, Sum.inr.injEq, Option.toList_some, Option.toList_none, List.cons_append, List.nil_append, ne_eq, true_and, and_true, and_self, not_true_eq_false, not_false_eq_true, true_implies, false_implies, reduceCtorEq]
      by_cases c2 : w ≤ 2
      case neg => simp (config := { decide := true }) (disch := first | decide | assumption | omega | (simp (config := { decide := true }) only [km_sr_sf, km_sr_of, km_up_of, km_up_o, km_upx_i, km_upx_s, km_fl2_o, ne_eq, not_true_eq_false, not_false_eq_true] <;> omega) | fail) only [g_X11_travel, r_ohas, c0, ka_lt, ka_le, ka_nlt, ka_nle, ka_ne, ka_eq, Int.add_sub_cancel, true_or, or_true, false_or, or_false, false_and, and_false, if_true, if_false, ka_lo, ka_hi, ka_nn, km_sr_sf, km_sr_of, km_up_of, km_sr_us, km_sr_uo, km_sr_sr, km_sr_fl, km_sr_flo, km_up_up, km_up_lt, km_lay, km_unL, km_up_o, km_upx_i, km_upx_s, km_fl2_o, km_is, Option.some.injEq, Sum.inl.injEq, Sum.inr.injEq, Option.toList_some, Option.toList_none, List.cons_append, List.nil_append, ne_eq, true_and, and_true, and_self, not_true_eq_false, not_false_eq_true, true_implies, false_implies, reduceCtorEq]
      exact absurd (by omega) v
    · rw [e_X12_travel]
      by_cases c0 : 0 ≤ o ∧ o < m 19 1
      case neg => simp (config := { decide := true }) (disch := first | decide | assumption | omega | (simp (config := { decide := true }) only [km_sr_sf, km_sr_of, km_up_of, km_up_o, km_upx_i, km_upx_s, km_fl2_o, ne_eq, not_true_eq_false, not_false_eq_true] <;> omega) | fail) only [g_X12_travel, r_mopt, f4.2.2, c0, Int.add_sub_cancel, true_or, or_true, false_or, or_false, false_and, and_false, if_true, if_false, ka_lo, ka_hi, ka_nn, km_sr_sf, km_sr_of, km_up_of, km_sr_us, km_sr_uo, km_sr_sr, km_sr_fl, km_sr_flo, km_up_up, km_up_lt, km_lay, km_unL, km_up_o, km_upx_i, km_upx_s, km_fl2_o, km_is, Option.some.injEq, Sum.inl.injEq, Sum.inr.injEq, Option.toList_some, Option.toList_none, List.cons_append, List.nil_append, ne_eq, true_and, and_true, and_self, not_true_eq_false, not_false_eq_true, true_implies, false_implies, reduceCtorEq]
      by_cases c1 : 0 ≤ w
      case neg => simp (config := { decide := true }) (disch := first | decide | assumption | omega | (simp (config := { decide := true }) only [km_sr_sf, km_sr_of, km_up_of, km_up_o, km_upx_i, km_upx_s, km_fl2_o, ne_eq, not_true_eq_false, not_false_eq_true] <;> omega) | fail) only [g_X12_travel, r_mopt, f4.2.2, c0, ka_lt, ka_le, ka_nlt, ka_nle, ka_ne, ka_eq, Int.add_sub_cancel, true_or, or_true, false_or, or_false, false_and, and_false, if_true, if_false, ka_lo, ka_hi, ka_nn, km_sr_sf, km_sr_of, km_up_of, km_sr_us, km_sr_uo, km_sr_sr, km_sr_fl, km_sr_flo, km_up_up, km_up_lt, km_lay, km_unL, km_up_o, km_upx_i, km_upx_s, km_fl2_o, km_is, Option.some.injEq, Sum.inl.injEq, Sum.inr.injEq, Option.toList_some, Option.toList_none, List.cons_append, List.nil_append, ne_eq, true_and, and_true, and_self, not_true_eq_false, not_false_eq_true, true_implies, false_implies, reduceCtorEq]
      by_cases c2 : w ≤ 2
      case neg => simp (config := { decide := true }) (disch := first | decide | assumption | omega | (simp (config := { decide := true }) only [km_sr_sf, km_sr_of, km_up_of, km_up_o, km_upx_i, km_upx_s, km_fl2_o, ne_eq, not_true_eq_false, not_false_eq_true] <;> omega) | fail) only [g_X12_travel, r_mopt, f4.2.2, c0, ka_lt, ka_le, ka_nlt, ka_nle, ka_ne, ka_eq, Int.add_sub_cancel, true_or, or_true, false_or, or_false, false_and, and_false, if_true, if_false, ka_lo, ka_hi, ka_nn, km_sr_sf, km_sr_of, km_up_of, km_sr_us, km_sr_uo, km_sr_sr, km_sr_fl, km_sr_flo, km_up_up, km_up_lt, km_lay, km_unL, km_up_o, km_upx_i, km_upx_s, km_fl2_o, km_is, Option.some.injEq, Sum.inl.injEq, Sum.inr.injEq, Option.toList_some, Option.toList_none, List.cons_append, List.nil_append, ne_eq, true_and, and_true, and_self, not_true_eq_false, not_false_eq_true, true_implies, false_implies, reduceCtorEq]
      exact absurd (by omega) v

