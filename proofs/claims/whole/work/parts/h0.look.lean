/-! ===== the class looks at an OPTION; the sum of regrets ===== -/
/-- a memory of the class that holds the reading of the book of m -/
def kZ (m X : km_Mm) : Prop := km_jk m X ∧ X 52 = m 52 ∧ kN m X
theorem kZ_tr {m X X' : km_Mm} (h : kZ m X) (k : ∀ b j : Int, ¬ (59 ≤ b ∧ b ≤ 84 ∧ (b = 59 → 10 ≤ j) ∧ ¬ (60 ≤ b ∧ b ≤ 64)) → X' b j = X b j) : kZ m X' := by
  obtain ⟨h1, h2, h3⟩ := h
  refine ⟨fun b j z => (k b j (fun w => z (by unfold kJ; omega))).trans (h1 b j z), ?_, kN_cg h3 (fun b j hb => k b j (by omega))⟩
  rw [← h2]
  exact funext fun j => k 52 j (by omega)
section HL
variable {q : Nat × Int × Int × Int × Int} {c s : Nat} {m M : km_Mm} {N o p b P ln : Int} {Q : Option km_V → km_Al → km_Mm → Prop}
theorem r_names34 (hP : P = 40 ∨ P = 46) (h9 : 0 ≤ M P 9 ∧ M P 9 < 32768) : km_E M_X8_names [.inr (.inr P), .inl 34] (km_A0 q c s) M Q ↔ Q (some (.inl (if tb (M P 9) 2 = true then 1 else 0))) (km_A0 q c s) M := by
  have bt := ks_bit0 (x := M P 9) (k := 2) h9.1 (by omega) (by decide) (by decide)
  rw [e_X8_names]
  by_cases z : tb (M P 9) 2 = true
  · rw [if_pos z]
    have bn : ¬ km_and (km_shr (M P 9) 2) 1 = 0 := fun w => by rw [bt.mp w] at z; cases z
    rcases hP with rfl | rfl <;> simp (config := { decide := true }) (disch := first | decide | assumption | omega | (simp (config := { decide := true }) only [km_sr_sf, km_sr_of, km_up_of, km_up_o, km_upx_i, km_upx_s, km_fl2_o, ne_eq, not_true_eq_false, not_false_eq_true] <;> omega) | fail) only [g_X8_names, Int.reduceSub, bn, ka_lt, ka_le, ka_nlt, ka_nle, ka_ne, ka_eq, Int.add_sub_cancel, true_or, or_true, false_or, or_false, false_and, and_false, if_true, if_false, ka_lo, ka_hi, ka_nn, km_sr_sf, km_sr_of, km_up_of, km_sr_us, km_sr_uo, km_sr_sr, km_sr_fl, km_sr_flo, km_up_up, km_up_lt, km_lay, km_unL, km_up_o, km_upx_i, km_upx_s, km_fl2_o, km_is, Option.some.injEq, Sum.inl.injEq, Sum.inr.injEq, Option.toList_some, Option.toList_none, List.cons_append, List.nil_append, ne_eq, true_and, and_true, and_self, not_true_eq_false, not_false_eq_true, true_implies, false_implies, reduceCtorEq]
  · rw [if_neg z]
    have bn := bt.mpr (by simpa using z)
    rcases hP with rfl | rfl <;> simp (config := { decide := true }) (disch := first | decide | assumption | omega | (simp (config := { decide := true }) only [km_sr_sf, km_sr_of, km_up_of, km_up_o, km_upx_i, km_upx_s, km_fl2_o, ne_eq, not_true_eq_false, not_false_eq_true] <;> omega) | fail) only [g_X8_names, Int.reduceSub, bn, ka_lt, ka_le, ka_nlt, ka_nle, ka_ne, ka_eq, Int.add_sub_cancel, true_or, or_true, false_or, or_false, false_and, and_false, if_true, if_false, ka_lo, ka_hi, ka_nn, km_sr_sf, km_sr_of, km_up_of, km_sr_us, km_sr_uo, km_sr_sr, km_sr_fl, km_sr_flo, km_up_up, km_up_lt, km_lay, km_unL, km_up_o, km_upx_i, km_upx_s, km_fl2_o, km_is, Option.some.injEq, Sum.inl.injEq, Sum.inr.injEq, Option.toList_some, Option.toList_none, List.cons_append, List.nil_append, ne_eq, true_and, and_true, and_self, not_true_eq_false, not_false_eq_true, true_implies, false_implies, reduceCtorEq]
theorem cl_lookAt (h : kI0 N m) (hp : kIp P m) (hq : kQo q P) (hZ : kZ m M) (o0 : 0 ≤ o) (o1 : o < m 19 1) : ∃ M' : km_Mm, kZ m M' ∧ kXO m M' o (-1) P 0 ∧ ∀ Q : Option km_V → km_Al → km_Mm → Prop, km_E M_X11_lookAt [.inr (.inr 0), .inl o] (km_A0 q c s) M Q ↔ Q none (km_A0 q c s) M' := by
  obtain ⟨hB, hR, hT, hO, hM, hF, hH, hE, hS, hA⟩ := h
  obtain ⟨jM, rM, nM⟩ := hZ
  obtain ⟨hPo, hq1, hq2⟩ := hq
  have f1 := hB.1
  have f4 := hO.1
  have ks := kset_ten (P := kC m o) (m 5 1).toNat (by omega)
  have kp := kset_pop (P := kC m o) (m 5 1).toNat (by omega)
  have cb := kcnt_b (P := kC m o) (m 5 1).toNat
  have wc := fun Q => @r_whoCan q c s o m M nM jM ⟨f1.1, f1.2.1⟩ o0 (by omega) Q
  have bc := fun Q => @sp_bitCount _ ks.1 ks.2 (km_A0 q c s) M Q
  rw [kp] at bc
  have e9 : M P 9 = m P 9 := jM P 9 (by unfold kJ; omega)
  have nm := fun Q => @r_names34 q c s M P Q hPo (by rw [e9]; exact hp.2.1)
  rw [e9] at nm
  have fin : ∀ (X X' : km_Mm) (fare : Int), kZ m X → X P 9 = m P 9 → (tb (m P 9) 2 = true → fare = kFr m o) → kLO m X X' o fare (kcnt (kC m o) (m 5 1).toNat) → kZ m X' ∧ kXO m X' o (-1) P 0 := fun X X' fare hX h9 hf hL => by
    obtain ⟨l1, l2, ⟨l3, l4, l5, l6⟩, l7⟩ := hL
    have e5 : X' 5 1 = m 5 1 := (l1 5 1 (by omega) (by decide) (by omega)).trans (hX.1 5 1 (by unfold kJ; omega))
    refine ⟨kZ_tr hX (fun b j z => l1 b j (by omega) (by omega) (by omega)), e5, ⟨o0, o1⟩, ⟨l3, l4, fun w => ?_, l6⟩, fun k k0 k1 => ⟨(l7 k k0 k1).1, (l7 k k0 k1).2⟩, fun w => absurd w (by decide)⟩
    rw [l1 P 9 (by omega) (by omega) (by omega), h9] at w
    exact l5.trans (hf w)
  by_cases z : tb (m P 9) 2 = true
  · rw [if_pos z] at nm
    obtain ⟨M1, a1, a2, a3⟩ := @cl_flyTo q c s m M o hB hT hO hF nM jM o0 o1
    have z1 : kZ m M1 := kZ_tr ⟨jM, rM, nM⟩ (fun b j w => a1 b j (by omega) (by omega))
    have p1 : M1 59 10 = (kTr m o).1 := by rw [← a2]
    have p2 : M1 59 11 = (kTr m o).2 := by rw [← a2]
    obtain ⟨M2, d1, d2⟩ := @cl_lookOpt q c s m M1 o (kFr m o) (kcnt (kC m o) (m 5 1).toNat) hB hT hO z1.2.2 z1.1 o0 o1
    obtain ⟨e1, e2⟩ := fin M1 M2 (kFr m o) z1 (z1.1 P 9 (by unfold kJ; omega)) (fun _ => rfl) d1
    refine ⟨M2, e1, e2, fun Q => ?_⟩
    rw [e_X11_lookAt]
    unfold kFr at d2
    by_cases y : (kTr m o).1 = kcnt (kC m o) (m 5 1).toNat
    · rw [if_pos y] at d2
      rw [y] at p1
      rcases hPo with rfl | rfl <;> simp (config := { decide := true }) (disch := first | decide | assumption | omega | (simp (config := { decide := true }) only [km_sr_sf, km_sr_of, km_up_of, km_up_o, km_upx_i, km_upx_s, km_fl2_o, ne_eq, not_true_eq_false, not_false_eq_true] <;> omega) | fail) only [g_X11_lookAt, wc, bc, hq1, nm, a3, p1, p2, d2, ka_lt, ka_le, ka_nlt, ka_nle, ka_ne, ka_eq, Int.add_sub_cancel, true_or, or_true, false_or, or_false, false_and, and_false, if_true, if_false, ka_lo, ka_hi, ka_nn, km_sr_sf, km_sr_of, km_up_of, km_sr_us, km_sr_uo, km_sr_sr, km_sr_fl, km_sr_flo, km_up_up, km_up_lt, km_lay, km_unL, km_up_o, km_upx_i, km_upx_s, km_fl2_o, km_is, Option.some.injEq, Sum.inl.injEq, Sum.inr.injEq, Option.toList_some, Option.toList_none, List.cons_append, List.nil_append, ne_eq, true_and, and_true, and_self, not_true_eq_false, not_false_eq_true, true_implies, false_implies, reduceCtorEq]
    · rw [if_neg y] at d2
      rcases hPo with rfl | rfl <;> simp (config := { decide := true }) (disch := first | decide | assumption | omega | (simp (config := { decide := true }) only [km_sr_sf, km_sr_of, km_up_of, km_up_o, km_upx_i, km_upx_s, km_fl2_o, ne_eq, not_true_eq_false, not_false_eq_true] <;> omega) | fail) only [g_X11_lookAt, wc, bc, hq1, nm, a3, p1, p2, y, d2, ka_lt, ka_le, ka_nlt, ka_nle, ka_ne, ka_eq, Int.add_sub_cancel, true_or, or_true, false_or, or_false, false_and, and_false, if_true, if_false, ka_lo, ka_hi, ka_nn, km_sr_sf, km_sr_of, km_up_of, km_sr_us, km_sr_uo, km_sr_sr, km_sr_fl, km_sr_flo, km_up_up, km_up_lt, km_lay, km_unL, km_up_o, km_upx_i, km_upx_s, km_fl2_o, km_is, Option.some.injEq, Sum.inl.injEq, Sum.inr.injEq, Option.toList_some, Option.toList_none, List.cons_append, List.nil_append, ne_eq, true_and, and_true, and_self, not_true_eq_false, not_false_eq_true, true_implies, false_implies, reduceCtorEq]
  · rw [if_neg z] at nm
    obtain ⟨M2, d1, d2⟩ := @cl_lookOpt q c s m M o (-1) (kcnt (kC m o) (m 5 1).toNat) hB hT hO nM jM o0 o1
    obtain ⟨e1, e2⟩ := fin M M2 (-1) ⟨jM, rM, nM⟩ e9 (fun w => absurd w z) d1
    refine ⟨M2, e1, e2, fun Q => ?_⟩
    rw [e_X11_lookAt]
    rcases hPo with rfl | rfl <;> simp (config := { decide := true }) (disch := first | decide | assumption | omega | (simp (config := { decide := true }) only [km_sr_sf, km_sr_of, km_up_of, km_up_o, km_upx_i, km_upx_s, km_fl2_o, ne_eq, not_true_eq_false, not_false_eq_true] <;> omega) | fail) only [g_X11_lookAt, wc, bc, hq1, nm, d2, ka_lt, ka_le, ka_nlt, ka_nle, ka_ne, ka_eq, Int.add_sub_cancel, true_or, or_true, false_or, or_false, false_and, and_false, if_true, if_false, ka_lo, ka_hi, ka_nn, km_sr_sf, km_sr_of, km_up_of, km_sr_us, km_sr_uo, km_sr_sr, km_sr_fl, km_sr_flo, km_up_up, km_up_lt, km_lay, km_unL, km_up_o, km_upx_i, km_upx_s, km_fl2_o, km_is, Option.some.injEq, Sum.inl.injEq, Sum.inr.injEq, Option.toList_some, Option.toList_none, List.cons_append, List.nil_append, ne_eq, true_and, and_true, and_self, not_true_eq_false, not_false_eq_true, true_implies, false_implies, reduceCtorEq]
/-- the sum of what all ALIVE REGRET -/
noncomputable def kRa (m : km_Mm) (o : Int) : Nat → Int
  | 0 => 0
  | n + 1 => kRa m o n + (@ite Int (kA m n) (Classical.propDecidable _) (m (23 + o) n) 0)
theorem kRa_b (hO : kI_opt m) (o0 : 0 ≤ o) (o1 : o < m 19 1) : ∀ n : Nat, n ≤ 10 → 0 ≤ kRa m o n ∧ kRa m o n ≤ 100 * n := by
  intro n
  induction n with
  | zero => intro _; exact ⟨Int.le_refl _, Int.le_refl _⟩
  | succ n ih =>
    intro hn
    have := ih (by omega)
    have rb := (hO.2.2 o n o0 o1 (by omega) (by omega)).1
    rw [kRa]
    split <;> omega
theorem cl_regrets (hB : kI_book m) (hO : kI_opt m) (hZ : kZ m M) (o0 : 0 ≤ o) (o1 : o < m 19 1) : km_E M_X6_regretInAll [.inr (.inr 19), .inl o] (km_A0 q c s) M Q ↔ Q (some (.inr (.inl (kRa m o (m 5 1).toNat)))) (km_A0 q c s) M := by
  obtain ⟨jM, rM, nM⟩ := hZ
  have f1 := hB.1
  have f4 := hO.1
  have e5 : M 5 1 = m 5 1 := jM 5 1 (by unfold kJ; omega)
  have rc := km_rowc22 q c s o0 (by omega)
  rw [show 22 + 1 + o = 23 + o by omega] at rc
  have r22 := fun j => km_row22 q c s j
  simp only [show (22 : Int) + 1 = 23 by decide] at r22
  have lp : ∀ (n i : Nat), (i : Int) + n = m 5 1 → (km_G M_X6_regretInAll 5 [some (.inr (.inr 19)), some (.inl o), some (.inr (.inl (kRa m o i))), none, some (.inl (i : Int))] [] (km_A0 q c s) M Q ↔ Q (some (.inr (.inl (kRa m o (m 5 1).toNat)))) (km_A0 q c s) M) := by
    intro n
    induction n with
    | zero =>
      intro i h
      have e : i = (m 5 1).toNat := by omega
      have z : ¬ (i : Int) < m 5 1 := by omega
      rw [← e, g_X6_regretInAll_5]
      simp (config := { decide := true }) (disch := first | decide | assumption | omega | (simp (config := { decide := true }) only [km_sr_sf, km_sr_of, km_up_of, km_up_o, km_upx_i, km_upx_s, km_fl2_o, ne_eq, not_true_eq_false, not_false_eq_true] <;> omega) | fail) only [g_X6_regretInAll, e5, z, ka_lt, ka_le, ka_nlt, ka_nle, ka_ne, ka_eq, Int.add_sub_cancel, true_or, or_true, false_or, or_false, false_and, and_false, if_true, if_false, ka_lo, ka_hi, ka_nn, km_sr_sf, km_sr_of, km_up_of, km_sr_us, km_sr_uo, km_sr_sr, km_sr_fl, km_sr_flo, km_up_up, km_up_lt, km_lay, km_unL, km_up_o, km_upx_i, km_upx_s, km_fl2_o, km_is, Option.some.injEq, Sum.inl.injEq, Sum.inr.injEq, Option.toList_some, Option.toList_none, List.cons_append, List.nil_append, ne_eq, true_and, and_true, and_self, not_true_eq_false, not_false_eq_true, true_implies, false_implies, reduceCtorEq]
    | succ n ih =>
      intro i h
      have z : (i : Int) < m 5 1 := by omega
      have kb := kRa_b hO o0 o1 i (by omega)
      have rb := (hO.2.2 o i o0 o1 (by omega) (by omega)).1
      have eo : M (23 + o) i = m (23 + o) i := jM _ _ (kJ_no (by omega))
      have al := fun Q => @cl_isAlive q c s m M i nM ⟨by omega, z⟩ f1.2.1 Q
      have n1 : 0 ≤ 23 + o := by omega
      have n2 : 23 + o < 185 := by omega
      rw [← ih (i + 1) (by omega), kRa, show ((i + 1 : Nat) : Int) = (i : Int) + 1 by omega, g_X6_regretInAll_5]
      by_cases a : kA m i
      · simp only [if_pos a] at al ⊢
        simp (config := { decide := true }) (disch := first | decide | assumption | omega | (simp (config := { decide := true }) only [km_sr_sf, km_sr_of, km_up_of, km_up_o, km_upx_i, km_upx_s, km_fl2_o, ne_eq, not_true_eq_false, not_false_eq_true] <;> omega) | fail) only [g_X6_regretInAll, r22, rc.1, rc.2, e5, z, al, eo, rb, kb, n1, n2, ka_lt, ka_le, ka_nlt, ka_nle, ka_ne, ka_eq, Int.add_sub_cancel, true_or, or_true, false_or, or_false, false_and, and_false, if_true, if_false, ka_lo, ka_hi, ka_nn, km_sr_sf, km_sr_of, km_up_of, km_sr_us, km_sr_uo, km_sr_sr, km_sr_fl, km_sr_flo, km_up_up, km_up_lt, km_lay, km_unL, km_up_o, km_upx_i, km_upx_s, km_fl2_o, km_is, Option.some.injEq, Sum.inl.injEq, Sum.inr.injEq, Option.toList_some, Option.toList_none, List.cons_append, List.nil_append, ne_eq, true_and, and_true, and_self, not_true_eq_false, not_false_eq_true, true_implies, false_implies, reduceCtorEq]
      · simp only [if_neg a] at al ⊢
        simp (config := { decide := true }) (disch := first | decide | assumption | omega | (simp (config := { decide := true }) only [km_sr_sf, km_sr_of, km_up_of, km_up_o, km_upx_i, km_upx_s, km_fl2_o, ne_eq, not_true_eq_false, not_false_eq_true] <;> omega) | fail) only [g_X6_regretInAll, r22, rc.1, rc.2, e5, z, al, eo, rb, kb, n1, n2, ka_lt, ka_le, ka_nlt, ka_nle, ka_ne, ka_eq, Int.add_sub_cancel, true_or, or_true, false_or, or_false, false_and, and_false, if_true, if_false, ka_lo, ka_hi, ka_nn, km_sr_sf, km_sr_of, km_up_of, km_sr_us, km_sr_uo, km_sr_sr, km_sr_fl, km_sr_flo, km_up_up, km_up_lt, km_lay, km_unL, km_up_o, km_upx_i, km_upx_s, km_fl2_o, km_is, Option.some.injEq, Sum.inl.injEq, Sum.inr.injEq, Option.toList_some, Option.toList_none, List.cons_append, List.nil_append, ne_eq, true_and, and_true, and_self, not_true_eq_false, not_false_eq_true, true_implies, false_implies, reduceCtorEq]
  rw [← lp (m 5 1).toNat 0 (by omega), e_X6_regretInAll]
  show _ ↔ km_G M_X6_regretInAll 5 [some (.inr (.inr 19)), some (.inl o), some (.inr (.inl 0)), none, some (.inl 0)] [] (km_A0 q c s) M Q
  simp (config := { decide := true }) (disch := first | decide | assumption | omega | (simp (config := { decide := true }) only [km_sr_sf, km_sr_of, km_up_of, km_up_o, km_upx_i, km_upx_s, km_fl2_o, ne_eq, not_true_eq_false, not_false_eq_true] <;> omega) | fail) only [g_X6_regretInAll, ka_lt, ka_le, ka_nlt, ka_nle, ka_ne, ka_eq, Int.add_sub_cancel, true_or, or_true, false_or, or_false, false_and, and_false, if_true, if_false, ka_lo, ka_hi, ka_nn, km_sr_sf, km_sr_of, km_up_of, km_sr_us, km_sr_uo, km_sr_sr, km_sr_fl, km_sr_flo, km_up_up, km_up_lt, km_lay, km_unL, km_up_o, km_upx_i, km_upx_s, km_fl2_o, km_is, Option.some.injEq, Sum.inl.injEq, Sum.inr.injEq, Option.toList_some, Option.toList_none, List.cons_append, List.nil_append, ne_eq, true_and, and_true, and_self, not_true_eq_false, not_false_eq_true, true_implies, false_implies, reduceCtorEq]
end HL

