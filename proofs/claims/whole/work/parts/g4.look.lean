/-! ===== the class's machine looks at an OPTION, at a BRANCH: the rest ===== -/
theorem kN_cg {m M X : km_Mm} (h : kN m M) (k : ∀ b j : Int, b = 5 ∨ (16 ≤ b ∧ b ≤ 18) → X b j = M b j) : kN m X := by
  obtain ⟨n1, n2, n3, n4, n5⟩ := h
  refine ⟨(k 5 8 (by omega)).trans n1, fun i i0 i1 => (k 16 i (by omega)).trans (n2 i i0 i1), fun a a0 a1 => ⟨(k 17 a (by omega)).trans (n3 a a0 a1).1, (k 18 a (by omega)).trans (n3 a a0 a1).2⟩, ?_, fun x x0 => ?_⟩
  · rw [k 5 12 (by omega)]; exact n4
  · rw [k 5 12 (by omega)]; exact n5 x x0
section KL
variable {q : Nat × Int × Int × Int × Int} {c s : Nat} {m M : km_Mm} {N o p b P ln fare come : Int}
def kLO (m M M' : km_Mm) (o fare come : Int) : Prop := (∀ d j : Int, ¬ (d = 69 ∧ j = 2) → d ≠ 70 → ¬ (73 ≤ d ∧ d ≤ 79) → M' d j = M d j) ∧ M' 69 2 = -1 ∧ (M' 70 0 = m 20 o ∧ M' 70 1 = m 21 o ∧ M' 70 2 = fare ∧ M' 70 3 = come) ∧ (∀ k : Int, 0 ≤ k → k < m 5 1 → (M' 73 k = m 7 k ∧ M' 74 k = m 8 k ∧ M' 75 k = kLg m (m 5 3) k (m 5 2) ∧ M' 76 k = m 9 k) ∧ M' 77 k = (if kQ m o k < 100 then 1 else 0) ∧ M' 78 k = kQ m o k ∧ M' 79 k = m (30 + m 7 k) (m 20 o))
theorem cl_lookOpt (hb : kI_book m) (hT : kI_trait m) (hO : kI_opt m) (hN : kN m M) (hj : km_jk m M) (o0 : 0 ≤ o) (o1 : o < m 19 1) : ∃ M' : km_Mm, kLO m M M' o fare come ∧ ∀ Q : Option km_V → km_Al → km_Mm → Prop, km_E M_X4_lookAtOption [.inr (.inr 69), .inl o, .inl fare, .inl come] (km_A0 q c s) M Q ↔ Q none (km_A0 q c s) M' := by
  obtain ⟨b1, b2, b3, -⟩ := id hb
  have o6 := hO.1
  have op := hO.2.1 o o0 o1
  have e20 : M 20 o = m 20 o := hj 20 o (kJ_no (by decide))
  have e21 : M 21 o = m 21 o := hj 21 o (kJ_no (by decide))
  obtain ⟨M0, hM0⟩ : ∃ M0 : km_Mm, M0 = km_up (km_up (km_up (km_up M 70 0 (m 20 o)) 70 1 (m 21 o)) 70 2 fare) 70 3 come := ⟨_, rfl⟩
  have f0 : ∀ d j : Int, d ≠ 70 → M0 d j = M d j := fun d j hd => by rw [hM0, km_up_o hd, km_up_o hd, km_up_o hd, km_up_o hd]
  have v0 : M0 70 0 = m 20 o ∧ M0 70 1 = m 21 o ∧ M0 70 2 = fare ∧ M0 70 3 = come := by
    rw [hM0]
    refine ⟨?_, ?_, ?_, km_upx_s⟩
    · rw [km_upx_i (by decide), km_upx_i (by decide), km_upx_i (by decide), km_upx_s]
    · rw [km_upx_i (by decide), km_upx_i (by decide), km_upx_s]
    · rw [km_upx_i (by decide), km_upx_s]
  have j0 : km_jk m M0 := fun d j z => (f0 d j (fun e => z (by unfold kJ; omega))).trans (hj d j z)
  have n0 : kN m M0 := kN_cg hN (fun d j hd => f0 d j (by omega))
  obtain ⟨M1, g1, g2, g3, g4⟩ := @cl_lookKin q c s m M0 hb hT n0 j0
  have lp : ∀ (n : Nat) (i : Int) (X : km_Mm), 0 ≤ i → i + n = m 5 1 → (∀ d j : Int, ¬ (77 ≤ d ∧ d ≤ 79) → X d j = M1 d j) → (∀ k : Int, 0 ≤ k → k < i → X 77 k = (if kQ m o k < 100 then 1 else 0) ∧ X 78 k = kQ m o k ∧ X 79 k = m (30 + m 7 k) (m 20 o)) → ∃ M' : km_Mm, (∀ d j : Int, ¬ (77 ≤ d ∧ d ≤ 79) → M' d j = M1 d j) ∧ (∀ k : Int, 0 ≤ k → k < m 5 1 → M' 77 k = (if kQ m o k < 100 then 1 else 0) ∧ M' 78 k = kQ m o k ∧ M' 79 k = m (30 + m 7 k) (m 20 o)) ∧ ∀ (o6 : Option km_V) (Q : Option km_V → km_Al → km_Mm → Prop), km_G M_X4_lookAtOption 59 [some (.inr (.inr 69)), some (.inl o), some (.inl fare), some (.inl come), some (.inl (m 20 o)), some (.inl i), o6] [] (km_A0 q c s) X Q ↔ Q none (km_A0 q c s) M' := by
    intro n
    induction n with
    | zero =>
      intro i X i0 hi hX hk
      have eX : X 5 1 = m 5 1 := by rw [hX 5 1 (by omega), g1 5 1 (by omega) (by omega)]; exact j0 5 1 (by unfold kJ; omega)
      have z : ¬ i < m 5 1 := by omega
      refine ⟨X, hX, fun k k0 k1 => hk k k0 (by omega), fun o6 Q => ?_⟩
      rw [g_X4_lookAtOption_59]
      simp (config := { decide := true }) (disch := first | decide | assumption | omega | (simp (config := { decide := true }) only [km_sr_sf, km_sr_of, km_up_of, km_up_o, km_upx_i, km_upx_s, km_fl2_o, ne_eq, not_true_eq_false, not_false_eq_true] <;> omega) | fail) only [g_X4_lookAtOption, eX, z, ka_lt, ka_le, ka_nlt, ka_nle, ka_ne, ka_eq, Int.add_sub_cancel, true_or, or_true, false_or, or_false, false_and, and_false, if_true, if_false, ka_lo, ka_hi, ka_nn, km_sr_sf, km_sr_of, km_up_of, km_sr_us, km_sr_uo, km_sr_sr, km_sr_fl, km_sr_flo, km_up_up, km_up_lt, km_lay, km_unL, km_up_o, km_upx_i, km_upx_s, km_fl2_o, km_is, Option.some.injEq, Sum.inl.injEq, Sum.inr.injEq, Option.toList_some, Option.toList_none, List.cons_append, List.nil_append, ne_eq, true_and, and_true, and_self, not_true_eq_false, not_false_eq_true, true_implies, false_implies, reduceCtorEq]
    | succ n ih =>
      intro i X i0 hi hX hk
      have xm : ∀ d j : Int, ¬ kJ d j → X d j = m d j := fun d j hd => by rw [hX d j (fun w => hd (by unfold kJ; omega)), g1 d j (fun w => hd (by unfold kJ; omega)) (fun w => hd (by unfold kJ; omega))]; exact j0 d j hd
      have eX : X 5 1 = m 5 1 := xm 5 1 (by unfold kJ; omega)
      have z : i < m 5 1 := by omega
      have nX : kN m X := kN_cg n0 (fun d j hd => by rw [hX d j (by omega), g1 d j (by omega) (by omega)])
      have tr := (hT i i0 z).2.1
      have t7 : X 7 i = m 7 i := xm 7 i (kJ_no (by omega))
      have ml : X (30 + m 7 i) (m 20 o) = m (30 + m 7 i) (m 20 o) := xm _ _ (kJ_no (by omega))
      have rg := fun Q => @cl_regretOf q c s m X o i nX xm (by omega) o0 (by omega) i0 z Q
      obtain ⟨M', f1, f3, f4⟩ := ih (i + 1) (km_up (km_up (km_up X 77 i (if kQ m o i < 100 then 1 else 0)) 78 i (kQ m o i)) 79 i (m (30 + m 7 i) (m 20 o))) (by omega) (by omega) (fun d j d1 => by
        rw [km_up_ne (by omega), km_up_ne (by omega), km_up_ne (by omega)]; exact hX d j d1) (fun k k0 k1 => by
        by_cases y : k = i
        · rw [y]
          refine ⟨?_, ?_, km_upx_s⟩
          · rw [km_up_o (by decide), km_up_o (by decide), km_upx_s]
          · rw [km_up_o (by decide), km_upx_s]
        · have hh := hk k k0 (by omega)
          refine ⟨?_, ?_, ?_⟩
          · rw [km_up_ne (by omega), km_up_ne (by omega), km_up_ne (by omega)]; exact hh.1
          · rw [km_up_ne (by omega), km_up_ne (by omega), km_up_ne (by omega)]; exact hh.2.1
          · rw [km_up_ne (by omega), km_up_ne (by omega), km_up_ne (by omega)]; exact hh.2.2)
      refine ⟨M', f1, f3, fun o6 Q => ?_⟩
      have rc := km_rowc29 q c s tr.1 tr.2
      rw [show 29 + 1 + m 7 i = 30 + m 7 i by omega] at rc
      have r29 := fun j => km_row29 q c s j
      simp only [show (29 : Int) + 1 = 30 by decide] at r29
      have n1 : 0 ≤ 30 + m 7 i := by omega
      have n2 : 30 + m 7 i < 185 := by omega
      have ob := op.2.1
      rw [← f4 (some (.inl (kQ m o i))) Q, g_X4_lookAtOption_59]
      by_cases y : kQ m o i < 100
      · have y2 : ¬ 100 ≤ kQ m o i := by omega
        rw [if_pos y]
        simp (config := { decide := true }) (disch := first | decide | assumption | omega | (simp (config := { decide := true }) only [km_sr_sf, km_sr_of, km_up_of, km_up_o, km_upx_i, km_upx_s, km_fl2_o, ne_eq, not_true_eq_false, not_false_eq_true] <;> omega) | fail) only [g_X4_lookAtOption, km_row6, km_row72, Int.reduceAdd, r29, rc.1, rc.2, eX, z, t7, ml, tr, ob, rg, y, y2, n1, n2, ka_lt, ka_le, ka_nlt, ka_nle, ka_ne, ka_eq, Int.add_sub_cancel, true_or, or_true, false_or, or_false, false_and, and_false, if_true, if_false, ka_lo, ka_hi, ka_nn, km_sr_sf, km_sr_of, km_up_of, km_sr_us, km_sr_uo, km_sr_sr, km_sr_fl, km_sr_flo, km_up_up, km_up_lt, km_lay, km_unL, km_up_o, km_upx_i, km_upx_s, km_fl2_o, km_is, Option.some.injEq, Sum.inl.injEq, Sum.inr.injEq, Option.toList_some, Option.toList_none, List.cons_append, List.nil_append, ne_eq, true_and, and_true, and_self, not_true_eq_false, not_false_eq_true, true_implies, false_implies, reduceCtorEq]
      · have y2 : 100 ≤ kQ m o i := by omega
        rw [if_neg y]
        simp (config := { decide := true }) (disch := first | decide | assumption | omega | (simp (config := { decide := true }) only [km_sr_sf, km_sr_of, km_up_of, km_up_o, km_upx_i, km_upx_s, km_fl2_o, ne_eq, not_true_eq_false, not_false_eq_true] <;> omega) | fail) only [g_X4_lookAtOption, km_row6, km_row72, Int.reduceAdd, r29, rc.1, rc.2, eX, z, t7, ml, tr, ob, rg, y, y2, n1, n2, ka_lt, ka_le, ka_nlt, ka_nle, ka_ne, ka_eq, Int.add_sub_cancel, true_or, or_true, false_or, or_false, false_and, and_false, if_true, if_false, ka_lo, ka_hi, ka_nn, km_sr_sf, km_sr_of, km_up_of, km_sr_us, km_sr_uo, km_sr_sr, km_sr_fl, km_sr_flo, km_up_up, km_up_lt, km_lay, km_unL, km_up_o, km_upx_i, km_upx_s, km_fl2_o, km_is, Option.some.injEq, Sum.inl.injEq, Sum.inr.injEq, Option.toList_some, Option.toList_none, List.cons_append, List.nil_append, ne_eq, true_and, and_true, and_self, not_true_eq_false, not_false_eq_true, true_implies, false_implies, reduceCtorEq]
  obtain ⟨M', f1, f3, f4⟩ := lp (m 5 1).toNat 0 M1 (Int.le_refl _) (by omega) (fun _ _ _ => rfl) (fun k k0 k1 => by omega)
  refine ⟨M', ⟨fun d j d1 d2 d3 => ?_, ?_, ?_, fun k k0 k1 => ⟨?_, f3 k k0 k1⟩⟩, fun Q => ?_⟩
  · rw [f1 d j (by omega), g1 d j d1 (by omega)]; exact f0 d j d2
  · rw [f1 69 2 (by omega)]; exact g2
  · rw [f1 70 0 (by omega), f1 70 1 (by omega), f1 70 2 (by omega), f1 70 3 (by omega), g1 70 0 (by omega) (by omega), g1 70 1 (by omega) (by omega), g1 70 2 (by omega) (by omega), g1 70 3 (by omega) (by omega)]
    exact v0
  · rw [f1 73 k (by omega), f1 74 k (by omega), f1 75 k (by omega), f1 76 k (by omega)]
    exact g3 k k0 k1
  · rw [← f4 none Q, e_X4_lookAtOption]
    rw [hM0] at g4
    simp (config := { decide := true }) (disch := first | decide | assumption | omega | (simp (config := { decide := true }) only [km_sr_sf, km_sr_of, km_up_of, km_up_o, km_upx_i, km_upx_s, km_fl2_o, ne_eq, not_true_eq_false, not_false_eq_true] <;> omega) | fail) only [g_X4_lookAtOption, e20, e21, o0, o1, o6, g4, ka_lt, ka_le, ka_nlt, ka_nle, ka_ne, ka_eq, Int.add_sub_cancel, true_or, or_true, false_or, or_false, false_and, and_false, if_true, if_false, ka_lo, ka_hi, ka_nn, km_sr_sf, km_sr_of, km_up_of, km_sr_us, km_sr_uo, km_sr_sr, km_sr_fl, km_sr_flo, km_up_up, km_up_lt, km_lay, km_unL, km_up_o, km_upx_i, km_upx_s, km_fl2_o, km_is, Option.some.injEq, Sum.inl.injEq, Sum.inr.injEq, Option.toList_some, Option.toList_none, List.cons_append, List.nil_append, ne_eq, true_and, and_true, and_self, not_true_eq_false, not_false_eq_true, true_implies, false_implies, reduceCtorEq]
def kLB (m M M' : km_Mm) (b times last people : Int) : Prop := (∀ d j : Int, ¬ (d = 69 ∧ j = 2) → d ≠ 71 → ¬ (73 ≤ d ∧ d ≤ 76) → d ≠ 83 → M' d j = M d j) ∧ M' 69 2 = -1 ∧ (M' 71 0 = times ∧ M' 71 1 = last ∧ M' 71 2 = people) ∧ (∀ k : Int, 0 ≤ k → k < m 5 1 → (M' 73 k = m 7 k ∧ M' 74 k = m 8 k ∧ M' 75 k = kLg m (m 5 3) k (m 5 2) ∧ M' 76 k = m 9 k) ∧ M' 83 k = (if m 8 k = b then 1 else 0))
theorem cl_lookBr {times last people : Int} (hb : kI_book m) (hT : kI_trait m) (hN : kN m M) (hj : km_jk m M) : ∃ M' : km_Mm, kLB m M M' b times last people ∧ ∀ Q : Option km_V → km_Al → km_Mm → Prop, km_E M_X4_lookAtBranch [.inr (.inr 69), .inl b, .inl times, .inl last, .inl people] (km_A0 q c s) M Q ↔ Q none (km_A0 q c s) M' := by
  obtain ⟨b1, b2, b3, -⟩ := id hb
  obtain ⟨M0, hM0⟩ : ∃ M0 : km_Mm, M0 = km_up (km_up (km_up M 71 0 times) 71 1 last) 71 2 people := ⟨_, rfl⟩
  have f0 : ∀ d j : Int, d ≠ 71 → M0 d j = M d j := fun d j hd => by rw [hM0, km_up_o hd, km_up_o hd, km_up_o hd]
  have v0 : M0 71 0 = times ∧ M0 71 1 = last ∧ M0 71 2 = people := by
    rw [hM0]
    refine ⟨?_, ?_, km_upx_s⟩
    · rw [km_upx_i (by decide), km_upx_i (by decide), km_upx_s]
    · rw [km_upx_i (by decide), km_upx_s]
  have j0 : km_jk m M0 := fun d j z => (f0 d j (fun e => z (by unfold kJ; omega))).trans (hj d j z)
  have n0 : kN m M0 := kN_cg hN (fun d j hd => f0 d j (by omega))
  obtain ⟨M1, g1, g2, g3, g4⟩ := @cl_lookKin q c s m M0 hb hT n0 j0
  have lp : ∀ (n : Nat) (i : Int) (X : km_Mm), 0 ≤ i → i + n = m 5 1 → (∀ d j : Int, d ≠ 83 → X d j = M1 d j) → (∀ k : Int, 0 ≤ k → k < i → X 83 k = (if m 8 k = b then 1 else 0)) → ∃ M' : km_Mm, (∀ d j : Int, d ≠ 83 → M' d j = M1 d j) ∧ (∀ k : Int, 0 ≤ k → k < m 5 1 → M' 83 k = (if m 8 k = b then 1 else 0)) ∧ ∀ (Q : Option km_V → km_Al → km_Mm → Prop), km_G M_X4_lookAtBranch 32 [some (.inr (.inr 69)), some (.inl b), some (.inl times), some (.inl last), some (.inl people), some (.inl i)] [] (km_A0 q c s) X Q ↔ Q none (km_A0 q c s) M' := by
    intro n
    induction n with
    | zero =>
      intro i X i0 hi hX hk
      have eX : X 5 1 = m 5 1 := by rw [hX 5 1 (by omega), g1 5 1 (by omega) (by omega)]; exact j0 5 1 (by unfold kJ; omega)
      have z : ¬ i < m 5 1 := by omega
      refine ⟨X, hX, fun k k0 k1 => hk k k0 (by omega), fun Q => ?_⟩
      rw [g_X4_lookAtBranch_32]
      simp (config := { decide := true }) (disch := first | decide | assumption | omega | (simp (config := { decide := true }) only [km_sr_sf, km_sr_of, km_up_of, km_up_o, km_upx_i, km_upx_s, km_fl2_o, ne_eq, not_true_eq_false, not_false_eq_true] <;> omega) | fail) only [g_X4_lookAtBranch, eX, z, ka_lt, ka_le, ka_nlt, ka_nle, ka_ne, ka_eq, Int.add_sub_cancel, true_or, or_true, false_or, or_false, false_and, and_false, if_true, if_false, ka_lo, ka_hi, ka_nn, km_sr_sf, km_sr_of, km_up_of, km_sr_us, km_sr_uo, km_sr_sr, km_sr_fl, km_sr_flo, km_up_up, km_up_lt, km_lay, km_unL, km_up_o, km_upx_i, km_upx_s, km_fl2_o, km_is, Option.some.injEq, Sum.inl.injEq, Sum.inr.injEq, Option.toList_some, Option.toList_none, List.cons_append, List.nil_append, ne_eq, true_and, and_true, and_self, not_true_eq_false, not_false_eq_true, true_implies, false_implies, reduceCtorEq]
    | succ n ih =>
      intro i X i0 hi hX hk
      have xm : ∀ d j : Int, ¬ kJ d j → X d j = m d j := fun d j hd => by rw [hX d j (fun w => hd (by unfold kJ; omega)), g1 d j (fun w => hd (by unfold kJ; omega)) (fun w => hd (by unfold kJ; omega))]; exact j0 d j hd
      have eX : X 5 1 = m 5 1 := xm 5 1 (by unfold kJ; omega)
      have z : i < m 5 1 := by omega
      have t8 : X 8 i = m 8 i := xm 8 i (kJ_no (by omega))
      obtain ⟨M', f1, f3, f4⟩ := ih (i + 1) (km_up X 83 i (if m 8 i = b then 1 else 0)) (by omega) (by omega) (fun d j d1 => by rw [km_up_ne (by omega)]; exact hX d j d1) (fun k k0 k1 => by
        by_cases y : k = i
        · rw [y, km_upx_s]
        · rw [km_up_ne (by omega)]; exact hk k k0 (by omega))
      refine ⟨M', f1, f3, fun Q => ?_⟩
      rw [← f4 Q, g_X4_lookAtBranch_32]
      by_cases y : m 8 i = b
      · rw [if_pos y]
        simp (config := { decide := true }) (disch := first | decide | assumption | omega | (simp (config := { decide := true }) only [km_sr_sf, km_sr_of, km_up_of, km_up_o, km_upx_i, km_upx_s, km_fl2_o, ne_eq, not_true_eq_false, not_false_eq_true] <;> omega) | fail) only [g_X4_lookAtBranch, km_row6, km_row72, Int.reduceAdd, eX, z, t8, y, ka_lt, ka_le, ka_nlt, ka_nle, ka_ne, ka_eq, Int.add_sub_cancel, true_or, or_true, false_or, or_false, false_and, and_false, if_true, if_false, ka_lo, ka_hi, ka_nn, km_sr_sf, km_sr_of, km_up_of, km_sr_us, km_sr_uo, km_sr_sr, km_sr_fl, km_sr_flo, km_up_up, km_up_lt, km_lay, km_unL, km_up_o, km_upx_i, km_upx_s, km_fl2_o, km_is, Option.some.injEq, Sum.inl.injEq, Sum.inr.injEq, Option.toList_some, Option.toList_none, List.cons_append, List.nil_append, ne_eq, true_and, and_true, and_self, not_true_eq_false, not_false_eq_true, true_implies, false_implies, reduceCtorEq]
      · rw [if_neg y]
        simp (config := { decide := true }) (disch := first | decide | assumption | omega | (simp (config := { decide := true }) only [km_sr_sf, km_sr_of, km_up_of, km_up_o, km_upx_i, km_upx_s, km_fl2_o, ne_eq, not_true_eq_false, not_false_eq_true] <;> omega) | fail) only [g_X4_lookAtBranch, km_row6, km_row72, Int.reduceAdd, eX, z, t8, y, ka_lt, ka_le, ka_nlt, ka_nle, ka_ne, ka_eq, Int.add_sub_cancel, true_or, or_true, false_or, or_false, false_and, and_false, if_true, if_false, ka_lo, ka_hi, ka_nn, km_sr_sf, km_sr_of, km_up_of, km_sr_us, km_sr_uo, km_sr_sr, km_sr_fl, km_sr_flo, km_up_up, km_up_lt, km_lay, km_unL, km_up_o, km_upx_i, km_upx_s, km_fl2_o, km_is, Option.some.injEq, Sum.inl.injEq, Sum.inr.injEq, Option.toList_some, Option.toList_none, List.cons_append, List.nil_append, ne_eq, true_and, and_true, and_self, not_true_eq_false, not_false_eq_true, true_implies, false_implies, reduceCtorEq]
  obtain ⟨M', f1, f3, f4⟩ := lp (m 5 1).toNat 0 M1 (Int.le_refl _) (by omega) (fun _ _ _ => rfl) (fun k k0 k1 => by omega)
  refine ⟨M', ⟨fun d j d1 d2 d3 d4 => ?_, ?_, ?_, fun k k0 k1 => ⟨?_, f3 k k0 k1⟩⟩, fun Q => ?_⟩
  · rw [f1 d j (by omega), g1 d j d1 (by omega)]; exact f0 d j d2
  · rw [f1 69 2 (by omega)]; exact g2
  · rw [f1 71 0 (by omega), f1 71 1 (by omega), f1 71 2 (by omega), g1 71 0 (by omega) (by omega), g1 71 1 (by omega) (by omega), g1 71 2 (by omega) (by omega)]
    exact v0
  · rw [f1 73 k (by omega), f1 74 k (by omega), f1 75 k (by omega), f1 76 k (by omega)]
    exact g3 k k0 k1
  · rw [← f4 Q, e_X4_lookAtBranch]
    rw [hM0] at g4
    simp (config := { decide := true }) (disch := first | decide | assumption | omega | (simp (config := { decide := true }) only [km_sr_sf, km_sr_of, km_up_of, km_up_o, km_upx_i, km_upx_s, km_fl2_o, ne_eq, not_true_eq_false, not_false_eq_true] <;> omega) | fail) only [g_X4_lookAtBranch, g4, ka_lt, ka_le, ka_nlt, ka_nle, ka_ne, ka_eq, Int.add_sub_cancel, true_or, or_true, false_or, or_false, false_and, and_false, if_true, if_false, ka_lo, ka_hi, ka_nn, km_sr_sf, km_sr_of, km_up_of, km_sr_us, km_sr_uo, km_sr_sr, km_sr_fl, km_sr_flo, km_up_up, km_up_lt, km_lay, km_unL, km_up_o, km_upx_i, km_upx_s, km_fl2_o, km_is, Option.some.injEq, Sum.inl.injEq, Sum.inr.injEq, Option.toList_some, Option.toList_none, List.cons_append, List.nil_append, ne_eq, true_and, and_true, and_self, not_true_eq_false, not_false_eq_true, true_implies, false_implies, reduceCtorEq]
end KL

