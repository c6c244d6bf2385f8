/-! ===== the class's machine looks at an OPTION, at a BRANCH ===== -/
section KL
variable {q : Nat × Int × Int × Int × Int} {c s : Nat} {m M : km_Mm} {N o p b P ln : Int}
theorem cl_lookKin (hb : kI_book m) (hT : kI_trait m) (hN : kN m M) (hj : km_jk m M) : ∃ M' : km_Mm, (∀ d j : Int, ¬ (d = 69 ∧ j = 2) → ¬ (73 ≤ d ∧ d ≤ 76) → M' d j = M d j) ∧ M' 69 2 = -1 ∧ (∀ k : Int, 0 ≤ k → k < m 5 1 → M' 73 k = m 7 k ∧ M' 74 k = m 8 k ∧ M' 75 k = kLg m (m 5 3) k (m 5 2) ∧ M' 76 k = m 9 k) ∧ ∀ Q : Option km_V → km_Al → km_Mm → Prop, km_E M_X4_lookAtKin [.inr (.inr 69)] (km_A0 q c s) M Q ↔ Q none (km_A0 q c s) M' := by
  obtain ⟨b1, b2, b3, -⟩ := id hb
  obtain ⟨n1, n2, n3, n4, n5⟩ := hN
  have e51 : M 5 1 = m 5 1 := hj 5 1 (by unfold kJ; omega)
  have e52 : M 5 2 = m 5 2 := hj 5 2 (by unfold kJ; omega)
  have e7 : ∀ r j : Int, 7 ≤ r → r ≤ 9 → M r j = m r j := fun r j r1 r2 => hj r j (kJ_no (by omega))
  have lp : ∀ (n : Nat) (i : Int) (X : km_Mm), 0 ≤ i → i + n = m 5 1 → (∀ d j : Int, ¬ (d = 69 ∧ j = 2) → ¬ (73 ≤ d ∧ d ≤ 76) → X d j = M d j) → X 69 2 = -1 → (∀ k : Int, 0 ≤ k → k < i → X 73 k = m 7 k ∧ X 74 k = m 8 k ∧ X 75 k = kLg m (m 5 3) k (m 5 2) ∧ X 76 k = m 9 k) → ∃ M' : km_Mm, (∀ d j : Int, ¬ (d = 69 ∧ j = 2) → ¬ (73 ≤ d ∧ d ≤ 76) → M' d j = M d j) ∧ M' 69 2 = -1 ∧ (∀ k : Int, 0 ≤ k → k < m 5 1 → M' 73 k = m 7 k ∧ M' 74 k = m 8 k ∧ M' 75 k = kLg m (m 5 3) k (m 5 2) ∧ M' 76 k = m 9 k) ∧ ∀ Q : Option km_V → km_Al → km_Mm → Prop, km_G M_X4_lookAtKin 7 [some (.inr (.inr 69)), some (.inl i)] [] (km_A0 q c s) X Q ↔ Q none (km_A0 q c s) M' := by
    intro n
    induction n with
    | zero =>
      intro i X i0 hi hX h2 hk
      have eX : X 5 1 = m 5 1 := (hX 5 1 (by omega) (by omega)).trans e51
      have z : ¬ i < m 5 1 := by omega
      refine ⟨X, hX, h2, fun k k0 k1 => hk k k0 (by omega), fun Q => ?_⟩
      rw [g_X4_lookAtKin_7]
      simp (config := { decide := true }) (disch := first | decide | assumption | omega | (simp (config := { decide := true }) only [km_sr_sf, km_sr_of, km_up_of, km_up_o, km_upx_i, km_upx_s, km_fl2_o, ne_eq, not_true_eq_false, not_false_eq_true] <;> omega) | fail) only [g_X4_lookAtKin, eX, z, ka_lt, ka_le, ka_nlt, ka_nle, ka_ne, ka_eq, Int.add_sub_cancel, true_or, or_true, false_or, or_false, false_and, and_false, if_true, if_false, ka_lo, ka_hi, ka_nn, km_sr_sf, km_sr_of, km_up_of, km_sr_us, km_sr_uo, km_sr_sr, km_sr_fl, km_sr_flo, km_up_up, km_up_lt, km_lay, km_unL, km_up_o, km_upx_i, km_upx_s, km_fl2_o, km_is, Option.some.injEq, Sum.inl.injEq, Sum.inr.injEq, Option.toList_some, Option.toList_none, List.cons_append, List.nil_append, ne_eq, true_and, and_true, and_self, not_true_eq_false, not_false_eq_true, true_implies, false_implies, reduceCtorEq]
    | succ n ih =>
      intro i X i0 hi hX h2 hk
      have eX : X 5 1 = m 5 1 := (hX 5 1 (by omega) (by omega)).trans e51
      have eY : X 5 2 = m 5 2 := (hX 5 2 (by omega) (by omega)).trans e52
      have z : i < m 5 1 := by omega
      have t7 : X 7 i = m 7 i := (hX 7 i (by omega) (by omega)).trans (e7 7 i (by decide) (by decide))
      have t8 : X 8 i = m 8 i := (hX 8 i (by omega) (by omega)).trans (e7 8 i (by decide) (by decide))
      have t9 : X 9 i = m 9 i := (hX 9 i (by omega) (by omega)).trans (e7 9 i (by decide) (by decide))
      have t17 : X 17 i = km_read (m 5 3) m 17 i := (hX 17 i (by omega) (by omega)).trans (n3 i i0 (by omega)).1
      obtain ⟨c1, c2⟩ := kI_cnt hb b3.1 (Int.le_refl _) (C := m 130)
      have fr2 : kI_fresh m (km_sr m 130 (kq_kn (m 126) (m 127) (m 5 3).toNat (kq_k0 (m 5 3) (m 130) 0))) (m 5 3) := by
        unfold kI_fresh
        simp (config := { decide := true }) only [Int.add_sub_cancel, true_or, or_true, false_or, or_false, false_and, and_false, if_true, if_false, km_sr_sf, km_sr_of, km_up_of, km_sr_us, km_sr_uo, km_sr_sr, km_sr_fl, km_sr_flo, km_up_up, km_up_lt, km_lay, km_unL, km_up_o, km_upx_i, km_upx_s, km_fl2_o, km_is, Option.some.injEq, Sum.inl.injEq, Sum.inr.injEq, Option.toList_some, Option.toList_none, List.cons_append, List.nil_append, ne_eq, true_and, and_true, and_self, not_true_eq_false, not_false_eq_true, true_implies, false_implies, reduceCtorEq]
        exact ⟨⟨b3.1, Int.le_refl _⟩, b3.2.2, c1, c2⟩
      have rg := (kI_al hb fr2 (a := i) ⟨i0, by omega⟩ b2.1).2.2
      have ag : ∀ (Z : km_Mm), Z 17 i = X 17 i → ∀ Q : Option km_V → km_Al → km_Mm → Prop, km_E M_X1_ageIn [.inr (.inr 5), .inl i, .inl (m 5 2)] (km_A0 q c s) Z Q ↔ Q (some (.inl (kLg m (m 5 3) i (m 5 2)))) (km_A0 q c s) Z := fun Z hZ Q => by
        rw [@r_ageIn q c s Z i (m 5 2) i0 (by omega) b2.1 b2.2.1 (by rw [hZ, t17]; exact rg) Q, hZ, t17]
        exact Iff.rfl
      obtain ⟨M', f1, f2, f3, f4⟩ := ih (i + 1) (km_up (km_up (km_up (km_up X 73 i (m 7 i)) 74 i (m 8 i)) 75 i (kLg m (m 5 3) i (m 5 2))) 76 i (m 9 i)) (by omega) (by omega) (fun d j d1 d2 => by
        rw [km_up_ne (by omega), km_up_ne (by omega), km_up_ne (by omega), km_up_ne (by omega)]; exact hX d j d1 d2) (by rw [km_up_ne (by omega), km_up_ne (by omega), km_up_ne (by omega), km_up_ne (by omega)]; exact h2) (fun k k0 k1 => by
        by_cases y : k = i
        · rw [y]
          refine ⟨?_, ?_, ?_, km_upx_s⟩
          · rw [km_up_o (by decide), km_up_o (by decide), km_up_o (by decide), km_upx_s]
          · rw [km_up_o (by decide), km_up_o (by decide), km_upx_s]
          · rw [km_up_o (by decide), km_upx_s]
        · have hh := hk k k0 (by omega)
          refine ⟨?_, ?_, ?_, ?_⟩
          · rw [km_up_ne (by omega), km_up_ne (by omega), km_up_ne (by omega), km_up_ne (by omega)]; exact hh.1
          · rw [km_up_ne (by omega), km_up_ne (by omega), km_up_ne (by omega), km_up_ne (by omega)]; exact hh.2.1
          · rw [km_up_ne (by omega), km_up_ne (by omega), km_up_ne (by omega), km_up_ne (by omega)]; exact hh.2.2.1
          · rw [km_up_ne (by omega), km_up_ne (by omega), km_up_ne (by omega), km_up_ne (by omega)]; exact hh.2.2.2)
      refine ⟨M', f1, f2, f3, fun Q => ?_⟩
      have a2 := ag (km_up (km_up X 73 i (m 7 i)) 74 i (m 8 i)) (by rw [km_up_ne (by omega), km_up_ne (by omega)])
      rw [← f4 Q, g_X4_lookAtKin_7]
      simp (config := { decide := true }) (disch := first | decide | assumption | omega | (simp (config := { decide := true }) only [km_sr_sf, km_sr_of, km_up_of, km_up_o, km_upx_i, km_upx_s, km_fl2_o, ne_eq, not_true_eq_false, not_false_eq_true] <;> omega) | fail) only [g_X4_lookAtKin, km_row6, km_row72, Int.reduceAdd, eX, eY, z, t7, t8, t9, a2, ka_lt, ka_le, ka_nlt, ka_nle, ka_ne, ka_eq, Int.add_sub_cancel, true_or, or_true, false_or, or_false, false_and, and_false, if_true, if_false, ka_lo, ka_hi, ka_nn, km_sr_sf, km_sr_of, km_up_of, km_sr_us, km_sr_uo, km_sr_sr, km_sr_fl, km_sr_flo, km_up_up, km_up_lt, km_lay, km_unL, km_up_o, km_upx_i, km_upx_s, km_fl2_o, km_is, Option.some.injEq, Sum.inl.injEq, Sum.inr.injEq, Option.toList_some, Option.toList_none, List.cons_append, List.nil_append, ne_eq, true_and, and_true, and_self, not_true_eq_false, not_false_eq_true, true_implies, false_implies, reduceCtorEq]
  obtain ⟨M', f1, f2, f3, f4⟩ := lp (m 5 1).toNat 0 (km_up M 69 2 (-1)) (Int.le_refl _) (by omega) (fun d j d1 d2 => km_up_ne d1) km_upx_s (fun k k0 k1 => by omega)
  refine ⟨M', f1, f2, f3, fun Q => ?_⟩
  rw [← f4 Q, e_X4_lookAtKin]
  simp (config := { decide := true }) (disch := first | decide | assumption | omega | (simp (config := { decide := true }) only [km_sr_sf, km_sr_of, km_up_of, km_up_o, km_upx_i, km_upx_s, km_fl2_o, ne_eq, not_true_eq_false, not_false_eq_true] <;> omega) | fail) only [g_X4_lookAtKin, ka_lt, ka_le, ka_nlt, ka_nle, ka_ne, ka_eq, Int.add_sub_cancel, true_or, or_true, false_or, or_false, false_and, and_false, if_true, if_false, ka_lo, ka_hi, ka_nn, km_sr_sf, km_sr_of, km_up_of, km_sr_us, km_sr_uo, km_sr_sr, km_sr_fl, km_sr_flo, km_up_up, km_up_lt, km_lay, km_unL, km_up_o, km_upx_i, km_upx_s, km_fl2_o, km_is, Option.some.injEq, Sum.inl.injEq, Sum.inr.injEq, Option.toList_some, Option.toList_none, List.cons_append, List.nil_append, ne_eq, true_and, and_true, and_self, not_true_eq_false, not_false_eq_true, true_implies, false_implies, reduceCtorEq]
end KL

