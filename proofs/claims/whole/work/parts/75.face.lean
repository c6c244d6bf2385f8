/-! ===== the face: option, kin, fault ===== -/
/-- every w-th place of a row, from w k + o on, n of them -/
def kq_ro (w o v : Int) : Nat → Int → (Int → Int) → (Int → Int)
  | 0, _, f => f
  | n + 1, k, f => kq_ro w o v n (k + 1) (km_u1 f (w * k + o) v)
theorem kq_ro_at {w o v : Int} (hw : 0 < w) {y : Int} (ho : 0 ≤ o ∧ o < w) (hy : 0 ≤ y ∧ y < w) : ∀ (n : Nat) (k x : Int) (f : Int → Int), kq_ro w o v n k f (w * x + y) = if k ≤ x ∧ x < k + n ∧ y = o then v else f (w * x + y) := by
  intro n
  induction n with
  | zero => intro k x f; unfold kq_ro; rw [if_neg (by omega)]
  | succ n ih =>
    intro k x f
    unfold kq_ro
    rw [ih (k + 1) x]
    have key : w * x + y = w * k + o ↔ x = k ∧ y = o := by
      constructor
      · intro h
        have e : w * x + y = y + w * x := Int.add_comm _ _
        have e2 : w * k + o = o + w * k := Int.add_comm _ _
        have h1 : (w * x + y) / w = x := by rw [e, Int.add_mul_ediv_left _ _ (by omega), Int.ediv_eq_zero_of_lt hy.1 hy.2]; omega
        have h2 : (w * k + o) / w = k := by rw [e2, Int.add_mul_ediv_left _ _ (by omega), Int.ediv_eq_zero_of_lt ho.1 ho.2]; omega
        have h3 : x = k := by rw [← h1, ← h2, h]
        subst h3
        exact ⟨rfl, by omega⟩
      · rintro ⟨rfl, rfl⟩; rfl
    by_cases z : x = k ∧ y = o
    · obtain ⟨rfl, rfl⟩ := z
      rw [if_neg (by omega), if_pos (by omega), km_u1_s]
    · rw [km_u1_o (fun w => z (key.mp w))]
      by_cases z2 : k + 1 ≤ x ∧ x < k + 1 + n ∧ y = o
      · rw [if_pos z2, if_pos (by omega)]
      · rw [if_neg z2, if_neg (by omega)]
theorem lp_moption_59 {q : Nat × Int × Int × Int × Int} {c s : Nat} {Q : Option km_V → km_Al → km_Mm → Prop} {l d : Int} {m : km_Mm} (hs : 0 ≤ m 123 63 ∧ m 123 63 < 6) {R : (Int → Int) → Prop} (hR : ∀ f : Int → Int, km_G M_X12_option 87 [some (.inr (.inr 123)), some (.inl l), some (.inl d), some (.inl 10)] [] (km_A0 q c s) (km_sr m 153 f) Q ↔ R f) : ∀ (n : Nat) (k : Int) (f : Int → Int), 0 ≤ k → k + n = 10 → (km_G M_X12_option 59 [some (.inr (.inr 123)), some (.inl l), some (.inl d), some (.inl k)] [] (km_A0 q c s) (km_sr m 153 f) Q ↔ km_G M_X12_option 87 [some (.inr (.inr 123)), some (.inl l), some (.inl d), some (.inl 10)] [] (km_A0 q c s) (km_sr m 153 (kq_ro 6 (m 123 63) 100 n k f)) Q) := by
  intro n
  induction n with
  | zero =>
    intro k f h0 h1
    have e2 : k = 10 := by omega
    subst e2
    rw [g_X12_option_59]
    simp (config := { decide := true }) (disch := first | decide | assumption | omega | (simp (config := { decide := true }) only [km_sr_sf, km_sr_of, km_up_of, km_up_o, km_upx_i, km_upx_s, km_fl2_o, ne_eq, not_true_eq_false, not_false_eq_true] <;> omega) | fail) only [g_X12_option, kq_ro, Int.le_refl, h0, Int.add_sub_cancel, true_or, or_true, false_or, or_false, false_and, and_false, if_true, if_false, ka_lo, ka_hi, ka_nn, km_sr_sf, km_sr_of, km_up_of, km_sr_us, km_sr_uo, km_sr_sr, km_sr_fl, km_sr_flo, km_up_up, km_up_lt, km_lay, km_unL, km_up_o, km_upx_i, km_upx_s, km_fl2_o, km_is, Option.some.injEq, Sum.inl.injEq, Sum.inr.injEq, Option.toList_some, Option.toList_none, List.cons_append, List.nil_append, ne_eq, true_and, and_true, and_self, not_true_eq_false, not_false_eq_true, true_implies, false_implies, reduceCtorEq]
    all_goals grind
  | succ n ih =>
    intro k f h0 h1
    have e : ¬ (10 : Int) ≤ k := by omega
    rw [g_X12_option_59]
    simp (config := { decide := true }) (disch := first | decide | assumption | omega | (simp (config := { decide := true }) only [km_sr_sf, km_sr_of, km_up_of, km_up_o, km_upx_i, km_upx_s, km_fl2_o, ne_eq, not_true_eq_false, not_false_eq_true] <;> omega) | fail) only [g_X12_option, ih, e, kq_ro, hs.1, hs.2, ka_lt, ka_le, ka_nlt, ka_nle, ka_ne, ka_eq, h0, Int.add_sub_cancel, true_or, or_true, false_or, or_false, false_and, and_false, if_true, if_false, ka_lo, ka_hi, ka_nn, km_sr_sf, km_sr_of, km_up_of, km_sr_us, km_sr_uo, km_sr_sr, km_sr_fl, km_sr_flo, km_up_up, km_up_lt, km_lay, km_unL, km_up_o, km_upx_i, km_upx_s, km_fl2_o, km_is, Option.some.injEq, Sum.inl.injEq, Sum.inr.injEq, Option.toList_some, Option.toList_none, List.cons_append, List.nil_append, ne_eq, true_and, and_true, and_self, not_true_eq_false, not_false_eq_true, true_implies, false_implies, reduceCtorEq]
    all_goals grind

theorem fc_option {N : Int} {q : Nat × Int × Int × Int × Int} {c s : Nat} {m : km_Mm} (h : kI0 N m) {l d : Int} : kF M_X11_option M_X12_option [.inl l, .inl d] N q c s m := by
  intro Q1 Q2
  have hi := h
  obtain ⟨hB, hR, hT, hO, hM, hF, hH, hE, hS, hA⟩ := h
  have f1 := hB.1
  have f4 := hO.1
  obtain ⟨⟨a1, a1'⟩, a2, a3, a4, a5, a6, a7, a8, a9⟩ := id hE
  by_cases v : (0 ≤ l ∧ l < 6) ∧ (1 ≤ d ∧ d ≤ 30) ∧ m 19 1 < 6 ∧ m 100 0 = -1
  · obtain ⟨v1, v2, v3, v4⟩ := v
    rw [if_pos v4] at a1'
    have ao := fun Q => @sp_addOption q c s m l d f4.1 v3 Q
    refine ⟨.inl (m 19 1), km_fl2 (km_up (km_up (km_up m 19 1 (m 19 1 + 1)) 20 (m 19 1) l) 21 (m 19 1) d) (23 + m 19 1) 0 10 100, km_sr (km_up (km_up (km_up (km_up (km_fl2 (km_up (km_up (km_up m 19 1 (m 19 1 + 1)) 20 (m 19 1) l) 21 (m 19 1) d) (23 + m 19 1) 0 10 100) 123 2 0) 123 63 (m 19 1 + 1)) 151 (m 19 1) l) 152 (m 19 1) d) 153 (kq_ro 6 (m 19 1) 100 10 0 (m 153)), ?_, ?_, ⟨kB_cg hB (by intro b j z; unfold fB at z; simp (disch := omega) only [km_up_ne, km_fl2_ne, km_sr_ne]), kR_cg hR (by intro b j z; unfold fR at z; simp (disch := omega) only [km_up_ne, km_fl2_ne, km_sr_ne]), kT_cg hT (by intro b j z; unfold fT at z; simp (disch := omega) only [km_up_ne, km_fl2_ne, km_sr_ne]), ?_, kM_cg hM (by intro b j z; unfold fM at z; simp (disch := omega) only [km_up_ne, km_fl2_ne, km_sr_ne]), kF_cg hF (by intro b j z; unfold fF at z; simp (disch := omega) only [km_up_ne, km_fl2_ne, km_sr_ne]), kH_cg hH (by intro b j z; unfold fH at z; simp (disch := omega) only [km_up_ne, km_fl2_ne, km_sr_ne]), ?_, kS_cg hS (by intro b j z; unfold fS at z; simp (disch := omega) only [km_up_ne, km_fl2_ne, km_sr_ne]), kA_cg hA (by intro b j z; unfold fA at z; simp (disch := omega) only [km_up_ne, km_fl2_ne, km_sr_ne])⟩, by intro b j z1 z2; unfold kP at z1; unfold kJ at z2; simp (disch := omega) only [km_up_ne, km_fl2_ne, km_sr_ne]⟩
    · rw [e_X11_option]
      simp (config := { decide := true }) (disch := first | decide | assumption | omega | (simp (config := { decide := true }) only [km_sr_sf, km_sr_of, km_up_of, km_up_o, km_upx_i, km_upx_s, km_fl2_o, ne_eq, not_true_eq_false, not_false_eq_true] <;> omega) | fail) only [g_X11_option, r_cisLand, r_cisDay, r_isOn, v1, v2, v4, ao, ka_lt, ka_le, ka_nlt, ka_nle, ka_ne, ka_eq, Int.add_sub_cancel, true_or, or_true, false_or, or_false, false_and, and_false, if_true, if_false, ka_lo, ka_hi, ka_nn, km_sr_sf, km_sr_of, km_up_of, km_sr_us, km_sr_uo, km_sr_sr, km_sr_fl, km_sr_flo, km_up_up, km_up_lt, km_lay, km_unL, km_up_o, km_upx_i, km_upx_s, km_fl2_o, km_is, Option.some.injEq, Sum.inl.injEq, Sum.inr.injEq, Option.toList_some, Option.toList_none, List.cons_append, List.nil_append, ne_eq, true_and, and_true, and_self, not_true_eq_false, not_false_eq_true, true_implies, false_implies, reduceCtorEq]
    · generalize hM1 : km_fl2 (km_up (km_up (km_up m 19 1 (m 19 1 + 1)) 20 (m 19 1) l) 21 (m 19 1) d) (23 + m 19 1) 0 10 100 = M1
      have x63 : M1 123 63 = m 19 1 := by rw [← hM1]; simp (disch := omega) only [km_up_ne, km_up_eq, km_fl2_ne, km_fl2_eq, km_sr_ne, km_sr_s, and_true, true_and, implies_true]; exact f4.2.2
      have x80 : M1 123 80 = 0 := by rw [← hM1]; simp (disch := omega) only [km_up_ne, km_up_eq, km_fl2_ne, km_fl2_eq, km_sr_ne, km_sr_s, and_true, true_and, implies_true]; exact a1'
      have x153 : M1 153 = m 153 := by rw [← hM1]; funext j; simp (disch := omega) only [km_up_ne, km_up_eq, km_fl2_ne, km_fl2_eq, km_sr_ne, km_sr_s, and_true, true_and, implies_true]
      have lp := @lp_moption_59 q c s Q2 l d (km_up (km_up (km_up M1 123 2 0) 151 (m 19 1) l) 152 (m 19 1) d) (by simp (config := { decide := true }) only [Int.add_sub_cancel, true_or, or_true, false_or, or_false, false_and, and_false, if_true, if_false, km_sr_sf, km_sr_of, km_up_of, km_sr_us, km_sr_uo, km_sr_sr, km_sr_fl, km_sr_flo, km_up_up, km_up_lt, km_lay, km_unL, km_up_o, km_upx_i, km_upx_s, km_fl2_o, km_is, Option.some.injEq, Sum.inl.injEq, Sum.inr.injEq, Option.toList_some, Option.toList_none, List.cons_append, List.nil_append, ne_eq, true_and, and_true, and_self, not_true_eq_false, not_false_eq_true, true_implies, false_implies, reduceCtorEq]; omega) (fun f => km_G M_X12_option 87 [some (.inr (.inr 123)), some (.inl l), some (.inl d), some (.inl 10)] [] (km_A0 q c s) (km_sr (km_up (km_up (km_up M1 123 2 0) 151 (m 19 1) l) 152 (m 19 1) d) 153 f) Q2) (fun f => Iff.rfl) 10 0 (m 153) (by omega) (by omega)
      have e9 : km_sr (km_up (km_up (km_up M1 123 2 0) 151 (m 19 1) l) 152 (m 19 1) d) 153 (m 153) = km_up (km_up (km_up M1 123 2 0) 151 (m 19 1) l) 152 (m 19 1) d := by
        funext b j; by_cases e : b = 153
        · subst e; rw [km_sr_s]; simp (disch := omega) only [km_up_ne, km_up_eq, km_fl2_ne, km_fl2_eq, km_sr_ne, km_sr_s, and_true, true_and, implies_true]; rw [x153]
        · rw [km_sr_ne e]
      rw [e9] at lp
      simp (config := { decide := true }) only [x63, Int.add_sub_cancel, true_or, or_true, false_or, or_false, false_and, and_false, if_true, if_false, km_sr_sf, km_sr_of, km_up_of, km_sr_us, km_sr_uo, km_sr_sr, km_sr_fl, km_sr_flo, km_up_up, km_up_lt, km_lay, km_unL, km_up_o, km_upx_i, km_upx_s, km_fl2_o, km_is, Option.some.injEq, Sum.inl.injEq, Sum.inr.injEq, Option.toList_some, Option.toList_none, List.cons_append, List.nil_append, ne_eq, true_and, and_true, and_self, not_true_eq_false, not_false_eq_true, true_implies, false_implies, reduceCtorEq] at lp
      rw [e_X12_option]
      simp (config := { decide := true }) (disch := first | decide | assumption | omega | (simp (config := { decide := true }) only [km_sr_sf, km_sr_of, km_up_of, km_up_o, km_upx_i, km_upx_s, km_fl2_o, ne_eq, not_true_eq_false, not_false_eq_true] <;> omega) | fail) only [g_X12_option, r_misLand, r_misDay, x63, x80, v1, v2, lp, ka_lt, ka_le, ka_nlt, ka_nle, ka_ne, ka_eq, Int.add_sub_cancel, true_or, or_true, false_or, or_false, false_and, and_false, if_true, if_false, ka_lo, ka_hi, ka_nn, km_sr_sf, km_sr_of, km_up_of, km_sr_us, km_sr_uo, km_sr_sr, km_sr_fl, km_sr_flo, km_up_up, km_up_lt, km_lay, km_unL, km_up_o, km_upx_i, km_upx_s, km_fl2_o, km_is, Option.some.injEq, Sum.inl.injEq, Sum.inr.injEq, Option.toList_some, Option.toList_none, List.cons_append, List.nil_append, ne_eq, true_and, and_true, and_self, not_true_eq_false, not_false_eq_true, true_implies, false_implies, reduceCtorEq]
    · refine ⟨?_, fun o o0 o1 => ?_, fun o k o0 o1 k0 k1 => ?_⟩
      · simp (disch := omega) only [km_up_ne, km_up_eq, km_fl2_ne, km_fl2_eq, km_sr_ne, km_sr_s, and_true, true_and, implies_true]; omega
      · simp (disch := omega) only [km_up_ne, km_up_eq, km_fl2_ne, km_sr_ne] at o1
        by_cases e : o = m 19 1
        · subst e; simp (disch := omega) only [km_up_ne, km_up_eq, km_fl2_ne, km_fl2_eq, km_sr_ne, km_sr_s, and_true, true_and, implies_true]; omega
        · have := hO.2.1 o o0 (by omega); simp (disch := omega) only [km_up_ne, km_up_eq, km_fl2_ne, km_fl2_eq, km_sr_ne, km_sr_s, and_true, true_and, implies_true]; exact this
      · simp (disch := omega) only [km_up_ne, km_up_eq, km_fl2_ne, km_sr_ne] at o1
        rw [km_sr_s, kq_ro_at (by decide) ⟨f4.1, by omega⟩ ⟨o0, by omega⟩]
        by_cases e : o = m 19 1
        · subst e; simp (disch := omega) only [km_up_ne, km_up_eq, km_fl2_ne, km_fl2_eq, km_sr_ne, km_sr_s, and_true, true_and, implies_true]; rw [if_pos (by omega)]; omega
        · have := hO.2.2 o k o0 (by omega) k0 k1; rw [if_neg (by omega)]; simp (disch := omega) only [km_up_ne, km_up_eq, km_fl2_ne, km_fl2_eq, km_sr_ne, km_sr_s, and_true, true_and, implies_true]; exact this
    · refine ⟨?_, ?_, ?_, ?_, ?_, ?_, ?_, ?_, ?_⟩
      · simp (disch := omega) only [km_up_ne, km_up_eq, km_fl2_ne, km_fl2_eq, km_sr_ne, km_sr_s, and_true, true_and, implies_true]; rw [if_pos v4]; omega
      · simp (disch := omega) only [km_up_ne, km_up_eq, km_fl2_ne, km_fl2_eq, km_sr_ne, km_sr_s, and_true, true_and, implies_true]; exact a2
      · simp (disch := omega) only [km_up_ne, km_up_eq, km_fl2_ne, km_fl2_eq, km_sr_ne, km_sr_s, and_true, true_and, implies_true]; exact a3
      · simp (disch := omega) only [km_up_ne, km_up_eq, km_fl2_ne, km_fl2_eq, km_sr_ne, km_sr_s, and_true, true_and, implies_true]; exact a4
      · simp (disch := omega) only [km_up_ne, km_up_eq, km_fl2_ne, km_fl2_eq, km_sr_ne, km_sr_s, and_true, true_and, implies_true]; exact a5
      · simp (disch := omega) only [km_up_ne, km_up_eq, km_fl2_ne, km_fl2_eq, km_sr_ne, km_sr_s, and_true, true_and, implies_true]; exact a6
      · intro e x d0 d1 x0 x1; simp (disch := omega) only [km_up_ne, km_fl2_ne, km_sr_ne] at d1; have := a7 e x d0 d1 x0 x1; simp (disch := omega) only [km_up_ne, km_up_eq, km_fl2_ne, km_fl2_eq, km_sr_ne, km_sr_s, and_true, true_and, implies_true]; exact this
      · simp (disch := omega) only [km_up_ne, km_up_eq, km_fl2_ne, km_fl2_eq, km_sr_ne, km_sr_s, and_true, true_and, implies_true]; exact a8
      · simp (disch := omega) only [km_up_ne, km_up_eq, km_fl2_ne, km_fl2_eq, km_sr_ne, km_sr_s, and_true, true_and, implies_true]; exact a9
  · refine ⟨.inl (-1), m, km_up m 123 2 0, ?_, ?_, kI0_t hi, kP_t⟩
    · rw [e_X11_option]
      by_cases c0 : 0 ≤ l ∧ l < 6
      case neg => simp (config := { decide := true }) (disch := first | decide | assumption | omega | (simp (config := { decide := true }) only [km_sr_sf, km_sr_of, km_up_of, km_up_o, km_upx_i, km_upx_s, km_fl2_o, ne_eq, not_true_eq_false, not_false_eq_true] <;> omega) | fail) only [g_X11_option, r_cisLand, r_cisDay, r_isOn, c0, Int.add_sub_cancel, true_or, or_true, false_or, or_false, false_and, and_false, if_true, if_false, ka_lo, ka_hi, ka_nn, km_sr_sf, km_sr_of, km_up_of, km_sr_us, km_sr_uo, km_sr_sr, km_sr_fl, km_sr_flo, km_up_up, km_up_lt, km_lay, km_unL, km_up_o, km_upx_i, km_upx_s, km_fl2_o, km_is, Option.some.injEq, Sum.inl.injEq, Sum.inr.injEq, Option.toList_some, Option.toList_none, List.cons_append, List.nil_append, ne_eq, true_and, and_true, and_self, not_true_eq_false, not_false_eq_true, true_implies, false_implies, reduceCtorEq]
      by_cases c1 : 1 ≤ d ∧ d ≤ 30
      case neg => simp (config := { decide := true }) (disch := first | decide | assumption | omega | (simp (config := { decide := true }) only [km_sr_sf, km_sr_of, km_up_of, km_up_o, km_upx_i, km_upx_s, km_fl2_o, ne_eq, not_true_eq_false, not_false_eq_true] <;> omega) | fail) only [g_X11_option, r_cisLand, r_cisDay, r_isOn, c0, c1, Int.add_sub_cancel, true_or, or_true, false_or, or_false, false_and, and_false, if_true, if_false, ka_lo, ka_hi, ka_nn, km_sr_sf, km_sr_of, km_up_of, km_sr_us, km_sr_uo, km_sr_sr, km_sr_fl, km_sr_flo, km_up_up, km_up_lt, km_lay, km_unL, km_up_o, km_upx_i, km_upx_s, km_fl2_o, km_is, Option.some.injEq, Sum.inl.injEq, Sum.inr.injEq, Option.toList_some, Option.toList_none, List.cons_append, List.nil_append, ne_eq, true_and, and_true, and_self, not_true_eq_false, not_false_eq_true, true_implies, false_implies, reduceCtorEq]
      by_cases c2 : m 19 1 < 6
      case neg => simp (config := { decide := true }) (disch := first | decide | assumption | omega | (simp (config := { decide := true }) only [km_sr_sf, km_sr_of, km_up_of, km_up_o, km_upx_i, km_upx_s, km_fl2_o, ne_eq, not_true_eq_false, not_false_eq_true] <;> omega) | fail) only [g_X11_option, r_cisLand, r_cisDay, r_isOn, c0, c1, ka_lt, ka_le, ka_nlt, ka_nle, ka_ne, ka_eq, Int.add_sub_cancel, true_or, or_true, false_or, or_false, false_and, and_false, if_true, if_false, ka_lo, ka_hi, ka_nn, km_sr_sf, km_sr_of, km_up_of, km_sr_us, km_sr_uo, km_sr_sr, km_sr_fl, km_sr_flo, km_up_up, km_up_lt, km_lay, km_unL, km_up_o, km_upx_i, km_upx_s, km_fl2_o, km_is, Option.some.injEq, Sum.inl.injEq, Sum.inr.injEq, Option.toList_some, Option.toList_none, List.cons_append, List.nil_append, ne_eq, true_and, and_true, and_self, not_true_eq_false, not_false_eq_true, true_implies, false_implies, reduceCtorEq]
      by_cases c3 : m 100 0 = -1
      case neg => simp (config := { decide := true }) (disch := first | decide | assumption | omega | (simp (config := { decide := true }) only [km_sr_sf, km_sr_of, km_up_of, km_up_o, km_upx_i, km_upx_s, km_fl2_o, ne_eq, not_true_eq_false, not_false_eq_true] <;> omega) | fail) only [g_X11_option, r_cisLand, r_cisDay, r_isOn, c0, c1, c3, ka_lt, ka_le, ka_nlt, ka_nle, ka_ne, ka_eq, Int.add_sub_cancel, true_or, or_true, false_or, or_false, false_and, and_false, if_true, if_false, ka_lo, ka_hi, ka_nn, km_sr_sf, km_sr_of, km_up_of, km_sr_us, km_sr_uo, km_sr_sr, km_sr_fl, km_sr_flo, km_up_up, km_up_lt, km_lay, km_unL, km_up_o, km_upx_i, km_upx_s, km_fl2_o, km_is, Option.some.injEq, Sum.inl.injEq, Sum.inr.injEq, Option.toList_some, Option.toList_none, List.cons_append, List.nil_append, ne_eq, true_and, and_true, and_self, not_true_eq_false, not_false_eq_true, true_implies, false_implies, reduceCtorEq]
      exact absurd (by omega) v
    · rw [e_X12_option]
      by_cases c2 : m 19 1 < 6
      case neg => simp (config := { decide := true }) (disch := first | decide | assumption | omega | (simp (config := { decide := true }) only [km_sr_sf, km_sr_of, km_up_of, km_up_o, km_upx_i, km_upx_s, km_fl2_o, ne_eq, not_true_eq_false, not_false_eq_true] <;> omega) | fail) only [g_X12_option, r_misLand, r_misDay, f4.2.2, ka_lt, ka_le, ka_nlt, ka_nle, ka_ne, ka_eq, Int.add_sub_cancel, true_or, or_true, false_or, or_false, false_and, and_false, if_true, if_false, ka_lo, ka_hi, ka_nn, km_sr_sf, km_sr_of, km_up_of, km_sr_us, km_sr_uo, km_sr_sr, km_sr_fl, km_sr_flo, km_up_up, km_up_lt, km_lay, km_unL, km_up_o, km_upx_i, km_upx_s, km_fl2_o, km_is, Option.some.injEq, Sum.inl.injEq, Sum.inr.injEq, Option.toList_some, Option.toList_none, List.cons_append, List.nil_append, ne_eq, true_and, and_true, and_self, not_true_eq_false, not_false_eq_true, true_implies, false_implies, reduceCtorEq]
      by_cases c3 : m 100 0 = -1
      case neg =>
        rw [if_neg c3] at a1'
        simp (config := { decide := true }) (disch := first | decide | assumption | omega | (simp (config := { decide := true }) only [km_sr_sf, km_sr_of, km_up_of, km_up_o, km_upx_i, km_upx_s, km_fl2_o, ne_eq, not_true_eq_false, not_false_eq_true] <;> omega) | fail) only [g_X12_option, r_misLand, r_misDay, f4.2.2, a1', ka_lt, ka_le, ka_nlt, ka_nle, ka_ne, ka_eq, Int.add_sub_cancel, true_or, or_true, false_or, or_false, false_and, and_false, if_true, if_false, ka_lo, ka_hi, ka_nn, km_sr_sf, km_sr_of, km_up_of, km_sr_us, km_sr_uo, km_sr_sr, km_sr_fl, km_sr_flo, km_up_up, km_up_lt, km_lay, km_unL, km_up_o, km_upx_i, km_upx_s, km_fl2_o, km_is, Option.some.injEq, Sum.inl.injEq, Sum.inr.injEq, Option.toList_some, Option.toList_none, List.cons_append, List.nil_append, ne_eq, true_and, and_true, and_self, not_true_eq_false, not_false_eq_true, true_implies, false_implies, reduceCtorEq]
      rw [if_pos c3] at a1'
      by_cases c0 : 0 ≤ l ∧ l < 6
      case neg => simp (config := { decide := true }) (disch := first | decide | assumption | omega | (simp (config := { decide := true }) only [km_sr_sf, km_sr_of, km_up_of, km_up_o, km_upx_i, km_upx_s, km_fl2_o, ne_eq, not_true_eq_false, not_false_eq_true] <;> omega) | fail) only [g_X12_option, r_misLand, r_misDay, f4.2.2, a1', c0, ka_lt, ka_le, ka_nlt, ka_nle, ka_ne, ka_eq, Int.add_sub_cancel, true_or, or_true, false_or, or_false, false_and, and_false, if_true, if_false, ka_lo, ka_hi, ka_nn, km_sr_sf, km_sr_of, km_up_of, km_sr_us, km_sr_uo, km_sr_sr, km_sr_fl, km_sr_flo, km_up_up, km_up_lt, km_lay, km_unL, km_up_o, km_upx_i, km_upx_s, km_fl2_o, km_is, Option.some.injEq, Sum.inl.injEq, Sum.inr.injEq, Option.toList_some, Option.toList_none, List.cons_append, List.nil_append, ne_eq, true_and, and_true, and_self, not_true_eq_false, not_false_eq_true, true_implies, false_implies, reduceCtorEq]
      by_cases c1 : 1 ≤ d ∧ d ≤ 30
      case neg => simp (config := { decide := true }) (disch := first | decide | assumption | omega | (simp (config := { decide := true }) only [km_sr_sf, km_sr_of, km_up_of, km_up_o, km_upx_i, km_upx_s, km_fl2_o, ne_eq, not_true_eq_false, not_false_eq_true] <;> omega) | fail) only [g_X12_option, r_misLand, r_misDay, f4.2.2, a1', c0, c1, ka_lt, ka_le, ka_nlt, ka_nle, ka_ne, ka_eq, Int.add_sub_cancel, true_or, or_true, false_or, or_false, false_and, and_false, if_true, if_false, ka_lo, ka_hi, ka_nn, km_sr_sf, km_sr_of, km_up_of, km_sr_us, km_sr_uo, km_sr_sr, km_sr_fl, km_sr_flo, km_up_up, km_up_lt, km_lay, km_unL, km_up_o, km_upx_i, km_upx_s, km_fl2_o, km_is, Option.some.injEq, Sum.inl.injEq, Sum.inr.injEq, Option.toList_some, Option.toList_none, List.cons_append, List.nil_append, ne_eq, true_and, and_true, and_self, not_true_eq_false, not_false_eq_true, true_implies, false_implies, reduceCtorEq]
      exact absurd (by omega) v
theorem fc_fault {N : Int} {q : Nat × Int × Int × Int × Int} {c s : Nat} {m : km_Mm} (hq : km_rf (km_A0 q c s) 0 1 = 37) (h : kI0 N m) {w : Int} : kF M_X11_fault M_X12_fault [.inl w] N q c s m := by
  intro Q1 Q2
  have a1 := h.2.2.2.2.2.2.2.2.2.2.2
  refine ⟨.inl (if w = 0 then m 37 2 else if w = 1 then m 37 3 else -1), m, km_up m 123 2 0, ?_, ?_, kI0_t h, kP_t⟩
  · rw [e_X11_fault]
    by_cases c0 : w = 0 <;> by_cases c1 : w = 1 <;> simp (config := { decide := true }) (disch := first | decide | assumption | omega | (simp (config := { decide := true }) only [km_sr_sf, km_sr_of, km_up_of, km_up_o, km_upx_i, km_upx_s, km_fl2_o, ne_eq, not_true_eq_false, not_false_eq_true] <;> omega) | fail) only [g_X11_fault, c0, c1, hq, Int.add_sub_cancel, true_or, or_true, false_or, or_false, false_and, and_false, if_true, if_false, ka_lo, ka_hi, ka_nn, km_sr_sf, km_sr_of, km_up_of, km_sr_us, km_sr_uo, km_sr_sr, km_sr_fl, km_sr_flo, km_up_up, km_up_lt, km_lay, km_unL, km_up_o, km_upx_i, km_upx_s, km_fl2_o, km_is, Option.some.injEq, Sum.inl.injEq, Sum.inr.injEq, Option.toList_some, Option.toList_none, List.cons_append, List.nil_append, ne_eq, true_and, and_true, and_self, not_true_eq_false, not_false_eq_true, true_implies, false_implies, reduceCtorEq]
  · rw [e_X12_fault]
    by_cases c0 : w = 0 <;> by_cases c1 : w = 1 <;> simp (config := { decide := true }) (disch := first | decide | assumption | omega | (simp (config := { decide := true }) only [km_sr_sf, km_sr_of, km_up_of, km_up_o, km_upx_i, km_upx_s, km_fl2_o, ne_eq, not_true_eq_false, not_false_eq_true] <;> omega) | fail) only [g_X12_fault, c0, c1, a1.1, a1.2, Int.add_sub_cancel, true_or, or_true, false_or, or_false, false_and, and_false, if_true, if_false, ka_lo, ka_hi, ka_nn, km_sr_sf, km_sr_of, km_up_of, km_sr_us, km_sr_uo, km_sr_sr, km_sr_fl, km_sr_flo, km_up_up, km_up_lt, km_lay, km_unL, km_up_o, km_upx_i, km_upx_s, km_fl2_o, km_is, Option.some.injEq, Sum.inl.injEq, Sum.inr.injEq, Option.toList_some, Option.toList_none, List.cons_append, List.nil_append, ne_eq, true_and, and_true, and_self, not_true_eq_false, not_false_eq_true, true_implies, false_implies, reduceCtorEq]

