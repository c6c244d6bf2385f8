/-! ===== the law's branch, in the small machine ===== -/
section FB
variable {q q' : Nat × Int × Int × Int × Int} {c s : Nat} {m C M X Y Z : km_Mm} {N o p b b1 P w k : Int}
theorem kIN_184 {v : Int} (h : kIN N q m) : kIN N q (km_up m 184 0 v) := by
  obtain ⟨h0, P, hq, hp⟩ := h
  have jk : km_jk m (km_up m 184 0 v) := fun d j z => km_up_ne (fun w => z (by unfold kJ; omega))
  exact ⟨kI0_jk h0 jk (kR_cg h0.2.1 (fun d j f => by unfold fR at f; exact km_up_ne (by omega))), P, hq, kIp_eq hq.1 hp (kP_jk jk)⟩
theorem fc_branch9 (h : kIN N q m) (hb : 0 ≤ b ∧ b < 4) (hw : 0 ≤ w ∧ w ≤ 2) : ∃ (v : Int) (m1 m2 : km_Mm), (∀ Q : Option km_V → km_Al → km_Mm → Prop, km_E M_X11_branch [.inr (.inr 0), .inl b, .inl w] (km_A0 q c s) m Q ↔ Q (some (.inl v)) (km_A0 q c s) m1) ∧ (∀ Q : Option km_V → km_Al → km_Mm → Prop, km_E M_X12_branch [.inr (.inr 123), .inl b, .inl w] (km_A0 q c s) (km_up m1 184 0 v) Q ↔ Q (some (.inl v)) (km_A0 q c s) m2) ∧ kIN N q m2 ∧ m2 123 2 = 0 ∧ m2 184 0 = v := by
  have hi := h
  obtain ⟨h0, P, hq, hp⟩ := h
  have hS := h0.2.2.2.2.2.2.2.2.1
  obtain ⟨s1, s2⟩ := hS b hb.1 hb.2
  by_cases w0 : w = 0
  · subst w0
    refine ⟨m 1 b, m, km_up (km_up m 184 0 (m 1 b)) 123 2 0, fun Q => ?_, fun Q => ?_, kIN_t (kIN_184 hi), km_upx_s, by rw [km_up_ne (by omega), km_upx_s]⟩
    · rw [e_X11_branch]; simp (config := { decide := true }) (disch := first | decide | assumption | omega | (simp (config := { decide := true }) only [km_sr_sf, km_sr_of, km_up_of, km_up_o, km_upx_i, km_upx_s, km_fl2_o, ne_eq, not_true_eq_false, not_false_eq_true] <;> omega) | fail) only [g_X11_branch, hb, ka_lt, ka_le, ka_nlt, ka_nle, ka_ne, ka_eq, Int.add_sub_cancel, true_or, or_true, false_or, or_false, false_and, and_false, if_true, if_false, ka_lo, ka_hi, ka_nn, km_sr_sf, km_sr_of, km_up_of, km_sr_us, km_sr_uo, km_sr_sr, km_sr_fl, km_sr_flo, km_up_up, km_up_lt, km_lay, km_unL, km_up_o, km_upx_i, km_upx_s, km_fl2_o, km_is, Option.some.injEq, Sum.inl.injEq, Sum.inr.injEq, Option.toList_some, Option.toList_none, List.cons_append, List.nil_append, ne_eq, true_and, and_true, and_self, not_true_eq_false, not_false_eq_true, true_implies, false_implies, reduceCtorEq]
    · rw [e_X12_branch]; simp (config := { decide := true }) (disch := first | decide | assumption | omega | (simp (config := { decide := true }) only [km_sr_sf, km_sr_of, km_up_of, km_up_o, km_upx_i, km_upx_s, km_fl2_o, ne_eq, not_true_eq_false, not_false_eq_true] <;> omega) | fail) only [g_X12_branch, hb, s1, ka_lt, ka_le, ka_nlt, ka_nle, ka_ne, ka_eq, Int.add_sub_cancel, true_or, or_true, false_or, or_false, false_and, and_false, if_true, if_false, ka_lo, ka_hi, ka_nn, km_sr_sf, km_sr_of, km_up_of, km_sr_us, km_sr_uo, km_sr_sr, km_sr_fl, km_sr_flo, km_up_up, km_up_lt, km_lay, km_unL, km_up_o, km_upx_i, km_upx_s, km_fl2_o, km_is, Option.some.injEq, Sum.inl.injEq, Sum.inr.injEq, Option.toList_some, Option.toList_none, List.cons_append, List.nil_append, ne_eq, true_and, and_true, and_self, not_true_eq_false, not_false_eq_true, true_implies, false_implies, reduceCtorEq]
  by_cases w1 : w = 1
  · subst w1
    refine ⟨m 2 b, m, km_up (km_up m 184 0 (m 2 b)) 123 2 0, fun Q => ?_, fun Q => ?_, kIN_t (kIN_184 hi), km_upx_s, by rw [km_up_ne (by omega), km_upx_s]⟩
    · rw [e_X11_branch]; simp (config := { decide := true }) (disch := first | decide | assumption | omega | (simp (config := { decide := true }) only [km_sr_sf, km_sr_of, km_up_of, km_up_o, km_upx_i, km_upx_s, km_fl2_o, ne_eq, not_true_eq_false, not_false_eq_true] <;> omega) | fail) only [g_X11_branch, hb, ka_lt, ka_le, ka_nlt, ka_nle, ka_ne, ka_eq, Int.add_sub_cancel, true_or, or_true, false_or, or_false, false_and, and_false, if_true, if_false, ka_lo, ka_hi, ka_nn, km_sr_sf, km_sr_of, km_up_of, km_sr_us, km_sr_uo, km_sr_sr, km_sr_fl, km_sr_flo, km_up_up, km_up_lt, km_lay, km_unL, km_up_o, km_upx_i, km_upx_s, km_fl2_o, km_is, Option.some.injEq, Sum.inl.injEq, Sum.inr.injEq, Option.toList_some, Option.toList_none, List.cons_append, List.nil_append, ne_eq, true_and, and_true, and_self, not_true_eq_false, not_false_eq_true, true_implies, false_implies, reduceCtorEq]
    · rw [e_X12_branch]; simp (config := { decide := true }) (disch := first | decide | assumption | omega | (simp (config := { decide := true }) only [km_sr_sf, km_sr_of, km_up_of, km_up_o, km_upx_i, km_upx_s, km_fl2_o, ne_eq, not_true_eq_false, not_false_eq_true] <;> omega) | fail) only [g_X12_branch, hb, s2, ka_lt, ka_le, ka_nlt, ka_nle, ka_ne, ka_eq, Int.add_sub_cancel, true_or, or_true, false_or, or_false, false_and, and_false, if_true, if_false, ka_lo, ka_hi, ka_nn, km_sr_sf, km_sr_of, km_up_of, km_sr_us, km_sr_uo, km_sr_sr, km_sr_fl, km_sr_flo, km_up_up, km_up_lt, km_lay, km_unL, km_up_o, km_upx_i, km_upx_s, km_fl2_o, km_is, Option.some.injEq, Sum.inl.injEq, Sum.inr.injEq, Option.toList_some, Option.toList_none, List.cons_append, List.nil_append, ne_eq, true_and, and_true, and_self, not_true_eq_false, not_false_eq_true, true_implies, false_implies, reduceCtorEq]
  have w2 : w = 2 := by omega
  subst w2
  obtain ⟨M, zM, eM⟩ := @kZ_now q c s m h0.1
  have pe := fun Q => @cl_people q c s m M b h0.1 zM Q
  obtain ⟨Y, dY⟩ : ∃ Y : km_Mm, Y = km_up (km_up M 184 0 (kcnt (kPe m b) (m 5 1).toNat)) 123 2 0 := ⟨_, rfl⟩
  have jY : kMj m Y := fun d j h1 h2 => by rw [dY, km_up_ne (fun w => h2 (by unfold kJ; omega)), km_up_ne (fun w => h2 (by unfold kJ; omega))]; exact zM.1 d j h2
  obtain ⟨g, po⟩ := @md_peopleOf q c s m Y b h0.1 h0.2.2.1 jY
  refine ⟨kcnt (kPe m b) (m 5 1).toNat, M, km_sr Y 130 g, fun Q => ?_, fun Q => ?_, kIN_fin2 hi hq zM (fun d j h1 h2 => ?_) (fun d j hd => ?_) hq, ?_, ?_⟩
  · rw [e_X11_branch]; simp (config := { decide := true }) (disch := first | decide | assumption | omega | (simp (config := { decide := true }) only [km_sr_sf, km_sr_of, km_up_of, km_up_o, km_upx_i, km_upx_s, km_fl2_o, ne_eq, not_true_eq_false, not_false_eq_true] <;> omega) | fail) only [g_X11_branch, hb, eM, pe, ka_lt, ka_le, ka_nlt, ka_nle, ka_ne, ka_eq, Int.add_sub_cancel, true_or, or_true, false_or, or_false, false_and, and_false, if_true, if_false, ka_lo, ka_hi, ka_nn, km_sr_sf, km_sr_of, km_up_of, km_sr_us, km_sr_uo, km_sr_sr, km_sr_fl, km_sr_flo, km_up_up, km_up_lt, km_lay, km_unL, km_up_o, km_upx_i, km_upx_s, km_fl2_o, km_is, Option.some.injEq, Sum.inl.injEq, Sum.inr.injEq, Option.toList_some, Option.toList_none, List.cons_append, List.nil_append, ne_eq, true_and, and_true, and_self, not_true_eq_false, not_false_eq_true, true_implies, false_implies, reduceCtorEq]
  · rw [dY] at po ⊢
    simp (config := { decide := true }) only [Int.add_sub_cancel, true_or, or_true, false_or, or_false, false_and, and_false, if_true, if_false, km_sr_sf, km_sr_of, km_up_of, km_sr_us, km_sr_uo, km_sr_sr, km_sr_fl, km_sr_flo, km_up_up, km_up_lt, km_lay, km_unL, km_up_o, km_upx_i, km_upx_s, km_fl2_o, km_is, Option.some.injEq, Sum.inl.injEq, Sum.inr.injEq, Option.toList_some, Option.toList_none, List.cons_append, List.nil_append, ne_eq, true_and, and_true, and_self, not_true_eq_false, not_false_eq_true, true_implies, false_implies, reduceCtorEq] at po
    rw [e_X12_branch]; simp (config := { decide := true }) (disch := first | decide | assumption | omega | (simp (config := { decide := true }) only [km_sr_sf, km_sr_of, km_up_of, km_up_o, km_upx_i, km_upx_s, km_fl2_o, ne_eq, not_true_eq_false, not_false_eq_true] <;> omega) | fail) only [g_X12_branch, hb, po, ka_lt, ka_le, ka_nlt, ka_nle, ka_ne, ka_eq, Int.add_sub_cancel, true_or, or_true, false_or, or_false, false_and, and_false, if_true, if_false, ka_lo, ka_hi, ka_nn, km_sr_sf, km_sr_of, km_up_of, km_sr_us, km_sr_uo, km_sr_sr, km_sr_fl, km_sr_flo, km_up_up, km_up_lt, km_lay, km_unL, km_up_o, km_upx_i, km_upx_s, km_fl2_o, km_is, Option.some.injEq, Sum.inl.injEq, Sum.inr.injEq, Option.toList_some, Option.toList_none, List.cons_append, List.nil_append, ne_eq, true_and, and_true, and_self, not_true_eq_false, not_false_eq_true, true_implies, false_implies, reduceCtorEq]
  · rw [km_sr_ne (fun e => h2 (by unfold kJ; omega))]; exact jY d j h1 h2
  · rw [km_sr_ne (by omega), dY, km_up_ne (by omega), km_up_ne (by omega)]
  · rw [km_sr_ne (by decide), dY, km_upx_s]
  · rw [km_sr_ne (by decide), dY, km_up_ne (by omega), km_upx_s]
theorem km_E_m2 {M : km_Md} {as : List km_V} {A A' : km_Al} {m m' : km_Mm} {x : Option km_V} (h : ∀ Q : Option km_V → km_Al → km_Mm → Prop, km_E M as A m Q ↔ Q x A' m') (hf : ¬ 10 ≤ M.2.2.2.2.2.2.2) : m' (-2) = m (-2) := by
  obtain ⟨n, y, B, k, r, e1, e2, e3⟩ := (h (fun y B k => y = x ∧ B = A' ∧ k = m')).mpr ⟨rfl, rfl, rfl⟩
  rw [if_neg hf] at r
  rw [← e3]
  exact km_run_m2 _ _ _ _ _ _ _ _ _ _ r
theorem kg9 : ((0 : Int) ≤ 0 ∧ (0 : Int) < ((km_A0 q c s).1 : Int) ∧ km_kd (km_A0 q c s) 0 = 21) ∧ (0 : Int) ≤ 184 ∧ (184 : Int) < ((km_A0 q c s).1 : Int) ∧ km_kd (km_A0 q c s) 184 = 1 ∧ 0 < km_ln (km_A0 q c s) 184 := ⟨⟨by decide, (by decide : (0 : Int) < 185), rfl⟩, by decide, (by decide : (184 : Int) < 185), rfl, (by decide : (0 : Int) < 1)⟩
theorem km_EB_1 {x y : Int} (hx : x < 0 ∨ 4 ≤ x) {Q : Option km_V → km_Al → km_Mm → Prop} (h : Q (some (.inl 1)) (km_A0 q (c + 1) (s + 6)) m) : km_EB [.inr (.inr 0), .inl x, .inl y, .inr (.inr 184)] (km_A0 q c s) m Q := by
  refine ⟨0, some (.inl 1), km_A0 q (c + 1) (s + 6), m, ?_, h⟩
  unfold km_lb
  dsimp only
  rw [if_pos kg9, if_pos hx]
  rfl
theorem km_EB_2 {x y : Int} (hx : ¬ (x < 0 ∨ 4 ≤ x)) (hy : y < 0 ∨ 2 < y) {Q : Option km_V → km_Al → km_Mm → Prop} (h : Q (some (.inl 2)) (km_A0 q (c + 1) (s + 6)) m) : km_EB [.inr (.inr 0), .inl x, .inl y, .inr (.inr 184)] (km_A0 q c s) m Q := by
  refine ⟨0, some (.inl 2), km_A0 q (c + 1) (s + 6), m, ?_, h⟩
  unfold km_lb
  dsimp only
  rw [if_pos kg9, if_neg hx, if_pos hy]
  rfl
theorem km_EB_0 {x y v : Int} {m1 : km_Mm} (hx : ¬ (x < 0 ∨ 4 ≤ x)) (hy : ¬ (y < 0 ∨ 2 < y)) (h : ∀ Q : Option km_V → km_Al → km_Mm → Prop, km_E M_X11_branch [.inr (.inr 0), .inl x, .inl y] (km_A0 q c s) m Q ↔ Q (some (.inl v)) (km_A0 q c s) m1) {Q : Option km_V → km_Al → km_Mm → Prop} (hQ : Q (some (.inl 0)) (km_A0 q c s) (km_up m1 184 0 v)) : km_EB [.inr (.inr 0), .inl x, .inl y, .inr (.inr 184)] (km_A0 q c s) m Q := by
  obtain ⟨n, y1, B, k, r, e1, e2, e3⟩ := (h (fun y B k => y = some (.inl v) ∧ B = km_A0 q c s ∧ k = m1)).mpr ⟨rfl, rfl, rfl⟩
  rw [if_neg (by decide), e1, e2, e3] at r
  refine ⟨n, some (.inl 0), km_A0 q c s, km_up m1 184 0 v, ?_, hQ⟩
  unfold km_lb
  dsimp only
  rw [if_pos kg9, if_neg hx, if_neg hy, r]
  dsimp only
  rw [if_pos ⟨kg9.2.2.1, kg9.2.2.2⟩]
end FB

