/-! ===== the class's machine: a step ===== -/
section KS
variable {q : Nat × Int × Int × Int × Int} {c s : Nat} {X : km_Mm} {P at0 top fl st hp kn hv ht v w x : Int} {σ : Int → Int} {Q : Option km_V → km_Al → km_Mm → Prop}
theorem c4_sign {k : Int} (hk : 10 ≤ k ∧ k ≤ 20) (h : 2 ≤ top ∧ top ≤ 121) (hv1 : k12 (σ (top - 1 - 1))) (hw1 : k12 (σ (top - 1))) : ∃ σ' : Int → Int, (∀ j : Int, j ≠ top - 1 - 1 → σ' j = σ j) ∧ (∀ u : Int, kmd k (σ (top - 1 - 1)) (σ (top - 1)) = some u → σ' (top - 1 - 1) = u) ∧ ∀ Q : Option km_V → km_Al → km_Mm → Prop, km_E M_X4_doSign [.inr (.inr 69), .inl (ksg k)] (km_A0 q c s) (kmM X at0 top 0 st hp kn hv ht σ) Q ↔ Q none (km_A0 q c s) (kmM X at0 (top - 1) (if kmd k (σ (top - 1 - 1)) (σ (top - 1)) = none then 1 else 0) st hp kn hv ht σ') := by
  have p1 := fun Q => @c4_pop q c s X at0 top 0 st hp kn hv ht σ Q (by omega)
  have p2 := fun Q => @c4_pop q c s X at0 (top - 1) 0 st hp kn hv ht σ Q (by omega)
  have pu : ∀ (f v : Int) (Q : Option km_V → km_Al → km_Mm → Prop), km_E M_X4_push [.inr (.inr 69), .inr (.inl v)] (km_A0 q c s) (kmM X at0 (top - 1 - 1) f st hp kn hv ht σ) Q ↔ Q none (km_A0 q c s) (kmM X at0 (top - 1) f st hp kn hv ht (km_u1 σ (top - 1 - 1) v)) := fun f v Q => by
    have e := @c4_push q c s X at0 (top - 1 - 1) f st hp kn hv ht v σ Q (by omega)
    rw [show top - 1 - 1 + 1 = top - 1 by omega] at e; exact e
  have wi := fun v Q => @c4_within q c s X at0 (top - 1 - 1) 0 st hp kn hv ht v σ Q rfl
  generalize hv2 : σ (top - 1 - 1) = a at *
  generalize hw2 : σ (top - 1) = b at *
  have ha := hv1
  have hb := hw1
  unfold k12 at ha hb
  have so : ∀ u : Int, (∀ j : Int, j ≠ top - 1 - 1 → km_u1 σ (top - 1 - 1) u j = σ j) := fun u j hj => km_u1_o hj
  have fin : ∀ u : Int, kmd k a b = some u → (∀ Q : Option km_V → km_Al → km_Mm → Prop, km_E M_X4_doSign [.inr (.inr 69), .inl (ksg k)] (km_A0 q c s) (kmM X at0 top 0 st hp kn hv ht σ) Q ↔ Q none (km_A0 q c s) (kmM X at0 (top - 1) 0 st hp kn hv ht (km_u1 σ (top - 1 - 1) u))) → ∃ σ' : Int → Int, (∀ j : Int, j ≠ top - 1 - 1 → σ' j = σ j) ∧ (∀ u : Int, kmd k a b = some u → σ' (top - 1 - 1) = u) ∧ ∀ Q : Option km_V → km_Al → km_Mm → Prop, km_E M_X4_doSign [.inr (.inr 69), .inl (ksg k)] (km_A0 q c s) (kmM X at0 top 0 st hp kn hv ht σ) Q ↔ Q none (km_A0 q c s) (kmM X at0 (top - 1) (if kmd k a b = none then 1 else 0) st hp kn hv ht σ') := fun u hu e => ⟨km_u1 σ (top - 1 - 1) u, so u, fun z hz => by rw [km_u1_s]; rw [hu] at hz; cases hz; rfl, fun Q => by rw [if_neg (by rw [hu]; exact fun w => by cases w)]; exact e Q⟩
  have fno : ∀ u : Int, kmd k a b = none → (∀ Q : Option km_V → km_Al → km_Mm → Prop, km_E M_X4_doSign [.inr (.inr 69), .inl (ksg k)] (km_A0 q c s) (kmM X at0 top 0 st hp kn hv ht σ) Q ↔ Q none (km_A0 q c s) (kmM X at0 (top - 1) 1 st hp kn hv ht (km_u1 σ (top - 1 - 1) u))) → ∃ σ' : Int → Int, (∀ j : Int, j ≠ top - 1 - 1 → σ' j = σ j) ∧ (∀ u : Int, kmd k a b = some u → σ' (top - 1 - 1) = u) ∧ ∀ Q : Option km_V → km_Al → km_Mm → Prop, km_E M_X4_doSign [.inr (.inr 69), .inl (ksg k)] (km_A0 q c s) (kmM X at0 top 0 st hp kn hv ht σ) Q ↔ Q none (km_A0 q c s) (kmM X at0 (top - 1) (if kmd k a b = none then 1 else 0) st hp kn hv ht σ') := fun u hu e => ⟨km_u1 σ (top - 1 - 1) u, so u, fun z hz => (by rw [hu] at hz; cases hz), fun Q => by rw [if_pos hu]; exact e Q⟩
  by_cases k16 : k < 16
  · obtain ⟨x, hx, hks⟩ : ∃ x : Int, ((x = 11 ∧ k = 10) ∨ (x = 14 ∧ k = 11) ∨ (x = 12 ∧ k = 12) ∨ (x = 16 ∧ k = 13) ∨ (x = 13 ∧ k = 14) ∨ (x = 15 ∧ k = 15)) ∧ ksg k = x := by
      have e : k = 10 ∨ k = 11 ∨ k = 12 ∨ k = 13 ∨ k = 14 ∨ k = 15 := by omega
      rcases e with rfl | rfl | rfl | rfl | rfl | rfl
      · exact ⟨11, by omega, rfl⟩
      · exact ⟨14, by omega, rfl⟩
      · exact ⟨12, by omega, rfl⟩
      · exact ⟨16, by omega, rfl⟩
      · exact ⟨13, by omega, rfl⟩
      · exact ⟨15, by omega, rfl⟩
    obtain ⟨r, r1, r2, r3, rc⟩ := @c4_compares q c s (kmM X at0 (top - 1 - 1) 0 st hp kn hv ht σ) a b x k hx
    refine fin r r1 (fun Q => ?_)
    have rr : r = 0 ∨ r = 1 := by omega
    rw [e_X4_doSign, hks]
    have xx : x = 11 ∨ x = 12 ∨ x = 13 ∨ x = 14 ∨ x = 15 ∨ x = 16 := by omega
    rcases rr with rfl | rfl <;> rcases xx with rfl | rfl | rfl | rfl | rfl | rfl <;> simp (config := { decide := true }) (disch := first | decide | assumption | omega | (simp (config := { decide := true }) only [km_sr_sf, km_sr_of, km_up_of, km_up_o, km_upx_i, km_upx_s, km_fl2_o, ne_eq, not_true_eq_false, not_false_eq_true] <;> omega) | fail) only [g_X4_doSign, p1, p2, hv2, hw2, rc, pu, ka_lt, ka_le, ka_nlt, ka_nle, ka_ne, ka_eq, Int.add_sub_cancel, true_or, or_true, false_or, or_false, false_and, and_false, if_true, if_false, ka_lo, ka_hi, ka_nn, km_sr_sf, km_sr_of, km_up_of, km_sr_us, km_sr_uo, km_sr_sr, km_sr_fl, km_sr_flo, km_up_up, km_up_lt, km_lay, km_unL, km_up_o, km_upx_i, km_upx_s, km_fl2_o, km_is, Option.some.injEq, Sum.inl.injEq, Sum.inr.injEq, Option.toList_some, Option.toList_none, List.cons_append, List.nil_append, ne_eq, true_and, and_true, and_self, not_true_eq_false, not_false_eq_true, true_implies, false_implies, reduceCtorEq]
  · by_cases z16 : k = 16
    · subst z16
      have e : kmd 16 a b = kbd (a + b) := rfl
      by_cases z : kbd (a + b) = none
      · refine fno (a + b) (e.trans z) (fun Q => ?_)
        rw [e_X4_doSign]
        have w1 := wi (a + b)
        rw [if_pos z] at w1
        show km_G M_X4_doSign 0 [some (.inr (.inr 69)), some (.inl 6), none, none, none, none] [] (km_A0 q c s) _ Q ↔ _
        simp (config := { decide := true }) (disch := first | decide | assumption | omega | (simp (config := { decide := true }) only [km_sr_sf, km_sr_of, km_up_of, km_up_o, km_upx_i, km_upx_s, km_fl2_o, ne_eq, not_true_eq_false, not_false_eq_true] <;> omega) | fail) only [g_X4_doSign, p1, p2, hv2, hw2, w1, pu, ka_lt, ka_le, ka_nlt, ka_nle, ka_ne, ka_eq, Int.add_sub_cancel, true_or, or_true, false_or, or_false, false_and, and_false, if_true, if_false, ka_lo, ka_hi, ka_nn, km_sr_sf, km_sr_of, km_up_of, km_sr_us, km_sr_uo, km_sr_sr, km_sr_fl, km_sr_flo, km_up_up, km_up_lt, km_lay, km_unL, km_up_o, km_upx_i, km_upx_s, km_fl2_o, km_is, Option.some.injEq, Sum.inl.injEq, Sum.inr.injEq, Option.toList_some, Option.toList_none, List.cons_append, List.nil_append, ne_eq, true_and, and_true, and_self, not_true_eq_false, not_false_eq_true, true_implies, false_implies, reduceCtorEq]
      · obtain ⟨u, hu⟩ : ∃ u, kbd (a + b) = some u := Option.ne_none_iff_exists'.mp z
        have e2 := (kbd_s hu).1
        refine fin u (e.trans hu) (fun Q => ?_)
        rw [e_X4_doSign, e2]
        have w1 := wi (a + b)
        rw [if_neg z] at w1
        show km_G M_X4_doSign 0 [some (.inr (.inr 69)), some (.inl 6), none, none, none, none] [] (km_A0 q c s) _ Q ↔ _
        simp (config := { decide := true }) (disch := first | decide | assumption | omega | (simp (config := { decide := true }) only [km_sr_sf, km_sr_of, km_up_of, km_up_o, km_upx_i, km_upx_s, km_fl2_o, ne_eq, not_true_eq_false, not_false_eq_true] <;> omega) | fail) only [g_X4_doSign, p1, p2, hv2, hw2, w1, pu, ka_lt, ka_le, ka_nlt, ka_nle, ka_ne, ka_eq, Int.add_sub_cancel, true_or, or_true, false_or, or_false, false_and, and_false, if_true, if_false, ka_lo, ka_hi, ka_nn, km_sr_sf, km_sr_of, km_up_of, km_sr_us, km_sr_uo, km_sr_sr, km_sr_fl, km_sr_flo, km_up_up, km_up_lt, km_lay, km_unL, km_up_o, km_upx_i, km_upx_s, km_fl2_o, km_is, Option.some.injEq, Sum.inl.injEq, Sum.inr.injEq, Option.toList_some, Option.toList_none, List.cons_append, List.nil_append, ne_eq, true_and, and_true, and_self, not_true_eq_false, not_false_eq_true, true_implies, false_implies, reduceCtorEq]
    · by_cases z17 : k = 17
      · subst z17
        have e : kmd 17 a b = kbd (a - b) := rfl
        by_cases z : kbd (a - b) = none
        · refine fno (a - b) (e.trans z) (fun Q => ?_)
          rw [e_X4_doSign]
          have w1 := wi (a - b)
          rw [if_pos z] at w1
          show km_G M_X4_doSign 0 [some (.inr (.inr 69)), some (.inl 7), none, none, none, none] [] (km_A0 q c s) _ Q ↔ _
          simp (config := { decide := true }) (disch := first | decide | assumption | omega | (simp (config := { decide := true }) only [km_sr_sf, km_sr_of, km_up_of, km_up_o, km_upx_i, km_upx_s, km_fl2_o, ne_eq, not_true_eq_false, not_false_eq_true] <;> omega) | fail) only [g_X4_doSign, p1, p2, hv2, hw2, w1, pu, ka_lt, ka_le, ka_nlt, ka_nle, ka_ne, ka_eq, Int.add_sub_cancel, true_or, or_true, false_or, or_false, false_and, and_false, if_true, if_false, ka_lo, ka_hi, ka_nn, km_sr_sf, km_sr_of, km_up_of, km_sr_us, km_sr_uo, km_sr_sr, km_sr_fl, km_sr_flo, km_up_up, km_up_lt, km_lay, km_unL, km_up_o, km_upx_i, km_upx_s, km_fl2_o, km_is, Option.some.injEq, Sum.inl.injEq, Sum.inr.injEq, Option.toList_some, Option.toList_none, List.cons_append, List.nil_append, ne_eq, true_and, and_true, and_self, not_true_eq_false, not_false_eq_true, true_implies, false_implies, reduceCtorEq]
        · obtain ⟨u, hu⟩ : ∃ u, kbd (a - b) = some u := Option.ne_none_iff_exists'.mp z
          have e2 := (kbd_s hu).1
          refine fin u (e.trans hu) (fun Q => ?_)
          rw [e_X4_doSign, e2]
          have w1 := wi (a - b)
          rw [if_neg z] at w1
          show km_G M_X4_doSign 0 [some (.inr (.inr 69)), some (.inl 7), none, none, none, none] [] (km_A0 q c s) _ Q ↔ _
          simp (config := { decide := true }) (disch := first | decide | assumption | omega | (simp (config := { decide := true }) only [km_sr_sf, km_sr_of, km_up_of, km_up_o, km_upx_i, km_upx_s, km_fl2_o, ne_eq, not_true_eq_false, not_false_eq_true] <;> omega) | fail) only [g_X4_doSign, p1, p2, hv2, hw2, w1, pu, ka_lt, ka_le, ka_nlt, ka_nle, ka_ne, ka_eq, Int.add_sub_cancel, true_or, or_true, false_or, or_false, false_and, and_false, if_true, if_false, ka_lo, ka_hi, ka_nn, km_sr_sf, km_sr_of, km_up_of, km_sr_us, km_sr_uo, km_sr_sr, km_sr_fl, km_sr_flo, km_up_up, km_up_lt, km_lay, km_unL, km_up_o, km_upx_i, km_upx_s, km_fl2_o, km_is, Option.some.injEq, Sum.inl.injEq, Sum.inr.injEq, Option.toList_some, Option.toList_none, List.cons_append, List.nil_append, ne_eq, true_and, and_true, and_self, not_true_eq_false, not_false_eq_true, true_implies, false_implies, reduceCtorEq]
      · by_cases z18 : k = 18
        · subst z18
          have e : kmd 18 a b = if a ≠ 0 ∧ Int.tdiv 1000000000000 (kab a) < kab b then none else some (a * b) := rfl
          have pr := fun Q => @c4_product q c s X at0 (top - 1 - 1) st hp kn hv ht a b σ Q hv1 hw1
          by_cases z : a ≠ 0 ∧ Int.tdiv 1000000000000 (kab a) < kab b
          · rw [if_pos z] at e
            refine fno 0 e (fun Q => ?_)
            simp only [if_pos z] at pr
            rw [e_X4_doSign]
            show km_G M_X4_doSign 0 [some (.inr (.inr 69)), some (.inl 8), none, none, none, none] [] (km_A0 q c s) _ Q ↔ _
            simp (config := { decide := true }) (disch := first | decide | assumption | omega | (simp (config := { decide := true }) only [km_sr_sf, km_sr_of, km_up_of, km_up_o, km_upx_i, km_upx_s, km_fl2_o, ne_eq, not_true_eq_false, not_false_eq_true] <;> omega) | fail) only [g_X4_doSign, p1, p2, hv2, hw2, pr, pu, ka_lt, ka_le, ka_nlt, ka_nle, ka_ne, ka_eq, Int.add_sub_cancel, true_or, or_true, false_or, or_false, false_and, and_false, if_true, if_false, ka_lo, ka_hi, ka_nn, km_sr_sf, km_sr_of, km_up_of, km_sr_us, km_sr_uo, km_sr_sr, km_sr_fl, km_sr_flo, km_up_up, km_up_lt, km_lay, km_unL, km_up_o, km_upx_i, km_upx_s, km_fl2_o, km_is, Option.some.injEq, Sum.inl.injEq, Sum.inr.injEq, Option.toList_some, Option.toList_none, List.cons_append, List.nil_append, ne_eq, true_and, and_true, and_self, not_true_eq_false, not_false_eq_true, true_implies, false_implies, reduceCtorEq]
          · rw [if_neg z] at e
            refine fin (a * b) e (fun Q => ?_)
            simp only [if_neg z] at pr
            rw [e_X4_doSign]
            show km_G M_X4_doSign 0 [some (.inr (.inr 69)), some (.inl 8), none, none, none, none] [] (km_A0 q c s) _ Q ↔ _
            simp (config := { decide := true }) (disch := first | decide | assumption | omega | (simp (config := { decide := true }) only [km_sr_sf, km_sr_of, km_up_of, km_up_o, km_upx_i, km_upx_s, km_fl2_o, ne_eq, not_true_eq_false, not_false_eq_true] <;> omega) | fail) only [g_X4_doSign, p1, p2, hv2, hw2, pr, pu, ka_lt, ka_le, ka_nlt, ka_nle, ka_ne, ka_eq, Int.add_sub_cancel, true_or, or_true, false_or, or_false, false_and, and_false, if_true, if_false, ka_lo, ka_hi, ka_nn, km_sr_sf, km_sr_of, km_up_of, km_sr_us, km_sr_uo, km_sr_sr, km_sr_fl, km_sr_flo, km_up_up, km_up_lt, km_lay, km_unL, km_up_o, km_upx_i, km_upx_s, km_fl2_o, km_is, Option.some.injEq, Sum.inl.injEq, Sum.inr.injEq, Option.toList_some, Option.toList_none, List.cons_append, List.nil_append, ne_eq, true_and, and_true, and_self, not_true_eq_false, not_false_eq_true, true_implies, false_implies, reduceCtorEq]
        · have kk : k = 19 ∨ k = 20 := by omega
          rcases kk with rfl | rfl
          · have e : kmd 19 a b = if b = 0 then none else some (Int.tdiv a b) := rfl
            have pr := fun Q => @c4_quotient q c s X at0 (top - 1 - 1) st hp kn hv ht a b σ Q 9 hv1 (Or.inl rfl)
            by_cases z : b = 0
            · rw [if_pos z] at e
              refine fno 0 e (fun Q => ?_)
              simp only [if_pos z] at pr
              rw [e_X4_doSign]
              show km_G M_X4_doSign 0 [some (.inr (.inr 69)), some (.inl 9), none, none, none, none] [] (km_A0 q c s) _ Q ↔ _
              simp (config := { decide := true }) (disch := first | decide | assumption | omega | (simp (config := { decide := true }) only [km_sr_sf, km_sr_of, km_up_of, km_up_o, km_upx_i, km_upx_s, km_fl2_o, ne_eq, not_true_eq_false, not_false_eq_true] <;> omega) | fail) only [g_X4_doSign, p1, p2, hv2, hw2, pr, pu, ka_lt, ka_le, ka_nlt, ka_nle, ka_ne, ka_eq, Int.add_sub_cancel, true_or, or_true, false_or, or_false, false_and, and_false, if_true, if_false, ka_lo, ka_hi, ka_nn, km_sr_sf, km_sr_of, km_up_of, km_sr_us, km_sr_uo, km_sr_sr, km_sr_fl, km_sr_flo, km_up_up, km_up_lt, km_lay, km_unL, km_up_o, km_upx_i, km_upx_s, km_fl2_o, km_is, Option.some.injEq, Sum.inl.injEq, Sum.inr.injEq, Option.toList_some, Option.toList_none, List.cons_append, List.nil_append, ne_eq, true_and, and_true, and_self, not_true_eq_false, not_false_eq_true, true_implies, false_implies, reduceCtorEq]
            · rw [if_neg z] at e
              refine fin (Int.tdiv a b) e (fun Q => ?_)
              simp (config := { decide := true }) only [if_neg z, if_true] at pr
              rw [e_X4_doSign]
              show km_G M_X4_doSign 0 [some (.inr (.inr 69)), some (.inl 9), none, none, none, none] [] (km_A0 q c s) _ Q ↔ _
              simp (config := { decide := true }) (disch := first | decide | assumption | omega | (simp (config := { decide := true }) only [km_sr_sf, km_sr_of, km_up_of, km_up_o, km_upx_i, km_upx_s, km_fl2_o, ne_eq, not_true_eq_false, not_false_eq_true] <;> omega) | fail) only [g_X4_doSign, p1, p2, hv2, hw2, pr, pu, ka_lt, ka_le, ka_nlt, ka_nle, ka_ne, ka_eq, Int.add_sub_cancel, true_or, or_true, false_or, or_false, false_and, and_false, if_true, if_false, ka_lo, ka_hi, ka_nn, km_sr_sf, km_sr_of, km_up_of, km_sr_us, km_sr_uo, km_sr_sr, km_sr_fl, km_sr_flo, km_up_up, km_up_lt, km_lay, km_unL, km_up_o, km_upx_i, km_upx_s, km_fl2_o, km_is, Option.some.injEq, Sum.inl.injEq, Sum.inr.injEq, Option.toList_some, Option.toList_none, List.cons_append, List.nil_append, ne_eq, true_and, and_true, and_self, not_true_eq_false, not_false_eq_true, true_implies, false_implies, reduceCtorEq]
          · have e : kmd 20 a b = if b = 0 then none else some (Int.tmod a b) := rfl
            have pr := fun Q => @c4_quotient q c s X at0 (top - 1 - 1) st hp kn hv ht a b σ Q 10 hv1 (Or.inr rfl)
            by_cases z : b = 0
            · rw [if_pos z] at e
              refine fno 0 e (fun Q => ?_)
              simp only [if_pos z] at pr
              rw [e_X4_doSign]
              show km_G M_X4_doSign 0 [some (.inr (.inr 69)), some (.inl 10), none, none, none, none] [] (km_A0 q c s) _ Q ↔ _
              simp (config := { decide := true }) (disch := first | decide | assumption | omega | (simp (config := { decide := true }) only [km_sr_sf, km_sr_of, km_up_of, km_up_o, km_upx_i, km_upx_s, km_fl2_o, ne_eq, not_true_eq_false, not_false_eq_true] <;> omega) | fail) only [g_X4_doSign, p1, p2, hv2, hw2, pr, pu, ka_lt, ka_le, ka_nlt, ka_nle, ka_ne, ka_eq, Int.add_sub_cancel, true_or, or_true, false_or, or_false, false_and, and_false, if_true, if_false, ka_lo, ka_hi, ka_nn, km_sr_sf, km_sr_of, km_up_of, km_sr_us, km_sr_uo, km_sr_sr, km_sr_fl, km_sr_flo, km_up_up, km_up_lt, km_lay, km_unL, km_up_o, km_upx_i, km_upx_s, km_fl2_o, km_is, Option.some.injEq, Sum.inl.injEq, Sum.inr.injEq, Option.toList_some, Option.toList_none, List.cons_append, List.nil_append, ne_eq, true_and, and_true, and_self, not_true_eq_false, not_false_eq_true, true_implies, false_implies, reduceCtorEq]
            · rw [if_neg z] at e
              refine fin (Int.tmod a b) e (fun Q => ?_)
              simp (config := { decide := true }) only [if_neg z, if_false] at pr
              rw [e_X4_doSign]
              show km_G M_X4_doSign 0 [some (.inr (.inr 69)), some (.inl 10), none, none, none, none] [] (km_A0 q c s) _ Q ↔ _
              simp (config := { decide := true }) (disch := first | decide | assumption | omega | (simp (config := { decide := true }) only [km_sr_sf, km_sr_of, km_up_of, km_up_o, km_upx_i, km_upx_s, km_fl2_o, ne_eq, not_true_eq_false, not_false_eq_true] <;> omega) | fail) only [g_X4_doSign, p1, p2, hv2, hw2, pr, pu, ka_lt, ka_le, ka_nlt, ka_nle, ka_ne, ka_eq, Int.add_sub_cancel, true_or, or_true, false_or, or_false, false_and, and_false, if_true, if_false, ka_lo, ka_hi, ka_nn, km_sr_sf, km_sr_of, km_up_of, km_sr_us, km_sr_uo, km_sr_sr, km_sr_fl, km_sr_flo, km_up_up, km_up_lt, km_lay, km_unL, km_up_o, km_upx_i, km_upx_s, km_fl2_o, km_is, Option.some.injEq, Sum.inl.injEq, Sum.inr.injEq, Option.toList_some, Option.toList_none, List.cons_append, List.nil_append, ne_eq, true_and, and_true, and_self, not_true_eq_false, not_false_eq_true, true_implies, false_implies, reduceCtorEq]
end KS

