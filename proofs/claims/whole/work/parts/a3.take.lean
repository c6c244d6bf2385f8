/-! ===== the reference goes on to the next token ===== -/
theorem lp_wa18 {q : Nat × Int × Int × Int × Int} {c s : Nat} {Y : km_Mm} {a b : Int} {r : Nat} (hr : r < 27) (hw : ∀ i : Int, 0 ≤ i → i < 132 → Y 137 i = kr_wl.getD i.toNat 0) {o6 o7 : Option km_V} (Q : Option km_V → km_Al → km_Mm → Prop) : ∀ (N j : Nat), (j : Int) + N = krL.getD r 0 → (km_G M_X12_wordAt 18 [some (.inr (.inr 123)), some (.inl a), some (.inl b), some (.inl (r : Int)), some (.inl (krS.getD r 0)), some (.inl (j : Int)), o6, o7] [] (km_A0 q c s) Y Q ↔ km_G M_X12_wordAt 18 [some (.inr (.inr 123)), some (.inl a), some (.inl b), some (.inl (r : Int)), some (.inl (krS.getD r 0)), some (.inl (krL.getD r 0)), o6, o7] [] (km_A0 q c s) Y Q) := by
  intro N
  obtain ⟨-, -, lw, lc⟩ := kr_tab ⟨r, hr⟩
  simp only [] at lw lc
  induction N with
  | zero =>
    intro j h
    rw [show (j : Int) = krL.getD r 0 by omega]
  | succ N ih =>
    intro j h
    have ch := lc ⟨j, by omega⟩ (by show (j : Int) < _; omega)
    simp only [] at ch
    have e := hw (krS.getD r 0 + j) (by omega) (by omega)
    rw [← ih (j + 1) (by omega), g_X12_wordAt_18, show ((j + 1 : Nat) : Int) = (j : Int) + 1 by omega]
    simp (config := { decide := true }) (disch := first | decide | assumption | omega | (simp (config := { decide := true }) only [km_sr_sf, km_sr_of, km_up_of, km_up_o, km_upx_i, km_upx_s, km_fl2_o, ne_eq, not_true_eq_false, not_false_eq_true] <;> omega) | fail) only [g_X12_wordAt, e, ch, ka_lt, ka_le, ka_nlt, ka_nle, ka_ne, ka_eq, Int.add_sub_cancel, true_or, or_true, false_or, or_false, false_and, and_false, if_true, if_false, ka_lo, ka_hi, ka_nn, km_sr_sf, km_sr_of, km_up_of, km_sr_us, km_sr_uo, km_sr_sr, km_sr_fl, km_sr_flo, km_up_up, km_up_lt, km_lay, km_unL, km_up_o, km_upx_i, km_upx_s, km_fl2_o, km_is, Option.some.injEq, Sum.inl.injEq, Sum.inr.injEq, Option.toList_some, Option.toList_none, List.cons_append, List.nil_append, ne_eq, true_and, and_true, and_self, not_true_eq_false, not_false_eq_true, true_implies, false_implies, reduceCtorEq]
theorem lp_wa57 {q : Nat × Int × Int × Int × Int} {c s : Nat} {Y : km_Mm} {a b : Int} {r : Nat} (hr : r < 27) (a0 : 0 ≤ a) (ab : b ≤ 600) (hL : krL.getD r 0 = b - a) (hw : ∀ i : Int, 0 ≤ i → i < 132 → Y 137 i = kr_wl.getD i.toNat 0) (Q : Option km_V → km_Al → km_Mm → Prop) : ∀ (N j : Nat), (j : Int) + N = krL.getD r 0 → (∀ x : Int, 0 ≤ x → x < j → kr_wl.getD (krS.getD r 0 + x).toNat 0 = Y 124 (a + x)) →
    ((∀ x : Int, 0 ≤ x → x < krL.getD r 0 → kr_wl.getD (krS.getD r 0 + x).toNat 0 = Y 124 (a + x)) → (km_G M_X12_wordAt 57 [some (.inr (.inr 123)), some (.inl a), some (.inl b), some (.inl (r : Int)), some (.inl (krS.getD r 0)), some (.inl (krL.getD r 0)), some (.inl 1), some (.inl (j : Int))] [] (km_A0 q c s) Y Q ↔ Q (some (.inl (r : Int))) (km_A0 q c s) Y)) ∧
    (¬ (∀ x : Int, 0 ≤ x → x < krL.getD r 0 → kr_wl.getD (krS.getD r 0 + x).toNat 0 = Y 124 (a + x)) → ∃ o7 : Option km_V, (km_G M_X12_wordAt 57 [some (.inr (.inr 123)), some (.inl a), some (.inl b), some (.inl (r : Int)), some (.inl (krS.getD r 0)), some (.inl (krL.getD r 0)), some (.inl 1), some (.inl (j : Int))] [] (km_A0 q c s) Y Q ↔ km_G M_X12_wordAt 5 [some (.inr (.inr 123)), some (.inl a), some (.inl b), some (.inl ((r : Int) + 1)), some (.inl (krS.getD r 0 + (krL.getD r 0 + 1))), some (.inl (krL.getD r 0)), some (.inl 0), o7] [] (km_A0 q c s) Y Q)) := by
  intro N
  obtain ⟨-, -, lw, lc⟩ := kr_tab ⟨r, hr⟩
  simp only [] at lw lc
  induction N with
  | zero =>
    intro j h f
    have e : (j : Int) = krL.getD r 0 := by omega
    have al : ∀ x : Int, 0 ≤ x → x < krL.getD r 0 → kr_wl.getD (krS.getD r 0 + x).toNat 0 = Y 124 (a + x) := fun x x0 x1 => f x x0 (by omega)
    refine ⟨fun _ => ?_, fun w => absurd al w⟩
    rw [g_X12_wordAt_57]
    simp (config := { decide := true }) (disch := first | decide | assumption | omega | (simp (config := { decide := true }) only [km_sr_sf, km_sr_of, km_up_of, km_up_o, km_upx_i, km_upx_s, km_fl2_o, ne_eq, not_true_eq_false, not_false_eq_true] <;> omega) | fail) only [g_X12_wordAt, e, Int.le_refl, ka_lt, ka_le, ka_nlt, ka_nle, ka_ne, ka_eq, Int.add_sub_cancel, true_or, or_true, false_or, or_false, false_and, and_false, if_true, if_false, ka_lo, ka_hi, ka_nn, km_sr_sf, km_sr_of, km_up_of, km_sr_us, km_sr_uo, km_sr_sr, km_sr_fl, km_sr_flo, km_up_up, km_up_lt, km_lay, km_unL, km_up_o, km_upx_i, km_upx_s, km_fl2_o, km_is, Option.some.injEq, Sum.inl.injEq, Sum.inr.injEq, Option.toList_some, Option.toList_none, List.cons_append, List.nil_append, ne_eq, true_and, and_true, and_self, not_true_eq_false, not_false_eq_true, true_implies, false_implies, reduceCtorEq]
  | succ N ih =>
    intro j h f
    have e := hw (krS.getD r 0 + j) (by omega) (by omega)
    have nl : ¬ krL.getD r 0 ≤ (j : Int) := by omega
    by_cases z : kr_wl.getD (krS.getD r 0 + (j : Int)).toNat 0 = Y 124 (a + j)
    · obtain ⟨i1, i2⟩ := ih (j + 1) (by omega) (fun x x0 x1 => by
        by_cases y : x = j
        · rw [y]; exact z
        · exact f x x0 (by omega))
      have st : km_G M_X12_wordAt 57 [some (.inr (.inr 123)), some (.inl a), some (.inl b), some (.inl (r : Int)), some (.inl (krS.getD r 0)), some (.inl (krL.getD r 0)), some (.inl 1), some (.inl (j : Int))] [] (km_A0 q c s) Y Q ↔ km_G M_X12_wordAt 57 [some (.inr (.inr 123)), some (.inl a), some (.inl b), some (.inl (r : Int)), some (.inl (krS.getD r 0)), some (.inl (krL.getD r 0)), some (.inl 1), some (.inl ((j + 1 : Nat) : Int))] [] (km_A0 q c s) Y Q := by
        rw [g_X12_wordAt_57, show ((j + 1 : Nat) : Int) = (j : Int) + 1 by omega]
        simp (config := { decide := true }) (disch := first | decide | assumption | omega | (simp (config := { decide := true }) only [km_sr_sf, km_sr_of, km_up_of, km_up_o, km_upx_i, km_upx_s, km_fl2_o, ne_eq, not_true_eq_false, not_false_eq_true] <;> omega) | fail) only [g_X12_wordAt, e, z, nl, ka_lt, ka_le, ka_nlt, ka_nle, ka_ne, ka_eq, Int.add_sub_cancel, true_or, or_true, false_or, or_false, false_and, and_false, if_true, if_false, ka_lo, ka_hi, ka_nn, km_sr_sf, km_sr_of, km_up_of, km_sr_us, km_sr_uo, km_sr_sr, km_sr_fl, km_sr_flo, km_up_up, km_up_lt, km_lay, km_unL, km_up_o, km_upx_i, km_upx_s, km_fl2_o, km_is, Option.some.injEq, Sum.inl.injEq, Sum.inr.injEq, Option.toList_some, Option.toList_none, List.cons_append, List.nil_append, ne_eq, true_and, and_true, and_self, not_true_eq_false, not_false_eq_true, true_implies, false_implies, reduceCtorEq]
      exact ⟨fun w => st.trans (i1 w), fun w => by obtain ⟨o7, i3⟩ := i2 w; exact ⟨o7, st.trans i3⟩⟩
    · refine ⟨fun w => absurd (w j (by omega) (by omega)) z, fun _ => ⟨some (.inl ((j : Int) + 1)), ?_⟩⟩
      rw [g_X12_wordAt_57]
      simp (config := { decide := true }) (disch := first | decide | assumption | omega | (simp (config := { decide := true }) only [km_sr_sf, km_sr_of, km_up_of, km_up_o, km_upx_i, km_upx_s, km_fl2_o, ne_eq, not_true_eq_false, not_false_eq_true] <;> omega) | fail) only [g_X12_wordAt, e, z, nl, ka_lt, ka_le, ka_nlt, ka_nle, ka_ne, ka_eq, Int.add_sub_cancel, true_or, or_true, false_or, or_false, false_and, and_false, if_true, if_false, ka_lo, ka_hi, ka_nn, km_sr_sf, km_sr_of, km_up_of, km_sr_us, km_sr_uo, km_sr_sr, km_sr_fl, km_sr_flo, km_up_up, km_up_lt, km_lay, km_unL, km_up_o, km_upx_i, km_upx_s, km_fl2_o, km_is, Option.some.injEq, Sum.inl.injEq, Sum.inr.injEq, Option.toList_some, Option.toList_none, List.cons_append, List.nil_append, ne_eq, true_and, and_true, and_self, not_true_eq_false, not_false_eq_true, true_implies, false_implies, reduceCtorEq]
      rw [g_X12_wordAt_57]
      by_cases y : krL.getD r 0 ≤ (j : Int) + 1
      · simp (config := { decide := true }) (disch := first | decide | assumption | omega | (simp (config := { decide := true }) only [km_sr_sf, km_sr_of, km_up_of, km_up_o, km_upx_i, km_upx_s, km_fl2_o, ne_eq, not_true_eq_false, not_false_eq_true] <;> omega) | fail) only [g_X12_wordAt, y, ka_lt, ka_le, ka_nlt, ka_nle, ka_ne, ka_eq, Int.add_sub_cancel, true_or, or_true, false_or, or_false, false_and, and_false, if_true, if_false, ka_lo, ka_hi, ka_nn, km_sr_sf, km_sr_of, km_up_of, km_sr_us, km_sr_uo, km_sr_sr, km_sr_fl, km_sr_flo, km_up_up, km_up_lt, km_lay, km_unL, km_up_o, km_upx_i, km_upx_s, km_fl2_o, km_is, Option.some.injEq, Sum.inl.injEq, Sum.inr.injEq, Option.toList_some, Option.toList_none, List.cons_append, List.nil_append, ne_eq, true_and, and_true, and_self, not_true_eq_false, not_false_eq_true, true_implies, false_implies, reduceCtorEq]
      · simp (config := { decide := true }) (disch := first | decide | assumption | omega | (simp (config := { decide := true }) only [km_sr_sf, km_sr_of, km_up_of, km_up_o, km_upx_i, km_upx_s, km_fl2_o, ne_eq, not_true_eq_false, not_false_eq_true] <;> omega) | fail) only [g_X12_wordAt, y, ka_lt, ka_le, ka_nlt, ka_nle, ka_ne, ka_eq, Int.add_sub_cancel, true_or, or_true, false_or, or_false, false_and, and_false, if_true, if_false, ka_lo, ka_hi, ka_nn, km_sr_sf, km_sr_of, km_up_of, km_sr_us, km_sr_uo, km_sr_sr, km_sr_fl, km_sr_flo, km_up_up, km_up_lt, km_lay, km_unL, km_up_o, km_upx_i, km_upx_s, km_fl2_o, km_is, Option.some.injEq, Sum.inl.injEq, Sum.inr.injEq, Option.toList_some, Option.toList_none, List.cons_append, List.nil_append, ne_eq, true_and, and_true, and_self, not_true_eq_false, not_false_eq_true, true_implies, false_implies, reduceCtorEq]
theorem lp_wa5 {q : Nat × Int × Int × Int × Int} {c s : Nat} {Y : km_Mm} {a b : Int} (a0 : 0 ≤ a) (ab0 : a ≤ b) (ab : b ≤ 600) (hw : ∀ i : Int, 0 ≤ i → i < 132 → Y 137 i = kr_wl.getD i.toNat 0) (Q : Option km_V → km_Al → km_Mm → Prop) : ∀ (N r : Nat) (o5 o6 o7 : Option km_V), r + N = 27 → (km_G M_X12_wordAt 5 [some (.inr (.inr 123)), some (.inl a), some (.inl b), some (.inl (r : Int)), some (.inl (krS.getD r 0)), o5, o6, o7] [] (km_A0 q c s) Y Q ↔ Q (some (.inl (kwr (Y 124) a b N r))) (km_A0 q c s) Y) := by
  intro N
  induction N with
  | zero =>
    intro r o5 o6 o7 h
    have e : r = 27 := by omega
    subst e
    have s27 : krS.getD 27 0 = 132 := by decide
    rw [g_X12_wordAt_5, s27]
    unfold kwr
    simp (config := { decide := true }) (disch := first | decide | assumption | omega | (simp (config := { decide := true }) only [km_sr_sf, km_sr_of, km_up_of, km_up_o, km_upx_i, km_upx_s, km_fl2_o, ne_eq, not_true_eq_false, not_false_eq_true] <;> omega) | fail) only [g_X12_wordAt, ka_lt, ka_le, ka_nlt, ka_nle, ka_ne, ka_eq, Int.add_sub_cancel, true_or, or_true, false_or, or_false, false_and, and_false, if_true, if_false, ka_lo, ka_hi, ka_nn, km_sr_sf, km_sr_of, km_up_of, km_sr_us, km_sr_uo, km_sr_sr, km_sr_fl, km_sr_flo, km_up_up, km_up_lt, km_lay, km_unL, km_up_o, km_upx_i, km_upx_s, km_fl2_o, km_is, Option.some.injEq, Sum.inl.injEq, Sum.inr.injEq, Option.toList_some, Option.toList_none, List.cons_append, List.nil_append, ne_eq, true_and, and_true, and_self, not_true_eq_false, not_false_eq_true, true_implies, false_implies, reduceCtorEq]
  | succ N ih =>
    intro r o5 o6 o7 h
    obtain ⟨t1, t2, lw, lc⟩ := kr_tab ⟨r, by omega⟩
    simp only [] at t1 t2 lw lc
    have l18 := @lp_wa18 q c s Y a b r (by omega) hw o6 o7 Q (krL.getD r 0).toNat 0 (by omega)
    rw [show ((0 : Nat) : Int) = 0 from rfl] at l18
    have e := hw (krS.getD r 0 + krL.getD r 0) (by omega) (by omega)
    have er : ((r + 1 : Nat) : Int) = (r : Int) + 1 := by omega
    have es : krS.getD (r + 1) 0 = krS.getD r 0 + (krL.getD r 0 + 1) := by omega
    unfold kwr
    by_cases z : krL.getD r 0 = b - a
    · have ez := e.trans t2
      rw [z] at ez
      obtain ⟨i1, i2⟩ := @lp_wa57 q c s Y a b r (by omega) a0 ab z hw Q (krL.getD r 0).toNat 0 (by omega) (fun x x0 x1 => by omega)
      rw [show ((0 : Nat) : Int) = 0 from rfl] at i1 i2
      by_cases y : ∀ x : Int, 0 ≤ x → x < krL.getD r 0 → kr_wl.getD (krS.getD r 0 + x).toNat 0 = Y 124 (a + x)
      · have i3 := i1 y
        rw [if_pos (show krm (Y 124) a b r from ⟨z, y⟩), g_X12_wordAt_5]
        simp (config := { decide := true }) (disch := first | decide | assumption | omega | (simp (config := { decide := true }) only [km_sr_sf, km_sr_of, km_up_of, km_up_o, km_upx_i, km_upx_s, km_fl2_o, ne_eq, not_true_eq_false, not_false_eq_true] <;> omega) | fail) only [g_X12_wordAt, l18, ka_lt, ka_le, ka_nlt, ka_nle, ka_ne, ka_eq, Int.add_sub_cancel, true_or, or_true, false_or, or_false, false_and, and_false, if_true, if_false, ka_lo, ka_hi, ka_nn, km_sr_sf, km_sr_of, km_up_of, km_sr_us, km_sr_uo, km_sr_sr, km_sr_fl, km_sr_flo, km_up_up, km_up_lt, km_lay, km_unL, km_up_o, km_upx_i, km_upx_s, km_fl2_o, km_is, Option.some.injEq, Sum.inl.injEq, Sum.inr.injEq, Option.toList_some, Option.toList_none, List.cons_append, List.nil_append, ne_eq, true_and, and_true, and_self, not_true_eq_false, not_false_eq_true, true_implies, false_implies, reduceCtorEq]
        rw [g_X12_wordAt_18]
        simp (config := { decide := true }) (disch := first | decide | assumption | omega | (simp (config := { decide := true }) only [km_sr_sf, km_sr_of, km_up_of, km_up_o, km_upx_i, km_upx_s, km_fl2_o, ne_eq, not_true_eq_false, not_false_eq_true] <;> omega) | fail) only [g_X12_wordAt, ez, z, ka_lt, ka_le, ka_nlt, ka_nle, ka_ne, ka_eq, Int.add_sub_cancel, true_or, or_true, false_or, or_false, false_and, and_false, if_true, if_false, ka_lo, ka_hi, ka_nn, km_sr_sf, km_sr_of, km_up_of, km_sr_us, km_sr_uo, km_sr_sr, km_sr_fl, km_sr_flo, km_up_up, km_up_lt, km_lay, km_unL, km_up_o, km_upx_i, km_upx_s, km_fl2_o, km_is, Option.some.injEq, Sum.inl.injEq, Sum.inr.injEq, Option.toList_some, Option.toList_none, List.cons_append, List.nil_append, ne_eq, true_and, and_true, and_self, not_true_eq_false, not_false_eq_true, true_implies, false_implies, reduceCtorEq]
        rw [z] at i3
        rw [i3]
      · obtain ⟨o7', i3⟩ := i2 y
        rw [if_neg (fun w : krm (Y 124) a b r => y w.2), ← ih (r + 1) (some (.inl (krL.getD r 0))) (some (.inl 0)) o7' (by omega), er, es, ← i3, g_X12_wordAt_5]
        simp (config := { decide := true }) (disch := first | decide | assumption | omega | (simp (config := { decide := true }) only [km_sr_sf, km_sr_of, km_up_of, km_up_o, km_upx_i, km_upx_s, km_fl2_o, ne_eq, not_true_eq_false, not_false_eq_true] <;> omega) | fail) only [g_X12_wordAt, l18, ka_lt, ka_le, ka_nlt, ka_nle, ka_ne, ka_eq, Int.add_sub_cancel, true_or, or_true, false_or, or_false, false_and, and_false, if_true, if_false, ka_lo, ka_hi, ka_nn, km_sr_sf, km_sr_of, km_up_of, km_sr_us, km_sr_uo, km_sr_sr, km_sr_fl, km_sr_flo, km_up_up, km_up_lt, km_lay, km_unL, km_up_o, km_upx_i, km_upx_s, km_fl2_o, km_is, Option.some.injEq, Sum.inl.injEq, Sum.inr.injEq, Option.toList_some, Option.toList_none, List.cons_append, List.nil_append, ne_eq, true_and, and_true, and_self, not_true_eq_false, not_false_eq_true, true_implies, false_implies, reduceCtorEq]
        rw [g_X12_wordAt_18]
        simp (config := { decide := true }) (disch := first | decide | assumption | omega | (simp (config := { decide := true }) only [km_sr_sf, km_sr_of, km_up_of, km_up_o, km_upx_i, km_upx_s, km_fl2_o, ne_eq, not_true_eq_false, not_false_eq_true] <;> omega) | fail) only [g_X12_wordAt, ez, z, ka_lt, ka_le, ka_nlt, ka_nle, ka_ne, ka_eq, Int.add_sub_cancel, true_or, or_true, false_or, or_false, false_and, and_false, if_true, if_false, ka_lo, ka_hi, ka_nn, km_sr_sf, km_sr_of, km_up_of, km_sr_us, km_sr_uo, km_sr_sr, km_sr_fl, km_sr_flo, km_up_up, km_up_lt, km_lay, km_unL, km_up_o, km_upx_i, km_upx_s, km_fl2_o, km_is, Option.some.injEq, Sum.inl.injEq, Sum.inr.injEq, Option.toList_some, Option.toList_none, List.cons_append, List.nil_append, ne_eq, true_and, and_true, and_self, not_true_eq_false, not_false_eq_true, true_implies, false_implies, reduceCtorEq]
    · rw [if_neg (fun w : krm (Y 124) a b r => z w.1), ← ih (r + 1) (some (.inl (krL.getD r 0))) (some (.inl 0)) (some (.inl 0)) (by omega), er, es, g_X12_wordAt_5]
      simp (config := { decide := true }) (disch := first | decide | assumption | omega | (simp (config := { decide := true }) only [km_sr_sf, km_sr_of, km_up_of, km_up_o, km_upx_i, km_upx_s, km_fl2_o, ne_eq, not_true_eq_false, not_false_eq_true] <;> omega) | fail) only [g_X12_wordAt, l18, ka_lt, ka_le, ka_nlt, ka_nle, ka_ne, ka_eq, Int.add_sub_cancel, true_or, or_true, false_or, or_false, false_and, and_false, if_true, if_false, ka_lo, ka_hi, ka_nn, km_sr_sf, km_sr_of, km_up_of, km_sr_us, km_sr_uo, km_sr_sr, km_sr_fl, km_sr_flo, km_up_up, km_up_lt, km_lay, km_unL, km_up_o, km_upx_i, km_upx_s, km_fl2_o, km_is, Option.some.injEq, Sum.inl.injEq, Sum.inr.injEq, Option.toList_some, Option.toList_none, List.cons_append, List.nil_append, ne_eq, true_and, and_true, and_self, not_true_eq_false, not_false_eq_true, true_implies, false_implies, reduceCtorEq]
      rw [g_X12_wordAt_18]
      simp (config := { decide := true }) (disch := first | decide | assumption | omega | (simp (config := { decide := true }) only [km_sr_sf, km_sr_of, km_up_of, km_up_o, km_upx_i, km_upx_s, km_fl2_o, ne_eq, not_true_eq_false, not_false_eq_true] <;> omega) | fail) only [g_X12_wordAt, e, t2, z, ka_lt, ka_le, ka_nlt, ka_nle, ka_ne, ka_eq, Int.add_sub_cancel, true_or, or_true, false_or, or_false, false_and, and_false, if_true, if_false, ka_lo, ka_hi, ka_nn, km_sr_sf, km_sr_of, km_up_of, km_sr_us, km_sr_uo, km_sr_sr, km_sr_fl, km_sr_flo, km_up_up, km_up_lt, km_lay, km_unL, km_up_o, km_upx_i, km_upx_s, km_fl2_o, km_is, Option.some.injEq, Sum.inl.injEq, Sum.inr.injEq, Option.toList_some, Option.toList_none, List.cons_append, List.nil_append, ne_eq, true_and, and_true, and_self, not_true_eq_false, not_false_eq_true, true_implies, false_implies, reduceCtorEq]
      rw [g_X12_wordAt_57]
      by_cases y : krL.getD r 0 ≤ 0
      · omega
      · simp (config := { decide := true }) (disch := first | decide | assumption | omega | (simp (config := { decide := true }) only [km_sr_sf, km_sr_of, km_up_of, km_up_o, km_upx_i, km_upx_s, km_fl2_o, ne_eq, not_true_eq_false, not_false_eq_true] <;> omega) | fail) only [g_X12_wordAt, y, ka_lt, ka_le, ka_nlt, ka_nle, ka_ne, ka_eq, Int.add_sub_cancel, true_or, or_true, false_or, or_false, false_and, and_false, if_true, if_false, ka_lo, ka_hi, ka_nn, km_sr_sf, km_sr_of, km_up_of, km_sr_us, km_sr_uo, km_sr_sr, km_sr_fl, km_sr_flo, km_up_up, km_up_lt, km_lay, km_unL, km_up_o, km_upx_i, km_upx_s, km_fl2_o, km_is, Option.some.injEq, Sum.inl.injEq, Sum.inr.injEq, Option.toList_some, Option.toList_none, List.cons_append, List.nil_append, ne_eq, true_and, and_true, and_self, not_true_eq_false, not_false_eq_true, true_implies, false_implies, reduceCtorEq]
theorem md_wordAt {q : Nat × Int × Int × Int × Int} {c s : Nat} {Y : km_Mm} {a b : Int} (a0 : 0 ≤ a) (ab0 : a ≤ b) (ab : b ≤ 600) (hw : ∀ i : Int, 0 ≤ i → i < 132 → Y 137 i = kr_wl.getD i.toNat 0) (Q : Option km_V → km_Al → km_Mm → Prop) : km_E M_X12_wordAt [.inr (.inr 123), .inl a, .inl b] (km_A0 q c s) Y Q ↔ Q (some (.inl (kwr (Y 124) a b 27 0))) (km_A0 q c s) Y := by
  have l := @lp_wa5 q c s Y a b a0 ab0 ab hw Q 27 0 none none none rfl
  rw [show ((0 : Nat) : Int) = 0 from rfl, show krS.getD 0 0 = 0 from rfl] at l
  rw [e_X12_wordAt]
  simp (config := { decide := true }) (disch := first | decide | assumption | omega | (simp (config := { decide := true }) only [km_sr_sf, km_sr_of, km_up_of, km_up_o, km_upx_i, km_upx_s, km_fl2_o, ne_eq, not_true_eq_false, not_false_eq_true] <;> omega) | fail) only [g_X12_wordAt, l, Int.add_sub_cancel, true_or, or_true, false_or, or_false, false_and, and_false, if_true, if_false, ka_lo, ka_hi, ka_nn, km_sr_sf, km_sr_of, km_up_of, km_sr_us, km_sr_uo, km_sr_sr, km_sr_fl, km_sr_flo, km_up_up, km_up_lt, km_lay, km_unL, km_up_o, km_upx_i, km_upx_s, km_fl2_o, km_is, Option.some.injEq, Sum.inl.injEq, Sum.inr.injEq, Option.toList_some, Option.toList_none, List.cons_append, List.nil_append, ne_eq, true_and, and_true, and_self, not_true_eq_false, not_false_eq_true, true_implies, false_implies, reduceCtorEq]
theorem krm_cg {B C : Int → Int} {n a b : Int} {r : Nat} (h : ∀ i : Int, 0 ≤ i → i < n → B i = C i) (a0 : 0 ≤ a) (bn : b ≤ n) : krm B a b r ↔ krm C a b r := by
  unfold krm
  constructor
  · rintro ⟨h1, h2⟩; exact ⟨h1, fun x x0 x1 => by rw [← h (a + x) (by omega) (by omega)]; exact h2 x x0 x1⟩
  · rintro ⟨h1, h2⟩; exact ⟨h1, fun x x0 x1 => by rw [h (a + x) (by omega) (by omega)]; exact h2 x x0 x1⟩
theorem kwr_cg {B C : Int → Int} {n a b : Int} (h : ∀ i : Int, 0 ≤ i → i < n → B i = C i) (a0 : 0 ≤ a) (bn : b ≤ n) : ∀ (N r : Nat), kwr B a b N r = kwr C a b N r := by
  intro N
  induction N with
  | zero => intro r; rfl
  | succ N ih =>
    intro r
    unfold kwr
    rw [ih]
    have k := krm_cg (r := r) h a0 bn
    by_cases z : krm B a b r
    · rw [if_pos z, if_pos (k.mp z)]
    · rw [if_neg z, if_neg (fun w => z (k.mpr w))]
theorem kTx_up {Y : km_Mm} {B : Int → Int} {n j v : Int} (h : kTx Y B n) (hj : j ≠ 25) : kTx (km_up Y 123 j v) B n := by
  obtain ⟨h1, h2, h3, h4⟩ := h
  refine ⟨by rw [km_upx_i (Ne.symm hj)]; exact h1, h2, fun i i0 i1 => by rw [km_up_o (by decide)]; exact h3 i i0 i1, fun i i0 i1 => by rw [km_up_o (by decide)]; exact h4 i i0 i1⟩
theorem lp_tk0 {q : Nat × Int × Int × Int × Int} {c s : Nat} {Y : km_Mm} {B : Int → Int} {n : Int} (h : kTx Y B n) (Q : Option km_V → km_Al → km_Mm → Prop) : ∀ (f : Nat) (p : Int), 0 ≤ p → p ≤ n → n - p ≤ f → (km_G M_X12_take 0 [some (.inr (.inr 123)), none] [] (km_A0 q c s) (km_up Y 123 26 p) Q ↔ km_G M_X12_take 52 [some (.inr (.inr 123)), none] [] (km_A0 q c s) (km_up Y 123 26 (ksk B n f p)) Q) := by
  obtain ⟨h1, h2, h3, h4⟩ := h
  intro f
  induction f with
  | zero =>
    intro p p0 pn h
    have e : ¬ p < n := by omega
    rw [g_X12_take_0]
    unfold ksk
    simp (config := { decide := true }) (disch := first | decide | assumption | omega | (simp (config := { decide := true }) only [km_sr_sf, km_sr_of, km_up_of, km_up_o, km_upx_i, km_upx_s, km_fl2_o, ne_eq, not_true_eq_false, not_false_eq_true] <;> omega) | fail) only [g_X12_take, h1, e, ka_lt, ka_le, ka_nlt, ka_nle, ka_ne, ka_eq, Int.add_sub_cancel, true_or, or_true, false_or, or_false, false_and, and_false, if_true, if_false, ka_lo, ka_hi, ka_nn, km_sr_sf, km_sr_of, km_up_of, km_sr_us, km_sr_uo, km_sr_sr, km_sr_fl, km_sr_flo, km_up_up, km_up_lt, km_lay, km_unL, km_up_o, km_upx_i, km_upx_s, km_fl2_o, km_is, Option.some.injEq, Sum.inl.injEq, Sum.inr.injEq, Option.toList_some, Option.toList_none, List.cons_append, List.nil_append, ne_eq, true_and, and_true, and_self, not_true_eq_false, not_false_eq_true, true_implies, false_implies, reduceCtorEq]
  | succ f ih =>
    intro p p0 pn h
    rw [g_X12_take_0]
    unfold ksk
    by_cases z1 : p < n
    · have e := (h3 p p0 z1).1
      by_cases z2 : B p = 32
      · have z3 : ¬ B p = 10 := by omega
        rw [if_pos ⟨z1, Or.inl z2⟩, ← ih (p + 1) (by omega) (by omega) (by omega)]
        simp (config := { decide := true }) (disch := first | decide | assumption | omega | (simp (config := { decide := true }) only [km_sr_sf, km_sr_of, km_up_of, km_up_o, km_upx_i, km_upx_s, km_fl2_o, ne_eq, not_true_eq_false, not_false_eq_true] <;> omega) | fail) only [g_X12_take, h1, z1, e, z2, ka_lt, ka_le, ka_nlt, ka_nle, ka_ne, ka_eq, Int.add_sub_cancel, true_or, or_true, false_or, or_false, false_and, and_false, if_true, if_false, ka_lo, ka_hi, ka_nn, km_sr_sf, km_sr_of, km_up_of, km_sr_us, km_sr_uo, km_sr_sr, km_sr_fl, km_sr_flo, km_up_up, km_up_lt, km_lay, km_unL, km_up_o, km_upx_i, km_upx_s, km_fl2_o, km_is, Option.some.injEq, Sum.inl.injEq, Sum.inr.injEq, Option.toList_some, Option.toList_none, List.cons_append, List.nil_append, ne_eq, true_and, and_true, and_self, not_true_eq_false, not_false_eq_true, true_implies, false_implies, reduceCtorEq]
      · by_cases z3 : B p = 10
        · rw [if_pos ⟨z1, Or.inr z3⟩, ← ih (p + 1) (by omega) (by omega) (by omega)]
          simp (config := { decide := true }) (disch := first | decide | assumption | omega | (simp (config := { decide := true }) only [km_sr_sf, km_sr_of, km_up_of, km_up_o, km_upx_i, km_upx_s, km_fl2_o, ne_eq, not_true_eq_false, not_false_eq_true] <;> omega) | fail) only [g_X12_take, h1, z1, e, z3, ka_lt, ka_le, ka_nlt, ka_nle, ka_ne, ka_eq, Int.add_sub_cancel, true_or, or_true, false_or, or_false, false_and, and_false, if_true, if_false, ka_lo, ka_hi, ka_nn, km_sr_sf, km_sr_of, km_up_of, km_sr_us, km_sr_uo, km_sr_sr, km_sr_fl, km_sr_flo, km_up_up, km_up_lt, km_lay, km_unL, km_up_o, km_upx_i, km_upx_s, km_fl2_o, km_is, Option.some.injEq, Sum.inl.injEq, Sum.inr.injEq, Option.toList_some, Option.toList_none, List.cons_append, List.nil_append, ne_eq, true_and, and_true, and_self, not_true_eq_false, not_false_eq_true, true_implies, false_implies, reduceCtorEq]
        · rw [if_neg (fun w => w.2.elim z2 z3)]
          simp (config := { decide := true }) (disch := first | decide | assumption | omega | (simp (config := { decide := true }) only [km_sr_sf, km_sr_of, km_up_of, km_up_o, km_upx_i, km_upx_s, km_fl2_o, ne_eq, not_true_eq_false, not_false_eq_true] <;> omega) | fail) only [g_X12_take, h1, z1, e, z2, z3, ka_lt, ka_le, ka_nlt, ka_nle, ka_ne, ka_eq, Int.add_sub_cancel, true_or, or_true, false_or, or_false, false_and, and_false, if_true, if_false, ka_lo, ka_hi, ka_nn, km_sr_sf, km_sr_of, km_up_of, km_sr_us, km_sr_uo, km_sr_sr, km_sr_fl, km_sr_flo, km_up_up, km_up_lt, km_lay, km_unL, km_up_o, km_upx_i, km_upx_s, km_fl2_o, km_is, Option.some.injEq, Sum.inl.injEq, Sum.inr.injEq, Option.toList_some, Option.toList_none, List.cons_append, List.nil_append, ne_eq, true_and, and_true, and_self, not_true_eq_false, not_false_eq_true, true_implies, false_implies, reduceCtorEq]
    · rw [if_neg (fun w => z1 w.1)]
      simp (config := { decide := true }) (disch := first | decide | assumption | omega | (simp (config := { decide := true }) only [km_sr_sf, km_sr_of, km_up_of, km_up_o, km_upx_i, km_upx_s, km_fl2_o, ne_eq, not_true_eq_false, not_false_eq_true] <;> omega) | fail) only [g_X12_take, h1, z1, ka_lt, ka_le, ka_nlt, ka_nle, ka_ne, ka_eq, Int.add_sub_cancel, true_or, or_true, false_or, or_false, false_and, and_false, if_true, if_false, ka_lo, ka_hi, ka_nn, km_sr_sf, km_sr_of, km_up_of, km_sr_us, km_sr_uo, km_sr_sr, km_sr_fl, km_sr_flo, km_up_up, km_up_lt, km_lay, km_unL, km_up_o, km_upx_i, km_upx_s, km_fl2_o, km_is, Option.some.injEq, Sum.inl.injEq, Sum.inr.injEq, Option.toList_some, Option.toList_none, List.cons_append, List.nil_append, ne_eq, true_and, and_true, and_self, not_true_eq_false, not_false_eq_true, true_implies, false_implies, reduceCtorEq]
theorem lp_tk90 {q : Nat × Int × Int × Int × Int} {c s : Nat} {Y : km_Mm} {B : Int → Int} {n : Int} (h : kTx Y B n) (Q : Option km_V → km_Al → km_Mm → Prop) : ∀ (f : Nat) (p : Int), 0 ≤ p → p ≤ n → n - p ≤ f → (km_G M_X12_take 90 [some (.inr (.inr 123)), none] [] (km_A0 q c s) (km_up Y 123 26 p) Q ↔ km_G M_X12_take 114 [some (.inr (.inr 123)), none] [] (km_A0 q c s) (km_up Y 123 26 (kle B n f p)) Q) := by
  intro f
  induction f with
  | zero =>
    intro p p0 pn hf
    have sm := fun Q => @r_isSmall q c s (km_up Y 123 26 p) B n p (kTx_up h (by decide)) p0 Q
    rw [if_neg (fun w => by omega)] at sm
    rw [g_X12_take_90]
    unfold kle
    simp (config := { decide := true }) (disch := first | decide | assumption | omega | (simp (config := { decide := true }) only [km_sr_sf, km_sr_of, km_up_of, km_up_o, km_upx_i, km_upx_s, km_fl2_o, ne_eq, not_true_eq_false, not_false_eq_true] <;> omega) | fail) only [g_X12_take, sm, ka_lt, ka_le, ka_nlt, ka_nle, ka_ne, ka_eq, Int.add_sub_cancel, true_or, or_true, false_or, or_false, false_and, and_false, if_true, if_false, ka_lo, ka_hi, ka_nn, km_sr_sf, km_sr_of, km_up_of, km_sr_us, km_sr_uo, km_sr_sr, km_sr_fl, km_sr_flo, km_up_up, km_up_lt, km_lay, km_unL, km_up_o, km_upx_i, km_upx_s, km_fl2_o, km_is, Option.some.injEq, Sum.inl.injEq, Sum.inr.injEq, Option.toList_some, Option.toList_none, List.cons_append, List.nil_append, ne_eq, true_and, and_true, and_self, not_true_eq_false, not_false_eq_true, true_implies, false_implies, reduceCtorEq]
  | succ f ih =>
    intro p p0 pn hf
    have sm := fun Q => @r_isSmall q c s (km_up Y 123 26 p) B n p (kTx_up h (by decide)) p0 Q
    rw [g_X12_take_90]
    unfold kle
    by_cases z : p < n ∧ 97 ≤ B p ∧ B p ≤ 122
    · rw [if_pos z] at sm ⊢
      rw [← ih (p + 1) (by omega) (by omega) (by omega)]
      have := h.2.1
      simp (config := { decide := true }) (disch := first | decide | assumption | omega | (simp (config := { decide := true }) only [km_sr_sf, km_sr_of, km_up_of, km_up_o, km_upx_i, km_upx_s, km_fl2_o, ne_eq, not_true_eq_false, not_false_eq_true] <;> omega) | fail) only [g_X12_take, sm, ka_lt, ka_le, ka_nlt, ka_nle, ka_ne, ka_eq, Int.add_sub_cancel, true_or, or_true, false_or, or_false, false_and, and_false, if_true, if_false, ka_lo, ka_hi, ka_nn, km_sr_sf, km_sr_of, km_up_of, km_sr_us, km_sr_uo, km_sr_sr, km_sr_fl, km_sr_flo, km_up_up, km_up_lt, km_lay, km_unL, km_up_o, km_upx_i, km_upx_s, km_fl2_o, km_is, Option.some.injEq, Sum.inl.injEq, Sum.inr.injEq, Option.toList_some, Option.toList_none, List.cons_append, List.nil_append, ne_eq, true_and, and_true, and_self, not_true_eq_false, not_false_eq_true, true_implies, false_implies, reduceCtorEq]
    · rw [if_neg z] at sm ⊢
      simp (config := { decide := true }) (disch := first | decide | assumption | omega | (simp (config := { decide := true }) only [km_sr_sf, km_sr_of, km_up_of, km_up_o, km_upx_i, km_upx_s, km_fl2_o, ne_eq, not_true_eq_false, not_false_eq_true] <;> omega) | fail) only [g_X12_take, sm, ka_lt, ka_le, ka_nlt, ka_nle, ka_ne, ka_eq, Int.add_sub_cancel, true_or, or_true, false_or, or_false, false_and, and_false, if_true, if_false, ka_lo, ka_hi, ka_nn, km_sr_sf, km_sr_of, km_up_of, km_sr_us, km_sr_uo, km_sr_sr, km_sr_fl, km_sr_flo, km_up_up, km_up_lt, km_lay, km_unL, km_up_o, km_upx_i, km_upx_s, km_fl2_o, km_is, Option.some.injEq, Sum.inl.injEq, Sum.inr.injEq, Option.toList_some, Option.toList_none, List.cons_append, List.nil_append, ne_eq, true_and, and_true, and_self, not_true_eq_false, not_false_eq_true, true_implies, false_implies, reduceCtorEq]
theorem lp_tk170 {q : Nat × Int × Int × Int × Int} {c s : Nat} {Y : km_Mm} {B : Int → Int} {n : Int} (h : kTx Y B n) (Q : Option km_V → km_Al → km_Mm → Prop) : ∀ (f : Nat) (p v : Int), 0 ≤ p → p ≤ n → n - p ≤ f → 0 ≤ v ∧ v ≤ 99999999 → (km_G M_X12_take 170 [some (.inr (.inr 123)), none] [] (km_A0 q c s) (km_up (km_up Y 123 26 p) 123 28 v) Q ↔ Q none (km_A0 q c s) (km_up (km_up Y 123 26 (kde B n f p)) 123 28 (kdr B n f p v))) := by
  intro f
  induction f with
  | zero =>
    intro p v p0 pn hf hv
    have sm := fun Q => @r_misDigit q c s (km_up (km_up Y 123 26 p) 123 28 v) B n p (kTx_up (kTx_up h (by decide)) (by decide)) p0 Q
    rw [if_neg (fun w => by omega)] at sm
    rw [g_X12_take_170]
    unfold kde kdr
    simp (config := { decide := true }) (disch := first | decide | assumption | omega | (simp (config := { decide := true }) only [km_sr_sf, km_sr_of, km_up_of, km_up_o, km_upx_i, km_upx_s, km_fl2_o, ne_eq, not_true_eq_false, not_false_eq_true] <;> omega) | fail) only [g_X12_take, sm, ka_lt, ka_le, ka_nlt, ka_nle, ka_ne, ka_eq, Int.add_sub_cancel, true_or, or_true, false_or, or_false, false_and, and_false, if_true, if_false, ka_lo, ka_hi, ka_nn, km_sr_sf, km_sr_of, km_up_of, km_sr_us, km_sr_uo, km_sr_sr, km_sr_fl, km_sr_flo, km_up_up, km_up_lt, km_lay, km_unL, km_up_o, km_upx_i, km_upx_s, km_fl2_o, km_is, Option.some.injEq, Sum.inl.injEq, Sum.inr.injEq, Option.toList_some, Option.toList_none, List.cons_append, List.nil_append, ne_eq, true_and, and_true, and_self, not_true_eq_false, not_false_eq_true, true_implies, false_implies, reduceCtorEq]
  | succ f ih =>
    intro p v p0 pn hf hv
    have sm := fun Q => @r_misDigit q c s (km_up (km_up Y 123 26 p) 123 28 v) B n p (kTx_up (kTx_up h (by decide)) (by decide)) p0 Q
    rw [g_X12_take_170]
    unfold kde kdr
    by_cases z : p < n ∧ 48 ≤ B p ∧ B p ≤ 57
    · have e := (h.2.2.1 p p0 z.1).1
      have := h.2.1
      rw [if_pos z] at sm ⊢
      rw [if_pos z]
      have sw : ∀ x : Int, km_up (km_up Y 123 26 (p + 1)) 123 28 x = km_up (km_up (km_up (km_up Y 123 26 p) 123 28 v) 123 28 x) 123 26 (p + 1) := fun x => by
        funext b j; unfold km_up; grind
      by_cases y : 999999 < v
      · rw [if_pos y, ← ih (p + 1) v (by omega) (by omega) (by omega) hv, sw]
        simp (config := { decide := true }) (disch := first | decide | assumption | omega | (simp (config := { decide := true }) only [km_sr_sf, km_sr_of, km_up_of, km_up_o, km_upx_i, km_upx_s, km_fl2_o, ne_eq, not_true_eq_false, not_false_eq_true] <;> omega) | fail) only [g_X12_take, sm, y, ka_lt, ka_le, ka_nlt, ka_nle, ka_ne, ka_eq, Int.add_sub_cancel, true_or, or_true, false_or, or_false, false_and, and_false, if_true, if_false, ka_lo, ka_hi, ka_nn, km_sr_sf, km_sr_of, km_up_of, km_sr_us, km_sr_uo, km_sr_sr, km_sr_fl, km_sr_flo, km_up_up, km_up_lt, km_lay, km_unL, km_up_o, km_upx_i, km_upx_s, km_fl2_o, km_is, Option.some.injEq, Sum.inl.injEq, Sum.inr.injEq, Option.toList_some, Option.toList_none, List.cons_append, List.nil_append, ne_eq, true_and, and_true, and_self, not_true_eq_false, not_false_eq_true, true_implies, false_implies, reduceCtorEq]
      · rw [if_neg y, ← ih (p + 1) _ (by omega) (by omega) (by omega) (by omega), sw]
        have vb : -2147483648 ≤ 10 * v + B p - 48 ∧ 10 * v + B p - 48 ≤ 2147483647 := by omega
        simp (config := { decide := true }) (disch := first | decide | assumption | omega | (simp (config := { decide := true }) only [km_sr_sf, km_sr_of, km_up_of, km_up_o, km_upx_i, km_upx_s, km_fl2_o, ne_eq, not_true_eq_false, not_false_eq_true] <;> omega) | fail) only [g_X12_take, sm, y, e, vb, ka_lt, ka_le, ka_nlt, ka_nle, ka_ne, ka_eq, Int.add_sub_cancel, true_or, or_true, false_or, or_false, false_and, and_false, if_true, if_false, ka_lo, ka_hi, ka_nn, km_sr_sf, km_sr_of, km_up_of, km_sr_us, km_sr_uo, km_sr_sr, km_sr_fl, km_sr_flo, km_up_up, km_up_lt, km_lay, km_unL, km_up_o, km_upx_i, km_upx_s, km_fl2_o, km_is, Option.some.injEq, Sum.inl.injEq, Sum.inr.injEq, Option.toList_some, Option.toList_none, List.cons_append, List.nil_append, ne_eq, true_and, and_true, and_self, not_true_eq_false, not_false_eq_true, true_implies, false_implies, reduceCtorEq]
    · rw [if_neg z] at sm ⊢
      rw [if_neg z]
      simp (config := { decide := true }) (disch := first | decide | assumption | omega | (simp (config := { decide := true }) only [km_sr_sf, km_sr_of, km_up_of, km_up_o, km_upx_i, km_upx_s, km_fl2_o, ne_eq, not_true_eq_false, not_false_eq_true] <;> omega) | fail) only [g_X12_take, sm, ka_lt, ka_le, ka_nlt, ka_nle, ka_ne, ka_eq, Int.add_sub_cancel, true_or, or_true, false_or, or_false, false_and, and_false, if_true, if_false, ka_lo, ka_hi, ka_nn, km_sr_sf, km_sr_of, km_up_of, km_sr_us, km_sr_uo, km_sr_sr, km_sr_fl, km_sr_flo, km_up_up, km_up_lt, km_lay, km_unL, km_up_o, km_upx_i, km_upx_s, km_fl2_o, km_is, Option.some.injEq, Sum.inl.injEq, Sum.inr.injEq, Option.toList_some, Option.toList_none, List.cons_append, List.nil_append, ne_eq, true_and, and_true, and_self, not_true_eq_false, not_false_eq_true, true_implies, false_implies, reduceCtorEq]
theorem kso_k {x b1 n k : Int} {B : Int → Int} (hx : B k = x) (h1 : kb1 B n k = b1) (x0 : 0 ≤ x) : (kso x b1 = -1 ∧ ksgn B n k = 1) ∨ (0 ≤ kso x b1 ∧ (∀ v : Int, ktk (ksgn B n k) v 3 (kso x b1)) ∧ ((ksgn B n k = 14 ∨ ksgn B n k = 15 ∨ ksgn B n k = 16) ↔ (kso x b1 = 11 ∨ kso x b1 = 13 ∨ kso x b1 = 15))) := by
  unfold ksgn kso
  rw [hx, h1]
  by_cases a1 : x = 60
  · subst a1
    have e : km_six 60 = 8 := by decide
    by_cases d1 : b1 = 61
    · subst d1; right; refine ⟨by decide, fun v => ?_, by decide⟩; exact Or.inr (Or.inr (Or.inr (Or.inr ⟨rfl, by decide⟩)))
    · by_cases d2 : b1 = 62
      · subst d2; right; refine ⟨by decide, fun v => ?_, by decide⟩; exact Or.inr (Or.inr (Or.inr (Or.inr ⟨rfl, by decide⟩)))
      · right; simp only [d1, d2, e, and_false, if_false, if_true]; refine ⟨by decide, fun v => ?_, by decide⟩; exact Or.inr (Or.inr (Or.inr (Or.inr ⟨rfl, by decide⟩)))
  · by_cases a2 : x = 62
    · subst a2
      have e : km_six 62 = 10 := by decide
      by_cases d1 : b1 = 61
      · subst d1; right; refine ⟨by decide, fun v => ?_, by decide⟩; exact Or.inr (Or.inr (Or.inr (Or.inr ⟨rfl, by decide⟩)))
      · right; simp only [d1, e, and_false, false_and, show ¬ (62 : Int) = 60 by decide, if_false, if_true]; refine ⟨by decide, fun v => ?_, by decide⟩; exact Or.inr (Or.inr (Or.inr (Or.inr ⟨rfl, by decide⟩)))
    · simp only [a1, a2, false_and, if_false]
      unfold km_six
      simp only [a1, a2, if_false]
      by_cases a3 : x = 61
      · subst a3; right; refine ⟨by decide, fun v => ?_, by decide⟩; exact Or.inr (Or.inr (Or.inr (Or.inr ⟨rfl, by decide⟩)))
      by_cases a4 : x = 43
      · subst a4; right; refine ⟨by decide, fun v => ?_, by decide⟩; exact Or.inr (Or.inr (Or.inr (Or.inr ⟨rfl, by decide⟩)))
      by_cases a5 : x = 45
      · subst a5; right; refine ⟨by decide, fun v => ?_, by decide⟩; exact Or.inr (Or.inr (Or.inr (Or.inr ⟨rfl, by decide⟩)))
      by_cases a6 : x = 42
      · subst a6; right; refine ⟨by decide, fun v => ?_, by decide⟩; exact Or.inr (Or.inr (Or.inr (Or.inr ⟨rfl, by decide⟩)))
      by_cases a7 : x = 47
      · subst a7; right; refine ⟨by decide, fun v => ?_, by decide⟩; exact Or.inr (Or.inr (Or.inr (Or.inr ⟨rfl, by decide⟩)))
      by_cases a8 : x = 37
      · subst a8; right; refine ⟨by decide, fun v => ?_, by decide⟩; exact Or.inr (Or.inr (Or.inr (Or.inr ⟨rfl, by decide⟩)))
      by_cases a9 : x = 59
      · subst a9; right; refine ⟨by decide, fun v => ?_, by decide⟩; exact Or.inr (Or.inr (Or.inr (Or.inr ⟨rfl, by decide⟩)))
      by_cases aa : x = 40
      · subst aa; right; refine ⟨by decide, fun v => ?_, by decide⟩; exact Or.inr (Or.inr (Or.inr (Or.inr ⟨rfl, by decide⟩)))
      by_cases ab : x = 41
      · subst ab; right; refine ⟨by decide, fun v => ?_, by decide⟩; exact Or.inr (Or.inr (Or.inr (Or.inr ⟨rfl, by decide⟩)))
      left
      simp only [a3, a4, a5, a6, a7, a8, a9, aa, ab, if_false, or_self]
      exact ⟨trivial, rfl⟩
theorem md_take {q : Nat × Int × Int × Int × Int} {c s : Nat} {Y : km_Mm} {B : Int → Int} {n p : Int} (h : kTx Y B n) (p0 : 0 ≤ p) (pn : p ≤ n) (h26 : Y 123 26 = p) :
    ∃ M' : km_Mm, (∀ b j : Int, ¬ (b = 123 ∧ 26 ≤ j ∧ j ≤ 29) → M' b j = Y b j) ∧ M' 123 29 = ksk B n 600 p ∧ M' 123 26 = kcN B n (ksk B n 600 p) ∧ ktk (kcT B n (ksk B n 600 p)) (kcV B n (ksk B n 600 p)) (M' 123 27) (M' 123 28) ∧ ∀ Q : Option km_V → km_Al → km_Mm → Prop, (km_E M_X12_take [.inr (.inr 123)] (km_A0 q c s) Y Q ↔ Q none (km_A0 q c s) M') := by
  obtain ⟨k0, kn, -⟩ := ksk_b (B := B) (n := n) 600 p pn
  have id : km_up Y 123 26 p = Y := by rw [← h26]; exact km_up_id
  obtain ⟨h1, h2, h3, h4⟩ := (show kTx Y B n from h)
  have l0 := fun Q => @lp_tk0 q c s Y B n h Q 600 p p0 pn (by omega)
  rw [id] at l0
  generalize hk : ksk B n 600 p = k at *
  have hZ : kTx (km_up (km_up Y 123 26 k) 123 29 k) B n := kTx_up (kTx_up h (by decide)) (by decide)
  have sm := fun Q => @r_isSmall q c s (km_up (km_up Y 123 26 k) 123 29 k) B n k hZ (by omega) Q
  have dg := fun Q => @r_misDigit q c s (km_up (km_up Y 123 26 k) 123 29 k) B n k hZ (by omega) Q
  unfold kcT kcN
  by_cases z : n ≤ k
  · have z' : k = n := by omega
    rw [if_pos z, if_pos z]
    refine ⟨km_up (km_up (km_up Y 123 26 k) 123 29 k) 123 27 0, fun b j w => ?_, ?_, ?_, Or.inl ⟨rfl, km_upx_s⟩, fun Q => ?_⟩
    · rw [km_up_ne (by omega), km_up_ne (by omega), km_up_ne (by omega)]
    · rw [km_upx_i (by decide), km_upx_s]
    · rw [km_upx_i (by decide), km_upx_i (by decide), km_upx_s]
    · rw [e_X12_take, l0]
      simp (config := { decide := true }) (disch := first | decide | assumption | omega | (simp (config := { decide := true }) only [km_sr_sf, km_sr_of, km_up_of, km_up_o, km_upx_i, km_upx_s, km_fl2_o, ne_eq, not_true_eq_false, not_false_eq_true] <;> omega) | fail) only [g_X12_take, h1, z', ka_lt, ka_le, ka_nlt, ka_nle, ka_ne, ka_eq, Int.add_sub_cancel, true_or, or_true, false_or, or_false, false_and, and_false, if_true, if_false, ka_lo, ka_hi, ka_nn, km_sr_sf, km_sr_of, km_up_of, km_sr_us, km_sr_uo, km_sr_sr, km_sr_fl, km_sr_flo, km_up_up, km_up_lt, km_lay, km_unL, km_up_o, km_upx_i, km_upx_s, km_fl2_o, km_is, Option.some.injEq, Sum.inl.injEq, Sum.inr.injEq, Option.toList_some, Option.toList_none, List.cons_append, List.nil_append, ne_eq, true_and, and_true, and_self, not_true_eq_false, not_false_eq_true, true_implies, false_implies, reduceCtorEq]
  · have z' : ¬ k = n := by omega
    rw [if_neg z, if_neg z]
    by_cases a : 97 ≤ B k ∧ B k ≤ 122
    · rw [if_pos a, if_pos a]
      rw [if_pos ⟨by omega, a⟩] at sm
      have lb := kle_b (B := B) (n := n) 600 k kn
      have sw : km_up (km_up Y 123 26 k) 123 29 k = km_up (km_up Y 123 29 k) 123 26 k := by funext b j; unfold km_up; grind
      have l90 := fun Q => @lp_tk90 q c s (km_up Y 123 29 k) B n (kTx_up h (by decide)) Q 600 k (by omega) kn (by omega)
      rw [← sw] at l90
      have wa := fun Q => @md_wordAt q c s (km_up (km_up Y 123 29 k) 123 26 (kle B n 600 k)) k (kle B n 600 k) (by omega) lb.1 (by omega) (kTx_up (kTx_up h (by decide)) (by decide)).2.2.2 Q
      have e124 : km_up (km_up Y 123 29 k) 123 26 (kle B n 600 k) 124 = Y 124 := by rw [km_up_of (by decide), km_up_of (by decide)]
      rw [e124, kwr_cg (C := B) (n := n) (fun i i0 i1 => (h3 i i0 i1).1) (by omega) (by omega)] at wa
      rcases kwt_kwr (B := B) lb.1 with ⟨w1, w2⟩ | ⟨w1, w2⟩
      · rw [w2] at wa
        rw [w1]
        refine ⟨km_up (km_up (km_up (km_up Y 123 29 k) 123 26 (kle B n 600 k)) 123 28 (-1)) 123 27 4, fun b j w => ?_, ?_, ?_, Or.inr (Or.inl ⟨rfl, km_upx_s⟩), fun Q => ?_⟩
        · rw [km_up_ne (by omega), km_up_ne (by omega), km_up_ne (by omega), km_up_ne (by omega)]
        · rw [km_upx_i (by decide), km_upx_i (by decide), km_upx_i (by decide), km_upx_s]
        · rw [km_upx_i (by decide), km_upx_i (by decide), km_upx_s]
        · simp (config := { decide := true }) only [Int.add_sub_cancel, true_or, or_true, false_or, or_false, false_and, and_false, if_true, if_false, km_sr_sf, km_sr_of, km_up_of, km_sr_us, km_sr_uo, km_sr_sr, km_sr_fl, km_sr_flo, km_up_up, km_up_lt, km_lay, km_unL, km_up_o, km_upx_i, km_upx_s, km_fl2_o, km_is, Option.some.injEq, Sum.inl.injEq, Sum.inr.injEq, Option.toList_some, Option.toList_none, List.cons_append, List.nil_append, ne_eq, true_and, and_true, and_self, not_true_eq_false, not_false_eq_true, true_implies, false_implies, reduceCtorEq] at wa
          rw [e_X12_take, l0]
          simp (config := { decide := true }) (disch := first | decide | assumption | omega | (simp (config := { decide := true }) only [km_sr_sf, km_sr_of, km_up_of, km_up_o, km_upx_i, km_upx_s, km_fl2_o, ne_eq, not_true_eq_false, not_false_eq_true] <;> omega) | fail) only [g_X12_take, h1, z', sm, l90, wa, ka_lt, ka_le, ka_nlt, ka_nle, ka_ne, ka_eq, Int.add_sub_cancel, true_or, or_true, false_or, or_false, false_and, and_false, if_true, if_false, ka_lo, ka_hi, ka_nn, km_sr_sf, km_sr_of, km_up_of, km_sr_us, km_sr_uo, km_sr_sr, km_sr_fl, km_sr_flo, km_up_up, km_up_lt, km_lay, km_unL, km_up_o, km_upx_i, km_upx_s, km_fl2_o, km_is, Option.some.injEq, Sum.inl.injEq, Sum.inr.injEq, Option.toList_some, Option.toList_none, List.cons_append, List.nil_append, ne_eq, true_and, and_true, and_self, not_true_eq_false, not_false_eq_true, true_implies, false_implies, reduceCtorEq]
      · rw [w2] at wa
        have kb : 0 ≤ kww (kwt B k (kle B n 600 k) 27 0) := by unfold kww; split <;> (try split) <;> omega
        have kb' : ¬ kww (kwt B k (kle B n 600 k) 27 0) < 0 := by omega
        refine ⟨km_up (km_up (km_up (km_up Y 123 29 k) 123 26 (kle B n 600 k)) 123 28 (kww (kwt B k (kle B n 600 k) 27 0))) 123 27 1, fun b j w => ?_, ?_, ?_, Or.inr (Or.inr (Or.inr (Or.inl ⟨w1, km_upx_s, ?_⟩))), fun Q => ?_⟩
        · rw [km_up_ne (by omega), km_up_ne (by omega), km_up_ne (by omega), km_up_ne (by omega)]
        · rw [km_upx_i (by decide), km_upx_i (by decide), km_upx_i (by decide), km_upx_s]
        · rw [km_upx_i (by decide), km_upx_i (by decide), km_upx_s]
        · rw [km_upx_i (by decide), km_upx_s]
        · simp (config := { decide := true }) only [Int.add_sub_cancel, true_or, or_true, false_or, or_false, false_and, and_false, if_true, if_false, km_sr_sf, km_sr_of, km_up_of, km_sr_us, km_sr_uo, km_sr_sr, km_sr_fl, km_sr_flo, km_up_up, km_up_lt, km_lay, km_unL, km_up_o, km_upx_i, km_upx_s, km_fl2_o, km_is, Option.some.injEq, Sum.inl.injEq, Sum.inr.injEq, Option.toList_some, Option.toList_none, List.cons_append, List.nil_append, ne_eq, true_and, and_true, and_self, not_true_eq_false, not_false_eq_true, true_implies, false_implies, reduceCtorEq] at wa
          rw [e_X12_take, l0]
          simp (config := { decide := true }) (disch := first | decide | assumption | omega | (simp (config := { decide := true }) only [km_sr_sf, km_sr_of, km_up_of, km_up_o, km_upx_i, km_upx_s, km_fl2_o, ne_eq, not_true_eq_false, not_false_eq_true] <;> omega) | fail) only [g_X12_take, h1, z', sm, l90, wa, kb, ka_lt, ka_le, ka_nlt, ka_nle, ka_ne, ka_eq, Int.add_sub_cancel, true_or, or_true, false_or, or_false, false_and, and_false, if_true, if_false, ka_lo, ka_hi, ka_nn, km_sr_sf, km_sr_of, km_up_of, km_sr_us, km_sr_uo, km_sr_sr, km_sr_fl, km_sr_flo, km_up_up, km_up_lt, km_lay, km_unL, km_up_o, km_upx_i, km_upx_s, km_fl2_o, km_is, Option.some.injEq, Sum.inl.injEq, Sum.inr.injEq, Option.toList_some, Option.toList_none, List.cons_append, List.nil_append, ne_eq, true_and, and_true, and_self, not_true_eq_false, not_false_eq_true, true_implies, false_implies, reduceCtorEq]
    · rw [if_neg a, if_neg a]
      rw [if_neg (fun w => a w.2)] at sm
      by_cases b : 48 ≤ B k ∧ B k ≤ 57
      · rw [if_pos b, if_pos b]
        rw [if_pos ⟨by omega, b⟩] at dg
        have sw : km_up (km_up (km_up (km_up Y 123 26 k) 123 29 k) 123 27 2) 123 28 0 = km_up (km_up (km_up (km_up Y 123 29 k) 123 27 2) 123 26 k) 123 28 0 := by funext b j; unfold km_up; grind
        have l170 := fun Q => @lp_tk170 q c s (km_up (km_up Y 123 29 k) 123 27 2) B n (kTx_up (kTx_up h (by decide)) (by decide)) Q 600 k 0 (by omega) kn (by omega) (by decide)
        rw [← sw] at l170
        refine ⟨km_up (km_up (km_up (km_up Y 123 29 k) 123 27 2) 123 26 (kde B n 600 k)) 123 28 (kdr B n 600 k 0), fun b j w => ?_, ?_, ?_, Or.inr (Or.inr (Or.inl ⟨rfl, ?_, ?_⟩)), fun Q => ?_⟩
        · rw [km_up_ne (by omega), km_up_ne (by omega), km_up_ne (by omega), km_up_ne (by omega)]
        · rw [km_upx_i (by decide), km_upx_i (by decide), km_upx_i (by decide), km_upx_s]
        · rw [km_upx_i (by decide), km_upx_s]
        · rw [km_upx_i (by decide), km_upx_i (by decide), km_upx_s]
        · rw [km_upx_s]; exact kdc_kdr 600 k 0 0 (Or.inl ⟨rfl, by decide, by decide⟩)
        · simp (config := { decide := true }) only [Int.add_sub_cancel, true_or, or_true, false_or, or_false, false_and, and_false, if_true, if_false, km_sr_sf, km_sr_of, km_up_of, km_sr_us, km_sr_uo, km_sr_sr, km_sr_fl, km_sr_flo, km_up_up, km_up_lt, km_lay, km_unL, km_up_o, km_upx_i, km_upx_s, km_fl2_o, km_is, Option.some.injEq, Sum.inl.injEq, Sum.inr.injEq, Option.toList_some, Option.toList_none, List.cons_append, List.nil_append, ne_eq, true_and, and_true, and_self, not_true_eq_false, not_false_eq_true, true_implies, false_implies, reduceCtorEq] at l170
          rw [e_X12_take, l0]
          simp (config := { decide := true }) (disch := first | decide | assumption | omega | (simp (config := { decide := true }) only [km_sr_sf, km_sr_of, km_up_of, km_up_o, km_upx_i, km_upx_s, km_fl2_o, ne_eq, not_true_eq_false, not_false_eq_true] <;> omega) | fail) only [g_X12_take, h1, z', sm, dg, l170, ka_lt, ka_le, ka_nlt, ka_nle, ka_ne, ka_eq, Int.add_sub_cancel, true_or, or_true, false_or, or_false, false_and, and_false, if_true, if_false, ka_lo, ka_hi, ka_nn, km_sr_sf, km_sr_of, km_up_of, km_sr_us, km_sr_uo, km_sr_sr, km_sr_fl, km_sr_flo, km_up_up, km_up_lt, km_lay, km_unL, km_up_o, km_upx_i, km_upx_s, km_fl2_o, km_is, Option.some.injEq, Sum.inl.injEq, Sum.inr.injEq, Option.toList_some, Option.toList_none, List.cons_append, List.nil_append, ne_eq, true_and, and_true, and_self, not_true_eq_false, not_false_eq_true, true_implies, false_implies, reduceCtorEq]
      · rw [if_neg b, if_neg b]
        rw [if_neg (fun w => b w.2)] at dg
        have e := h3 k (by omega) (by omega)
        have so := fun Q => @r_signOf q c s (km_up (km_up (km_up Y 123 26 k) 123 29 k) 123 26 (k + 1)) B n (B k) k (kTx_up hZ (by decide)) (by omega) km_upx_s e.2.1 Q
        rcases kso_k (B := B) (n := n) (k := k) rfl rfl e.2.1 with ⟨w1, w2⟩ | ⟨w1, w2, w3⟩
        · rw [w1] at so
          rw [w2]
          refine ⟨km_up (km_up (km_up (km_up (km_up Y 123 26 k) 123 29 k) 123 26 (k + 1)) 123 28 (-1)) 123 27 4, fun b j w => ?_, ?_, ?_, Or.inr (Or.inl ⟨rfl, km_upx_s⟩), fun Q => ?_⟩
          · rw [km_up_ne (by omega), km_up_ne (by omega), km_up_ne (by omega), km_up_ne (by omega), km_up_ne (by omega)]
          · rw [km_upx_i (by decide), km_upx_i (by decide), km_upx_i (by decide), km_upx_s]
          · rw [km_upx_i (by decide), km_upx_i (by decide), km_upx_s, if_neg (by decide)]
          · simp (config := { decide := true }) only [Int.add_sub_cancel, true_or, or_true, false_or, or_false, false_and, and_false, if_true, if_false, km_sr_sf, km_sr_of, km_up_of, km_sr_us, km_sr_uo, km_sr_sr, km_sr_fl, km_sr_flo, km_up_up, km_up_lt, km_lay, km_unL, km_up_o, km_upx_i, km_upx_s, km_fl2_o, km_is, Option.some.injEq, Sum.inl.injEq, Sum.inr.injEq, Option.toList_some, Option.toList_none, List.cons_append, List.nil_append, ne_eq, true_and, and_true, and_self, not_true_eq_false, not_false_eq_true, true_implies, false_implies, reduceCtorEq] at so
            rw [e_X12_take, l0]
            simp (config := { decide := true }) (disch := first | decide | assumption | omega | (simp (config := { decide := true }) only [km_sr_sf, km_sr_of, km_up_of, km_up_o, km_upx_i, km_upx_s, km_fl2_o, ne_eq, not_true_eq_false, not_false_eq_true] <;> omega) | fail) only [g_X12_take, h1, z', sm, dg, e.1, so, ka_lt, ka_le, ka_nlt, ka_nle, ka_ne, ka_eq, Int.add_sub_cancel, true_or, or_true, false_or, or_false, false_and, and_false, if_true, if_false, ka_lo, ka_hi, ka_nn, km_sr_sf, km_sr_of, km_up_of, km_sr_us, km_sr_uo, km_sr_sr, km_sr_fl, km_sr_flo, km_up_up, km_up_lt, km_lay, km_unL, km_up_o, km_upx_i, km_upx_s, km_fl2_o, km_is, Option.some.injEq, Sum.inl.injEq, Sum.inr.injEq, Option.toList_some, Option.toList_none, List.cons_append, List.nil_append, ne_eq, true_and, and_true, and_self, not_true_eq_false, not_false_eq_true, true_implies, false_implies, reduceCtorEq]
        · have nl : ¬ kso (B k) (kb1 B n k) < 0 := by omega
          by_cases d : ksgn B n k = 14 ∨ ksgn B n k = 15 ∨ ksgn B n k = 16
          · rw [if_pos d]
            have d2 := w3.mp d
            refine ⟨km_up (km_up (km_up (km_up (km_up (km_up Y 123 26 k) 123 29 k) 123 26 (k + 1)) 123 28 (kso (B k) (kb1 B n k))) 123 27 3) 123 26 (k + 2), fun b j w => ?_, ?_, ?_, ?_, fun Q => ?_⟩
            · rw [km_up_ne (by omega), km_up_ne (by omega), km_up_ne (by omega), km_up_ne (by omega), km_up_ne (by omega), km_up_ne (by omega)]
            · rw [km_upx_i (by decide), km_upx_i (by decide), km_upx_i (by decide), km_upx_i (by decide), km_upx_s]
            · rw [km_upx_s]
            · rw [km_upx_i (by decide), km_upx_s, km_upx_i (by decide), km_upx_i (by decide), km_upx_s]; exact w2 _
            · have k2 : k + 1 + 1 = k + 2 := by omega
              simp (config := { decide := true }) only [Int.add_sub_cancel, true_or, or_true, false_or, or_false, false_and, and_false, if_true, if_false, km_sr_sf, km_sr_of, km_up_of, km_sr_us, km_sr_uo, km_sr_sr, km_sr_fl, km_sr_flo, km_up_up, km_up_lt, km_lay, km_unL, km_up_o, km_upx_i, km_upx_s, km_fl2_o, km_is, Option.some.injEq, Sum.inl.injEq, Sum.inr.injEq, Option.toList_some, Option.toList_none, List.cons_append, List.nil_append, ne_eq, true_and, and_true, and_self, not_true_eq_false, not_false_eq_true, true_implies, false_implies, reduceCtorEq] at so
              rw [e_X12_take, l0]
              rcases d2 with d2 | d2 | d2
              · rw [d2] at so ⊢
                simp (config := { decide := true }) (disch := first | decide | assumption | omega | (simp (config := { decide := true }) only [km_sr_sf, km_sr_of, km_up_of, km_up_o, km_upx_i, km_upx_s, km_fl2_o, ne_eq, not_true_eq_false, not_false_eq_true] <;> omega) | fail) only [g_X12_take, h1, z', sm, dg, e.1, so, k2, ka_lt, ka_le, ka_nlt, ka_nle, ka_ne, ka_eq, Int.add_sub_cancel, true_or, or_true, false_or, or_false, false_and, and_false, if_true, if_false, ka_lo, ka_hi, ka_nn, km_sr_sf, km_sr_of, km_up_of, km_sr_us, km_sr_uo, km_sr_sr, km_sr_fl, km_sr_flo, km_up_up, km_up_lt, km_lay, km_unL, km_up_o, km_upx_i, km_upx_s, km_fl2_o, km_is, Option.some.injEq, Sum.inl.injEq, Sum.inr.injEq, Option.toList_some, Option.toList_none, List.cons_append, List.nil_append, ne_eq, true_and, and_true, and_self, not_true_eq_false, not_false_eq_true, true_implies, false_implies, reduceCtorEq]
              · rw [d2] at so ⊢
                simp (config := { decide := true }) (disch := first | decide | assumption | omega | (simp (config := { decide := true }) only [km_sr_sf, km_sr_of, km_up_of, km_up_o, km_upx_i, km_upx_s, km_fl2_o, ne_eq, not_true_eq_false, not_false_eq_true] <;> omega) | fail) only [g_X12_take, h1, z', sm, dg, e.1, so, k2, ka_lt, ka_le, ka_nlt, ka_nle, ka_ne, ka_eq, Int.add_sub_cancel, true_or, or_true, false_or, or_false, false_and, and_false, if_true, if_false, ka_lo, ka_hi, ka_nn, km_sr_sf, km_sr_of, km_up_of, km_sr_us, km_sr_uo, km_sr_sr, km_sr_fl, km_sr_flo, km_up_up, km_up_lt, km_lay, km_unL, km_up_o, km_upx_i, km_upx_s, km_fl2_o, km_is, Option.some.injEq, Sum.inl.injEq, Sum.inr.injEq, Option.toList_some, Option.toList_none, List.cons_append, List.nil_append, ne_eq, true_and, and_true, and_self, not_true_eq_false, not_false_eq_true, true_implies, false_implies, reduceCtorEq]
              · rw [d2] at so ⊢
                simp (config := { decide := true }) (disch := first | decide | assumption | omega | (simp (config := { decide := true }) only [km_sr_sf, km_sr_of, km_up_of, km_up_o, km_upx_i, km_upx_s, km_fl2_o, ne_eq, not_true_eq_false, not_false_eq_true] <;> omega) | fail) only [g_X12_take, h1, z', sm, dg, e.1, so, k2, ka_lt, ka_le, ka_nlt, ka_nle, ka_ne, ka_eq, Int.add_sub_cancel, true_or, or_true, false_or, or_false, false_and, and_false, if_true, if_false, ka_lo, ka_hi, ka_nn, km_sr_sf, km_sr_of, km_up_of, km_sr_us, km_sr_uo, km_sr_sr, km_sr_fl, km_sr_flo, km_up_up, km_up_lt, km_lay, km_unL, km_up_o, km_upx_i, km_upx_s, km_fl2_o, km_is, Option.some.injEq, Sum.inl.injEq, Sum.inr.injEq, Option.toList_some, Option.toList_none, List.cons_append, List.nil_append, ne_eq, true_and, and_true, and_self, not_true_eq_false, not_false_eq_true, true_implies, false_implies, reduceCtorEq]
          · rw [if_neg d]
            have d2 : ¬ kso (B k) (kb1 B n k) = 11 ∧ ¬ kso (B k) (kb1 B n k) = 13 ∧ ¬ kso (B k) (kb1 B n k) = 15 := ⟨fun w => d (w3.mpr (Or.inl w)), fun w => d (w3.mpr (Or.inr (Or.inl w))), fun w => d (w3.mpr (Or.inr (Or.inr w)))⟩
            refine ⟨km_up (km_up (km_up (km_up (km_up Y 123 26 k) 123 29 k) 123 26 (k + 1)) 123 28 (kso (B k) (kb1 B n k))) 123 27 3, fun b j w => ?_, ?_, ?_, ?_, fun Q => ?_⟩
            · rw [km_up_ne (by omega), km_up_ne (by omega), km_up_ne (by omega), km_up_ne (by omega), km_up_ne (by omega)]
            · rw [km_upx_i (by decide), km_upx_i (by decide), km_upx_i (by decide), km_upx_s]
            · rw [km_upx_i (by decide), km_upx_i (by decide), km_upx_s]
            · rw [km_upx_s, km_upx_i (by decide), km_upx_s]; exact w2 _
            · simp (config := { decide := true }) only [Int.add_sub_cancel, true_or, or_true, false_or, or_false, false_and, and_false, if_true, if_false, km_sr_sf, km_sr_of, km_up_of, km_sr_us, km_sr_uo, km_sr_sr, km_sr_fl, km_sr_flo, km_up_up, km_up_lt, km_lay, km_unL, km_up_o, km_upx_i, km_upx_s, km_fl2_o, km_is, Option.some.injEq, Sum.inl.injEq, Sum.inr.injEq, Option.toList_some, Option.toList_none, List.cons_append, List.nil_append, ne_eq, true_and, and_true, and_self, not_true_eq_false, not_false_eq_true, true_implies, false_implies, reduceCtorEq] at so
              rw [e_X12_take, l0]
              simp (config := { decide := true }) (disch := first | decide | assumption | omega | (simp (config := { decide := true }) only [km_sr_sf, km_sr_of, km_up_of, km_up_o, km_upx_i, km_upx_s, km_fl2_o, ne_eq, not_true_eq_false, not_false_eq_true] <;> omega) | fail) only [g_X12_take, h1, z', sm, dg, e.1, so, nl, w1, d2.1, d2.2.1, d2.2.2, ka_lt, ka_le, ka_nlt, ka_nle, ka_ne, ka_eq, Int.add_sub_cancel, true_or, or_true, false_or, or_false, false_and, and_false, if_true, if_false, ka_lo, ka_hi, ka_nn, km_sr_sf, km_sr_of, km_up_of, km_sr_us, km_sr_uo, km_sr_sr, km_sr_fl, km_sr_flo, km_up_up, km_up_lt, km_lay, km_unL, km_up_o, km_upx_i, km_upx_s, km_fl2_o, km_is, Option.some.injEq, Sum.inl.injEq, Sum.inr.injEq, Option.toList_some, Option.toList_none, List.cons_append, List.nil_append, ne_eq, true_and, and_true, and_self, not_true_eq_false, not_false_eq_true, true_implies, false_implies, reduceCtorEq]

