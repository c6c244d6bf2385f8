/-! ===== promises 24, 25: settle, payment ===== -/
section ST
variable {q q' : Nat × Int × Int × Int × Int} {c s : Nat} {m C M X Y Z : km_Mm} {N p1 b P k kn w0 : Int} {f : Int → Int} {w : Int}
/-- group by group, in both -/
theorem st_groups (hw : ten w) (k0 : 0 ≤ kn) (k1 : kn ≤ 10) (g : Int) : ∀ (n : Nat) (S i p : Int) (X Y : km_Mm) (o4 r3 r4 : Option km_V), S ≤ n → ksb S w → kbs f S = 0 → 0 ≤ i → i + km_pop S ≤ 10 → kGI f w (w + 1) X → kRI f w (w + 1) Y → Y 123 3 = kn → kPz kn X Y p → ∃ (X' Y' : km_Mm) (p' : Int), kPz kn X' Y' p' ∧ kFC X X' ∧ kFM Y Y' ∧ (∀ Q : Option km_V → km_Al → km_Mm → Prop, km_G M_X9_settleAll 63 [some (.inr (.inr 113)), some (.inl g), some (.inl S), some (.inl i), o4] [] (km_A0 q c s) X Q ↔ Q none (km_A0 q c s) X') ∧ ∀ Q : Option km_V → km_Al → km_Mm → Prop, km_G M_X12_settles 214 [some (.inr (.inr 123)), some (.inl w), some (.inl S), r3, r4] [] (km_A0 q' c s) Y Q ↔ Q none (km_A0 q' c s) Y' := by
  have stop : ∀ (i p : Int) (X Y : km_Mm) (o4 r3 r4 : Option km_V), kPz kn X Y p → ∃ (X' Y' : km_Mm) (p' : Int), kPz kn X' Y' p' ∧ kFC X X' ∧ kFM Y Y' ∧ (∀ Q : Option km_V → km_Al → km_Mm → Prop, km_G M_X9_settleAll 63 [some (.inr (.inr 113)), some (.inl g), some (.inl 0), some (.inl i), o4] [] (km_A0 q c s) X Q ↔ Q none (km_A0 q c s) X') ∧ ∀ Q : Option km_V → km_Al → km_Mm → Prop, km_G M_X12_settles 214 [some (.inr (.inr 123)), some (.inl w), some (.inl 0), r3, r4] [] (km_A0 q' c s) Y Q ↔ Q none (km_A0 q' c s) Y' := fun i p X Y o4 r3 r4 h => by
    refine ⟨X, Y, p, h, kFC_rf, kFM_rf, fun Q => ?_, fun Q => ?_⟩
    · rw [g_X9_settleAll_63]
      by_cases a : 10 ≤ i
      · simp (config := { decide := true }) (disch := first | decide | assumption | omega | (simp (config := { decide := true }) only [km_sr_sf, km_sr_of, km_up_of, km_up_o, km_upx_i, km_upx_s, km_fl2_o, ne_eq, not_true_eq_false, not_false_eq_true] <;> omega) | fail) only [g_X9_settleAll, a, ka_lt, ka_le, ka_nlt, ka_nle, ka_ne, ka_eq, Int.add_sub_cancel, true_or, or_true, false_or, or_false, false_and, and_false, if_true, if_false, ka_lo, ka_hi, ka_nn, km_sr_sf, km_sr_of, km_up_of, km_sr_us, km_sr_uo, km_sr_sr, km_sr_fl, km_sr_flo, km_up_up, km_up_lt, km_lay, km_unL, km_up_o, km_upx_i, km_upx_s, km_fl2_o, km_is, Option.some.injEq, Sum.inl.injEq, Sum.inr.injEq, Option.toList_some, Option.toList_none, List.cons_append, List.nil_append, ne_eq, true_and, and_true, and_self, not_true_eq_false, not_false_eq_true, true_implies, false_implies, reduceCtorEq]
      · simp (config := { decide := true }) (disch := first | decide | assumption | omega | (simp (config := { decide := true }) only [km_sr_sf, km_sr_of, km_up_of, km_up_o, km_upx_i, km_upx_s, km_fl2_o, ne_eq, not_true_eq_false, not_false_eq_true] <;> omega) | fail) only [g_X9_settleAll, a, ka_lt, ka_le, ka_nlt, ka_nle, ka_ne, ka_eq, Int.add_sub_cancel, true_or, or_true, false_or, or_false, false_and, and_false, if_true, if_false, ka_lo, ka_hi, ka_nn, km_sr_sf, km_sr_of, km_up_of, km_sr_us, km_sr_uo, km_sr_sr, km_sr_fl, km_sr_flo, km_up_up, km_up_lt, km_lay, km_unL, km_up_o, km_upx_i, km_upx_s, km_fl2_o, km_is, Option.some.injEq, Sum.inl.injEq, Sum.inr.injEq, Option.toList_some, Option.toList_none, List.cons_append, List.nil_append, ne_eq, true_and, and_true, and_self, not_true_eq_false, not_false_eq_true, true_implies, false_implies, reduceCtorEq]
    · rw [g_X12_settles_214]
      simp (config := { decide := true }) (disch := first | decide | assumption | omega | (simp (config := { decide := true }) only [km_sr_sf, km_sr_of, km_up_of, km_up_o, km_upx_i, km_upx_s, km_fl2_o, ne_eq, not_true_eq_false, not_false_eq_true] <;> omega) | fail) only [g_X12_settles, ka_lt, ka_le, ka_nlt, ka_nle, ka_ne, ka_eq, Int.add_sub_cancel, true_or, or_true, false_or, or_false, false_and, and_false, if_true, if_false, ka_lo, ka_hi, ka_nn, km_sr_sf, km_sr_of, km_up_of, km_sr_us, km_sr_uo, km_sr_sr, km_sr_fl, km_sr_flo, km_up_up, km_up_lt, km_lay, km_unL, km_up_o, km_upx_i, km_upx_s, km_fl2_o, km_is, Option.some.injEq, Sum.inl.injEq, Sum.inr.injEq, Option.toList_some, Option.toList_none, List.cons_append, List.nil_append, ne_eq, true_and, and_true, and_self, not_true_eq_false, not_false_eq_true, true_implies, false_implies, reduceCtorEq]
  intro n
  induction n with
  | zero =>
    intro S i p X Y o4 r3 r4 hn hs z i0 hi hG hR h3 hP
    have := (ksb_le hw hs).1
    have e : S = 0 := by omega
    subst e
    exact stop i p X Y o4 r3 r4 hP
  | succ n ih =>
    intro S i p X Y o4 r3 r4 hn hs z i0 hi hG hR h3 hP
    by_cases nz : S = 0
    · subst nz
      exact stop i p X Y o4 r3 r4 hP
    · have hS := ksb_ten hw hs
      have s0 := hS.1
      have s1 := hS.2
      obtain ⟨⟨f1, f2, f3, f4, f5⟩, -⟩ := kgF hw (kGI_G hG hw) (kRI_R hR hw) hs z nz
      have fg := fun Q => @c_firstGroup q c s X f w S (Y 180) (Y 181) hw hG (kRI_R hR hw) hs z nz Q
      have hO := ksb_ten hS f1
      have ol := ksb_le hS f1
      have pl := kpop_less hS f1 (by omega)
      have cb := kcnt_b (P := fun k => X 119 k ≠ 0) 10
      obtain ⟨X1, Y1, p1, t1, t2, t3, t4, t5⟩ := @st_pay q q' c s (Y 181 S) kn hO k0 k1 (kcnt (fun k => X 119 k ≠ 0) 10).toNat 0 p X Y none none none none none none none h3 hP (by omega) (by decide) (by omega)
      have eX : ∀ T : Int, X1 117 T = X 117 T ∧ X1 118 T = X 118 T := fun T => ⟨t2 _ _ (by omega) (by omega), t2 _ _ (by omega) (by omega)⟩
      have eY : ∀ T : Int, Y1 180 T = Y 180 T ∧ Y1 181 T = Y 181 T := fun T => ⟨t3 _ _ (by omega) (by omega), t3 _ _ (by omega) (by omega)⟩
      have G1 : kGI f w (w + 1) X1 := by
        obtain ⟨⟨a1, a2⟩, a3⟩ := hG
        have e7 : X1 117 = X 117 := funext fun T => (eX T).1
        have e8 : X1 118 = X 118 := funext fun T => (eX T).2
        unfold kGI
        rw [e7, e8]
        exact ⟨⟨a1, a2⟩, a3⟩
      have R1 : kRI f w (w + 1) Y1 := by
        obtain ⟨a1, a3⟩ := hR
        have e7 : Y1 180 = Y 180 := funext fun T => (eY T).1
        have e8 : Y1 181 = Y 181 := funext fun T => (eY T).2
        unfold kRI
        rw [e7, e8]
        exact ⟨a1, a3⟩
      obtain ⟨X', Y', p', u1, u2, u3, u4, u5⟩ := ih (S - Y 181 S) (i + 1) p1 X1 Y1 (some (.inl (Y 181 S))) (some (.inl (Y 181 S))) r4 (by omega) (ksb_tr hS hw (ksb_dsub hS f1) hs) (kbs_d0 hS f1 z f3) (by omega) (by omega) G1 R1 ((t3 _ _ (by decide) (by decide)).trans h3) t1
      refine ⟨X', Y', p', u1, kFC_tr t2 u2, kFM_tr t3 u3, fun Q => ?_, fun Q => ?_⟩
      · have xs := ksb_xor hS f1
        have i1 : i < 10 := by
          have := @kpop_b (S - Y 181 S)
          omega
        have pw : ∀ Q : Option km_V → km_Al → km_Mm → Prop, km_E M_X9_payWithin [.inr (.inr 113), .inl (Y 181 S)] (km_A0 q c s) X Q ↔ Q none (km_A0 q c s) X1 := fun Q => by
          rw [← t4 Q, e_X9_payWithin]
          simp (config := { decide := true }) (disch := first | decide | assumption | omega | (simp (config := { decide := true }) only [km_sr_sf, km_sr_of, km_up_of, km_up_o, km_upx_i, km_upx_s, km_fl2_o, ne_eq, not_true_eq_false, not_false_eq_true] <;> omega) | fail) only [g_X9_payWithin, ka_lt, ka_le, ka_nlt, ka_nle, ka_ne, ka_eq, Int.add_sub_cancel, true_or, or_true, false_or, or_false, false_and, and_false, if_true, if_false, ka_lo, ka_hi, ka_nn, km_sr_sf, km_sr_of, km_up_of, km_sr_us, km_sr_uo, km_sr_sr, km_sr_fl, km_sr_flo, km_up_up, km_up_lt, km_lay, km_unL, km_up_o, km_upx_i, km_upx_s, km_fl2_o, km_is, Option.some.injEq, Sum.inl.injEq, Sum.inr.injEq, Option.toList_some, Option.toList_none, List.cons_append, List.nil_append, ne_eq, true_and, and_true, and_self, not_true_eq_false, not_false_eq_true, true_implies, false_implies, reduceCtorEq]
        rw [← u4 Q, g_X9_settleAll_63]
        simp (config := { decide := true }) (disch := first | decide | assumption | omega | (simp (config := { decide := true }) only [km_sr_sf, km_sr_of, km_up_of, km_up_o, km_upx_i, km_upx_s, km_fl2_o, ne_eq, not_true_eq_false, not_false_eq_true] <;> omega) | fail) only [g_X9_settleAll, i0, i1, nz, fg, pw, xs, ka_lt, ka_le, ka_nlt, ka_nle, ka_ne, ka_eq, Int.add_sub_cancel, true_or, or_true, false_or, or_false, false_and, and_false, if_true, if_false, ka_lo, ka_hi, ka_nn, km_sr_sf, km_sr_of, km_up_of, km_sr_us, km_sr_uo, km_sr_sr, km_sr_fl, km_sr_flo, km_up_up, km_up_lt, km_lay, km_unL, km_up_o, km_upx_i, km_upx_s, km_fl2_o, km_is, Option.some.injEq, Sum.inl.injEq, Sum.inr.injEq, Option.toList_some, Option.toList_none, List.cons_append, List.nil_append, ne_eq, true_and, and_true, and_self, not_true_eq_false, not_false_eq_true, true_implies, false_implies, reduceCtorEq]
      · have an := ksb_andn hS f1
        have pw : ∀ Q : Option km_V → km_Al → km_Mm → Prop, km_E M_X12_paysOff [.inr (.inr 123), .inl (Y 181 S)] (km_A0 q' c s) Y Q ↔ Q none (km_A0 q' c s) Y1 := fun Q => by
          rw [← t5 Q, e_X12_paysOff]
          simp (config := { decide := true }) (disch := first | decide | assumption | omega | (simp (config := { decide := true }) only [km_sr_sf, km_sr_of, km_up_of, km_up_o, km_upx_i, km_upx_s, km_fl2_o, ne_eq, not_true_eq_false, not_false_eq_true] <;> omega) | fail) only [g_X12_paysOff, ka_lt, ka_le, ka_nlt, ka_nle, ka_ne, ka_eq, Int.add_sub_cancel, true_or, or_true, false_or, or_false, false_and, and_false, if_true, if_false, ka_lo, ka_hi, ka_nn, km_sr_sf, km_sr_of, km_up_of, km_sr_us, km_sr_uo, km_sr_sr, km_sr_fl, km_sr_flo, km_up_up, km_up_lt, km_lay, km_unL, km_up_o, km_upx_i, km_upx_s, km_fl2_o, km_is, Option.some.injEq, Sum.inl.injEq, Sum.inr.injEq, Option.toList_some, Option.toList_none, List.cons_append, List.nil_append, ne_eq, true_and, and_true, and_self, not_true_eq_false, not_false_eq_true, true_implies, false_implies, reduceCtorEq]
        rw [← u5 Q, g_X12_settles_214]
        simp (config := { decide := true }) (disch := first | decide | assumption | omega | (simp (config := { decide := true }) only [km_sr_sf, km_sr_of, km_up_of, km_up_o, km_upx_i, km_upx_s, km_fl2_o, ne_eq, not_true_eq_false, not_false_eq_true] <;> omega) | fail) only [g_X12_settles, nz, s0, s1, pw, an, ka_lt, ka_le, ka_nlt, ka_nle, ka_ne, ka_eq, Int.add_sub_cancel, true_or, or_true, false_or, or_false, false_and, and_false, if_true, if_false, ka_lo, ka_hi, ka_nn, km_sr_sf, km_sr_of, km_up_of, km_sr_us, km_sr_uo, km_sr_sr, km_sr_fl, km_sr_flo, km_up_up, km_up_lt, km_lay, km_unL, km_up_o, km_upx_i, km_upx_s, km_fl2_o, km_is, Option.some.injEq, Sum.inl.injEq, Sum.inr.injEq, Option.toList_some, Option.toList_none, List.cons_append, List.nil_append, ne_eq, true_and, and_true, and_self, not_true_eq_false, not_false_eq_true, true_implies, false_implies, reduceCtorEq]
/-- class and reference settle alike -/
theorem st_settle {g : Int} (hg : ten g) (k0 : 0 ≤ kn) (k1 : kn ≤ 10) (hz : ∀ j : Int, kn ≤ j → j < 10 → f j = 0) (hb : ∀ k : Int, 0 ≤ k → k < 10 → -9999991 ≤ f k ∧ f k ≤ 9999991) (hs0 : ksm f 10 = 0) (hgu : ∀ j : Int, 0 ≤ j → j < 10 → f j ≠ 0 → tb g j = true) (hX : ∀ j : Int, 0 ≤ j → j < 10 → X 116 j = f j) (h3 : Y 123 3 = kn) (hY : ∀ j : Int, 0 ≤ j → j < kn → Y 176 j = f j) :
    ∃ (X' Y' : km_Mm) (p' : Int), kPz kn X' Y' p' ∧ (∀ d j : Int, ¬ (d = 113 ∧ j = 6) → ¬ (117 ≤ d ∧ d ≤ 122) → X' d j = X d j) ∧ (∀ d j : Int, ¬ (d = 123 ∧ j = 101) → ¬ (176 ≤ d ∧ d ≤ 181) → Y' d j = Y d j) ∧ (∀ Q : Option km_V → km_Al → km_Mm → Prop, km_E M_X9_settleAll [.inr (.inr 113), .inl g] (km_A0 q c s) X Q ↔ Q none (km_A0 q c s) X') ∧ ∀ Q : Option km_V → km_Al → km_Mm → Prop, km_G M_X12_settles 4 [some (.inr (.inr 123)), none, none, none, none] [] (km_A0 q' c s) Y Q ↔ Q none (km_A0 q' c s) Y' := by
  obtain ⟨X1, a1, a2, a3⟩ := @c_mem q c s f g hg 10 0 X (by decide) hX (fun j j0 j1 => absurd j1 (by omega))
  have hW : ten (kset (fun k => f k ≠ 0) 10) := kset_ten 10 (by decide)
  have e1 : kset (fun k => tb g k = true ∧ f k ≠ 0) 10 = kset (fun k => f k ≠ 0) 10 := ten_ext (kset_ten 10 (by decide)) hW (fun j j0 j1 => by
    rw [Bool.eq_iff_iff, kset_tb 10 (by decide) j j0, kset_tb 10 (by decide) j j0]
    exact ⟨fun h => ⟨h.1, h.2.2⟩, fun h => ⟨h.1, hgu j j0 j1 h.2, h.2⟩⟩)
  have e2 : kset (fun k => f k ≠ 0) kn.toNat = kset (fun k => f k ≠ 0) 10 := ten_ext (kset_ten _ (by omega)) hW (fun j j0 j1 => by
    rw [Bool.eq_iff_iff, kset_tb _ (by omega) j j0, kset_tb 10 (by decide) j j0]
    refine ⟨fun h => ⟨by omega, h.2⟩, fun h => ⟨?_, h.2⟩⟩
    refine Classical.byContradiction fun no => h.2 (hz j (by omega) j1))
  obtain ⟨W, dW⟩ : ∃ W : Int, W = kset (fun k => f k ≠ 0) 10 := ⟨_, rfl⟩
  rw [e1, ← dW] at a3
  rw [← dW] at e2 hW
  have tW : ∀ j : Int, 0 ≤ j → j < 10 → (tb W j = true ↔ f j ≠ 0) := fun j j0 j1 => by
    rw [dW, kset_tb 10 (by decide) j j0]
    exact ⟨fun h => h.2, fun h => ⟨by omega, h⟩⟩
  have zW : kbs f W = 0 := by
    rw [← hs0]
    unfold kbs
    refine ksm_cong 10 fun j j0 j1 => ?_
    by_cases y : f j = 0
    · rw [y]; split <;> rfl
    · rw [if_pos ((tW j j0 (by omega)).mpr y)]
  obtain ⟨X2, b1, b2, b3⟩ := @c_countGroups q c s X1 f W hW hb (fun j j0 j1 => (a1 _ _ (by decide)).trans (hX j j0 j1))
  obtain ⟨X3, dX⟩ : ∃ X3 : km_Mm, X3 = km_up X2 113 6 0 := ⟨_, rfl⟩
  obtain ⟨Y1, dY⟩ : ∃ Y1 : km_Mm, Y1 = km_up (km_up Y 123 101 0) 180 0 0 := ⟨_, rfl⟩
  have yo : ∀ d j : Int, ¬ (d = 123 ∧ j = 101) → d ≠ 180 → Y1 d j = Y d j := fun d j h1 h2 => by rw [dY, km_up_ne (by omega), km_up_ne (by omega)]
  obtain ⟨Y2, r3, r4, c1, c2, c3⟩ := @m_sets q' c s f W kn hW k0 k1 hz hb W.toNat 1 Y1 none none (by have := hW.1; omega) (by decide) ((yo _ _ (by decide) (by decide)).trans h3) (fun j j0 j1 => (yo _ _ (by omega) (by decide)).trans (hY j j0 j1)) ⟨by rw [dY, km_upx_s], fun T h1 h2 h3 => absurd h3 (by have := ksb_le hW h1; omega)⟩
  have X119 : ∀ j : Int, 0 ≤ j → j < 10 → X3 119 j = f j := fun j j0 j1 => by rw [dX, km_up_ne (by omega), b1 _ _ (by decide) (by decide)]; exact a2 j j0 j1
  have cb := kcnt_b (P := fun k => X3 119 k ≠ 0) 10
  have pr : kPz kn X3 Y2 0 := ⟨fun j j0 j1 => by rw [c1 _ _ (by decide) (by decide), yo _ _ (by omega) (by decide), hY j j0 j1, X119 j j0 (by omega)], fun j j0 j1 => by rw [X119 j (by omega) j1]; exact hz j j0 j1, fun j j0 j1 => by rw [X119 j j0 j1]; exact hb j j0 j1, by rw [dX, km_upx_s], by rw [c1 _ _ (by decide) (by decide), dY, km_up_ne (by omega), km_upx_s], by decide, by omega, fun j j0 j1 => absurd j1 (by omega)⟩
  have G3 : kGI f W (W + 1) X3 := by
    have e7 : X3 117 = X2 117 := funext fun T => by rw [dX, km_up_ne (by omega)]
    have e8 : X3 118 = X2 118 := funext fun T => by rw [dX, km_up_ne (by omega)]
    unfold kGI
    rw [e7, e8]
    exact b2
  obtain ⟨X', Y', p', u1, u2, u3, u4, u5⟩ := @st_groups q q' c s kn f W hW k0 k1 g W.toNat W 0 0 X3 Y2 none r3 r4 (by omega) (ksb_rf hW) zW (by decide) (by have := @kpop_b W; omega) G3 c2 ((c1 _ _ (by decide) (by decide)).trans ((yo _ _ (by decide) (by decide)).trans h3)) pr
  have k00 : ((0 : Nat) : Int) = 0 := rfl
  have ks0 : ∀ P : Int → Prop, kset P 0 = 0 := fun P => rfl
  refine ⟨X', Y', p', u1, fun d j h1 h2 => by rw [u2 d j h1 (by omega), dX, km_up_ne (by omega), b1 d j (by omega) (by omega), a1 d j (by omega)], fun d j h1 h2 => by rw [u3 d j h1 (by omega), c1 d j (by omega) (by omega), yo d j h1 (by omega)], fun Q => ?_, fun Q => ?_⟩
  · have a3 := a3 Q
    rw [k00, ks0] at a3
    rw [← u4 Q, dX]
    have g1 : km_E M_X9_settleAll [.inr (.inr 113), .inl g] (km_A0 q c s) X Q ↔ km_G M_X9_settleAll 4 [some (.inr (.inr 113)), some (.inl g), some (.inl 0), some (.inl 0), none] [] (km_A0 q c s) X Q := by
      rw [e_X9_settleAll]
      simp (config := { decide := true }) (disch := first | decide | assumption | omega | (simp (config := { decide := true }) only [km_sr_sf, km_sr_of, km_up_of, km_up_o, km_upx_i, km_upx_s, km_fl2_o, ne_eq, not_true_eq_false, not_false_eq_true] <;> omega) | fail) only [g_X9_settleAll, ka_lt, ka_le, ka_nlt, ka_nle, ka_ne, ka_eq, Int.add_sub_cancel, true_or, or_true, false_or, or_false, false_and, and_false, if_true, if_false, ka_lo, ka_hi, ka_nn, km_sr_sf, km_sr_of, km_up_of, km_sr_us, km_sr_uo, km_sr_sr, km_sr_fl, km_sr_flo, km_up_up, km_up_lt, km_lay, km_unL, km_up_o, km_upx_i, km_upx_s, km_fl2_o, km_is, Option.some.injEq, Sum.inl.injEq, Sum.inr.injEq, Option.toList_some, Option.toList_none, List.cons_append, List.nil_append, ne_eq, true_and, and_true, and_self, not_true_eq_false, not_false_eq_true, true_implies, false_implies, reduceCtorEq]
    rw [g1, a3]
    simp (config := { decide := true }) (disch := first | decide | assumption | omega | (simp (config := { decide := true }) only [km_sr_sf, km_sr_of, km_up_of, km_up_o, km_upx_i, km_upx_s, km_fl2_o, ne_eq, not_true_eq_false, not_false_eq_true] <;> omega) | fail) only [g_X9_settleAll, b3, ka_lt, ka_le, ka_nlt, ka_nle, ka_ne, ka_eq, Int.add_sub_cancel, true_or, or_true, false_or, or_false, false_and, and_false, if_true, if_false, ka_lo, ka_hi, ka_nn, km_sr_sf, km_sr_of, km_up_of, km_sr_us, km_sr_uo, km_sr_sr, km_sr_fl, km_sr_flo, km_up_up, km_up_lt, km_lay, km_unL, km_up_o, km_upx_i, km_upx_s, km_fl2_o, km_is, Option.some.injEq, Sum.inl.injEq, Sum.inr.injEq, Option.toList_some, Option.toList_none, List.cons_append, List.nil_append, ne_eq, true_and, and_true, and_self, not_true_eq_false, not_false_eq_true, true_implies, false_implies, reduceCtorEq]
  · have ma := @m_all q' c s (km_up Y 123 101 0) f kn k0 k1 ((km_up_ne (by omega)).trans h3) (fun j j0 j1 => (km_up_ne (by omega)).trans (hY j j0 j1)) none none Q kn.toNat 0 (by omega)
    rw [k00, ks0, e2] at ma
    rw [← u5 Q, ← c3 Q]
    have g1 : km_G M_X12_settles 4 [some (.inr (.inr 123)), none, none, none, none] [] (km_A0 q' c s) Y Q ↔ km_G M_X12_settles 13 [some (.inr (.inr 123)), some (.inl 0), some (.inl 0), none, none] [] (km_A0 q' c s) (km_up Y 123 101 0) Q := by
      simp (config := { decide := true }) (disch := first | decide | assumption | omega | (simp (config := { decide := true }) only [km_sr_sf, km_sr_of, km_up_of, km_up_o, km_upx_i, km_upx_s, km_fl2_o, ne_eq, not_true_eq_false, not_false_eq_true] <;> omega) | fail) only [g_X12_settles, ka_lt, ka_le, ka_nlt, ka_nle, ka_ne, ka_eq, Int.add_sub_cancel, true_or, or_true, false_or, or_false, false_and, and_false, if_true, if_false, ka_lo, ka_hi, ka_nn, km_sr_sf, km_sr_of, km_up_of, km_sr_us, km_sr_uo, km_sr_sr, km_sr_fl, km_sr_flo, km_up_up, km_up_lt, km_lay, km_unL, km_up_o, km_upx_i, km_upx_s, km_fl2_o, km_is, Option.some.injEq, Sum.inl.injEq, Sum.inr.injEq, Option.toList_some, Option.toList_none, List.cons_append, List.nil_append, ne_eq, true_and, and_true, and_self, not_true_eq_false, not_false_eq_true, true_implies, false_implies, reduceCtorEq]
    rw [g1, ma, dY]
    simp (config := { decide := true }) (disch := first | decide | assumption | omega | (simp (config := { decide := true }) only [km_sr_sf, km_sr_of, km_up_of, km_up_o, km_upx_i, km_upx_s, km_fl2_o, ne_eq, not_true_eq_false, not_false_eq_true] <;> omega) | fail) only [g_X12_settles, ka_lt, ka_le, ka_nlt, ka_nle, ka_ne, ka_eq, Int.add_sub_cancel, true_or, or_true, false_or, or_false, false_and, and_false, if_true, if_false, ka_lo, ka_hi, ka_nn, km_sr_sf, km_sr_of, km_up_of, km_sr_us, km_sr_uo, km_sr_sr, km_sr_fl, km_sr_flo, km_up_up, km_up_lt, km_lay, km_unL, km_up_o, km_upx_i, km_upx_s, km_fl2_o, km_is, Option.some.injEq, Sum.inl.injEq, Sum.inr.injEq, Option.toList_some, Option.toList_none, List.cons_append, List.nil_append, ne_eq, true_and, and_true, and_self, not_true_eq_false, not_false_eq_true, true_implies, false_implies, reduceCtorEq]
end ST

