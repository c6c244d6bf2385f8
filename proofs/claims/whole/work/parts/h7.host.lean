/-! ===== promise 26: host ===== -/
/-- by turn -/
noncomputable def kHstT (m : km_Mm) : Nat → Int → Int → Int
  | 0, _, s => s
  | n + 1, i, s => kHstT m n (i + 1) (@ite Int (0 < kcnt (kPe m i) (m 5 1).toNat ∧ (s = -1 ∨ m 1 i < m 1 s ∨ (m 1 i = m 1 s ∧ m 2 i < m 2 s))) (Classical.propDecidable _) i s)
/-- by rule -/
noncomputable def kHstR (m : km_Mm) (o p : Int) : Nat → Int → Int × Int → Int × Int
  | 0, _, s => s
  | n + 1, i, s => kHstR m o p n (i + 1) (@ite (Int × Int) (0 < kcnt (kPe m i) (m 5 1).toNat ∧ kLv m o p i 6 ≠ none ∧ (s.1 = -1 ∨ s.2 < kvl (kLv m o p i 6))) (Classical.propDecidable _) (i, kvl (kLv m o p i 6)) s)
noncomputable def kHst (m : km_Mm) (o p : Int) : Int := if m 142 6 = -1 then kHstT m 4 0 (-1) else (kHstR m o p 4 0 (-1, 0)).1
theorem kHstT_b {m : km_Mm} : ∀ (n : Nat) (i s : Int), 0 ≤ i → (-1 ≤ s ∧ s < i) → -1 ≤ kHstT m n i s ∧ kHstT m n i s < i + n := by
  intro n
  induction n with
  | zero => intro i s _ h; show -1 ≤ s ∧ s < i + 0; omega
  | succ n ih =>
    intro i s i0 h
    rw [kHstT]
    have e : i + ((n + 1 : Nat) : Int) = (i + 1) + n := by omega
    rw [e]
    refine ih (i + 1) _ (by omega) ?_
    split
    · omega
    · omega
theorem kHstR_b {m : km_Mm} {o p : Int} : ∀ (n : Nat) (i : Int) (s : Int × Int), 0 ≤ i → (-1 ≤ s.1 ∧ s.1 < i) → -1 ≤ (kHstR m o p n i s).1 ∧ (kHstR m o p n i s).1 < i + n := by
  intro n
  induction n with
  | zero => intro i s _ h; show -1 ≤ s.1 ∧ s.1 < i + 0; omega
  | succ n ih =>
    intro i s i0 h
    rw [kHstR]
    have e : i + ((n + 1 : Nat) : Int) = (i + 1) + n := by omega
    rw [e]
    refine ih (i + 1) _ (by omega) ?_
    split
    · show -1 ≤ i ∧ i < i + 1; omega
    · omega
theorem kHst_b {m : km_Mm} {o p : Int} : -1 ≤ kHst m o p ∧ kHst m o p < 4 := by
  unfold kHst
  have h1 := @kHstT_b m 4 0 (-1) (by decide) (by decide)
  have h2 := @kHstR_b m o p 4 0 (-1, 0) (by decide) (by decide)
  split <;> omega
theorem km_wt_set {m : km_Mm} {a v : Int} : ∀ (n i : Nat), km_wt m a v n i (kset (fun k => m a k = v) i) = kset (fun k => m a k = v) (i + n) := by
  intro n
  induction n with
  | zero => intro i; rfl
  | succ n ih =>
    intro i
    rw [km_wt]
    have e : ((i : Int) + 1) = ((i + 1 : Nat) : Int) := by omega
    have e2 : i + (n + 1) = (i + 1) + n := by omega
    rw [e2, ← ih (i + 1), e]
    by_cases z : m a i = v
    · rw [if_pos z, @kset_yes (fun k => m a k = v) i z]
    · rw [if_neg z, @kset_no (fun k => m a k = v) i z]
section FT
variable {q q' : Nat × Int × Int × Int × Int} {c s : Nat} {m C M X Y Z : km_Mm} {N o o1 p b b1 P a k : Int}
theorem cl_people (hB : kI_book m) (hZ : kZ m X) (Q : Option km_V → km_Al → km_Mm → Prop) : km_E M_X1_people [.inr (.inr 5), .inl b] (km_A0 q c s) X Q ↔ Q (some (.inl (kcnt (kPe m b) (m 5 1).toNat))) (km_A0 q c s) X := by
  have f1 := hB.1
  obtain ⟨jX, -, -, -, -, t4, t5⟩ := hZ
  have X51 : X 5 1 = m 5 1 := jX 5 1 (by unfold kJ; omega)
  have X8 : ∀ k : Int, X 8 k = m 8 k := fun k => jX 8 k (by unfold kJ; omega)
  have w0 := @km_wt_set X 8 b (m 5 1).toNat 0
  have w1 : km_wt X 8 b (X 5 1).toNat 0 0 = kset (fun k => X 8 k = b) (m 5 1).toNat := by
    rw [X51]
    have w2 : km_wt X 8 b (m 5 1).toNat 0 0 = kset (fun k => X 8 k = b) (0 + (m 5 1).toNat) := w0
    rw [w2, Nat.zero_add]
  have ks := kset_ten (P := fun k => X 8 k = b) (m 5 1).toNat (by omega)
  have kt := kset_tb (P := fun k => X 8 k = b) (m 5 1).toNat (by omega)
  have ks2 := kset_ten (P := kPe m b) (m 5 1).toNat (by omega)
  have kt2 := kset_tb (P := kPe m b) (m 5 1).toNat (by omega)
  have ta := ten_and2 (x := X 5 12) t4.1 (by have := t4.2; omega) ks
  have e : km_and (X 5 12) (kset (fun k => X 8 k = b) (m 5 1).toNat) = kset (kPe m b) (m 5 1).toNat := by
    refine ten_ext ta ks2 (fun k k0 k1 => ?_)
    rw [tb_and t4.1 (by have := t4.2; omega) ks.1]
    have i1 := t5 k k0
    have i2 := kt k k0
    have i3 := kt2 k k0
    rw [X8 k] at i2
    have : (tb (X 5 12) k && tb (kset (fun k => X 8 k = b) (m 5 1).toNat) k) = true ↔ tb (kset (kPe m b) (m 5 1).toNat) k = true := by
      rw [Bool.and_eq_true, i1, i2, i3]
      unfold kPe
      constructor
      · rintro ⟨⟨a1, a2⟩, a3, a4⟩; exact ⟨a3, a4, a2⟩
      · rintro ⟨a1, a2, a3⟩; exact ⟨⟨by omega, a3⟩, a1, a2⟩
    exact Bool.eq_iff_iff.mpr this
  rw [← w1] at e
  rw [sp_people (by rw [X51]; omega) (by rw [e]; exact ks2.1) (by rw [e]; exact ks2.2), e, kset_pop _ (by omega)]
theorem r_isBefore (ha : 0 ≤ a ∧ a < 4) (hb : 0 ≤ b ∧ b < 4) (Q : Option km_V → km_Al → km_Mm → Prop) : km_E M_X11_isBeforeInTurn [.inr (.inr 0), .inl a, .inl b] (km_A0 q c s) X Q ↔ Q (some (.inl (if X 1 a < X 1 b ∨ (X 1 a = X 1 b ∧ X 2 a < X 2 b) then 1 else 0))) (km_A0 q c s) X := by
  rw [e_X11_isBeforeInTurn]
  by_cases c1 : X 1 a < X 1 b
  · simp (config := { decide := true }) (disch := first | decide | assumption | omega | (simp (config := { decide := true }) only [km_sr_sf, km_sr_of, km_up_of, km_up_o, km_upx_i, km_upx_s, km_fl2_o, ne_eq, not_true_eq_false, not_false_eq_true] <;> omega) | fail) only [g_X11_isBeforeInTurn, ha, hb, c1, ka_lt, ka_le, ka_nlt, ka_nle, ka_ne, ka_eq, Int.add_sub_cancel, true_or, or_true, false_or, or_false, false_and, and_false, if_true, if_false, ka_lo, ka_hi, ka_nn, km_sr_sf, km_sr_of, km_up_of, km_sr_us, km_sr_uo, km_sr_sr, km_sr_fl, km_sr_flo, km_up_up, km_up_lt, km_lay, km_unL, km_up_o, km_upx_i, km_upx_s, km_fl2_o, km_is, Option.some.injEq, Sum.inl.injEq, Sum.inr.injEq, Option.toList_some, Option.toList_none, List.cons_append, List.nil_append, ne_eq, true_and, and_true, and_self, not_true_eq_false, not_false_eq_true, true_implies, false_implies, reduceCtorEq]
  by_cases c2 : X 1 a = X 1 b
  case neg => simp (config := { decide := true }) (disch := first | decide | assumption | omega | (simp (config := { decide := true }) only [km_sr_sf, km_sr_of, km_up_of, km_up_o, km_upx_i, km_upx_s, km_fl2_o, ne_eq, not_true_eq_false, not_false_eq_true] <;> omega) | fail) only [g_X11_isBeforeInTurn, ha, hb, c1, c2, ka_lt, ka_le, ka_nlt, ka_nle, ka_ne, ka_eq, Int.add_sub_cancel, true_or, or_true, false_or, or_false, false_and, and_false, if_true, if_false, ka_lo, ka_hi, ka_nn, km_sr_sf, km_sr_of, km_up_of, km_sr_us, km_sr_uo, km_sr_sr, km_sr_fl, km_sr_flo, km_up_up, km_up_lt, km_lay, km_unL, km_up_o, km_upx_i, km_upx_s, km_fl2_o, km_is, Option.some.injEq, Sum.inl.injEq, Sum.inr.injEq, Option.toList_some, Option.toList_none, List.cons_append, List.nil_append, ne_eq, true_and, and_true, and_self, not_true_eq_false, not_false_eq_true, true_implies, false_implies, reduceCtorEq]
  by_cases c3 : X 2 a < X 2 b
  · simp (config := { decide := true }) (disch := first | decide | assumption | omega | (simp (config := { decide := true }) only [km_sr_sf, km_sr_of, km_up_of, km_up_o, km_upx_i, km_upx_s, km_fl2_o, ne_eq, not_true_eq_false, not_false_eq_true] <;> omega) | fail) only [g_X11_isBeforeInTurn, ha, hb, c1, c2, c3, ka_lt, ka_le, ka_nlt, ka_nle, ka_ne, ka_eq, Int.add_sub_cancel, true_or, or_true, false_or, or_false, false_and, and_false, if_true, if_false, ka_lo, ka_hi, ka_nn, km_sr_sf, km_sr_of, km_up_of, km_sr_us, km_sr_uo, km_sr_sr, km_sr_fl, km_sr_flo, km_up_up, km_up_lt, km_lay, km_unL, km_up_o, km_upx_i, km_upx_s, km_fl2_o, km_is, Option.some.injEq, Sum.inl.injEq, Sum.inr.injEq, Option.toList_some, Option.toList_none, List.cons_append, List.nil_append, ne_eq, true_and, and_true, and_self, not_true_eq_false, not_false_eq_true, true_implies, false_implies, reduceCtorEq]
  · simp (config := { decide := true }) (disch := first | decide | assumption | omega | (simp (config := { decide := true }) only [km_sr_sf, km_sr_of, km_up_of, km_up_o, km_upx_i, km_upx_s, km_fl2_o, ne_eq, not_true_eq_false, not_false_eq_true] <;> omega) | fail) only [g_X11_isBeforeInTurn, ha, hb, c1, c2, c3, ka_lt, ka_le, ka_nlt, ka_nle, ka_ne, ka_eq, Int.add_sub_cancel, true_or, or_true, false_or, or_false, false_and, and_false, if_true, if_false, ka_lo, ka_hi, ka_nn, km_sr_sf, km_sr_of, km_up_of, km_sr_us, km_sr_uo, km_sr_sr, km_sr_fl, km_sr_flo, km_up_up, km_up_lt, km_lay, km_unL, km_up_o, km_upx_i, km_upx_s, km_fl2_o, km_is, Option.some.injEq, Sum.inl.injEq, Sum.inr.injEq, Option.toList_some, Option.toList_none, List.cons_append, List.nil_append, ne_eq, true_and, and_true, and_self, not_true_eq_false, not_false_eq_true, true_implies, false_implies, reduceCtorEq]
theorem c_turn (hB : kI_book m) (hZ : kZ m X) (Q : Option km_V → km_Al → km_Mm → Prop) : km_E M_X11_hostByTurn [.inr (.inr 0)] (km_A0 q c s) X Q ↔ Q (some (.inl (kHstT m 4 0 (-1)))) (km_A0 q c s) X := by
  have X1 : ∀ k : Int, X 1 k = m 1 k := fun k => hZ.1 1 k (by unfold kJ; omega)
  have X2 : ∀ k : Int, X 2 k = m 2 k := fun k => hZ.1 2 k (by unfold kJ; omega)
  have lp : ∀ (n : Nat) (i b : Int), 0 ≤ i → i + n = 4 → (-1 ≤ b ∧ b < i) → (km_G M_X11_hostByTurn 4 [some (.inr (.inr 0)), some (.inl b), some (.inl i)] [] (km_A0 q c s) X Q ↔ Q (some (.inl (kHstT m n i b))) (km_A0 q c s) X) := by
    intro n
    induction n with
    | zero =>
      intro i b i0 hi hb
      have z : ¬ i < 4 := by omega
      rw [g_X11_hostByTurn_4]
      unfold kHstT
      simp (config := { decide := true }) (disch := first | decide | assumption | omega | (simp (config := { decide := true }) only [km_sr_sf, km_sr_of, km_up_of, km_up_o, km_upx_i, km_upx_s, km_fl2_o, ne_eq, not_true_eq_false, not_false_eq_true] <;> omega) | fail) only [g_X11_hostByTurn, z, ka_lt, ka_le, ka_nlt, ka_nle, ka_ne, ka_eq, Int.add_sub_cancel, true_or, or_true, false_or, or_false, false_and, and_false, if_true, if_false, ka_lo, ka_hi, ka_nn, km_sr_sf, km_sr_of, km_up_of, km_sr_us, km_sr_uo, km_sr_sr, km_sr_fl, km_sr_flo, km_up_up, km_up_lt, km_lay, km_unL, km_up_o, km_upx_i, km_upx_s, km_fl2_o, km_is, Option.some.injEq, Sum.inl.injEq, Sum.inr.injEq, Option.toList_some, Option.toList_none, List.cons_append, List.nil_append, ne_eq, true_and, and_true, and_self, not_true_eq_false, not_false_eq_true, true_implies, false_implies, reduceCtorEq]
    | succ n ih =>
      intro i b i0 hi hb
      have z : i < 4 := by omega
      have pe := fun Q => @cl_people q c s m X i hB hZ Q
      have eH : kHstT m (n + 1) i b = kHstT m n (i + 1) (@ite Int (0 < kcnt (kPe m i) (m 5 1).toNat ∧ (b = -1 ∨ m 1 i < m 1 b ∨ (m 1 i = m 1 b ∧ m 2 i < m 2 b))) (Classical.propDecidable _) i b) := rfl
      rw [g_X11_hostByTurn_4]
      by_cases y : 0 < kcnt (kPe m i) (m 5 1).toNat
      case neg =>
        rw [eH, if_neg (fun w => y w.1)]
        have i1 := ih (i + 1) b (by omega) (by omega) (by omega)
        simp (config := { decide := true }) (disch := first | decide | assumption | omega | (simp (config := { decide := true }) only [km_sr_sf, km_sr_of, km_up_of, km_up_o, km_upx_i, km_upx_s, km_fl2_o, ne_eq, not_true_eq_false, not_false_eq_true] <;> omega) | fail) only [g_X11_hostByTurn, z, pe, y, i1, ka_lt, ka_le, ka_nlt, ka_nle, ka_ne, ka_eq, Int.add_sub_cancel, true_or, or_true, false_or, or_false, false_and, and_false, if_true, if_false, ka_lo, ka_hi, ka_nn, km_sr_sf, km_sr_of, km_up_of, km_sr_us, km_sr_uo, km_sr_sr, km_sr_fl, km_sr_flo, km_up_up, km_up_lt, km_lay, km_unL, km_up_o, km_upx_i, km_upx_s, km_fl2_o, km_is, Option.some.injEq, Sum.inl.injEq, Sum.inr.injEq, Option.toList_some, Option.toList_none, List.cons_append, List.nil_append, ne_eq, true_and, and_true, and_self, not_true_eq_false, not_false_eq_true, true_implies, false_implies, reduceCtorEq]
      by_cases w0 : b = -1
      · rw [eH, if_pos ⟨y, Or.inl w0⟩]
        have i1 := ih (i + 1) i (by omega) (by omega) (by omega)
        simp (config := { decide := true }) (disch := first | decide | assumption | omega | (simp (config := { decide := true }) only [km_sr_sf, km_sr_of, km_up_of, km_up_o, km_upx_i, km_upx_s, km_fl2_o, ne_eq, not_true_eq_false, not_false_eq_true] <;> omega) | fail) only [g_X11_hostByTurn, z, pe, y, w0, i1, ka_lt, ka_le, ka_nlt, ka_nle, ka_ne, ka_eq, Int.add_sub_cancel, true_or, or_true, false_or, or_false, false_and, and_false, if_true, if_false, ka_lo, ka_hi, ka_nn, km_sr_sf, km_sr_of, km_up_of, km_sr_us, km_sr_uo, km_sr_sr, km_sr_fl, km_sr_flo, km_up_up, km_up_lt, km_lay, km_unL, km_up_o, km_upx_i, km_upx_s, km_fl2_o, km_is, Option.some.injEq, Sum.inl.injEq, Sum.inr.injEq, Option.toList_some, Option.toList_none, List.cons_append, List.nil_append, ne_eq, true_and, and_true, and_self, not_true_eq_false, not_false_eq_true, true_implies, false_implies, reduceCtorEq]
      have b0 : 0 ≤ b := by omega
      have ib := fun Q => @r_isBefore q c s X b i ⟨i0, z⟩ ⟨b0, by omega⟩ Q
      rw [X1, X1, X2, X2] at ib
      by_cases w1 : m 1 i < m 1 b ∨ (m 1 i = m 1 b ∧ m 2 i < m 2 b)
      · rw [eH, if_pos ⟨y, Or.inr w1⟩]
        simp only [if_pos w1] at ib
        have i1 := ih (i + 1) i (by omega) (by omega) (by omega)
        simp (config := { decide := true }) (disch := first | decide | assumption | omega | (simp (config := { decide := true }) only [km_sr_sf, km_sr_of, km_up_of, km_up_o, km_upx_i, km_upx_s, km_fl2_o, ne_eq, not_true_eq_false, not_false_eq_true] <;> omega) | fail) only [g_X11_hostByTurn, z, pe, y, w0, ib, i1, ka_lt, ka_le, ka_nlt, ka_nle, ka_ne, ka_eq, Int.add_sub_cancel, true_or, or_true, false_or, or_false, false_and, and_false, if_true, if_false, ka_lo, ka_hi, ka_nn, km_sr_sf, km_sr_of, km_up_of, km_sr_us, km_sr_uo, km_sr_sr, km_sr_fl, km_sr_flo, km_up_up, km_up_lt, km_lay, km_unL, km_up_o, km_upx_i, km_upx_s, km_fl2_o, km_is, Option.some.injEq, Sum.inl.injEq, Sum.inr.injEq, Option.toList_some, Option.toList_none, List.cons_append, List.nil_append, ne_eq, true_and, and_true, and_self, not_true_eq_false, not_false_eq_true, true_implies, false_implies, reduceCtorEq]
      · rw [eH, if_neg (fun w => w.2.elim w0 w1)]
        simp only [if_neg w1] at ib
        have i1 := ih (i + 1) b (by omega) (by omega) (by omega)
        simp (config := { decide := true }) (disch := first | decide | assumption | omega | (simp (config := { decide := true }) only [km_sr_sf, km_sr_of, km_up_of, km_up_o, km_upx_i, km_upx_s, km_fl2_o, ne_eq, not_true_eq_false, not_false_eq_true] <;> omega) | fail) only [g_X11_hostByTurn, z, pe, y, w0, ib, i1, ka_lt, ka_le, ka_nlt, ka_nle, ka_ne, ka_eq, Int.add_sub_cancel, true_or, or_true, false_or, or_false, false_and, and_false, if_true, if_false, ka_lo, ka_hi, ka_nn, km_sr_sf, km_sr_of, km_up_of, km_sr_us, km_sr_uo, km_sr_sr, km_sr_fl, km_sr_flo, km_up_up, km_up_lt, km_lay, km_unL, km_up_o, km_upx_i, km_upx_s, km_fl2_o, km_is, Option.some.injEq, Sum.inl.injEq, Sum.inr.injEq, Option.toList_some, Option.toList_none, List.cons_append, List.nil_append, ne_eq, true_and, and_true, and_self, not_true_eq_false, not_false_eq_true, true_implies, false_implies, reduceCtorEq]
  have l0 := lp 4 0 (-1) (by decide) (by decide) (by decide)
  rw [← l0, e_X11_hostByTurn]
  simp (config := { decide := true }) (disch := first | decide | assumption | omega | (simp (config := { decide := true }) only [km_sr_sf, km_sr_of, km_up_of, km_up_o, km_upx_i, km_upx_s, km_fl2_o, ne_eq, not_true_eq_false, not_false_eq_true] <;> omega) | fail) only [g_X11_hostByTurn, ka_lt, ka_le, ka_nlt, ka_nle, ka_ne, ka_eq, Int.add_sub_cancel, true_or, or_true, false_or, or_false, false_and, and_false, if_true, if_false, ka_lo, ka_hi, ka_nn, km_sr_sf, km_sr_of, km_up_of, km_sr_us, km_sr_uo, km_sr_sr, km_sr_fl, km_sr_flo, km_up_up, km_up_lt, km_lay, km_unL, km_up_o, km_upx_i, km_upx_s, km_fl2_o, km_is, Option.some.injEq, Sum.inl.injEq, Sum.inr.injEq, Option.toList_some, Option.toList_none, List.cons_append, List.nil_append, ne_eq, true_and, and_true, and_self, not_true_eq_false, not_false_eq_true, true_implies, false_implies, reduceCtorEq]
theorem c_rule (h : kI0 N m) (hN : N ≤ 1000) (hp : kIp P m) (hq : kQo q P) (hZ : kZ m X) (hs : m (P + 5) 6 ≠ -1) :
    ∃ (q' : Nat × Int × Int × Int × Int) (X' : km_Mm), (kQo q' P ∧ q'.1 = q.1) ∧ kZ m X' ∧ ∀ Q : Option km_V → km_Al → km_Mm → Prop, km_E M_X11_hostByRule [.inr (.inr 0)] (km_A0 q c s) X Q ↔ Q (some (.inl (kHstR m o p 4 0 (-1, 0)).1)) (km_A0 q' c s) X' := by
  have lp : ∀ (n : Nat) (i : Int) (q : Nat × Int × Int × Int × Int) (X : km_Mm) (sc : Int × Int) (o5 o6 o7 : Option km_V), 0 ≤ i → i + n = 4 → kQo q P → kZ m X → ∃ (q' : Nat × Int × Int × Int × Int) (X' : km_Mm), (kQo q' P ∧ q'.1 = q.1) ∧ kZ m X' ∧ ∀ Q : Option km_V → km_Al → km_Mm → Prop, km_G M_X11_hostByRule 7 [some (.inr (.inr 0)), some (.inl sc.1), some (.inr (.inl sc.2)), none, some (.inl i), o5, o6, o7] [] (km_A0 q c s) X Q ↔ Q (some (.inl (kHstR m o p n i sc).1)) (km_A0 q' c s) X' := by
    intro n
    induction n with
    | zero =>
      intro i q X sc o5 o6 o7 i0 hi hq hZ
      have z : ¬ i < 4 := by omega
      refine ⟨q, X, ⟨hq, rfl⟩, hZ, fun Q => ?_⟩
      rw [g_X11_hostByRule_7]
      unfold kHstR
      simp (config := { decide := true }) (disch := first | decide | assumption | omega | (simp (config := { decide := true }) only [km_sr_sf, km_sr_of, km_up_of, km_up_o, km_upx_i, km_upx_s, km_fl2_o, ne_eq, not_true_eq_false, not_false_eq_true] <;> omega) | fail) only [g_X11_hostByRule, z, ka_lt, ka_le, ka_nlt, ka_nle, ka_ne, ka_eq, Int.add_sub_cancel, true_or, or_true, false_or, or_false, false_and, and_false, if_true, if_false, ka_lo, ka_hi, ka_nn, km_sr_sf, km_sr_of, km_up_of, km_sr_us, km_sr_uo, km_sr_sr, km_sr_fl, km_sr_flo, km_up_up, km_up_lt, km_lay, km_unL, km_up_o, km_upx_i, km_upx_s, km_fl2_o, km_is, Option.some.injEq, Sum.inl.injEq, Sum.inr.injEq, Option.toList_some, Option.toList_none, List.cons_append, List.nil_append, ne_eq, true_and, and_true, and_self, not_true_eq_false, not_false_eq_true, true_implies, false_implies, reduceCtorEq]
    | succ n ih =>
      intro i q X sc o5 o6 o7 i0 hi hq hZ
      have z : i < 4 := by omega
      have pe := fun Q => @cl_people q c s m X i h.1 hZ Q
      have eH : kHstR m o p (n + 1) i sc = kHstR m o p n (i + 1) (@ite (Int × Int) (0 < kcnt (kPe m i) (m 5 1).toNat ∧ kLv m o p i 6 ≠ none ∧ (sc.1 = -1 ∨ sc.2 < kvl (kLv m o p i 6))) (Classical.propDecidable _) (i, kvl (kLv m o p i 6)) sc) := rfl
      by_cases y : 0 < kcnt (kPe m i) (m 5 1).toNat
      case neg =>
        obtain ⟨q', X', w1, w2, w3⟩ := ih (i + 1) q X sc (some (.inl (kcnt (kPe m i) (m 5 1).toNat))) o6 o7 (by omega) (by omega) hq hZ
        refine ⟨q', X', w1, w2, fun Q => ?_⟩
        rw [eH, if_neg (fun w => y w.1), ← w3 Q, g_X11_hostByRule_7]
        simp (config := { decide := true }) (disch := first | decide | assumption | omega | (simp (config := { decide := true }) only [km_sr_sf, km_sr_of, km_up_of, km_up_o, km_upx_i, km_upx_s, km_fl2_o, ne_eq, not_true_eq_false, not_false_eq_true] <;> omega) | fail) only [g_X11_hostByRule, z, pe, y, ka_lt, ka_le, ka_nlt, ka_nle, ka_ne, ka_eq, Int.add_sub_cancel, true_or, or_true, false_or, or_false, false_and, and_false, if_true, if_false, ka_lo, ka_hi, ka_nn, km_sr_sf, km_sr_of, km_up_of, km_sr_us, km_sr_uo, km_sr_sr, km_sr_fl, km_sr_flo, km_up_up, km_up_lt, km_lay, km_unL, km_up_o, km_upx_i, km_upx_s, km_fl2_o, km_is, Option.some.injEq, Sum.inl.injEq, Sum.inr.injEq, Option.toList_some, Option.toList_none, List.cons_append, List.nil_append, ne_eq, true_and, and_true, and_self, not_true_eq_false, not_false_eq_true, true_implies, false_implies, reduceCtorEq]
      obtain ⟨X1, l1, l2⟩ := @cl_lookBr q c s m X i (X 1 i) (X 2 i) (kcnt (kPe m i) (m 5 1).toNat) h.1 h.2.2.1 hZ.2.2 hZ.1
      have X51 : X 5 1 = m 5 1 := hZ.1 5 1 (by unfold kJ; omega)
      have e1 : X 1 i = m 1 i := hZ.1 1 i (by unfold kJ; omega)
      have e2 : X 2 i = m 2 i := hZ.1 2 i (by unfold kJ; omega)
      have xb : kXB m X1 i := ⟨(l1.1 5 1 (by decide) (by decide) (by decide) (by decide)).trans X51, ⟨i0, z⟩, ⟨l1.2.2.1.1.trans e1, l1.2.2.1.2.1.trans e2, l1.2.2.1.2.2⟩, l1.2.2.2⟩
      have zX1 : kZ m X1 := kZ_tr hZ (fun d j w => l1.1 d j (by omega) (by omega) (by omega) (by omega))
      obtain ⟨q2, X2, u1, u2, u3, u4, u5⟩ := @c_line q c s m X1 N o p i P 6 h hN hp hq zX1 (by decide) hs (fun q' => cl_namesB h.1 xb)
      have hPo := hq.1
      have hq1 := hq.2.1
      cases hr : kLv m o p i 6 with
      | none =>
        rw [hr] at u5 eH
        have u5 : ∀ Q : Option km_V → km_Al → km_Mm → Prop, km_E M_X4_value [.inr (.inr 69), .inr (.inr P), .inl 6] (km_A0 q c s) X1 Q ↔ Q (some (.inr (.inl (-9223372036854775808)))) (km_A0 q2 c s) X2 := u5
        obtain ⟨q', X', w1, w2, w3⟩ := ih (i + 1) q2 X2 sc (some (.inl (kcnt (kPe m i) (m 5 1).toNat))) (some (.inr (.inl (-9223372036854775808)))) none (by omega) (by omega) u1.1 u2
        refine ⟨q', X', ⟨w1.1, w1.2.trans u1.2⟩, w2, fun Q => ?_⟩
        rw [eH, if_neg (fun w => w.2.1 rfl), ← w3 Q, g_X11_hostByRule_7]
        rcases hPo with rfl | rfl <;> simp (config := { decide := true }) (disch := first | decide | assumption | omega | (simp (config := { decide := true }) only [km_sr_sf, km_sr_of, km_up_of, km_up_o, km_upx_i, km_upx_s, km_fl2_o, ne_eq, not_true_eq_false, not_false_eq_true] <;> omega) | fail) only [g_X11_hostByRule, z, i0, pe, y, l2, hq1, u5, kl_0, ka_lt, ka_le, ka_nlt, ka_nle, ka_ne, ka_eq, Int.add_sub_cancel, true_or, or_true, false_or, or_false, false_and, and_false, if_true, if_false, ka_lo, ka_hi, ka_nn, km_sr_sf, km_sr_of, km_up_of, km_sr_us, km_sr_uo, km_sr_sr, km_sr_fl, km_sr_flo, km_up_up, km_up_lt, km_lay, km_unL, km_up_o, km_upx_i, km_upx_s, km_fl2_o, km_is, Option.some.injEq, Sum.inl.injEq, Sum.inr.injEq, Option.toList_some, Option.toList_none, List.cons_append, List.nil_append, ne_eq, true_and, and_true, and_self, not_true_eq_false, not_false_eq_true, true_implies, false_implies, reduceCtorEq]
      | some u =>
        have u12 := kLv_12 h hN hp (by decide) hs hr
        have un : ¬ u = -9223372036854775808 := by unfold k12 at u12; omega
        rw [hr] at u5 eH
        have u5 : ∀ Q : Option km_V → km_Al → km_Mm → Prop, km_E M_X4_value [.inr (.inr 69), .inr (.inr P), .inl 6] (km_A0 q c s) X1 Q ↔ Q (some (.inr (.inl u))) (km_A0 q2 c s) X2 := u5
        have eH : kHstR m o p (n + 1) i sc = kHstR m o p n (i + 1) (@ite (Int × Int) (0 < kcnt (kPe m i) (m 5 1).toNat ∧ some u ≠ none ∧ (sc.1 = -1 ∨ sc.2 < u)) (Classical.propDecidable _) (i, u) sc) := eH
        by_cases w0 : sc.1 = -1
        · obtain ⟨q', X', w1, w2, w3⟩ := ih (i + 1) q2 X2 (i, u) (some (.inl (kcnt (kPe m i) (m 5 1).toNat))) (some (.inr (.inl u))) none (by omega) (by omega) u1.1 u2
          refine ⟨q', X', ⟨w1.1, w1.2.trans u1.2⟩, w2, fun Q => ?_⟩
          rw [eH, if_pos ⟨y, (fun w => by cases w), Or.inl w0⟩, ← w3 Q, g_X11_hostByRule_7]
          rcases hPo with rfl | rfl <;> simp (config := { decide := true }) (disch := first | decide | assumption | omega | (simp (config := { decide := true }) only [km_sr_sf, km_sr_of, km_up_of, km_up_o, km_upx_i, km_upx_s, km_fl2_o, ne_eq, not_true_eq_false, not_false_eq_true] <;> omega) | fail) only [g_X11_hostByRule, z, i0, pe, y, l2, hq1, u5, kl_0, un, w0, ka_lt, ka_le, ka_nlt, ka_nle, ka_ne, ka_eq, Int.add_sub_cancel, true_or, or_true, false_or, or_false, false_and, and_false, if_true, if_false, ka_lo, ka_hi, ka_nn, km_sr_sf, km_sr_of, km_up_of, km_sr_us, km_sr_uo, km_sr_sr, km_sr_fl, km_sr_flo, km_up_up, km_up_lt, km_lay, km_unL, km_up_o, km_upx_i, km_upx_s, km_fl2_o, km_is, Option.some.injEq, Sum.inl.injEq, Sum.inr.injEq, Option.toList_some, Option.toList_none, List.cons_append, List.nil_append, ne_eq, true_and, and_true, and_self, not_true_eq_false, not_false_eq_true, true_implies, false_implies, reduceCtorEq]
        by_cases wl : sc.2 < u
        · obtain ⟨q', X', w1, w2, w3⟩ := ih (i + 1) q2 X2 (i, u) (some (.inl (kcnt (kPe m i) (m 5 1).toNat))) (some (.inr (.inl u))) none (by omega) (by omega) u1.1 u2
          refine ⟨q', X', ⟨w1.1, w1.2.trans u1.2⟩, w2, fun Q => ?_⟩
          rw [eH, if_pos ⟨y, (fun w => by cases w), Or.inr wl⟩, ← w3 Q, g_X11_hostByRule_7]
          have wg : ¬ u ≤ sc.2 := by omega
          rcases hPo with rfl | rfl <;> simp (config := { decide := true }) (disch := first | decide | assumption | omega | (simp (config := { decide := true }) only [km_sr_sf, km_sr_of, km_up_of, km_up_o, km_upx_i, km_upx_s, km_fl2_o, ne_eq, not_true_eq_false, not_false_eq_true] <;> omega) | fail) only [g_X11_hostByRule, z, i0, pe, y, l2, hq1, u5, kl_0, kl_le, kl_gt, un, w0, wl, wg, ka_lt, ka_le, ka_nlt, ka_nle, ka_ne, ka_eq, Int.add_sub_cancel, true_or, or_true, false_or, or_false, false_and, and_false, if_true, if_false, ka_lo, ka_hi, ka_nn, km_sr_sf, km_sr_of, km_up_of, km_sr_us, km_sr_uo, km_sr_sr, km_sr_fl, km_sr_flo, km_up_up, km_up_lt, km_lay, km_unL, km_up_o, km_upx_i, km_upx_s, km_fl2_o, km_is, Option.some.injEq, Sum.inl.injEq, Sum.inr.injEq, Option.toList_some, Option.toList_none, List.cons_append, List.nil_append, ne_eq, true_and, and_true, and_self, not_true_eq_false, not_false_eq_true, true_implies, false_implies, reduceCtorEq]
        · obtain ⟨q', X', w1, w2, w3⟩ := ih (i + 1) q2 X2 sc (some (.inl (kcnt (kPe m i) (m 5 1).toNat))) (some (.inr (.inl u))) none (by omega) (by omega) u1.1 u2
          refine ⟨q', X', ⟨w1.1, w1.2.trans u1.2⟩, w2, fun Q => ?_⟩
          rw [eH, if_neg (fun w => w.2.2.elim w0 wl), ← w3 Q, g_X11_hostByRule_7]
          have wg : u ≤ sc.2 := by omega
          rcases hPo with rfl | rfl <;> simp (config := { decide := true }) (disch := first | decide | assumption | omega | (simp (config := { decide := true }) only [km_sr_sf, km_sr_of, km_up_of, km_up_o, km_upx_i, km_upx_s, km_fl2_o, ne_eq, not_true_eq_false, not_false_eq_true] <;> omega) | fail) only [g_X11_hostByRule, z, i0, pe, y, l2, hq1, u5, kl_0, kl_le, kl_gt, un, w0, wl, wg, ka_lt, ka_le, ka_nlt, ka_nle, ka_ne, ka_eq, Int.add_sub_cancel, true_or, or_true, false_or, or_false, false_and, and_false, if_true, if_false, ka_lo, ka_hi, ka_nn, km_sr_sf, km_sr_of, km_up_of, km_sr_us, km_sr_uo, km_sr_sr, km_sr_fl, km_sr_flo, km_up_up, km_up_lt, km_lay, km_unL, km_up_o, km_upx_i, km_upx_s, km_fl2_o, km_is, Option.some.injEq, Sum.inl.injEq, Sum.inr.injEq, Option.toList_some, Option.toList_none, List.cons_append, List.nil_append, ne_eq, true_and, and_true, and_self, not_true_eq_false, not_false_eq_true, true_implies, false_implies, reduceCtorEq]
  obtain ⟨q', X', w1, w2, w3⟩ := lp 4 0 q X (-1, 0) none none none (by decide) (by decide) hq hZ
  refine ⟨q', X', w1, w2, fun Q => ?_⟩
  rw [← w3 Q, e_X11_hostByRule]
  show _ ↔ km_G M_X11_hostByRule 7 [some (.inr (.inr 0)), some (.inl (-1)), some (.inr (.inl 0)), none, some (.inl 0), none, none, none] [] (km_A0 q c s) X Q
  simp (config := { decide := true }) (disch := first | decide | assumption | omega | (simp (config := { decide := true }) only [km_sr_sf, km_sr_of, km_up_of, km_up_o, km_upx_i, km_upx_s, km_fl2_o, ne_eq, not_true_eq_false, not_false_eq_true] <;> omega) | fail) only [g_X11_hostByRule, ka_lt, ka_le, ka_nlt, ka_nle, ka_ne, ka_eq, Int.add_sub_cancel, true_or, or_true, false_or, or_false, false_and, and_false, if_true, if_false, ka_lo, ka_hi, ka_nn, km_sr_sf, km_sr_of, km_up_of, km_sr_us, km_sr_uo, km_sr_sr, km_sr_fl, km_sr_flo, km_up_up, km_up_lt, km_lay, km_unL, km_up_o, km_upx_i, km_upx_s, km_fl2_o, km_is, Option.some.injEq, Sum.inl.injEq, Sum.inr.injEq, Option.toList_some, Option.toList_none, List.cons_append, List.nil_append, ne_eq, true_and, and_true, and_self, not_true_eq_false, not_false_eq_true, true_implies, false_implies, reduceCtorEq]
theorem c_host (h : kI0 N m) (hN : N ≤ 1000) (hp : kIp P m) (hq : kQo q P) :
    ∃ (q' : Nat × Int × Int × Int × Int) (X' : km_Mm), (kQo q' P ∧ q'.1 = q.1) ∧ kZ m X' ∧ ∀ Q : Option km_V → km_Al → km_Mm → Prop, km_E M_X11_host [.inr (.inr 0)] (km_A0 q c s) m Q ↔ Q (some (.inl (kHst m o p))) (km_A0 q' c s) X' := by
  obtain ⟨M, zM, eM⟩ := @kZ_now q c s m h.1
  have hPo := hq.1
  have hq1 := hq.2.1
  have e5 : M (P + 5) 6 = m (P + 5) 6 := zM.1 _ _ (kJ_no (by omega))
  have ph := fun Q => @r_phas q c s M P 6 hPo (by decide) Q
  rw [e5] at ph
  have ks : m (P + 5) 6 = -1 ↔ m 142 6 = -1 := kIl_s (hp.2.2.2.1 6 (by decide) (by decide))
  unfold kHst
  by_cases z : m (P + 5) 6 = -1
  · rw [if_pos (ks.mp z)]
    rw [if_pos z] at ph
    have ct := fun Q => @c_turn q c s m M h.1 zM Q
    refine ⟨q, M, ⟨hq, rfl⟩, zM, fun Q => ?_⟩
    rw [e_X11_host]
    rcases hPo with rfl | rfl <;> simp (config := { decide := true }) (disch := first | decide | assumption | omega | (simp (config := { decide := true }) only [km_sr_sf, km_sr_of, km_up_of, km_up_o, km_upx_i, km_upx_s, km_fl2_o, ne_eq, not_true_eq_false, not_false_eq_true] <;> omega) | fail) only [g_X11_host, hq1, eM, ph, ct, ka_lt, ka_le, ka_nlt, ka_nle, ka_ne, ka_eq, Int.add_sub_cancel, true_or, or_true, false_or, or_false, false_and, and_false, if_true, if_false, ka_lo, ka_hi, ka_nn, km_sr_sf, km_sr_of, km_up_of, km_sr_us, km_sr_uo, km_sr_sr, km_sr_fl, km_sr_flo, km_up_up, km_up_lt, km_lay, km_unL, km_up_o, km_upx_i, km_upx_s, km_fl2_o, km_is, Option.some.injEq, Sum.inl.injEq, Sum.inr.injEq, Option.toList_some, Option.toList_none, List.cons_append, List.nil_append, ne_eq, true_and, and_true, and_self, not_true_eq_false, not_false_eq_true, true_implies, false_implies, reduceCtorEq]
  · rw [if_neg (fun w => z (ks.mpr w))]
    rw [if_neg z] at ph
    obtain ⟨q', X', w1, w2, w3⟩ := @c_rule q c s m M N o p P h hN hp hq zM z
    refine ⟨q', X', w1, w2, fun Q => ?_⟩
    rw [e_X11_host]
    rcases hPo with rfl | rfl <;> simp (config := { decide := true }) (disch := first | decide | assumption | omega | (simp (config := { decide := true }) only [km_sr_sf, km_sr_of, km_up_of, km_up_o, km_upx_i, km_upx_s, km_fl2_o, ne_eq, not_true_eq_false, not_false_eq_true] <;> omega) | fail) only [g_X11_host, hq1, eM, ph, w3, ka_lt, ka_le, ka_nlt, ka_nle, ka_ne, ka_eq, Int.add_sub_cancel, true_or, or_true, false_or, or_false, false_and, and_false, if_true, if_false, ka_lo, ka_hi, ka_nn, km_sr_sf, km_sr_of, km_up_of, km_sr_us, km_sr_uo, km_sr_sr, km_sr_fl, km_sr_flo, km_up_up, km_up_lt, km_lay, km_unL, km_up_o, km_upx_i, km_upx_s, km_fl2_o, km_is, Option.some.injEq, Sum.inl.injEq, Sum.inr.injEq, Option.toList_some, Option.toList_none, List.cons_append, List.nil_append, ne_eq, true_and, and_true, and_self, not_true_eq_false, not_false_eq_true, true_implies, false_implies, reduceCtorEq]
end FT

