/-! ===== the reference: the book and the family ===== -/
def kv_fl (f : Int → Int) (k n v : Int) : Int → Int := fun j => if k ≤ j ∧ j < n then v else f j
theorem kv_fl_end {f : Int → Int} {k n v : Int} (h : n ≤ k) : kv_fl f k n v = f := by funext j; unfold kv_fl; rw [if_neg (by omega)]
theorem kv_fl_up {f : Int → Int} {k n v : Int} (h : k < n) : kv_fl (km_u1 f k v) (k + 1) n v = kv_fl f k n v := by
  funext j; unfold kv_fl km_u1; grind
def kq_k0 (nn : Int) (f : Int → Int) (k : Int) : Int → Int := fun j => if k ≤ j ∧ j < 100 then (if j < nn then 1 else 0) else f j
theorem kq_k0_end {nn k : Int} {f : Int → Int} (h : 100 ≤ k) : kq_k0 nn f k = f := by funext j; unfold kq_k0; rw [if_neg (by omega)]
theorem kq_k0_1 {nn k : Int} {f : Int → Int} (h : k < 100) (h2 : k < nn) : kq_k0 nn (km_u1 f k 1) (k + 1) = kq_k0 nn f k := by funext j; unfold kq_k0 km_u1; grind
theorem kq_k0_0 {nn k : Int} {f : Int → Int} (h : k < 100) (h2 : nn ≤ k) : kq_k0 nn (km_u1 f k 0) (k + 1) = kq_k0 nn f k := by funext j; unfold kq_k0 km_u1; grind
/-- strikes of the reference, from the n-th note down -/
def kq_kn (S A : Int → Int) : Nat → (Int → Int) → (Int → Int)
  | 0, C => C
  | n + 1, C => kq_kn S A n (if S n = 9 ∧ C n ≠ 0 then km_u1 C (A n) 0 else C)
theorem lp_know_34 {q : Nat × Int × Int × Int × Int} {c s : Nat} {nn : Int} {m : km_Mm} (hA : ∀ i : Int, 0 ≤ i → i < 100 → 0 ≤ m 127 i ∧ m 127 i < 100) {Q : Option km_V → km_Al → km_Mm → Prop} : ∀ (n : Nat) (C : Int → Int), (n : Int) ≤ 100 → (km_G M_X12_know 34 [some (.inr (.inr 123)), some (.inl nn), some (.inl ((n : Int) - 1))] [] (km_A0 q c s) (km_sr m 130 C) Q ↔ Q none (km_A0 q c s) (km_sr m 130 (kq_kn (m 126) (m 127) n C))) := by
  intro n
  induction n with
  | zero =>
    intro C h0
    rw [g_X12_know_34]
    simp (config := { decide := true }) (disch := first | decide | assumption | omega | (simp (config := { decide := true }) only [km_sr_sf, km_sr_of, km_up_of, km_up_o, km_upx_i, km_upx_s, km_fl2_o, ne_eq, not_true_eq_false, not_false_eq_true] <;> omega) | fail) only [g_X12_know, kq_kn, h0, true_or, or_true, false_or, or_false, false_and, and_false, if_true, if_false, ka_lo, ka_hi, ka_nn, km_sr_sf, km_sr_of, km_up_of, km_sr_us, km_sr_uo, km_sr_sr, km_sr_fl, km_sr_flo, km_up_up, km_up_lt, km_lay, km_unL, km_up_o, km_upx_i, km_upx_s, km_fl2_o, km_is, Option.some.injEq, Sum.inl.injEq, Sum.inr.injEq, Option.toList_some, Option.toList_none, List.cons_append, List.nil_append, ne_eq, true_and, and_true, and_self, not_true_eq_false, not_false_eq_true, true_implies, false_implies, reduceCtorEq]
    all_goals grind
  | succ n ih =>
    intro C h0
    have e : ((n + 1 : Nat) : Int) - 1 = n := by omega
    have e2 : (n : Int) + -1 = n - 1 := by omega
    have e3 := hA n (by omega) (by omega)
    have e4 : ¬ (n : Int) < 0 := by omega
    have e5 : (n : Int) < 100 := by omega
    rw [e]
    rw [g_X12_know_34]
    simp (config := { decide := true }) (disch := first | decide | assumption | omega | (simp (config := { decide := true }) only [km_sr_sf, km_sr_of, km_up_of, km_up_o, km_upx_i, km_upx_s, km_fl2_o, ne_eq, not_true_eq_false, not_false_eq_true] <;> omega) | fail) only [g_X12_know, ih, kq_kn, e2, e3, e4, e5, h0, true_or, or_true, false_or, or_false, false_and, and_false, if_true, if_false, ka_lo, ka_hi, ka_nn, km_sr_sf, km_sr_of, km_up_of, km_sr_us, km_sr_uo, km_sr_sr, km_sr_fl, km_sr_flo, km_up_up, km_up_lt, km_lay, km_unL, km_up_o, km_upx_i, km_upx_s, km_fl2_o, km_is, Option.some.injEq, Sum.inl.injEq, Sum.inr.injEq, Option.toList_some, Option.toList_none, List.cons_append, List.nil_append, ne_eq, true_and, and_true, and_self, not_true_eq_false, not_false_eq_true, true_implies, false_implies, reduceCtorEq]
    by_cases cc0 : m 126 n = 9 <;> by_cases cc1 : C n = 0 <;> simp (config := { decide := true }) (disch := first | decide | assumption | omega | (simp (config := { decide := true }) only [km_sr_sf, km_sr_of, km_up_of, km_up_o, km_upx_i, km_upx_s, km_fl2_o, ne_eq, not_true_eq_false, not_false_eq_true] <;> omega) | fail) only [cc0, cc1, ih, kq_kn, e2, e3, e4, e5, if_true, if_false, h0, true_or, or_true, false_or, or_false, false_and, and_false, if_true, if_false, ka_lo, ka_hi, ka_nn, km_sr_sf, km_sr_of, km_up_of, km_sr_us, km_sr_uo, km_sr_sr, km_sr_fl, km_sr_flo, km_up_up, km_up_lt, km_lay, km_unL, km_up_o, km_upx_i, km_upx_s, km_fl2_o, km_is, Option.some.injEq, Sum.inl.injEq, Sum.inr.injEq, Option.toList_some, Option.toList_none, List.cons_append, List.nil_append, ne_eq, true_and, and_true, and_self, not_true_eq_false, not_false_eq_true, true_implies, false_implies, reduceCtorEq] <;> grind
theorem lp_know_2 {q : Nat × Int × Int × Int × Int} {c s : Nat} {nn : Int} {m : km_Mm} (hn : 0 ≤ nn ∧ nn ≤ 100) {Q : Option km_V → km_Al → km_Mm → Prop} : ∀ (n : Nat) (k : Int) (f : Int → Int), 0 ≤ k → k + n = 100 → (km_G M_X12_know 2 [some (.inr (.inr 123)), some (.inl nn), some (.inl k)] [] (km_A0 q c s) (km_sr m 130 f) Q ↔ km_G M_X12_know 34 [some (.inr (.inr 123)), some (.inl nn), some (.inl (nn - 1))] [] (km_A0 q c s) (km_sr m 130 (kq_k0 nn f k)) Q) := by
  intro n
  induction n with
  | zero =>
    intro k f h0 h1
    have e : (100 : Int) ≤ k := by omega
    rw [g_X12_know_2]
    simp (config := { decide := true }) (disch := first | decide | assumption | omega | (simp (config := { decide := true }) only [km_sr_sf, km_sr_of, km_up_of, km_up_o, km_upx_i, km_upx_s, km_fl2_o, ne_eq, not_true_eq_false, not_false_eq_true] <;> omega) | fail) only [g_X12_know, e, kq_k0_end, h0, true_or, or_true, false_or, or_false, false_and, and_false, if_true, if_false, ka_lo, ka_hi, ka_nn, km_sr_sf, km_sr_of, km_up_of, km_sr_us, km_sr_uo, km_sr_sr, km_sr_fl, km_sr_flo, km_up_up, km_up_lt, km_lay, km_unL, km_up_o, km_upx_i, km_upx_s, km_fl2_o, km_is, Option.some.injEq, Sum.inl.injEq, Sum.inr.injEq, Option.toList_some, Option.toList_none, List.cons_append, List.nil_append, ne_eq, true_and, and_true, and_self, not_true_eq_false, not_false_eq_true, true_implies, false_implies, reduceCtorEq]
    all_goals grind
  | succ n ih =>
    intro k f h0 h1
    have e : ¬ (100 : Int) ≤ k := by omega
    have e2 : k < 100 := by omega
    rw [g_X12_know_2]
    simp (config := { decide := true }) (disch := first | decide | assumption | omega | (simp (config := { decide := true }) only [km_sr_sf, km_sr_of, km_up_of, km_up_o, km_upx_i, km_upx_s, km_fl2_o, ne_eq, not_true_eq_false, not_false_eq_true] <;> omega) | fail) only [g_X12_know, ih, kq_k0_end, e, e2, h0, true_or, or_true, false_or, or_false, false_and, and_false, if_true, if_false, ka_lo, ka_hi, ka_nn, km_sr_sf, km_sr_of, km_up_of, km_sr_us, km_sr_uo, km_sr_sr, km_sr_fl, km_sr_flo, km_up_up, km_up_lt, km_lay, km_unL, km_up_o, km_upx_i, km_upx_s, km_fl2_o, km_is, Option.some.injEq, Sum.inl.injEq, Sum.inr.injEq, Option.toList_some, Option.toList_none, List.cons_append, List.nil_append, ne_eq, true_and, and_true, and_self, not_true_eq_false, not_false_eq_true, true_implies, false_implies, reduceCtorEq]
    by_cases cc0 : nn ≤ k <;> simp (config := { decide := true }) (disch := first | decide | assumption | omega | (simp (config := { decide := true }) only [km_sr_sf, km_sr_of, km_up_of, km_up_o, km_upx_i, km_upx_s, km_fl2_o, ne_eq, not_true_eq_false, not_false_eq_true] <;> omega) | fail) only [cc0, ih, kq_k0_end, e, e2, kq_k0_1, kq_k0_0, if_true, if_false, h0, true_or, or_true, false_or, or_false, false_and, and_false, if_true, if_false, ka_lo, ka_hi, ka_nn, km_sr_sf, km_sr_of, km_up_of, km_sr_us, km_sr_uo, km_sr_sr, km_sr_fl, km_sr_flo, km_up_up, km_up_lt, km_lay, km_unL, km_up_o, km_upx_i, km_upx_s, km_fl2_o, km_is, Option.some.injEq, Sum.inl.injEq, Sum.inr.injEq, Option.toList_some, Option.toList_none, List.cons_append, List.nil_append, ne_eq, true_and, and_true, and_self, not_true_eq_false, not_false_eq_true, true_implies, false_implies, reduceCtorEq] <;> grind
theorem r_know {q : Nat × Int × Int × Int × Int} {c s : Nat} {nn : Int} {m : km_Mm} (hn : 0 ≤ nn ∧ nn ≤ 100) (hA : ∀ i : Int, 0 ≤ i → i < 100 → 0 ≤ m 127 i ∧ m 127 i < 100) (Q : Option km_V → km_Al → km_Mm → Prop) : km_E M_X12_know [.inr (.inr 123), .inl nn] (km_A0 q c s) m Q ↔ Q none (km_A0 q c s) (km_sr m 130 (kq_kn (m 126) (m 127) nn.toNat (kq_k0 nn (m 130) 0))) := by
  rw [km_E.of (by decide)]
  show km_G M_X12_know 0 [some (.inr (.inr 123)), some (.inl nn), none] [] (km_A0 q c s) m _ ↔ _
  have h := @lp_know_2 q c s nn m hn Q 100 0 (m 130) (by omega) (by omega)
  rw [km_sr_id] at h
  have h2 := @lp_know_34 q c s nn m hA Q nn.toNat (kq_k0 nn (m 130) 0) (by omega)
  have e : ((nn.toNat : Nat) : Int) = nn := by omega
  rw [e] at h2
  simp (config := { decide := true }) only [g_X12_know, h, h2, true_or, or_true, false_or, or_false, false_and, and_false, if_true, if_false, km_sr_sf, km_sr_of, km_up_of, km_sr_us, km_sr_uo, km_sr_sr, km_sr_fl, km_sr_flo, km_up_up, km_up_lt, km_lay, km_unL, km_up_o, km_upx_i, km_upx_s, km_fl2_o, km_is, Option.some.injEq, Sum.inl.injEq, Sum.inr.injEq, Option.toList_some, Option.toList_none, List.cons_append, List.nil_append, ne_eq, true_and, and_true, and_self, not_true_eq_false, not_false_eq_true, true_implies, false_implies, reduceCtorEq]
theorem sp_isParent {q : Nat × Int × Int × Int × Int} {c s : Nat} {m : km_Mm} {a b : Int} (h0 : 0 ≤ a) (h1 : a < 10) : km_E M_X12_isParent [.inr (.inr 123), .inl a, .inl b] (km_A0 q c s) m (km_is (some (.inl (if kf_is (m 132) (m 131) a b = true then 1 else 0))) (km_A0 q c s) (m)) := by
  rw [km_E.of (by decide)]
  show km_G M_X12_isParent 0 [some (.inr (.inr 123)), some (.inl a), some (.inl b)] [] (km_A0 q c s) m _
  simp (config := { decide := true }) only [g_X12_isParent, h0, h1, kf_is, Bool.or_eq_true, Bool.and_eq_true, decide_eq_true_eq, km_lay, km_unL, km_up_o, km_upx_i, km_upx_s, km_fl2_o, km_is, Option.some.injEq, Sum.inl.injEq, Sum.inr.injEq, Option.toList_some, Option.toList_none, List.cons_append, List.nil_append, ne_eq, true_and, and_true, and_self, not_true_eq_false, not_false_eq_true, true_implies, false_implies, reduceCtorEq]
  by_cases cc0 : m 132 a ≤ 0 <;> by_cases cc1 : m 131 (2 * a) = b <;> by_cases cc2 : m 132 a ≤ 1 <;> by_cases cc3 : m 131 (2 * a + 1) = b <;> simp (config := { decide := true }) (disch := first | decide | assumption | omega | (simp (config := { decide := true }) only [km_sr_sf, km_sr_of, km_up_of, km_up_o, km_upx_i, km_upx_s, km_fl2_o, ne_eq, not_true_eq_false, not_false_eq_true] <;> omega) | fail) only [cc0, cc1, cc2, cc3, if_true, if_false, true_or, or_true, false_or, or_false, false_and, and_false, if_true, if_false, ka_lo, ka_hi, ka_nn, km_sr_sf, km_sr_of, km_up_of, km_sr_us, km_sr_uo, km_sr_sr, km_sr_fl, km_sr_flo, km_up_up, km_up_lt, km_lay, km_unL, km_up_o, km_upx_i, km_upx_s, km_fl2_o, km_is, Option.some.injEq, Sum.inl.injEq, Sum.inr.injEq, Option.toList_some, Option.toList_none, List.cons_append, List.nil_append, ne_eq, true_and, and_true, and_self, not_true_eq_false, not_false_eq_true, true_implies, false_implies, reduceCtorEq] <;> grind
theorem r_isParent {q : Nat × Int × Int × Int × Int} {c s : Nat} {m : km_Mm} {a b : Int} (h0 : 0 ≤ a) (h1 : a < 10) (Q : Option km_V → km_Al → km_Mm → Prop) : km_E M_X12_isParent [.inr (.inr 123), .inl a, .inl b] (km_A0 q c s) m Q ↔ Q (some (.inl (if kf_is (m 132) (m 131) a b = true then 1 else 0))) (km_A0 q c s) (m) := km_E.rule (sp_isParent h0 h1) Q
theorem lp_family_210 {q : Nat × Int × Int × Int × Int} {c s : Nat} {ii : Int} {m : km_Mm} (hi : 0 ≤ ii ∧ ii < 100) (hk : 0 ≤ m 123 14 ∧ m 123 14 < 6) {Q : Option km_V → km_Al → km_Mm → Prop} : ∀ (n : Nat) (j hd : Int), 0 ≤ j → j + n = m 123 14 → (hd = 0 ∨ hd = 1) → (km_G M_X12_family 210 [some (.inr (.inr 123)), some (.inl ii), some (.inl hd), some (.inl j)] [] (km_A0 q c s) (m) Q ↔ km_G M_X12_family 139 [some (.inr (.inr 123)), some (.inl (ii + 1)), some (.inl ((if hd = 1 ∨ kn_has (m 133) (m 134) (m 127 ii) (m 128 ii) n j = true then 1 else 0))), some (.inl (m 123 14))] [] (km_A0 q c s) ((if hd = 1 ∨ kn_has (m 133) (m 134) (m 127 ii) (m 128 ii) n j = true then m else km_up (km_up (km_up m 123 14 (m 123 14 + 1)) 133 (m 123 14) (m 127 ii)) 134 (m 123 14) (m 128 ii))) Q) := by
  intro n
  induction n with
  | zero =>
    intro j hd h0 h1 h2
    have e : m 123 14 ≤ j := by omega
    have e2 : j = m 123 14 := by omega
    have e3 : (m 123 14 ≤ m 123 14) := Int.le_refl _
    rcases h2 with h2 | h2 <;> subst h2 <;> subst e2
    all_goals rw [g_X12_family_210]
    all_goals simp (config := { decide := true }) (disch := first | decide | assumption | omega | (simp (config := { decide := true }) only [km_sr_sf, km_sr_of, km_up_of, km_up_o, km_upx_i, km_upx_s, km_fl2_o, ne_eq, not_true_eq_false, not_false_eq_true] <;> omega) | fail) only [g_X12_family, kn_has, e3, hi.1, hi.2, hk.1, hk.2, or_false, if_false, if_true, true_or, or_true, false_or, or_false, false_and, and_false, if_true, if_false, ka_lo, ka_hi, ka_nn, km_sr_sf, km_sr_of, km_up_of, km_sr_us, km_sr_uo, km_sr_sr, km_sr_fl, km_sr_flo, km_up_up, km_up_lt, km_lay, km_unL, km_up_o, km_upx_i, km_upx_s, km_fl2_o, km_is, Option.some.injEq, Sum.inl.injEq, Sum.inr.injEq, Option.toList_some, Option.toList_none, List.cons_append, List.nil_append, ne_eq, true_and, and_true, and_self, not_true_eq_false, not_false_eq_true, true_implies, false_implies, reduceCtorEq]
  | succ n ih =>
    intro j hd h0 h1 h2
    have e : ¬ m 123 14 ≤ j := by omega
    have e2 : j < 6 := by omega
    have e3 : (1 = 0 ∨ (1 : Int) = 1) := by decide
    have e4 : (0 = 0 ∨ (0 : Int) = 1) := by decide
    have i1 := ih (j + 1) 1 (by omega) (by omega) (by omega)
    have i2 := ih (j + 1) 0 (by omega) (by omega) (by omega)
    clear ih
    have ih := i1
    rcases h2 with h2 | h2 <;> subst h2
    · rw [g_X12_family_210]
      simp (config := { decide := true }) (disch := first | decide | assumption | omega | (simp (config := { decide := true }) only [km_sr_sf, km_sr_of, km_up_of, km_up_o, km_upx_i, km_upx_s, km_fl2_o, ne_eq, not_true_eq_false, not_false_eq_true] <;> omega) | fail) only [g_X12_family, e, e2, i1, i2, hi.1, hi.2, h0, kn_has, true_or, or_true, false_or, or_false, false_and, and_false, if_true, if_false, ka_lo, ka_hi, ka_nn, km_sr_sf, km_sr_of, km_up_of, km_sr_us, km_sr_uo, km_sr_sr, km_sr_fl, km_sr_flo, km_up_up, km_up_lt, km_lay, km_unL, km_up_o, km_upx_i, km_upx_s, km_fl2_o, km_is, Option.some.injEq, Sum.inl.injEq, Sum.inr.injEq, Option.toList_some, Option.toList_none, List.cons_append, List.nil_append, ne_eq, true_and, and_true, and_self, not_true_eq_false, not_false_eq_true, true_implies, false_implies, reduceCtorEq]
      by_cases c0 : m 133 j = m 127 ii <;> by_cases c1 : m 134 j = m 128 ii <;> simp (config := { decide := true }) (disch := first | decide | assumption | omega | (simp (config := { decide := true }) only [km_sr_sf, km_sr_of, km_up_of, km_up_o, km_upx_i, km_upx_s, km_fl2_o, ne_eq, not_true_eq_false, not_false_eq_true] <;> omega) | fail) only [c0, c1, kn_has, decide_true, decide_false, Bool.true_and, Bool.and_true, Bool.false_and, Bool.and_false, Bool.true_or, Bool.false_or, if_true, true_or, or_true, false_or, or_false, false_and, and_false, if_true, if_false, ka_lo, ka_hi, ka_nn, km_sr_sf, km_sr_of, km_up_of, km_sr_us, km_sr_uo, km_sr_sr, km_sr_fl, km_sr_flo, km_up_up, km_up_lt, km_lay, km_unL, km_up_o, km_upx_i, km_upx_s, km_fl2_o, km_is, Option.some.injEq, Sum.inl.injEq, Sum.inr.injEq, Option.toList_some, Option.toList_none, List.cons_append, List.nil_append, ne_eq, true_and, and_true, and_self, not_true_eq_false, not_false_eq_true, true_implies, false_implies, reduceCtorEq]
    · rw [g_X12_family_210]
      simp (config := { decide := true }) (disch := first | decide | assumption | omega | (simp (config := { decide := true }) only [km_sr_sf, km_sr_of, km_up_of, km_up_o, km_upx_i, km_upx_s, km_fl2_o, ne_eq, not_true_eq_false, not_false_eq_true] <;> omega) | fail) only [g_X12_family, e, e2, i1, i2, hi.1, hi.2, h0, kn_has, true_or, if_true, true_or, or_true, false_or, or_false, false_and, and_false, if_true, if_false, ka_lo, ka_hi, ka_nn, km_sr_sf, km_sr_of, km_up_of, km_sr_us, km_sr_uo, km_sr_sr, km_sr_fl, km_sr_flo, km_up_up, km_up_lt, km_lay, km_unL, km_up_o, km_upx_i, km_upx_s, km_fl2_o, km_is, Option.some.injEq, Sum.inl.injEq, Sum.inr.injEq, Option.toList_some, Option.toList_none, List.cons_append, List.nil_append, ne_eq, true_and, and_true, and_self, not_true_eq_false, not_false_eq_true, true_implies, false_implies, reduceCtorEq]

