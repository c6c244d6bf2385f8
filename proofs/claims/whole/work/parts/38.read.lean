/-! ===== Book: the reading ===== -/
/-- strikes, from the n-th note down -/
def km_stk : Nat → km_Mm → km_Mm
  | 0, m => m
  | n + 1, m => km_stk n (if m 16 n ≠ 0 ∧ m 12 n = 5 then km_up m 16 (m 13 n) 0 else m)
theorem lp_strikeOut_30 {q : Nat × Int × Int × Int × Int} {c s : Nat} {Q : Option km_V → km_Al → km_Mm → Prop} : ∀ (n : Nat) (m : km_Mm), (n : Int) ≤ 100 → (∀ i : Int, 0 ≤ i → i < n → 0 ≤ m 13 i ∧ m 13 i < 100) →
    (km_G M_X1_strikeOut 30 [some (.inr (.inr 5)), some (.inl ((n : Int) - 1))] [] (km_A0 q c s) m Q ↔ Q none (km_A0 q c s) (km_stk n m)) := by
  intro n
  induction n with
  | zero =>
    intro m h1 h2
    rw [g_X1_strikeOut_30]
    simp (config := { decide := true }) only [g_X1_strikeOut, km_stk, km_lay, km_unL, km_is, Option.some.injEq, Sum.inl.injEq, Sum.inr.injEq, Option.toList_some, Option.toList_none, List.cons_append, List.nil_append, ne_eq, true_and, and_true, and_self, not_true_eq_false, not_false_eq_true, true_implies, false_implies, reduceCtorEq]
  | succ n ih =>
    intro m h1 h2
    have e : ((n + 1 : Nat) : Int) - 1 = n := by omega
    have e2 : (n : Int) + -1 = n - 1 := by omega
    have i1 := ih m (by omega) (fun i a b => h2 i a (by omega))
    have i2 := ih (km_up m 16 (m 13 n) 0) (by omega) (fun i a b => h2 i a (by omega))
    have i3 := h2 n (by omega) (by omega)
    rw [g_X1_strikeOut_30, e]
    simp (config := { decide := true }) only [g_X1_strikeOut, km_stk, e2, i1, i2, km_lay, km_unL, km_is, Option.some.injEq, Sum.inl.injEq, Sum.inr.injEq, Option.toList_some, Option.toList_none, List.cons_append, List.nil_append, ne_eq, true_and, and_true, and_self, not_true_eq_false, not_false_eq_true, true_implies, false_implies, reduceCtorEq]
    grind
theorem lp_strikeOut_2 {q : Nat × Int × Int × Int × Int} {c s : Nat} {Q : Option km_V → km_Al → km_Mm → Prop} : ∀ (n : Nat) (i : Int) (m : km_Mm), 0 ≤ i → i + n = m 5 8 → m 5 8 ≤ 100 → (∀ i : Int, 0 ≤ i → i < 100 → 0 ≤ m 13 i ∧ m 13 i < 100) →
    (km_G M_X1_strikeOut 2 [some (.inr (.inr 5)), some (.inl i)] [] (km_A0 q c s) m Q ↔ Q none (km_A0 q c s) (km_stk (m 5 8).toNat (km_fl2 m 16 i (m 5 8) 1))) := by
  intro n
  induction n with
  | zero =>
    intro i m h0 h1 h2 h3
    have e : i = m 5 8 := by omega
    have e2 : m 5 8 - 1 = ((m 5 8).toNat : Int) - 1 := by omega
    have e3 := @lp_strikeOut_30 q c s Q (m 5 8).toNat m (by omega) (fun i a b => h3 i a (by omega))
    have e4 : -2147483648 ≤ ((m 5 8).toNat : Int) - 1 ∧ ((m 5 8).toNat : Int) - 1 ≤ 2147483647 := by omega
    rw [g_X1_strikeOut_2, km_fl2_end (by omega)]
    simp (config := { decide := true }) only [g_X1_strikeOut, e, Int.le_refl, e2, e3, e4, km_lay, km_unL, km_is, Option.some.injEq, Sum.inl.injEq, Sum.inr.injEq, Option.toList_some, Option.toList_none, List.cons_append, List.nil_append, ne_eq, true_and, and_true, and_self, not_true_eq_false, not_false_eq_true, true_implies, false_implies, reduceCtorEq]
  | succ n ih =>
    intro i m h0 h1 h2 h3
    have e : ¬ m 5 8 ≤ i := by omega
    have i1 := ih (i + 1) (km_up m 16 i 1) (by omega) (by show i + 1 + (n : Int) = m 5 8; omega) h2 h3
    have e5 : (km_up m 16 i 1) 5 8 = m 5 8 := rfl
    rw [e5, km_fl2_up (by omega)] at i1
    rw [g_X1_strikeOut_2]
    simp (config := { decide := true }) only [g_X1_strikeOut, e, i1, km_lay, km_unL, km_is, Option.some.injEq, Sum.inl.injEq, Sum.inr.injEq, Option.toList_some, Option.toList_none, List.cons_append, List.nil_append, ne_eq, true_and, and_true, and_self, not_true_eq_false, not_false_eq_true, true_implies, false_implies, reduceCtorEq]
    grind
/-- which notes count, after strikeOut -/
def km_cnt (m : km_Mm) : km_Mm := km_stk (m 5 8).toNat (km_fl2 m 16 0 (m 5 8) 1)
theorem sp_strikeOut {q : Nat × Int × Int × Int × Int} {c s : Nat} {m : km_Mm} (h0 : 0 ≤ m 5 8 ∧ m 5 8 ≤ 100) (h1 : ∀ i : Int, 0 ≤ i → i < 100 → 0 ≤ m 13 i ∧ m 13 i < 100) : km_E M_X1_strikeOut [.inr (.inr 5)] (km_A0 q c s) m (km_is none (km_A0 q c s) (km_cnt m)) := by
  rw [km_E.of (by decide)]
  show km_G M_X1_strikeOut 0 [some (.inr (.inr 5)), none] [] (km_A0 q c s) m _
  have h := @lp_strikeOut_2 q c s (km_is none (km_A0 q c s) (km_cnt m)) (m 5 8).toNat 0 m (by omega) (by omega) h0.2 h1
  simp (config := { decide := true }) only [g_X1_strikeOut, km_lay, km_unL, km_is, Option.some.injEq, Sum.inl.injEq, Sum.inr.injEq, Option.toList_some, Option.toList_none, List.cons_append, List.nil_append, ne_eq, true_and, and_true, and_self, not_true_eq_false, not_false_eq_true, true_implies, false_implies, reduceCtorEq]
  rw [h]
  exact km_is_rf rfl

