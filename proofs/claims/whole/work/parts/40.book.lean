/-! ===== Book: kin and couples ===== -/
theorem sp_addKin {q : Nat × Int × Int × Int × Int} {c s : Nat} {m : km_Mm} {v0 v1 v2 v3 v4 : Int} (h0 : 0 ≤ m 5 1) (h1 : m 5 1 < 10) : km_E M_X1_addKin [.inr (.inr 5), .inl v0, .inl v1, .inl v2, .inl v3, .inl v4] (km_A0 q c s) m (km_is (some (.inl (m 5 1))) (km_A0 q c s) (km_up (km_up (km_up (km_up (km_up (km_up m 7 (m 5 1) v0) 8 (m 5 1) v1) 9 (m 5 1) v2) 10 (m 5 1) v3) 11 (m 5 1) v4) 5 1 (m 5 1 + 1))) := by
  rw [km_E.of (by decide)]
  show km_G M_X1_addKin 0 [some (.inr (.inr 5)), some (.inl v0), some (.inl v1), some (.inl v2), some (.inl v3), some (.inl v4)] [] (km_A0 q c s) m _
  simp (config := { decide := true }) only [g_X1_addKin, h0, h1, km_row6, Int.reduceAdd, km_lay, km_unL, km_up_o, km_upx_i, km_upx_s, km_fl2_o, km_is, Option.some.injEq, Sum.inl.injEq, Sum.inr.injEq, Option.toList_some, Option.toList_none, List.cons_append, List.nil_append, ne_eq, true_and, and_true, and_self, not_true_eq_false, not_false_eq_true, true_implies, false_implies, reduceCtorEq]
  grind
theorem r_addKin {q : Nat × Int × Int × Int × Int} {c s : Nat} {m : km_Mm} {v0 v1 v2 v3 v4 : Int} (h0 : 0 ≤ m 5 1) (h1 : m 5 1 < 10) (Q : Option km_V → km_Al → km_Mm → Prop) : km_E M_X1_addKin [.inr (.inr 5), .inl v0, .inl v1, .inl v2, .inl v3, .inl v4] (km_A0 q c s) m Q ↔ Q (some (.inl (m 5 1))) (km_A0 q c s) (km_up (km_up (km_up (km_up (km_up (km_up m 7 (m 5 1) v0) 8 (m 5 1) v1) 9 (m 5 1) v2) 10 (m 5 1) v3) 11 (m 5 1) v4) 5 1 (m 5 1 + 1)) := km_E.rule (sp_addKin h0 h1) Q
/-- the latest note of two as a couple by a year, n from the i-th on -/
def km_cpl (m : km_Mm) (a b y : Int) : Nat → Int → Int → Int
  | 0, _, l => l
  | n + 1, i, l => km_cpl m a b y n (i + 1) (if m 16 i ≠ 0 ∧ (m 12 i = 1 ∨ m 12 i = 2) ∧ ¬ y < m 15 i ∧ ((m 13 i = a ∧ m 14 i = b) ∨ (m 13 i = b ∧ m 14 i = a)) ∧ (l = -1 ∨ ¬ m 15 i < m 15 l) then i else l)
theorem lp_coupleIn_6 {q : Nat × Int × Int × Int × Int} {c s : Nat} {a b y : Int} {m : km_Mm} (hk : m 5 8 ≤ 100) {Q : Option km_V → km_Al → km_Mm → Prop} : ∀ (n : Nat) (i l : Int) (o : Option km_V), 0 ≤ i → i + n = m 5 8 → -1 ≤ l ∧ l < 100 →
    (km_G M_X1_coupleIn 6 [some (.inr (.inr 5)), some (.inl a), some (.inl b), some (.inl y), some (.inl l), some (.inl i), o] [] (km_A0 q c s) m Q ↔ Q (some (.inl (if km_cpl m a b y n i l ≠ -1 ∧ m 12 (km_cpl m a b y n i l) = 1 then 1 else 0))) (km_A0 q c s) m) := by
  intro n
  induction n with
  | zero =>
    intro i l o h0 h1 h2
    have e : m 5 8 ≤ i := by omega
    rw [g_X1_coupleIn_6]
    simp (config := { decide := true }) only [g_X1_coupleIn, e, km_cpl, km_lay, km_unL, km_up_o, km_upx_i, km_upx_s, km_fl2_o, km_is, Option.some.injEq, Sum.inl.injEq, Sum.inr.injEq, Option.toList_some, Option.toList_none, List.cons_append, List.nil_append, ne_eq, true_and, and_true, and_self, not_true_eq_false, not_false_eq_true, true_implies, false_implies, reduceCtorEq]
    by_cases cc0 : l = -1 <;> by_cases cc1 : m 12 l = 1 <;> simp (config := { decide := true }) only [cc0, cc1, h2, km_lay, km_unL, km_up_o, km_upx_i, km_upx_s, km_fl2_o, km_is, Option.some.injEq, Sum.inl.injEq, Sum.inr.injEq, Option.toList_some, Option.toList_none, List.cons_append, List.nil_append, ne_eq, true_and, and_true, and_self, not_true_eq_false, not_false_eq_true, true_implies, false_implies, reduceCtorEq] <;> grind
  | succ n ih =>
    intro i l o h0 h1 h2
    have e : ¬ m 5 8 ≤ i := by omega
    have e1 : i < 100 := by omega
    have e2 : (-2147483648 ≤ i + 1) := by omega
    have e3 : (i + 1 ≤ 2147483647) := by omega
    have i1 := fun o => ih (i + 1) l o (by omega) (by omega) h2
    have i2 := fun o => ih (i + 1) i o (by omega) (by omega) ⟨by omega, e1⟩
    have i4 := fun Q => @r_isOf q c s m i a b h0 e1 Q
    rw [g_X1_coupleIn_6]
    simp (config := { decide := true }) only [g_X1_coupleIn, e, e1, e2, e3, h0, i1, i2, i4, km_cpl, km_lay, km_unL, km_up_o, km_upx_i, km_upx_s, km_fl2_o, km_is, Option.some.injEq, Sum.inl.injEq, Sum.inr.injEq, Option.toList_some, Option.toList_none, List.cons_append, List.nil_append, ne_eq, true_and, and_true, and_self, not_true_eq_false, not_false_eq_true, true_implies, false_implies, reduceCtorEq]
    have l0 : ¬ l = -1 → 0 ≤ l := by omega
    have l1 : l < 100 := h2.2
    by_cases cc0 : m 16 i = 0 <;> by_cases cc1 : m 12 i = 1 <;> by_cases cc2 : m 12 i = 2 <;> by_cases cc3 : y < m 15 i <;> by_cases cc4 : (m 13 i = a ∧ m 14 i = b) ∨ (m 13 i = b ∧ m 14 i = a) <;> by_cases cc5 : l = -1 <;> by_cases cc6 : m 15 i < m 15 l <;> simp (config := { decide := true }) only [cc0, cc1, cc2, cc3, cc4, cc5, cc6, true_or, or_true, or_false, false_or, false_and, and_false, if_true, if_false, l0, l1, km_lay, km_unL, km_up_o, km_upx_i, km_upx_s, km_fl2_o, km_is, Option.some.injEq, Sum.inl.injEq, Sum.inr.injEq, Option.toList_some, Option.toList_none, List.cons_append, List.nil_append, ne_eq, true_and, and_true, and_self, not_true_eq_false, not_false_eq_true, true_implies, false_implies, reduceCtorEq] <;> grind
theorem sp_coupleIn {q : Nat × Int × Int × Int × Int} {c s : Nat} {a b y : Int} {m : km_Mm} (hk : 0 ≤ m 5 8 ∧ m 5 8 ≤ 100) : km_E M_X1_coupleIn [.inr (.inr 5), .inl a, .inl b, .inl y] (km_A0 q c s) m (km_is (some (.inl (if km_cpl m a b y (m 5 8).toNat 0 (-1) ≠ -1 ∧ m 12 (km_cpl m a b y (m 5 8).toNat 0 (-1)) = 1 then 1 else 0))) (km_A0 q c s) m) := by
  rw [km_E.of (by decide)]
  show km_G M_X1_coupleIn 0 [some (.inr (.inr 5)), some (.inl a), some (.inl b), some (.inl y), none, none, none] [] (km_A0 q c s) m _
  have h := fun Q => @lp_coupleIn_6 q c s a b y m hk.2 Q (m 5 8).toNat 0 (-1) none (by omega) (by omega) (by omega)
  simp (config := { decide := true }) only [g_X1_coupleIn, h, km_lay, km_unL, km_up_o, km_upx_i, km_upx_s, km_fl2_o, km_is, Option.some.injEq, Sum.inl.injEq, Sum.inr.injEq, Option.toList_some, Option.toList_none, List.cons_append, List.nil_append, ne_eq, true_and, and_true, and_self, not_true_eq_false, not_false_eq_true, true_implies, false_implies, reduceCtorEq]
theorem r_coupleIn {q : Nat × Int × Int × Int × Int} {c s : Nat} {a b y : Int} {m : km_Mm} (hk : 0 ≤ m 5 8 ∧ m 5 8 ≤ 100) (Q : Option km_V → km_Al → km_Mm → Prop) : km_E M_X1_coupleIn [.inr (.inr 5), .inl a, .inl b, .inl y] (km_A0 q c s) m Q ↔ Q (some (.inl (if km_cpl m a b y (m 5 8).toNat 0 (-1) ≠ -1 ∧ m 12 (km_cpl m a b y (m 5 8).toNat 0 (-1)) = 1 then 1 else 0))) (km_A0 q c s) m := km_E.rule (sp_coupleIn hk) Q

