/-! ===== Book: its small methods ===== -/
theorem sp_isKin {q : Nat × Int × Int × Int × Int} {c s : Nat} {m : km_Mm} {k : Int} : km_E M_X1_isKin [.inr (.inr 5), .inl k] (km_A0 q c s) m (km_is (some (.inl (if 0 ≤ k ∧ k < m 5 1 then 1 else 0))) (km_A0 q c s) (m)) := by
  rw [km_E.of (by decide)]
  show km_G M_X1_isKin 0 [some (.inr (.inr 5)), some (.inl k)] [] (km_A0 q c s) m _
  simp (config := { decide := true }) only [g_X1_isKin, km_lay, km_unL, km_up_o, km_upx_i, km_upx_s, km_fl2_o, km_is, Option.some.injEq, Sum.inl.injEq, Sum.inr.injEq, Option.toList_some, Option.toList_none, List.cons_append, List.nil_append, ne_eq, true_and, and_true, and_self, not_true_eq_false, not_false_eq_true, true_implies, false_implies, reduceCtorEq]
  grind
theorem r_isKin {q : Nat × Int × Int × Int × Int} {c s : Nat} {m : km_Mm} {k : Int} (Q : Option km_V → km_Al → km_Mm → Prop) : km_E M_X1_isKin [.inr (.inr 5), .inl k] (km_A0 q c s) m Q ↔ Q (some (.inl (if 0 ≤ k ∧ k < m 5 1 then 1 else 0))) (km_A0 q c s) (m) := km_E.rule (sp_isKin ) Q
theorem sp_isYear {q : Nat × Int × Int × Int × Int} {c s : Nat} {m : km_Mm} {y : Int} : km_E M_X1_isYear [.inl y] (km_A0 q c s) m (km_is (some (.inl (if 0 ≤ y ∧ y ≤ 999 then 1 else 0))) (km_A0 q c s) (m)) := by
  rw [km_E.of (by decide)]
  show km_G M_X1_isYear 0 [some (.inl y)] [] (km_A0 q c s) m _
  simp (config := { decide := true }) only [g_X1_isYear, km_lay, km_unL, km_up_o, km_upx_i, km_upx_s, km_fl2_o, km_is, Option.some.injEq, Sum.inl.injEq, Sum.inr.injEq, Option.toList_some, Option.toList_none, List.cons_append, List.nil_append, ne_eq, true_and, and_true, and_self, not_true_eq_false, not_false_eq_true, true_implies, false_implies, reduceCtorEq]
  grind
theorem r_isYear {q : Nat × Int × Int × Int × Int} {c s : Nat} {m : km_Mm} {y : Int} (Q : Option km_V → km_Al → km_Mm → Prop) : km_E M_X1_isYear [.inl y] (km_A0 q c s) m Q ↔ Q (some (.inl (if 0 ≤ y ∧ y ≤ 999 then 1 else 0))) (km_A0 q c s) (m) := km_E.rule (sp_isYear ) Q
theorem sp_isKnown {q : Nat × Int × Int × Int × Int} {c s : Nat} {m : km_Mm} {n : Int} : km_E M_X1_isKnown [.inr (.inr 5), .inl n] (km_A0 q c s) m (km_is (some (.inl (if 0 ≤ n ∧ n ≤ m 5 3 then 1 else 0))) (km_A0 q c s) (m)) := by
  rw [km_E.of (by decide)]
  show km_G M_X1_isKnown 0 [some (.inr (.inr 5)), some (.inl n)] [] (km_A0 q c s) m _
  simp (config := { decide := true }) only [g_X1_isKnown, km_lay, km_unL, km_up_o, km_upx_i, km_upx_s, km_fl2_o, km_is, Option.some.injEq, Sum.inl.injEq, Sum.inr.injEq, Option.toList_some, Option.toList_none, List.cons_append, List.nil_append, ne_eq, true_and, and_true, and_self, not_true_eq_false, not_false_eq_true, true_implies, false_implies, reduceCtorEq]
  grind
theorem r_isKnown {q : Nat × Int × Int × Int × Int} {c s : Nat} {m : km_Mm} {n : Int} (Q : Option km_V → km_Al → km_Mm → Prop) : km_E M_X1_isKnown [.inr (.inr 5), .inl n] (km_A0 q c s) m Q ↔ Q (some (.inl (if 0 ≤ n ∧ n ≤ m 5 3 then 1 else 0))) (km_A0 q c s) (m) := km_E.rule (sp_isKnown ) Q
theorem sp_isAlive {q : Nat × Int × Int × Int × Int} {c s : Nat} {m : km_Mm} {k : Int} : km_E M_X1_isAlive [.inr (.inr 5), .inl k] (km_A0 q c s) m (km_is (some (.inl (if 0 ≤ k ∧ k < 10 ∧ km_and (km_shr (m 5 12) k) 1 ≠ 0 then 1 else 0))) (km_A0 q c s) (m)) := by
  rw [km_E.of (by decide)]
  show km_G M_X1_isAlive 0 [some (.inr (.inr 5)), some (.inl k)] [] (km_A0 q c s) m _
  simp (config := { decide := true }) only [g_X1_isAlive, km_lay, km_unL, km_up_o, km_upx_i, km_upx_s, km_fl2_o, km_is, Option.some.injEq, Sum.inl.injEq, Sum.inr.injEq, Option.toList_some, Option.toList_none, List.cons_append, List.nil_append, ne_eq, true_and, and_true, and_self, not_true_eq_false, not_false_eq_true, true_implies, false_implies, reduceCtorEq]
  grind
theorem r_isAlive {q : Nat × Int × Int × Int × Int} {c s : Nat} {m : km_Mm} {k : Int} (Q : Option km_V → km_Al → km_Mm → Prop) : km_E M_X1_isAlive [.inr (.inr 5), .inl k] (km_A0 q c s) m Q ↔ Q (some (.inl (if 0 ≤ k ∧ k < 10 ∧ km_and (km_shr (m 5 12) k) 1 ≠ 0 then 1 else 0))) (km_A0 q c s) (m) := km_E.rule (sp_isAlive ) Q
theorem sp_livesIn {q : Nat × Int × Int × Int × Int} {c s : Nat} {m : km_Mm} {k y : Int} (h0 : 0 ≤ k) (h1 : k < 10) : km_E M_X1_livesIn [.inr (.inr 5), .inl k, .inl y] (km_A0 q c s) m (km_is (some (.inl (if m 17 k ≤ y ∧ (m 18 k = -1 ∨ y < m 18 k) then 1 else 0))) (km_A0 q c s) (m)) := by
  rw [km_E.of (by decide)]
  show km_G M_X1_livesIn 0 [some (.inr (.inr 5)), some (.inl k), some (.inl y)] [] (km_A0 q c s) m _
  simp (config := { decide := true }) only [g_X1_livesIn, h0, h1, km_lay, km_unL, km_up_o, km_upx_i, km_upx_s, km_fl2_o, km_is, Option.some.injEq, Sum.inl.injEq, Sum.inr.injEq, Option.toList_some, Option.toList_none, List.cons_append, List.nil_append, ne_eq, true_and, and_true, and_self, not_true_eq_false, not_false_eq_true, true_implies, false_implies, reduceCtorEq]
  grind
theorem r_livesIn {q : Nat × Int × Int × Int × Int} {c s : Nat} {m : km_Mm} {k y : Int} (h0 : 0 ≤ k) (h1 : k < 10) (Q : Option km_V → km_Al → km_Mm → Prop) : km_E M_X1_livesIn [.inr (.inr 5), .inl k, .inl y] (km_A0 q c s) m Q ↔ Q (some (.inl (if m 17 k ≤ y ∧ (m 18 k = -1 ∨ y < m 18 k) then 1 else 0))) (km_A0 q c s) (m) := km_E.rule (sp_livesIn h0 h1) Q
theorem sp_isOf {q : Nat × Int × Int × Int × Int} {c s : Nat} {m : km_Mm} {i a b : Int} (h0 : 0 ≤ i) (h1 : i < 100) : km_E M_X1_isOf [.inr (.inr 5), .inl i, .inl a, .inl b] (km_A0 q c s) m (km_is (some (.inl (if (m 13 i = a ∧ m 14 i = b) ∨ (m 13 i = b ∧ m 14 i = a) then 1 else 0))) (km_A0 q c s) (m)) := by
  rw [km_E.of (by decide)]
  show km_G M_X1_isOf 0 [some (.inr (.inr 5)), some (.inl i), some (.inl a), some (.inl b)] [] (km_A0 q c s) m _
  simp (config := { decide := true }) only [g_X1_isOf, h0, h1, km_lay, km_unL, km_up_o, km_upx_i, km_upx_s, km_fl2_o, km_is, Option.some.injEq, Sum.inl.injEq, Sum.inr.injEq, Option.toList_some, Option.toList_none, List.cons_append, List.nil_append, ne_eq, true_and, and_true, and_self, not_true_eq_false, not_false_eq_true, true_implies, false_implies, reduceCtorEq]
  grind
theorem r_isOf {q : Nat × Int × Int × Int × Int} {c s : Nat} {m : km_Mm} {i a b : Int} (h0 : 0 ≤ i) (h1 : i < 100) (Q : Option km_V → km_Al → km_Mm → Prop) : km_E M_X1_isOf [.inr (.inr 5), .inl i, .inl a, .inl b] (km_A0 q c s) m Q ↔ Q (some (.inl (if (m 13 i = a ∧ m 14 i = b) ∨ (m 13 i = b ∧ m 14 i = a) then 1 else 0))) (km_A0 q c s) (m) := km_E.rule (sp_isOf h0 h1) Q
theorem sp_noteFits {q : Nat × Int × Int × Int × Int} {c s : Nat} {m : km_Mm} {s0 a b d : Int} : km_E M_X1_noteFits [.inr (.inr 5), .inl s0, .inl a, .inl b, .inl d] (km_A0 q c s) m (km_is (some (.inl (if 0 ≤ s0 ∧ s0 ≤ 4 ∧ (0 ≤ a ∧ a < m 5 1) ∧ (if s0 = 0 then (0 ≤ b ∧ b < m 5 1) ∧ b < a ∧ (d = 0 ∨ d = 1) else (0 ≤ d ∧ d ≤ 999) ∧ (s0 = 1 ∨ s0 = 2 → (0 ≤ b ∧ b < m 5 1) ∧ a ≠ b)) then 1 else 0))) (km_A0 q c s) (m)) := by
  rw [km_E.of (by decide)]
  show km_G M_X1_noteFits 0 [some (.inr (.inr 5)), some (.inl s0), some (.inl a), some (.inl b), some (.inl d), none] [] (km_A0 q c s) m _
  simp (config := { decide := true }) only [g_X1_noteFits, r_isKin, r_isYear, km_lay, km_unL, km_up_o, km_upx_i, km_upx_s, km_fl2_o, km_is, Option.some.injEq, Sum.inl.injEq, Sum.inr.injEq, Option.toList_some, Option.toList_none, List.cons_append, List.nil_append, ne_eq, true_and, and_true, and_self, not_true_eq_false, not_false_eq_true, true_implies, false_implies, reduceCtorEq]
  grind
theorem r_noteFits {q : Nat × Int × Int × Int × Int} {c s : Nat} {m : km_Mm} {s0 a b d : Int} (Q : Option km_V → km_Al → km_Mm → Prop) : km_E M_X1_noteFits [.inr (.inr 5), .inl s0, .inl a, .inl b, .inl d] (km_A0 q c s) m Q ↔ Q (some (.inl (if 0 ≤ s0 ∧ s0 ≤ 4 ∧ (0 ≤ a ∧ a < m 5 1) ∧ (if s0 = 0 then (0 ≤ b ∧ b < m 5 1) ∧ b < a ∧ (d = 0 ∨ d = 1) else (0 ≤ d ∧ d ≤ 999) ∧ (s0 = 1 ∨ s0 = 2 → (0 ≤ b ∧ b < m 5 1) ∧ a ≠ b)) then 1 else 0))) (km_A0 q c s) (m) := km_E.rule (sp_noteFits ) Q

