/-! ===== Book: the rest ===== -/
theorem sp_ageIn {q : Nat × Int × Int × Int × Int} {c s : Nat} {m : km_Mm} {k y : Int} (h0 : 0 ≤ k) (h1 : k < 10) (h2 : 0 ≤ y) (h3 : y ≤ 999) (h4 : -1 ≤ m 17 k ∧ m 17 k ≤ 999) : km_E M_X1_ageIn [.inr (.inr 5), .inl k, .inl y] (km_A0 q c s) m (km_is (some (.inl (if m 17 k ≠ -1 ∧ m 17 k ≤ y then y - m 17 k else -1))) (km_A0 q c s) (m)) := by
  rw [km_E.of (by decide)]
  show km_G M_X1_ageIn 0 [some (.inr (.inr 5)), some (.inl k), some (.inl y)] [] (km_A0 q c s) m _
  simp (config := { decide := true }) only [g_X1_ageIn, h0, h1, km_lay, km_unL, km_up_o, km_upx_i, km_upx_s, km_fl2_o, km_is, Option.some.injEq, Sum.inl.injEq, Sum.inr.injEq, Option.toList_some, Option.toList_none, List.cons_append, List.nil_append, ne_eq, true_and, and_true, and_self, not_true_eq_false, not_false_eq_true, true_implies, false_implies, reduceCtorEq]
  grind
theorem r_ageIn {q : Nat × Int × Int × Int × Int} {c s : Nat} {m : km_Mm} {k y : Int} (h0 : 0 ≤ k) (h1 : k < 10) (h2 : 0 ≤ y) (h3 : y ≤ 999) (h4 : -1 ≤ m 17 k ∧ m 17 k ≤ 999) (Q : Option km_V → km_Al → km_Mm → Prop) : km_E M_X1_ageIn [.inr (.inr 5), .inl k, .inl y] (km_A0 q c s) m Q ↔ Q (some (.inl (if m 17 k ≠ -1 ∧ m 17 k ≤ y then y - m 17 k else -1))) (km_A0 q c s) (m) := km_E.rule (sp_ageIn h0 h1 h2 h3 h4) Q
theorem sp_addNote {q : Nat × Int × Int × Int × Int} {c s : Nat} {m : km_Mm} {s0 a b d : Int} (h0 : 0 ≤ m 5 3) : km_E M_X1_addNote [.inr (.inr 5), .inl s0, .inl a, .inl b, .inl d] (km_A0 q c s) m (km_is (some (.inl (if 100 ≤ m 5 3 then -1 else m 5 3))) (km_A0 q c s) (if 100 ≤ m 5 3 then m else km_up (km_up (km_up (km_up (km_up m 12 (m 5 3) s0) 13 (m 5 3) a) 14 (m 5 3) b) 15 (m 5 3) d) 5 3 (m 5 3 + 1))) := by
  rw [km_E.of (by decide)]
  show km_G M_X1_addNote 0 [some (.inr (.inr 5)), some (.inl s0), some (.inl a), some (.inl b), some (.inl d)] [] (km_A0 q c s) m _
  simp (config := { decide := true }) only [g_X1_addNote, km_lay, km_unL, km_up_o, km_upx_i, km_upx_s, km_fl2_o, km_is, Option.some.injEq, Sum.inl.injEq, Sum.inr.injEq, Option.toList_some, Option.toList_none, List.cons_append, List.nil_append, ne_eq, true_and, and_true, and_self, not_true_eq_false, not_false_eq_true, true_implies, false_implies, reduceCtorEq]
  split <;> grind
theorem r_addNote {q : Nat × Int × Int × Int × Int} {c s : Nat} {m : km_Mm} {s0 a b d : Int} (h0 : 0 ≤ m 5 3) (Q : Option km_V → km_Al → km_Mm → Prop) : km_E M_X1_addNote [.inr (.inr 5), .inl s0, .inl a, .inl b, .inl d] (km_A0 q c s) m Q ↔ Q (some (.inl (if 100 ≤ m 5 3 then -1 else m 5 3))) (km_A0 q c s) (if 100 ≤ m 5 3 then m else km_up (km_up (km_up (km_up (km_up m 12 (m 5 3) s0) 13 (m 5 3) a) 14 (m 5 3) b) 15 (m 5 3) d) 5 3 (m 5 3 + 1)) := km_E.rule (sp_addNote h0) Q
/-- a set of the kin, n from the i-th on -/
def km_wt (m : km_Mm) (a v : Int) : Nat → Int → Int → Int
  | 0, _, x => x
  | n + 1, i, x => km_wt m a v n (i + 1) (if m a i = v then km_or x (km_shl 1 i) else x)
theorem lp_withTrait_5 {q : Nat × Int × Int × Int × Int} {c s : Nat} {w v : Int} (hw : 0 ≤ w ∧ w < 5) {m : km_Mm} (hk : m 5 1 ≤ 10) {Q : Option km_V → km_Al → km_Mm → Prop} : ∀ (n : Nat) (i x : Int), 0 ≤ i → i + n = m 5 1 →
    (km_G M_X1_withTrait 5 [some (.inr (.inr 5)), some (.inl w), some (.inl v), some (.inl x), some (.inl i)] [] (km_A0 q c s) m Q ↔ Q (some (.inl (km_wt m (7 + w) v n i x))) (km_A0 q c s) m) := by
  intro n
  induction n with
  | zero =>
    intro i x h0 h1
    have e : m 5 1 ≤ i := by omega
    rw [g_X1_withTrait_5]
    simp (config := { decide := true }) only [g_X1_withTrait, e, km_wt, km_lay, km_unL, km_up_o, km_upx_i, km_upx_s, km_fl2_o, km_is, Option.some.injEq, Sum.inl.injEq, Sum.inr.injEq, Option.toList_some, Option.toList_none, List.cons_append, List.nil_append, ne_eq, true_and, and_true, and_self, not_true_eq_false, not_false_eq_true, true_implies, false_implies, reduceCtorEq]
  | succ n ih =>
    intro i x h0 h1
    have e : ¬ m 5 1 ≤ i := by omega
    have i1 := fun x => ih (i + 1) x (by omega) (by omega)
    rw [g_X1_withTrait_5]
    have e3 := km_row6 q c s
    have e4 := @km_rowc6 q c s w hw.1 hw.2
    have e5 : (6 : Int) + 1 + w = 7 + w := by omega
    rw [e5] at e4
    have e6 : (0 : Int) ≤ 7 + w := by omega
    simp (config := { decide := true }) only [g_X1_withTrait, e, i1, km_wt, e3, e4.1, e4.2, e5, e6, km_lay, km_unL, km_up_o, km_upx_i, km_upx_s, km_fl2_o, km_is, Option.some.injEq, Sum.inl.injEq, Sum.inr.injEq, Option.toList_some, Option.toList_none, List.cons_append, List.nil_append, ne_eq, true_and, and_true, and_self, not_true_eq_false, not_false_eq_true, true_implies, false_implies, reduceCtorEq]
    by_cases cc0 : m (7 + w) i = v <;> simp (config := { decide := true }) only [cc0, e5, km_lay, km_unL, km_up_o, km_upx_i, km_upx_s, km_fl2_o, km_is, Option.some.injEq, Sum.inl.injEq, Sum.inr.injEq, Option.toList_some, Option.toList_none, List.cons_append, List.nil_append, ne_eq, true_and, and_true, and_self, not_true_eq_false, not_false_eq_true, true_implies, false_implies, reduceCtorEq] <;> grind
theorem sp_withTrait {q : Nat × Int × Int × Int × Int} {c s : Nat} {w v : Int} (hw : 0 ≤ w ∧ w < 5) {m : km_Mm} (hk : 0 ≤ m 5 1 ∧ m 5 1 ≤ 10) : km_E M_X1_withTrait [.inr (.inr 5), .inl w, .inl v] (km_A0 q c s) m (km_is (some (.inl (km_wt m (7 + w) v (m 5 1).toNat 0 0))) (km_A0 q c s) m) := by
  rw [km_E.of (by decide)]
  show km_G M_X1_withTrait 0 [some (.inr (.inr 5)), some (.inl w), some (.inl v), none, none] [] (km_A0 q c s) m _
  simp (config := { decide := true }) only [g_X1_withTrait, lp_withTrait_5 hw hk.2 (m 5 1).toNat 0 0 (by omega) (by omega), km_lay, km_unL, km_up_o, km_upx_i, km_upx_s, km_fl2_o, km_is, Option.some.injEq, Sum.inl.injEq, Sum.inr.injEq, Option.toList_some, Option.toList_none, List.cons_append, List.nil_append, ne_eq, true_and, and_true, and_self, not_true_eq_false, not_false_eq_true, true_implies, false_implies, reduceCtorEq]
theorem r_withTrait {q : Nat × Int × Int × Int × Int} {c s : Nat} {w v : Int} (hw : 0 ≤ w ∧ w < 5) {m : km_Mm} (hk : 0 ≤ m 5 1 ∧ m 5 1 ≤ 10) (Q : Option km_V → km_Al → km_Mm → Prop) : km_E M_X1_withTrait [.inr (.inr 5), .inl w, .inl v] (km_A0 q c s) m Q ↔ Q (some (.inl (km_wt m (7 + w) v (m 5 1).toNat 0 0))) (km_A0 q c s) m := km_E.rule (sp_withTrait hw hk) Q

