/-! ===== Integer: compare ===== -/
theorem sp_compare {q : Nat × Int × Int × Int × Int} {c s : Nat} {m : km_Mm} {x y : Int} : km_E M_J6_compare_7cf53 [.inl x, .inl y] (km_A0 q c s) m (km_is (some (.inl (if x < y then -1 else if x = y then 0 else 1))) (km_A0 q c s) (m)) := by
  rw [km_E.of (by decide)]
  show km_G M_J6_compare_7cf53 0 [some (.inl x), some (.inl y)] [] (km_A0 q c s) m _
  simp (config := { decide := true }) only [g_J6_compare_7cf53, km_lay, km_unL, km_up_o, km_upx_i, km_upx_s, km_fl2_o, km_is, Option.some.injEq, Sum.inl.injEq, Sum.inr.injEq, Option.toList_some, Option.toList_none, List.cons_append, List.nil_append, ne_eq, true_and, and_true, and_self, not_true_eq_false, not_false_eq_true, true_implies, false_implies, reduceCtorEq]
  grind
theorem r_compare {q : Nat × Int × Int × Int × Int} {c s : Nat} {m : km_Mm} {x y : Int} (Q : Option km_V → km_Al → km_Mm → Prop) : km_E M_J6_compare_7cf53 [.inl x, .inl y] (km_A0 q c s) m Q ↔ Q (some (.inl (if x < y then -1 else if x = y then 0 else 1))) (km_A0 q c s) (m) := km_E.rule (sp_compare ) Q

