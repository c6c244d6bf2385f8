/-! ===== Book: people ===== -/
theorem sp_people {q : Nat × Int × Int × Int × Int} {c s : Nat} {b : Int} {m : km_Mm} (hk : 0 ≤ m 5 1 ∧ m 5 1 ≤ 10) (h0 : 0 ≤ km_and (m 5 12) (km_wt m 8 b (m 5 1).toNat 0 0)) (h1 : km_and (m 5 12) (km_wt m 8 b (m 5 1).toNat 0 0) < 1024) (Q : Option km_V → km_Al → km_Mm → Prop) : km_E M_X1_people [.inr (.inr 5), .inl b] (km_A0 q c s) m Q ↔ Q (some (.inl (km_pop (km_and (m 5 12) (km_wt m 8 b (m 5 1).toNat 0 0))))) (km_A0 q c s) m := by
  rw [km_E.of (by decide)]
  show km_G M_X1_people 0 [some (.inr (.inr 5)), some (.inl b)] [] (km_A0 q c s) m _ ↔ _
  have h := fun Q => @r_withTrait q c s 1 b (by decide) m hk Q
  have k := fun A m Q => @sp_bitCount _ h0 h1 A m Q
  have e : (7 : Int) + 1 = 8 := rfl
  simp (config := { decide := true }) only [g_X1_people, h, e, k, km_lay, km_unL, km_up_o, km_upx_i, km_upx_s, km_fl2_o, km_is, Option.some.injEq, Sum.inl.injEq, Sum.inr.injEq, Option.toList_some, Option.toList_none, List.cons_append, List.nil_append, ne_eq, true_and, and_true, and_self, not_true_eq_false, not_false_eq_true, true_implies, false_implies, reduceCtorEq]

