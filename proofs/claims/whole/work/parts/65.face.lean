/-! ===== small methods of the class ===== -/
theorem r_traitFits {q : Nat × Int × Int × Int × Int} {c s : Nat} {m : km_Mm} {w v : Int} (Q : Option km_V → km_Al → km_Mm → Prop) : km_E M_X1_traitFits [.inr (.inr 5), .inl w, .inl v] (km_A0 q c s) m Q ↔ Q (some (.inl (if 0 ≤ w ∧ w < 5 ∧ 0 ≤ v ∧ v < (if w = 0 then 6 else if w = 2 then 100 else if w = 4 then 2 else 4) then 1 else 0))) (km_A0 q c s) m := by
  unfold km_E
  have e : (10 ≤ M_X1_traitFits.2.2.2.2.2.2.2) := by decide
  simp only [if_pos e]
  have e2 : km_intr M_X1_traitFits [.inr (.inr 5), .inl w, .inl v] (km_A0 q c s) m = some (some (.inl (if 0 ≤ w ∧ w < 5 ∧ 0 ≤ v ∧ v < (if w = 0 then 6 else if w = 2 then 100 else if w = 4 then 2 else 4) then 1 else 0)), km_A0 q c s, m) := rfl
  rw [e2]
  constructor
  · rintro ⟨_, x, A', m', h1, h2⟩; cases h1; exact h2
  · intro h; exact ⟨0, _, _, _, rfl, h⟩
theorem sp_ohas {q : Nat × Int × Int × Int × Int} {c s : Nat} {m : km_Mm} {o : Int} : km_E M_X6_has [.inr (.inr 19), .inl o] (km_A0 q c s) m (km_is (some (.inl (if 0 ≤ o ∧ o < m 19 1 then 1 else 0))) (km_A0 q c s) (m)) := by
  rw [km_E.of (by decide)]
  show km_G M_X6_has 0 [some (.inr (.inr 19)), some (.inl o)] [] (km_A0 q c s) m _
  simp (config := { decide := true }) only [g_X6_has, km_lay, km_unL, km_up_o, km_upx_i, km_upx_s, km_fl2_o, km_is, Option.some.injEq, Sum.inl.injEq, Sum.inr.injEq, Option.toList_some, Option.toList_none, List.cons_append, List.nil_append, ne_eq, true_and, and_true, and_self, not_true_eq_false, not_false_eq_true, true_implies, false_implies, reduceCtorEq]
  grind
theorem r_ohas {q : Nat × Int × Int × Int × Int} {c s : Nat} {m : km_Mm} {o : Int} (Q : Option km_V → km_Al → km_Mm → Prop) : km_E M_X6_has [.inr (.inr 19), .inl o] (km_A0 q c s) m Q ↔ Q (some (.inl (if 0 ≤ o ∧ o < m 19 1 then 1 else 0))) (km_A0 q c s) (m) := km_E.rule (sp_ohas ) Q
theorem sp_isOn {q : Nat × Int × Int × Int × Int} {c s : Nat} {m : km_Mm}  : km_E M_X5_isOn [.inr (.inr 100)] (km_A0 q c s) m (km_is (some (.inl (if m 100 0 = -1 then 0 else 1))) (km_A0 q c s) (m)) := by
  rw [km_E.of (by decide)]
  show km_G M_X5_isOn 0 [some (.inr (.inr 100))] [] (km_A0 q c s) m _
  simp (config := { decide := true }) only [g_X5_isOn, km_lay, km_unL, km_up_o, km_upx_i, km_upx_s, km_fl2_o, km_is, Option.some.injEq, Sum.inl.injEq, Sum.inr.injEq, Option.toList_some, Option.toList_none, List.cons_append, List.nil_append, ne_eq, true_and, and_true, and_self, not_true_eq_false, not_false_eq_true, true_implies, false_implies, reduceCtorEq]
  grind
theorem r_isOn {q : Nat × Int × Int × Int × Int} {c s : Nat} {m : km_Mm}  (Q : Option km_V → km_Al → km_Mm → Prop) : km_E M_X5_isOn [.inr (.inr 100)] (km_A0 q c s) m Q ↔ Q (some (.inl (if m 100 0 = -1 then 0 else 1))) (km_A0 q c s) (m) := km_E.rule (sp_isOn ) Q
theorem sp_isGuest {q : Nat × Int × Int × Int × Int} {c s : Nat} {m : km_Mm} {k : Int} : km_E M_X5_isGuest [.inr (.inr 100), .inl k] (km_A0 q c s) m (km_is (some (.inl (if 0 ≤ k ∧ k < 10 ∧ km_and (km_shr (m 100 1) k) 1 ≠ 0 then 1 else 0))) (km_A0 q c s) (m)) := by
  rw [km_E.of (by decide)]
  show km_G M_X5_isGuest 0 [some (.inr (.inr 100)), some (.inl k)] [] (km_A0 q c s) m _
  simp (config := { decide := true }) only [g_X5_isGuest, km_lay, km_unL, km_up_o, km_upx_i, km_upx_s, km_fl2_o, km_is, Option.some.injEq, Sum.inl.injEq, Sum.inr.injEq, Option.toList_some, Option.toList_none, List.cons_append, List.nil_append, ne_eq, true_and, and_true, and_self, not_true_eq_false, not_false_eq_true, true_implies, false_implies, reduceCtorEq]
  grind
theorem r_isGuest {q : Nat × Int × Int × Int × Int} {c s : Nat} {m : km_Mm} {k : Int} (Q : Option km_V → km_Al → km_Mm → Prop) : km_E M_X5_isGuest [.inr (.inr 100), .inl k] (km_A0 q c s) m Q ↔ Q (some (.inl (if 0 ≤ k ∧ k < 10 ∧ km_and (km_shr (m 100 1) k) 1 ≠ 0 then 1 else 0))) (km_A0 q c s) (m) := km_E.rule (sp_isGuest ) Q
theorem sp_addRoom {q : Nat × Int × Int × Int × Int} {c s : Nat} {m : km_Mm} {n : Int} (h0 : 0 ≤ m 85 0) (h1 : m 85 0 < 4) : km_E M_X3_addRoom [.inr (.inr 85), .inl n] (km_A0 q c s) m (km_is (some (.inl (m 85 0))) (km_A0 q c s) (km_up (km_up m 85 0 (m 85 0 + 1)) 86 (m 85 0) n)) := by
  rw [km_E.of (by decide)]
  show km_G M_X3_addRoom 0 [some (.inr (.inr 85)), some (.inl n)] [] (km_A0 q c s) m _
  simp (config := { decide := true }) (disch := first | decide | assumption | omega | (simp (config := { decide := true }) only [km_sr_sf, km_sr_of, km_up_of, km_up_o, km_upx_i, km_upx_s, km_fl2_o, ne_eq, not_true_eq_false, not_false_eq_true] <;> omega) | fail) only [g_X3_addRoom, h0, h1, Int.add_sub_cancel, true_or, or_true, false_or, or_false, false_and, and_false, if_true, if_false, ka_lo, ka_hi, ka_nn, km_sr_sf, km_sr_of, km_up_of, km_sr_us, km_sr_uo, km_sr_sr, km_sr_fl, km_sr_flo, km_up_up, km_up_lt, km_lay, km_unL, km_up_o, km_upx_i, km_upx_s, km_fl2_o, km_is, Option.some.injEq, Sum.inl.injEq, Sum.inr.injEq, Option.toList_some, Option.toList_none, List.cons_append, List.nil_append, ne_eq, true_and, and_true, and_self, not_true_eq_false, not_false_eq_true, true_implies, false_implies, reduceCtorEq]
  all_goals grind
theorem r_addRoom {q : Nat × Int × Int × Int × Int} {c s : Nat} {m : km_Mm} {n : Int} (h0 : 0 ≤ m 85 0) (h1 : m 85 0 < 4) (Q : Option km_V → km_Al → km_Mm → Prop) : km_E M_X3_addRoom [.inr (.inr 85), .inl n] (km_A0 q c s) m Q ↔ Q (some (.inl (m 85 0))) (km_A0 q c s) (km_up (km_up m 85 0 (m 85 0 + 1)) 86 (m 85 0) n) := km_E.rule (sp_addRoom h0 h1) Q
theorem sp_addTable {q : Nat × Int × Int × Int × Int} {c s : Nat} {m : km_Mm} {n : Int} (h0 : 0 ≤ m 85 2) (h1 : m 85 2 < 3) : km_E M_X3_addTable [.inr (.inr 85), .inl n] (km_A0 q c s) m (km_is (some (.inl (m 85 2))) (km_A0 q c s) (km_up (km_up m 85 2 (m 85 2 + 1)) 87 (m 85 2) n)) := by
  rw [km_E.of (by decide)]
  show km_G M_X3_addTable 0 [some (.inr (.inr 85)), some (.inl n)] [] (km_A0 q c s) m _
  simp (config := { decide := true }) (disch := first | decide | assumption | omega | (simp (config := { decide := true }) only [km_sr_sf, km_sr_of, km_up_of, km_up_o, km_upx_i, km_upx_s, km_fl2_o, ne_eq, not_true_eq_false, not_false_eq_true] <;> omega) | fail) only [g_X3_addTable, h0, h1, Int.add_sub_cancel, true_or, or_true, false_or, or_false, false_and, and_false, if_true, if_false, ka_lo, ka_hi, ka_nn, km_sr_sf, km_sr_of, km_up_of, km_sr_us, km_sr_uo, km_sr_sr, km_sr_fl, km_sr_flo, km_up_up, km_up_lt, km_lay, km_unL, km_up_o, km_upx_i, km_upx_s, km_fl2_o, km_is, Option.some.injEq, Sum.inl.injEq, Sum.inr.injEq, Option.toList_some, Option.toList_none, List.cons_append, List.nil_append, ne_eq, true_and, and_true, and_self, not_true_eq_false, not_false_eq_true, true_implies, false_implies, reduceCtorEq]
  all_goals grind
theorem r_addTable {q : Nat × Int × Int × Int × Int} {c s : Nat} {m : km_Mm} {n : Int} (h0 : 0 ≤ m 85 2) (h1 : m 85 2 < 3) (Q : Option km_V → km_Al → km_Mm → Prop) : km_E M_X3_addTable [.inr (.inr 85), .inl n] (km_A0 q c s) m Q ↔ Q (some (.inl (m 85 2))) (km_A0 q c s) (km_up (km_up m 85 2 (m 85 2 + 1)) 87 (m 85 2) n) := km_E.rule (sp_addTable h0 h1) Q
theorem sp_isFeud {q : Nat × Int × Int × Int × Int} {c s : Nat} {m : km_Mm} {a b : Int} (h0 : 0 ≤ a) (h1 : a < 10) : km_E M_X3_isFeud [.inr (.inr 85), .inl a, .inl b] (km_A0 q c s) m (km_is (some (.inl (if km_and (km_shr (m 88 a) b) 1 ≠ 0 then 1 else 0))) (km_A0 q c s) (m)) := by
  rw [km_E.of (by decide)]
  show km_G M_X3_isFeud 0 [some (.inr (.inr 85)), some (.inl a), some (.inl b)] [] (km_A0 q c s) m _
  simp (config := { decide := true }) only [g_X3_isFeud, h0, h1, km_lay, km_unL, km_up_o, km_upx_i, km_upx_s, km_fl2_o, km_is, Option.some.injEq, Sum.inl.injEq, Sum.inr.injEq, Option.toList_some, Option.toList_none, List.cons_append, List.nil_append, ne_eq, true_and, and_true, and_self, not_true_eq_false, not_false_eq_true, true_implies, false_implies, reduceCtorEq]
  grind
theorem r_isFeud {q : Nat × Int × Int × Int × Int} {c s : Nat} {m : km_Mm} {a b : Int} (h0 : 0 ≤ a) (h1 : a < 10) (Q : Option km_V → km_Al → km_Mm → Prop) : km_E M_X3_isFeud [.inr (.inr 85), .inl a, .inl b] (km_A0 q c s) m Q ↔ Q (some (.inl (if km_and (km_shr (m 88 a) b) 1 ≠ 0 then 1 else 0))) (km_A0 q c s) (m) := km_E.rule (sp_isFeud h0 h1) Q
theorem sp_turnFeud {q : Nat × Int × Int × Int × Int} {c s : Nat} {m : km_Mm} {a b : Int} (h0 : 0 ≤ a) (h1 : a < 10) (h2 : 0 ≤ b) (h3 : b < 10) (h4 : ¬ b = a) : km_E M_X3_turnFeud [.inr (.inr 85), .inl a, .inl b] (km_A0 q c s) m (km_is (none) (km_A0 q c s) (km_up (km_up m 88 a (km_xor (m 88 a) (km_shl 1 b))) 88 b (km_xor (m 88 b) (km_shl 1 a)))) := by
  rw [km_E.of (by decide)]
  show km_G M_X3_turnFeud 0 [some (.inr (.inr 85)), some (.inl a), some (.inl b)] [] (km_A0 q c s) m _
  simp (config := { decide := true }) (disch := first | decide | assumption | omega | (simp (config := { decide := true }) only [km_sr_sf, km_sr_of, km_up_of, km_up_o, km_upx_i, km_upx_s, km_fl2_o, ne_eq, not_true_eq_false, not_false_eq_true] <;> omega) | fail) only [g_X3_turnFeud, h0, h1, h2, h3, h4, Int.add_sub_cancel, true_or, or_true, false_or, or_false, false_and, and_false, if_true, if_false, ka_lo, ka_hi, ka_nn, km_sr_sf, km_sr_of, km_up_of, km_sr_us, km_sr_uo, km_sr_sr, km_sr_fl, km_sr_flo, km_up_up, km_up_lt, km_lay, km_unL, km_up_o, km_upx_i, km_upx_s, km_fl2_o, km_is, Option.some.injEq, Sum.inl.injEq, Sum.inr.injEq, Option.toList_some, Option.toList_none, List.cons_append, List.nil_append, ne_eq, true_and, and_true, and_self, not_true_eq_false, not_false_eq_true, true_implies, false_implies, reduceCtorEq]
  all_goals grind
theorem r_turnFeud {q : Nat × Int × Int × Int × Int} {c s : Nat} {m : km_Mm} {a b : Int} (h0 : 0 ≤ a) (h1 : a < 10) (h2 : 0 ≤ b) (h3 : b < 10) (h4 : ¬ b = a) (Q : Option km_V → km_Al → km_Mm → Prop) : km_E M_X3_turnFeud [.inr (.inr 85), .inl a, .inl b] (km_A0 q c s) m Q ↔ Q (none) (km_A0 q c s) (km_up (km_up m 88 a (km_xor (m 88 a) (km_shl 1 b))) 88 b (km_xor (m 88 b) (km_shl 1 a))) := km_E.rule (sp_turnFeud h0 h1 h2 h3 h4) Q
theorem sp_addFlight {q : Nat × Int × Int × Int × Int} {c s : Nat} {m : km_Mm} {a b d e p : Int} (h0 : 0 ≤ m 59 0) (h1 : m 59 0 < 14) : km_E M_X2_addFlight [.inr (.inr 59), .inl a, .inl b, .inl d, .inl e, .inl p] (km_A0 q c s) m (km_is (some (.inl (m 59 0))) (km_A0 q c s) (km_up (km_up (km_up (km_up (km_up (km_up m 59 0 (m 59 0 + 1)) 60 (m 59 0) a) 61 (m 59 0) b) 62 (m 59 0) d) 63 (m 59 0) e) 64 (m 59 0) p)) := by
  rw [km_E.of (by decide)]
  show km_G M_X2_addFlight 0 [some (.inr (.inr 59)), some (.inl a), some (.inl b), some (.inl d), some (.inl e), some (.inl p)] [] (km_A0 q c s) m _
  simp (config := { decide := true }) (disch := first | decide | assumption | omega | (simp (config := { decide := true }) only [km_sr_sf, km_sr_of, km_up_of, km_up_o, km_upx_i, km_upx_s, km_fl2_o, ne_eq, not_true_eq_false, not_false_eq_true] <;> omega) | fail) only [g_X2_addFlight, h0, h1, Int.add_sub_cancel, true_or, or_true, false_or, or_false, false_and, and_false, if_true, if_false, ka_lo, ka_hi, ka_nn, km_sr_sf, km_sr_of, km_up_of, km_sr_us, km_sr_uo, km_sr_sr, km_sr_fl, km_sr_flo, km_up_up, km_up_lt, km_lay, km_unL, km_up_o, km_upx_i, km_upx_s, km_fl2_o, km_is, Option.some.injEq, Sum.inl.injEq, Sum.inr.injEq, Option.toList_some, Option.toList_none, List.cons_append, List.nil_append, ne_eq, true_and, and_true, and_self, not_true_eq_false, not_false_eq_true, true_implies, false_implies, reduceCtorEq]
  all_goals grind
theorem r_addFlight {q : Nat × Int × Int × Int × Int} {c s : Nat} {m : km_Mm} {a b d e p : Int} (h0 : 0 ≤ m 59 0) (h1 : m 59 0 < 14) (Q : Option km_V → km_Al → km_Mm → Prop) : km_E M_X2_addFlight [.inr (.inr 59), .inl a, .inl b, .inl d, .inl e, .inl p] (km_A0 q c s) m Q ↔ Q (some (.inl (m 59 0))) (km_A0 q c s) (km_up (km_up (km_up (km_up (km_up (km_up m 59 0 (m 59 0 + 1)) 60 (m 59 0) a) 61 (m 59 0) b) 62 (m 59 0) d) 63 (m 59 0) e) 64 (m 59 0) p) := km_E.rule (sp_addFlight h0 h1) Q
theorem sp_cisLand {q : Nat × Int × Int × Int × Int} {c s : Nat} {m : km_Mm} {l : Int} : km_E M_X11_isLand [.inl l] (km_A0 q c s) m (km_is (some (.inl (if 0 ≤ l ∧ l < 6 then 1 else 0))) (km_A0 q c s) (m)) := by
  rw [km_E.of (by decide)]
  show km_G M_X11_isLand 0 [some (.inl l)] [] (km_A0 q c s) m _
  simp (config := { decide := true }) only [g_X11_isLand, km_lay, km_unL, km_up_o, km_upx_i, km_upx_s, km_fl2_o, km_is, Option.some.injEq, Sum.inl.injEq, Sum.inr.injEq, Option.toList_some, Option.toList_none, List.cons_append, List.nil_append, ne_eq, true_and, and_true, and_self, not_true_eq_false, not_false_eq_true, true_implies, false_implies, reduceCtorEq]
  grind
theorem r_cisLand {q : Nat × Int × Int × Int × Int} {c s : Nat} {m : km_Mm} {l : Int} (Q : Option km_V → km_Al → km_Mm → Prop) : km_E M_X11_isLand [.inl l] (km_A0 q c s) m Q ↔ Q (some (.inl (if 0 ≤ l ∧ l < 6 then 1 else 0))) (km_A0 q c s) (m) := km_E.rule (sp_cisLand ) Q
theorem sp_cisDay {q : Nat × Int × Int × Int × Int} {c s : Nat} {m : km_Mm} {l : Int} : km_E M_X11_isDay [.inl l] (km_A0 q c s) m (km_is (some (.inl (if 1 ≤ l ∧ l ≤ 30 then 1 else 0))) (km_A0 q c s) (m)) := by
  rw [km_E.of (by decide)]
  show km_G M_X11_isDay 0 [some (.inl l)] [] (km_A0 q c s) m _
  simp (config := { decide := true }) only [g_X11_isDay, km_lay, km_unL, km_up_o, km_upx_i, km_upx_s, km_fl2_o, km_is, Option.some.injEq, Sum.inl.injEq, Sum.inr.injEq, Option.toList_some, Option.toList_none, List.cons_append, List.nil_append, ne_eq, true_and, and_true, and_self, not_true_eq_false, not_false_eq_true, true_implies, false_implies, reduceCtorEq]
  grind
theorem r_cisDay {q : Nat × Int × Int × Int × Int} {c s : Nat} {m : km_Mm} {l : Int} (Q : Option km_V → km_Al → km_Mm → Prop) : km_E M_X11_isDay [.inl l] (km_A0 q c s) m Q ↔ Q (some (.inl (if 1 ≤ l ∧ l ≤ 30 then 1 else 0))) (km_A0 q c s) (m) := km_E.rule (sp_cisDay ) Q
theorem sp_setMiles {q : Nat × Int × Int × Int × Int} {c s : Nat} {m : km_Mm} {a b n : Int} (h0 : 0 ≤ a) (h1 : a < 6) (h2 : 0 ≤ b) (h3 : b < 6) (Q : Option km_V → km_Al → km_Mm → Prop) : km_E M_X6_setMiles [.inr (.inr 19), .inl a, .inl b, .inl n] (km_A0 q c s) m Q ↔ Q none (km_A0 q c s) (km_up (km_up m (30 + a) b n) (30 + b) a n) := by
  rw [km_E.of (by decide)]
  show km_G M_X6_setMiles 0 [some (.inr (.inr 19)), some (.inl a), some (.inl b), some (.inl n)] [] (km_A0 q c s) m _ ↔ _
  have r := km_row29 q c s
  have ra := @km_rowc29 q c s a h0 h1
  have rb := @km_rowc29 q c s b h2 h3
  have e : ∀ x : Int, 29 + 1 + x = 30 + x := fun x => by omega
  rw [e] at ra rb
  have na : 0 ≤ 30 + a := by omega
  have nb : 0 ≤ 30 + b := by omega
  have da : 30 + a < 185 := by omega
  have db : 30 + b < 185 := by omega
  simp (config := { decide := true }) (disch := first | decide | assumption | omega | (simp (config := { decide := true }) only [km_sr_sf, km_sr_of, km_up_of, km_up_o, km_upx_i, km_upx_s, km_fl2_o, ne_eq, not_true_eq_false, not_false_eq_true] <;> omega) | fail) only [g_X6_setMiles, r, e, ra.1, ra.2, rb.1, rb.2, h0, h1, h2, h3, na, nb, da, db, Int.add_sub_cancel, true_or, or_true, false_or, or_false, false_and, and_false, if_true, if_false, ka_lo, ka_hi, ka_nn, km_sr_sf, km_sr_of, km_up_of, km_sr_us, km_sr_uo, km_sr_sr, km_sr_fl, km_sr_flo, km_up_up, km_up_lt, km_lay, km_unL, km_up_o, km_upx_i, km_upx_s, km_fl2_o, km_is, Option.some.injEq, Sum.inl.injEq, Sum.inr.injEq, Option.toList_some, Option.toList_none, List.cons_append, List.nil_append, ne_eq, true_and, and_true, and_self, not_true_eq_false, not_false_eq_true, true_implies, false_implies, reduceCtorEq]
theorem sp_addOption {q : Nat × Int × Int × Int × Int} {c s : Nat} {m : km_Mm} {l d : Int} (h0 : 0 ≤ m 19 1) (h1 : m 19 1 < 6) (Q : Option km_V → km_Al → km_Mm → Prop) : km_E M_X6_addOption [.inr (.inr 19), .inl l, .inl d] (km_A0 q c s) m Q ↔ Q (some (.inl (m 19 1))) (km_A0 q c s) (km_fl2 (km_up (km_up (km_up m 19 1 (m 19 1 + 1)) 20 (m 19 1) l) 21 (m 19 1) d) (23 + m 19 1) 0 10 100) := by
  rw [km_E.of (by decide)]
  show km_G M_X6_addOption 0 [some (.inr (.inr 19)), some (.inl l), some (.inl d)] [] (km_A0 q c s) m _ ↔ _
  have r := km_row22 q c s
  have ra := @km_rowc22 q c s (m 19 1) h0 h1
  have e : ∀ x : Int, 22 + 1 + x = 23 + x := fun x => by omega
  rw [e] at ra
  have na : 0 ≤ 23 + m 19 1 := by omega
  have da : 23 + m 19 1 < 185 := by omega
  have f := fun m' Q => @r_fill q c s m' (23 + m 19 1) 100 10 na (by simp (config := { decide := true }) only [km_lay, km_unL, km_up_o, km_upx_i, km_upx_s, km_fl2_o, km_is, Option.some.injEq, Sum.inl.injEq, Sum.inr.injEq, Option.toList_some, Option.toList_none, List.cons_append, List.nil_append, ne_eq, true_and, and_true, and_self, not_true_eq_false, not_false_eq_true, true_implies, false_implies, reduceCtorEq]; omega) ra.1 ra.2 (by decide) Q
  have sw : ∀ m', km_up (km_fl2 m' (23 + m 19 1) 0 10 100) 19 1 (m 19 1 + 1) = km_fl2 (km_up m' 19 1 (m 19 1 + 1)) (23 + m 19 1) 0 10 100 := fun m' => by
    funext b j; unfold km_up km_fl2; grind
  have e1 : ∀ m' : km_Mm, km_fl2 m' (23 + m 19 1) 0 10 100 19 1 = m' 19 1 := fun m' => km_fl2_o (by omega)
  simp (config := { decide := true }) (disch := first | decide | assumption | omega | (simp (config := { decide := true }) only [km_sr_sf, km_sr_of, km_up_of, km_up_o, km_upx_i, km_upx_s, km_fl2_o, ne_eq, not_true_eq_false, not_false_eq_true] <;> omega) | fail) only [g_X6_addOption, r, e, ra.1, ra.2, h0, h1, na, da, f, sw, e1, Int.add_sub_cancel, true_or, or_true, false_or, or_false, false_and, and_false, if_true, if_false, ka_lo, ka_hi, ka_nn, km_sr_sf, km_sr_of, km_up_of, km_sr_us, km_sr_uo, km_sr_sr, km_sr_fl, km_sr_flo, km_up_up, km_up_lt, km_lay, km_unL, km_up_o, km_upx_i, km_upx_s, km_fl2_o, km_is, Option.some.injEq, Sum.inl.injEq, Sum.inr.injEq, Option.toList_some, Option.toList_none, List.cons_append, List.nil_append, ne_eq, true_and, and_true, and_self, not_true_eq_false, not_false_eq_true, true_implies, false_implies, reduceCtorEq]
theorem sp_regretOf {q : Nat × Int × Int × Int × Int} {c s : Nat} {m : km_Mm} {o k : Int} (h0 : 0 ≤ o) (h1 : o < 6) (Q : Option km_V → km_Al → km_Mm → Prop) : km_E M_X6_regretOf [.inr (.inr 19), .inl o, .inl k] (km_A0 q c s) m Q ↔ Q (some (.inl (if 0 ≤ k ∧ k < 10 ∧ km_and (km_shr (m 5 12) k) 1 ≠ 0 then m (23 + o) k else 100))) (km_A0 q c s) m := by
  rw [km_E.of (by decide)]
  show km_G M_X6_regretOf 0 [some (.inr (.inr 19)), some (.inl o), some (.inl k)] [] (km_A0 q c s) m _ ↔ _
  have r := km_row22 q c s
  have ra := @km_rowc22 q c s o h0 h1
  have e : ∀ x : Int, 22 + 1 + x = 23 + x := fun x => by omega
  rw [e] at ra
  have na : 0 ≤ 23 + o := by omega
  have da : 23 + o < 185 := by omega
  by_cases z : 0 ≤ k ∧ k < 10 ∧ km_and (km_shr (m 5 12) k) 1 ≠ 0
  · simp (config := { decide := true }) (disch := first | decide | assumption | omega | (simp (config := { decide := true }) only [km_sr_sf, km_sr_of, km_up_of, km_up_o, km_upx_i, km_upx_s, km_fl2_o, ne_eq, not_true_eq_false, not_false_eq_true] <;> omega) | fail) only [g_X6_regretOf, r_isAlive, r, e, ra.1, ra.2, h0, h1, na, da, z, Int.add_sub_cancel, true_or, or_true, false_or, or_false, false_and, and_false, if_true, if_false, ka_lo, ka_hi, ka_nn, km_sr_sf, km_sr_of, km_up_of, km_sr_us, km_sr_uo, km_sr_sr, km_sr_fl, km_sr_flo, km_up_up, km_up_lt, km_lay, km_unL, km_up_o, km_upx_i, km_upx_s, km_fl2_o, km_is, Option.some.injEq, Sum.inl.injEq, Sum.inr.injEq, Option.toList_some, Option.toList_none, List.cons_append, List.nil_append, ne_eq, true_and, and_true, and_self, not_true_eq_false, not_false_eq_true, true_implies, false_implies, reduceCtorEq]
  · rw [if_neg z]
    have z2 := z
    simp only [ne_eq] at z2
    simp (config := { decide := true }) (disch := first | decide | assumption | omega | (simp (config := { decide := true }) only [km_sr_sf, km_sr_of, km_up_of, km_up_o, km_upx_i, km_upx_s, km_fl2_o, ne_eq, not_true_eq_false, not_false_eq_true] <;> omega) | fail) only [g_X6_regretOf, r_isAlive, z2, Int.add_sub_cancel, true_or, or_true, false_or, or_false, false_and, and_false, if_true, if_false, ka_lo, ka_hi, ka_nn, km_sr_sf, km_sr_of, km_up_of, km_sr_us, km_sr_uo, km_sr_sr, km_sr_fl, km_sr_flo, km_up_up, km_up_lt, km_lay, km_unL, km_up_o, km_upx_i, km_upx_s, km_fl2_o, km_is, Option.some.injEq, Sum.inl.injEq, Sum.inr.injEq, Option.toList_some, Option.toList_none, List.cons_append, List.nil_append, ne_eq, true_and, and_true, and_self, not_true_eq_false, not_false_eq_true, true_implies, false_implies, reduceCtorEq]

