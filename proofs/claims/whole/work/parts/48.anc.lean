/-! ===== Ancestry ===== -/
theorem sp_tells {q : Nat × Int × Int × Int × Int} {c s : Nat} {m : km_Mm} {i c0 : Int} (h0 : 0 ≤ i) (h1 : i < 100) : km_E M_X0_tells [.inr (.inr 5), .inl i, .inl c0] (km_A0 q c s) m (km_is (some (.inl (if m 16 i ≠ 0 ∧ m 12 i = 0 ∧ m 15 i = c0 then 1 else 0))) (km_A0 q c s) (m)) := by
  rw [km_E.of (by decide)]
  show km_G M_X0_tells 0 [some (.inr (.inr 5)), some (.inl i), some (.inl c0)] [] (km_A0 q c s) m _
  simp (config := { decide := true }) only [g_X0_tells, h0, h1, km_lay, km_unL, km_up_o, km_upx_i, km_upx_s, km_fl2_o, km_is, Option.some.injEq, Sum.inl.injEq, Sum.inr.injEq, Option.toList_some, Option.toList_none, List.cons_append, List.nil_append, ne_eq, true_and, and_true, and_self, not_true_eq_false, not_false_eq_true, true_implies, false_implies, reduceCtorEq]
  grind
theorem r_tells {q : Nat × Int × Int × Int × Int} {c s : Nat} {m : km_Mm} {i c0 : Int} (h0 : 0 ≤ i) (h1 : i < 100) (Q : Option km_V → km_Al → km_Mm → Prop) : km_E M_X0_tells [.inr (.inr 5), .inl i, .inl c0] (km_A0 q c s) m Q ↔ Q (some (.inl (if m 16 i ≠ 0 ∧ m 12 i = 0 ∧ m 15 i = c0 then 1 else 0))) (km_A0 q c s) (m) := km_E.rule (sp_tells h0 h1) Q
/-- parents for sure, n notes from the i-th on -/
def kn_sure (m : km_Mm) : Nat → Int → (Int → Int) → (Int → Int)
  | 0, _, f => f
  | n + 1, i, f => kn_sure m n (i + 1) (if (m 16 i ≠ 0 ∧ m 12 i = 0 ∧ m 15 i = 0) ∧ km_pop (f (m 13 i)) < 2 then km_u1 f (m 13 i) (km_or (f (m 13 i)) (km_shl 1 (m 14 i))) else f)
def kn_has (A B : Int → Int) (a b : Int) : Nat → Int → Bool
  | 0, _ => false
  | n + 1, i => (decide (A i = a) && decide (B i = b)) || kn_has A B a b n (i + 1)
def kn_may (m : km_Mm) : Nat → Int → (Int → Int) × (Int → Int) × Int → (Int → Int) × (Int → Int) × Int
  | 0, _, s => s
  | n + 1, i, s => kn_may m n (i + 1) (if (m 16 i ≠ 0 ∧ m 12 i = 0 ∧ m 15 i = 1) ∧ ¬ (6 ≤ s.2.2) ∧ km_and (km_shr (m 53 (m 13 i)) (m 14 i)) 1 = 0 ∧ kn_has s.1 s.2.1 (m 13 i) (m 14 i) s.2.2.toNat 0 = false then (km_u1 s.1 s.2.2 (m 13 i), km_u1 s.2.1 s.2.2 (m 14 i), s.2.2 + 1) else s)
theorem lp_addMaybe_25 {q : Nat × Int × Int × Int × Int} {c s : Nat} {a b : Int} {m : km_Mm} (hm : 0 ≤ m 52 3 ∧ m 52 3 < 6) {Q : Option km_V → km_Al → km_Mm → Prop} : ∀ (n : Nat) (i : Int), 0 ≤ i → i + n = m 52 3 → (km_G M_X0_addMaybe 25 [some (.inr (.inr 52)), some (.inl a), some (.inl b), some (.inl i)] [] (km_A0 q c s) (m) Q ↔ Q none (km_A0 q c s) (if kn_has (m 54) (m 55) a b n i = false then km_up (km_up (km_up m 52 3 (m 52 3 + 1)) 54 (m 52 3) a) 55 (m 52 3) b else m)) := by
  intro n
  induction n with
  | zero =>
    intro i h0 h1
    have e : m 52 3 ≤ i := by omega
    rw [g_X0_addMaybe_25]
    simp (config := { decide := true }) (disch := first | decide | assumption | omega | (simp (config := { decide := true }) only [km_sr_sf, km_sr_of, km_up_of, km_up_o, km_upx_i, km_upx_s, km_fl2_o, ne_eq, not_true_eq_false, not_false_eq_true] <;> omega) | fail) only [g_X0_addMaybe, e, kn_has, if_true, h0, ka_lo, ka_hi, ka_nn, km_sr_sf, km_sr_of, km_up_of, km_sr_us, km_sr_uo, km_sr_sr, km_sr_fl, km_sr_flo, km_up_up, km_up_lt, km_lay, km_unL, km_up_o, km_upx_i, km_upx_s, km_fl2_o, km_is, Option.some.injEq, Sum.inl.injEq, Sum.inr.injEq, Option.toList_some, Option.toList_none, List.cons_append, List.nil_append, ne_eq, true_and, and_true, and_self, not_true_eq_false, not_false_eq_true, true_implies, false_implies, reduceCtorEq]
    all_goals grind
  | succ n ih =>
    intro i h0 h1
    have e : ¬ m 52 3 ≤ i := by omega
    have e2 : i < 6 := by omega
    rw [g_X0_addMaybe_25]
    simp (config := { decide := true }) (disch := first | decide | assumption | omega | (simp (config := { decide := true }) only [km_sr_sf, km_sr_of, km_up_of, km_up_o, km_upx_i, km_upx_s, km_fl2_o, ne_eq, not_true_eq_false, not_false_eq_true] <;> omega) | fail) only [g_X0_addMaybe, ih, kn_has, Bool.or_eq_false_iff, Bool.and_eq_false_iff, decide_eq_false_iff_not, e, e2, h0, ka_lo, ka_hi, ka_nn, km_sr_sf, km_sr_of, km_up_of, km_sr_us, km_sr_uo, km_sr_sr, km_sr_fl, km_sr_flo, km_up_up, km_up_lt, km_lay, km_unL, km_up_o, km_upx_i, km_upx_s, km_fl2_o, km_is, Option.some.injEq, Sum.inl.injEq, Sum.inr.injEq, Option.toList_some, Option.toList_none, List.cons_append, List.nil_append, ne_eq, true_and, and_true, and_self, not_true_eq_false, not_false_eq_true, true_implies, false_implies, reduceCtorEq]
    by_cases cc0 : m 54 i = a <;> by_cases cc1 : m 55 i = b <;> simp (config := { decide := true }) (disch := first | decide | assumption | omega | (simp (config := { decide := true }) only [km_sr_sf, km_sr_of, km_up_of, km_up_o, km_upx_i, km_upx_s, km_fl2_o, ne_eq, not_true_eq_false, not_false_eq_true] <;> omega) | fail) only [cc0, cc1, ih, kn_has, Bool.or_eq_false_iff, Bool.and_eq_false_iff, decide_eq_false_iff_not, e, e2, if_true, if_false, h0, ka_lo, ka_hi, ka_nn, km_sr_sf, km_sr_of, km_up_of, km_sr_us, km_sr_uo, km_sr_sr, km_sr_fl, km_sr_flo, km_up_up, km_up_lt, km_lay, km_unL, km_up_o, km_upx_i, km_upx_s, km_fl2_o, km_is, Option.some.injEq, Sum.inl.injEq, Sum.inr.injEq, Option.toList_some, Option.toList_none, List.cons_append, List.nil_append, ne_eq, true_and, and_true, and_self, not_true_eq_false, not_false_eq_true, true_implies, false_implies, reduceCtorEq] <;> grind
theorem sp_addMaybe {q : Nat × Int × Int × Int × Int} {c s : Nat} {a b : Int} {m : km_Mm} (hm : 0 ≤ m 52 3) (ha : 0 ≤ a ∧ a < 10) : km_E M_X0_addMaybe [.inr (.inr 52), .inl a, .inl b] (km_A0 q c s) m (km_is none (km_A0 q c s) (if ¬ (6 ≤ m 52 3) ∧ km_and (km_shr (m 53 a) b) 1 = 0 ∧ kn_has (m 54) (m 55) a b (m 52 3).toNat 0 = false then km_up (km_up (km_up m 52 3 (m 52 3 + 1)) 54 (m 52 3) a) 55 (m 52 3) b else m)) := by
  rw [km_E.of (by decide)]
  show km_G M_X0_addMaybe 0 [some (.inr (.inr 52)), some (.inl a), some (.inl b), none] [] (km_A0 q c s) m _
  have h := fun (z : m 52 3 < 6) Q => @lp_addMaybe_25 q c s a b m ⟨hm, z⟩ Q (m 52 3).toNat 0 (by omega) (by omega)
  by_cases z : m 52 3 < 6
  · have z2 : ¬ 6 ≤ m 52 3 := by omega
    have h := h z
    simp (config := { decide := true }) only [g_X0_addMaybe, h, z2, ha.1, ha.2, km_lay, km_unL, km_up_o, km_upx_i, km_upx_s, km_fl2_o, km_is, Option.some.injEq, Sum.inl.injEq, Sum.inr.injEq, Option.toList_some, Option.toList_none, List.cons_append, List.nil_append, ne_eq, true_and, and_true, and_self, not_true_eq_false, not_false_eq_true, true_implies, false_implies, reduceCtorEq]
    by_cases z3 : km_and (km_shr (m 53 a) b) 1 = 0 <;> by_cases z4 : kn_has (m 54) (m 55) a b (m 52 3).toNat 0 = false <;> simp (config := { decide := true }) only [z3, z4, if_true, if_false, km_lay, km_unL, km_up_o, km_upx_i, km_upx_s, km_fl2_o, km_is, Option.some.injEq, Sum.inl.injEq, Sum.inr.injEq, Option.toList_some, Option.toList_none, List.cons_append, List.nil_append, ne_eq, true_and, and_true, and_self, not_true_eq_false, not_false_eq_true, true_implies, false_implies, reduceCtorEq]
  · have z2 : 6 ≤ m 52 3 := by omega
    simp (config := { decide := true }) only [g_X0_addMaybe, z2, if_false, false_and, km_lay, km_unL, km_up_o, km_upx_i, km_upx_s, km_fl2_o, km_is, Option.some.injEq, Sum.inl.injEq, Sum.inr.injEq, Option.toList_some, Option.toList_none, List.cons_append, List.nil_append, ne_eq, true_and, and_true, and_self, not_true_eq_false, not_false_eq_true, true_implies, false_implies, reduceCtorEq]
theorem r_addMaybe {q : Nat × Int × Int × Int × Int} {c s : Nat} {a b : Int} {m : km_Mm} (hm : 0 ≤ m 52 3) (ha0 : 0 ≤ a) (ha1 : a < 10) (Q : Option km_V → km_Al → km_Mm → Prop) : km_E M_X0_addMaybe [.inr (.inr 52), .inl a, .inl b] (km_A0 q c s) m Q ↔ Q none (km_A0 q c s) (if ¬ (6 ≤ m 52 3) ∧ km_and (km_shr (m 53 a) b) 1 = 0 ∧ kn_has (m 54) (m 55) a b (m 52 3).toNat 0 = false then km_up (km_up (km_up m 52 3 (m 52 3 + 1)) 54 (m 52 3) a) 55 (m 52 3) b else m) := km_E.rule (sp_addMaybe hm ⟨ha0, ha1⟩) Q
theorem lp_aread_80 {q : Nat × Int × Int × Int × Int} {c s : Nat} {m : km_Mm} (hk : m 5 8 ≤ 100) (hn : km_nt m) {Q : Option km_V → km_Al → km_Mm → Prop} : ∀ (n : Nat) (i : Int) (f g : Int → Int) (k : Int), 0 ≤ i → i + n = m 5 8 → 0 ≤ k → (km_G M_X0_read 80 [some (.inr (.inr 52)), some (.inr (.inr 5)), some (.inl i)] [] (km_A0 q c s) (km_sr (km_sr (km_up m 52 3 k) 54 f) 55 g) Q ↔ Q none (km_A0 q c s) (km_sr (km_sr (km_up m 52 3 (kn_may m n i (f, g, k)).2.2) 54 (kn_may m n i (f, g, k)).1) 55 (kn_may m n i (f, g, k)).2.1)) := by
  intro n
  induction n with
  | zero =>
    intro i f g k h0 h1 h2
    have e : m 5 8 ≤ i := by omega
    rw [g_X0_read_80]
    simp (config := { decide := true }) (disch := first | decide | assumption | omega | (simp (config := { decide := true }) only [km_sr_sf, km_sr_of, km_up_of, km_up_o, km_upx_i, km_upx_s, km_fl2_o, ne_eq, not_true_eq_false, not_false_eq_true] <;> omega) | fail) only [g_X0_read, e, kn_may, h0, h2, ka_lo, ka_hi, ka_nn, km_sr_sf, km_sr_of, km_up_of, km_sr_us, km_sr_uo, km_sr_sr, km_sr_fl, km_sr_flo, km_up_up, km_up_lt, km_lay, km_unL, km_up_o, km_upx_i, km_upx_s, km_fl2_o, km_is, Option.some.injEq, Sum.inl.injEq, Sum.inr.injEq, Option.toList_some, Option.toList_none, List.cons_append, List.nil_append, ne_eq, true_and, and_true, and_self, not_true_eq_false, not_false_eq_true, true_implies, false_implies, reduceCtorEq]
    all_goals grind
  | succ n ih =>
    intro i f g k h0 h1 h2
    have e : ¬ m 5 8 ≤ i := by omega
    have e2 : i < 100 := by omega
    have e4 : 0 ≤ m 13 i := (hn i h0 e2).1.1
    have e5 : m 12 i = 0 → m 13 i < 10 := fun z => (hn i h0 e2).2.1 (by omega)
    by_cases z : m 16 i ≠ 0 ∧ m 12 i = 0 ∧ m 15 i = 1
    · have e6 := e5 z.2.1
      rw [g_X0_read_80]
      simp (config := { decide := true }) (disch := first | decide | assumption | omega | (simp (config := { decide := true }) only [km_sr_sf, km_sr_of, km_up_of, km_up_o, km_upx_i, km_upx_s, km_fl2_o, ne_eq, not_true_eq_false, not_false_eq_true] <;> omega) | fail) only [g_X0_read, ih, kn_may, r_tells, r_addMaybe, e, e2, z, if_true, ka_lo, ka_hi, ka_nn, km_sr_sf, km_sr_of, km_up_of, km_sr_us, km_sr_uo, km_sr_sr, km_sr_fl, km_sr_flo, km_up_up, km_up_lt, km_lay, km_unL, km_up_o, km_upx_i, km_upx_s, km_fl2_o, km_is, Option.some.injEq, Sum.inl.injEq, Sum.inr.injEq, Option.toList_some, Option.toList_none, List.cons_append, List.nil_append, ne_eq, true_and, and_true, and_self, not_true_eq_false, not_false_eq_true, true_implies, false_implies, reduceCtorEq]
      by_cases z1 : ¬ (6 ≤ k) ∧ km_and (km_shr (m 53 (m 13 i)) (m 14 i)) 1 = 0 ∧ kn_has f g (m 13 i) (m 14 i) k.toNat 0 = false
      · rw [if_pos z1]
        simp (config := { decide := true }) (disch := first | decide | assumption | omega | (simp (config := { decide := true }) only [km_sr_sf, km_sr_of, km_up_of, km_up_o, km_upx_i, km_upx_s, km_fl2_o, ne_eq, not_true_eq_false, not_false_eq_true] <;> omega) | fail) only [ih, z1, kn_may, e, h0, e4, if_true, ka_lo, ka_hi, ka_nn, km_sr_sf, km_sr_of, km_up_of, km_sr_us, km_sr_uo, km_sr_sr, km_sr_fl, km_sr_flo, km_up_up, km_up_lt, km_lay, km_unL, km_up_o, km_upx_i, km_upx_s, km_fl2_o, km_is, Option.some.injEq, Sum.inl.injEq, Sum.inr.injEq, Option.toList_some, Option.toList_none, List.cons_append, List.nil_append, ne_eq, true_and, and_true, and_self, not_true_eq_false, not_false_eq_true, true_implies, false_implies, reduceCtorEq]
      · rw [if_neg z1]
        simp (config := { decide := true }) (disch := first | decide | assumption | omega | (simp (config := { decide := true }) only [km_sr_sf, km_sr_of, km_up_of, km_up_o, km_upx_i, km_upx_s, km_fl2_o, ne_eq, not_true_eq_false, not_false_eq_true] <;> omega) | fail) only [ih, z1, kn_may, e, h0, e4, if_false, ka_lo, ka_hi, ka_nn, km_sr_sf, km_sr_of, km_up_of, km_sr_us, km_sr_uo, km_sr_sr, km_sr_fl, km_sr_flo, km_up_up, km_up_lt, km_lay, km_unL, km_up_o, km_upx_i, km_upx_s, km_fl2_o, km_is, Option.some.injEq, Sum.inl.injEq, Sum.inr.injEq, Option.toList_some, Option.toList_none, List.cons_append, List.nil_append, ne_eq, true_and, and_true, and_self, not_true_eq_false, not_false_eq_true, true_implies, false_implies, reduceCtorEq]
      done
    have e7 : (if m 16 i ≠ 0 ∧ m 12 i = 0 ∧ m 15 i = 1 then (1 : Int) else 0) = 0 := if_neg z
    rw [g_X0_read_80]
    simp (config := { decide := true }) (disch := first | decide | assumption | omega | (simp (config := { decide := true }) only [km_sr_sf, km_sr_of, km_up_of, km_up_o, km_upx_i, km_upx_s, km_fl2_o, ne_eq, not_true_eq_false, not_false_eq_true] <;> omega) | fail) only [g_X0_read, ih, kn_may, r_tells, r_addMaybe, e, e2, e7, z, if_false, false_and, h0, h2, ka_lo, ka_hi, ka_nn, km_sr_sf, km_sr_of, km_up_of, km_sr_us, km_sr_uo, km_sr_sr, km_sr_fl, km_sr_flo, km_up_up, km_up_lt, km_lay, km_unL, km_up_o, km_upx_i, km_upx_s, km_fl2_o, km_is, Option.some.injEq, Sum.inl.injEq, Sum.inr.injEq, Option.toList_some, Option.toList_none, List.cons_append, List.nil_append, ne_eq, true_and, and_true, and_self, not_true_eq_false, not_false_eq_true, true_implies, false_implies, reduceCtorEq]
    all_goals grind
theorem lp_aread_15 {q : Nat × Int × Int × Int × Int} {c s : Nat} {m : km_Mm} (hk : m 5 8 ≤ 100) (hn : km_nt m) {Q : Option km_V → km_Al → km_Mm → Prop} : ∀ (n : Nat) (i : Int) (f : Int → Int), 0 ≤ i → i + n = m 5 8 → (∀ a : Int, 0 ≤ a → a < 10 → ten (f a)) → (km_G M_X0_read 15 [some (.inr (.inr 52)), some (.inr (.inr 5)), some (.inl i)] [] (km_A0 q c s) (km_sr m 53 f) Q ↔ km_G M_X0_read 80 [some (.inr (.inr 52)), some (.inr (.inr 5)), some (.inl 0)] [] (km_A0 q c s) (km_sr m 53 (kn_sure m n i f)) Q) := by
  intro n
  induction n with
  | zero =>
    intro i f h0 h1 h2
    have e : m 5 8 ≤ i := by omega
    rw [g_X0_read_15]
    simp (config := { decide := true }) (disch := first | decide | assumption | omega | (simp (config := { decide := true }) only [km_sr_sf, km_sr_of, km_up_of, km_up_o, km_upx_i, km_upx_s, km_fl2_o, ne_eq, not_true_eq_false, not_false_eq_true] <;> omega) | fail) only [g_X0_read, e, kn_sure, h0, ka_lo, ka_hi, ka_nn, km_sr_sf, km_sr_of, km_up_of, km_sr_us, km_sr_uo, km_sr_sr, km_sr_fl, km_sr_flo, km_up_up, km_up_lt, km_lay, km_unL, km_up_o, km_upx_i, km_upx_s, km_fl2_o, km_is, Option.some.injEq, Sum.inl.injEq, Sum.inr.injEq, Option.toList_some, Option.toList_none, List.cons_append, List.nil_append, ne_eq, true_and, and_true, and_self, not_true_eq_false, not_false_eq_true, true_implies, false_implies, reduceCtorEq]
    all_goals grind
  | succ n ih =>
    intro i f h0 h1 h2
    have e : ¬ m 5 8 ≤ i := by omega
    have e2 : i < 100 := by omega
    have e4 : 0 ≤ m 13 i := (hn i h0 e2).1.1
    have e5 : m 12 i = 0 → m 13 i < 10 := fun z => (hn i h0 e2).2.1 (by omega)
    by_cases z : m 16 i ≠ 0 ∧ m 12 i = 0 ∧ m 15 i = 0
    · have e6 := e5 z.2.1
      have e8 := h2 _ e4 e6
      have e9 := (hn i h0 e2).2.2.1 (by omega)
      rw [g_X0_read_15]
      simp (config := { decide := true }) (disch := first | decide | assumption | omega | (simp (config := { decide := true }) only [km_sr_sf, km_sr_of, km_up_of, km_up_o, km_upx_i, km_upx_s, km_fl2_o, ne_eq, not_true_eq_false, not_false_eq_true] <;> omega) | fail) only [g_X0_read, kn_sure, r_tells, sp_bitCount e8.1 e8.2, e, e2, z, if_true, ka_lo, ka_hi, ka_nn, km_sr_sf, km_sr_of, km_up_of, km_sr_us, km_sr_uo, km_sr_sr, km_sr_fl, km_sr_flo, km_up_up, km_up_lt, km_lay, km_unL, km_up_o, km_upx_i, km_upx_s, km_fl2_o, km_is, Option.some.injEq, Sum.inl.injEq, Sum.inr.injEq, Option.toList_some, Option.toList_none, List.cons_append, List.nil_append, ne_eq, true_and, and_true, and_self, not_true_eq_false, not_false_eq_true, true_implies, false_implies, reduceCtorEq]
      by_cases z1 : km_pop (f (m 13 i)) < 2
      · have z2 : ¬ 2 ≤ km_pop (f (m 13 i)) := by omega
        have i1 := ih (i + 1) (km_u1 f (m 13 i) (km_or (f (m 13 i)) (km_shl 1 (m 14 i)))) (by omega) (by omega) (by intro a a0 a1; unfold km_u1; split; exact ten_or e8 (ten_one e9.1 e9.2); exact h2 a a0 a1)
        simp (config := { decide := true }) (disch := first | decide | assumption | omega | (simp (config := { decide := true }) only [km_sr_sf, km_sr_of, km_up_of, km_up_o, km_upx_i, km_upx_s, km_fl2_o, ne_eq, not_true_eq_false, not_false_eq_true] <;> omega) | fail) only [i1, z1, z2, kn_sure, e, e6, h0, e4, if_true, ka_lo, ka_hi, ka_nn, km_sr_sf, km_sr_of, km_up_of, km_sr_us, km_sr_uo, km_sr_sr, km_sr_fl, km_sr_flo, km_up_up, km_up_lt, km_lay, km_unL, km_up_o, km_upx_i, km_upx_s, km_fl2_o, km_is, Option.some.injEq, Sum.inl.injEq, Sum.inr.injEq, Option.toList_some, Option.toList_none, List.cons_append, List.nil_append, ne_eq, true_and, and_true, and_self, not_true_eq_false, not_false_eq_true, true_implies, false_implies, reduceCtorEq]
        all_goals (clear ih; grind)
      · have z2 : 2 ≤ km_pop (f (m 13 i)) := by omega
        simp (config := { decide := true }) (disch := first | decide | assumption | omega | (simp (config := { decide := true }) only [km_sr_sf, km_sr_of, km_up_of, km_up_o, km_upx_i, km_upx_s, km_fl2_o, ne_eq, not_true_eq_false, not_false_eq_true] <;> omega) | fail) only [ih, z1, z2, h2, kn_sure, e, h0, e4, if_false, ka_lo, ka_hi, ka_nn, km_sr_sf, km_sr_of, km_up_of, km_sr_us, km_sr_uo, km_sr_sr, km_sr_fl, km_sr_flo, km_up_up, km_up_lt, km_lay, km_unL, km_up_o, km_upx_i, km_upx_s, km_fl2_o, km_is, Option.some.injEq, Sum.inl.injEq, Sum.inr.injEq, Option.toList_some, Option.toList_none, List.cons_append, List.nil_append, ne_eq, true_and, and_true, and_self, not_true_eq_false, not_false_eq_true, true_implies, false_implies, reduceCtorEq]
        all_goals (clear ih; grind)
      done
    have e7 : (if m 16 i ≠ 0 ∧ m 12 i = 0 ∧ m 15 i = 0 then (1 : Int) else 0) = 0 := if_neg z
    rw [g_X0_read_15]
    simp (config := { decide := true }) (disch := first | decide | assumption | omega | (simp (config := { decide := true }) only [km_sr_sf, km_sr_of, km_up_of, km_up_o, km_upx_i, km_upx_s, km_fl2_o, ne_eq, not_true_eq_false, not_false_eq_true] <;> omega) | fail) only [g_X0_read, ih, kn_sure, r_tells, sp_bitCount, e, e2, e7, z, h2, if_false, false_and, h0, ka_lo, ka_hi, ka_nn, km_sr_sf, km_sr_of, km_up_of, km_sr_us, km_sr_uo, km_sr_sr, km_sr_fl, km_sr_flo, km_up_up, km_up_lt, km_lay, km_unL, km_up_o, km_upx_i, km_upx_s, km_fl2_o, km_is, Option.some.injEq, Sum.inl.injEq, Sum.inr.injEq, Option.toList_some, Option.toList_none, List.cons_append, List.nil_append, ne_eq, true_and, and_true, and_self, not_true_eq_false, not_false_eq_true, true_implies, false_implies, reduceCtorEq]
    all_goals grind

