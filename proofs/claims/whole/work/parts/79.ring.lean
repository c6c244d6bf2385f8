/-! ===== ring ===== -/
theorem kcnt_bits {x : Int} : ∀ (n : Nat), (((List.range n).filter (fun i => x.toNat.testBit i)).length : Int) = kcnt (fun k => tb x k = true) n := by
  intro n
  induction n with
  | zero => rfl
  | succ n ih =>
    rw [List.range_succ, List.filter_append, List.length_append, kcnt, ← ih]
    have e : tb x (n : Int) = x.toNat.testBit n := by unfold tb; simp
    by_cases z : x.toNat.testBit n = true
    · simp [List.filter, z, e]
    · simp [List.filter, z, e]
theorem km_pop_cnt {x : Int} : km_pop x = kcnt (fun k => tb x k = true) 10 := kcnt_bits 10
theorem lp_bits_4 {q : Nat × Int × Int × Int × Int} {c s : Nat} {x : Int} {m : km_Mm} (hx : ten x) {Q : Option km_V → km_Al → km_Mm → Prop} : ∀ (n : Nat) (i : Nat), (i : Int) + n = 10 → (km_G M_X12_bits 4 [some (.inl x), some (.inl (kcnt (fun k => tb x k = true) i)), some (.inl ((i : Int)))] [] (km_A0 q c s) (m) Q ↔ Q (some (.inl ((km_pop x)))) (km_A0 q c s) (m)) := by
  intro n
  induction n with
  | zero =>
    intro i h0
    have e2 : i = 10 := by omega
    subst e2
    have e3 : km_pop x = kcnt (fun k => tb x k = true) 10 := km_pop_cnt
    rw [g_X12_bits_4]
    simp (config := { decide := true }) (disch := first | decide | assumption | omega | (simp (config := { decide := true }) only [km_sr_sf, km_sr_of, km_up_of, km_up_o, km_upx_i, km_upx_s, km_fl2_o, ne_eq, not_true_eq_false, not_false_eq_true] <;> omega) | fail) only [g_X12_bits, e3, Int.add_sub_cancel, true_or, or_true, false_or, or_false, false_and, and_false, if_true, if_false, ka_lo, ka_hi, ka_nn, km_sr_sf, km_sr_of, km_up_of, km_sr_us, km_sr_uo, km_sr_sr, km_sr_fl, km_sr_flo, km_up_up, km_up_lt, km_lay, km_unL, km_up_o, km_upx_i, km_upx_s, km_fl2_o, km_is, Option.some.injEq, Sum.inl.injEq, Sum.inr.injEq, Option.toList_some, Option.toList_none, List.cons_append, List.nil_append, ne_eq, true_and, and_true, and_self, not_true_eq_false, not_false_eq_true, true_implies, false_implies, reduceCtorEq]
    all_goals grind
  | succ n ih =>
    intro i h0
    have e3 : ¬ (10 : Int) ≤ (i : Int) := by omega
    have e4 : ((i + 1 : Nat) : Int) = (i : Int) + 1 := by omega
    have u : kcnt (fun k => tb x k = true) (i + 1) = kcnt (fun k => tb x k = true) i + @ite Int (tb x i = true) (Classical.propDecidable _) 1 0 := by rw [kcnt]
    have bd := @kcnt_b (fun k => tb x k = true) i
    have hb := ks_bit (x := x) (k := i) hx.1 (by have := hx.2; omega) (by omega) (by omega)
    have i1 := ih (i + 1) (by omega)
    rw [e4, u] at i1
    rw [g_X12_bits_4]
    by_cases z : tb x i = true
    · rw [if_pos z] at i1 hb
      simp (config := { decide := true }) (disch := first | decide | assumption | omega | (simp (config := { decide := true }) only [km_sr_sf, km_sr_of, km_up_of, km_up_o, km_upx_i, km_upx_s, km_fl2_o, ne_eq, not_true_eq_false, not_false_eq_true] <;> omega) | fail) only [g_X12_bits, e3, hb, i1, Int.add_sub_cancel, true_or, or_true, false_or, or_false, false_and, and_false, if_true, if_false, ka_lo, ka_hi, ka_nn, km_sr_sf, km_sr_of, km_up_of, km_sr_us, km_sr_uo, km_sr_sr, km_sr_fl, km_sr_flo, km_up_up, km_up_lt, km_lay, km_unL, km_up_o, km_upx_i, km_upx_s, km_fl2_o, km_is, Option.some.injEq, Sum.inl.injEq, Sum.inr.injEq, Option.toList_some, Option.toList_none, List.cons_append, List.nil_append, ne_eq, true_and, and_true, and_self, not_true_eq_false, not_false_eq_true, true_implies, false_implies, reduceCtorEq]
    · rw [if_neg z] at i1 hb
      rw [Int.add_zero] at i1
      simp (config := { decide := true }) (disch := first | decide | assumption | omega | (simp (config := { decide := true }) only [km_sr_sf, km_sr_of, km_up_of, km_up_o, km_upx_i, km_upx_s, km_fl2_o, ne_eq, not_true_eq_false, not_false_eq_true] <;> omega) | fail) only [g_X12_bits, e3, hb, i1, Int.add_zero, Int.add_sub_cancel, true_or, or_true, false_or, or_false, false_and, and_false, if_true, if_false, ka_lo, ka_hi, ka_nn, km_sr_sf, km_sr_of, km_up_of, km_sr_us, km_sr_uo, km_sr_sr, km_sr_fl, km_sr_flo, km_up_up, km_up_lt, km_lay, km_unL, km_up_o, km_upx_i, km_upx_s, km_fl2_o, km_is, Option.some.injEq, Sum.inl.injEq, Sum.inr.injEq, Option.toList_some, Option.toList_none, List.cons_append, List.nil_append, ne_eq, true_and, and_true, and_self, not_true_eq_false, not_false_eq_true, true_implies, false_implies, reduceCtorEq]
theorem r_bits {q : Nat × Int × Int × Int × Int} {c s : Nat} {x : Int} {m : km_Mm} (hx : ten x) (Q : Option km_V → km_Al → km_Mm → Prop) : km_E M_X12_bits [.inl x] (km_A0 q c s) m Q ↔ Q (some (.inl (km_pop x))) (km_A0 q c s) m := by
  have h := @lp_bits_4 q c s x m hx Q 10 0 (by omega)
  have e : kcnt (fun k => tb x k = true) 0 = 0 := rfl
  rw [e] at h
  rw [es_X12_bits]
  simp (config := { decide := true }) only [g_X12_bits, Int.add_sub_cancel, true_or, or_true, false_or, or_false, false_and, and_false, if_true, if_false, km_sr_sf, km_sr_of, km_up_of, km_sr_us, km_sr_uo, km_sr_sr, km_sr_fl, km_sr_flo, km_up_up, km_up_lt, km_lay, km_unL, km_up_o, km_upx_i, km_upx_s, km_fl2_o, km_is, Option.some.injEq, Sum.inl.injEq, Sum.inr.injEq, Option.toList_some, Option.toList_none, List.cons_append, List.nil_append, ne_eq, true_and, and_true, and_self, not_true_eq_false, not_false_eq_true, true_implies, false_implies, reduceCtorEq]
  exact h
/-- the set beats all outside it -/
def kD (m : km_Mm) (x : Int) : Prop := ∀ a b : Int, 0 ≤ a → a < m 19 1 → 0 ≤ b → b < m 19 1 → tb x a = true → tb x b = false → kBt m a b
/-- the first of the least sets that beat all outside -/
def kRing (m : km_Mm) (r : Int) : Prop := (1 ≤ r ∧ r < km_shl 1 (m 19 1)) ∧ kD m r ∧ ∀ x : Int, 1 ≤ x → x < km_shl 1 (m 19 1) → kD m x → km_pop r < km_pop x ∨ (km_pop r = km_pop x ∧ r ≤ x)
theorem kRing_one {m : km_Mm} {r t : Int} (h : kRing m r) (k : kRing m t) : r = t := by
  have a := h.2.2 t k.1.1 k.1.2 k.2.1
  have b := k.2.2 r h.1.1 h.1.2 h.2.1
  omega
theorem kAll_tb {n : Nat} (h : n ≤ 6) {k : Int} (k0 : 0 ≤ k) : tb (km_shl 1 (n : Int) - 1) k = decide (k < n) := by
  have e : km_shl 1 (n : Int) - 1 = ((2 ^ n - 1 : Nat) : Int) := by
    rw [ks_one (by omega) (by omega)]
    have : 0 < 2 ^ n := Nat.two_pow_pos _
    simp only [Int.toNat_natCast]
    omega
  unfold tb
  rw [e, Int.toNat_natCast, Nat.testBit_two_pow_sub_one]
  by_cases z : k < n
  · simp [z]; omega
  · simp [z]; omega
theorem kAll_b {s0 : Int} (h : 0 ≤ s0 ∧ s0 ≤ 6) : 1 ≤ km_shl 1 s0 ∧ km_shl 1 s0 ≤ 64 := by
  rw [ks_one h.1 (by omega)]
  have h1 : 0 < 2 ^ s0.toNat := Nat.two_pow_pos _
  have h2 : 2 ^ s0.toNat ≤ 2 ^ 6 := Nat.pow_le_pow_right (by decide) (by omega)
  generalize 2 ^ s0.toNat = z at *
  omega
theorem kSub_tb {s0 x k : Int} (h : 0 ≤ s0 ∧ s0 ≤ 6) (x0 : 0 ≤ x) (x1 : x < km_shl 1 s0) (hk : s0 ≤ k) : tb x k = false := by
  unfold tb
  apply Nat.testBit_lt_two_pow
  rw [ks_one h.1 (by omega)] at x1
  have h2 : 2 ^ s0.toNat ≤ 2 ^ k.toNat := Nat.pow_le_pow_right (by decide) (by omega)
  omega
/-- fewer than all -/
theorem kPop_all : ∀ (n : Fin 7) (x : Fin 64), x.val < 2 ^ n.val → km_pop (x.val : Int) ≤ n.val ∧ (x.val < 2 ^ n.val - 1 → km_pop (x.val : Int) < n.val) ∧ km_pop ((2 ^ n.val - 1 : Nat) : Int) = n.val ∧ 0 ≤ km_pop (x.val : Int) ∧ (0 < x.val → 0 < km_pop (x.val : Int)) := by decide +kernel
theorem kPop_b {s0 x : Int} (h : 0 ≤ s0 ∧ s0 ≤ 6) (x0 : 0 ≤ x) (x1 : x < km_shl 1 s0) : (0 ≤ km_pop x ∧ km_pop x ≤ s0) ∧ (x < km_shl 1 s0 - 1 → km_pop x < s0) ∧ km_pop (km_shl 1 s0 - 1) = s0 ∧ (0 < x → 0 < km_pop x) := by
  have hb := kAll_b h
  have k := kPop_all ⟨s0.toNat, by omega⟩ ⟨x.toNat, by omega⟩
  rw [ks_one h.1 (by omega)] at x1 ⊢
  have h1 : 0 < 2 ^ s0.toNat := Nat.two_pow_pos _
  have e1 : ((x.toNat : Nat) : Int) = x := by omega
  have e2 : ((s0.toNat : Nat) : Int) = s0 := by omega
  have e3 : ((2 ^ s0.toNat - 1 : Nat) : Int) = ((2 ^ s0.toNat : Nat) : Int) - 1 := by omega
  have x1' : x.toNat < 2 ^ s0.toNat := by generalize 2 ^ s0.toNat = z at *; omega
  have k := k x1'
  simp only [e1, e2, e3] at k
  refine ⟨⟨k.2.2.2.1, k.1⟩, fun w => k.2.1 (by omega), k.2.2.1, fun w => k.2.2.2.2 (by omega)⟩
/-- the class's fold over the sets -/
noncomputable def kRf (m : km_Mm) : Nat → Int → Int → Int
  | 0, _, r => r
  | n + 1, x, r => kRf m n (x + 1) (@ite Int (km_pop x < km_pop r ∧ kD m x) (Classical.propDecidable _) x r)
theorem kRf_ring {m : km_Mm} (hs : 1 ≤ m 19 1 ∧ m 19 1 ≤ 6) : ∀ (n : Nat) (x r : Int), 1 ≤ x → x + n = km_shl 1 (m 19 1) - 1 → (1 ≤ r ∧ r < km_shl 1 (m 19 1)) → kD m r → (∀ y : Int, 1 ≤ y → y < x → kD m y → km_pop r < km_pop y ∨ (km_pop r = km_pop y ∧ r ≤ y)) → (r < x ∨ r = km_shl 1 (m 19 1) - 1) → kRing m (kRf m n x r) := by
  intro n
  have hb := kAll_b (s0 := m 19 1) ⟨by omega, hs.2⟩
  induction n with
  | zero =>
    intro x r h0 h1 h2 h3 h4 h5
    refine ⟨h2, h3, fun y y0 y1 y2 => ?_⟩
    by_cases e : y < x
    · exact h4 y y0 e y2
    · have ey : y = km_shl 1 (m 19 1) - 1 := by omega
      have p1 := (kPop_b (s0 := m 19 1) ⟨by omega, hs.2⟩ (by omega) h2.2)
      show km_pop r < km_pop y ∨ (km_pop r = km_pop y ∧ r ≤ y)
      rw [ey, p1.2.2.1]
      by_cases z : r < km_shl 1 (m 19 1) - 1
      · exact Or.inl (p1.2.1 z)
      · have : r = km_shl 1 (m 19 1) - 1 := by omega
        rw [this]
        rw [p1.2.2.1]
        exact Or.inr ⟨rfl, Int.le_refl _⟩
  | succ n ih =>
    intro x r h0 h1 h2 h3 h4 h5
    unfold kRf
    by_cases z : km_pop x < km_pop r ∧ kD m x
    · rw [if_pos z]
      refine ih (x + 1) x (by omega) (by omega) ⟨h0, by omega⟩ z.2 (fun y y0 y1 y2 => ?_) (Or.inl (by omega))
      by_cases e : y = x
      · subst e; exact Or.inr ⟨rfl, Int.le_refl _⟩
      · have := h4 y y0 (by omega) y2; omega
    · rw [if_neg z]
      refine ih (x + 1) r (by omega) (by omega) h2 h3 (fun y y0 y1 y2 => ?_) (h5.elim (fun w => Or.inl (by omega)) Or.inr)
      by_cases e : y = x
      · subst e
        have nl : ¬ km_pop y < km_pop r := fun w => z ⟨w, y2⟩
        rcases h5 with w | w
        · omega
        · exfalso
          subst w
          have p1 := kPop_b (s0 := m 19 1) ⟨by omega, hs.2⟩ (x := y) (by omega) (by omega)
          have := p1.2.1 (by omega)
          rw [p1.2.2.1] at nl
          exact nl this
      · exact h4 y y0 (by omega) y2
theorem kD_all {m : km_Mm} (hs : 1 ≤ m 19 1 ∧ m 19 1 ≤ 6) : kD m (km_shl 1 (m 19 1) - 1) := by
  intro a b a0 a1 b0 b1 _ h
  exfalso
  have e : m 19 1 = (((m 19 1).toNat : Nat) : Int) := by omega
  rw [e, kAll_tb (by omega) b0] at h
  simp at h
  omega
/-- the class asks a set so -/
theorem kD_iff {m : km_Mm} (hs : 1 ≤ m 19 1 ∧ m 19 1 ≤ 6) {x : Int} (x0 : 0 ≤ x) (x1 : x < km_shl 1 (m 19 1)) : kD m x ↔ ∀ i : Int, 0 ≤ i → i < m 19 1 → tb x i = true → km_or x (kset (kBt m i) (m 19 1).toNat) = km_shl 1 (m 19 1) - 1 := by
  have hb := kAll_b (s0 := m 19 1) ⟨by omega, hs.2⟩
  have e : m 19 1 = (((m 19 1).toNat : Nat) : Int) := by omega
  have all : ∀ k : Int, 0 ≤ k → tb (km_shl 1 (m 19 1) - 1) k = decide (k < m 19 1) := fun k k0 => by
    rw [e, kAll_tb (by omega) k0]
  constructor
  · intro h i i0 i1 hi
    have t := kset_ten (P := kBt m i) (m 19 1).toNat (by omega)
    refine ten_ext (ten_or ⟨x0, by omega⟩ t) ⟨by omega, by omega⟩ (fun k k0 k1 => ?_)
    rw [tb_or x0 (by omega) t.1 (by have := t.2; omega), all k k0]
    by_cases z : k < m 19 1
    · simp only [z, decide_true]
      cases hk : tb x k
      · simp only [Bool.false_or]
        exact (kset_tb (m 19 1).toNat (by omega) k k0).mpr ⟨by omega, h i k i0 i1 k0 z hi hk⟩
      · rfl
    · simp only [z, decide_false]
      rw [kSub_tb ⟨by omega, hs.2⟩ x0 x1 (by omega)]
      cases hk : tb (kset (kBt m i) (m 19 1).toNat) k
      · rfl
      · have := (kset_tb (m 19 1).toNat (by omega) k k0).mp hk; omega
  · intro h a b a0 a1 b0 b1 ha hbb
    have t := kset_ten (P := kBt m a) (m 19 1).toNat (by omega)
    have k : tb (km_or x (kset (kBt m a) (m 19 1).toNat)) b = tb (km_shl 1 (m 19 1) - 1) b := by rw [h a a0 a1 ha]
    rw [tb_or x0 (by omega) t.1 (by have := t.2; omega), all b b0, hbb] at k
    simp only [Bool.false_or, b1, decide_true] at k
    exact ((kset_tb (m 19 1).toNat (by omega) b b0).mp k).2

