/-! ===== parts of a set: the next, the one before, what is left ===== -/
theorem kn_land (a b : Nat) : (a &&& b) = 2 * (a / 2 &&& b / 2) + (if a % 2 = 1 ∧ b % 2 = 1 then 1 else 0) := by
  have h1 := Nat.and_div_two (a := a) (b := b)
  have h2 : (a &&& b) % 2 = 1 ↔ a % 2 = 1 ∧ b % 2 = 1 := Nat.and_mod_two_eq_one
  split
  · next h => have := h2.mpr h; omega
  · next h => have : ¬ (a &&& b) % 2 = 1 := fun w => h (h2.mp w); omega
theorem kn_sub2 {s w : Nat} (h : s &&& w = s) : s / 2 &&& w / 2 = s / 2 ∧ s % 2 ≤ w % 2 := by
  have := kn_land s w
  rw [h] at this
  split at this <;> omega
theorem kn_aux : ∀ (k w s M : Nat), w < 2 ^ k → s &&& w = s → (2 ^ k * M + 2 ^ k - 1 + s - w) &&& w = s := by
  intro k
  induction k with
  | zero => intro w s M hw hs; have : w = 0 := by simpa using hw
            subst this; simp at hs ⊢; omega
  | succ k ih =>
    intro w s M hw hs
    obtain ⟨h1, h2⟩ := kn_sub2 hs
    have hp : 2 ^ (k + 1) = 2 * 2 ^ k := by rw [Nat.pow_succ]; omega
    have i1 := ih (w / 2) (s / 2) M (by omega) h1
    have e : 2 ^ (k+1) * M = 2 * (2 ^ k * M) := by rw [hp, Nat.mul_assoc]
    have p0 : 0 < 2 ^ k := Nat.two_pow_pos k
    rw [kn_land, e, hp]
    generalize 2 ^ k * M = X at *
    generalize 2 ^ k = Y at *
    have sl : s / 2 ≤ w / 2 := by rw [← h1]; exact Nat.and_le_right
    have e2 : (2 * X + 2 * Y - 1 + s - w) / 2 = X + Y - 1 + s / 2 - w / 2 ∧ ((2 * X + 2 * Y - 1 + s - w) % 2 = 1 ↔ s % 2 = w % 2) := by omega
    rw [e2.1, i1]
    split
    · next h => have := e2.2.mp h.1; omega
    · next h =>
      have : ¬ (s % 2 = 1) := fun z => h ⟨e2.2.mpr (by omega), by omega⟩
      omega
theorem kn_next : ∀ (k w s M : Nat), w < 2 ^ k → s &&& w = s → 
    (s = w ∧ (2 ^ k * M + 2 ^ k + s - w) &&& w = 0) ∨ (s < ((2 ^ k * M + 2 ^ k + s - w) &&& w) ∧ ((2 ^ k * M + 2 ^ k + s - w) &&& w) &&& w = ((2 ^ k * M + 2 ^ k + s - w) &&& w) ∧ ∀ t, t &&& w = t → s < t → ((2 ^ k * M + 2 ^ k + s - w) &&& w) ≤ t) := by
  intro k
  induction k with
  | zero => intro w s M hw hs; have : w = 0 := by simpa using hw
            subst this; simp at hs ⊢; omega
  | succ k ih =>
    intro w s M hw hs
    obtain ⟨h1, h2⟩ := kn_sub2 hs
    have hp : 2 ^ (k + 1) = 2 * 2 ^ k := by rw [Nat.pow_succ]; omega
    have i1 := ih (w / 2) (s / 2) M (by omega) h1
    have i2 := kn_aux k (w / 2) (s / 2) M (by omega) h1
    have e : 2 ^ (k+1) * M = 2 * (2 ^ k * M) := by rw [hp, Nat.mul_assoc]
    have p0 : 0 < 2 ^ k := Nat.two_pow_pos k
    have hw2 : w / 2 < 2 ^ k := by omega
    have rep : (2 ^ (k+1) * M + 2 ^ (k+1) + s - w) &&& w = (if s % 2 = w % 2 then 2 * ((2 ^ k * M + 2 ^ k + s / 2 - w / 2) &&& (w / 2)) else s + 1) := by
      rw [kn_land, e, hp]
      generalize 2 ^ k * M = X at *
      generalize 2 ^ k = Y at *
      by_cases h : s % 2 = w % 2
      · rw [if_pos h]
        have e2 : (2 * X + 2 * Y + s - w) / 2 = X + Y + s / 2 - w / 2 ∧ (2 * X + 2 * Y + s - w) % 2 = 0 := by omega
        rw [e2.1, e2.2, if_neg (by omega)]; rfl
      · rw [if_neg h]
        have e2 : (2 * X + 2 * Y + s - w) / 2 = X + Y - 1 + s / 2 - w / 2 ∧ (2 * X + 2 * Y + s - w) % 2 = 1 := by omega
        rw [e2.1, e2.2, if_pos (by omega), i2]; omega
    rw [rep]
    split
    · next h =>
      rcases i1 with ⟨a1, a2⟩ | ⟨a1, a2, a3⟩
      · left; rw [a2]; omega
      · right
        refine ⟨by omega, ?_, fun t ht hst => ?_⟩
        · rw [kn_land, if_neg (by omega), Nat.mul_div_cancel_left _ (by decide), a2]; rfl
        · obtain ⟨t1, t2⟩ := kn_sub2 ht
          have := a3 (t / 2) t1 (by omega)
          omega
    · next h =>
      right
      refine ⟨by omega, ?_, fun t ht hst => by omega⟩
      rw [kn_land, if_pos (by omega), show (s + 1) / 2 = s / 2 by omega, h1]; omega
theorem kn_prev : ∀ (k w s : Nat), w < 2 ^ k → s &&& w = s → 0 < s → ((s - 1) &&& w) < s ∧ ((s - 1) &&& w) &&& w = ((s - 1) &&& w) ∧ ∀ t, t &&& w = t → t < s → t ≤ ((s - 1) &&& w) := by
  intro k
  induction k with
  | zero => intro w s hw hs; have : w = 0 := by simpa using hw
            subst this; simp at hs; omega
  | succ k ih =>
    intro w s hw hs s0
    obtain ⟨h1, h2⟩ := kn_sub2 hs
    have hp : 2 ^ (k + 1) = 2 * 2 ^ k := by rw [Nat.pow_succ]; omega
    refine ⟨by have := Nat.and_le_left (n := s - 1) (m := w); omega, by rw [Nat.and_assoc, Nat.and_self], fun t ht hts => ?_⟩
    obtain ⟨t1, t2⟩ := kn_sub2 ht
    rw [kn_land]
    by_cases a : s % 2 = 1
    · have e1 : (s - 1) / 2 = s / 2 := by omega
      rw [e1, h1]
      split <;> omega
    · have e1 : (s - 1) / 2 = s / 2 - 1 := by omega
      have i1 := ih (w / 2) (s / 2) (by omega) h1 (by omega)
      have := i1.2.2 (t / 2) t1 (by omega)
      rw [e1]
      split <;> omega
theorem ks_neg {y : Int} (h0 : 0 ≤ y) (h1 : y < 2147483648) : Int32.ofInt (-1 - y) = nI (4294967295 - y.toNat) := by
  apply Int32.toBitVec_inj.1
  show BitVec.ofInt 32 (-1 - y) = BitVec.ofNat 32 (4294967295 - y.toNat)
  apply BitVec.eq_of_toNat_eq
  simp
  omega
theorem ks_andn {x y : Int} (hx : 0 ≤ x) (hx2 : x < 2147483648) (h0 : 0 ≤ y) (h1 : y < 2147483648) : km_and x (-1 - y) = ((x.toNat &&& (4294967295 - y.toNat) : Nat) : Int) := by
  unfold km_and
  rw [ks_of hx, ks_neg h0 h1, ks_nand, nI_toInt]
  have : x.toNat &&& (4294967295 - y.toNat) ≤ x.toNat := Nat.and_le_left
  omega
theorem ks_nand2 {x y : Int} (hx : 0 ≤ x) (hx2 : x < 2147483648) (h0 : 0 ≤ y) (h1 : y < 2147483648) : km_and (-1 - y) x = (((4294967295 - y.toNat) &&& x.toNat : Nat) : Int) := by
  unfold km_and
  rw [ks_of hx, ks_neg h0 h1, ks_nand, nI_toInt]
  have : (4294967295 - y.toNat) &&& x.toNat ≤ x.toNat := Nat.and_le_right
  omega
theorem ks_not {y : Int} (h0 : 0 ≤ y) (h1 : y < 2147483648) : km_xor y (-1) = -1 - y := by
  have e1 : Int32.ofInt (-1) = nI 4294967295 := by decide
  have e2 : nI y.toNat ^^^ nI 4294967295 = Int32.ofInt (-1 - y) := by
    rw [ks_neg h0 h1, ks_nxor]
    have e : y.toNat ^^^ 4294967295 = 4294967295 - y.toNat := by
      apply Nat.eq_of_testBit_eq
      intro i
      have a := Nat.testBit_two_pow_sub_succ (n := 32) (x := y.toNat) (by omega) i
      have a1 : (2 ^ 32 - (y.toNat + 1)) = 4294967295 - y.toNat := by omega
      rw [a1] at a
      have b := Nat.testBit_two_pow_sub_one 32 i
      rw [show 2 ^ 32 - 1 = 4294967295 from rfl] at b
      rw [Nat.testBit_xor, a, b]
      by_cases hi : i < 32
      · simp [hi]
      · have : y.toNat.testBit i = false := Nat.testBit_lt_two_pow (Nat.lt_of_lt_of_le (show y.toNat < 2 ^ 32 by omega) (Nat.pow_le_pow_right (by decide) (by omega)))
        simp [hi, this]
    rw [e]
  unfold km_xor
  rw [ks_of h0, e1, e2]
  have e3 : (Int32.ofInt (-1 - y)).toInt = -1 - y := by
    rw [Int32.toInt_ofInt_of_le (by show (-2147483648 : Int) ≤ _; omega) (by show _ < (2147483648 : Int); omega)]
  exact e3
theorem tb_andn {x y k : Int} (hx : ten x) (hy : ten y) : tb (km_and x (km_xor y (-1))) k = (tb x k && !tb y k) := by
  unfold ten at *
  rw [ks_not hy.1 (by omega), ks_andn hx.1 (by omega) hy.1 (by omega)]
  unfold tb
  simp only [Int.toNat_natCast, Nat.testBit_and]
  have a := Nat.testBit_two_pow_sub_succ (n := 32) (x := y.toNat) (by omega) k.toNat
  have a1 : (2 ^ 32 - (y.toNat + 1)) = 4294967295 - y.toNat := by omega
  rw [a1] at a
  rw [a]
  by_cases hi : k.toNat < 32
  · simp [hi]
  · have : x.toNat.testBit k.toNat = false := Nat.testBit_lt_two_pow (Nat.lt_of_lt_of_le (show x.toNat < 2 ^ 32 by omega) (Nat.pow_le_pow_right (by decide) (by omega)))
    simp [hi, this]
theorem ten_andn {x y : Int} (hx : ten x) (hy : ten y) : ten (km_and x (km_xor y (-1))) := by
  unfold ten at *
  rw [ks_not hy.1 (by omega), ks_andn hx.1 (by omega) hy.1 (by omega)]
  have : x.toNat &&& (4294967295 - y.toNat) ≤ x.toNat := Nat.and_le_left
  omega
/-- t is a part of w -/
def ksb (t w : Int) : Prop := 0 ≤ t ∧ t.toNat &&& w.toNat = t.toNat
theorem ksb_le {t w : Int} (hw : ten w) (h : ksb t w) : 0 ≤ t ∧ t ≤ w := by
  unfold ten at hw
  have : t.toNat &&& w.toNat ≤ w.toNat := Nat.and_le_right
  rw [h.2] at this
  exact ⟨h.1, by omega⟩
theorem ksb_ten {t w : Int} (hw : ten w) (h : ksb t w) : ten t := by
  have := ksb_le hw h; unfold ten at *; omega
theorem ksb_0 {w : Int} : ksb 0 w := ⟨by decide, by simp⟩
theorem ksb_rf {w : Int} (hw : ten w) : ksb w w := ⟨hw.1, by simp⟩
theorem ksb_tb {t w : Int} (hw : ten w) : ksb t w ↔ ten t ∧ ∀ k : Int, 0 ≤ k → tb t k = true → tb w k = true := by
  constructor
  · intro h
    refine ⟨ksb_ten hw h, fun k k0 hk => ?_⟩
    unfold tb at *
    rw [← h.2, Nat.testBit_and, Bool.and_eq_true] at hk
    exact hk.2
  · rintro ⟨h1, h2⟩
    refine ⟨h1.1, Nat.eq_of_testBit_eq fun i => ?_⟩
    have := h2 i (by omega)
    unfold tb at this
    simp only [Int.toNat_natCast] at this
    rw [Nat.testBit_and]
    cases e : t.toNat.testBit i
    · rfl
    · rw [this e]; rfl
theorem ksb_next {s w : Int} (hw : ten w) (h : ksb s w) : (s = w ∧ km_and (s - w) w = 0) ∨ (s < km_and (s - w) w ∧ ksb (km_and (s - w) w) w ∧ ∀ t : Int, ksb t w → s < t → km_and (s - w) w ≤ t) := by
  have l := ksb_le hw h
  have hw' := hw
  unfold ten at hw
  by_cases e : s = w
  · left; subst e; refine ⟨rfl, ?_⟩
    rw [Int.sub_self, ks_and (by decide) (by decide) hw.1]; simp
  · right
    have e1 : s - w = -1 - (w - s - 1) := by omega
    have r := ks_nand2 (x := w) (y := w - s - 1) hw.1 (by omega) (by omega) (by omega)
    rw [← e1] at r
    have e2 : 4294967295 - (w - s - 1).toNat = 2 ^ 10 * 4194303 + 2 ^ 10 + s.toNat - w.toNat := by omega
    rw [e2] at r
    rcases kn_next 10 w.toNat s.toNat 4194303 (by omega) h.2 with ⟨a, _⟩ | ⟨a1, a2, a3⟩
    · omega
    · rw [r]
      generalize (2 ^ 10 * 4194303 + 2 ^ 10 + s.toNat - w.toNat) &&& w.toNat = n at *
      refine ⟨by omega, ⟨by omega, by simpa using a2⟩, fun t ht hst => ?_⟩
      have := a3 t.toNat ht.2 (by have := ht.1; omega)
      have := ht.1; omega
theorem ksb_prev {s w : Int} (hw : ten w) (h : ksb s w) (s0 : 0 < s) : 0 ≤ km_and (s - 1) w ∧ km_and (s - 1) w < s ∧ ksb (km_and (s - 1) w) w ∧ ∀ t : Int, ksb t w → t < s → t ≤ km_and (s - 1) w := by
  have l := ksb_le hw h
  unfold ten at hw
  have r := ks_and (x := s - 1) (y := w) (by omega) (by omega) hw.1
  have e2 : (s - 1).toNat = s.toNat - 1 := by omega
  rw [e2] at r
  obtain ⟨a1, a2, a3⟩ := kn_prev 10 w.toNat s.toNat (by omega) h.2 (by omega)
  rw [r]
  generalize (s.toNat - 1) &&& w.toNat = n at *
  refine ⟨by omega, by omega, ⟨by omega, by simpa using a2⟩, fun t ht hst => ?_⟩
  have := a3 t.toNat ht.2 (by have := ht.1; omega)
  have := ht.1; omega
theorem kn_diff : ∀ (k w s : Nat), w < 2 ^ k → s &&& w = s → w ^^^ s = w - s := by
  intro k
  induction k with
  | zero => intro w s hw hs; have : w = 0 := by simpa using hw
            subst this; simp at hs; subst hs; rfl
  | succ k ih =>
    intro w s hw hs
    obtain ⟨h1, h2⟩ := kn_sub2 hs
    have hp : 2 ^ (k + 1) = 2 * 2 ^ k := by rw [Nat.pow_succ]; omega
    have i1 := ih (w / 2) (s / 2) (by omega) h1
    have sl : s / 2 ≤ w / 2 := by rw [← h1]; exact Nat.and_le_right
    have d := Nat.xor_div_two (a := w) (b := s)
    have m2 : (w ^^^ s) % 2 = 1 ↔ ¬ (w % 2 = 1 ↔ s % 2 = 1) := Nat.xor_mod_two_eq_one
    rw [i1] at d
    omega
theorem ksb_xor {t w : Int} (hw : ten w) (h : ksb t w) : km_xor w t = w - t := by
  have l := ksb_le hw h
  unfold ten at hw
  rw [ks_xor hw.1 (by omega) h.1 (by omega), kn_diff 10 w.toNat t.toNat (by omega) h.2]
  omega
theorem ksb_diff {t w : Int} (hw : ten w) (h : ksb t w) : ten (w - t) ∧ ∀ k : Int, 0 ≤ k → tb (w - t) k = (tb w k && !tb t k) := by
  rw [← ksb_xor hw h]
  have ht := ksb_ten hw h
  refine ⟨ten_xor hw ht, fun k k0 => ?_⟩
  have := ((ksb_tb hw).mp h).2 k k0
  unfold ten at *
  rw [tb_xor hw.1 (by omega) ht.1 (by omega)]
  cases e : tb t k
  · simp
  · rw [this e]; rfl
theorem ksb_dsub {t w : Int} (hw : ten w) (h : ksb t w) : ksb (w - t) w := by
  have d := ksb_diff hw h
  refine (ksb_tb hw).mpr ⟨d.1, fun k k0 hk => ?_⟩
  rw [d.2 k k0] at hk
  simp at hk
  exact hk.1
theorem ksb_andn {t w : Int} (hw : ten w) (h : ksb t w) : km_and w (km_xor t (-1)) = w - t := by
  have ht := ksb_ten hw h
  have d := ksb_diff hw h
  exact ten_ext (ten_andn hw ht) d.1 (fun k k0 k1 => by rw [tb_andn hw ht, d.2 k k0])
theorem ksb_n0 {t w : Int} (ht : ten t) (hw : ten w) : km_and t (km_xor w (-1)) = 0 ↔ ksb t w := by
  rw [tb_eq0 (ten_andn ht hw), ksb_tb hw]
  constructor
  · intro h
    refine ⟨ht, fun k k0 hk => ?_⟩
    by_cases k1 : k < 10
    · have := h k k0 k1
      rw [tb_andn ht hw, hk] at this
      simpa using this
    · rw [tb_big ht (by omega)] at hk; cases hk
  · rintro ⟨_, h⟩ k k0 k1
    rw [tb_andn ht hw]
    cases e : tb t k
    · rfl
    · rw [h k k0 e]; rfl
theorem ksb_tr {s t w : Int} (ht : ten t) (hw : ten w) (h1 : ksb s t) (h2 : ksb t w) : ksb s w := by
  rw [ksb_tb ht] at h1
  rw [ksb_tb hw] at h2 ⊢
  exact ⟨h1.1, fun k k0 hk => h2.2 k k0 (h1.2 k k0 hk)⟩
/-- the lowest of a set, and the rest -/
def klw (x : Int) : Int := if tb x 0 then 0 else if tb x 1 then 1 else if tb x 2 then 2 else if tb x 3 then 3 else if tb x 4 then 4 else if tb x 5 then 5 else if tb x 6 then 6 else if tb x 7 then 7 else if tb x 8 then 8 else 9
theorem klw_all : ∀ n : Fin 1024, n.val ≠ 0 → 0 ≤ klw (n.val : Int) ∧ klw (n.val : Int) < 10 ∧ tb (n.val : Int) (klw (n.val : Int)) = true ∧ (∀ j : Fin 10, ((j.val : Int) < klw (n.val : Int) → tb (n.val : Int) (j.val : Int) = false) ∧ tb (km_and (n.val : Int) ((n.val : Int) - 1)) (j.val : Int) = (tb (n.val : Int) (j.val : Int) && decide ((j.val : Int) ≠ klw (n.val : Int)))) := by decide +kernel
theorem klw_p {x : Int} (h : ten x) (h0 : x ≠ 0) : (0 ≤ klw x ∧ klw x < 10 ∧ tb x (klw x) = true) ∧ (∀ j : Int, 0 ≤ j → j < klw x → tb x j = false) ∧ (∀ j : Int, 0 ≤ j → j < 10 → tb (km_and x (x - 1)) j = (tb x j && decide (j ≠ klw x))) := by
  unfold ten at h
  have a := klw_all ⟨x.toNat, by omega⟩ (by show x.toNat ≠ 0; omega)
  have e : ((x.toNat : Nat) : Int) = x := by omega
  simp only [e] at a
  obtain ⟨a1, a2, a3, a4⟩ := a
  refine ⟨⟨a1, a2, a3⟩, fun j j0 j1 => ?_, fun j j0 j1 => ?_⟩
  · have := (a4 ⟨j.toNat, by omega⟩).1
    have ej : ((j.toNat : Nat) : Int) = j := by omega
    simp only [ej] at this
    exact this j1
  · have := (a4 ⟨j.toNat, by omega⟩).2
    have ej : ((j.toNat : Nat) : Int) = j := by omega
    simp only [ej] at this
    exact this
