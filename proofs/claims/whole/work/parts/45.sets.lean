/-! ===== sets as bits: nonnegative words as Nat ===== -/
theorem ks_of {x : Int} (h : 0 ≤ x) : Int32.ofInt x = nI x.toNat := by
  obtain ⟨n, rfl⟩ := Int.eq_ofNat_of_zero_le h
  rfl
theorem ks_nand (a b : Nat) : nI a &&& nI b = nI (a &&& b) := by
  apply Int32.toBitVec_inj.1
  show BitVec.ofNat 32 a &&& BitVec.ofNat 32 b = BitVec.ofNat 32 (a &&& b)
  apply BitVec.eq_of_getLsbD_eq
  intro i hi
  simp [hi]
theorem ks_nor (a b : Nat) : nI a ||| nI b = nI (a ||| b) := by
  apply Int32.toBitVec_inj.1
  show BitVec.ofNat 32 a ||| BitVec.ofNat 32 b = BitVec.ofNat 32 (a ||| b)
  apply BitVec.eq_of_getLsbD_eq
  intro i hi
  simp [hi]
theorem ks_nxor (a b : Nat) : nI a ^^^ nI b = nI (a ^^^ b) := by
  apply Int32.toBitVec_inj.1
  show BitVec.ofNat 32 a ^^^ BitVec.ofNat 32 b = BitVec.ofNat 32 (a ^^^ b)
  apply BitVec.eq_of_getLsbD_eq
  intro i hi
  simp [hi]
theorem ks_and {x y : Int} (hx : 0 ≤ x) (hx2 : x < 2147483648) (hy : 0 ≤ y) : km_and x y = ((x.toNat &&& y.toNat : Nat) : Int) := by
  unfold km_and
  rw [ks_of hx, ks_of hy, ks_nand, nI_toInt]
  have : x.toNat &&& y.toNat ≤ x.toNat := Nat.and_le_left
  omega
theorem ks_or {x y : Int} (hx : 0 ≤ x) (hx2 : x < 2147483648) (hy : 0 ≤ y) (hy2 : y < 2147483648) : km_or x y = ((x.toNat ||| y.toNat : Nat) : Int) := by
  unfold km_or
  rw [ks_of hx, ks_of hy, ks_nor, nI_toInt]
  exact Nat.or_lt_two_pow (by omega) (by omega)
theorem ks_xor {x y : Int} (hx : 0 ≤ x) (hx2 : x < 2147483648) (hy : 0 ≤ y) (hy2 : y < 2147483648) : km_xor x y = ((x.toNat ^^^ y.toNat : Nat) : Int) := by
  unfold km_xor
  rw [ks_of hx, ks_of hy, ks_nxor, nI_toInt]
  exact Nat.xor_lt_two_pow (by omega) (by omega)
theorem ks_one_all : ∀ n : Fin 31, km_shl 1 (n.val : Int) = ((2 ^ n.val : Nat) : Int) := by decide +kernel
theorem ks_one {k : Int} (h0 : 0 ≤ k) (h1 : k < 31) : km_shl 1 k = ((2 ^ k.toNat : Nat) : Int) := by
  have h := ks_one_all ⟨k.toNat, by omega⟩
  have e : ((k.toNat : Nat) : Int) = k := by omega
  simp only [e] at h
  exact h
theorem ks_sl : ∀ n, n < 32 → ((nI n &&& 31).toBitVec.smod 32).toNat = n := by decide +kernel
theorem ks_shr {x k : Int} (hx : 0 ≤ x) (hx2 : x < 2147483648) (h0 : 0 ≤ k) (h1 : k < 32) : km_shr x k = ((x.toNat >>> k.toNat : Nat) : Int) := by
  unfold km_shr
  rw [ks_of hx, ks_of h0]
  have e : nI x.toNat >>> (nI k.toNat &&& 31) = nI (x.toNat >>> k.toNat) := by
    apply Int32.toBitVec_inj.1
    rw [Int32.toBitVec_shiftRight]
    show (BitVec.ofNat 32 x.toNat).sshiftRight ((nI k.toNat &&& 31).toBitVec.smod 32).toNat = BitVec.ofNat 32 (x.toNat >>> k.toNat)
    rw [ks_sl k.toNat (by omega)]
    have hm : (BitVec.ofNat 32 x.toNat).msb = false := by
      rw [BitVec.msb_eq_decide]
      simp
      omega
    rw [BitVec.sshiftRight_eq_of_msb_false hm]
    apply BitVec.eq_of_toNat_eq
    simp
    have : x.toNat >>> k.toNat ≤ x.toNat := Nat.shiftRight_le _ _
    rw [Nat.mod_eq_of_lt (a := x.toNat) (by omega), Nat.mod_eq_of_lt (by omega)]
  rw [e, nI_toInt]
  have : x.toNat >>> k.toNat ≤ x.toNat := Nat.shiftRight_le _ _
  omega
/-- k is in the set x -/
def tb (x k : Int) : Bool := x.toNat.testBit k.toNat
theorem ks_bit {x k : Int} (hx : 0 ≤ x) (hx2 : x < 2147483648) (h0 : 0 ≤ k) (h1 : k < 32) : km_and (km_shr x k) 1 = if tb x k then 1 else 0 := by
  rw [ks_shr hx hx2 h0 h1]
  have h2 : x.toNat >>> k.toNat ≤ x.toNat := Nat.shiftRight_le _ _
  have h3 : ((x.toNat >>> k.toNat : Nat) : Int) < 2147483648 := by generalize x.toNat >>> k.toNat = z at *; omega
  rw [ks_and (Int.natCast_nonneg _) h3 (by decide)]
  unfold tb
  simp only [Int.toNat_natCast, Nat.testBit, Nat.and_comm 1, show (1 : Int).toNat = 1 from rfl, Nat.and_one_is_mod]
  have : x.toNat >>> k.toNat % 2 < 2 := Nat.mod_lt _ (by decide)
  generalize x.toNat >>> k.toNat % 2 = z at *
  have : z = 0 ∨ z = 1 := by omega
  rcases this with rfl | rfl <;> rfl
theorem ks_bit0 {x k : Int} (hx : 0 ≤ x) (hx2 : x < 2147483648) (h0 : 0 ≤ k) (h1 : k < 32) : km_and (km_shr x k) 1 = 0 ↔ tb x k = false := by
  rw [ks_bit hx hx2 h0 h1]
  cases tb x k <;> simp
theorem tb_or {x y k : Int} (hx : 0 ≤ x) (hx2 : x < 2147483648) (hy : 0 ≤ y) (hy2 : y < 2147483648) : tb (km_or x y) k = (tb x k || tb y k) := by
  unfold tb; rw [ks_or hx hx2 hy hy2]; simp
theorem tb_and {x y k : Int} (hx : 0 ≤ x) (hx2 : x < 2147483648) (hy : 0 ≤ y) : tb (km_and x y) k = (tb x k && tb y k) := by
  unfold tb; rw [ks_and hx hx2 hy]; simp
theorem tb_xor {x y k : Int} (hx : 0 ≤ x) (hx2 : x < 2147483648) (hy : 0 ≤ y) (hy2 : y < 2147483648) : tb (km_xor x y) k = (tb x k ^^ tb y k) := by
  unfold tb; rw [ks_xor hx hx2 hy hy2]; simp
theorem tb_one {j k : Int} (h0 : 0 ≤ j) (h1 : j < 31) (hk : 0 ≤ k) : tb (km_shl 1 j) k = decide (k = j) := by
  unfold tb; rw [ks_one h0 h1]
  simp only [Int.toNat_natCast, Nat.testBit_two_pow]
  by_cases h : k = j
  · subst h; simp
  · simp only [h, decide_false, decide_eq_false_iff_not]; omega
theorem tb_zero {k : Int} : tb 0 k = false := by unfold tb; simp
/-- sets of ten -/
def ten (x : Int) : Prop := 0 ≤ x ∧ x < 1024
theorem ten_or {x y : Int} (hx : ten x) (hy : ten y) : ten (km_or x y) := by
  unfold ten at *
  rw [ks_or hx.1 (by omega) hy.1 (by omega)]
  have := Nat.or_lt_two_pow (n := 10) (x := x.toNat) (y := y.toNat) (by omega) (by omega)
  omega
theorem ten_xor {x y : Int} (hx : ten x) (hy : ten y) : ten (km_xor x y) := by
  unfold ten at *
  rw [ks_xor hx.1 (by omega) hy.1 (by omega)]
  have := Nat.xor_lt_two_pow (n := 10) (x := x.toNat) (y := y.toNat) (by omega) (by omega)
  omega
theorem ten_and {x y : Int} (hx : ten x) (hy : 0 ≤ y) : ten (km_and x y) := by
  unfold ten at *
  rw [ks_and hx.1 (by omega) hy]
  have : x.toNat &&& y.toNat ≤ x.toNat := Nat.and_le_left
  omega
theorem ten_and2 {x y : Int} (hx : 0 ≤ x) (hx2 : x < 2147483648) (hy : ten y) : ten (km_and x y) := by
  unfold ten at *
  rw [ks_and hx hx2 hy.1]
  have : x.toNat &&& y.toNat ≤ y.toNat := Nat.and_le_right
  omega
theorem ten_one {k : Int} (h0 : 0 ≤ k) (h1 : k < 10) : ten (km_shl 1 k) := by
  unfold ten
  rw [ks_one h0 (by omega)]
  have h : 2 ^ k.toNat < 2 ^ 10 := Nat.pow_lt_pow_right (by decide) (by omega)
  generalize 2 ^ k.toNat = z at *
  omega
theorem ten_0 : ten 0 := by unfold ten; omega
theorem tb_big {x k : Int} (hx : ten x) (hk : 10 ≤ k) : tb x k = false := by
  unfold ten at hx; unfold tb
  apply Nat.testBit_lt_two_pow
  have h : 2 ^ 10 ≤ 2 ^ k.toNat := Nat.pow_le_pow_right (by decide) (by omega)
  omega
theorem ten_ext {x y : Int} (hx : ten x) (hy : ten y) (h : ∀ k : Int, 0 ≤ k → k < 10 → tb x k = tb y k) : x = y := by
  have e : x.toNat = y.toNat := by
    apply Nat.eq_of_testBit_eq
    intro i
    by_cases hi : i < 10
    · exact h i (by omega) (by omega)
    · have a := tb_big hx (k := i) (by omega)
      have b := tb_big hy (k := i) (by omega)
      unfold tb at a b
      simp only [Int.toNat_natCast] at a b
      rw [a, b]
  unfold ten at *
  omega
theorem tb_eq0 {x : Int} (hx : ten x) : x = 0 ↔ ∀ k : Int, 0 ≤ k → k < 10 → tb x k = false :=
  ⟨fun h => by subst h; intro k _ _; exact tb_zero, fun h => ten_ext hx ten_0 (fun k a b => by rw [h k a b, tb_zero])⟩
