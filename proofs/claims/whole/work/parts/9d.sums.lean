/-! ===== sums over ten, the twos of a set ===== -/
def ksm (g : Int → Int) : Nat → Int
  | 0 => 0
  | n + 1 => ksm g n + g n
theorem ksm_cong {g h : Int → Int} : ∀ (n : Nat), (∀ k : Int, 0 ≤ k → k < n → g k = h k) → ksm g n = ksm h n := by
  intro n
  induction n with
  | zero => intro _; rfl
  | succ n ih =>
    intro e
    unfold ksm
    rw [ih (fun k k0 k1 => e k k0 (by omega)), e n (by omega) (by omega)]
theorem ksm_add {g h : Int → Int} : ∀ (n : Nat), ksm (fun k => g k + h k) n = ksm g n + ksm h n := by
  intro n
  induction n with
  | zero => rfl
  | succ n ih => unfold ksm; rw [ih]; omega
theorem ksm_b {g : Int → Int} {b : Int} : ∀ (n : Nat), (∀ k : Int, 0 ≤ k → k < n → 0 ≤ g k ∧ g k ≤ b) → 0 ≤ ksm g n ∧ ksm g n ≤ b * n := by
  intro n
  induction n with
  | zero => intro _; unfold ksm; omega
  | succ n ih =>
    intro e
    have h1 := ih (fun k k0 k1 => e k k0 (by omega))
    have h2 := e n (by omega) (by omega)
    have h3 : b * ((n + 1 : Nat) : Int) = b * n + b := by rw [show ((n + 1 : Nat) : Int) = (n : Int) + 1 by omega, Int.mul_add, Int.mul_one]
    unfold ksm; omega
theorem ksm_mul {g : Int → Int} {p : Int} : ∀ (n : Nat), ksm (fun k => p * g k) n = p * ksm g n := by
  intro n
  induction n with
  | zero => unfold ksm; rw [Int.mul_zero]
  | succ n ih => unfold ksm; rw [ih, Int.mul_add]
theorem ksm_kcnt {P : Int → Prop} : ∀ (n : Nat), ksm (fun k => @ite Int (P k) (Classical.propDecidable _) 1 0) n = kcnt P n := by
  intro n
  induction n with
  | zero => rfl
  | succ n ih => unfold ksm kcnt; rw [ih]
theorem ksm_zero : ∀ (n : Nat), ksm (fun _ => 0) n = 0 := by
  intro n
  induction n with
  | zero => rfl
  | succ n ih => unfold ksm; rw [ih]; rfl
theorem ksm_one {j v : Int} (j0 : 0 ≤ j) : ∀ (n : Nat), ksm (fun k => if k = j then v else 0) n = if j < n then v else 0 := by
  intro n
  induction n with
  | zero => rw [if_neg (by omega)]; rfl
  | succ n ih =>
    unfold ksm
    rw [ih]
    by_cases h : (n : Int) = j
    · rw [if_pos h, if_neg (by omega), if_pos (by omega)]; omega
    · rw [if_neg h]
      by_cases k : j < (n : Int)
      · rw [if_pos k, if_pos (by omega)]; omega
      · rw [if_neg k, if_neg (by omega)]; rfl
theorem kcnt_one {j : Int} (j0 : 0 ≤ j) : ∀ (n : Nat), kcnt (fun k => k = j) n = if j < n then 1 else 0 := by
  intro n
  rw [← ksm_kcnt]
  have := ksm_one (v := 1) j0 n
  rw [← this]
  exact ksm_cong n (fun k _ _ => by split <;> rfl)
theorem kcnt_swap {P : Int → Int → Prop} (k : Nat) : ∀ (n : Nat), ksm (fun a => kcnt (P a) k) n = ksm (fun b => kcnt (fun a => P a b) n) k := by
  intro n
  induction n with
  | zero => exact (ksm_zero k).symm
  | succ n ih =>
    have e : (fun b : Int => kcnt (fun a => P a b) (n + 1)) = (fun b : Int => kcnt (fun a => P a b) n + @ite Int (P n b) (Classical.propDecidable _) 1 0) := rfl
    rw [e, ksm_add, ← ih, ksm_kcnt]
    rfl
theorem kcnt_none {P : Int → Prop} : ∀ (n : Nat), (∀ k : Int, 0 ≤ k → k < n → ¬ P k) → kcnt P n = 0 := by
  intro n h
  rw [kcnt_cong (P := P) (R := fun _ => False) n (fun k k0 k1 => ⟨fun w => h k k0 k1 w, fun w => w.elim⟩), ← ksm_kcnt]
  have : (fun k : Int => @ite Int ((fun _ : Int => False) k) (Classical.propDecidable _) 1 0) = fun _ => 0 := funext fun k => if_neg id
  rw [this, ksm_zero]
theorem kcnt_up {P : Int → Prop} (n : Nat) : ∀ (e : Nat), (∀ k : Int, (n : Int) ≤ k → k < n + e → ¬ P k) → kcnt P (n + e) = kcnt P n := by
  intro e
  induction e with
  | zero => intro _; rfl
  | succ e ih =>
    intro h
    show kcnt P (n + e) + @ite Int (P ((n + e : Nat) : Int)) (Classical.propDecidable _) 1 0 = _
    rw [ih (fun k k0 k1 => h k k0 (by omega)), if_neg (h _ (by omega) (by omega))]; omega
/-- the lowest taken from a set -/
theorem klw_split {t : Int} (h : ten t) (h0 : t ≠ 0) : (ten (km_and t (t - 1)) ∧ ksb (km_and t (t - 1)) t ∧ km_and t (t - 1) < t) ∧ (∀ k : Int, 0 ≤ k → (tb t k = true ↔ tb (km_and t (t - 1)) k = true ∨ k = klw t) ∧ ¬ (tb (km_and t (t - 1)) k = true ∧ k = klw t) ∧ (tb (km_and t (t - 1)) k = true → klw t < k)) := by
  obtain ⟨⟨a1, a2, a3⟩, b, d⟩ := klw_p h h0
  have tr : ten (km_and t (t - 1)) := ten_and h (by unfold ten at h; omega)
  have e : ∀ k : Int, 0 ≤ k → (tb t k = true ↔ tb (km_and t (t - 1)) k = true ∨ k = klw t) ∧ ¬ (tb (km_and t (t - 1)) k = true ∧ k = klw t) ∧ (tb (km_and t (t - 1)) k = true → klw t < k) := by
    intro k k0
    by_cases k1 : k < 10
    · rw [d k k0 k1]
      by_cases z : k = klw t
      · subst z; simp [a3]
      · cases f : tb t k
        · simp [z]
        · have : ¬ k < klw t := fun w => by rw [b k k0 w] at f; cases f
          simp [z]; omega
    · rw [tb_big h (by omega), tb_big tr (by omega)]
      have : ¬ k = klw t := by omega
      simp [this]
  have sb : ksb (km_and t (t - 1)) t := (ksb_tb h).mpr ⟨tr, fun k k0 hk => ((e k k0).1).mpr (Or.inl hk)⟩
  have le := ksb_le h sb
  refine ⟨⟨tr, sb, ?_⟩, e⟩
  by_cases z : km_and t (t - 1) = t
  · have := (e (klw t) a1).2.1
    rw [z] at this
    exact absurd ⟨a3, rfl⟩ this
  · omega
theorem klw_pop {t : Int} (h : ten t) (h0 : t ≠ 0) : km_pop t = km_pop (km_and t (t - 1)) + 1 := by
  obtain ⟨⟨a1, a2, a3⟩, b⟩ := klw_split h h0
  have l := (klw_p h h0).1
  have k1 := kcnt_one (j := klw t) l.1 10
  rw [if_pos (show klw t < ((10 : Nat) : Int) from l.2.1)] at k1
  have e := kcnt_add (P := fun k => tb t k = true) (R := fun k => tb (km_and t (t - 1)) k = true) (T := fun k => k = klw t) 10 (fun k k0 _ => ⟨(b k k0).1, (b k k0).2.1⟩)
  rw [k1] at e
  rw [km_pop_cnt, km_pop_cnt]
  exact e
theorem klw_popand {t y : Int} (h : ten t) (h0 : t ≠ 0) (hy : 0 ≤ y) : km_pop (km_and t y) = km_pop (km_and (km_and t (t - 1)) y) + (if tb y (klw t) = true then 1 else 0) := by
  obtain ⟨⟨a1, a2, a3⟩, b⟩ := klw_split h h0
  have l := (klw_p h h0).1
  have k1 := kcnt_one (j := klw t) l.1 10
  rw [if_pos (show klw t < ((10 : Nat) : Int) from l.2.1)] at k1
  have t2 : t < 2147483648 := by unfold ten at h; omega
  have r2 : km_and t (t - 1) < 2147483648 := by unfold ten at a1; omega
  by_cases z : tb y (klw t) = true
  · rw [if_pos z]
    have e := kcnt_add (P := fun k => tb (km_and t y) k = true) (R := fun k => tb (km_and (km_and t (t - 1)) y) k = true) (T := fun k => k = klw t) 10 ?_
    · rw [k1] at e
      rw [km_pop_cnt, km_pop_cnt]
      exact e
    intro k k0 _
    rw [tb_and h.1 t2 hy, tb_and a1.1 r2 hy, Bool.and_eq_true, Bool.and_eq_true, (b k k0).1]
    have := (b k k0).2.1
    constructor
    · constructor
      · rintro ⟨w1 | w1, w2⟩
        · exact Or.inl ⟨w1, w2⟩
        · exact Or.inr w1
      · rintro (w | w)
        · exact ⟨Or.inl w.1, w.2⟩
        · subst w; exact ⟨Or.inr rfl, z⟩
    · rintro ⟨w1, w2⟩; exact this ⟨w1.1, w2⟩
  · rw [if_neg z, Int.add_zero, km_pop_cnt, km_pop_cnt]
    refine kcnt_cong 10 (fun k k0 _ => ?_)
    rw [tb_and h.1 t2 hy, tb_and a1.1 r2 hy, Bool.and_eq_true, Bool.and_eq_true, (b k k0).1]
    constructor
    · rintro ⟨w1 | w1, w2⟩
      · exact ⟨w1, w2⟩
      · subst w1; exact absurd w2 z
    · rintro ⟨w1, w2⟩; exact ⟨Or.inl w1, w2⟩
theorem kpop_andn {r y : Int} (h : ten r) (hy : ten y) : km_pop (km_and r (km_xor y (-1))) = km_pop r - km_pop (km_and r y) := by
  have : km_pop r = km_pop (km_and r y) + km_pop (km_and r (km_xor y (-1))) := by
    rw [km_pop_cnt, km_pop_cnt, km_pop_cnt]
    refine kcnt_add 10 (fun k k0 _ => ?_)
    rw [tb_andn h hy, tb_and h.1 (by unfold ten at h; omega) hy.1]
    cases tb r k <;> cases tb y k <;> simp
  omega
theorem kpop_sub {r y : Int} (h : ten r) (hy : 0 ≤ y) : km_pop (km_and r y) ≤ km_pop r := by
  rw [km_pop_cnt, km_pop_cnt]
  have t2 : r < 2147483648 := by unfold ten at h; omega
  have e := kcnt_add (P := fun k => tb r k = true) (R := fun k => tb (km_and r y) k = true) (T := fun k => tb r k = true ∧ ¬ tb y k = true) 10 (fun k k0 _ => by
    rw [tb_and h.1 t2 hy]
    cases tb r k <;> cases tb y k <;> simp)
  have := kcnt_b (P := fun k => tb r k = true ∧ ¬ tb y k = true) 10
  omega
/-- the twos of a set that R tells, the lesser first -/
noncomputable def kpr (R : Int → Int → Prop) (t : Int) : Int := ksm (fun k => if tb t k = true then kcnt (fun i => k < i ∧ tb t i = true ∧ R k i) 10 else 0) 10
theorem kpr_0 {R : Int → Int → Prop} : kpr R 0 = 0 := by
  unfold kpr
  rw [ksm_cong (h := fun _ => 0) 10 (fun k _ _ => by rw [tb_zero, if_neg (by decide)]), ksm_zero]
theorem kpr_low {R : Int → Int → Prop} {t : Int} (h : ten t) (h0 : t ≠ 0) : kpr R t = kpr R (km_and t (t - 1)) + kcnt (fun i => tb (km_and t (t - 1)) i = true ∧ R (klw t) i) 10 := by
  obtain ⟨⟨a1, a2, a3⟩, b⟩ := klw_split h h0
  have l := (klw_p h h0).1
  have k1 := ksm_one (j := klw t) (v := kcnt (fun i => tb (km_and t (t - 1)) i = true ∧ R (klw t) i) 10) l.1 10
  rw [if_pos (show klw t < ((10 : Nat) : Int) from l.2.1)] at k1
  unfold kpr
  rw [← k1, ← ksm_add]
  refine ksm_cong 10 (fun k k0 _ => ?_)
  obtain ⟨c1, c2, c3⟩ := b k k0
  show _ = _ + _
  by_cases z : k = klw t
  · rw [if_pos (c1.mpr (Or.inr z)), if_neg (fun w => c2 ⟨w, z⟩), if_pos z, Int.zero_add]
    subst z
    refine kcnt_cong 10 (fun i i0 _ => ?_)
    obtain ⟨d1, d2, d3⟩ := b i i0
    constructor
    · rintro ⟨w1, w2, w3⟩
      exact ⟨(d1.mp w2).resolve_right (by omega), w3⟩
    · rintro ⟨w1, w2⟩
      exact ⟨d3 w1, d1.mpr (Or.inl w1), w2⟩
  · rw [if_neg z, Int.add_zero]
    by_cases w : tb (km_and t (t - 1)) k = true
    · rw [if_pos (c1.mpr (Or.inl w)), if_pos w]
      have lk := c3 w
      refine kcnt_cong 10 (fun i i0 _ => ?_)
      obtain ⟨d1, d2, d3⟩ := b i i0
      constructor
      · rintro ⟨w1, w2, w3⟩
        exact ⟨w1, (d1.mp w2).resolve_right (by omega), w3⟩
      · rintro ⟨w1, w2, w3⟩
        exact ⟨w1, d1.mpr (Or.inl w2), w3⟩
    · rw [if_neg w, if_neg (fun y => (c1.mp y).elim w z)]
theorem ksm_gauss : ∀ (n : Nat), ksm (fun k => 9 - k) n * 2 = 19 * n - n * n := by
  intro n
  induction n with
  | zero => rfl
  | succ n ih =>
    unfold ksm
    rw [Int.add_mul, ih]
    have : (((n + 1 : Nat) : Int) * ((n + 1 : Nat) : Int)) = (n : Int) * n + 2 * n + 1 := by
      rw [show ((n + 1 : Nat) : Int) = (n : Int) + 1 by omega, Int.add_mul, Int.mul_add]; omega
    omega
theorem kpr_b {R : Int → Int → Prop} {t : Int} : 0 ≤ kpr R t ∧ kpr R t ≤ 45 := by
  have key : ∀ (n : Nat), n ≤ 10 → 0 ≤ ksm (fun k => if tb t k = true then kcnt (fun i => k < i ∧ tb t i = true ∧ R k i) 10 else 0) n ∧ ksm (fun k => if tb t k = true then kcnt (fun i => k < i ∧ tb t i = true ∧ R k i) 10 else 0) n ≤ ksm (fun k => 9 - k) n := by
    intro n
    induction n with
    | zero => intro _; exact ⟨Int.le_refl _, Int.le_refl _⟩
    | succ n ih =>
      intro hn
      have h1 := ih (by omega)
      have h2 : 0 ≤ (if tb t (n : Int) = true then kcnt (fun i => (n : Int) < i ∧ tb t i = true ∧ R n i) 10 else 0) ∧ (if tb t (n : Int) = true then kcnt (fun i => (n : Int) < i ∧ tb t i = true ∧ R n i) 10 else 0) ≤ 9 - (n : Int) := by
        split
        · have a := kcnt_b (P := fun i => (n : Int) < i ∧ tb t i = true ∧ R n i) 10
          have c := kcnt_add (P := fun i : Int => True) (R := fun i => (n : Int) < i ∧ tb t i = true ∧ R n i) (T := fun i => ¬ ((n : Int) < i ∧ tb t i = true ∧ R n i)) 10 (fun k _ _ => ⟨⟨fun _ => Classical.em _, fun _ => trivial⟩, fun w => w.2 w.1⟩)
          have d : ∀ k : Nat, kcnt (fun i : Int => True) k = k := by
            intro k
            induction k with
            | zero => rfl
            | succ k ih => unfold kcnt; rw [ih, if_pos trivial]; omega
          have e : ∀ k : Nat, k ≤ 10 → ((if k ≤ n + 1 then k else n + 1 : Nat) : Int) ≤ kcnt (fun i => ¬ ((n : Int) < i ∧ tb t i = true ∧ R n i)) k := by
            intro k
            induction k with
            | zero => intro _; split <;> (unfold kcnt; omega)
            | succ k ih =>
              intro hk
              have := ih (by omega)
              unfold kcnt
              by_cases z : k ≤ n
              · rw [if_pos (show ¬ ((n : Int) < (k : Int) ∧ tb t (k : Int) = true ∧ R n k) from fun w => by omega)]
                split at this <;> split <;> omega
              · have : 0 ≤ @ite Int (¬ ((n : Int) < (k : Int) ∧ tb t (k : Int) = true ∧ R n k)) (Classical.propDecidable _) 1 0 := by split <;> decide
                split at * <;> split <;> omega
          have e2 := e 10 (by omega)
          rw [d 10] at c
          refine ⟨a.1, ?_⟩
          split at e2 <;> omega
        · omega
      exact ⟨Int.add_nonneg h1.1 h2.1, Int.add_le_add h1.2 h2.2⟩
  have k := key 10 (by decide)
  have g := ksm_gauss 10
  unfold kpr
  omega

