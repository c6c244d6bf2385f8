/-! ===== what class and reference keep alike ===== -/
def kI_trait (m : km_Mm) : Prop := ∀ k : Int, 0 ≤ k → k < m 5 1 → (m 125 (5 * k) = m 7 k ∧ m 125 (5 * k + 1) = m 8 k ∧ m 125 (5 * k + 2) = m 9 k ∧ m 125 (5 * k + 3) = m 10 k ∧ m 125 (5 * k + 4) = m 11 k) ∧ (0 ≤ m 7 k ∧ m 7 k < 6) ∧ (0 ≤ m 8 k ∧ m 8 k < 4) ∧ (0 ≤ m 9 k ∧ m 9 k < 100) ∧ (0 ≤ m 10 k ∧ m 10 k < 4) ∧ (0 ≤ m 11 k ∧ m 11 k < 2)
def kI_opt (m : km_Mm) : Prop := (0 ≤ m 19 1 ∧ m 19 1 ≤ 6 ∧ m 123 63 = m 19 1) ∧ (∀ o : Int, 0 ≤ o → o < m 19 1 → (m 151 o = m 20 o ∧ m 152 o = m 21 o) ∧ (0 ≤ m 20 o ∧ m 20 o < 6) ∧ (1 ≤ m 21 o ∧ m 21 o ≤ 30)) ∧
  (∀ o k : Int, 0 ≤ o → o < m 19 1 → 0 ≤ k → k < 10 → (0 ≤ m (23 + o) k ∧ m (23 + o) k ≤ 100) ∧ (k < m 5 1 → m 153 (6 * k + o) = m (23 + o) k) ∧ (m 5 1 ≤ k → m (23 + o) k = 100))
def kI_mil (m : km_Mm) : Prop := ∀ a b : Int, 0 ≤ a → a < 6 → 0 ≤ b → b < 6 → m 150 (6 * a + b) = m (30 + a) b ∧ 0 ≤ m (30 + a) b ∧ m (30 + a) b ≤ 9999
def kI_fl (m : km_Mm) : Prop := (0 ≤ m 59 0 ∧ m 59 0 ≤ 14 ∧ m 123 67 = m 59 0) ∧ ∀ f : Int, 0 ≤ f → f < m 59 0 → (m 154 f = m 60 f ∧ m 155 f = m 61 f ∧ m 156 f = m 62 f ∧ m 157 f = m 63 f ∧ m 158 f = m 64 f) ∧ (0 ≤ m 60 f ∧ m 60 f < 6) ∧ (0 ≤ m 61 f ∧ m 61 f < 6) ∧ m 60 f ≠ m 61 f ∧ (1 ≤ m 62 f ∧ m 62 f ≤ 30) ∧ (1 ≤ m 63 f ∧ m 63 f ≤ 9) ∧ (0 ≤ m 64 f ∧ m 64 f ≤ 999)
def kI_house (m : km_Mm) : Prop := (0 ≤ m 85 0 ∧ m 85 0 ≤ 4 ∧ m 123 83 = m 85 0) ∧ (∀ i : Int, 0 ≤ i → i < m 85 0 → m 163 i = m 86 i ∧ 1 ≤ m 86 i ∧ m 86 i ≤ 5) ∧ (0 ≤ m 85 2 ∧ m 85 2 ≤ 3 ∧ m 123 89 = m 85 2) ∧ (∀ i : Int, 0 ≤ i → i < m 85 2 → m 167 i = m 87 i ∧ 2 ≤ m 87 i ∧ m 87 i ≤ 6) ∧
  (∀ a : Int, 0 ≤ a → a < 10 → ten (m 88 a) ∧ ∀ b : Int, 0 ≤ b → b < 10 → m 164 (10 * a + b) = (if tb (m 88 a) b = true then 1 else 0) ∧ tb (m 88 b) a = tb (m 88 a) b ∧ (tb (m 88 a) b = true → a ≠ b)) ∧ ((∀ i : Int, 0 ≤ i → i < 3 → m 165 i = m 89 i ∧ 0 ≤ m 89 i ∧ m 89 i ≤ 99) ∧ m 123 87 = m 89 3 ∧ 1 ≤ m 89 3 ∧ m 89 3 ≤ 4)
def kI_meet (m : km_Mm) : Prop := ((-1 ≤ m 100 0 ∧ m 100 0 < m 19 1 ∧ m 123 81 = m 100 0) ∧ m 123 80 = (if m 100 0 = -1 then 0 else 1)) ∧ (m 123 82 = m 100 1 ∧ ten (m 100 1) ∧ ∀ k : Int, m 5 1 ≤ k → k < 10 → tb (m 100 1) k = false) ∧ (0 ≤ m 100 4 ∧ m 100 4 ≤ 8 ∧ m 123 91 = m 100 4) ∧
  (∀ k : Int, 0 ≤ k → k < 10 → (0 ≤ m 101 k ∧ m 101 k ≤ 999999) ∧ (k < m 5 1 → m 170 k = m 101 k) ∧ (tb (m 100 1) k = false → m 101 k = 0)) ∧
  (m 100 0 = -1 → m 100 1 = 0 ∧ m 100 4 = 0 ∧ ∀ k : Int, 0 ≤ k → k < 10 → m 102 k = -1 ∧ m 112 k = 0) ∧
  (∀ k : Int, 0 ≤ k → k < 10 → (-1 ≤ m 102 k ∧ m 102 k < 4) ∧ (m 100 0 ≠ -1 → k < m 5 1 → m 166 k = m 102 k) ∧ (m 5 1 ≤ k → m 102 k = -1)) ∧
  (∀ d k : Int, 0 ≤ d → d < m 100 4 → 0 ≤ k → k < 10 → (-1 ≤ m (104 + d) k ∧ m (104 + d) k < 3) ∧ (k < m 5 1 → m 168 (10 * d + k) = m (104 + d) k) ∧ (m 5 1 ≤ k → m (104 + d) k = -1)) ∧
  (∀ a : Int, 0 ≤ a → a < 10 → ten (m 112 a)) ∧ (m 100 0 ≠ -1 → ∀ a b : Int, 0 ≤ b → b < a → a < 10 → m 169 (10 * a + b) = (if tb (m 112 b) a = true then 1 else 0))
def kI_host (N : Int) (m : km_Mm) : Prop := ∀ b : Int, 0 ≤ b → b < 4 → (m 182 b = m 1 b ∧ 0 ≤ m 1 b ∧ m 1 b ≤ N) ∧ (m 183 b = m 2 b ∧ -1 ≤ m 2 b ∧ m 2 b ≤ 999)
def kI_tape (m : km_Mm) : Prop := (0 ≤ m 3 1 ∧ m 3 1 ≤ 600 ∧ m 123 1 = m 3 1) ∧ (∀ i : Int, 0 ≤ i → i < m 3 1 → m 124 i = m 4 i ∧ 0 ≤ m 4 i ∧ m 4 i < 256) ∧ m 123 23 = m 37 2 ∧ m 123 24 = m 37 3
/-- the cells of the programs -/
def kP (b j : Int) : Prop := (40 ≤ b ∧ b ≤ 51) ∨ (138 ≤ b ∧ b ≤ 142) ∨ (b = 123 ∧ j = 35) ∨ b = 137
/-- all but the programs -/
def kI0 (N : Int) (m : km_Mm) : Prop := kI_book m ∧ kI_scr m ∧ kI_trait m ∧ kI_opt m ∧ kI_mil m ∧ kI_fl m ∧ kI_house m ∧ kI_meet m ∧ kI_host N m ∧ kI_tape m
/-- m' has the same cells of programs (but for scratch) -/
def kP_eq (m m' : km_Mm) : Prop := ∀ b j : Int, kP b j → ¬ kJ b j → m' b j = m b j
theorem kP_rf {m : km_Mm} : kP_eq m m := fun _ _ _ _ => rfl
theorem kP_jk {m m' : km_Mm} (h : km_jk m m') : kP_eq m m' := fun b j _ q => h b j q
theorem kI0_jk {N : Int} {m m' : km_Mm} (h : kI0 N m) (k : km_jk m m') (s : kI_scr m') : kI0 N m' := by
  obtain ⟨h1, h2, h3, h4, h5, h6, h7, h8, h9, h10⟩ := h
  have r : ∀ b : Int, ¬ (b = 3 ∨ b = 5 ∨ (16 ≤ b ∧ b ≤ 18) ∨ (36 ≤ b ∧ b ≤ 39) ∨ (52 ≤ b ∧ b ≤ 59) ∨ (65 ≤ b ∧ b ≤ 84) ∨ (90 ≤ b ∧ b ≤ 99) ∨ (113 ≤ b ∧ b ≤ 123) ∨ (130 ≤ b ∧ b ≤ 136) ∨ (138 ≤ b ∧ b ≤ 149) ∨ (159 ≤ b ∧ b ≤ 162) ∨ (171 ≤ b ∧ b ≤ 181) ∨ b = 184) → ∀ j, m' b j = m b j := fun b hb j => k b j (kJ_no (by omega))
  have f5 : ∀ j : Int, 1 ≤ j → j ≤ 3 → m' 5 j = m 5 j := fun j a b => k 5 j (by unfold kJ; omega)
  have f3 : m' 3 1 = m 3 1 := k 3 1 (by unfold kJ; omega)
  have f37 : ∀ j : Int, 2 ≤ j → j ≤ 3 → m' 37 j = m 37 j := fun j a b => k 37 j (by unfold kJ; omega)
  have f59 : m' 59 0 = m 59 0 := k 59 0 (by unfold kJ; omega)
  have g : ∀ j : Int, ¬ (j = 2 ∨ j = 14 ∨ (19 ≤ j ∧ j ≤ 21) ∨ (25 ≤ j ∧ j ≤ 29) ∨ (36 ≤ j ∧ j ≤ 61) ∨ (77 ≤ j ∧ j ≤ 79) ∨ j = 101) → m' 123 j = m 123 j := fun j a => k 123 j (by unfold kJ; omega)
  have e1 := f5 1 (by decide) (by decide)
  refine ⟨kI_book_jk h1 k, s, ?_, ?_, ?_, ?_, ?_, ?_, ?_, ?_⟩
  · unfold kI_trait at *
    simp only [e1, r 125 (by decide), r 7 (by decide), r 8 (by decide), r 9 (by decide), r 10 (by decide), r 11 (by decide)]; exact h3
  · unfold kI_opt at *
    rw [e1, r 19 (by decide) 1, g 63 (by decide)]
    refine ⟨h4.1, fun o o0 o1 => ?_, fun o k o0 o1 k0 k1 => ?_⟩
    · rw [r 151 (by decide), r 152 (by decide), r 20 (by decide), r 21 (by decide)]; exact h4.2.1 o o0 o1
    · rw [r (23 + o) (by omega), r 153 (by decide)]; exact h4.2.2 o k o0 o1 k0 k1
  · intro a b a0 a1 b0 b1
    rw [r (30 + a) (by omega), r 150 (by decide)]; exact h5 a b a0 a1 b0 b1
  · unfold kI_fl at *
    rw [f59, g 67 (by decide)]
    simp only [r 154 (by decide), r 155 (by decide), r 156 (by decide), r 157 (by decide), r 158 (by decide), r 60 (by decide), r 61 (by decide), r 62 (by decide), r 63 (by decide), r 64 (by decide)]; exact h6
  · unfold kI_house at *
    rw [g 83 (by decide), g 89 (by decide), g 87 (by decide)]
    simp only [r 85 (by decide), r 163 (by decide), r 86 (by decide), r 167 (by decide), r 87 (by decide), r 88 (by decide), r 164 (by decide), r 165 (by decide), r 89 (by decide)]; exact h7
  · unfold kI_meet at *
    rw [e1, g 81 (by decide), g 80 (by decide), g 82 (by decide), g 91 (by decide)]
    simp only [r 100 (by decide), r 19 (by decide), r 101 (by decide), r 170 (by decide), r 102 (by decide), r 166 (by decide), r 168 (by decide), r 112 (by decide), r 169 (by decide)]
    obtain ⟨a1, a2, a3, a4, a5, a6, a7, a8⟩ := h8
    refine ⟨a1, a2, a3, a4, a5, a6, fun d k d0 d1 k0 k1 => ?_, a8⟩
    rw [r (104 + d) (by omega)]; exact a7 d k d0 d1 k0 k1
  · unfold kI_host at *
    simp only [r 182 (by decide), r 1 (by decide), r 183 (by decide), r 2 (by decide)]; exact h9
  · unfold kI_tape at *
    rw [f3, g 1 (by decide), g 23 (by decide), g 24 (by decide), f37 2 (by decide) (by decide), f37 3 (by decide) (by decide)]
    simp only [r 124 (by decide), r 4 (by decide)]; exact h10

