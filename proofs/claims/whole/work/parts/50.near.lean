/-! ===== steps up: what both climbs find ===== -/
def kr_R (par : Int → Int → Prop) (fr : Int) : Nat → Int → Prop
  | 0, x => x = fr
  | n + 1, x => ∃ y, kr_R par fr n y ∧ par y x
/-- d is the least number of steps from fr up to x, -1 without any -/
def kr_D (par : Int → Int → Prop) (fr x d : Int) : Prop := (d = -1 ∧ ∀ t, ¬ kr_R par fr t x) ∨ (0 ≤ d ∧ kr_R par fr d.toNat x ∧ ∀ s : Nat, s < d.toNat → ¬ kr_R par fr s x)
theorem kr_D_one {par : Int → Int → Prop} {fr x d e : Int} (h : kr_D par fr x d) (k : kr_D par fr x e) : d = e := by
  rcases h with ⟨h1, h2⟩ | ⟨h1, h2, h3⟩ <;> rcases k with ⟨k1, k2⟩ | ⟨k1, k2, k3⟩
  · omega
  · exact absurd k2 (h2 _)
  · exact absurd h2 (k2 _)
  · rcases Nat.lt_trichotomy d.toNat e.toNat with z | z | z
    · exact absurd h2 (k3 _ z)
    · omega
    · exact absurd k2 (h3 _ z)
theorem kr_R_cong {par par' : Int → Int → Prop} {fr : Int} (h : ∀ y x, par y x ↔ par' y x) : ∀ (t : Nat) (x : Int), kr_R par fr t x ↔ kr_R par' fr t x := by
  intro t
  induction t with
  | zero => intro x; exact Iff.rfl
  | succ t ih => intro x; unfold kr_R; exact ⟨fun ⟨y, a, b⟩ => ⟨y, (ih y).mp a, (h y x).mp b⟩, fun ⟨y, a, b⟩ => ⟨y, (ih y).mpr a, (h y x).mpr b⟩⟩
theorem kr_R_le {par : Int → Int → Prop} {fr : Int} (hp : ∀ y x, par y x → x < y) : ∀ (t : Nat) (x : Int), kr_R par fr t x → x + t ≤ fr := by
  intro t
  induction t with
  | zero => intro x h; unfold kr_R at h; omega
  | succ t ih => intro x h; unfold kr_R at h; obtain ⟨y, a, b⟩ := h; have := ih y a; have := hp y x b; omega
theorem kr_R_in {par : Int → Int → Prop} {fr : Int} (hf : 0 ≤ fr ∧ fr < 10) (hp : ∀ y x, par y x → 0 ≤ x ∧ x < 10) : ∀ (t : Nat) (x : Int), kr_R par fr t x → 0 ≤ x ∧ x < 10 := by
  intro t x h
  cases t with
  | zero => unfold kr_R at h; omega
  | succ t => unfold kr_R at h; obtain ⟨y, a, b⟩ := h; exact hp y x b
/-- the sets P of parents -/
def kr_P (P : Int → Int) (y x : Int) : Prop := (0 ≤ y ∧ y < 10) ∧ (0 ≤ x ∧ x < 10) ∧ tb (P y) x = true
theorem kn_cl1_spec {P : Int → Int} {lv nn : Int} (hP : ∀ a : Int, 0 ≤ a → a < 10 → ten (P a)) (hl : ten lv) : ∀ (n : Nat) (k ab : Int) (f : Int → Int), 0 ≤ k → k + n = 10 → ten ab →
    ten (kn_cl1 P lv nn n k ab f).1 ∧ (∀ x : Int, 0 ≤ x → (tb (kn_cl1 P lv nn n k ab f).1 x = true ↔ tb ab x = true ∨ ∃ y, k ≤ y ∧ y < 10 ∧ tb lv y = true ∧ tb (P y) x = true)) ∧
      ∀ x : Int, (kn_cl1 P lv nn n k ab f).2 x = if k ≤ x ∧ x < 10 ∧ tb lv x = true ∧ f x = -1 then nn else f x := by
  intro n
  induction n with
  | zero =>
    intro k ab f h0 h1 h2
    refine ⟨h2, fun x hx => ?_, fun x => ?_⟩
    · unfold kn_cl1
      constructor
      · exact fun h => Or.inl h
      · rintro (h | ⟨y, a, b, -⟩)
        · exact h
        · omega
    · unfold kn_cl1; rw [if_neg (by omega)]
  | succ n ih =>
    intro k ab f h0 h1 h2
    have hk : k < 10 := by omega
    have hb := ks_bit0 (x := lv) (k := k) hl.1 (by have := hl.2; omega) h0 (by omega)
    unfold kn_cl1
    by_cases z : tb lv k = true
    · have hz : ¬ km_and (km_shr lv k) 1 = 0 := fun q => by rw [hb.mp q] at z; cases z
      rw [if_neg hz]
      have hPk := hP k h0 hk
      obtain ⟨i1, i2, i3⟩ := ih (k + 1) (km_or ab (P k)) (if f k = -1 then km_u1 f k nn else f) (by omega) (by omega) (ten_or h2 hPk)
      refine ⟨i1, fun x hx => ?_, fun x => ?_⟩
      · rw [i2 x hx, tb_or h2.1 (by have := h2.2; omega) hPk.1 (by have := hPk.2; omega), Bool.or_eq_true]
        constructor
        · rintro ((h | h) | ⟨y, a, b, c, d⟩)
          · exact Or.inl h
          · exact Or.inr ⟨k, by omega, hk, z, h⟩
          · exact Or.inr ⟨y, by omega, b, c, d⟩
        · rintro (h | ⟨y, a, b, c, d⟩)
          · exact Or.inl (Or.inl h)
          · by_cases e : y = k
            · subst e; exact Or.inl (Or.inr d)
            · exact Or.inr ⟨y, by omega, b, c, d⟩
      · rw [i3]
        by_cases e : x = k
        · subst e
          rw [if_neg (by omega)]
          by_cases g : f x = -1
          · rw [if_pos g, if_pos ⟨by omega, hk, z, g⟩, km_u1_s]
          · rw [if_neg g, if_neg (fun q => g q.2.2.2)]
        · have e2 : (if f k = -1 then km_u1 f k nn else f) x = f x := by split; exact km_u1_o e; rfl
          rw [e2]
          by_cases q : k + 1 ≤ x ∧ x < 10 ∧ tb lv x = true ∧ f x = -1
          · rw [if_pos q, if_pos ⟨by omega, q.2⟩]
          · rw [if_neg q, if_neg (fun r => q ⟨by omega, r.2⟩)]
    · have z : tb lv k = false := by cases h : tb lv k <;> simp_all
      rw [if_pos (hb.mpr z)]
      obtain ⟨i1, i2, i3⟩ := ih (k + 1) ab f (by omega) (by omega) h2
      refine ⟨i1, fun x hx => ?_, fun x => ?_⟩
      · rw [i2 x hx]
        constructor
        · rintro (h | ⟨y, a, b, c, d⟩)
          · exact Or.inl h
          · exact Or.inr ⟨y, by omega, b, c, d⟩
        · rintro (h | ⟨y, a, b, c, d⟩)
          · exact Or.inl h
          · by_cases e : y = k
            · subst e; rw [z] at c; cases c
            · exact Or.inr ⟨y, by omega, b, c, d⟩
      · rw [i3]
        by_cases e : x = k
        · subst e
          rw [if_neg (by omega), if_neg (fun q => by rw [z] at q; cases q.2.2.1)]
        · by_cases q : k + 1 ≤ x ∧ x < 10 ∧ tb lv x = true ∧ f x = -1
          · rw [if_pos q, if_pos ⟨by omega, q.2⟩]
          · rw [if_neg q, if_neg (fun r => q ⟨by omega, r.2⟩)]
theorem kn_cl2_spec {P : Int → Int} {fr : Int} (hf : 0 ≤ fr ∧ fr < 10) (hP : ∀ a : Int, 0 ≤ a → a < 10 → ten (P a)) (hd : ∀ y x, kr_P P y x → x < y) : ∀ (n : Nat) (nn lv : Int) (f : Int → Int), 0 ≤ nn → nn + n = 10 → ten lv →
    (∀ x : Int, 0 ≤ x → x < 10 → (tb lv x = true ↔ kr_R (kr_P P) fr nn.toNat x)) →
    (∀ x : Int, 0 ≤ x → x < 10 → (f x = -1 ∧ ∀ t : Nat, (t : Int) < nn → ¬ kr_R (kr_P P) fr t x) ∨ (0 ≤ f x ∧ kr_R (kr_P P) fr (f x).toNat x ∧ ∀ s : Nat, s < (f x).toNat → ¬ kr_R (kr_P P) fr s x)) →
    ∀ x : Int, 0 ≤ x → x < 10 → kr_D (kr_P P) fr x (kn_cl2 P n nn lv f x) := by
  intro n
  induction n with
  | zero =>
    intro nn lv f h0 h1 h2 h3 h4 x x0 x1
    unfold kn_cl2
    rcases h4 x x0 x1 with ⟨a, b⟩ | a
    · refine Or.inl ⟨a, fun t ht => ?_⟩
      have := kr_R_le (fun y x h => hd y x h) t x ht
      exact b t (by omega) ht
    · exact Or.inr a
  | succ n ih =>
    intro nn lv f h0 h1 h2 h3 h4
    unfold kn_cl2
    obtain ⟨s1, s2, s3⟩ := kn_cl1_spec (nn := nn) hP h2 10 0 0 f (by omega) (by omega) ten_0
    have en : (nn + 1).toNat = nn.toNat + 1 := by omega
    refine ih (nn + 1) _ _ (by omega) (by omega) s1 (fun x x0 x1 => ?_) (fun x x0 x1 => ?_)
    · rw [s2 x x0, tb_zero, en]
      unfold kr_R
      constructor
      · rintro (h | ⟨y, a, b, c, d⟩)
        · cases h
        · exact ⟨y, (h3 y a b).mp c, ⟨a, b⟩, ⟨x0, x1⟩, d⟩
      · rintro ⟨y, a, b, c, d⟩
        exact Or.inr ⟨y, b.1, b.2, (h3 y b.1 b.2).mpr a, d⟩
    · rw [s3 x]
      rcases h4 x x0 x1 with ⟨a, b⟩ | a
      · by_cases z : tb lv x = true
        · rw [if_pos ⟨x0, x1, z, a⟩]
          exact Or.inr ⟨h0, (h3 x x0 x1).mp z, fun s hs => b s (by omega)⟩
        · rw [if_neg (fun q => z q.2.2.1)]
          refine Or.inl ⟨a, fun t ht => ?_⟩
          by_cases e : (t : Int) < nn
          · exact b t e
          · have : t = nn.toNat := by omega
            subst this
            exact fun q => z ((h3 x x0 x1).mpr q)
      · rw [if_neg (fun q => by omega)]
        exact Or.inr a
/-- the class's climb finds the least steps -/
theorem kn_cl2_D {P : Int → Int} {fr : Int} (hf : 0 ≤ fr ∧ fr < 10) (hP : ∀ a : Int, 0 ≤ a → a < 10 → ten (P a)) (hd : ∀ y x, kr_P P y x → x < y) {f : Int → Int} (hf0 : ∀ x : Int, 0 ≤ x → x < 10 → f x = -1) :
    ∀ x : Int, 0 ≤ x → x < 10 → kr_D (kr_P P) fr x (kn_cl2 P 10 0 (km_shl 1 fr) f x) := by
  refine kn_cl2_spec hf hP hd 10 0 _ f (by omega) (by omega) (ten_one hf.1 hf.2) (fun x x0 x1 => ?_) (fun x x0 x1 => ?_)
  · rw [tb_one hf.1 (by omega) x0]
    show decide (x = fr) = true ↔ x = fr
    simp
  · exact Or.inl ⟨hf0 x x0 x1, fun t ht => by omega⟩
/-! ===== the reference's climb ===== -/
def kq_a (pr : Int → Int) (y : Int) : Nat → Int → (Int → Int) → (Int → Int)
  | 0, _, f => f
  | n + 1, i, f => kq_a pr y n (i + 1) (if f y + 1 < f (pr (2 * y + i)) then km_u1 f (pr (2 * y + i)) (f y + 1) else f)
def kq_b (w : Int) (A B : Int → Int) (y : Int) : Nat → Int → (Int → Int) → (Int → Int)
  | 0, _, f => f
  | n + 1, i, f => kq_b w A B y n (i + 1) (if km_and (km_shr w i) 1 = 1 ∧ A i = y ∧ f y + 1 < f (B i) then km_u1 f (B i) (f y + 1) else f)
def kq_c (w : Int) (pn pr A B : Int → Int) (mb : Int) : Nat → (Int → Int) → (Int → Int)
  | 0, f => f
  | n + 1, f => kq_c w pn pr A B mb n (if f n = 1000000 then f else kq_b w A B n mb.toNat 0 (kq_a pr n (pn n).toNat 0 f))
theorem kq_a_spec {pr : Int → Int} {y : Int} : ∀ (n : Nat) (i : Int) (f : Int → Int), (∀ j, i ≤ j → j < i + n → pr (2 * y + j) ≠ y) → ∀ z : Int, (kq_a pr y n i f z = @ite Int ((∃ j, i ≤ j ∧ j < i + n ∧ pr (2 * y + j) = z) ∧ f y + 1 < f z) (Classical.propDecidable _) (f y + 1) (f z)) := by
  intro n
  induction n with
  | zero =>
    intro i f h z
    unfold kq_a
    rw [if_neg (fun q => by obtain ⟨⟨j, a, b, -⟩, -⟩ := q; omega)]
  | succ n ih =>
    intro i f h z
    unfold kq_a
    classical
    have hi := h i (by omega) (by omega)
    have hfy : (if f y + 1 < f (pr (2 * y + i)) then km_u1 f (pr (2 * y + i)) (f y + 1) else f) y = f y := by split; exact km_u1_o (fun q => hi q.symm); rfl
    rw [ih (i + 1) _ (fun j a b => h j (by omega) (by omega)) z, hfy]
    by_cases e : pr (2 * y + i) = z
    · subst e
      by_cases g : f y + 1 < f (pr (2 * y + i))
      · rw [if_pos g, km_u1_s, if_neg (fun q => by omega), if_pos ⟨⟨i, by omega, by omega, rfl⟩, g⟩]
      · rw [if_neg g, if_neg (fun q => g q.2), if_neg (fun q => g q.2)]
    · have e2 : (if f y + 1 < f (pr (2 * y + i)) then km_u1 f (pr (2 * y + i)) (f y + 1) else f) z = f z := by split; exact km_u1_o (fun q => e q.symm); rfl
      rw [e2]
      by_cases q : (∃ j, i + 1 ≤ j ∧ j < i + 1 + n ∧ pr (2 * y + j) = z) ∧ f y + 1 < f z
      · obtain ⟨⟨j, a, b, c⟩, d⟩ := q
        rw [if_pos ⟨⟨j, a, b, c⟩, d⟩, if_pos ⟨⟨j, by omega, by omega, c⟩, d⟩]
      · rw [if_neg q, if_neg]
        rintro ⟨⟨j, a, b, c⟩, d⟩
        by_cases g : j = i
        · subst g; exact e c
        · exact q ⟨⟨j, by omega, by omega, c⟩, d⟩
theorem kq_b_spec {w : Int} {A B : Int → Int} {y : Int} : ∀ (n : Nat) (i : Int) (f : Int → Int), (∀ j, i ≤ j → j < i + n → A j = y → B j ≠ y) → ∀ z : Int, (kq_b w A B y n i f z = @ite Int ((∃ j, i ≤ j ∧ j < i + n ∧ km_and (km_shr w j) 1 = 1 ∧ A j = y ∧ B j = z) ∧ f y + 1 < f z) (Classical.propDecidable _) (f y + 1) (f z)) := by
  intro n
  induction n with
  | zero =>
    intro i f h z
    unfold kq_b
    rw [if_neg (fun q => by obtain ⟨⟨j, a, b, -⟩, -⟩ := q; omega)]
  | succ n ih =>
    intro i f h z
    unfold kq_b
    classical
    have hi := h i (by omega) (by omega)
    have hfy : (if km_and (km_shr w i) 1 = 1 ∧ A i = y ∧ f y + 1 < f (B i) then km_u1 f (B i) (f y + 1) else f) y = f y := by
      split
      · next q => exact km_u1_o (fun r => hi q.2.1 r.symm)
      · rfl
    rw [ih (i + 1) _ (fun j a b => h j (by omega) (by omega)) z, hfy]
    by_cases e : km_and (km_shr w i) 1 = 1 ∧ A i = y ∧ B i = z
    · obtain ⟨e1, e2, e3⟩ := e
      by_cases g : f y + 1 < f z
      · have e4 : (if km_and (km_shr w i) 1 = 1 ∧ A i = y ∧ f y + 1 < f (B i) then km_u1 f (B i) (f y + 1) else f) z = f y + 1 := by
          rw [if_pos ⟨e1, e2, e3.symm ▸ g⟩, e3, km_u1_s]
        rw [e4, if_neg (fun q => by omega), if_pos ⟨⟨i, by omega, by omega, e1, e2, e3⟩, g⟩]
      · have e4 : (if km_and (km_shr w i) 1 = 1 ∧ A i = y ∧ f y + 1 < f (B i) then km_u1 f (B i) (f y + 1) else f) z = f z := by
          rw [if_neg (fun q => g (e3 ▸ q.2.2))]
        rw [e4, if_neg (fun q => g q.2), if_neg (fun q => g q.2)]
    · have e2 : (if km_and (km_shr w i) 1 = 1 ∧ A i = y ∧ f y + 1 < f (B i) then km_u1 f (B i) (f y + 1) else f) z = f z := by
        split
        · next q => exact km_u1_o (fun r => e ⟨q.1, q.2.1, r.symm⟩)
        · rfl
      rw [e2]
      by_cases q : (∃ j, i + 1 ≤ j ∧ j < i + 1 + n ∧ km_and (km_shr w j) 1 = 1 ∧ A j = y ∧ B j = z) ∧ f y + 1 < f z
      · obtain ⟨⟨j, a, b, c⟩, d⟩ := q
        rw [if_pos ⟨⟨j, a, b, c⟩, d⟩, if_pos ⟨⟨j, by omega, by omega, c⟩, d⟩]
      · rw [if_neg q, if_neg]
        rintro ⟨⟨j, a, b, c⟩, d⟩
        by_cases g : j = i
        · subst g; exact e c
        · exact q ⟨⟨j, by omega, by omega, c⟩, d⟩
/-- the reference's parents in the world w -/
def kr_Q (w : Int) (pn pr A B : Int → Int) (mb y x : Int) : Prop := (∃ i, 0 ≤ i ∧ i < pn y ∧ pr (2 * y + i) = x) ∨ (∃ i, 0 ≤ i ∧ i < mb ∧ km_and (km_shr w i) 1 = 1 ∧ A i = y ∧ B i = x)
theorem kq_ba {w : Int} {pn pr A B : Int → Int} {mb y : Int} {f : Int → Int} (hm : 0 ≤ mb) (hp : 0 ≤ pn y) (hd : ∀ x, kr_Q w pn pr A B mb y x → x < y) (hA : ∀ j, 0 ≤ j → j < mb → A j = y → B j < y) (z : Int) :
    (kr_Q w pn pr A B mb y z ∧ f y + 1 < f z → kq_b w A B y mb.toNat 0 (kq_a pr y (pn y).toNat 0 f) z = f y + 1) ∧ (¬ (kr_Q w pn pr A B mb y z ∧ f y + 1 < f z) → kq_b w A B y mb.toNat 0 (kq_a pr y (pn y).toNat 0 f) z = f z) := by
  have a := fun z => kq_a_spec (pr := pr) (y := y) (pn y).toNat 0 f (fun j a b c => by have := hd y (Or.inl ⟨j, a, by omega, c⟩); omega) z
  have hy : kq_a pr y (pn y).toNat 0 f y = f y := by rw [a y, if_neg (fun q => by omega)]
  rw [kq_b_spec mb.toNat 0 _ (fun j a b c d => by have := hA j a (by omega) c; omega) z, hy, a z]
  constructor
  · rintro ⟨q, h⟩
    by_cases g : (∃ j, 0 ≤ j ∧ j < 0 + ((pn y).toNat : Int) ∧ pr (2 * y + j) = z) ∧ f y + 1 < f z
    · rw [if_pos g]; split <;> rfl
    · rw [if_neg g]
      rcases q with ⟨j, a1, a2, a3⟩ | ⟨j, a1, a2, a3⟩
      · exact absurd ⟨⟨j, a1, by omega, a3⟩, h⟩ g
      · rw [if_pos ⟨⟨j, a1, by omega, a3⟩, h⟩]
  · intro h
    have g : ¬ ((∃ j, 0 ≤ j ∧ j < 0 + ((pn y).toNat : Int) ∧ pr (2 * y + j) = z) ∧ f y + 1 < f z) := fun ⟨⟨j, a1, a2, a3⟩, k⟩ => h ⟨Or.inl ⟨j, a1, by omega, a3⟩, k⟩
    rw [if_neg g, if_neg]
    rintro ⟨⟨j, a1, a2, a3⟩, k⟩
    exact h ⟨Or.inr ⟨j, a1, by omega, a3⟩, k⟩
theorem kq_c_spec {w : Int} {pn pr A B : Int → Int} {mb fr : Int} (hm : 0 ≤ mb) (hf : 0 ≤ fr ∧ fr < 10) (hp : ∀ y, 0 ≤ y → y < 10 → 0 ≤ pn y) (hd : ∀ y x, 0 ≤ y → y < 10 → kr_Q w pn pr A B mb y x → 0 ≤ x ∧ x < y) (hA : ∀ j, 0 ≤ j → j < mb → B j < A j) :
    ∀ (n : Nat) (f : Int → Int), (n : Int) ≤ fr + 1 →
    (∀ x : Int, 0 ≤ x → x < 10 → (f x = 1000000 ∨ (0 ≤ f x ∧ f x + x ≤ fr ∧ kr_R (fun y x => (0 ≤ y ∧ y < 10) ∧ kr_Q w pn pr A B mb y x) fr (f x).toNat x))) → f fr = 0 →
    (∀ y x : Int, (n : Int) ≤ y → y < 10 → kr_Q w pn pr A B mb y x → f y ≠ 1000000 → f x ≤ f y + 1) →
    (∀ x : Int, 0 ≤ x → x < 10 → (kq_c w pn pr A B mb n f x = 1000000 ∨ (0 ≤ kq_c w pn pr A B mb n f x ∧ kq_c w pn pr A B mb n f x + x ≤ fr ∧ kr_R (fun y x => (0 ≤ y ∧ y < 10) ∧ kr_Q w pn pr A B mb y x) fr (kq_c w pn pr A B mb n f x).toNat x))) ∧ kq_c w pn pr A B mb n f fr = 0 ∧
    (∀ y x : Int, 0 ≤ y → y < 10 → kr_Q w pn pr A B mb y x → kq_c w pn pr A B mb n f y ≠ 1000000 → kq_c w pn pr A B mb n f x ≤ kq_c w pn pr A B mb n f y + 1) := by
  intro n
  induction n with
  | zero =>
    intro f h0 h1 h2 h3
    unfold kq_c
    exact ⟨h1, h2, fun y x a b c d => h3 y x (by omega) b c d⟩
  | succ n ih =>
    intro f h0 h1 h2 h3
    unfold kq_c
    have hn0 : (0 : Int) ≤ n := by omega
    have hn1 : (n : Int) < 10 := by omega
    by_cases z : f n = 1000000
    · rw [if_pos z]
      refine ih f (by omega) h1 h2 (fun y x a b c d => ?_)
      by_cases e : y = n
      · subst e; exact absurd z d
      · exact h3 y x (by omega) b c d
    · rw [if_neg z]
      have hba := fun x => kq_ba (f := f) hm (hp n hn0 hn1) (fun x q => (hd n x hn0 hn1 q).2) (fun j a b c => by have := hA j a b; omega) x
      obtain ⟨q1, q2, q3⟩ := (h1 n hn0 hn1).resolve_left z
      have same : ∀ x : Int, (n : Int) ≤ x → kq_b w A B n mb.toNat 0 (kq_a pr n (pn n).toNat 0 f) x = f x := fun x hx => (hba x).2 (fun q => by have := (hd n x hn0 hn1 q.1).2; omega)
      refine ih _ (by omega) (fun x x0 x1 => ?_) ?_ (fun y x a b c d => ?_)
      · by_cases g : kr_Q w pn pr A B mb n x ∧ f n + 1 < f x
        · rw [(hba x).1 g]
          have := hd n x hn0 hn1 g.1
          refine Or.inr ⟨by omega, by omega, ?_⟩
          have e : (f n + 1).toNat = (f n).toNat + 1 := by omega
          rw [e]
          exact ⟨n, q3, ⟨hn0, hn1⟩, g.1⟩
        · rw [(hba x).2 g]; exact h1 x x0 x1
      · by_cases g : (n : Int) ≤ fr
        · rw [same fr g]; exact h2
        · omega
      · rw [same y a] at d ⊢
        by_cases g : kr_Q w pn pr A B mb n x ∧ f n + 1 < f x
        · rw [(hba x).1 g]
          by_cases e : y = n
          · subst e; omega
          · have := h3 y x (by omega) b c d; omega
        · rw [(hba x).2 g]
          by_cases e : y = n
          · subst e
            by_cases k : f n + 1 < f x
            · exact absurd ⟨c, k⟩ g
            · omega
          · exact h3 y x (by omega) b c d
/-- the reference's climb finds the least steps -/
theorem kq_c_D {w : Int} {pn pr A B : Int → Int} {mb fr : Int} (hm : 0 ≤ mb) (hf : 0 ≤ fr ∧ fr < 10) (hp : ∀ y, 0 ≤ y → y < 10 → 0 ≤ pn y) (hd : ∀ y x, 0 ≤ y → y < 10 → kr_Q w pn pr A B mb y x → 0 ≤ x ∧ x < y) (hA : ∀ j, 0 ≤ j → j < mb → B j < A j) {f : Int → Int} (h : ∀ x : Int, 0 ≤ x → x < 10 → f x = if x = fr then 0 else 1000000) (x : Int) (x0 : 0 ≤ x) (x1 : x < 10) :
    kr_D (fun y x => (0 ≤ y ∧ y < 10) ∧ kr_Q w pn pr A B mb y x) fr x (if kq_c w pn pr A B mb (fr + 1).toNat f x = 1000000 then -1 else kq_c w pn pr A B mb (fr + 1).toNat f x) := by
  obtain ⟨a, b, c⟩ := kq_c_spec (w := w) (pn := pn) (pr := pr) hm hf hp hd hA (fr + 1).toNat f (by omega) (fun x x0 x1 => by
    rw [h x x0 x1]
    by_cases e : x = fr
    · rw [if_pos e]; exact Or.inr ⟨by omega, by omega, e⟩
    · rw [if_neg e]; exact Or.inl rfl) (by rw [h fr hf.1 hf.2, if_pos rfl]) (fun y x a b k d => by
    rw [h y (by omega) b, if_neg (by omega)] at d; exact absurd rfl d)
  have hin : ∀ (t : Nat) (x : Int), kr_R (fun y x => (0 ≤ y ∧ y < 10) ∧ kr_Q w pn pr A B mb y x) fr t x → 0 ≤ x ∧ x < 10 := kr_R_in hf (fun y x q => by have := hd y x q.1.1 q.1.2 q.2; omega)
  have com : ∀ (t : Nat) (x : Int), kr_R (fun y x => (0 ≤ y ∧ y < 10) ∧ kr_Q w pn pr A B mb y x) fr t x → kq_c w pn pr A B mb (fr + 1).toNat f x ≤ t ∧ kq_c w pn pr A B mb (fr + 1).toNat f x ≠ 1000000 := by
    intro t
    induction t with
    | zero => intro x q; unfold kr_R at q; subst q; omega
    | succ t ih =>
      intro x q
      have qx := hin _ _ q
      obtain ⟨y, q1, q2, q3⟩ := q
      obtain ⟨i1, i2⟩ := ih y q1
      have i3 := c y x q2.1 q2.2 q3 i2
      have := kr_R_le (fun y x q => (hd y x q.1.1 q.1.2 q.2).2) t y q1
      rcases a x qx.1 qx.2 with k | k
      · rw [k] at i3; omega
      · omega
  rcases a x x0 x1 with k | ⟨k1, k2, k3⟩
  · rw [if_pos k]
    exact Or.inl ⟨rfl, fun t q => (com t x q).2 k⟩
  · rw [if_neg (by omega)]
    exact Or.inr ⟨k1, k3, fun s hs q => by have := (com s x q).1; omega⟩
/-! ===== the family: class and reference ===== -/
theorem kf_pop_all : ∀ (x : Fin 1024) (b : Fin 10), km_pop ((x.val ||| 2 ^ b.val : Nat) : Int) = km_pop (x.val : Int) + (if x.val.testBit b.val then 0 else 1) := by decide +kernel
theorem kf_pop {x b : Int} (h : ten x) (b0 : 0 ≤ b) (b1 : b < 10) : km_pop (km_or x (km_shl 1 b)) = km_pop x + (if tb x b = true then 0 else 1) := by
  have hb := ten_one b0 b1
  rw [ks_or h.1 (by have := h.2; omega) hb.1 (by have := hb.2; omega), ks_one b0 (by omega)]
  have k := kf_pop_all ⟨x.toNat, by have := h.2; have := h.1; omega⟩ ⟨b.toNat, by omega⟩
  have e : ((x.toNat : Nat) : Int) = x := by have := h.1; omega
  simp only [Int.toNat_natCast] at k ⊢
  rw [k, e]
  rfl
theorem kf_pop0 (x : Int) : 0 ≤ km_pop x := by unfold km_pop; omega
/-- b is among the known parents of a, as the reference keeps them -/
def kf_is (pn pr : Int → Int) (a b : Int) : Bool := (decide (0 < pn a) && decide (pr (2 * a) = b)) || (decide (1 < pn a) && decide (pr (2 * a + 1) = b))
/-- parents for sure in the reference, n notes from the i-th on -/
def kf_1 (C S a b d : Int → Int) : Nat → Int → (Int → Int) × (Int → Int) → (Int → Int) × (Int → Int)
  | 0, _, t => t
  | n + 1, i, t => kf_1 C S a b d n (i + 1) (if (C i ≠ 0 ∧ S i = 0 ∧ d i = 0) ∧ ¬ (t.1 (a i) = 2) ∧ kf_is t.1 t.2 (a i) (b i) = false then (km_u1 t.1 (a i) (t.1 (a i) + 1), km_u1 t.2 (2 * a i + t.1 (a i)) (b i)) else t)
/-- maybes in the reference -/
def kf_2 (C S a b d pn pr : Int → Int) : Nat → Int → (Int → Int) × (Int → Int) × Int → (Int → Int) × (Int → Int) × Int
  | 0, _, t => t
  | n + 1, i, t => if 6 ≤ t.2.2 then t else kf_2 C S a b d pn pr n (i + 1) (if (C i ≠ 0 ∧ S i = 0 ∧ d i = 1) ∧ kf_is pn pr (a i) (b i) = false ∧ kn_has t.1 t.2.1 (a i) (b i) t.2.2.toNat 0 = false then (km_u1 t.1 t.2.2 (a i), km_u1 t.2.1 t.2.2 (b i), t.2.2 + 1) else t)
/-- the sets of the class and the lists of the reference hold the same -/
def kf_ok (f : Int → Int) (t : (Int → Int) × (Int → Int)) : Prop := ∀ a : Int, 0 ≤ a → a < 10 → ten (f a) ∧ t.1 a = km_pop (f a) ∧ t.1 a ≤ 2 ∧ ∀ x : Int, 0 ≤ x → x < 10 → (tb (f a) x = true ↔ kf_is t.1 t.2 a x = true)
theorem kf_1_ok {m : km_Mm} {C S a b d : Int → Int} (hn : ∀ i : Int, 0 ≤ i → i < 100 → m 16 i ≠ 0 → m 12 i = 0 → (0 ≤ m 13 i ∧ m 13 i < 10) ∧ 0 ≤ m 14 i ∧ m 14 i < 10) : ∀ (n : Nat) (i : Int) (f : Int → Int) (t : (Int → Int) × (Int → Int)), 0 ≤ i → i + n ≤ 100 →
    (∀ j : Int, i ≤ j → j < i + n → ((m 16 j ≠ 0 ∧ m 12 j = 0) ↔ (C j ≠ 0 ∧ S j = 0)) ∧ (m 16 j ≠ 0 → m 12 j = 0 → a j = m 13 j ∧ b j = m 14 j ∧ d j = m 15 j)) →
    kf_ok f t → kf_ok (kn_sure m n i f) (kf_1 C S a b d n i t) := by
  intro n
  induction n with
  | zero => intro i f t h0 h1 h2 h3; exact h3
  | succ n ih =>
    intro i f t h0 h1 h2 h3
    unfold kn_sure kf_1
    refine ih (i + 1) _ _ (by omega) (by omega) (fun j p r => h2 j (by omega) (by omega)) ?_
    obtain ⟨e1, e2⟩ := h2 i (by omega) (by omega)
    by_cases z : m 16 i ≠ 0 ∧ m 12 i = 0 ∧ m 15 i = 0
    · obtain ⟨e3, e4, e5⟩ := e2 z.1 z.2.1
      have e6 : C i ≠ 0 ∧ S i = 0 ∧ d i = 0 := ⟨(e1.mp ⟨z.1, z.2.1⟩).1, (e1.mp ⟨z.1, z.2.1⟩).2, by omega⟩
      obtain ⟨⟨a0, a1⟩, b0, b1⟩ := hn i h0 (by omega) z.1 z.2.1
      rw [e3, e4]
      obtain ⟨k1, k2, k3, k4⟩ := h3 (m 13 i) a0 a1
      have kb := k4 (m 14 i) b0 b1
      have kp := kf_pop k1 b0 b1
      by_cases y : km_pop (f (m 13 i)) < 2
      · rw [if_pos ⟨z, y⟩]
        by_cases w : tb (f (m 13 i)) (m 14 i) = true
        · rw [if_neg (fun q => by rw [kb.mp w] at q; cases q.2.2)]
          rw [if_pos w] at kp
          have hx : km_or (f (m 13 i)) (km_shl 1 (m 14 i)) = f (m 13 i) := by
            refine ten_ext (ten_or k1 (ten_one b0 b1)) k1 (fun k q0 q1 => ?_)
            rw [tb_or k1.1 (by have := k1.2; omega) (ten_one b0 b1).1 (by have := (ten_one b0 b1).2; omega), tb_one b0 (by omega) q0]
            by_cases q : k = m 14 i
            · subst q; rw [w]; rfl
            · simp [q]
          have hf : km_u1 f (m 13 i) (km_or (f (m 13 i)) (km_shl 1 (m 14 i))) = f := by
            funext x; unfold km_u1; split
            · next q => rw [q, hx]
            · rfl
          rw [hf]; exact h3
        · rw [if_pos ⟨e6, by omega, by cases q : kf_is t.1 t.2 (m 13 i) (m 14 i); rfl; exact absurd (kb.mpr q) w⟩]
          rw [if_neg w] at kp
          intro x x0 x1
          by_cases q : x = m 13 i
          · subst q
            simp only [km_u1_s]
            refine ⟨ten_or k1 (ten_one b0 b1), by rw [kp, k2], by omega, fun u u0 u1 => ?_⟩
            rw [tb_or k1.1 (by have := k1.2; omega) (ten_one b0 b1).1 (by have := (ten_one b0 b1).2; omega), tb_one b0 (by omega) u0, Bool.or_eq_true, k4 u u0 u1]
            have := kf_pop0 (f (m 13 i))
            unfold kf_is
            simp only [km_u1_s, Bool.or_eq_true, Bool.and_eq_true, decide_eq_true_eq, km_u1]
            have : t.1 (m 13 i) = 0 ∨ t.1 (m 13 i) = 1 := by omega
            rcases this with g | g <;> simp only [g] <;> grind
          · simp only [km_u1_o q]
            obtain ⟨l1, l2, l3, l4⟩ := h3 x x0 x1
            refine ⟨l1, l2, l3, fun u u0 u1 => ?_⟩
            rw [l4 u u0 u1]
            have := kf_pop0 (f (m 13 i))
            unfold kf_is
            simp only [Bool.or_eq_true, Bool.and_eq_true, decide_eq_true_eq, km_u1]
            grind
      · rw [if_neg (fun q => y q.2), if_neg (fun q => q.2.1 (by omega))]
        exact h3
    · rw [if_neg (fun q => z q.1), if_neg (fun q => z ?_)]
      · exact h3
      · obtain ⟨⟨q1, q2, q3⟩, -⟩ := q
        have g := e1.mpr ⟨q1, q2⟩
        exact ⟨g.1, g.2, by rw [← (e2 g.1 g.2).2.2]; exact q3⟩
theorem kf_2_eq {m : km_Mm} {C S a b d pn pr : Int → Int} (hn : ∀ i : Int, 0 ≤ i → i < 100 → m 16 i ≠ 0 → m 12 i = 0 → (0 ≤ m 13 i ∧ m 13 i < 10) ∧ 0 ≤ m 14 i ∧ m 14 i < 10) (hs : kf_ok (m 53) (pn, pr)) : ∀ (n : Nat) (i : Int) (t : (Int → Int) × (Int → Int) × Int), 0 ≤ i → i + n ≤ 100 →
    (∀ j : Int, i ≤ j → j < i + n → ((m 16 j ≠ 0 ∧ m 12 j = 0) ↔ (C j ≠ 0 ∧ S j = 0)) ∧ (m 16 j ≠ 0 → m 12 j = 0 → a j = m 13 j ∧ b j = m 14 j ∧ d j = m 15 j)) →
    kn_may m n i t = kf_2 C S a b d pn pr n i t := by
  have full : ∀ (n : Nat) (i : Int) (t : (Int → Int) × (Int → Int) × Int), 6 ≤ t.2.2 → kn_may m n i t = t := by
    intro n
    induction n with
    | zero => intro i t h; rfl
    | succ n ih => intro i t h; unfold kn_may; rw [if_neg (fun q => q.2.1 h), ih (i + 1) t h]
  intro n
  induction n with
  | zero => intro i t h0 h1 h2; rfl
  | succ n ih =>
    intro i t h0 h1 h2
    by_cases g : 6 ≤ t.2.2
    · rw [full _ _ _ g]; unfold kf_2; rw [if_pos g]
    unfold kn_may kf_2
    rw [if_neg g]
    obtain ⟨e1, e2⟩ := h2 i (by omega) (by omega)
    have key : (if (m 16 i ≠ 0 ∧ m 12 i = 0 ∧ m 15 i = 1) ∧ ¬ (6 ≤ t.2.2) ∧ km_and (km_shr (m 53 (m 13 i)) (m 14 i)) 1 = 0 ∧ kn_has t.1 t.2.1 (m 13 i) (m 14 i) t.2.2.toNat 0 = false then (km_u1 t.1 t.2.2 (m 13 i), km_u1 t.2.1 t.2.2 (m 14 i), t.2.2 + 1) else t) = (if (C i ≠ 0 ∧ S i = 0 ∧ d i = 1) ∧ kf_is pn pr (a i) (b i) = false ∧ kn_has t.1 t.2.1 (a i) (b i) t.2.2.toNat 0 = false then (km_u1 t.1 t.2.2 (a i), km_u1 t.2.1 t.2.2 (b i), t.2.2 + 1) else t) := by
      by_cases z : m 16 i ≠ 0 ∧ m 12 i = 0
      · obtain ⟨e3, e4, e5⟩ := e2 z.1 z.2
        obtain ⟨⟨a0, a1⟩, b0, b1⟩ := hn i h0 (by omega) z.1 z.2
        rw [e3, e4, e5]
        obtain ⟨k1, -, -, k4⟩ := hs (m 13 i) a0 a1
        have kb := k4 (m 14 i) b0 b1
        have kc := ks_bit0 (x := m 53 (m 13 i)) (k := m 14 i) k1.1 (by have := k1.2; omega) b0 (by omega)
        have ez := e1.mp z
        by_cases w : kf_is pn pr (m 13 i) (m 14 i) = true
        · have : tb (m 53 (m 13 i)) (m 14 i) = true := kb.mpr w
          rw [if_neg (fun q => by rw [kc.mp q.2.2.1] at this; cases this), if_neg (fun q => by rw [w] at q; cases q.2.1)]
        · have w2 : tb (m 53 (m 13 i)) (m 14 i) = false := by cases q : tb (m 53 (m 13 i)) (m 14 i); rfl; exact absurd (kb.mp q) w
          have w3 : kf_is pn pr (m 13 i) (m 14 i) = false := by cases q : kf_is pn pr (m 13 i) (m 14 i); rfl; exact absurd q w
          have w4 := kc.mpr w2
          by_cases v : m 15 i = 1 ∧ kn_has t.1 t.2.1 (m 13 i) (m 14 i) t.2.2.toNat 0 = false
          · rw [if_pos ⟨⟨z.1, z.2, v.1⟩, g, w4, v.2⟩, if_pos ⟨⟨ez.1, ez.2, v.1⟩, w3, v.2⟩]
          · rw [if_neg (fun q => v ⟨q.1.2.2, q.2.2.2⟩), if_neg (fun q => v ⟨q.1.2.2, q.2.2⟩)]
      · rw [if_neg (fun q => z ⟨q.1.1, q.1.2.1⟩), if_neg (fun q => z (e1.mpr ⟨q.1.1, q.1.2.1⟩))]
    rw [key]
    exact ih (i + 1) _ (by omega) (by omega) (fun j p r => h2 j (by omega) (by omega))
/-! ===== near: what both count ===== -/
theorem kn_ent_cong {w : Int} {A B : Int → Int} {k : Int} (hA : ∀ i : Int, 0 ≤ i → i < k → 0 ≤ A i ∧ A i < 10) : ∀ (n : Nat) (i : Int) (P P' : Int → Int), 0 ≤ i → i + n ≤ k → (∀ a : Int, 0 ≤ a → a < 10 → P a = P' a) →
    (kn_ent w A B n i P).1 = (kn_ent w A B n i P').1 ∧ ∀ a : Int, 0 ≤ a → a < 10 → (kn_ent w A B n i P).2 a = (kn_ent w A B n i P').2 a := by
  intro n
  induction n with
  | zero => intro i P P' h0 h1 h2; exact ⟨rfl, h2⟩
  | succ n ih =>
    intro i P P' h0 h1 h2
    obtain ⟨a0, a1⟩ := hA i h0 (by omega)
    unfold kn_ent
    rw [h2 _ a0 a1]
    have h3 : ∀ a : Int, 0 ≤ a → a < 10 → km_u1 P (A i) (km_or (P' (A i)) (km_shl 1 (B i))) a = km_u1 P' (A i) (km_or (P' (A i)) (km_shl 1 (B i))) a := by
      intro a q0 q1; unfold km_u1; split; rfl; exact h2 a q0 q1
    split
    · exact ih (i + 1) P P' (by omega) (by omega) h2
    · split
      · exact ⟨rfl, h3⟩
      · exact ih (i + 1) _ _ (by omega) (by omega) h3
theorem kn_ent_ten {w : Int} {A B : Int → Int} {k : Int} (hA : ∀ i : Int, 0 ≤ i → i < k → (0 ≤ A i ∧ A i < 10) ∧ 0 ≤ B i ∧ B i < 10) : ∀ (n : Nat) (i : Int) (P : Int → Int), 0 ≤ i → i + n ≤ k → (∀ a : Int, 0 ≤ a → a < 10 → ten (P a)) → ∀ a : Int, 0 ≤ a → a < 10 → ten ((kn_ent w A B n i P).2 a) := by
  intro n
  induction n with
  | zero => intro i P h0 h1 h2; exact h2
  | succ n ih =>
    intro i P h0 h1 h2
    obtain ⟨⟨a0, a1⟩, b0, b1⟩ := hA i h0 (by omega)
    unfold kn_ent
    have h3 : ∀ a : Int, 0 ≤ a → a < 10 → ten (km_u1 P (A i) (km_or (P (A i)) (km_shl 1 (B i))) a) := by
      intro a q0 q1; unfold km_u1; split; exact ten_or (h2 _ a0 a1) (ten_one b0 b1); exact h2 a q0 q1
    split
    · exact ih (i + 1) P (by omega) (by omega) h2
    · split
      · exact h3
      · exact ih (i + 1) _ (by omega) (by omega) h3
/-- the world 0 is what is sure -/
theorem kn_ent_0 {A B : Int → Int} : ∀ (n : Nat) (i : Int) (P : Int → Int), 0 ≤ i → i + n ≤ 31 → kn_ent 0 A B n i P = (true, P) := by
  intro n
  induction n with
  | zero => intro i P _ _; rfl
  | succ n ih =>
    intro i P h0 h1
    unfold kn_ent
    rw [if_pos ((ks_bit0 (by omega) (by omega) h0 (by omega)).mpr tb_zero)]
    exact ih (i + 1) P (by omega) (by omega)
/-- in a world the parents are the sure ones and the maybes of the world -/
theorem kn_ent_bits {w : Int} {A B : Int → Int} {k : Int} (w0 : 0 ≤ w) (w1 : w < 2147483648) (hk : k ≤ 6) (hA : ∀ i : Int, 0 ≤ i → i < k → (0 ≤ A i ∧ A i < 10) ∧ 0 ≤ B i ∧ B i < 10) : ∀ (n : Nat) (i : Int) (P : Int → Int), 0 ≤ i → i + n = k → (∀ a : Int, 0 ≤ a → a < 10 → ten (P a)) → (kn_ent w A B n i P).1 = true →
    ∀ a x : Int, 0 ≤ a → a < 10 → 0 ≤ x → x < 10 → (tb ((kn_ent w A B n i P).2 a) x = true ↔ tb (P a) x = true ∨ ∃ j, i ≤ j ∧ j < k ∧ tb w j = true ∧ A j = a ∧ B j = x) := by
  intro n
  induction n with
  | zero =>
    intro i P h0 h1 h2 h3 a x a0 a1 x0 x1
    unfold kn_ent
    exact ⟨Or.inl, fun h => h.elim id (fun ⟨j, p, q, _⟩ => by omega)⟩
  | succ n ih =>
    intro i P h0 h1 h2 h3 a x a0 a1 x0 x1
    obtain ⟨⟨c0, c1⟩, b0, b1⟩ := hA i h0 (by omega)
    have hb := ks_bit0 (x := w) (k := i) w0 w1 h0 (by omega)
    have ht := ten_or (h2 _ c0 c1) (ten_one b0 b1)
    have h4 : ∀ a : Int, 0 ≤ a → a < 10 → ten (km_u1 P (A i) (km_or (P (A i)) (km_shl 1 (B i))) a) := by
      intro a q0 q1; unfold km_u1; split; exact ht; exact h2 a q0 q1
    unfold kn_ent at h3 ⊢
    by_cases z : km_and (km_shr w i) 1 = 0
    · rw [if_pos z] at h3 ⊢
      rw [ih (i + 1) P (by omega) (by omega) h2 h3 a x a0 a1 x0 x1]
      have z2 := hb.mp z
      constructor
      · rintro (h | ⟨j, p, q, r⟩)
        · exact Or.inl h
        · exact Or.inr ⟨j, by omega, q, r⟩
      · rintro (h | ⟨j, p, q, r, s⟩)
        · exact Or.inl h
        · by_cases e : j = i
          · subst e; rw [z2] at r; cases r
          · exact Or.inr ⟨j, by omega, q, r, s⟩
    · rw [if_neg z] at h3 ⊢
      have z2 : tb w i = true := by cases e : tb w i; exact absurd (hb.mpr e) z; rfl
      by_cases y : 2 < km_pop (km_or (P (A i)) (km_shl 1 (B i)))
      · rw [if_pos y] at h3; cases h3
      · rw [if_neg y] at h3 ⊢
        rw [ih (i + 1) _ (by omega) (by omega) h4 h3 a x a0 a1 x0 x1]
        have hu : tb (km_u1 P (A i) (km_or (P (A i)) (km_shl 1 (B i))) a) x = true ↔ tb (P a) x = true ∨ (A i = a ∧ B i = x) := by
          unfold km_u1
          by_cases e : a = A i
          · subst e
            have t1 := h2 _ c0 c1
            have t2 := ten_one b0 b1
            rw [if_pos rfl, tb_or t1.1 (by have := t1.2; omega) t2.1 (by have := t2.2; omega), tb_one b0 (by omega) x0, Bool.or_eq_true, decide_eq_true_eq]
            constructor
            · rintro (h | h); exact Or.inl h; exact Or.inr ⟨rfl, h.symm⟩
            · rintro (h | h); exact Or.inl h; exact Or.inr h.2.symm
          · rw [if_neg e]
            exact ⟨Or.inl, fun h => h.elim id (fun h => absurd h.1.symm e)⟩
        rw [hu]
        constructor
        · rintro ((h | h) | ⟨j, p, q, r⟩)
          · exact Or.inl h
          · exact Or.inr ⟨i, by omega, by omega, z2, h⟩
          · exact Or.inr ⟨j, by omega, q, r⟩
        · rintro (h | ⟨j, p, q, r, s⟩)
          · exact Or.inl (Or.inl h)
          · by_cases e : j = i
            · subst e; exact Or.inl (Or.inr s)
            · exact Or.inr ⟨j, by omega, q, r, s⟩
/-- how many maybes of the world w are of a, n from the i-th on -/
def kf_c (w : Int) (A : Int → Int) (a : Int) : Nat → Int → Int
  | 0, _ => 0
  | n + 1, i => (if tb w i = true ∧ A i = a then 1 else 0) + kf_c w A a n (i + 1)
theorem kf_c0 {w : Int} {A : Int → Int} {a : Int} : ∀ (n : Nat) (i : Int), 0 ≤ kf_c w A a n i := by
  intro n
  induction n with
  | zero => intro i; unfold kf_c; omega
  | succ n ih => intro i; unfold kf_c; have := ih (i + 1); split <;> omega
theorem kn_ent_world {w : Int} {A B : Int → Int} {k : Int} (w0 : 0 ≤ w) (w1 : w < 2147483648) (hk : k ≤ 6) (hA : ∀ i : Int, 0 ≤ i → i < k → (0 ≤ A i ∧ A i < 10) ∧ 0 ≤ B i ∧ B i < 10) (hd : ∀ i j : Int, 0 ≤ i → i < j → j < k → ¬ (A i = A j ∧ B i = B j)) : ∀ (n : Nat) (i : Int) (P : Int → Int), 0 ≤ i → i + n = k → (∀ a : Int, 0 ≤ a → a < 10 → ten (P a) ∧ km_pop (P a) ≤ 2) →
    (∀ j : Int, i ≤ j → j < k → tb (P (A j)) (B j) = false) →
    ((kn_ent w A B n i P).1 = true ↔ ∀ a : Int, 0 ≤ a → a < 10 → km_pop (P a) + kf_c w A a n i ≤ 2) := by
  intro n
  induction n with
  | zero =>
    intro i P h0 h1 h2 h3
    unfold kn_ent kf_c
    exact ⟨fun _ a a0 a1 => by have := (h2 a a0 a1).2; omega, fun _ => rfl⟩
  | succ n ih =>
    intro i P h0 h1 h2 h3
    obtain ⟨⟨c0, c1⟩, b0, b1⟩ := hA i h0 (by omega)
    have hb := ks_bit0 (x := w) (k := i) w0 w1 h0 (by omega)
    have ht := ten_or (h2 _ c0 c1).1 (ten_one b0 b1)
    unfold kn_ent kf_c
    by_cases z : km_and (km_shr w i) 1 = 0
    · rw [if_pos z, ih (i + 1) P (by omega) (by omega) h2 (fun j p q => h3 j (by omega) q)]
      have z2 : ¬ tb w i = true := by rw [hb.mp z]; decide
      constructor
      · intro h a a0 a1; rw [if_neg (fun q => z2 q.1)]; have := h a a0 a1; omega
      · intro h a a0 a1; have := h a a0 a1; rw [if_neg (fun q => z2 q.1)] at this; omega
    · rw [if_neg z]
      have z2 : tb w i = true := by cases e : tb w i; exact absurd (hb.mpr e) z; rfl
      have hp := kf_pop (h2 _ c0 c1).1 b0 b1
      rw [if_neg (by rw [h3 i (by omega) (by omega)]; decide)] at hp
      by_cases y : 2 < km_pop (km_or (P (A i)) (km_shl 1 (B i)))
      · rw [if_pos y]
        constructor
        · intro h; cases h
        · intro h
          have := h (A i) c0 c1
          rw [if_pos ⟨z2, rfl⟩] at this
          have := kf_c0 (w := w) (A := A) (a := A i) n (i + 1)
          omega
      · rw [if_neg y]
        rw [ih (i + 1) _ (by omega) (by omega) (fun a a0 a1 => by
          unfold km_u1
          by_cases e : a = A i
          · rw [if_pos e]; exact ⟨ht, by omega⟩
          · rw [if_neg e]; exact h2 a a0 a1) (fun j p q => by
          unfold km_u1
          by_cases e : A j = A i
          · rw [if_pos e]
            have t1 := (h2 _ c0 c1).1
            have t2 := ten_one b0 b1
            have b2 := (hA j (by omega) q).2
            rw [tb_or t1.1 (by have := t1.2; omega) t2.1 (by have := t2.2; omega), tb_one b0 (by omega) b2.1, ← e, h3 j (by omega) q]
            have := hd i j h0 (by omega) q
            simp only [Bool.false_or, decide_eq_false_iff_not]
            intro f
            exact this ⟨e.symm, f.symm⟩
          · rw [if_neg e]; exact h3 j (by omega) q)]
        constructor
        · intro h a a0 a1
          have := h a a0 a1
          unfold km_u1 at this
          by_cases e : a = A i
          · rw [if_pos e] at this; rw [if_pos ⟨z2, e.symm⟩, e]; rw [e] at this; omega
          · rw [if_neg e] at this; rw [if_neg (fun q => e q.2.symm)]; omega
        · intro h a a0 a1
          have := h a a0 a1
          unfold km_u1
          by_cases e : a = A i
          · rw [if_pos e]; rw [if_pos ⟨z2, e.symm⟩, e] at this; rw [e]; omega
          · rw [if_neg e]; rw [if_neg (fun q => e q.2.symm)] at this; omega
/-- the least steps as a number -/
noncomputable def kr_U (par : Int → Int → Prop) (fr x : Int) : Int := @dite Int (∃ d, kr_D par fr x d) (Classical.propDecidable _) (fun h => h.choose) (fun _ => -1)
theorem kr_U_eq {par : Int → Int → Prop} {fr x d : Int} (h : kr_D par fr x d) : d = kr_U par fr x := by
  have hx : ∃ d, kr_D par fr x d := ⟨d, h⟩
  unfold kr_U
  rw [dif_pos hx]
  exact kr_D_one h hx.choose_spec
theorem kn_fn_cong {U D U' D' : Int → Int} : ∀ (n : Nat) (x u d k u' d' k' : Int), 0 ≤ x → x + n = 10 → (∀ y : Int, 0 ≤ y → y < 10 → U y = U' y ∧ D y = D' y) → 0 ≤ k → k = k' → (k ≠ 0 → u = u' ∧ d = d') →
    0 ≤ (kn_fn U D n x (u, d, k)).2.2 ∧ (kn_fn U D n x (u, d, k)).2.2 = (kn_fn U' D' n x (u', d', k')).2.2 ∧ ((kn_fn U D n x (u, d, k)).2.2 ≠ 0 → (kn_fn U D n x (u, d, k)).1 = (kn_fn U' D' n x (u', d', k')).1 ∧ (kn_fn U D n x (u, d, k)).2.1 = (kn_fn U' D' n x (u', d', k')).2.1) := by
  intro n
  induction n with
  | zero => intro x u d k u' d' k' h0 h1 h2 h3 h4 h5; unfold kn_fn; exact ⟨h3, h4, h5⟩
  | succ n ih =>
    intro x u d k u' d' k' h0 h1 h2 h3 h4 h5
    subst h4
    obtain ⟨e1, e2⟩ := h2 x h0 (by omega)
    unfold kn_fn
    dsimp only
    rw [← e1, ← e2]
    by_cases z : U x = -1 ∨ D x = -1
    · rw [if_pos z, if_pos z]; exact ih (x + 1) _ _ _ _ _ _ (by omega) (by omega) h2 h3 rfl h5
    · rw [if_neg z, if_neg z]
      by_cases y : k = 0
      · rw [if_pos (Or.inl y), if_pos (Or.inl y)]
        exact ih (x + 1) _ _ _ _ _ _ (by omega) (by omega) h2 (by decide) rfl (fun _ => ⟨rfl, rfl⟩)
      · obtain ⟨f1, f2⟩ := h5 y
        subst f1; subst f2
        by_cases v : k = 0 ∨ U x + D x - u - d < 0 ∨ U x + D x - u - d = 0 ∧ U x < u
        · rw [if_pos v]
          exact ih (x + 1) _ _ _ _ _ _ (by omega) (by omega) h2 (by decide) rfl (fun _ => ⟨rfl, rfl⟩)
        · rw [if_neg v]
          by_cases t : U x = u ∧ D x = d
          · rw [if_pos t]
            exact ih (x + 1) _ _ _ _ _ _ (by omega) (by omega) h2 (by omega) rfl (fun _ => ⟨rfl, rfl⟩)
          · rw [if_neg t]
            exact ih (x + 1) _ _ _ _ _ _ (by omega) (by omega) h2 h3 rfl (fun _ => ⟨rfl, rfl⟩)
