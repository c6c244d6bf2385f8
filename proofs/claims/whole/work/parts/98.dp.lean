/-! ===== the least for which a set goes into places ===== -/
def kdD (x : Int → Int → Int) (f : Int → Int → Prop) : Nat → Int → Int → Int → Prop
  | 0, _, S, v => S = 0 ∧ v = 0
  | n + 1, p, S, v => (∃ t u : Int, ksb t S ∧ f p t ∧ kdD x f n (p + 1) (S - t) u ∧ v = x p t + u) ∧ ∀ t u : Int, ksb t S → f p t → kdD x f n (p + 1) (S - t) u → v ≤ x p t + u
theorem kdD_un {x : Int → Int → Int} {f : Int → Int → Prop} {n : Nat} {p S v w : Int} (h1 : kdD x f n p S v) (h2 : kdD x f n p S w) : v = w := by
  cases n with
  | zero => obtain ⟨_, a⟩ := h1; obtain ⟨_, b⟩ := h2; omega
  | succ n =>
    obtain ⟨⟨t, u, a1, a2, a3, a4⟩, a5⟩ := h1
    obtain ⟨⟨t', u', b1, b2, b3, b4⟩, b5⟩ := h2
    have := a5 t' u' b1 b2 b3
    have := b5 t u a1 a2 a3
    omega
theorem kdD_b {x : Int → Int → Int} {f : Int → Int → Prop} (hx : ∀ p t : Int, f p t → -5445 ≤ x p t ∧ x p t ≤ 5445) : ∀ (n : Nat) (p S v : Int), kdD x f n p S v → -5445 * (n : Int) ≤ v ∧ v ≤ 5445 * (n : Int) := by
  intro n
  induction n with
  | zero => intro p S v h; obtain ⟨_, a⟩ := h; omega
  | succ n ih =>
    intro p S v h
    obtain ⟨⟨t, u, a1, a2, a3, a4⟩, a5⟩ := h
    have := ih _ _ _ a3
    have := hx p t a2
    omega
theorem kdD_one {x : Int → Int → Int} {f : Int → Int → Prop} {p S v : Int} (hS : ten S) : kdD x f 1 p S v ↔ f p S ∧ v = x p S := by
  constructor
  · rintro ⟨⟨t, u, a1, a2, ⟨a3, a3'⟩, a4⟩, a5⟩
    have : t = S := by omega
    subst this
    exact ⟨a2, by omega⟩
  · rintro ⟨a1, a2⟩
    refine ⟨⟨S, 0, ksb_rf hS, a1, ⟨by omega, rfl⟩, by omega⟩, fun t u b1 b2 b3 => ?_⟩
    obtain ⟨c1, c2⟩ := b3
    have : t = S := by omega
    subst this
    omega
/-- the pop of a part and of what is left -/
theorem kcnt_add {P R T : Int → Prop} : ∀ (n : Nat), (∀ k : Int, 0 ≤ k → k < n → (P k ↔ (R k ∨ T k)) ∧ ¬ (R k ∧ T k)) → kcnt P n = kcnt R n + kcnt T n := by
  intro n
  induction n with
  | zero => intro _; rfl
  | succ n ih =>
    intro h
    have h1 := ih (fun k k0 k1 => h k k0 (by omega))
    have h2 := h n (by omega) (by omega)
    unfold kcnt
    by_cases r : R n <;> by_cases t : T n
    · exact absurd ⟨r, t⟩ h2.2
    · rw [if_pos (h2.1.mpr (Or.inl r)), if_pos r, if_neg t]; omega
    · rw [if_pos (h2.1.mpr (Or.inr t)), if_neg r, if_pos t]; omega
    · rw [if_neg (fun w => (h2.1.mp w).elim r t), if_neg r, if_neg t]; omega
theorem ksb_pop {t w : Int} (hw : ten w) (h : ksb t w) : km_pop w = km_pop t + km_pop (w - t) := by
  rw [km_pop_cnt, km_pop_cnt, km_pop_cnt]
  refine kcnt_add 10 (fun k k0 k1 => ?_)
  rw [(ksb_diff hw h).2 k k0]
  have := ((ksb_tb hw).mp h).2 k k0
  cases e : tb t k
  · simp
  · simp [this e]
/-- space from p on for n places -/
def kdsp (c : Int → Int) : Nat → Int → Int
  | 0, _ => 0
  | n + 1, p => c p + kdsp c n (p + 1)
theorem kdD_cap {x : Int → Int → Int} {f : Int → Int → Prop} {c : Int → Int} (hf : ∀ p t : Int, f p t → km_pop t ≤ c p) : ∀ (n : Nat) (p S v : Int), ten S → kdD x f n p S v → km_pop S ≤ kdsp c n p := by
  intro n
  induction n with
  | zero => intro p S v _ h; obtain ⟨a, _⟩ := h; subst a; unfold kdsp; decide
  | succ n ih =>
    intro p S v hS h
    obtain ⟨⟨t, u, a1, a2, a3, a4⟩, a5⟩ := h
    have := ih _ _ _ (ksb_diff hS a1).1 a3
    have := hf p t a2
    have := ksb_pop hS a1
    unfold kdsp; omega
/-- what the class keeps for a set: the least, or far more -/
def kdE (x : Int → Int → Int) (f : Int → Int → Prop) (n : Nat) (p S val : Int) : Prop :=
  kdD x f n p S val ∨ ((¬ ∃ v, kdD x f n p S v) ∧ 995545 - 5445 * (n : Int) ≤ val ∧ val ≤ 1005445)
/-- v is the least of z and of what the parts of S give -/
def kdmn (S z v : Int) (g : Int → Int) : Prop := v ≤ z ∧ (∀ t : Int, ksb t S → v ≤ g t) ∧ (v = z ∨ ∃ t : Int, ksb t S ∧ v = g t)
theorem kdE_step {x : Int → Int → Int} {f : Int → Int → Prop} {n : Nat} {p S v : Int} {h g : Int → Int} (hx : ∀ p t : Int, f p t → -5445 ≤ x p t ∧ x p t ≤ 5445) (n4 : n ≤ 3)
    (h1 : ∀ t : Int, ksb t S → (f p t → h t = x p t) ∧ (¬ f p t → 995545 ≤ h t))
    (h2 : ∀ t : Int, ksb t S → f p t → kdE x f n (p + 1) (S - t) (g (S - t)))
    (h3 : ∀ t : Int, ksb t S → -5445 * (n : Int) ≤ g (S - t))
    (hv : kdmn S 1000000 v (fun t => h t + g (S - t))) : kdE x f (n + 1) p S v := by
  obtain ⟨v1, v2, v3⟩ := hv
  by_cases ex : ∃ t u : Int, ksb t S ∧ f p t ∧ kdD x f n (p + 1) (S - t) u
  · obtain ⟨t, u, a1, a2, a3⟩ := ex
    left
    have b := kdD_b hx _ _ _ _ a3
    have b2 := hx p t a2
    have le : ∀ t u : Int, ksb t S → f p t → kdD x f n (p + 1) (S - t) u → v ≤ x p t + u := by
      intro t u a1 a2 a3
      have := v2 t a1
      have e1 := (h1 t a1).1 a2
      rcases h2 t a1 a2 with e | e
      · have := kdD_un a3 e; simp only [] at *; omega
      · exact absurd ⟨u, a3⟩ e.1
    have l1 := le t u a1 a2 a3
    refine ⟨?_, le⟩
    rcases v3 with e | ⟨t', c1, c2⟩
    · omega
    · by_cases ft : f p t'
      · have e1 := (h1 t' c1).1 ft
        rcases h2 t' c1 ft with e | e
        · exact ⟨t', _, c1, ft, e, by simp only [] at c2; omega⟩
        · have := hx p t' ft; simp only [] at c2; omega
      · have := (h1 t' c1).2 ft
        have := h3 t' c1
        simp only [] at c2; omega
  · right
    refine ⟨fun ⟨v, w⟩ => ?_, ?_, by omega⟩
    · obtain ⟨⟨t, u, a1, a2, a3, _⟩, _⟩ := w
      exact ex ⟨t, u, a1, a2, a3⟩
    · rcases v3 with e | ⟨t', c1, c2⟩
      · omega
      · simp only [] at c2
        by_cases ft : f p t'
        · have e1 := (h1 t' c1).1 ft
          have := hx p t' ft
          rcases h2 t' c1 ft with e | e
          · exact absurd ⟨t', _, c1, ft, e⟩ ex
          · omega
        · have := (h1 t' c1).2 ft
          have := h3 t' c1
          omega
/-- the first part of S that gives the least -/
def kdO (x : Int → Int → Int) (f : Int → Int → Prop) (n : Nat) (p S t : Int) : Prop := ksb t S ∧ f p t ∧ ∃ u : Int, kdD x f n (p + 1) (S - t) u ∧ kdD x f (n + 1) p S (x p t + u)
def kdF (x : Int → Int → Int) (f : Int → Int → Prop) (n : Nat) (p S t : Int) : Prop := kdO x f n p S t ∧ ∀ t' : Int, t' < t → ¬ kdO x f n p S t'
theorem kdF_un {x : Int → Int → Int} {f : Int → Int → Prop} {n : Nat} {p S t s : Int} (h1 : kdF x f n p S t) (h2 : kdF x f n p S s) : t = s := by
  rcases Int.lt_trichotomy t s with w | w | w
  · exact absurd h1.1 (h2.2 t w)
  · exact w
  · exact absurd h2.1 (h1.2 s w)
/-- all sets in their places -/
def kdS (x : Int → Int → Int) (f : Int → Int → Prop) (c : Int → Int) : Nat → Int → Int → Prop
  | 0, _, _ => True
  | n + 1, p, S => kdF x f n p S (c p) ∧ kdS x f c n (p + 1) (S - c p)
theorem kdS_cg {x : Int → Int → Int} {f : Int → Int → Prop} {c d : Int → Int} : ∀ (n : Nat) (p S : Int), (∀ j : Int, p ≤ j → j < p + n → c j = d j) → kdS x f c n p S → kdS x f d n p S := by
  intro n
  induction n with
  | zero => intro p S _ _; trivial
  | succ n ih =>
    intro p S h k
    obtain ⟨k1, k2⟩ := k
    have e := h p (by omega) (by omega)
    rw [e] at k1 k2
    exact ⟨k1, ih _ _ (fun j a b => h j (by omega) (by omega)) k2⟩
/-- where each goes -/
def kdP (c : Int → Int) : Nat → Int → Int
  | 0, _ => -1
  | n + 1, i => if tb (c n) i = true then (n : Int) else kdP c n i
theorem kdD_ch {x y : Int → Int → Int} {f : Int → Int → Prop} {V : Int → Int} (hV : ∀ S t : Int, ten S → ksb t S → V S = V t + V (S - t)) (hV0 : V 0 = 0) (hy : ∀ p t : Int, f p t → y p t = x p t + V t) : ∀ (n : Nat) (p S v : Int), ten S → (kdD x f n p S v ↔ kdD y f n p S (v + V S)) := by
  intro n
  induction n with
  | zero =>
    intro p S v hS
    constructor
    · rintro ⟨a, b⟩; subst a; exact ⟨rfl, by omega⟩
    · rintro ⟨a, b⟩; subst a; exact ⟨rfl, by omega⟩
  | succ n ih =>
    intro p S v hS
    constructor
    · rintro ⟨⟨t, u, a1, a2, a3, a4⟩, a5⟩
      have hd := (ksb_diff hS a1).1
      refine ⟨⟨t, u + V (S - t), a1, a2, (ih _ _ _ hd).mp a3, ?_⟩, fun t u b1 b2 b3 => ?_⟩
      · have := hV S t hS a1; have := hy p t a2; omega
      · have hd := (ksb_diff hS b1).1
        have := a5 t (u - V (S - t)) b1 b2 ((ih _ _ _ hd).mpr (by rw [Int.sub_add_cancel]; exact b3))
        have := hV S t hS b1; have := hy p t b2; omega
    · rintro ⟨⟨t, u, a1, a2, a3, a4⟩, a5⟩
      have hd := (ksb_diff hS a1).1
      refine ⟨⟨t, u - V (S - t), a1, a2, (ih _ _ _ hd).mpr (by rw [Int.sub_add_cancel]; exact a3), ?_⟩, fun t u b1 b2 b3 => ?_⟩
      · have := hV S t hS a1; have := hy p t a2; omega
      · have hd := (ksb_diff hS b1).1
        have := a5 t (u + V (S - t)) b1 b2 ((ih _ _ _ hd).mp b3)
        have := hV S t hS b1; have := hy p t b2; omega
