/-! ===== the programs of class and reference: what is kept between calls ===== -/
theorem kc_k {x : Int} (h : 120 ≤ x) : kc x = x - 120 := by unfold kc; rw [if_neg (by omega)]
theorem kcd_sh {X Y Y' : km_Mm} {P ln : Int} {N : Int → Prop} (h0 : ∀ x, N x → (120 ≤ x ∧ x < 240) ∧ Y' 138 (x - 120) = Y 138 x ∧ Y' 139 (x - 120) = kc (Y 139 x) ∧ Y' 140 (x - 120) = kc (Y 140 x) ∧ Y' 141 (x - 120) = Y 141 x) : ∀ (f : Nat) (h n a b t : Int), kcd X Y P ln N f h n a b t → kcd X Y' P ln (fun x => 0 ≤ x ∧ x < 120) f h (n - 120) a b t := by
  intro f
  induction f with
  | zero => intro h n a b t k; exact k.elim
  | succ f ih =>
    intro h n a b t k
    obtain ⟨kN, k⟩ := k
    obtain ⟨n1, e0, e1, e2, e3⟩ := h0 n kN
    have go : ∀ (h m a b t : Int), kcd X Y P ln N f h m a b t → kcd X Y' P ln (fun x => 0 ≤ x ∧ x < 120) f h (kc m) a b t := fun h m a b t k => by
      rw [kc_k (h0 m (kcd_b _ _ _ _ _ _ k).2.2.2).1.1]; exact ih _ _ _ _ _ k
    refine ⟨⟨by omega, by omega⟩, ?_⟩
    rw [e0, e1, e2, e3]
    rcases k with k | k | ⟨k0, k1⟩ | ⟨c, t1, t2, k0, k1, k2, k3, k4, k5⟩ | ⟨k0, k1, c, t1, t2, k2, k3, k4⟩ | ⟨k0, k1, k2, k3, k4, k⟩
    · exact Or.inl k
    · exact Or.inr (Or.inl k)
    · exact Or.inr (Or.inr (Or.inl ⟨k0, go _ _ _ _ _ k1⟩))
    · exact Or.inr (Or.inr (Or.inr (Or.inl ⟨c, t1, t2, k0, k1, go _ _ _ _ _ k2, k3, go _ _ _ _ _ k4, k5⟩)))
    · exact Or.inr (Or.inr (Or.inr (Or.inr (Or.inl ⟨k0, k1, c, t1, t2, k2, go _ _ _ _ _ k3, go _ _ _ _ _ k4⟩))))
    · refine Or.inr (Or.inr (Or.inr (Or.inr (Or.inr ⟨k0, k1, k2, k3, k4, ?_⟩))))
      rcases k with ⟨k5, k6, k7, k8⟩ | ⟨k5, k6, k7, c, t1, t2, k8, k9, ka, kb, kd⟩
      · exact Or.inl ⟨by rw [k5]; rfl, k6, k7, go _ _ _ _ _ k8⟩
      · have nb := (h0 _ (kcd_b _ _ _ _ _ _ kd).2.2.2).1.1
        exact Or.inr ⟨k5, by rw [kc_k nb]; omega, k7, c, t1, t2, k8, go _ _ _ _ _ k9, ka, kb, go _ _ _ _ _ kd⟩
/-- a LINE of the rules at hand -/
def kIl (m : km_Mm) (P L : Int) : Prop := (m (P + 5) L = -1 ∧ m 142 (krt L - 7) = -1) ∨ ((0 ≤ m (P + 5) L ∧ 0 ≤ m 142 (krt L - 7)) ∧ ∃ (f : Nat) (e t : Int), kcd m m P (kln L) (fun x => 0 ≤ x ∧ x < 120) f 0 (m 142 (krt L - 7)) (m (P + 5) L) e t ∧ m (P + 1) e = 0 ∧ e < m P 4 ∧ t ≤ 120)
/-- the rules at hand: the program P of the class, the knots of the reference -/
def kIp (P : Int) (m : km_Mm) : Prop := (0 ≤ m P 4 ∧ m P 4 ≤ 367) ∧ (0 ≤ m P 9 ∧ m P 9 < 32768) ∧ (m 123 35 = m P 8 ∧ 0 ≤ m P 8 ∧ m P 8 ≤ 120) ∧ (∀ L : Int, 0 ≤ L → L < 7 → kIl m P L) ∧ (∀ r x : Int, 139 ≤ r → r ≤ 140 → m r x < 240) ∧ ∀ i : Int, 0 ≤ i → i < 132 → m 137 i = kr_wl.getD i.toNat 0
/-- the references of the programs -/
def kQo (q : Nat × Int × Int × Int × Int) (P : Int) : Prop := (P = 40 ∨ P = 46) ∧ q.2.1 = P ∧ q.2.2.1 = 86 - P
/-- THE INVARIANT -/
def kIN (N : Int) (q : Nat × Int × Int × Int × Int) (m : km_Mm) : Prop := kI0 N m ∧ ∃ P : Int, kQo q P ∧ kIp P m
theorem krt_7 {L : Int} (h : 0 ≤ L ∧ L < 7) : 7 ≤ krt L ∧ krt L < 14 := by
  unfold krt
  split
  · omega
  · split
    · omega
    · split <;> omega
theorem kIp_cg {P : Int} {m m' : km_Mm} (hP : P = 40 ∨ P = 46) (h : kIp P m) (hp : ∀ b j : Int, P ≤ b → b ≤ P + 5 → m' b j = m b j) (h35 : m' 123 35 = m 123 35) (hr : ∀ b j : Int, 138 ≤ b → b ≤ 141 → j < 120 → m' b j = m b j) (hg : ∀ r x : Int, 139 ≤ r → r ≤ 140 → m' r x < 240) (hw : ∀ i : Int, m' 137 i = m 137 i) (h142 : ∀ j : Int, j < 7 → m' 142 j = m 142 j) : kIp P m' := by
  obtain ⟨p1, p2, p3, p4, p5, p6⟩ := h
  unfold kIp
  rw [hp P 4 (by omega) (by omega), hp P 9 (by omega) (by omega), hp P 8 (by omega) (by omega), h35]
  refine ⟨p1, p2, p3, fun L l0 l1 => ?_, hg, fun i i0 i1 => by rw [hw i]; exact p6 i i0 i1⟩
  have k7 := krt_7 ⟨l0, l1⟩
  have e5 : m' (P + 5) = m (P + 5) := funext fun j => hp (P + 5) j (by omega) (by omega)
  unfold kIl
  rw [e5, h142 _ (by omega), hp P 4 (by omega) (by omega)]
  refine (p4 L l0 l1).imp (fun h => h) (fun ⟨h1, f, e, t, c1, c2, c3⟩ => ⟨h1, f, e, t, ?_, by rw [hp _ _ (by omega) (by omega)]; exact c2, c3⟩)
  exact kcd_cg (lo := m (P + 5) L) (hi := e) (fun r j r1 r2 _ _ => hp _ _ (by omega) (by omega)) (fun k _ h => by rw [hp P 9 (by omega) (by omega)]; exact h) (fun x hx => ⟨hx, fun r r1 r2 => hr r x (by omega) (by omega) hx.2⟩) _ _ _ _ _ _ (Int.le_refl _) (Int.le_refl _) c1
theorem kIp_eq {P : Int} {m m' : km_Mm} (hP : P = 40 ∨ P = 46) (h : kIp P m) (k : kP_eq m m') : kIp P m' := by
  have r : ∀ b j : Int, 137 ≤ b → b ≤ 141 → m' b j = m b j := fun b j b0 b1 => k b j (by unfold kP; omega) (by unfold kJ; omega)
  exact kIp_cg hP h (fun b j b0 b1 => k b j (by unfold kP; omega) (by unfold kJ; omega)) (k _ _ (by unfold kP; omega) (by unfold kJ; omega)) (fun b j b0 b1 _ => r b j (by omega) (by omega)) (fun b j b0 b1 => by rw [r b j (by omega) (by omega)]; exact h.2.2.2.2.1 b j b0 b1) (fun i => r 137 i (by decide) (by decide)) (fun j hj => k _ j (by unfold kP; omega) (by unfold kJ; omega))
/-- one call on both sides, with the programs' references -/
def kFq (Mc Mm : km_Md) (as : List km_V) (N N' : Int) (q : Nat × Int × Int × Int × Int) (c s : Nat) (m : km_Mm) : Prop := ∀ Q1 Q2 : Option km_V → km_Al → km_Mm → Prop, ∃ (v : km_V) (q' : Nat × Int × Int × Int × Int) (m1 m2 : km_Mm), (km_E Mc (.inr (.inr 0) :: as) (km_A0 q c s) m Q1 ↔ Q1 (some v) (km_A0 q' c s) m1) ∧ (km_E Mm (.inr (.inr 123) :: as) (km_A0 q' c s) m1 Q2 ↔ Q2 (some v) (km_A0 q' c s) m2) ∧ q'.1 = q.1 ∧ kIN N' q' m2
theorem kFq_of {Mc Mm : km_Md} {as : List km_V} {N : Int} {q : Nat × Int × Int × Int × Int} {c s : Nat} {m : km_Mm} (h : kIN N q m) (k : kF Mc Mm as N q c s m) : kFq Mc Mm as N N q c s m := by
  intro Q1 Q2
  obtain ⟨v, m1, m2, k1, k2, k3, k4⟩ := k Q1 Q2
  obtain ⟨-, P, hq, hp⟩ := h
  exact ⟨v, q, m1, m2, k1, k2, rfl, k3, P, hq, kIp_eq hq.1 hp k4⟩
/-- what one run ends with, it ends with -/
theorem km_uni {G : (Option km_V → km_Al → km_Mm → Prop) → Prop} {A : km_Al} {x : Option km_V} {X X' : km_Mm} (h1 : ∀ Q, G Q ↔ Q x A X) (h2 : ∀ Q, G Q ↔ Q x A X') : X' = X := (h2 (fun _ _ m => m = X)).mp ((h1 _).mpr rfl)

