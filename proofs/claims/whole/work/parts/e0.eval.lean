/-! ===== THE VALUE of an expression, as class and reference work it out ===== -/
def kbd (v : Int) : Option Int := if 1000000000000 < v ∨ v < -1000000000000 then none else some v
def k12 (v : Int) : Prop := -1000000000000 ≤ v ∧ v ≤ 1000000000000
def ktr (v : Int) : Int := if v = 0 then 0 else 1
def kab (v : Int) : Int := if 0 < v then v else -v
/-- a sign, as the reference numbers it -/
def kmd (k a b : Int) : Option Int :=
  if k = 10 then some (if a < b then 1 else 0) else if k = 11 then some (if a ≤ b then 1 else 0) else if k = 12 then some (if a = b then 1 else 0) else if k = 13 then some (if a = b then 0 else 1) else if k = 14 then some (if b < a then 1 else 0) else if k = 15 then some (if b ≤ a then 1 else 0) else
  if k = 16 then kbd (a + b) else if k = 17 then kbd (a - b) else if k = 18 then (if a ≠ 0 ∧ Int.tdiv 1000000000000 (kab a) < kab b then none else some (a * b)) else
  if b = 0 then none else if k = 19 then some (Int.tdiv a b) else some (Int.tmod a b)
/-- one more into a HEAP that holds x of c -/
def kac (k : Int) (s : Int × Int) (v : Int) : Option (Int × Int) :=
  if k = 2 then (match kbd (s.1 + v) with | none => none | some y => some (y, s.2 + 1)) else if k = 5 then some (s.1 + ktr v, s.2 + 1) else if s.2 = 0 then some (v, 1) else if k = 3 then some (if s.1 < v then v else s.1, s.2 + 1) else some (if v < s.1 then v else s.1, s.2 + 1)
def khp (k : Int) (T B : Int → Option Int) : List Int → Int × Int → Option (Int × Int)
  | [], s => some s
  | x :: l, s => match T x with
    | none => none
    | some w => if w = 0 then khp k T B l s else match B x with
      | none => none
      | some v => match kac k s v with
        | none => none
        | some s' => khp k T B l s'
def kev (W V : Int → Int → Int) (al : List Int) : Nat → Int → Int → Option Int
  | 0, _, _ => none
  | f + 1, x, n =>
    if W 138 n = 0 then some (W 141 n) else if W 138 n = 1 then some (V x (W 141 n)) else
    if W 138 n = 6 then (match kev W V al f x (W 139 n) with | none => none | some v => some (if v = 0 then 1 else 0)) else
    if W 138 n = 7 then (match kev W V al f x (W 139 n) with | none => none | some v => some (-v)) else
    if W 138 n = 8 then (match kev W V al f x (W 139 n) with | none => none | some v => if v = 0 then (match kev W V al f x (W 140 n) with | none => none | some u => some (ktr u)) else some 1) else
    if W 138 n = 9 then (match kev W V al f x (W 139 n) with | none => none | some v => if v = 0 then some 0 else (match kev W V al f x (W 140 n) with | none => none | some u => some (ktr u))) else
    if 10 ≤ W 138 n then (match kev W V al f x (W 139 n) with | none => none | some v => match kev W V al f x (W 140 n) with | none => none | some u => kmd (W 138 n) v u) else
    match khp (W 138 n) (fun y => if W 140 n < 0 then some 1 else kev W V al f y (W 140 n)) (fun y => kev W V al f y (W 139 n)) al (0, 0) with
    | none => none
    | some s => some s.1
theorem kbd_s {v u : Int} (h : kbd v = some u) : u = v ∧ k12 u := by
  unfold kbd at h
  split at h
  · cases h
  · cases h; exact ⟨rfl, by unfold k12; omega⟩
theorem ktr_b {v : Int} : 0 ≤ ktr v ∧ ktr v ≤ 1 := by unfold ktr; split <;> omega
theorem kab_b {v : Int} : 0 ≤ kab v ∧ (kab v = v ∨ kab v = -v) ∧ (v ≠ 0 → 1 ≤ kab v) := by unfold kab; split <;> omega
theorem kab_12 {v : Int} : k12 v ↔ kab v ≤ 1000000000000 := by unfold kab k12; split <;> omega
theorem kab_mul {a b : Int} : kab (a * b) = kab a * kab b := by
  have e : ∀ v : Int, kab v = (v.natAbs : Int) := fun v => by unfold kab; split <;> omega
  rw [e, e, e, Int.natAbs_mul]; rfl
theorem kmul_12 {a b : Int} (h : ¬ (a ≠ 0 ∧ Int.tdiv 1000000000000 (kab a) < kab b)) : k12 (a * b) := by
  rw [kab_12, kab_mul]
  by_cases z : a = 0
  · subst z
    have : kab 0 = 0 := rfl
    rw [this, Int.zero_mul]; decide
  · have h1 : kab b ≤ Int.tdiv 1000000000000 (kab a) := by
      by_cases y : kab b ≤ Int.tdiv 1000000000000 (kab a)
      · exact y
      · exact absurd ⟨z, by omega⟩ h
    have a1 := (@kab_b a).2.2 z
    rw [Int.tdiv_eq_ediv_of_nonneg (by decide)] at h1
    have h2 : kab a * kab b ≤ kab a * (1000000000000 / kab a) := Int.mul_le_mul_of_nonneg_left h1 (by omega)
    have h3 := Int.mul_ediv_self_le (x := 1000000000000) (k := kab a) (by omega)
    omega
theorem kdiv_12 {a b : Int} (ha : k12 a) : k12 (Int.tdiv a b) := by
  unfold k12 at *
  have e : (Int.tdiv a b).natAbs = a.natAbs / b.natAbs := Int.natAbs_tdiv a b
  have l : a.natAbs / b.natAbs ≤ a.natAbs := Nat.div_le_self _ _
  omega
theorem kmod_12 {a b : Int} (ha : k12 a) : k12 (Int.tmod a b) := by
  unfold k12 at *
  have e : (Int.tmod a b).natAbs = a.natAbs % b.natAbs := Int.natAbs_tmod a b
  have l : a.natAbs % b.natAbs ≤ a.natAbs := Nat.mod_le _ _
  omega
theorem kmd_12 {k a b v : Int} (ha : k12 a) (hb : k12 b) (h : kmd k a b = some v) : k12 v := by
  have c1 : ∀ p : Prop, ∀ (d : Decidable p), k12 (if p then 1 else 0) := fun p d => by unfold k12; split <;> omega
  have c2 : ∀ p : Prop, ∀ (d : Decidable p), k12 (if p then 0 else 1) := fun p d => by unfold k12; split <;> omega
  unfold kmd at h
  split at h
  · cases h; exact c1 _ _
  split at h
  · cases h; exact c1 _ _
  split at h
  · cases h; exact c1 _ _
  split at h
  · cases h; exact c2 _ _
  split at h
  · cases h; exact c1 _ _
  split at h
  · cases h; exact c1 _ _
  split at h
  · exact (kbd_s h).2
  split at h
  · exact (kbd_s h).2
  split at h
  · split at h
    · cases h
    · next z => cases h; exact kmul_12 z
  split at h
  · cases h
  split at h
  · cases h; exact kdiv_12 ha
  · cases h; exact kmod_12 ha
/-- what a HEAP holds: x of c -/
def kho (k : Int) (s : Int × Int) : Prop := 0 ≤ s.2 ∧ k12 s.1 ∧ (k = 5 → 0 ≤ s.1 ∧ s.1 ≤ s.2)
theorem kho_0 {k : Int} : kho k (0, 0) := ⟨Int.le_refl _, by show k12 0; unfold k12; omega, fun _ => ⟨Int.le_refl _, Int.le_refl _⟩⟩
theorem kac_o {k v : Int} {s s' : Int × Int} (hk : 2 ≤ k ∧ k ≤ 5) (hs : kho k s) (h9 : s.2 ≤ 1000) (hv : k12 v) (h : kac k s v = some s') : kho k s' ∧ s'.2 = s.2 + 1 := by
  obtain ⟨s0, s1, s2⟩ := hs
  unfold kac at h
  split at h
  · next z =>
    split at h
    · cases h
    · next y hy =>
      cases h
      exact ⟨⟨by omega, (kbd_s hy).2, fun w => by omega⟩, rfl⟩
  split at h
  · next z =>
    cases h
    have t := @ktr_b v
    have := s2 z
    exact ⟨⟨by show 0 ≤ s.2 + 1; omega, by show k12 (s.1 + ktr v); unfold k12; omega, fun _ => by show 0 ≤ s.1 + ktr v ∧ s.1 + ktr v ≤ s.2 + 1; omega⟩, rfl⟩
  split at h
  · next z =>
    cases h
    exact ⟨⟨by show (0 : Int) ≤ 1; decide, hv, fun w => by omega⟩, by show (1 : Int) = s.2 + 1; omega⟩
  split at h
  · cases h
    refine ⟨⟨by show 0 ≤ s.2 + 1; omega, ?_, fun w => by omega⟩, rfl⟩
    show k12 (if s.1 < v then v else s.1)
    split
    · exact hv
    · exact s1
  · cases h
    refine ⟨⟨by show 0 ≤ s.2 + 1; omega, ?_, fun w => by omega⟩, rfl⟩
    show k12 (if v < s.1 then v else s.1)
    split
    · exact hv
    · exact s1
theorem khp_o {k : Int} {T B : Int → Option Int} (hk : 2 ≤ k ∧ k ≤ 5) : ∀ (l : List Int) (s s' : Int × Int), (∀ x v, x ∈ l → B x = some v → k12 v) → kho k s → s.2 + l.length ≤ 1000 → khp k T B l s = some s' → kho k s' := by
  intro l
  induction l with
  | nil => intro s s' _ hs _ h; cases h; exact hs
  | cons x l ih =>
    intro s s' hB hs hl h
    have hB' : ∀ x v, x ∈ l → B x = some v → k12 v := fun y v hy => hB y v (List.mem_cons_of_mem _ hy)
    have el : (((x :: l).length : Nat) : Int) = l.length + 1 := by simp
    rw [el] at hl
    unfold khp at h
    split at h
    · cases h
    · next w hw =>
      split at h
      · exact ih s s' hB' hs (by omega) h
      · split at h
        · cases h
        · next v hv =>
          split at h
          · cases h
          · next s2 h2 =>
            obtain ⟨o1, o2⟩ := kac_o hk hs (by omega) (hB x v List.mem_cons_self hv) h2
            exact ih s2 s' hB' o1 (by omega) h
theorem kev_12 {X Y : km_Mm} {V : Int → Int → Int} {al : List Int} {P ln : Int} {N : Int → Prop} (hV : ∀ x v : Int, 12 ≤ v → v ≤ 26 → k12 (V x v)) (hal : al.length ≤ 10) : ∀ (f : Nat) (h n a b t : Int), kcd X Y P ln N f h n a b t → ∀ x v : Int, kev Y V al f x n = some v → k12 v := by
  intro f
  induction f with
  | zero => intro h n a b t k; exact k.elim
  | succ f ih =>
    intro h n a b t k x v hv
    obtain ⟨kN, k⟩ := k
    unfold kev at hv
    rcases k with ⟨k0, k1, k2, k3, k4, k5, k6⟩ | ⟨k0, k1, k2, k3, k4, k5, k6⟩ | ⟨k0, k1⟩ | ⟨c, t1, t2, k0, k1, k2, k3, k4, k5⟩ | ⟨k0, k1, c, t1, t2, k2, k3, k4⟩ | ⟨k0, k1, k2, k3, k4, k⟩
    · rw [if_pos k0] at hv; cases hv; unfold k12; omega
    · rw [if_neg (by omega), if_pos k0] at hv; cases hv
      exact hV _ _ k5.1.1 k5.1.2
    · rw [if_neg (by omega), if_neg (by omega)] at hv
      split at hv
      · split at hv
        · cases hv
        · cases hv; unfold k12; split <;> omega
      · rw [if_pos (by omega)] at hv
        split at hv
        · cases hv
        · next u hu => cases hv; have := ih _ _ _ _ _ k1 _ _ hu; unfold k12 at *; omega
    · rw [if_neg (by omega), if_neg (by omega), if_neg (by omega), if_neg (by omega)] at hv
      have tb1 : ∀ u, k12 (ktr u) := fun u => by have := @ktr_b u; unfold k12; omega
      split at hv
      · split at hv
        · cases hv
        · split at hv
          · split at hv
            · cases hv
            · cases hv; exact tb1 _
          · cases hv; unfold k12; omega
      · rw [if_pos (by omega)] at hv
        split at hv
        · cases hv
        · split at hv
          · cases hv; unfold k12; omega
          · split at hv
            · cases hv
            · cases hv; exact tb1 _
    · rw [if_neg (by omega), if_neg (by omega), if_neg (by omega), if_neg (by omega), if_neg (by omega), if_neg (by omega), if_pos (by omega)] at hv
      split at hv
      · cases hv
      · next u hu =>
        split at hv
        · cases hv
        · next w hw => exact kmd_12 (ih _ _ _ _ _ k3 _ _ hu) (ih _ _ _ _ _ k4 _ _ hw) hv
    · rw [if_neg (by omega), if_neg (by omega), if_neg (by omega), if_neg (by omega), if_neg (by omega), if_neg (by omega), if_neg (by omega)] at hv
      split at hv
      · cases hv
      · next s hs =>
        cases hv
        have hB : ∃ a b t : Int, kcd X Y P ln N f 1 (Y 139 n) a b t := by
          rcases k with ⟨k5, k6, k7, k8⟩ | ⟨k5, k6, k7, c, t1, t2, k8, k9, ka, kb, kd⟩
          · exact ⟨_, _, _, k8⟩
          · exact ⟨_, _, _, k9⟩
        obtain ⟨a', b', t', kB⟩ := hB
        exact (khp_o k0 al (0, 0) s (fun y u _ hu => ih _ _ _ _ _ kB _ _ hu) kho_0 (by show (0 : Int) + _ ≤ 1000; omega) hs).2.1

