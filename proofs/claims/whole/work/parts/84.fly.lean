/-! ===== flights: the cheapest ways, as both find them ===== -/
theorem kcnt_mono {P R : Int → Prop} : ∀ (n : Nat), (∀ k : Int, 0 ≤ k → k < n → P k → R k) → kcnt P n ≤ kcnt R n := by
  intro n
  induction n with
  | zero => intro _; exact Int.le_refl _
  | succ n ih =>
    intro h
    have i := ih (fun k a b => h k a (by omega))
    have := h n (by omega) (by omega)
    unfold kcnt
    by_cases z : P n
    · rw [if_pos z, if_pos (this z)]; omega
    · rw [if_neg z]; split <;> omega
theorem kcnt_more {P R : Int → Prop} : ∀ (n : Nat), (∀ k : Int, 0 ≤ k → k < n → P k → R k) → (∃ k : Int, 0 ≤ k ∧ k < n ∧ ¬ P k ∧ R k) → kcnt P n + 1 ≤ kcnt R n := by
  intro n
  induction n with
  | zero => rintro _ ⟨k, a, b, -⟩; omega
  | succ n ih =>
    rintro h ⟨k, a, b, c, d⟩
    have mono := kcnt_mono n (fun k a b => h k a (by omega))
    unfold kcnt
    by_cases e : k = n
    · subst e; rw [if_neg c, if_pos d]; omega
    · have i := ih (fun k a b => h k a (by omega)) ⟨k, a, by omega, c, d⟩
      have := h n (by omega) (by omega)
      by_cases z : P n
      · rw [if_pos z, if_pos (this z)]; omega
      · rw [if_neg z]; split <;> omega
theorem kcnt_full {P : Int → Prop} : ∀ (n : Nat), kcnt P n = n → ∀ k : Int, 0 ≤ k → k < n → P k := by
  intro n
  induction n with
  | zero => intro _ k a b; omega
  | succ n ih =>
    intro h k a b
    have hb := kcnt_b (P := P) n
    unfold kcnt at h
    by_cases z : P n
    · rw [if_pos z] at h
      by_cases e : k = n
      · subst e; exact z
      · exact ih (by omega) k a (by omega)
    · rw [if_neg z] at h; omega
/-- one flight looked at: out along it, or back -/
def kw_s (a b p : Int → Int) (e1 e2 : Int → Bool) (f : Int) (s : (Int → Int) × (Int → Int)) : (Int → Int) × (Int → Int) :=
  if e1 f = true ∧ s.1 (a f) < 1000000 ∧ s.1 (a f) + p f < s.1 (b f) then (km_u1 s.1 (b f) (s.1 (a f) + p f), km_u1 s.2 (b f) f)
  else if e2 f = true ∧ s.1 (b f) < 1000000 ∧ s.1 (b f) - p f < s.1 (a f) then (km_u1 s.1 (a f) (s.1 (b f) - p f), km_u1 s.2 (a f) (14 + f)) else s
/-- whether it made one cheaper -/
def kw_h (a b p : Int → Int) (e1 e2 : Int → Bool) (f : Int) (s : (Int → Int) × (Int → Int)) : Prop :=
  (e1 f = true ∧ s.1 (a f) < 1000000 ∧ s.1 (a f) + p f < s.1 (b f)) ∨ (e2 f = true ∧ s.1 (b f) < 1000000 ∧ s.1 (b f) - p f < s.1 (a f))
def kw_r (a b p : Int → Int) (e1 e2 : Int → Bool) : Nat → Int → (Int → Int) × (Int → Int) → (Int → Int) × (Int → Int)
  | 0, _, s => s
  | k + 1, i, s => kw_r a b p e1 e2 k (i + 1) (kw_s a b p e1 e2 i s)
/-- an arc of the net -/
def kw_arc (a b p : Int → Int) (e1 e2 : Int → Bool) (n u v w : Int) : Prop := ∃ f, 0 ≤ f ∧ f < n ∧ ((e1 f = true ∧ u = a f ∧ v = b f ∧ w = p f) ∨ (e2 f = true ∧ u = b f ∧ v = a f ∧ w = -p f))
/-- ways from those who wait -/
def kw_k (src : Int → Prop) (arc : Int → Int → Int → Prop) : Nat → Int → Int → Prop
  | 0, v, d => src v ∧ d = 0
  | k + 1, v, d => ∃ u e w, kw_k src arc k u e ∧ arc u v w ∧ d = e + w
/-- d is the least that a way to v costs -/
def kw_D (src : Int → Prop) (arc : Int → Int → Int → Prop) (v d : Int) : Prop := (∃ k, kw_k src arc k v d) ∧ ∀ k' d', kw_k src arc k' v d' → d ≤ d'
theorem kw_D_pre {src : Int → Prop} {arc : Int → Int → Int → Prop} {k : Nat} {v d : Int} (h : kw_k src arc (k + 1) v d) (hD : kw_D src arc v d) : ∃ u e w, kw_k src arc k u e ∧ kw_D src arc u e ∧ arc u v w ∧ d = e + w := by
  obtain ⟨u, e, w, h1, h2, h3⟩ := h
  refine ⟨u, e, w, h1, ⟨⟨k, h1⟩, fun k' d' h' => ?_⟩, h2, h3⟩
  have := hD.2 (k' + 1) (d' + w) ⟨u, d', w, h', h2, rfl⟩
  omega
theorem kw_D_one {src : Int → Prop} {arc : Int → Int → Int → Prop} {v d e : Int} (h : kw_D src arc v d) (k : kw_D src arc v e) : d = e := by
  obtain ⟨k1, h1⟩ := h.1
  obtain ⟨k2, h2⟩ := k.1
  have := h.2 k2 e h2
  have := k.2 k1 d h1
  omega
theorem kw_low {src : Int → Prop} {arc : Int → Int → Int → Prop} {pi : Int → Int} {B : Int} (hp : ∀ u v w, arc u v w → 0 ≤ w + pi u - pi v) (hB : ∀ s, src s → pi s ≤ B) : ∀ (k : Nat) (v d : Int), kw_k src arc k v d → pi v - B ≤ d := by
  intro k
  induction k with
  | zero => rintro v d ⟨h1, h2⟩; have := hB v h1; omega
  | succ k ih =>
    rintro v d ⟨u, e, w, h1, h2, h3⟩
    have := ih u e h1
    have := hp u v w h2
    omega
theorem kw_least {Q : Nat → Prop} : ∀ n : Nat, Q n → ∃ l, Q l ∧ ∀ j, Q j → l ≤ j := by
  intro n
  induction n using Nat.strongRecOn with
  | ind n ih =>
    intro h
    by_cases z : ∃ j, j < n ∧ Q j
    · obtain ⟨j, a, b⟩ := z; exact ih j a b
    · exact ⟨n, h, fun j hj => by
        by_cases e : j < n
        · exact absurd ⟨j, e, hj⟩ z
        · omega⟩
theorem kw_D_ex {src : Int → Prop} {arc : Int → Int → Int → Prop} {pi : Int → Int} {B : Int} (hp : ∀ u v w, arc u v w → 0 ≤ w + pi u - pi v) (hB : ∀ s, src s → pi s ≤ B) {k : Nat} {v d : Int} (h : kw_k src arc k v d) : ∃ e, kw_D src arc v e := by
  have low := kw_low hp hB
  obtain ⟨l, ⟨k', h1⟩, h2⟩ := @kw_least (fun n => ∃ k, kw_k src arc k v (pi v - B + n)) (d - (pi v - B)).toNat ⟨k, by
    have := low k v d h
    rw [show pi v - B + ((d - (pi v - B)).toNat : Int) = d by omega]; exact h⟩
  refine ⟨pi v - B + l, ⟨k', h1⟩, fun k2 d2 h3 => ?_⟩
  have := low k2 v d2 h3
  have := h2 (d2 - (pi v - B)).toNat ⟨k2, by rw [show pi v - B + ((d2 - (pi v - B)).toNat : Int) = d2 by omega]; exact h3⟩
  omega
section FL
variable {a b p : Int → Int} {e1 e2 : Int → Bool} {n : Int} {src : Int → Prop}
/-- the net is one -/
def kw_ok (a b p : Int → Int) (n : Int) : Prop := n ≤ 14 ∧ ∀ f : Int, 0 ≤ f → f < n → (0 ≤ a f ∧ a f < 6) ∧ (0 ≤ b f ∧ b f < 6) ∧ a f ≠ b f ∧ (0 ≤ p f ∧ p f ≤ 999)
/-- labels so far: costs of ways, none lost; c: how often one was looked at -/
def kw_L (arc : Int → Int → Int → Prop) (src : Int → Prop) (c : Int) (s : Int → Int) : Prop := ∀ v : Int, 0 ≤ v → v < 6 → (s v = 1000000 ∨ ((-(999 * c) ≤ s v ∧ s v ≤ 999 * c) ∧ ∃ k, kw_k src arc k v (s v))) ∧ (src v → s v ≤ 0)
theorem kw_s_L (ho : kw_ok a b p n) {c f : Int} {s : (Int → Int) × (Int → Int)} (c0 : 0 ≤ c) (c1 : c < 1000) (f0 : 0 ≤ f) (f1 : f < n) (h : kw_L (kw_arc a b p e1 e2 n) src c s.1) :
    kw_L (kw_arc a b p e1 e2 n) src (c + 1) (kw_s a b p e1 e2 f s).1 ∧ (∀ v : Int, (kw_s a b p e1 e2 f s).1 v ≤ s.1 v) ∧
      (e1 f = true → s.1 (a f) < 1000000 → (kw_s a b p e1 e2 f s).1 (b f) ≤ (kw_s a b p e1 e2 f s).1 (a f) + p f ∨ (kw_s a b p e1 e2 f s).1 (b f) ≤ s.1 (a f) + p f) ∧
      (e2 f = true → s.1 (b f) < 1000000 → (kw_s a b p e1 e2 f s).1 (a f) ≤ s.1 (b f) - p f) := by
  obtain ⟨oa, ob, oab, op⟩ := ho.2 f f0 f1
  have la := (h (a f) oa.1 oa.2)
  have lb := (h (b f) ob.1 ob.2)
  unfold kw_s
  by_cases z1 : e1 f = true ∧ s.1 (a f) < 1000000 ∧ s.1 (a f) + p f < s.1 (b f)
  · rw [if_pos z1]
    dsimp only
    obtain ⟨w1, k, w2⟩ := la.1.resolve_left (by omega)
    refine ⟨fun v v0 v1 => ?_, fun v => ?_, fun _ _ => ?_, fun _ _ => ?_⟩
    · by_cases e : v = b f
      · subst e
        rw [km_u1_s]
        refine ⟨Or.inr ⟨by omega, k + 1, a f, s.1 (a f), p f, w2, ⟨f, f0, f1, Or.inl ⟨z1.1, rfl, rfl, rfl⟩⟩, rfl⟩, fun w => ?_⟩
        have := lb.2 w; omega
      · rw [km_u1_o e]
        refine ⟨(h v v0 v1).1.imp id (fun w => ⟨by omega, w.2⟩), (h v v0 v1).2⟩
    · by_cases e : v = b f
      · subst e; rw [km_u1_s]; omega
      · rw [km_u1_o e]; omega
    · right; rw [km_u1_s]; omega
    · rw [km_u1_o oab]; omega
  · rw [if_neg z1]
    by_cases z2 : e2 f = true ∧ s.1 (b f) < 1000000 ∧ s.1 (b f) - p f < s.1 (a f)
    · rw [if_pos z2]
      dsimp only
      obtain ⟨w1, k, w2⟩ := lb.1.resolve_left (by omega)
      refine ⟨fun v v0 v1 => ?_, fun v => ?_, fun q1 q2 => ?_, fun _ _ => ?_⟩
      · by_cases e : v = a f
        · subst e
          rw [km_u1_s]
          refine ⟨Or.inr ⟨by omega, k + 1, b f, s.1 (b f), -p f, w2, ⟨f, f0, f1, Or.inr ⟨z2.1, rfl, rfl, rfl⟩⟩, by omega⟩, fun w => ?_⟩
          have := la.2 w; omega
        · rw [km_u1_o e]
          refine ⟨(h v v0 v1).1.imp id (fun w => ⟨by omega, w.2⟩), (h v v0 v1).2⟩
      · by_cases e : v = a f
        · subst e; rw [km_u1_s]; omega
        · rw [km_u1_o e]; omega
      · rw [km_u1_o (fun w => oab w.symm)]; right
        by_cases w : s.1 (a f) + p f < s.1 (b f)
        · exact absurd ⟨q1, q2, w⟩ z1
        · omega
      · rw [km_u1_s]; omega
    · rw [if_neg z2]
      refine ⟨fun v v0 v1 => ⟨(h v v0 v1).1.imp id (fun w => ⟨by omega, w.2⟩), (h v v0 v1).2⟩, fun v => Int.le_refl _, fun q1 q2 => ?_, fun q1 q2 => ?_⟩
      · right
        by_cases w : s.1 (a f) + p f < s.1 (b f)
        · exact absurd ⟨q1, q2, w⟩ z1
        · omega
      · by_cases w : s.1 (b f) - p f < s.1 (a f)
        · exact absurd ⟨q1, q2, w⟩ z2
        · omega
/-- a round: all labels stay costs of ways, and each arc was looked at -/
theorem kw_r_L (ho : kw_ok a b p n) : ∀ (k : Nat) (i c : Int) (s : (Int → Int) × (Int → Int)), 0 ≤ i → i + k = n → 0 ≤ c → c + k < 1000 → kw_L (kw_arc a b p e1 e2 n) src c s.1 →
    kw_L (kw_arc a b p e1 e2 n) src (c + k) (kw_r a b p e1 e2 k i s).1 ∧ (∀ v : Int, (kw_r a b p e1 e2 k i s).1 v ≤ s.1 v) ∧
      (∀ f : Int, i ≤ f → f < n → (e1 f = true → s.1 (a f) < 1000000 → (kw_r a b p e1 e2 k i s).1 (b f) ≤ s.1 (a f) + p f) ∧ (e2 f = true → s.1 (b f) < 1000000 → (kw_r a b p e1 e2 k i s).1 (a f) ≤ s.1 (b f) - p f)) := by
  intro k
  induction k with
  | zero =>
    intro i c s h0 h1 h2 h3 h4
    refine ⟨by rw [show c + ((0 : Nat) : Int) = c by omega]; exact h4, fun v => Int.le_refl _, fun f f0 f1 => by omega⟩
  | succ k ih =>
    intro i c s h0 h1 h2 h3 h4
    obtain ⟨g1, g2, g3, g4⟩ := kw_s_L ho h2 (by omega) h0 (by omega) h4
    obtain ⟨i1, i2, i3⟩ := ih (i + 1) (c + 1) (kw_s a b p e1 e2 i s) (by omega) (by omega) (by omega) (by omega) g1
    unfold kw_r
    refine ⟨by rw [show c + ((k + 1 : Nat) : Int) = c + 1 + k by omega]; exact i1, fun v => Int.le_trans (i2 v) (g2 v), fun f f0 f1 => ?_⟩
    by_cases e : f = i
    · subst e
      refine ⟨fun q1 q2 => ?_, fun q1 q2 => ?_⟩
      · have := i2 (b f)
        have := g2 (a f)
        rcases g3 q1 q2 with w | w <;> omega
      · have := i2 (a f); have := g4 q1 q2; omega
    · have := i3 f (by omega) f1
      refine ⟨fun q1 q2 => ?_, fun q1 q2 => ?_⟩
      · have ga := g2 (a f)
        have := this.1 q1 (by omega); omega
      · have gb := g2 (b f)
        have := this.2 q1 (by omega); omega
end FL
section FL2
variable {a b p : Int → Int} {e1 e2 : Int → Bool} {n : Int} {src : Int → Prop}
/-- a label is final -/
def kw_F (a b p : Int → Int) (e1 e2 : Int → Bool) (n : Int) (src : Int → Prop) (s : Int → Int) (v : Int) : Prop := s v < 1000000 ∧ kw_D src (kw_arc a b p e1 e2 n) v (s v)
theorem kw_arc_in (ho : kw_ok a b p n) {u v w : Int} (h : kw_arc a b p e1 e2 n u v w) : (0 ≤ u ∧ u < 6) ∧ (0 ≤ v ∧ v < 6) ∧ -999 ≤ w ∧ w ≤ 999 := by
  obtain ⟨f, f0, f1, h | h⟩ := h
  · have := ho.2 f f0 f1; omega
  · have := ho.2 f f0 f1; omega
theorem kw_k_in (ho : kw_ok a b p n) (hs : ∀ v, src v → 0 ≤ v ∧ v < 6) : ∀ (k : Nat) (v d : Int), kw_k src (kw_arc a b p e1 e2 n) k v d → 0 ≤ v ∧ v < 6 := by
  intro k v d h
  cases k with
  | zero => exact hs v h.1
  | succ k => obtain ⟨u, e, w, -, h2, -⟩ := h; exact (kw_arc_in ho h2).2.1
theorem kw_F_stay {s t : Int → Int} {v c : Int} (h : kw_F a b p e1 e2 n src s v) (hv : 0 ≤ v ∧ v < 6) (lt : t v ≤ s v) (L : kw_L (kw_arc a b p e1 e2 n) src c t) : kw_F a b p e1 e2 n src t v := by
  have := (L v hv.1 hv.2).1
  rcases this with w | ⟨-, k, w⟩
  · have := h.1; omega
  · have := h.2.2 k (t v) w
    have e : t v = s v := by omega
    unfold kw_F; rw [e]; exact h
/-- where one isn't final, one more becomes so in a round -/
theorem kw_F_more (ho : kw_ok a b p n) (hs : ∀ v, src v → 0 ≤ v ∧ v < 6) {s t : Int → Int} {c : Int} (c0 : 0 ≤ c) (c1 : c < 1000) (L : kw_L (kw_arc a b p e1 e2 n) src c s) (L2 : kw_L (kw_arc a b p e1 e2 n) src (c + n) t) (mono : ∀ v, t v ≤ s v)
    (relax : ∀ u v w, kw_arc a b p e1 e2 n u v w → s u < 1000000 → t v ≤ s u + w) : ∀ (k : Nat) (v d : Int), kw_k src (kw_arc a b p e1 e2 n) k v d → kw_D src (kw_arc a b p e1 e2 n) v d → kw_F a b p e1 e2 n src s v ∨ ∃ y, (0 ≤ y ∧ y < 6) ∧ ¬ kw_F a b p e1 e2 n src s y ∧ kw_F a b p e1 e2 n src t y := by
  intro k
  induction k with
  | zero =>
    rintro v d ⟨h1, h2⟩ hD
    subst h2
    left
    have hv := hs v h1
    have lv := L v hv.1 hv.2
    have := lv.2 h1
    rcases lv.1 with w | ⟨-, k, w⟩
    · omega
    · have := hD.2 k (s v) w
      have e : s v = 0 := by omega
      unfold kw_F; rw [e]; exact ⟨by decide, hD⟩
  | succ k ih =>
    intro v d h hD
    obtain ⟨u, e, w, h1, hDu, har, hd⟩ := kw_D_pre h hD
    have hin := kw_arc_in ho har
    rcases ih u e h1 hDu with fu | more
    · by_cases fv : kw_F a b p e1 e2 n src s v
      · exact Or.inl fv
      · right
        refine ⟨v, hin.2.1, fv, ?_⟩
        have eu : s u = e := kw_D_one fu.2 hDu
        have lu := L u hin.1.1 hin.1.2
        have su : s u < 1000000 := fu.1
        have sb : s u ≤ 999 * c := by
          rcases lu.1 with z | z
          · omega
          · exact z.1.2
        have tv := relax u v w har su
        have lv := L2 v hin.2.1.1 hin.2.1.2
        rcases lv.1 with z | ⟨-, k2, z⟩
        · have := hin.2.2; omega
        · have := hD.2 k2 (t v) z
          have et : t v = d := by omega
          unfold kw_F; rw [et]; exact ⟨by omega, hD⟩
    · exact Or.inr more
theorem kw_relax {k : Nat} (ho : kw_ok a b p n) {c : Int} {s : (Int → Int) × (Int → Int)} (hn : (k : Int) = n) (c0 : 0 ≤ c) (c1 : c + n < 1000) (L : kw_L (kw_arc a b p e1 e2 n) src c s.1) : ∀ u v w, kw_arc a b p e1 e2 n u v w → s.1 u < 1000000 → (kw_r a b p e1 e2 k 0 s).1 v ≤ s.1 u + w := by
  intro u v w har su
  obtain ⟨f, f0, f1, h⟩ := har
  have := (kw_r_L ho k 0 c s (by omega) (by omega) c0 (by omega) L).2.2 f f0 f1
  rcases h with ⟨q, rfl, rfl, rfl⟩ | ⟨q, rfl, rfl, rfl⟩
  · exact this.1 q su
  · have := this.2 q su; omega
/-- rounds -/
def kw_it (a b p : Int → Int) (e1 e2 : Int → Bool) (n : Int) : Nat → (Int → Int) × (Int → Int) → (Int → Int) × (Int → Int)
  | 0, s => s
  | r + 1, s => kw_r a b p e1 e2 n.toNat 0 (kw_it a b p e1 e2 n r s)
/-- the labels at the start -/
def kw_0 (src : Int → Prop) (s : Int → Int) : Prop := ∀ v : Int, 0 ≤ v → v < 6 → (src v → s v = 0) ∧ (¬ src v → s v = 1000000)
theorem kw_it_L (ho : kw_ok a b p n) (n0 : 0 ≤ n) {s0 : (Int → Int) × (Int → Int)} (h0 : kw_0 src s0.1) : ∀ (r : Nat), r ≤ 60 → kw_L (kw_arc a b p e1 e2 n) src (n * r) (kw_it a b p e1 e2 n r s0).1 := by
  have hn := ho.1
  intro r
  induction r with
  | zero =>
    intro _ v v0 v1
    have := h0 v v0 v1
    refine ⟨?_, fun w => ?_⟩
    · by_cases z : src v
      · right; show (_ ≤ s0.1 v ∧ s0.1 v ≤ _) ∧ _; rw [this.1 z]; exact ⟨by omega, 0, z, this.1 z⟩
      · left; exact this.2 z
    · show s0.1 v ≤ 0; rw [this.1 w]; exact Int.le_refl _
  | succ r ih =>
    intro hr
    have i := ih (by omega)
    have e : n * ((r + 1 : Nat) : Int) = n * r + (n.toNat : Int) := by
      rw [show ((r + 1 : Nat) : Int) = (r : Int) + 1 by omega, Int.mul_add, Int.mul_one]; omega
    have b1 : n * (r : Int) ≤ 14 * r := Int.mul_le_mul_of_nonneg_right hn (by omega)
    have b0 : 0 ≤ n * (r : Int) := Int.mul_nonneg n0 (by omega)
    rw [e]
    exact (kw_r_L ho n.toNat 0 (n * r) (kw_it a b p e1 e2 n r s0) (by omega) (by omega) b0 (by omega) i).1
/-- after five rounds the labels are final -/
theorem kw_five (ho : kw_ok a b p n) (n0 : 0 ≤ n) (hs : ∀ v, src v → 0 ≤ v ∧ v < 6) {pi : Int → Int} {B : Int} (hp : ∀ u v w, kw_arc a b p e1 e2 n u v w → 0 ≤ w + pi u - pi v) (hB : ∀ v, src v → pi v ≤ B) {s0 : (Int → Int) × (Int → Int)} (h0 : kw_0 src s0.1) :
    ∀ (k : Nat) (v d : Int), kw_k src (kw_arc a b p e1 e2 n) k v d → kw_F a b p e1 e2 n src (kw_it a b p e1 e2 n 5 s0).1 v := by
  classical
  have hn := ho.1
  have L := fun r hr => @kw_it_L a b p e1 e2 n src ho n0 s0 h0 r hr
  have bn : ∀ r : Nat, r ≤ 60 → 0 ≤ n * (r : Int) ∧ n * (r : Int) ≤ 14 * r := fun r _ => ⟨Int.mul_nonneg n0 (by omega), Int.mul_le_mul_of_nonneg_right hn (by omega)⟩
  have mono : ∀ r : Nat, r < 60 → ∀ v, (kw_it a b p e1 e2 n (r + 1) s0).1 v ≤ (kw_it a b p e1 e2 n r s0).1 v := fun r hr v => by
    have := bn r (by omega)
    exact (kw_r_L ho n.toNat 0 (n * r) (kw_it a b p e1 e2 n r s0) (by omega) (by omega) this.1 (by omega) (L r (by omega))).2.1 v
  have stay : ∀ r : Nat, r < 60 → ∀ v, 0 ≤ v → v < 6 → kw_F a b p e1 e2 n src (kw_it a b p e1 e2 n r s0).1 v → kw_F a b p e1 e2 n src (kw_it a b p e1 e2 n (r + 1) s0).1 v := fun r hr v v0 v1 h => kw_F_stay h ⟨v0, v1⟩ (mono r hr v) (L (r + 1) (by omega))
  intro k v d h
  have hv := kw_k_in ho hs k v d h
  obtain ⟨e, hD⟩ := kw_D_ex hp hB h
  obtain ⟨kk, hk⟩ := hD.1
  by_cases fin : kw_F a b p e1 e2 n src (kw_it a b p e1 e2 n 5 s0).1 v
  · exact fin
  exfalso
  have notyet : ∀ r : Nat, r ≤ 5 → ¬ kw_F a b p e1 e2 n src (kw_it a b p e1 e2 n r s0).1 v := by
    intro r hr
    have key : ∀ j : Nat, r + j ≤ 5 → kw_F a b p e1 e2 n src (kw_it a b p e1 e2 n r s0).1 v → kw_F a b p e1 e2 n src (kw_it a b p e1 e2 n (r + j) s0).1 v := by
      intro j
      induction j with
      | zero => intro _ h; exact h
      | succ j ih => intro hj h; exact stay (r + j) (by omega) v hv.1 hv.2 (ih (by omega) h)
    intro hF
    have := key (5 - r) (by omega) hF
    rw [show r + (5 - r) = 5 by omega] at this
    exact fin this
  have grow : ∀ r : Nat, r < 5 → kcnt (kw_F a b p e1 e2 n src (kw_it a b p e1 e2 n r s0).1) 6 + 1 ≤ kcnt (kw_F a b p e1 e2 n src (kw_it a b p e1 e2 n (r + 1) s0).1) 6 := by
    intro r hr
    have bb := bn r (by omega)
    have en : n * ((r + 1 : Nat) : Int) = n * r + n := by rw [show ((r + 1 : Nat) : Int) = (r : Int) + 1 by omega, Int.mul_add, Int.mul_one]
    have L2 := L (r + 1) (by omega)
    rw [en] at L2
    rcases kw_F_more ho hs bb.1 (by omega) (L r (by omega)) L2 (mono r (by omega)) (kw_relax (k := n.toNat) ho (by omega) bb.1 (by omega) (L r (by omega))) kk v e hk hD with w | ⟨y, y1, y2, y3⟩
    · exact absurd w (notyet r (by omega))
    · exact kcnt_more 6 (fun k k0 k1 w => stay r (by omega) k k0 (by omega) w) ⟨y, y1.1, y1.2, y2, y3⟩
  have first : 1 ≤ kcnt (kw_F a b p e1 e2 n src (kw_it a b p e1 e2 n 0 s0).1) 6 := by
    have srcs : ∀ (k : Nat) (v d : Int), kw_k src (kw_arc a b p e1 e2 n) k v d → kw_D src (kw_arc a b p e1 e2 n) v d → ∃ s, (0 ≤ s ∧ s < 6) ∧ kw_F a b p e1 e2 n src s0.1 s := by
      intro k
      induction k with
      | zero =>
        rintro v d ⟨h1, h2⟩ hD
        subst h2
        have hv := hs v h1
        refine ⟨v, hv, ?_⟩
        unfold kw_F
        rw [(h0 v hv.1 hv.2).1 h1]
        exact ⟨by decide, hD⟩
      | succ k ih =>
        intro v d h hD
        obtain ⟨u, e, w, h1, h2, -, -⟩ := kw_D_pre h hD
        exact ih u e h1 h2
    obtain ⟨s, s1, s2⟩ := srcs kk v e hk hD
    have := kcnt_more (P := fun _ => False) (R := kw_F a b p e1 e2 n src s0.1) 6 (fun k _ _ w => w.elim) ⟨s, s1.1, s1.2, id, s2⟩
    have := (kcnt_b (P := fun _ => False) 6).1
    show 1 ≤ kcnt (kw_F a b p e1 e2 n src s0.1) 6
    omega
  have g0 : kcnt (kw_F a b p e1 e2 n src (kw_it a b p e1 e2 n 0 s0).1) 6 + 1 ≤ kcnt (kw_F a b p e1 e2 n src (kw_it a b p e1 e2 n 1 s0).1) 6 := grow 0 (by omega)
  have g1 : kcnt (kw_F a b p e1 e2 n src (kw_it a b p e1 e2 n 1 s0).1) 6 + 1 ≤ kcnt (kw_F a b p e1 e2 n src (kw_it a b p e1 e2 n 2 s0).1) 6 := grow 1 (by omega)
  have g2 : kcnt (kw_F a b p e1 e2 n src (kw_it a b p e1 e2 n 2 s0).1) 6 + 1 ≤ kcnt (kw_F a b p e1 e2 n src (kw_it a b p e1 e2 n 3 s0).1) 6 := grow 2 (by omega)
  have g3 : kcnt (kw_F a b p e1 e2 n src (kw_it a b p e1 e2 n 3 s0).1) 6 + 1 ≤ kcnt (kw_F a b p e1 e2 n src (kw_it a b p e1 e2 n 4 s0).1) 6 := grow 3 (by omega)
  have g4 : kcnt (kw_F a b p e1 e2 n src (kw_it a b p e1 e2 n 4 s0).1) 6 + 1 ≤ kcnt (kw_F a b p e1 e2 n src (kw_it a b p e1 e2 n 5 s0).1) 6 := grow 4 (by omega)
  have top := (kcnt_b (P := kw_F a b p e1 e2 n src (kw_it a b p e1 e2 n 5 s0).1) 6).2
  have full := kcnt_full (P := kw_F a b p e1 e2 n src (kw_it a b p e1 e2 n 5 s0).1) 6 (by omega) v hv.1 hv.2
  exact fin full
/-- all that can be reached is final -/
def kw_done (a b p : Int → Int) (e1 e2 : Int → Bool) (n : Int) (src : Int → Prop) (s : Int → Int) : Prop := ∀ (k : Nat) (v d : Int), kw_k src (kw_arc a b p e1 e2 n) k v d → kw_F a b p e1 e2 n src s v
theorem kw_done_h (ho : kw_ok a b p n) {s : (Int → Int) × (Int → Int)} {c f : Int} (c1 : c < 1000) (L : kw_L (kw_arc a b p e1 e2 n) src c s.1) (hd : kw_done a b p e1 e2 n src s.1) (f0 : 0 ≤ f) (f1 : f < n) : ¬ kw_h a b p e1 e2 f s := by
  obtain ⟨oa, ob, oab, op⟩ := ho.2 f f0 f1
  rintro (⟨q1, q2, q3⟩ | ⟨q1, q2, q3⟩)
  · obtain ⟨-, k, w⟩ := (L (a f) oa.1 oa.2).1.resolve_left (by omega)
    have walk : kw_k src (kw_arc a b p e1 e2 n) (k + 1) (b f) (s.1 (a f) + p f) := ⟨a f, s.1 (a f), p f, w, ⟨f, f0, f1, Or.inl ⟨q1, rfl, rfl, rfl⟩⟩, rfl⟩
    have := (hd _ _ _ walk).2.2 _ _ walk
    omega
  · obtain ⟨-, k, w⟩ := (L (b f) ob.1 ob.2).1.resolve_left (by omega)
    have walk : kw_k src (kw_arc a b p e1 e2 n) (k + 1) (a f) (s.1 (b f) - p f) := ⟨b f, s.1 (b f), -p f, w, ⟨f, f0, f1, Or.inr ⟨q1, rfl, rfl, rfl⟩⟩, by omega⟩
    have := (hd _ _ _ walk).2.2 _ _ walk
    omega
/-- whether a round changes one -/
def kw_rh (a b p : Int → Int) (e1 e2 : Int → Bool) : Nat → Int → (Int → Int) × (Int → Int) → Prop
  | 0, _, _ => False
  | k + 1, i, s => kw_h a b p e1 e2 i s ∨ kw_rh a b p e1 e2 k (i + 1) (kw_s a b p e1 e2 i s)
theorem kw_s_no {f : Int} {s : (Int → Int) × (Int → Int)} (h : ¬ kw_h a b p e1 e2 f s) : kw_s a b p e1 e2 f s = s := by
  unfold kw_s; rw [if_neg (fun w => h (Or.inl w)), if_neg (fun w => h (Or.inr w))]
theorem kw_rh_no : ∀ (k : Nat) (i : Int) (s : (Int → Int) × (Int → Int)), ¬ kw_rh a b p e1 e2 k i s → kw_r a b p e1 e2 k i s = s := by
  intro k
  induction k with
  | zero => intro i s _; rfl
  | succ k ih =>
    intro i s h
    unfold kw_rh at h
    unfold kw_r
    have e := kw_s_no (fun w => h (Or.inl w))
    rw [e]
    rw [e] at h
    exact ih (i + 1) s (fun w => h (Or.inr w))
theorem kw_done_rh (ho : kw_ok a b p n) {c : Int} (c1 : c < 1000) : ∀ (k : Nat) (i : Int) (s : (Int → Int) × (Int → Int)), 0 ≤ i → i + k = n → kw_L (kw_arc a b p e1 e2 n) src c s.1 → kw_done a b p e1 e2 n src s.1 → ¬ kw_rh a b p e1 e2 k i s := by
  intro k
  induction k with
  | zero => intro i s _ _ _ _ h; exact h
  | succ k ih =>
    intro i s h0 h1 L hd h
    have nh := kw_done_h ho c1 L hd h0 (by omega : i < n)
    unfold kw_rh at h
    rw [kw_s_no nh] at h
    rcases h with h | h
    · exact nh h
    · exact ih (i + 1) s (by omega) (by omega) L hd h
end FL2
