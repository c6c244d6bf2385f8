section FL3
variable {a b p : Int → Int} {e1 e2 : Int → Bool} {n : Int} {src : Int → Prop}
/-- what via y says of v: it came from u, for w more -/
def kw_par (a b p : Int → Int) (e1 e2 : Int → Bool) (n y v u w : Int) : Prop := ∃ f, 0 ≤ f ∧ f < n ∧ ((y = f ∧ e1 f = true ∧ u = a f ∧ v = b f ∧ w = p f) ∨ (y = 14 + f ∧ e2 f = true ∧ u = b f ∧ v = a f ∧ w = -p f))
theorem kw_par_arc {y v u w : Int} (h : kw_par a b p e1 e2 n y v u w) : kw_arc a b p e1 e2 n u v w := by
  obtain ⟨f, f0, f1, ⟨-, h1, h2, h3, h4⟩ | ⟨-, h1, h2, h3, h4⟩⟩ := h
  · exact ⟨f, f0, f1, Or.inl ⟨h1, h2, h3, h4⟩⟩
  · exact ⟨f, f0, f1, Or.inr ⟨h1, h2, h3, h4⟩⟩
/-- final labels come from final ones that were final before -/
def kw_K (a b p : Int → Int) (e1 e2 : Int → Bool) (n : Int) (src : Int → Prop) (s : (Int → Int) × (Int → Int)) (o : Int → Int) : Prop := ∀ v : Int, 0 ≤ v → v < 6 → kw_F a b p e1 e2 n src s.1 v →
  (0 ≤ o v ∧ o v < kcnt (kw_F a b p e1 e2 n src s.1) 6) ∧ (s.2 v = -1 → src v) ∧ (s.2 v ≠ -1 → ∃ u w, kw_par a b p e1 e2 n (s.2 v) v u w ∧ kw_F a b p e1 e2 n src s.1 u ∧ o u < o v ∧ s.1 v = s.1 u + w)
/-- one label made cheaper along an arc -/
theorem kw_K_up (ho : kw_ok a b p n) {s : (Int → Int) × (Int → Int)} {o : Int → Int} {c v u w y : Int} (L : kw_L (kw_arc a b p e1 e2 n) src c s.1) (hu : s.1 u < 1000000) (hw : s.1 u + w < s.1 v) (hp : kw_par a b p e1 e2 n y v u w) (hy : y ≠ -1) (huv : u ≠ v) (K : kw_K a b p e1 e2 n src s o) :
    ∃ o', kw_K a b p e1 e2 n src (km_u1 s.1 v (s.1 u + w), km_u1 s.2 v y) o' := by
  have har := kw_par_arc hp
  have hin := kw_arc_in ho har
  obtain ⟨lu, k, walk⟩ := (L u hin.1.1 hin.1.2).1.resolve_left (by omega)
  have walkv : kw_k src (kw_arc a b p e1 e2 n) (k + 1) v (s.1 u + w) := ⟨u, s.1 u, w, walk, har, rfl⟩
  have notv : ¬ kw_F a b p e1 e2 n src s.1 v := fun h => by have := h.2.2 _ _ walkv; omega
  have same : ∀ x, x ≠ v → (kw_F a b p e1 e2 n src (km_u1 s.1 v (s.1 u + w)) x ↔ kw_F a b p e1 e2 n src s.1 x) := fun x hx => by unfold kw_F; rw [km_u1_o hx]
  have mono : ∀ x, kw_F a b p e1 e2 n src s.1 x → kw_F a b p e1 e2 n src (km_u1 s.1 v (s.1 u + w)) x := fun x h => (same x (fun e => notv (e ▸ h))).mpr h
  by_cases fv : kw_F a b p e1 e2 n src (km_u1 s.1 v (s.1 u + w)) v
  · have fu : kw_F a b p e1 e2 n src s.1 u := by
      refine ⟨hu, ⟨k, walk⟩, fun k' d' h' => ?_⟩
      have := fv.2.2 (k' + 1) (d' + w) ⟨u, d', w, h', har, rfl⟩
      rw [km_u1_s] at this
      omega
    have more := kcnt_more (P := kw_F a b p e1 e2 n src s.1) (R := kw_F a b p e1 e2 n src (km_u1 s.1 v (s.1 u + w))) 6 (fun x _ _ h => mono x h) ⟨v, hin.2.1.1, hin.2.1.2, notv, fv⟩
    refine ⟨km_u1 o v (kcnt (kw_F a b p e1 e2 n src s.1) 6), fun x x0 x1 hx => ?_⟩
    by_cases e : x = v
    · subst e
      dsimp only
      rw [km_u1_s, km_u1_s, km_u1_s]
      have := K u hin.1.1 hin.1.2 fu
      refine ⟨⟨(kcnt_b 6).1, by omega⟩, fun z => absurd z hy, fun _ => ⟨u, w, hp, mono u fu, ?_, ?_⟩⟩
      · rw [km_u1_o huv]; exact this.1.2
      · rw [km_u1_o huv]
    · have hx' := (same x e).mp hx
      obtain ⟨k1, k2, k3⟩ := K x x0 x1 hx'
      dsimp only
      rw [km_u1_o e, km_u1_o e, km_u1_o e]
      refine ⟨⟨k1.1, by omega⟩, k2, fun z => ?_⟩
      obtain ⟨u', w', q1, q2, q3, q4⟩ := k3 z
      have ne : u' ≠ v := fun e2 => notv (e2 ▸ q2)
      refine ⟨u', w', q1, mono u' q2, ?_, ?_⟩
      · rw [km_u1_o ne]; exact q3
      · rw [km_u1_o ne]; exact q4
  · have cnt : kcnt (kw_F a b p e1 e2 n src s.1) 6 ≤ kcnt (kw_F a b p e1 e2 n src (km_u1 s.1 v (s.1 u + w))) 6 := kcnt_mono 6 (fun x _ _ h => mono x h)
    refine ⟨o, fun x x0 x1 hx => ?_⟩
    have e : x ≠ v := fun e => fv (e ▸ hx)
    have hx' := (same x e).mp hx
    obtain ⟨k1, k2, k3⟩ := K x x0 x1 hx'
    dsimp only
    rw [km_u1_o e, km_u1_o e]
    refine ⟨⟨k1.1, by omega⟩, k2, fun z => ?_⟩
    obtain ⟨u', w', q1, q2, q3, q4⟩ := k3 z
    have ne : u' ≠ v := fun e2 => notv (e2 ▸ q2)
    refine ⟨u', w', q1, mono u' q2, q3, ?_⟩
    rw [km_u1_o ne]; exact q4
theorem kw_K_s (ho : kw_ok a b p n) {s : (Int → Int) × (Int → Int)} {o : Int → Int} {c f : Int} (f0 : 0 ≤ f) (f1 : f < n) (L : kw_L (kw_arc a b p e1 e2 n) src c s.1) (K : kw_K a b p e1 e2 n src s o) : ∃ o', kw_K a b p e1 e2 n src (kw_s a b p e1 e2 f s) o' := by
  obtain ⟨oa, ob, oab, op⟩ := ho.2 f f0 f1
  unfold kw_s
  by_cases z1 : e1 f = true ∧ s.1 (a f) < 1000000 ∧ s.1 (a f) + p f < s.1 (b f)
  · rw [if_pos z1]
    exact kw_K_up ho L z1.2.1 z1.2.2 ⟨f, f0, f1, Or.inl ⟨rfl, z1.1, rfl, rfl, rfl⟩⟩ (by omega) oab K
  · rw [if_neg z1]
    by_cases z2 : e2 f = true ∧ s.1 (b f) < 1000000 ∧ s.1 (b f) - p f < s.1 (a f)
    · rw [if_pos z2]
      have := kw_K_up ho L z2.2.1 (w := -p f) (y := 14 + f) (v := a f) (by omega) ⟨f, f0, f1, Or.inr ⟨rfl, z2.1, rfl, rfl, rfl⟩⟩ (by omega) (fun e => oab e.symm) K
      rw [show s.1 (b f) + -p f = s.1 (b f) - p f by omega] at this
      exact this
    · rw [if_neg z2]; exact ⟨o, K⟩
theorem kw_K_r (ho : kw_ok a b p n) : ∀ (k : Nat) (i c : Int) (s : (Int → Int) × (Int → Int)) (o : Int → Int), 0 ≤ i → i + k = n → 0 ≤ c → c + k < 1000 → kw_L (kw_arc a b p e1 e2 n) src c s.1 → kw_K a b p e1 e2 n src s o → ∃ o', kw_K a b p e1 e2 n src (kw_r a b p e1 e2 k i s) o' := by
  intro k
  induction k with
  | zero => intro i c s o _ _ _ _ _ K; exact ⟨o, K⟩
  | succ k ih =>
    intro i c s o h0 h1 h2 h3 L K
    obtain ⟨o1, K1⟩ := kw_K_s ho h0 (by omega : i < n) L K
    have L1 := (kw_s_L ho h2 (by omega) h0 (by omega : i < n) L).1
    unfold kw_r
    exact ih (i + 1) (c + 1) _ o1 (by omega) (by omega) (by omega) (by omega) L1 K1
theorem kw_K_it (ho : kw_ok a b p n) (n0 : 0 ≤ n) {s0 : (Int → Int) × (Int → Int)} (h0 : kw_0 src s0.1) (hv : ∀ v : Int, 0 ≤ v → v < 6 → s0.2 v = -1) : ∀ (r : Nat), r ≤ 50 → ∃ o, kw_K a b p e1 e2 n src (kw_it a b p e1 e2 n r s0) o := by
  have hn := ho.1
  intro r
  induction r with
  | zero =>
    intro _
    refine ⟨fun _ => 0, fun v v0 v1 hF => ⟨⟨Int.le_refl _, ?_⟩, fun _ => ?_, fun z => absurd (hv v v0 v1) z⟩⟩
    · have := kcnt_more (P := fun _ => False) (R := kw_F a b p e1 e2 n src s0.1) 6 (fun k _ _ w => w.elim) ⟨v, v0, v1, id, hF⟩
      have := (kcnt_b (P := fun _ => False) 6).1
      show 0 < kcnt (kw_F a b p e1 e2 n src s0.1) 6
      omega
    · by_cases z : src v
      · exact z
      · have := (h0 v v0 v1).2 z
        have h1 : s0.1 v < 1000000 := hF.1
        omega
  | succ r ih =>
    intro hr
    obtain ⟨o, K⟩ := ih (by omega)
    have b1 : n * (r : Int) ≤ 14 * r := Int.mul_le_mul_of_nonneg_right hn (by omega)
    have b0 : 0 ≤ n * (r : Int) := Int.mul_nonneg n0 (by omega)
    exact kw_K_r ho n.toNat 0 (n * r) _ o (by omega) (by omega) b0 (by omega) (kw_it_L ho n0 h0 r (by omega)) K
/-- one more goes: along via from the goal back to one who waits; seats taken, given back -/
def kw_go (a b y : Int → Int) : Nat → Int → (Int → Int) → Int × (Int → Int)
  | 0, v, T => (v, T)
  | k + 1, v, T => if y v = -1 then (v, T) else if y v < 14 then kw_go a b y k (a (y v)) (km_u1 T (y v) (T (y v) + 1)) else kw_go a b y k (b (y v - 14)) (km_u1 T (y v - 14) (T (y v - 14) - 1))
/-- used out, or back, by a final label -/
def kw_use (a b p : Int → Int) (e1 e2 : Int → Bool) (n : Int) (src : Int → Prop) (c : Int → Int) (f d : Int) : Prop := (0 ≤ f ∧ f < n) ∧ kw_F a b p e1 e2 n src c (a f) ∧ kw_F a b p e1 e2 n src c (b f) ∧ c (b f) = c (a f) + p f ∧ ((d = 1 ∧ e1 f = true) ∨ (d = -1 ∧ e2 f = true))
theorem kw_go_spec (ho : kw_ok a b p n) {s : (Int → Int) × (Int → Int)} {o T0 : Int → Int} (K : kw_K a b p e1 e2 n src s o) : ∀ (k : Nat) (v : Int) (T : Int → Int), 0 ≤ v → v < 6 → kw_F a b p e1 e2 n src s.1 v → o v ≤ k →
    (∀ f : Int, T f = T0 f ∨ ((∃ x, o v < o x ∧ (0 ≤ x ∧ x < 6) ∧ ((s.2 x = f ∧ x = b f ∧ o (a f) < o x) ∨ (s.2 x = 14 + f ∧ x = a f ∧ o (b f) < o x)) ∧ (o v ≤ o (a f)) ∧ o v ≤ o (b f)) ∧ kw_use a b p e1 e2 n src s.1 f (T f - T0 f))) →
    (src (kw_go a b s.2 k v T).1 ∧ (0 ≤ (kw_go a b s.2 k v T).1 ∧ (kw_go a b s.2 k v T).1 < 6) ∧ s.2 (kw_go a b s.2 k v T).1 = -1) ∧ ∀ f : Int, (kw_go a b s.2 k v T).2 f = T0 f ∨ kw_use a b p e1 e2 n src s.1 f ((kw_go a b s.2 k v T).2 f - T0 f) := by
  intro k
  induction k with
  | zero =>
    intro v T v0 v1 hF hk hT
    obtain ⟨k1, k2, k3⟩ := K v v0 v1 hF
    have z : s.2 v = -1 := by
      by_cases z : s.2 v = -1
      · exact z
      · obtain ⟨u, w, q1, q2, q3, -⟩ := k3 z
        have hin := kw_arc_in ho (kw_par_arc q1)
        have := (K u hin.1.1 hin.1.2 q2).1.1
        omega
    unfold kw_go
    exact ⟨⟨k2 z, ⟨v0, v1⟩, z⟩, fun f => (hT f).imp id (fun h => h.2)⟩
  | succ k ih =>
    intro v T v0 v1 hF hk hT
    obtain ⟨k1, k2, k3⟩ := K v v0 v1 hF
    unfold kw_go
    by_cases z : s.2 v = -1
    · rw [if_pos z]
      exact ⟨⟨k2 z, ⟨v0, v1⟩, z⟩, fun f => (hT f).imp id (fun h => h.2)⟩
    · rw [if_neg z]
      obtain ⟨u, w, q1, q2, q3, q4⟩ := k3 z
      have hin := kw_arc_in ho (kw_par_arc q1)
      obtain ⟨f, f0, f1, h | h⟩ := q1
      · obtain ⟨h1, h2, h3, h4, h5⟩ := h
        have hn := ho.1
        rw [if_pos (by omega), h1]
        have fresh : T f = T0 f := by
          rcases hT f with w1 | ⟨⟨x, x1, xx, x2, x3, x4⟩, -⟩
          · exact w1
          · exfalso
            rw [h3] at q3
            omega
        refine ih (a f) _ (h3 ▸ hin.1.1) (h3 ▸ hin.1.2) (h3 ▸ q2) (by rw [h3] at q3; omega) (fun g => ?_)
        by_cases e : g = f
        · subst e
          right
          rw [km_u1_s, fresh]
          refine ⟨⟨v, h3 ▸ q3, ⟨v0, v1⟩, Or.inl ⟨h1, h4, h3 ▸ q3⟩, Int.le_refl _, ?_⟩, ⟨f0, f1⟩, h3 ▸ q2, h4 ▸ hF, ?_, Or.inl ⟨by omega, h2⟩⟩
          · rw [← h4]; rw [h3] at q3; omega
          · rw [← h4, ← h3, q4, h5]
        · rw [km_u1_o e]
          rcases hT g with w1 | ⟨⟨x, x1, xx, x2, x3, x4⟩, w2⟩
          · exact Or.inl w1
          · right
            rw [h3] at q3
            refine ⟨⟨x, by omega, xx, x2, by omega, by omega⟩, w2⟩
      · obtain ⟨h1, h2, h3, h4, h5⟩ := h
        have hn := ho.1
        rw [if_neg (by omega), h1, show 14 + f - 14 = f by omega]
        have fresh : T f = T0 f := by
          rcases hT f with w1 | ⟨⟨x, x1, xx, x2, x3, x4⟩, -⟩
          · exact w1
          · exfalso
            rw [h3] at q3
            omega
        refine ih (b f) _ (h3 ▸ hin.1.1) (h3 ▸ hin.1.2) (h3 ▸ q2) (by rw [h3] at q3; omega) (fun g => ?_)
        by_cases e : g = f
        · subst e
          right
          rw [km_u1_s, fresh]
          refine ⟨⟨v, h3 ▸ q3, ⟨v0, v1⟩, Or.inr ⟨h1, h4, h3 ▸ q3⟩, ?_, Int.le_refl _⟩, ⟨f0, f1⟩, h4 ▸ hF, h3 ▸ q2, ?_, Or.inr ⟨by omega, h2⟩⟩
          · rw [← h4]; rw [h3] at q3; omega
          · rw [← h4, ← h3, q4, h5]; omega
        · rw [km_u1_o e]
          rcases hT g with w1 | ⟨⟨x, x1, xx, x2, x3, x4⟩, w2⟩
          · exact Or.inl w1
          · right
            rw [h3] at q3
            refine ⟨⟨x, by omega, xx, x2, by omega, by omega⟩, w2⟩
end FL3
section FL4
variable {a b p : Int → Int} {e1 e2 : Int → Bool} {n : Int} {src : Int → Prop}
theorem kw_bound (pi : Int → Int) : ∃ B : Int, ∀ v : Int, 0 ≤ v → v < 6 → -B ≤ pi v ∧ pi v ≤ B := by
  refine ⟨(pi 0).natAbs + (pi 1).natAbs + (pi 2).natAbs + (pi 3).natAbs + (pi 4).natAbs + (pi 5).natAbs, fun v v0 v1 => ?_⟩
  have : v = 0 ∨ v = 1 ∨ v = 2 ∨ v = 3 ∨ v = 4 ∨ v = 5 := by omega
  rcases this with h | h | h | h | h | h <;> subst h <;> omega
/-- there is no way round that makes cheaper -/
def kw_pot (arc : Int → Int → Int → Prop) : Prop := ∃ pi : Int → Int, ∀ u v w, arc u v w → 0 ≤ w + pi u - pi v
theorem kw_pot_0 (ho : kw_ok a b p n) (h : ∀ f : Int, 0 ≤ f → f < n → e2 f = false) : kw_pot (kw_arc a b p e1 e2 n) := by
  refine ⟨fun _ => 0, fun u v w har => ?_⟩
  obtain ⟨f, f0, f1, ⟨-, -, -, q⟩ | ⟨q, -⟩⟩ := har
  · have := ho.2 f f0 f1; dsimp only; omega
  · rw [h f f0 f1] at q; cases q
theorem kw_next (ho : kw_ok a b p n) {c : Int → Int} {d : Int} (L : kw_L (kw_arc a b p e1 e2 n) src d c) (hd : kw_done a b p e1 e2 n src c) (hp : kw_pot (kw_arc a b p e1 e2 n)) {g1 g2 : Int → Bool} (hg : ∀ f : Int, 0 ≤ f → f < n → (g1 f = true → e1 f = true ∨ (kw_F a b p e1 e2 n src c (a f) ∧ kw_F a b p e1 e2 n src c (b f) ∧ c (b f) = c (a f) + p f)) ∧ (g2 f = true → e2 f = true ∨ (kw_F a b p e1 e2 n src c (a f) ∧ kw_F a b p e1 e2 n src c (b f) ∧ c (b f) = c (a f) + p f))) :
    kw_pot (kw_arc a b p g1 g2 n) := by
  classical
  obtain ⟨pi, hpi⟩ := hp
  obtain ⟨B, hB⟩ := kw_bound pi
  have old : ∀ u v w, kw_arc a b p e1 e2 n u v w → 0 ≤ w + (if kw_F a b p e1 e2 n src c u then c u else pi u + (B + 2000000)) - (if kw_F a b p e1 e2 n src c v then c v else pi v + (B + 2000000)) := by
    intro u v w har
    have hin := kw_arc_in ho har
    by_cases fu : kw_F a b p e1 e2 n src c u
    · obtain ⟨k, walk⟩ := fu.2.1
      have fv : kw_F a b p e1 e2 n src c v := hd (k + 1) v (c u + w) ⟨u, c u, w, walk, har, rfl⟩
      have := fv.2.2 (k + 1) (c u + w) ⟨u, c u, w, walk, har, rfl⟩
      rw [if_pos fu, if_pos fv]; omega
    · rw [if_neg fu]
      by_cases fv : kw_F a b p e1 e2 n src c v
      · rw [if_pos fv]
        have h1 : c v < 1000000 := fv.1
        have := hB u hin.1.1 hin.1.2
        omega
      · rw [if_neg fv]
        have := hpi u v w har
        omega
  refine ⟨fun x => if kw_F a b p e1 e2 n src c x then c x else pi x + (B + 2000000), fun u v w har => ?_⟩
  obtain ⟨f, f0, f1, ⟨q, rfl, rfl, rfl⟩ | ⟨q, rfl, rfl, rfl⟩⟩ := har
  · rcases (hg f f0 f1).1 q with z | ⟨z1, z2, z3⟩
    · exact old _ _ _ ⟨f, f0, f1, Or.inl ⟨z, rfl, rfl, rfl⟩⟩
    · dsimp only; rw [if_pos z1, if_pos z2]; omega
  · rcases (hg f f0 f1).2 q with z | ⟨z1, z2, z3⟩
    · exact old _ _ _ ⟨f, f0, f1, Or.inr ⟨z, rfl, rfl, rfl⟩⟩
    · dsimp only; rw [if_pos z1, if_pos z2]; omega
/-- rounds while one changes, at most so many -/
noncomputable def kw_w (a b p : Int → Int) (e1 e2 : Int → Bool) (n : Int) : Nat → (Int → Int) × (Int → Int) → (Int → Int) × (Int → Int)
  | 0, s => s
  | k + 1, s => @ite _ (kw_rh a b p e1 e2 n.toNat 0 s) (Classical.propDecidable _) (kw_w a b p e1 e2 n k (kw_r a b p e1 e2 n.toNat 0 s)) s
theorem kw_w_it (ho : kw_ok a b p n) (n0 : 0 ≤ n) {s0 : (Int → Int) × (Int → Int)} (h0 : kw_0 src s0.1) (h5 : kw_done a b p e1 e2 n src (kw_it a b p e1 e2 n 5 s0).1) : ∀ (k r : Nat), r + k = 6 → ∃ j : Nat, r ≤ j ∧ j ≤ 5 ∧ kw_w a b p e1 e2 n k (kw_it a b p e1 e2 n r s0) = kw_it a b p e1 e2 n j s0 ∧ ¬ kw_rh a b p e1 e2 n.toNat 0 (kw_it a b p e1 e2 n j s0) ∨ r = 6 := by
  have hn := ho.1
  intro k
  induction k with
  | zero => intro r h; exact ⟨0, Or.inr (by omega)⟩
  | succ k ih =>
    intro r h
    by_cases z : kw_rh a b p e1 e2 n.toNat 0 (kw_it a b p e1 e2 n r s0)
    · have r5 : r ≠ 5 := fun e => by
        subst e
        have L := @kw_it_L a b p e1 e2 n src ho n0 s0 h0 5 (by omega)
        have bn : n * ((5 : Nat) : Int) ≤ 14 * ((5 : Nat) : Int) := Int.mul_le_mul_of_nonneg_right hn (by omega)
        exact kw_done_rh (src := src) ho (c := n * ((5 : Nat) : Int)) (by omega) n.toNat 0 _ (by omega) (by omega) L h5 z
      obtain ⟨j, w | w⟩ := ih (r + 1) (by omega)
      · refine ⟨j, Or.inl ⟨by omega, w.2.1, ?_, w.2.2.2⟩⟩
        rw [kw_w, if_pos z]
        exact w.2.2.1
      · omega
    · refine ⟨r, Or.inl ⟨Nat.le_refl _, by omega, ?_, z⟩⟩
      rw [kw_w, if_neg z]
/-- no change in a round: all is final -/
theorem kw_done_of (ho : kw_ok a b p n) (n0 : 0 ≤ n) {s : (Int → Int) × (Int → Int)} {c : Int} (c0 : 0 ≤ c) (c1 : c + n < 1000) (hs : ∀ v, src v → 0 ≤ v ∧ v < 6) (L : kw_L (kw_arc a b p e1 e2 n) src c s.1) (h : ¬ kw_rh a b p e1 e2 n.toNat 0 s) : kw_done a b p e1 e2 n src s.1 := by
  have rel := kw_relax (k := n.toNat) ho (by omega) c0 c1 L
  rw [kw_rh_no _ _ _ h] at rel
  have low : ∀ (k : Nat) (v d : Int), kw_k src (kw_arc a b p e1 e2 n) k v d → s.1 v ≤ d ∧ s.1 v < 1000000 := by
    intro k
    induction k with
    | zero =>
      rintro v d ⟨h1, h2⟩
      have hv := hs v h1
      have := (L v hv.1 hv.2).2 h1
      omega
    | succ k ih =>
      rintro v d ⟨u, e, w, h1, har, h3⟩
      have hin := kw_arc_in ho har
      have iu := ih u e h1
      have := rel u v w har iu.2
      have lu := (L u hin.1.1 hin.1.2).1
      have : s.1 u ≤ 999 * c := by
        rcases lu with z | z
        · omega
        · exact z.1.2
      omega
  intro k v d h
  have hv := kw_k_in ho hs k v d h
  have lo := low k v d h
  obtain ⟨-, k2, walk⟩ := (L v hv.1 hv.2).1.resolve_left (by omega)
  exact ⟨lo.2, ⟨k2, walk⟩, fun k' d' h' => (low k' v d' h').1⟩
end FL4
