/-! ===== flights: only the six lands matter; what a search leaves ===== -/
def kw_6 (s t : (Int → Int) × (Int → Int)) : Prop := ∀ v : Int, 0 ≤ v → v < 6 → s.1 v = t.1 v ∧ s.2 v = t.2 v
section FL5
variable {a b p : Int → Int} {e1 e2 : Int → Bool} {n : Int} {src : Int → Prop}
theorem kw_h_cong (ho : kw_ok a b p n) {f : Int} {s t : (Int → Int) × (Int → Int)} (f0 : 0 ≤ f) (f1 : f < n) (h : kw_6 s t) : kw_h a b p e1 e2 f s ↔ kw_h a b p e1 e2 f t := by
  obtain ⟨oa, ob, -, -⟩ := ho.2 f f0 f1
  unfold kw_h
  rw [(h _ oa.1 oa.2).1, (h _ ob.1 ob.2).1]
theorem kw_s_cong (ho : kw_ok a b p n) {f : Int} {s t : (Int → Int) × (Int → Int)} (f0 : 0 ≤ f) (f1 : f < n) (h : kw_6 s t) : kw_6 (kw_s a b p e1 e2 f s) (kw_s a b p e1 e2 f t) := by
  obtain ⟨oa, ob, -, -⟩ := ho.2 f f0 f1
  unfold kw_s
  rw [(h _ oa.1 oa.2).1, (h _ ob.1 ob.2).1]
  intro v v0 v1
  have := h v v0 v1
  split
  · unfold km_u1; dsimp only; exact ⟨by rw [this.1], by rw [this.2]⟩
  · split
    · unfold km_u1; dsimp only; exact ⟨by rw [this.1], by rw [this.2]⟩
    · exact this
theorem kw_r_cong (ho : kw_ok a b p n) : ∀ (k : Nat) (i : Int) (s t : (Int → Int) × (Int → Int)), 0 ≤ i → i + k = n → kw_6 s t → kw_6 (kw_r a b p e1 e2 k i s) (kw_r a b p e1 e2 k i t) ∧ (kw_rh a b p e1 e2 k i s ↔ kw_rh a b p e1 e2 k i t) := by
  intro k
  induction k with
  | zero => intro i s t _ _ h; exact ⟨h, Iff.rfl⟩
  | succ k ih =>
    intro i s t h0 h1 h
    have c1 := kw_s_cong (e1 := e1) (e2 := e2) ho h0 (by omega : i < n) h
    have c2 := kw_h_cong (e1 := e1) (e2 := e2) ho h0 (by omega : i < n) h
    have i1 := ih (i + 1) _ _ (by omega) (by omega) c1
    exact ⟨i1.1, by unfold kw_rh; rw [c2, i1.2]⟩
theorem kw_w_cong (ho : kw_ok a b p n) (n0 : 0 ≤ n) : ∀ (k : Nat) (s t : (Int → Int) × (Int → Int)), kw_6 s t → kw_6 (kw_w a b p e1 e2 n k s) (kw_w a b p e1 e2 n k t) := by
  intro k
  induction k with
  | zero => intro s t h; exact h
  | succ k ih =>
    intro s t h
    have c := kw_r_cong (e1 := e1) (e2 := e2) ho n.toNat 0 s t (by omega) (by omega) h
    unfold kw_w
    by_cases z : kw_rh a b p e1 e2 n.toNat 0 s
    · rw [if_pos z, if_pos (c.2.mp z)]; exact ih _ _ c.1
    · rw [if_neg z, if_neg (fun w => z (c.2.mpr w))]; exact h
/-- what a search leaves -/
theorem kw_srch (ho : kw_ok a b p n) (n0 : 0 ≤ n) (hs : ∀ v, src v → 0 ≤ v ∧ v < 6) (hp : kw_pot (kw_arc a b p e1 e2 n)) {s0 : (Int → Int) × (Int → Int)} (h0 : kw_0 src s0.1) (hv : ∀ v : Int, 0 ≤ v → v < 6 → s0.2 v = -1) :
    kw_L (kw_arc a b p e1 e2 n) src 100 (kw_w a b p e1 e2 n 6 s0).1 ∧ kw_done a b p e1 e2 n src (kw_w a b p e1 e2 n 6 s0).1 ∧ (∃ o, kw_K a b p e1 e2 n src (kw_w a b p e1 e2 n 6 s0) o) ∧ ¬ kw_rh a b p e1 e2 n.toNat 0 (kw_w a b p e1 e2 n 6 s0) := by
  have hn := ho.1
  obtain ⟨pi, hpi⟩ := hp
  obtain ⟨B, hB⟩ := kw_bound pi
  have five := kw_five ho n0 hs hpi (fun v hvv => (hB v (hs v hvv).1 (hs v hvv).2).2) h0
  obtain ⟨j, w | w⟩ := kw_w_it (src := src) ho n0 h0 five 6 0 (by omega)
  · obtain ⟨-, j5, e, nr⟩ := w
    have e0 : kw_it a b p e1 e2 n 0 s0 = s0 := rfl
    rw [e0] at e
    rw [e]
    have L := @kw_it_L a b p e1 e2 n src ho n0 s0 h0 j (by omega)
    have bn : n * (j : Int) ≤ 14 * (j : Int) := Int.mul_le_mul_of_nonneg_right hn (by omega)
    have b0 : 0 ≤ n * (j : Int) := Int.mul_nonneg n0 (by omega)
    refine ⟨fun v v0 v1 => ⟨((L v v0 v1).1).imp id (fun z => ⟨by omega, z.2⟩), (L v v0 v1).2⟩, ?_, kw_K_it ho n0 h0 hv j (by omega), nr⟩
    exact kw_done_of ho n0 b0 (by omega) hs L nr
  · omega
/-- the goal is reached: one goes, seats stay seats, and nothing gets cheaper round about -/
theorem kw_gone (ho : kw_ok a b p n) (n0 : 0 ≤ n) (hp : kw_pot (kw_arc a b p e1 e2 n)) {S T : Int → Int} {D : Int → Int} {l : Int} (E1 : ∀ f, e1 f = true ↔ D f ≤ l ∧ T f < S f) (E2 : ∀ f, e2 f = true ↔ D f ≤ l ∧ 0 < T f) (hT : ∀ f : Int, 0 ≤ f → f < n → 0 ≤ T f ∧ T f ≤ S f)
    {s : (Int → Int) × (Int → Int)} (L : kw_L (kw_arc a b p e1 e2 n) src 100 s.1) (hd : kw_done a b p e1 e2 n src s.1) {o : Int → Int} (K : kw_K a b p e1 e2 n src s o) {g : Int} (hg : 0 ≤ g ∧ g < 6) (hr : s.1 g < 1000000) :
    kw_F a b p e1 e2 n src s.1 g ∧ o g < 6 ∧ (src (kw_go a b s.2 6 g T).1 ∧ (0 ≤ (kw_go a b s.2 6 g T).1 ∧ (kw_go a b s.2 6 g T).1 < 6)) ∧ (∀ f : Int, 0 ≤ f → f < n → 0 ≤ (kw_go a b s.2 6 g T).2 f ∧ (kw_go a b s.2 6 g T).2 f ≤ S f) ∧
      kw_pot (kw_arc a b p (fun f => decide (D f ≤ l) && decide ((kw_go a b s.2 6 g T).2 f < S f)) (fun f => decide (D f ≤ l) && decide (0 < (kw_go a b s.2 6 g T).2 f)) n) := by
  obtain ⟨-, k, walk⟩ := (L g hg.1 hg.2).1.resolve_left (by omega)
  have hF := hd k g (s.1 g) walk
  have hK := K g hg.1 hg.2 hF
  have top := (kcnt_b (P := kw_F a b p e1 e2 n src s.1) 6).2
  have og : o g < 6 := by omega
  obtain ⟨⟨r1, r2, -⟩, r4⟩ := kw_go_spec ho K (T0 := T) 6 g T hg.1 hg.2 hF (by omega) (fun f => Or.inl rfl)
  refine ⟨hF, og, ⟨r1, r2⟩, fun f f0 f1 => ?_, ?_⟩
  · have t := hT f f0 f1
    rcases r4 f with z | ⟨-, -, -, -, ⟨z1, z2⟩ | ⟨z1, z2⟩⟩
    · rw [z]; exact t
    · have := (E1 f).mp z2; omega
    · have := (E2 f).mp z2; omega
  · refine kw_next ho L hd hp (fun f f0 f1 => ⟨fun h => ?_, fun h => ?_⟩)
    · simp only [Bool.and_eq_true, decide_eq_true_eq] at h
      rcases r4 f with z | ⟨-, u1, u2, u3, u4⟩
      · rw [z] at h; exact Or.inl ((E1 f).mpr h)
      · exact Or.inr ⟨u1, u2, u3⟩
    · simp only [Bool.and_eq_true, decide_eq_true_eq] at h
      rcases r4 f with z | ⟨-, u1, u2, u3, u4⟩
      · rw [z] at h; exact Or.inl ((E2 f).mpr h)
      · exact Or.inr ⟨u1, u2, u3⟩
/-- going along depends on via of the six lands alone -/
theorem kw_go_cong (ho : kw_ok a b p n) {s t : (Int → Int) × (Int → Int)} (h : kw_6 s t) {o : Int → Int} (K : kw_K a b p e1 e2 n src s o) : ∀ (k : Nat) (v : Int) (T : Int → Int), 0 ≤ v → v < 6 → kw_F a b p e1 e2 n src s.1 v → kw_go a b s.2 k v T = kw_go a b t.2 k v T := by
  intro k
  induction k with
  | zero => intro v T _ _ _; rfl
  | succ k ih =>
    intro v T v0 v1 hF
    unfold kw_go
    rw [← (h v v0 v1).2]
    by_cases z : s.2 v = -1
    · rw [if_pos z, if_pos z]
    · obtain ⟨u, w, q1, q2, -, -⟩ := (K v v0 v1 hF).2.2 z
      have hin := kw_arc_in ho (kw_par_arc q1)
      have hn := ho.1
      rw [if_neg z, if_neg z]
      obtain ⟨f, p0, p1, g | g⟩ := q1
      · obtain ⟨g1, g2, g3, g4, g5⟩ := g
        rw [if_pos (by omega), if_pos (by omega), g1]
        exact ih (a f) _ (g3 ▸ hin.1.1) (g3 ▸ hin.1.2) (g3 ▸ q2)
      · obtain ⟨g1, g2, g3, g4, g5⟩ := g
        rw [if_neg (by omega), if_neg (by omega), g1, show 14 + f - 14 = f by omega]
        exact ih (b f) _ (g3 ▸ hin.1.1) (g3 ▸ hin.1.2) (g3 ▸ q2)
end FL5
