/-! ===== the law's calls ===== -/
theorem km_run_ty : ∀ (n : Nat) (M : km_Md) (pc : Nat) (ls : km_Ls) (st : List km_V) (A : km_Al) (m : km_Mm) (x : Option km_V) (A' : km_Al) (m' : km_Mm), km_run n M pc ls st A m = some (x, A', m') → ((M.2.2.2.2.1 = some .int ∨ M.2.2.2.2.1 = some .boolean) → ∃ z : Int, x = some (.inl z)) ∧ (M.2.2.2.2.1 = some .long → ∃ z : Int, x = some (.inr (.inl z)))
  | 0, M, pc, ls, st, A, m, x, A', m', h => by cases h
  | n + 1, M, pc, ls, st, A, m, x, A', m', h => by
    rw [km_run] at h
    split at h
    · cases h
    · exact km_run_ty n _ _ _ _ _ _ _ _ _ h
    · split at h
      · cases h
      · exact km_run_ty n _ _ _ _ _ _ _ _ _ h
    · next v hs =>
      cases h
      rcases km_step_kind hs with ⟨X, h1⟩ | ⟨k, kind, -, h1⟩ | h1
      · cases h1
      · exact (km_call_no h1).elim
      · rcases h1 with ⟨-, h1⟩ | ⟨-, h1⟩ | ⟨-, h1⟩
        · unfold km_ret at h1
          split at h1
          · next z _ =>
            split at h1
            · next hz =>
              cases h1
              refine ⟨fun _ => ⟨z, rfl⟩, fun hl => ?_⟩
              rw [hl] at hz
              rcases hz with hz | hz
              · cases hz
              · cases hz.1
            · cases h1
          · next q => cases q
          · next q => cases q
          · cases h1
        · unfold km_ret at h1
          split at h1
          · next q => cases q
          · next z _ =>
            split at h1
            · next hz =>
              cases h1
              refine ⟨fun hl => ?_, fun _ => ⟨z, rfl⟩⟩
              rw [hz] at hl
              rcases hl with hl | hl <;> cases hl
            · cases h1
          · next q => cases q
          · cases h1
        · unfold km_ret at h1
          split at h1
          · next q => cases q
          · next q => cases q
          · split at h1
            · next hz =>
              cases h1
              refine ⟨fun hl => ?_, fun hl => ?_⟩
              · rw [hz] at hl
                rcases hl with hl | hl <;> cases hl
              · rw [hz] at hl; cases hl
            · cases h1
          · cases h1
theorem kA0_ln {q : Nat × Int × Int × Int × Int} {c s : Nat} : km_ln (km_A0 q c s) (-2) = (q.1 : Int) := by
  show (if (0 : Int) ≤ -2 then km_lnL.getD (-2 : Int).toNat 0 else if (-2 : Int) = -2 then (q.1 : Int) else 0) = _
  rw [if_neg (by decide), if_pos rfl]
theorem kA0_inj {q q' : Nat × Int × Int × Int × Int} {c s : Nat} (h : km_A0 q c s = km_A0 q' c s) : q = q' := by
  have a1 : km_ln (km_A0 q c s) (-2) = km_ln (km_A0 q' c s) (-2) := by rw [h]
  rw [kA0_ln, kA0_ln] at a1
  have a2 : km_rf (km_A0 q c s) 0 2 = km_rf (km_A0 q' c s) 0 2 := by rw [h]
  have a3 : km_rf (km_A0 q c s) 0 3 = km_rf (km_A0 q' c s) 0 3 := by rw [h]
  have a4 : km_rf (km_A0 q c s) 37 1 = km_rf (km_A0 q' c s) 37 1 := by rw [h]
  have a5 : km_rf (km_A0 q c s) 69 6 = km_rf (km_A0 q' c s) 69 6 := by rw [h]
  have b2 : q.2.1 = q'.2.1 := a2
  have b3 : q.2.2.1 = q'.2.2.1 := a3
  have b4 : q.2.2.2.1 = q'.2.2.2.1 := a4
  have b5 : q.2.2.2.2 = q'.2.2.2.2 := a5
  obtain ⟨x1, x2, x3, x4, x5⟩ := q
  obtain ⟨y1, y2, y3, y4, y5⟩ := q'
  dsimp only at a1 b2 b3 b4 b5
  have : x1 = y1 := by omega
  subst this; subst b2; subst b3; subst b4; subst b5
  rfl
theorem kl_v {Mc Mm : km_Md} {as : List km_V} {N N' : Int} {q : Nat × Int × Int × Int × Int} {c s : Nat} {m : km_Mm} {P : km_V → Prop} (h : kFq Mc Mm as N N' q c s m) (f1 : ¬ 10 ≤ Mc.2.2.2.2.2.2.2) (f2 : ¬ 10 ≤ Mm.2.2.2.2.2.2.2) (hv : ∀ (n : Nat) (x : Option km_V) (A' : km_Al) (m' : km_Mm), km_run n Mc 0 (km_entry Mc.2.2.2.1 (.inr (.inr 0) :: as)) [] (km_A0 q c s) m = some (x, A', m') → ∃ v : km_V, x = some v ∧ P v) {F : Option km_V → km_Al → km_Mm → Prop}
    (hF : ∀ (v : km_V) (q' : Nat × Int × Int × Int × Int) (m1 : km_Mm), P v → m1 (-2) = m (-2) → q'.1 = q.1 → ∃ G : Option km_V → km_Al → km_Mm → Prop, (km_E Mm (.inr (.inr 123) :: as) (km_A0 q' c s) m1 G → F (some v) (km_A0 q' c s) m1) ∧ ∀ m2 : km_Mm, m2 (-2) = m (-2) → q'.1 = q.1 → kIN N' q' m2 → G (some v) (km_A0 q' c s) m2) : km_E Mc (.inr (.inr 0) :: as) (km_A0 q c s) m F := by
  obtain ⟨v0, q0, m10, m20, a1, -, -, -⟩ := h (fun _ _ _ => True) (fun _ _ _ => True)
  obtain ⟨n, x, A1, m1, r1, -⟩ := a1.mpr trivial
  have det : ∀ Q, km_E Mc (.inr (.inr 0) :: as) (km_A0 q c s) m Q ↔ Q x A1 m1 := fun Q => km_E.det ⟨n, x, A1, m1, r1, rfl, rfl, rfl⟩
  rw [if_neg f1] at r1
  have e2 := km_run_m2 _ _ _ _ _ _ _ _ _ _ r1
  obtain ⟨z, hz, hP⟩ := hv _ _ _ _ r1
  have key : ∀ Q2 : Option km_V → km_Al → km_Mm → Prop, ∃ (q' : Nat × Int × Int × Int × Int) (m2 : km_Mm), A1 = km_A0 q' c s ∧ (km_E Mm (.inr (.inr 123) :: as) (km_A0 q' c s) m1 Q2 ↔ Q2 (some z) (km_A0 q' c s) m2) ∧ q'.1 = q.1 ∧ kIN N' q' m2 := by
    intro Q2
    obtain ⟨v, q', m1', m2, b1, b2, b3, b4⟩ := h (fun y A M => y = x ∧ A = A1 ∧ M = m1) Q2
    obtain ⟨c1, c2, c3⟩ := b1.mp ((det _).mpr ⟨rfl, rfl, rfl⟩)
    have e9 : v = z := Option.some.inj (c1.trans hz)
    rw [c3, e9] at b2
    exact ⟨q', m2, c2.symm, b2, b3, b4⟩
  obtain ⟨q1, m2a, ea, b2a, b3a, b4a⟩ := key (fun _ _ _ => True)
  obtain ⟨n2, x2, A2, m2, r2, -⟩ := b2a.mpr trivial
  have det2 : ∀ Q, km_E Mm (.inr (.inr 123) :: as) (km_A0 q1 c s) m1 Q ↔ Q x2 A2 m2 := fun Q => km_E.det ⟨n2, x2, A2, m2, r2, rfl, rfl, rfl⟩
  rw [if_neg f2] at r2
  have e3 := km_run_m2 _ _ _ _ _ _ _ _ _ _ r2
  obtain ⟨q2, m3, eb, b5, b6, b7⟩ := key (fun y A M => y = x2 ∧ A = A2 ∧ M = m2)
  have e4 : q2 = q1 := kA0_inj (eb.symm.trans ea)
  subst e4
  obtain ⟨d1, d2, d3⟩ := b5.mp ((det2 _).mpr ⟨rfl, rfl, rfl⟩)
  rw [d3] at b7
  obtain ⟨G, g1, g2⟩ := hF z q2 m1 hP e2 b6
  refine (det F).mpr ?_
  rw [hz, ea]
  refine g1 ((det2 G).mpr ?_)
  rw [← d1, ← d2]
  exact g2 m2 (e3.trans e2) b6 b7
theorem kl_int {Mc Mm : km_Md} {as : List km_V} {N N' : Int} {q : Nat × Int × Int × Int × Int} {c s : Nat} {m : km_Mm} (h : kFq Mc Mm as N N' q c s m) (f1 : ¬ 10 ≤ Mc.2.2.2.2.2.2.2) (f2 : ¬ 10 ≤ Mm.2.2.2.2.2.2.2) (hr : Mc.2.2.2.2.1 = some .int ∨ Mc.2.2.2.2.1 = some .boolean) {F : Option km_V → km_Al → km_Mm → Prop}
    (hF : ∀ (z : Int) (q' : Nat × Int × Int × Int × Int) (m1 : km_Mm), m1 (-2) = m (-2) → q'.1 = q.1 → ∃ G : Option km_V → km_Al → km_Mm → Prop, (km_E Mm (.inr (.inr 123) :: as) (km_A0 q' c s) m1 G → F (some (.inl z)) (km_A0 q' c s) m1) ∧ ∀ m2 : km_Mm, m2 (-2) = m (-2) → q'.1 = q.1 → kIN N' q' m2 → G (some (.inl z)) (km_A0 q' c s) m2) : km_E Mc (.inr (.inr 0) :: as) (km_A0 q c s) m F :=
  kl_v (P := fun v => ∃ z : Int, v = .inl z) h f1 f2 (fun n x A' m' hh => by obtain ⟨z, hz⟩ := (km_run_ty _ _ _ _ _ _ _ _ _ _ hh).1 hr; exact ⟨_, hz, z, rfl⟩) (fun v q' m1 ⟨z, hz⟩ e eq => by subst hz; exact hF z q' m1 e eq)
theorem kl_long {Mc Mm : km_Md} {as : List km_V} {N N' : Int} {q : Nat × Int × Int × Int × Int} {c s : Nat} {m : km_Mm} (h : kFq Mc Mm as N N' q c s m) (f1 : ¬ 10 ≤ Mc.2.2.2.2.2.2.2) (f2 : ¬ 10 ≤ Mm.2.2.2.2.2.2.2) (hr : Mc.2.2.2.2.1 = some .long) {F : Option km_V → km_Al → km_Mm → Prop}
    (hF : ∀ (z : Int) (q' : Nat × Int × Int × Int × Int) (m1 : km_Mm), m1 (-2) = m (-2) → q'.1 = q.1 → ∃ G : Option km_V → km_Al → km_Mm → Prop, (km_E Mm (.inr (.inr 123) :: as) (km_A0 q' c s) m1 G → F (some (.inr (.inl z))) (km_A0 q' c s) m1) ∧ ∀ m2 : km_Mm, m2 (-2) = m (-2) → q'.1 = q.1 → kIN N' q' m2 → G (some (.inr (.inl z))) (km_A0 q' c s) m2) : km_E Mc (.inr (.inr 0) :: as) (km_A0 q c s) m F :=
  kl_v (P := fun v => ∃ z : Int, v = .inr (.inl z)) h f1 f2 (fun n x A' m' hh => by obtain ⟨z, hz⟩ := (km_run_ty _ _ _ _ _ _ _ _ _ _ hh).2 hr; exact ⟨_, hz, z, rfl⟩) (fun v q' m1 ⟨z, hz⟩ e eq => by subst hz; exact hF z q' m1 e eq)
theorem kIN_mono {N N' : Int} {q : Nat × Int × Int × Int × Int} {m : km_Mm} (h : kIN N q m) (hN : N ≤ N') : kIN N' q m := by
  obtain ⟨⟨h1, h2, h3, h4, h5, h6, h7, h8, h9, h10⟩, hp⟩ := h
  refine ⟨⟨h1, h2, h3, h4, h5, h6, h7, h8, fun b b0 b1 => ?_, h10⟩, hp⟩
  obtain ⟨⟨a1, a2, a3⟩, a4⟩ := h9 b b0 b1
  exact ⟨⟨a1, a2, by omega⟩, a4⟩

