/-! ===== the invariant's parts look at their own cells alone ===== -/
def fB (b j : Int) : Prop := (b = 5 ∧ 1 ≤ j ∧ j ≤ 3) ∨ (12 ≤ b ∧ b ≤ 15) ∨ (b = 123 ∧ (j = 3 ∨ j = 5 ∨ j = 11)) ∨ (126 ≤ b ∧ b ≤ 129)
def fT (b j : Int) : Prop := (7 ≤ b ∧ b ≤ 11) ∨ b = 125 ∨ (b = 5 ∧ j = 1)
def fO (b j : Int) : Prop := (b = 19 ∧ j = 1) ∨ b = 20 ∨ b = 21 ∨ (23 ≤ b ∧ b ≤ 28) ∨ (b = 123 ∧ j = 63) ∨ (151 ≤ b ∧ b ≤ 153) ∨ (b = 5 ∧ j = 1)
def fM (b j : Int) : Prop := (30 ≤ b ∧ b ≤ 35) ∨ b = 150
def fF (b j : Int) : Prop := (b = 59 ∧ j = 0) ∨ (60 ≤ b ∧ b ≤ 64) ∨ (b = 123 ∧ j = 67) ∨ (154 ≤ b ∧ b ≤ 158)
def fH (b j : Int) : Prop := (b = 85 ∧ (j = 0 ∨ j = 2)) ∨ (86 ≤ b ∧ b ≤ 89) ∨ (b = 123 ∧ (j = 83 ∨ j = 87 ∨ j = 89)) ∨ (163 ≤ b ∧ b ≤ 165) ∨ b = 167
def fE (b j : Int) : Prop := (b = 100 ∧ (j = 0 ∨ j = 1 ∨ j = 4)) ∨ b = 101 ∨ b = 102 ∨ (104 ≤ b ∧ b ≤ 112) ∨ (b = 19 ∧ j = 1) ∨ (b = 5 ∧ j = 1) ∨ (b = 123 ∧ (j = 80 ∨ j = 81 ∨ j = 82 ∨ j = 91)) ∨ b = 166 ∨ b = 168 ∨ b = 169 ∨ b = 170
def fS (b j : Int) : Prop := b = 1 ∨ b = 2 ∨ b = 182 ∨ b = 183
def fA (b j : Int) : Prop := (b = 3 ∧ j = 1) ∨ b = 4 ∨ (b = 37 ∧ (j = 2 ∨ j = 3)) ∨ (b = 123 ∧ (j = 1 ∨ j = 23 ∨ j = 24)) ∨ b = 124
def fR (b j : Int) : Prop := b = 52 ∧ (j = 7 ∨ j = 8)
theorem kB_cg {m m' : km_Mm} (h : kI_book m) (k : ∀ b j : Int, fB b j → m' b j = m b j) : kI_book m' := by
  have r : ∀ b : Int, (12 ≤ b ∧ b ≤ 15) ∨ (126 ≤ b ∧ b ≤ 129) → ∀ j : Int, m' b j = m b j := fun b hb j => k b j (by unfold fB; omega)
  have f : ∀ j : Int, 1 ≤ j → j ≤ 3 → m' 5 j = m 5 j := fun j a b => k 5 j (by unfold fB; omega)
  have g : ∀ j : Int, j = 3 ∨ j = 5 ∨ j = 11 → m' 123 j = m 123 j := fun j a => k 123 j (by unfold fB; omega)
  unfold kI_book kI_note km_nt km_ntM at *
  rw [f 1 (by decide) (by decide), f 2 (by decide) (by decide), f 3 (by decide) (by decide), g 3 (by decide), g 5 (by decide), g 11 (by decide)]
  simp only [r 12 (by decide), r 13 (by decide), r 14 (by decide), r 15 (by decide), r 126 (by decide), r 127 (by decide), r 128 (by decide), r 129 (by decide)]
  exact h
theorem kT_cg {m m' : km_Mm} (h : kI_trait m) (k : ∀ b j : Int, fT b j → m' b j = m b j) : kI_trait m' := by
  unfold kI_trait at *
  have r : ∀ b : Int, (7 ≤ b ∧ b ≤ 11) ∨ b = 125 → ∀ j : Int, m' b j = m b j := fun b hb j => k b j (by unfold fT; omega)
  simp only [k 5 1 (by unfold fT; omega), r 125 (by decide), r 7 (by decide), r 8 (by decide), r 9 (by decide), r 10 (by decide), r 11 (by decide)]; exact h
theorem kO_cg {m m' : km_Mm} (h : kI_opt m) (k : ∀ b j : Int, fO b j → m' b j = m b j) : kI_opt m' := by
  unfold kI_opt at *
  have r : ∀ b : Int, b = 20 ∨ b = 21 ∨ (23 ≤ b ∧ b ≤ 28) ∨ (151 ≤ b ∧ b ≤ 153) → ∀ j : Int, m' b j = m b j := fun b hb j => k b j (by unfold fO; omega)
  rw [k 5 1 (by unfold fO; omega), k 19 1 (by unfold fO; omega), k 123 63 (by unfold fO; omega)]
  refine ⟨h.1, fun o o0 o1 => ?_, fun o k o0 o1 k0 k1 => ?_⟩
  · rw [r 151 (by decide), r 152 (by decide), r 20 (by decide), r 21 (by decide)]; exact h.2.1 o o0 o1
  · rw [r (23 + o) (by omega), r 153 (by decide)]; exact h.2.2 o k o0 o1 k0 k1
theorem kM_cg {m m' : km_Mm} (h : kI_mil m) (k : ∀ b j : Int, fM b j → m' b j = m b j) : kI_mil m' := by
  intro a b a0 a1 b0 b1
  rw [k (30 + a) b (by unfold fM; omega), k 150 _ (by unfold fM; omega)]; exact h a b a0 a1 b0 b1
theorem kF_cg {m m' : km_Mm} (h : kI_fl m) (k : ∀ b j : Int, fF b j → m' b j = m b j) : kI_fl m' := by
  unfold kI_fl at *
  have r : ∀ b : Int, (60 ≤ b ∧ b ≤ 64) ∨ (154 ≤ b ∧ b ≤ 158) → ∀ j : Int, m' b j = m b j := fun b hb j => k b j (by unfold fF; omega)
  rw [k 59 0 (by unfold fF; omega), k 123 67 (by unfold fF; omega)]
  simp only [r 154 (by decide), r 155 (by decide), r 156 (by decide), r 157 (by decide), r 158 (by decide), r 60 (by decide), r 61 (by decide), r 62 (by decide), r 63 (by decide), r 64 (by decide)]; exact h
theorem kH_cg {m m' : km_Mm} (h : kI_house m) (k : ∀ b j : Int, fH b j → m' b j = m b j) : kI_house m' := by
  unfold kI_house at *
  have r : ∀ b : Int, (86 ≤ b ∧ b ≤ 89) ∨ (163 ≤ b ∧ b ≤ 165) ∨ b = 167 → ∀ j : Int, m' b j = m b j := fun b hb j => k b j (by unfold fH; omega)
  rw [k 85 0 (by unfold fH; omega), k 85 2 (by unfold fH; omega), k 123 83 (by unfold fH; omega), k 123 87 (by unfold fH; omega), k 123 89 (by unfold fH; omega)]
  simp only [r 163 (by decide), r 86 (by decide), r 167 (by decide), r 87 (by decide), r 88 (by decide), r 164 (by decide), r 165 (by decide), r 89 (by decide)]; exact h
theorem kE_cg {m m' : km_Mm} (h : kI_meet m) (k : ∀ b j : Int, fE b j → m' b j = m b j) : kI_meet m' := by
  unfold kI_meet at *
  have r : ∀ b : Int, b = 101 ∨ b = 102 ∨ (104 ≤ b ∧ b ≤ 112) ∨ b = 166 ∨ b = 168 ∨ b = 169 ∨ b = 170 → ∀ j : Int, m' b j = m b j := fun b hb j => k b j (by unfold fE; omega)
  rw [k 5 1 (by unfold fE; omega), k 19 1 (by unfold fE; omega), k 100 0 (by unfold fE; omega), k 100 1 (by unfold fE; omega), k 100 4 (by unfold fE; omega), k 123 80 (by unfold fE; omega), k 123 81 (by unfold fE; omega), k 123 82 (by unfold fE; omega), k 123 91 (by unfold fE; omega)]
  simp only [r 101 (by decide), r 170 (by decide), r 102 (by decide), r 166 (by decide), r 168 (by decide), r 112 (by decide), r 169 (by decide)]
  obtain ⟨a1, a2, a3, a4, a5, a6, a7, a8⟩ := h
  refine ⟨a1, a2, a3, a4, a5, a6, fun d k d0 d1 k0 k1 => ?_, a8⟩
  rw [r (104 + d) (by omega)]; exact a7 d k d0 d1 k0 k1
theorem kS_cg {N : Int} {m m' : km_Mm} (h : kI_host N m) (k : ∀ b j : Int, fS b j → m' b j = m b j) : kI_host N m' := by
  unfold kI_host at *
  have r : ∀ b : Int, b = 1 ∨ b = 2 ∨ b = 182 ∨ b = 183 → ∀ j : Int, m' b j = m b j := fun b hb j => k b j (by unfold fS; omega)
  simp only [r 182 (by decide), r 1 (by decide), r 183 (by decide), r 2 (by decide)]; exact h
theorem kA_cg {m m' : km_Mm} (h : kI_tape m) (k : ∀ b j : Int, fA b j → m' b j = m b j) : kI_tape m' := by
  unfold kI_tape at *
  have r : ∀ b : Int, b = 4 ∨ b = 124 → ∀ j : Int, m' b j = m b j := fun b hb j => k b j (by unfold fA; omega)
  rw [k 3 1 (by unfold fA; omega), k 123 1 (by unfold fA; omega), k 123 23 (by unfold fA; omega), k 123 24 (by unfold fA; omega), k 37 2 (by unfold fA; omega), k 37 3 (by unfold fA; omega)]
  simp only [r 124 (by decide), r 4 (by decide)]; exact h
theorem kR_cg {m m' : km_Mm} (h : kI_scr m) (k : ∀ b j : Int, fR b j → m' b j = m b j) : kI_scr m' := by
  unfold kI_scr at *
  rw [k 52 7 (by unfold fR; omega), k 52 8 (by unfold fR; omega)]; exact h
/-- one call on both sides: the same answer, and the invariant holds on -/
def kF (Mc Mm : km_Md) (as : List km_V) (N : Int) (q : Nat × Int × Int × Int × Int) (c s : Nat) (m : km_Mm) : Prop := ∀ Q1 Q2 : Option km_V → km_Al → km_Mm → Prop, ∃ (v : km_V) (m1 m2 : km_Mm), (km_E Mc (.inr (.inr 0) :: as) (km_A0 q c s) m Q1 ↔ Q1 (some v) (km_A0 q c s) m1) ∧ (km_E Mm (.inr (.inr 123) :: as) (km_A0 q c s) m1 Q2 ↔ Q2 (some v) (km_A0 q c s) m2) ∧ kI0 N m2 ∧ kP_eq m m2
theorem fc_near {N : Int} {q : Nat × Int × Int × Int × Int} {c s : Nat} {m : km_Mm} (h : kI0 N m) {n a b what : Int} : kF M_X11_near M_X12_near [.inl n, .inl a, .inl b, .inl what] N q c s m := by
  intro Q1 Q2
  obtain ⟨m1, j1, s1, e1⟩ := @cl_near q c s m n a b what h.1 h.2.1 Q1
  have i1 := kI0_jk h j1 s1
  obtain ⟨m2, j2, r2, e2⟩ := @md_near q c s m m1 n a b what h.1 i1.1 j1 Q2
  refine ⟨_, m1, m2, e1, e2, kI0_jk i1 j2 ?_, kP_jk (j1.tr j2)⟩
  unfold kI_scr at *
  rw [r2]; exact s1
theorem fc_told {N : Int} {q : Nat × Int × Int × Int × Int} {c s : Nat} {m : km_Mm} (h : kI0 N m) {n y a b what : Int} : kF M_X11_told M_X12_told [.inl n, .inl y, .inl a, .inl b, .inl what] N q c s m := by
  intro Q1 Q2
  obtain ⟨m1, j1, r1, e1⟩ := @cl_told q c s m n y a b what h.1 Q1
  have s1 : kI_scr m1 := by unfold kI_scr; rw [r1 7 (by decide), r1 8 (by decide)]; exact h.2.1
  have i1 := kI0_jk h j1 s1
  obtain ⟨m2, j2, r2, e2⟩ := @md_told q c s m m1 n y a b what h.1 i1.1 j1 Q2
  refine ⟨_, m1, m2, e1, e2, kI0_jk i1 j2 ?_, kP_jk (j1.tr j2)⟩
  unfold kI_scr at *
  rw [r2]; exact s1

