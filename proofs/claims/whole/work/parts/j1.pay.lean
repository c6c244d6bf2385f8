/-! ===== promise 24: settle: payments within a group ===== -/
theorem kcnt_mon9 {P R : Int → Prop} : ∀ (n : Nat), (∀ k : Int, 0 ≤ k → k < n → P k → R k) → kcnt P n ≤ kcnt R n := by
  intro n
  induction n with
  | zero => intro _; exact Int.le_refl _
  | succ n ih =>
    intro h
    have i := ih (fun k k0 k1 => h k k0 (by omega))
    have e := h n (by omega) (by omega)
    rw [kcnt, kcnt]
    by_cases p : P n
    · rw [if_pos p, if_pos (e p)]; omega
    · rw [if_neg p]
      split <;> omega
theorem kcnt_drop {P R : Int → Prop} {j : Int} (j0 : 0 ≤ j) (hj : R j) (nj : ¬ P j) : ∀ (n : Nat), j < n → (∀ k : Int, 0 ≤ k → k < n → P k → R k) → kcnt P n + 1 ≤ kcnt R n := by
  intro n
  induction n with
  | zero => intro h; exact absurd h (by omega)
  | succ n ih =>
    intro hn h
    rw [kcnt, kcnt]
    by_cases e : j = n
    · have i := kcnt_mon9 (P := P) (R := R) n (fun k k0 k1 => h k k0 (by omega))
      rw [← e, if_neg nj, if_pos hj]; omega
    · have i := ih (by omega) (fun k k0 k1 => h k k0 (by omega))
      have e := h n (by omega) (by omega)
      by_cases p : P n
      · rw [if_pos p, if_pos (e p)]; omega
      · rw [if_neg p]
        split <;> omega
/-- the first of ten with P, or -1 -/
def kF1 (P : Int → Prop) (v : Int) : Prop := (v = -1 ∧ ∀ k : Int, 0 ≤ k → k < 10 → ¬ P k) ∨ ((0 ≤ v ∧ v < 10) ∧ P v ∧ ∀ k : Int, 0 ≤ k → k < v → ¬ P k)
/-- the first behind k and before n, or -1 -/
def kF2 (P : Int → Prop) (k n v : Int) : Prop := (v = -1 ∧ ∀ j : Int, k < j → j < n → ¬ P j) ∨ ((k < v ∧ v < n) ∧ P v ∧ ∀ j : Int, k < j → j < v → ¬ P j)
theorem kF2_1 {P : Int → Prop} {n v : Int} (h : kF2 P (-1) n v) (n10 : n ≤ 10) (hi : ∀ j : Int, n ≤ j → j < 10 → ¬ P j) : kF1 P v := by
  rcases h with ⟨h1, h2⟩ | ⟨h1, h2, h3⟩
  · refine Or.inl ⟨h1, fun k k0 k1 => ?_⟩
    by_cases e : k < n
    · exact h2 k (by omega) e
    · exact hi k (by omega) k1
  · exact Or.inr ⟨⟨by omega, by omega⟩, h2, fun k k0 k1 => h3 k (by omega) k1⟩
theorem kF1_un {P : Int → Prop} {u v : Int} (h : kF1 P u) (g : kF1 P v) : u = v := by
  rcases h with ⟨h1, h2⟩ | ⟨h1, h2, h3⟩
  · rcases g with ⟨g1, g2⟩ | ⟨g1, g2, g3⟩
    · rw [h1, g1]
    · exact absurd g2 (h2 v g1.1 g1.2)
  · rcases g with ⟨g1, g2⟩ | ⟨g1, g2, g3⟩
    · exact absurd h2 (g2 u h1.1 h1.2)
    · refine Classical.byContradiction fun ne => ?_
      by_cases l : u < v
      · exact g3 u h1.1 l h2
      · exact h3 v g1.1 (by omega) g2
theorem ksgz_neg {x : Int} : ksgz x = -1 ↔ x < 0 := by unfold ksgz; split <;> (try split) <;> omega
theorem ksgz_pos {x : Int} : ksgz x = 1 ↔ 0 < x := by unfold ksgz; split <;> (try split) <;> omega
section PY
variable {q q' : Nat × Int × Int × Int × Int} {c s : Nat} {X Y : km_Mm} {g side kn i p : Int} {f : Int → Int}
theorem c_firstOpen (hg : ten g) (hX : ∀ j : Int, 0 ≤ j → j < 10 → -9999991 ≤ X 119 j ∧ X 119 j ≤ 9999991) (sd : side = -1 ∨ side = 1) : ∃ v : Int, kF1 (fun k => tb g k = true ∧ ksgz (X 119 k) = side) v ∧ ∀ Q : Option km_V → km_Al → km_Mm → Prop, km_E M_X9_firstOpen [.inr (.inr 113), .inl g, .inl side] (km_A0 q c s) X Q ↔ Q (some (.inl v)) (km_A0 q c s) X := by
  have lp : ∀ (n : Nat) (i : Nat), i + n = 10 → (∀ k : Int, 0 ≤ k → k < i → ¬ (tb g k = true ∧ ksgz (X 119 k) = side)) → ∃ v : Int, kF1 (fun k => tb g k = true ∧ ksgz (X 119 k) = side) v ∧ ∀ Q : Option km_V → km_Al → km_Mm → Prop, km_G M_X9_firstOpen 2 [some (.inr (.inr 113)), some (.inl g), some (.inl side), some (.inl (i : Int))] [] (km_A0 q c s) X Q ↔ Q (some (.inl v)) (km_A0 q c s) X := by
    intro n
    induction n with
    | zero =>
      intro i hi no
      have e : i = 10 := by omega
      subst e
      refine ⟨-1, Or.inl ⟨rfl, fun k k0 k1 => no k k0 (by omega)⟩, fun Q => ?_⟩
      rw [g_X9_firstOpen_2]
      simp (config := { decide := true }) (disch := first | decide | assumption | omega | (simp (config := { decide := true }) only [km_sr_sf, km_sr_of, km_up_of, km_up_o, km_upx_i, km_upx_s, km_fl2_o, ne_eq, not_true_eq_false, not_false_eq_true] <;> omega) | fail) only [g_X9_firstOpen, ka_lt, ka_le, ka_nlt, ka_nle, ka_ne, ka_eq, Int.add_sub_cancel, true_or, or_true, false_or, or_false, false_and, and_false, if_true, if_false, ka_lo, ka_hi, ka_nn, km_sr_sf, km_sr_of, km_up_of, km_sr_us, km_sr_uo, km_sr_sr, km_sr_fl, km_sr_flo, km_up_up, km_up_lt, km_lay, km_unL, km_up_o, km_upx_i, km_upx_s, km_fl2_o, km_is, Option.some.injEq, Sum.inl.injEq, Sum.inr.injEq, Option.toList_some, Option.toList_none, List.cons_append, List.nil_append, ne_eq, true_and, and_true, and_self, not_true_eq_false, not_false_eq_true, true_implies, false_implies, reduceCtorEq]
    | succ n ih =>
      intro i hi no
      have z : (i : Int) < 10 := by omega
      have i0 : (0 : Int) ≤ i := by omega
      have e1 : ((i + 1 : Nat) : Int) = (i : Int) + 1 := by omega
      have xb := hX i i0 z
      have sg := fun mm Q => @r_signum q c s mm (X 119 i) (by omega) (by omega) Q
      have bt := ks_bit0 (x := g) (k := (i : Int)) hg.1 (by have := hg.2; omega) i0 (by omega)
      by_cases t : tb g i = true
      · have bn : ¬ km_and (km_shr g i) 1 = 0 := fun v => by rw [bt.mp v] at t; cases t
        by_cases y : ksgz (X 119 i) = side
        · refine ⟨i, Or.inr ⟨⟨i0, z⟩, ⟨t, y⟩, no⟩, fun Q => ?_⟩
          rw [g_X9_firstOpen_2]
          simp (config := { decide := true }) (disch := first | decide | assumption | omega | (simp (config := { decide := true }) only [km_sr_sf, km_sr_of, km_up_of, km_up_o, km_upx_i, km_upx_s, km_fl2_o, ne_eq, not_true_eq_false, not_false_eq_true] <;> omega) | fail) only [g_X9_firstOpen, z, i0, bn, sg, y, ka_lt, ka_le, ka_nlt, ka_nle, ka_ne, ka_eq, Int.add_sub_cancel, true_or, or_true, false_or, or_false, false_and, and_false, if_true, if_false, ka_lo, ka_hi, ka_nn, km_sr_sf, km_sr_of, km_up_of, km_sr_us, km_sr_uo, km_sr_sr, km_sr_fl, km_sr_flo, km_up_up, km_up_lt, km_lay, km_unL, km_up_o, km_upx_i, km_upx_s, km_fl2_o, km_is, Option.some.injEq, Sum.inl.injEq, Sum.inr.injEq, Option.toList_some, Option.toList_none, List.cons_append, List.nil_append, ne_eq, true_and, and_true, and_self, not_true_eq_false, not_false_eq_true, true_implies, false_implies, reduceCtorEq]
        · obtain ⟨v, v1, v2⟩ := ih (i + 1) (by omega) (fun k k0 k1 h => by
            by_cases e : k = i
            · subst e; exact y h.2
            · exact no k k0 (by omega) h)
          refine ⟨v, v1, fun Q => ?_⟩
          rw [← v2 Q, g_X9_firstOpen_2, e1]
          simp (config := { decide := true }) (disch := first | decide | assumption | omega | (simp (config := { decide := true }) only [km_sr_sf, km_sr_of, km_up_of, km_up_o, km_upx_i, km_upx_s, km_fl2_o, ne_eq, not_true_eq_false, not_false_eq_true] <;> omega) | fail) only [g_X9_firstOpen, z, i0, bn, sg, y, ka_lt, ka_le, ka_nlt, ka_nle, ka_ne, ka_eq, Int.add_sub_cancel, true_or, or_true, false_or, or_false, false_and, and_false, if_true, if_false, ka_lo, ka_hi, ka_nn, km_sr_sf, km_sr_of, km_up_of, km_sr_us, km_sr_uo, km_sr_sr, km_sr_fl, km_sr_flo, km_up_up, km_up_lt, km_lay, km_unL, km_up_o, km_upx_i, km_upx_s, km_fl2_o, km_is, Option.some.injEq, Sum.inl.injEq, Sum.inr.injEq, Option.toList_some, Option.toList_none, List.cons_append, List.nil_append, ne_eq, true_and, and_true, and_self, not_true_eq_false, not_false_eq_true, true_implies, false_implies, reduceCtorEq]
      · have bn : km_and (km_shr g i) 1 = 0 := bt.mpr (by simpa using t)
        obtain ⟨v, v1, v2⟩ := ih (i + 1) (by omega) (fun k k0 k1 h => by
          by_cases e : k = i
          · subst e; exact t h.1
          · exact no k k0 (by omega) h)
        refine ⟨v, v1, fun Q => ?_⟩
        rw [← v2 Q, g_X9_firstOpen_2, e1]
        simp (config := { decide := true }) (disch := first | decide | assumption | omega | (simp (config := { decide := true }) only [km_sr_sf, km_sr_of, km_up_of, km_up_o, km_upx_i, km_upx_s, km_fl2_o, ne_eq, not_true_eq_false, not_false_eq_true] <;> omega) | fail) only [g_X9_firstOpen, z, i0, bn, ka_lt, ka_le, ka_nlt, ka_nle, ka_ne, ka_eq, Int.add_sub_cancel, true_or, or_true, false_or, or_false, false_and, and_false, if_true, if_false, ka_lo, ka_hi, ka_nn, km_sr_sf, km_sr_of, km_up_of, km_sr_us, km_sr_uo, km_sr_sr, km_sr_fl, km_sr_flo, km_up_up, km_up_lt, km_lay, km_unL, km_up_o, km_upx_i, km_upx_s, km_fl2_o, km_is, Option.some.injEq, Sum.inl.injEq, Sum.inr.injEq, Option.toList_some, Option.toList_none, List.cons_append, List.nil_append, ne_eq, true_and, and_true, and_self, not_true_eq_false, not_false_eq_true, true_implies, false_implies, reduceCtorEq]
  obtain ⟨v, v1, v2⟩ := lp 10 0 (by decide) (fun k k0 k1 => absurd k1 (by omega))
  have k0 : ((0 : Nat) : Int) = 0 := rfl
  refine ⟨v, v1, fun Q => ?_⟩
  rw [← v2 Q, k0, e_X9_firstOpen]
  simp (config := { decide := true }) (disch := first | decide | assumption | omega | (simp (config := { decide := true }) only [km_sr_sf, km_sr_of, km_up_of, km_up_o, km_upx_i, km_upx_s, km_fl2_o, ne_eq, not_true_eq_false, not_false_eq_true] <;> omega) | fail) only [g_X9_firstOpen, ka_lt, ka_le, ka_nlt, ka_nle, ka_ne, ka_eq, Int.add_sub_cancel, true_or, or_true, false_or, or_false, false_and, and_false, if_true, if_false, ka_lo, ka_hi, ka_nn, km_sr_sf, km_sr_of, km_up_of, km_sr_us, km_sr_uo, km_sr_sr, km_sr_fl, km_sr_flo, km_up_up, km_up_lt, km_lay, km_unL, km_up_o, km_upx_i, km_upx_s, km_fl2_o, km_is, Option.some.injEq, Sum.inl.injEq, Sum.inr.injEq, Option.toList_some, Option.toList_none, List.cons_append, List.nil_append, ne_eq, true_and, and_true, and_self, not_true_eq_false, not_false_eq_true, true_implies, false_implies, reduceCtorEq]
/-- the reference looks for both -/
theorem m_scan (hg : ten g) (k10 : kn ≤ 10) (hf : ∀ j : Int, 0 ≤ j → j < kn → Y 176 j = f j) (o6 : Option km_V) : ∀ (n : Nat) (k a b : Int), k + 1 = n → k < kn → kF2 (fun j => tb g j = true ∧ f j < 0) k kn a → kF2 (fun j => tb g j = true ∧ 0 < f j) k kn b → ∃ a' b' : Int, kF2 (fun j => tb g j = true ∧ f j < 0) (-1) kn a' ∧ kF2 (fun j => tb g j = true ∧ 0 < f j) (-1) kn b' ∧ ∀ Q : Option km_V → km_Al → km_Mm → Prop, km_G M_X12_paysOff 19 [some (.inr (.inr 123)), some (.inl g), some (.inl 1), some (.inl a), some (.inl b), some (.inl k), o6] [] (km_A0 q c s) Y Q ↔ km_G M_X12_paysOff 73 [some (.inr (.inr 123)), some (.inl g), some (.inl 1), some (.inl a'), some (.inl b'), some (.inl (-1)), o6] [] (km_A0 q c s) Y Q := by
  intro n
  induction n with
  | zero =>
    intro k a b hk kk ha hb
    have e : k = -1 := by omega
    subst e
    refine ⟨a, b, ha, hb, fun Q => ?_⟩
    rw [g_X12_paysOff_19]
    simp (config := { decide := true }) (disch := first | decide | assumption | omega | (simp (config := { decide := true }) only [km_sr_sf, km_sr_of, km_up_of, km_up_o, km_upx_i, km_upx_s, km_fl2_o, ne_eq, not_true_eq_false, not_false_eq_true] <;> omega) | fail) only [g_X12_paysOff, ka_lt, ka_le, ka_nlt, ka_nle, ka_ne, ka_eq, Int.add_sub_cancel, true_or, or_true, false_or, or_false, false_and, and_false, if_true, if_false, ka_lo, ka_hi, ka_nn, km_sr_sf, km_sr_of, km_up_of, km_sr_us, km_sr_uo, km_sr_sr, km_sr_fl, km_sr_flo, km_up_up, km_up_lt, km_lay, km_unL, km_up_o, km_upx_i, km_upx_s, km_fl2_o, km_is, Option.some.injEq, Sum.inl.injEq, Sum.inr.injEq, Option.toList_some, Option.toList_none, List.cons_append, List.nil_append, ne_eq, true_and, and_true, and_self, not_true_eq_false, not_false_eq_true, true_implies, false_implies, reduceCtorEq]
  | succ n ih =>
    intro k a b hk kk ha hb
    have k0 : 0 ≤ k := by omega
    have z : ¬ k < 0 := by omega
    have z2 : k < 10 := by omega
    have fk := hf k k0 kk
    have bt := ks_bit0 (x := g) (k := k) hg.1 (by have := hg.2; omega) k0 (by omega)
    have ek : k + -1 = k - 1 := by omega
    have keep : ∀ (P : Int → Prop) (v : Int), kF2 P k kn v → ¬ P k → kF2 P (k - 1) kn v := fun P v h no => by
      have no2 : ∀ j : Int, k - 1 < j → j ≤ k → ¬ P j := fun j h1 h2 => by
        have : j = k := by omega
        rw [this]; exact no
      rcases h with ⟨h1, h2⟩ | ⟨h1, h2, h3⟩
      · refine Or.inl ⟨h1, fun j j1 j2 => ?_⟩
        by_cases e : j ≤ k
        · exact no2 j j1 e
        · exact h2 j (by omega) j2
      · refine Or.inr ⟨⟨by omega, h1.2⟩, h2, fun j j1 j2 => ?_⟩
        by_cases e : j ≤ k
        · exact no2 j j1 e
        · exact h3 j (by omega) j2
    have take : ∀ (P : Int → Prop), P k → kF2 P (k - 1) kn k := fun P h => Or.inr ⟨⟨by omega, kk⟩, h, fun j j1 j2 => absurd j2 (by omega)⟩
    by_cases t : tb g k = true
    · have bn : ¬ km_and (km_shr g k) 1 = 0 := fun v => by rw [bt.mp v] at t; cases t
      by_cases n1 : f k < 0
      · have n2 : ¬ 0 < f k := by omega
        have n3 : f k ≤ 0 := by omega
        have n4 : ¬ 0 ≤ f k := by omega
        obtain ⟨a', b', u1, u2, u3⟩ := ih (k - 1) k b (by omega) (by omega) (take (fun j => tb g j = true ∧ f j < 0) ⟨t, n1⟩) (keep (fun j => tb g j = true ∧ 0 < f j) b hb (fun h => n2 h.2))
        refine ⟨a', b', u1, u2, fun Q => ?_⟩
        rw [← u3 Q, g_X12_paysOff_19, ← ek]
        simp (config := { decide := true }) (disch := first | decide | assumption | omega | (simp (config := { decide := true }) only [km_sr_sf, km_sr_of, km_up_of, km_up_o, km_upx_i, km_upx_s, km_fl2_o, ne_eq, not_true_eq_false, not_false_eq_true] <;> omega) | fail) only [g_X12_paysOff, z, k0, z2, bn, fk, kl_lt, kl_ge, kl_le, kl_gt, n1, n2, n3, n4, ka_lt, ka_le, ka_nlt, ka_nle, ka_ne, ka_eq, Int.add_sub_cancel, true_or, or_true, false_or, or_false, false_and, and_false, if_true, if_false, ka_lo, ka_hi, ka_nn, km_sr_sf, km_sr_of, km_up_of, km_sr_us, km_sr_uo, km_sr_sr, km_sr_fl, km_sr_flo, km_up_up, km_up_lt, km_lay, km_unL, km_up_o, km_upx_i, km_upx_s, km_fl2_o, km_is, Option.some.injEq, Sum.inl.injEq, Sum.inr.injEq, Option.toList_some, Option.toList_none, List.cons_append, List.nil_append, ne_eq, true_and, and_true, and_self, not_true_eq_false, not_false_eq_true, true_implies, false_implies, reduceCtorEq]
      · by_cases p1 : 0 < f k
        · have n3 : ¬ f k ≤ 0 := by omega
          have n4 : 0 ≤ f k := by omega
          obtain ⟨a', b', u1, u2, u3⟩ := ih (k - 1) a k (by omega) (by omega) (keep (fun j => tb g j = true ∧ f j < 0) a ha (fun h => n1 h.2)) (take (fun j => tb g j = true ∧ 0 < f j) ⟨t, p1⟩)
          refine ⟨a', b', u1, u2, fun Q => ?_⟩
          rw [← u3 Q, g_X12_paysOff_19, ← ek]
          simp (config := { decide := true }) (disch := first | decide | assumption | omega | (simp (config := { decide := true }) only [km_sr_sf, km_sr_of, km_up_of, km_up_o, km_upx_i, km_upx_s, km_fl2_o, ne_eq, not_true_eq_false, not_false_eq_true] <;> omega) | fail) only [g_X12_paysOff, z, k0, z2, bn, fk, kl_lt, kl_ge, kl_le, kl_gt, n1, p1, n3, n4, ka_lt, ka_le, ka_nlt, ka_nle, ka_ne, ka_eq, Int.add_sub_cancel, true_or, or_true, false_or, or_false, false_and, and_false, if_true, if_false, ka_lo, ka_hi, ka_nn, km_sr_sf, km_sr_of, km_up_of, km_sr_us, km_sr_uo, km_sr_sr, km_sr_fl, km_sr_flo, km_up_up, km_up_lt, km_lay, km_unL, km_up_o, km_upx_i, km_upx_s, km_fl2_o, km_is, Option.some.injEq, Sum.inl.injEq, Sum.inr.injEq, Option.toList_some, Option.toList_none, List.cons_append, List.nil_append, ne_eq, true_and, and_true, and_self, not_true_eq_false, not_false_eq_true, true_implies, false_implies, reduceCtorEq]
        · have n3 : f k ≤ 0 := by omega
          have n4 : 0 ≤ f k := by omega
          obtain ⟨a', b', u1, u2, u3⟩ := ih (k - 1) a b (by omega) (by omega) (keep (fun j => tb g j = true ∧ f j < 0) a ha (fun h => n1 h.2)) (keep (fun j => tb g j = true ∧ 0 < f j) b hb (fun h => p1 h.2))
          refine ⟨a', b', u1, u2, fun Q => ?_⟩
          rw [← u3 Q, g_X12_paysOff_19, ← ek]
          simp (config := { decide := true }) (disch := first | decide | assumption | omega | (simp (config := { decide := true }) only [km_sr_sf, km_sr_of, km_up_of, km_up_o, km_upx_i, km_upx_s, km_fl2_o, ne_eq, not_true_eq_false, not_false_eq_true] <;> omega) | fail) only [g_X12_paysOff, z, k0, z2, bn, fk, kl_lt, kl_ge, kl_le, kl_gt, n1, p1, n3, n4, ka_lt, ka_le, ka_nlt, ka_nle, ka_ne, ka_eq, Int.add_sub_cancel, true_or, or_true, false_or, or_false, false_and, and_false, if_true, if_false, ka_lo, ka_hi, ka_nn, km_sr_sf, km_sr_of, km_up_of, km_sr_us, km_sr_uo, km_sr_sr, km_sr_fl, km_sr_flo, km_up_up, km_up_lt, km_lay, km_unL, km_up_o, km_upx_i, km_upx_s, km_fl2_o, km_is, Option.some.injEq, Sum.inl.injEq, Sum.inr.injEq, Option.toList_some, Option.toList_none, List.cons_append, List.nil_append, ne_eq, true_and, and_true, and_self, not_true_eq_false, not_false_eq_true, true_implies, false_implies, reduceCtorEq]
    · have bn : km_and (km_shr g k) 1 = 0 := bt.mpr (by simpa using t)
      obtain ⟨a', b', u1, u2, u3⟩ := ih (k - 1) a b (by omega) (by omega) (keep (fun j => tb g j = true ∧ f j < 0) a ha (fun h => t h.1)) (keep (fun j => tb g j = true ∧ 0 < f j) b hb (fun h => t h.1))
      refine ⟨a', b', u1, u2, fun Q => ?_⟩
      rw [← u3 Q, g_X12_paysOff_19, ← ek]
      simp (config := { decide := true }) (disch := first | decide | assumption | omega | (simp (config := { decide := true }) only [km_sr_sf, km_sr_of, km_up_of, km_up_o, km_upx_i, km_upx_s, km_fl2_o, ne_eq, not_true_eq_false, not_false_eq_true] <;> omega) | fail) only [g_X12_paysOff, z, k0, z2, bn, ka_lt, ka_le, ka_nlt, ka_nle, ka_ne, ka_eq, Int.add_sub_cancel, true_or, or_true, false_or, or_false, false_and, and_false, if_true, if_false, ka_lo, ka_hi, ka_nn, km_sr_sf, km_sr_of, km_up_of, km_sr_us, km_sr_uo, km_sr_sr, km_sr_fl, km_sr_flo, km_up_up, km_up_lt, km_lay, km_unL, km_up_o, km_upx_i, km_upx_s, km_fl2_o, km_is, Option.some.injEq, Sum.inl.injEq, Sum.inr.injEq, Option.toList_some, Option.toList_none, List.cons_append, List.nil_append, ne_eq, true_and, and_true, and_self, not_true_eq_false, not_false_eq_true, true_implies, false_implies, reduceCtorEq]
/-- the payments so far, in both -/
def kPz (kn : Int) (X Y : km_Mm) (p : Int) : Prop := (∀ j : Int, 0 ≤ j → j < kn → Y 176 j = X 119 j) ∧ (∀ j : Int, kn ≤ j → j < 10 → X 119 j = 0) ∧ (∀ j : Int, 0 ≤ j → j < 10 → -9999991 ≤ X 119 j ∧ X 119 j ≤ 9999991) ∧ X 113 6 = p ∧ Y 123 101 = p ∧ 0 ≤ p ∧ p + kcnt (fun k => X 119 k ≠ 0) 10 ≤ 10 ∧ ∀ j : Int, 0 ≤ j → j < p → X 120 j = Y 177 j ∧ X 121 j = Y 178 j ∧ X 122 j = Y 179 j ∧ 0 ≤ X 122 j ∧ X 122 j ≤ 9999991
/-- what payments leave -/
def kFC (X X' : km_Mm) : Prop := ∀ d j : Int, ¬ (d = 113 ∧ j = 6) → ¬ (119 ≤ d ∧ d ≤ 122) → X' d j = X d j
def kFM (Y Y' : km_Mm) : Prop := ∀ d j : Int, ¬ (d = 123 ∧ j = 101) → ¬ (176 ≤ d ∧ d ≤ 179) → Y' d j = Y d j
theorem kpay_step {d e n : Int} (hR : kPz kn X Y p) (d0 : 0 ≤ d) (d1 : d < 10) (e0 : 0 ≤ e) (e1 : e < 10) (fd : X 119 d < 0) (fe : 0 < X 119 e) (hn : n = if X 119 e < -X 119 d then X 119 e else -X 119 d) (X' Y' : km_Mm)
    (dX : X' = km_up (km_up (km_up (km_up (km_up (km_up X 119 d (X 119 d + n)) 119 e (X 119 e - n)) 120 p d) 121 p e) 122 p n) 113 6 (p + 1))
    (dY : Y' = km_up (km_up (km_up (km_up (km_up (km_up Y 177 p d) 178 p e) 179 p n) 123 101 (p + 1)) 176 d (X 119 d + n)) 176 e (X 119 e - n)) :
    kPz kn X' Y' (p + 1) ∧ kcnt (fun k => X' 119 k ≠ 0) 10 + 1 ≤ kcnt (fun k => X 119 k ≠ 0) 10 ∧ kFC X X' ∧ kFM Y Y' := by
  obtain ⟨h1, h2, h3, h4, h5, h6, h7, h8⟩ := hR
  have de : d ≠ e := fun w => by rw [w] at fd; omega
  have kd : d < kn := by
    refine Classical.byContradiction fun w => ?_
    have := h2 d (by omega) d1; omega
  have ke : e < kn := by
    refine Classical.byContradiction fun w => ?_
    have := h2 e (by omega) e1; omega
  have bd := h3 d d0 d1
  have be := h3 e e0 e1
  have r : ∀ j : Int, X' 119 j = if j = e then X 119 e - n else if j = d then X 119 d + n else X 119 j := fun j => by
    rw [dX, km_up_ne (by omega), km_up_ne (by omega), km_up_ne (by omega), km_up_ne (by omega)]
    by_cases a : j = e
    · rw [a, km_upx_s, if_pos rfl]
    · rw [km_up_ne (by omega), if_neg a]
      by_cases b : j = d
      · rw [b, km_upx_s, if_pos rfl]
      · rw [km_up_ne (by omega), if_neg b]
  have ry : ∀ j : Int, Y' 176 j = if j = e then X 119 e - n else if j = d then X 119 d + n else Y 176 j := fun j => by
    rw [dY]
    by_cases a : j = e
    · rw [a, km_upx_s, if_pos rfl]
    · rw [km_up_ne (by omega), if_neg a]
      by_cases b : j = d
      · rw [b, km_upx_s, if_pos rfl]
      · rw [km_up_ne (by omega), if_neg b, km_up_ne (by omega), km_up_ne (by omega), km_up_ne (by omega), km_up_ne (by omega)]
  have nb : 0 < n ∧ n ≤ 9999991 ∧ (X 119 e - n = 0 ∨ X 119 d + n = 0) ∧ 0 ≤ X 119 e - n ∧ X 119 d + n ≤ 0 := by
    rw [hn]
    split <;> omega
  have cnt : kcnt (fun k => X' 119 k ≠ 0) 10 + 1 ≤ kcnt (fun k => X 119 k ≠ 0) 10 := by
    have mono : ∀ k : Int, 0 ≤ k → k < (10 : Nat) → X' 119 k ≠ 0 → X 119 k ≠ 0 := fun k k0 k1 h => by
      by_cases a : k = e
      · rw [a]; omega
      · by_cases b : k = d
        · rw [b]; omega
        · rw [r, if_neg a, if_neg b] at h; exact h
    rcases nb.2.2.1 with z | z
    · exact kcnt_drop (j := e) e0 (by omega) (fun h => h (by rw [r, if_pos rfl]; exact z)) 10 (by omega) mono
    · exact kcnt_drop (j := d) d0 (by omega) (fun h => h (by rw [r, if_neg de, if_pos rfl]; exact z)) 10 (by omega) mono
  refine ⟨⟨fun j j0 j1 => by rw [r, ry, h1 j j0 j1], fun j j0 j1 => by rw [r, if_neg (by omega), if_neg (by omega)]; exact h2 j j0 j1, fun j j0 j1 => ?_, by rw [dX, km_upx_s], by rw [dY, km_up_ne (by omega), km_up_ne (by omega), km_upx_s], by omega, by omega, fun j j0 j1 => ?_⟩, cnt, fun a j u1 u2 => ?_, fun a j u1 u2 => ?_⟩
  · have := h3 j j0 j1
    rw [r]
    split
    · omega
    · split <;> omega
  · have x120 : X' 120 j = if j = p then d else X 120 j := by
      rw [dX, km_up_ne (by omega), km_up_ne (by omega), km_up_ne (by omega)]
      by_cases a : j = p
      · rw [a, km_upx_s, if_pos rfl]
      · rw [km_up_ne (by omega), if_neg a, km_up_ne (by omega), km_up_ne (by omega)]
    have x121 : X' 121 j = if j = p then e else X 121 j := by
      rw [dX, km_up_ne (by omega), km_up_ne (by omega)]
      by_cases a : j = p
      · rw [a, km_upx_s, if_pos rfl]
      · rw [km_up_ne (by omega), if_neg a, km_up_ne (by omega), km_up_ne (by omega), km_up_ne (by omega)]
    have x122 : X' 122 j = if j = p then n else X 122 j := by
      rw [dX, km_up_ne (by omega)]
      by_cases a : j = p
      · rw [a, km_upx_s, if_pos rfl]
      · rw [km_up_ne (by omega), if_neg a, km_up_ne (by omega), km_up_ne (by omega), km_up_ne (by omega), km_up_ne (by omega)]
    have y177 : Y' 177 j = if j = p then d else Y 177 j := by
      rw [dY, km_up_ne (by omega), km_up_ne (by omega), km_up_ne (by omega), km_up_ne (by omega), km_up_ne (by omega)]
      by_cases a : j = p
      · rw [a, km_upx_s, if_pos rfl]
      · rw [km_up_ne (by omega), if_neg a]
    have y178 : Y' 178 j = if j = p then e else Y 178 j := by
      rw [dY, km_up_ne (by omega), km_up_ne (by omega), km_up_ne (by omega), km_up_ne (by omega)]
      by_cases a : j = p
      · rw [a, km_upx_s, if_pos rfl]
      · rw [km_up_ne (by omega), if_neg a, km_up_ne (by omega)]
    have y179 : Y' 179 j = if j = p then n else Y 179 j := by
      rw [dY, km_up_ne (by omega), km_up_ne (by omega), km_up_ne (by omega)]
      by_cases a : j = p
      · rw [a, km_upx_s, if_pos rfl]
      · rw [km_up_ne (by omega), if_neg a, km_up_ne (by omega), km_up_ne (by omega)]
    rw [x120, x121, x122, y177, y178, y179]
    by_cases a : j = p
    · simp only [if_pos a]
      exact ⟨trivial, trivial, trivial, by omega, by omega⟩
    · simp only [if_neg a]
      exact h8 j j0 (by omega)
  · rw [dX, km_up_ne (by omega), km_up_ne (by omega), km_up_ne (by omega), km_up_ne (by omega), km_up_ne (by omega), km_up_ne (by omega)]
  · rw [dY, km_up_ne (by omega), km_up_ne (by omega), km_up_ne (by omega), km_up_ne (by omega), km_up_ne (by omega), km_up_ne (by omega)]
end PY

