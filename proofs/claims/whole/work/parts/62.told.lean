/-! ===== told ===== -/
theorem r_mareCouple {q : Nat × Int × Int × Int × Int} {c s : Nat} {m : km_Mm} {a b y : Int} (hk : 0 ≤ m 123 5 ∧ m 123 5 ≤ 100) (Q : Option km_V → km_Al → km_Mm → Prop) : km_E M_X12_areCouple [.inr (.inr 123), .inl a, .inl b, .inl y] (km_A0 q c s) m Q ↔ Q (some (.inl (if km_cpl (kV m) a b y (m 123 5).toNat 0 (-1) ≠ -1 ∧ m 126 (km_cpl (kV m) a b y (m 123 5).toNat 0 (-1)) = 1 then 1 else 0))) (km_A0 q c s) m := by
  rw [km_E.of (by decide)]
  show km_G M_X12_areCouple 0 [some (.inr (.inr 123)), some (.inl a), some (.inl b), some (.inl y), none, none, none] [] (km_A0 q c s) m _ ↔ _
  have h1 := @lp_areCouple_6 q c s a b y m hk.2 Q (m 123 5).toNat 0 (-1) none (by omega) (by omega) (by omega)
  simp (config := { decide := true }) only [g_X12_areCouple, h1, true_or, or_true, false_or, or_false, false_and, and_false, if_true, if_false, km_sr_sf, km_sr_of, km_up_of, km_sr_us, km_sr_uo, km_sr_sr, km_sr_fl, km_sr_flo, km_up_up, km_up_lt, km_lay, km_unL, km_up_o, km_upx_i, km_upx_s, km_fl2_o, km_is, Option.some.injEq, Sum.inl.injEq, Sum.inr.injEq, Option.toList_some, Option.toList_none, List.cons_append, List.nil_append, ne_eq, true_and, and_true, and_self, not_true_eq_false, not_false_eq_true, true_implies, false_implies, reduceCtorEq]
theorem km_cpl_skip {m : km_Mm} {a b y : Int} : ∀ (n : Nat) (i l : Int), (∀ j : Int, i ≤ j → j < i + n → m 16 j = 0) → km_cpl m a b y n i l = l := by
  intro n
  induction n with
  | zero => intro i l _; rfl
  | succ n ih => intro i l h; unfold km_cpl; rw [if_neg (fun q => q.1 (h i (by omega) (by omega)))]; exact ih _ _ (fun j p r => h j (by omega) (by omega))
theorem km_cpl_add {m : km_Mm} {a b y : Int} : ∀ (n e : Nat) (i l : Int), km_cpl m a b y (n + e) i l = km_cpl m a b y e (i + n) (km_cpl m a b y n i l) := by
  intro n
  induction n with
  | zero => intro e i l; rw [Nat.zero_add, show i + ((0 : Nat) : Int) = i by omega]; rfl
  | succ n ih =>
    intro e i l
    rw [show n + 1 + e = (n + e) + 1 by omega]
    show km_cpl m a b y (n + e) (i + 1) _ = _
    rw [ih, show i + 1 + (n : Int) = i + ((n + 1 : Nat) : Int) by omega]
    rfl
theorem km_cpl_cong {m m' : km_Mm} {a b y k : Int} (h : ∀ i : Int, 0 ≤ i → i < k → (m 16 i ≠ 0 ↔ m' 16 i ≠ 0) ∧ (m 16 i ≠ 0 → ((m 12 i = 1 ∨ m 12 i = 2) ↔ (m' 12 i = 1 ∨ m' 12 i = 2)) ∧ m 13 i = m' 13 i ∧ (m 12 i = 1 ∨ m 12 i = 2 → m 14 i = m' 14 i ∧ m 15 i = m' 15 i))) : ∀ (n : Nat) (i l : Int), 0 ≤ i → i + n ≤ k → -1 ≤ l → (l ≠ -1 → l < i ∧ m 16 l ≠ 0 ∧ (m 12 l = 1 ∨ m 12 l = 2)) → km_cpl m a b y n i l = km_cpl m' a b y n i l ∧ -1 ≤ km_cpl m a b y n i l ∧ (km_cpl m a b y n i l ≠ -1 → km_cpl m a b y n i l < i + n ∧ m 16 (km_cpl m a b y n i l) ≠ 0 ∧ (m 12 (km_cpl m a b y n i l) = 1 ∨ m 12 (km_cpl m a b y n i l) = 2)) := by
  intro n
  induction n with
  | zero => intro i l _ _ hl h2; exact ⟨rfl, hl, fun z => ⟨by have := (h2 z).1; show l < _; omega, (h2 z).2⟩⟩
  | succ n ih =>
    intro i l h0 h1 hl h2
    unfold km_cpl
    obtain ⟨g1, g2⟩ := h i h0 (by omega)
    have key : (m 16 i ≠ 0 ∧ (m 12 i = 1 ∨ m 12 i = 2) ∧ ¬ y < m 15 i ∧ ((m 13 i = a ∧ m 14 i = b) ∨ (m 13 i = b ∧ m 14 i = a)) ∧ (l = -1 ∨ ¬ m 15 i < m 15 l)) ↔ (m' 16 i ≠ 0 ∧ (m' 12 i = 1 ∨ m' 12 i = 2) ∧ ¬ y < m' 15 i ∧ ((m' 13 i = a ∧ m' 14 i = b) ∨ (m' 13 i = b ∧ m' 14 i = a)) ∧ (l = -1 ∨ ¬ m' 15 i < m' 15 l)) := by
      have hl2 : l ≠ -1 → m 15 l = m' 15 l := fun z => by
        obtain ⟨p1, p2, p3⟩ := h2 z
        exact ((h l (by omega) (by omega)).2 p2).2.2 p3 |>.2
      by_cases z : m 16 i ≠ 0
      · obtain ⟨k1, k2, k3⟩ := g2 z
        by_cases w : m 12 i = 1 ∨ m 12 i = 2
        · obtain ⟨k4, k5⟩ := k3 w
          rw [k2, k4, k5]
          by_cases u : l = -1
          · simp only [u, true_or, and_true]
            exact ⟨fun q => ⟨g1.mp z, k1.mp w, q.2.2⟩, fun q => ⟨z, w, q.2.2⟩⟩
          · rw [hl2 u]
            exact ⟨fun q => ⟨g1.mp z, k1.mp w, q.2.2⟩, fun q => ⟨z, w, q.2.2⟩⟩
        · exact ⟨fun q => absurd q.2.1 w, fun q => absurd (k1.mpr q.2.1) w⟩
      · exact ⟨fun q => absurd q.1 z, fun q => absurd (g1.mpr q.1) z⟩
    by_cases z : (m 16 i ≠ 0 ∧ (m 12 i = 1 ∨ m 12 i = 2) ∧ ¬ y < m 15 i ∧ ((m 13 i = a ∧ m 14 i = b) ∨ (m 13 i = b ∧ m 14 i = a)) ∧ (l = -1 ∨ ¬ m 15 i < m 15 l))
    · rw [if_pos z, if_pos (key.mp z)]
      have := ih (i + 1) i (by omega) (by omega) (by omega) (fun _ => ⟨by omega, z.1, z.2.1⟩)
      rw [show i + 1 + (n : Int) = i + ((n + 1 : Nat) : Int) by omega] at this
      exact this
    · rw [if_neg z, if_neg (fun w => z (key.mpr w))]
      have := ih (i + 1) l (by omega) (by omega) hl (fun w => ⟨by have := (h2 w).1; omega, (h2 w).2⟩)
      rw [show i + 1 + (n : Int) = i + ((n + 1 : Nat) : Int) by omega] at this
      exact this
/-- the reference's memory M has counted the first n notes of the book of m -/
def kI_fresh (m M : km_Mm) (n : Int) : Prop := (0 ≤ n ∧ n ≤ m 5 3) ∧ M 126 = m 126 ∧ M 127 = m 127 ∧ M 128 = m 128 ∧ M 129 = m 129 ∧ M 123 5 = m 5 3 ∧ (∀ i : Int, 0 ≤ i → i < n → (km_read n m 16 i ≠ 0 ↔ M 130 i ≠ 0)) ∧ (∀ i : Int, n ≤ i → i < 100 → M 130 i = 0)
theorem kI_fresh_m1 {m mm : km_Mm} {n : Int} (hb : kI_book m) (hj : km_jk m mm) (n0 : 0 ≤ n) (n1 : n ≤ m 5 3) : kI_fresh m (kq_m1 mm n) n := by
  have e126 : mm 126 = m 126 := funext fun j => hj 126 j (kJ_no (by decide))
  have e127 : mm 127 = m 127 := funext fun j => hj 127 j (kJ_no (by decide))
  have e128 : mm 128 = m 128 := funext fun j => hj 128 j (kJ_no (by decide))
  have e129 : mm 129 = m 129 := funext fun j => hj 129 j (kJ_no (by decide))
  have e5 : mm 123 5 = m 123 5 := hj 123 5 (by unfold kJ; omega)
  obtain ⟨c1, c2⟩ := kI_cnt hb n0 n1 (C := mm 130)
  have b3 := hb.2.2.1
  unfold kI_fresh kq_m1
  simp (config := { decide := true }) only [e126, e127, e128, e129, e5, true_or, or_true, false_or, or_false, false_and, and_false, if_true, if_false, km_sr_sf, km_sr_of, km_up_of, km_sr_us, km_sr_uo, km_sr_sr, km_sr_fl, km_sr_flo, km_up_up, km_up_lt, km_lay, km_unL, km_up_o, km_upx_i, km_upx_s, km_fl2_o, km_is, Option.some.injEq, Sum.inl.injEq, Sum.inr.injEq, Option.toList_some, Option.toList_none, List.cons_append, List.nil_append, ne_eq, true_and, and_true, and_self, not_true_eq_false, not_false_eq_true, true_implies, false_implies, reduceCtorEq]
  exact ⟨⟨n0, n1⟩, b3.2.2, c1, c2⟩
theorem kI_l {m M : km_Mm} {n s0 a : Int} (hb : kI_book m) (hf : kI_fresh m M n) (hs : s0 = 3 ∨ s0 = 4) : kq_l (M 130) (M 126) (M 127) s0 a (M 123 5).toNat = kq_l (km_read n m 16) (m 12) (m 13) s0 a n.toNat := by
  obtain ⟨f0, f1, f2, f3, f4, f5, f6, f7⟩ := hf
  obtain ⟨-, -, b3, -, -, b6⟩ := hb
  rw [f5, show (m 5 3).toNat = n.toNat + ((m 5 3).toNat - n.toNat) by omega, kq_l_skip _ _ (fun i i0 i1 => f7 i (by omega) (by omega))]
  refine kq_l_cong _ (fun i i0 i1 => ?_)
  have g := f6 i i0 (by omega)
  have k := b6 i i0 (by omega)
  unfold kI_note at k
  rw [f1, f2, ← g]
  constructor
  · rintro ⟨p1, p2, p3⟩; exact ⟨p1, by omega, by omega⟩
  · rintro ⟨p1, p2, p3⟩; exact ⟨p1, by omega, by omega⟩
/-- alive, and how old, as the class reads the first n notes -/
def kL (m : km_Mm) (n a y : Int) : Prop := km_read n m 17 a ≤ y ∧ (km_read n m 18 a = -1 ∨ y < km_read n m 18 a)
def kLg (m : km_Mm) (n a y : Int) : Int := if km_read n m 17 a ≠ -1 ∧ km_read n m 17 a ≤ y then y - km_read n m 17 a else -1
theorem kI_al {m M : km_Mm} {n a y : Int} (hb : kI_book m) (hf : kI_fresh m M n) (ha : 0 ≤ a ∧ a < 10) (hy : 0 ≤ y) : (kq_al M a y ↔ kL m n a y) ∧ kq_ag M a y = kLg m n a y ∧ (-1 ≤ km_read n m 17 a ∧ km_read n m 17 a ≤ 999) := by
  have l3 := kI_l (a := a) hb hf (Or.inl rfl)
  have l4 := kI_l (a := a) hb hf (Or.inr rfl)
  obtain ⟨r1, r2⟩ := @km_read_l n a m ha
  have b3 := @kq_l_b (km_read n m 16) (m 12) (m 13) 3 a n.toNat
  have b4 := @kq_l_b (km_read n m 16) (m 12) (m 13) 4 a n.toNat
  obtain ⟨f0, f1, f2, f3, f4, f5, f6, f7⟩ := hf
  obtain ⟨-, -, c3, c4, -, c6⟩ := hb
  unfold kq_al kq_ag kL kLg
  rw [l3, l4, r1, r2, f4]
  have hl : ∀ s0 : Int, s0 = 3 ∨ s0 = 4 → kq_l (km_read n m 16) (m 12) (m 13) s0 a n.toNat ≠ -1 → m 129 (kq_l (km_read n m 16) (m 12) (m 13) s0 a n.toNat) = m 15 (kq_l (km_read n m 16) (m 12) (m 13) s0 a n.toNat) := by
    intro s0 hs0
    have key : ∀ k : Nat, (k : Int) ≤ n → kq_l (km_read n m 16) (m 12) (m 13) s0 a k ≠ -1 → m 129 (kq_l (km_read n m 16) (m 12) (m 13) s0 a k) = m 15 (kq_l (km_read n m 16) (m 12) (m 13) s0 a k) := by
      intro k
      induction k with
      | zero => intro _ h; exact absurd rfl h
      | succ k ih =>
        intro hk
        unfold kq_l
        split
        · next z =>
          intro _
          have := c6 k (by omega) (by omega)
          unfold kI_note at this
          omega
        · exact ih (by omega)
    exact key n.toNat (by omega)
  have h3 := hl 3 (Or.inl rfl)
  have h4 := hl 4 (Or.inr rfl)
  have g3 := c4 (kq_l (km_read n m 16) (m 12) (m 13) 3 a n.toNat)
  have g4 := c4 (kq_l (km_read n m 16) (m 12) (m 13) 4 a n.toNat)
  generalize kq_l (km_read n m 16) (m 12) (m 13) 3 a n.toNat = l at *
  generalize kq_l (km_read n m 16) (m 12) (m 13) 4 a n.toNat = k at *
  by_cases z3 : l = -1 <;> by_cases z4 : k = -1
  · simp only [z3, z4, if_true]; refine ⟨?_, ?_, ?_⟩ <;> grind
  · have := g4 (by omega) (by omega); have := h4 z4; simp only [z3, z4, if_true, if_false]; refine ⟨?_, ?_, ?_⟩ <;> grind
  · have := g3 (by omega) (by omega); have := h3 z3; simp only [z3, z4, if_true, if_false]; refine ⟨?_, ?_, ?_⟩ <;> grind
  · have := g3 (by omega) (by omega); have := h3 z3; have := g4 (by omega) (by omega); have := h4 z4; simp only [z3, z4, if_false]; refine ⟨?_, ?_, ?_⟩ <;> grind
/-- a couple, as the class reads the first n notes -/
def kLc (m : km_Mm) (n a b y : Int) : Prop := km_cpl (km_read n m) a b y n.toNat 0 (-1) ≠ -1 ∧ m 12 (km_cpl (km_read n m) a b y n.toNat 0 (-1)) = 1
theorem kI_cp {m M : km_Mm} {n a b y : Int} (hb : kI_book m) (hf : kI_fresh m M n) : (km_cpl (kV M) a b y (M 123 5).toNat 0 (-1) ≠ -1 ∧ M 126 (km_cpl (kV M) a b y (M 123 5).toNat 0 (-1)) = 1) ↔ kLc m n a b y := by
  obtain ⟨f0, f1, f2, f3, f4, f5, f6, f7⟩ := hf
  obtain ⟨-, -, c3, -, -, c6⟩ := hb
  obtain ⟨v1, v2, v3, v4, v5⟩ := @kV_at M
  have e : ∀ b : Int, b ≠ 16 → b ≠ 17 → b ≠ 18 → b ≠ 5 → km_read n m b = m b := fun b h1 h2 h3 h4 => funext fun j => km_read_at h1 h2 h3 (fun q => h4 q.1)
  rw [f5, show (m 5 3).toNat = n.toNat + ((m 5 3).toNat - n.toNat) by omega, km_cpl_add, km_cpl_skip _ _ _ (fun i i0 i1 => by rw [v5]; exact f7 i (by omega) (by omega))]
  have h := @km_cpl_cong (km_read n m) (kV M) a b y n (fun i i0 i1 => by
    rw [v1, v2, v3, v4, v5, f1, f2, f3, f4, e 12 (by decide) (by decide) (by decide) (by decide), e 13 (by decide) (by decide) (by decide) (by decide), e 14 (by decide) (by decide) (by decide) (by decide), e 15 (by decide) (by decide) (by decide) (by decide)]
    have k := c6 i i0 (by omega)
    unfold kI_note at k
    refine ⟨f6 i i0 i1, fun _ => ⟨?_, k.1.symm, fun w => ?_⟩⟩
    · omega
    · omega) n.toNat 0 (-1) (by omega) (by omega) (by omega) (fun z => absurd rfl z)
  obtain ⟨h1, h2, h3⟩ := h
  rw [← h1, f1]
  unfold kLc
  rw [e 12 (by decide) (by decide) (by decide) (by decide)] at h3
  generalize km_cpl (km_read n m) a b y n.toNat 0 (-1) = l at *
  constructor
  · rintro ⟨p1, p2⟩
    have p3 := h3 p1
    have k := c6 l (by omega) (by omega)
    unfold kI_note at k
    exact ⟨p1, by omega⟩
  · rintro ⟨p1, p2⟩
    have p3 := h3 p1
    have k := c6 l (by omega) (by omega)
    unfold kI_note at k
    exact ⟨p1, by omega⟩

