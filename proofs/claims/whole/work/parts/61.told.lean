/-! ===== told: the latest note of a sort ===== -/
def kq_l (C S A : Int → Int) (s a : Int) : Nat → Int
  | 0 => -1
  | n + 1 => if C n ≠ 0 ∧ S n = s ∧ A n = a then n else kq_l C S A s a n
theorem kq_l_b {C S A : Int → Int} {s a : Int} : ∀ (n : Nat), -1 ≤ kq_l C S A s a n ∧ kq_l C S A s a n < n := by
  intro n
  induction n with
  | zero => unfold kq_l; omega
  | succ n ih => unfold kq_l; split <;> omega
theorem kq_l_cong {C S A C' S' A' : Int → Int} {s a : Int} : ∀ (n : Nat), (∀ i : Int, 0 ≤ i → i < n → ((C i ≠ 0 ∧ S i = s ∧ A i = a) ↔ (C' i ≠ 0 ∧ S' i = s ∧ A' i = a))) → kq_l C S A s a n = kq_l C' S' A' s a n := by
  intro n
  induction n with
  | zero => intro _; rfl
  | succ n ih =>
    intro h
    unfold kq_l
    have := h n (by omega) (by omega)
    by_cases z : C n ≠ 0 ∧ S n = s ∧ A n = a
    · rw [if_pos z, if_pos (this.mp z)]
    · rw [if_neg z, if_neg (fun w => z (this.mpr w)), ih (fun i a b => h i a (by omega))]
theorem kq_l_skip {C S A : Int → Int} {s a : Int} (n : Nat) : ∀ (e : Nat), (∀ i : Int, (n : Int) ≤ i → i < n + e → C i = 0) → kq_l C S A s a (n + e) = kq_l C S A s a n := by
  intro e
  induction e with
  | zero => intro _; rfl
  | succ e ih =>
    intro h
    show (if C ((n + e : Nat) : Int) ≠ 0 ∧ _ then _ else kq_l C S A s a (n + e)) = _
    rw [if_neg (fun q => q.1 (h _ (by omega) (by omega))), ih (fun i a b => h i a (by omega))]
def kL_st (j : Int) (m : km_Mm) : km_Mm := if m 16 j ≠ 0 ∧ m 12 j = 3 then km_up m 17 (m 13 j) (m 15 j) else if m 16 j ≠ 0 ∧ m 12 j = 4 then km_up m 18 (m 13 j) (m 15 j) else m
theorem km_bd_snoc : ∀ (n : Nat) (i : Int) (m : km_Mm), km_bd (n + 1) i m = kL_st (i + n) (km_bd n i m) := by
  intro n
  induction n with
  | zero => intro i m; rw [show i + ((0 : Nat) : Int) = i by omega]; rfl
  | succ n ih =>
    intro i m
    show km_bd (n + 1) (i + 1) _ = kL_st _ (km_bd n (i + 1) _)
    rw [ih, show i + 1 + (n : Int) = i + ((n + 1 : Nat) : Int) by omega]
theorem km_bd_l {m : km_Mm} {a : Int} : ∀ (n : Nat), (km_bd n 0 m 17 a = if kq_l (m 16) (m 12) (m 13) 3 a n = -1 then m 17 a else m 15 (kq_l (m 16) (m 12) (m 13) 3 a n)) ∧ (km_bd n 0 m 18 a = if kq_l (m 16) (m 12) (m 13) 4 a n = -1 then m 18 a else m 15 (kq_l (m 16) (m 12) (m 13) 4 a n)) := by
  intro n
  induction n with
  | zero => exact ⟨rfl, rfl⟩
  | succ n ih =>
    rw [km_bd_snoc]
    have e : ∀ b : Int, b ≠ 17 → b ≠ 18 → km_bd n 0 m b = m b := fun b h1 h2 => by funext j; exact km_bd_at h1 h2 _ _ _
    unfold kL_st
    rw [e 16 (by decide) (by decide), e 12 (by decide) (by decide), e 13 (by decide) (by decide), e 15 (by decide) (by decide)]
    rw [show (0 : Int) + (n : Int) = n by omega]
    have L : ∀ s, kq_l (m 16) (m 12) (m 13) s a (n + 1) = if m 16 n ≠ 0 ∧ m 12 n = s ∧ m 13 n = a then (n : Int) else kq_l (m 16) (m 12) (m 13) s a n := fun s => rfl
    by_cases z : m 16 n ≠ 0 ∧ m 12 n = 3
    · rw [if_pos z]
      have L4 := L 4
      rw [if_neg (fun w => by omega)] at L4
      refine ⟨?_, ?_⟩
      · have L3 := L 3
        by_cases y : m 13 n = a
        · rw [if_pos ⟨z.1, z.2, y⟩] at L3
          rw [L3, if_neg (by omega), y, km_upx_s]
        · rw [if_neg (fun w => y w.2.2)] at L3
          rw [L3, km_upx_i (fun w => y w.symm)]; exact ih.1
      · rw [L4, km_up_o (by decide)]; exact ih.2
    · rw [if_neg z]
      have L3 := L 3
      rw [if_neg (fun w => z ⟨w.1, w.2.1⟩)] at L3
      have L4 := L 4
      by_cases y : m 16 n ≠ 0 ∧ m 12 n = 4
      · rw [if_pos y]
        refine ⟨?_, ?_⟩
        · rw [L3, km_up_o (by decide)]; exact ih.1
        · by_cases x : m 13 n = a
          · rw [if_pos ⟨y.1, y.2, x⟩] at L4
            rw [L4, if_neg (by omega), x, km_upx_s]
          · rw [if_neg (fun w => x w.2.2)] at L4
            rw [L4, km_upx_i (fun w => x w.symm)]; exact ih.2
      · rw [if_neg y]
        rw [if_neg (fun w => y ⟨w.1, w.2.1⟩)] at L4
        rw [L3, L4]
        exact ih
/-- birth and death years as read, out of the latest note -/
theorem km_read_l {k a : Int} {m : km_Mm} (ha : 0 ≤ a ∧ a < 10) : (km_read k m 17 a = if kq_l (km_read k m 16) (m 12) (m 13) 3 a k.toNat = -1 then -1 else m 15 (kq_l (km_read k m 16) (m 12) (m 13) 3 a k.toNat)) ∧ (km_read k m 18 a = if kq_l (km_read k m 16) (m 12) (m 13) 4 a k.toNat = -1 then -1 else m 15 (kq_l (km_read k m 16) (m 12) (m 13) 4 a k.toNat)) := by
  have h := @km_bd_l (km_fl2 (km_fl2 (km_cnt (km_up m 5 8 k)) 17 0 10 (-1)) 18 0 10 (-1)) a k.toNat
  have e : ∀ b : Int, b ≠ 16 → b ≠ 17 → b ≠ 18 → b ≠ 5 → km_fl2 (km_fl2 (km_cnt (km_up m 5 8 k)) 17 0 10 (-1)) 18 0 10 (-1) b = m b := fun b h1 h2 h3 h4 => by
    funext j; rw [km_fl2_at h3, km_fl2_at h2, km_cnt_at h1, km_up_o h4]
  have e16 : km_fl2 (km_fl2 (km_cnt (km_up m 5 8 k)) 17 0 10 (-1)) 18 0 10 (-1) 16 = km_read k m 16 := by
    funext j; unfold km_read; rw [km_bd_at (by decide) (by decide)]
  have e17 : km_fl2 (km_fl2 (km_cnt (km_up m 5 8 k)) 17 0 10 (-1)) 18 0 10 (-1) 17 a = -1 := by
    rw [km_fl2_at (by decide)]; unfold km_fl2; rw [if_pos ⟨rfl, ha⟩]
  have e18 : km_fl2 (km_fl2 (km_cnt (km_up m 5 8 k)) 17 0 10 (-1)) 18 0 10 (-1) 18 a = -1 := by
    unfold km_fl2; rw [if_pos ⟨rfl, ha⟩]
  rw [e 12 (by decide) (by decide) (by decide) (by decide), e 13 (by decide) (by decide) (by decide) (by decide), e 15 (by decide) (by decide) (by decide) (by decide), e16, e17, e18] at h
  exact h
theorem lp_latest_7 {q : Nat × Int × Int × Int × Int} {c s : Nat} {s0 a : Int} {m : km_Mm} {Q : Option km_V → km_Al → km_Mm → Prop} : ∀ (n : Nat) , (n : Int) ≤ 100 → (km_G M_X12_latest 7 [some (.inr (.inr 123)), some (.inl s0), some (.inl a), some (.inl ((n : Int) - 1))] [] (km_A0 q c s) (m) Q ↔ Q (some (.inl ((kq_l (m 130) (m 126) (m 127) s0 a n)))) (km_A0 q c s) (m)) := by
  intro n
  induction n with
  | zero =>
    intro h0
    rw [g_X12_latest_7]
    simp (config := { decide := true }) (disch := first | decide | assumption | omega | (simp (config := { decide := true }) only [km_sr_sf, km_sr_of, km_up_of, km_up_o, km_upx_i, km_upx_s, km_fl2_o, ne_eq, not_true_eq_false, not_false_eq_true] <;> omega) | fail) only [g_X12_latest, kq_l, h0, true_or, or_true, false_or, or_false, false_and, and_false, if_true, if_false, ka_lo, ka_hi, ka_nn, km_sr_sf, km_sr_of, km_up_of, km_sr_us, km_sr_uo, km_sr_sr, km_sr_fl, km_sr_flo, km_up_up, km_up_lt, km_lay, km_unL, km_up_o, km_upx_i, km_upx_s, km_fl2_o, km_is, Option.some.injEq, Sum.inl.injEq, Sum.inr.injEq, Option.toList_some, Option.toList_none, List.cons_append, List.nil_append, ne_eq, true_and, and_true, and_self, not_true_eq_false, not_false_eq_true, true_implies, false_implies, reduceCtorEq]
    all_goals grind
  | succ n ih =>
    intro h0
    have e : ((n + 1 : Nat) : Int) - 1 = n := by omega
    have e1 : (n : Int) + -1 = n - 1 := by omega
    have e2 : ¬ (n : Int) < 0 := by omega
    have e3 : (n : Int) < 100 := by omega
    have i1 := ih (by omega)
    clear ih
    have ih := i1
    rw [e]
    rw [g_X12_latest_7]
    simp (config := { decide := true }) (disch := first | decide | assumption | omega | (simp (config := { decide := true }) only [km_sr_sf, km_sr_of, km_up_of, km_up_o, km_upx_i, km_upx_s, km_fl2_o, ne_eq, not_true_eq_false, not_false_eq_true] <;> omega) | fail) only [g_X12_latest, ih, e1, e2, e3, kq_l, h0, true_or, or_true, false_or, or_false, false_and, and_false, if_true, if_false, ka_lo, ka_hi, ka_nn, km_sr_sf, km_sr_of, km_up_of, km_sr_us, km_sr_uo, km_sr_sr, km_sr_fl, km_sr_flo, km_up_up, km_up_lt, km_lay, km_unL, km_up_o, km_upx_i, km_upx_s, km_fl2_o, km_is, Option.some.injEq, Sum.inl.injEq, Sum.inr.injEq, Option.toList_some, Option.toList_none, List.cons_append, List.nil_append, ne_eq, true_and, and_true, and_self, not_true_eq_false, not_false_eq_true, true_implies, false_implies, reduceCtorEq]
    by_cases cc0 : m 130 n = 0 <;> by_cases cc1 : m 126 n = s0 <;> by_cases cc2 : m 127 n = a <;> simp (config := { decide := true }) (disch := first | decide | assumption | omega | (simp (config := { decide := true }) only [km_sr_sf, km_sr_of, km_up_of, km_up_o, km_upx_i, km_upx_s, km_fl2_o, ne_eq, not_true_eq_false, not_false_eq_true] <;> omega) | fail) only [cc0, cc1, cc2, ih, e1, e2, e3, kq_l, if_true, if_false, h0, true_or, or_true, false_or, or_false, false_and, and_false, if_true, if_false, ka_lo, ka_hi, ka_nn, km_sr_sf, km_sr_of, km_up_of, km_sr_us, km_sr_uo, km_sr_sr, km_sr_fl, km_sr_flo, km_up_up, km_up_lt, km_lay, km_unL, km_up_o, km_upx_i, km_upx_s, km_fl2_o, km_is, Option.some.injEq, Sum.inl.injEq, Sum.inr.injEq, Option.toList_some, Option.toList_none, List.cons_append, List.nil_append, ne_eq, true_and, and_true, and_self, not_true_eq_false, not_false_eq_true, true_implies, false_implies, reduceCtorEq] <;> grind
theorem r_latest {q : Nat × Int × Int × Int × Int} {c s : Nat} {m : km_Mm} {s0 a : Int} (h : 0 ≤ m 123 5 ∧ m 123 5 ≤ 100) (Q : Option km_V → km_Al → km_Mm → Prop) : km_E M_X12_latest [.inr (.inr 123), .inl s0, .inl a] (km_A0 q c s) m Q ↔ Q (some (.inl (kq_l (m 130) (m 126) (m 127) s0 a (m 123 5).toNat))) (km_A0 q c s) m := by
  rw [km_E.of (by decide)]
  show km_G M_X12_latest 0 [some (.inr (.inr 123)), some (.inl s0), some (.inl a), none] [] (km_A0 q c s) m _ ↔ _
  have h1 := @lp_latest_7 q c s s0 a m Q (m 123 5).toNat (by omega)
  have e : (((m 123 5).toNat : Nat) : Int) = m 123 5 := by omega
  rw [e] at h1
  have e2 : -2147483648 ≤ m 123 5 - 1 ∧ m 123 5 - 1 ≤ 2147483647 := by omega
  simp (config := { decide := true }) only [g_X12_latest, h1, e2, true_or, or_true, false_or, or_false, false_and, and_false, if_true, if_false, km_sr_sf, km_sr_of, km_up_of, km_sr_us, km_sr_uo, km_sr_sr, km_sr_fl, km_sr_flo, km_up_up, km_up_lt, km_lay, km_unL, km_up_o, km_upx_i, km_upx_s, km_fl2_o, km_is, Option.some.injEq, Sum.inl.injEq, Sum.inr.injEq, Option.toList_some, Option.toList_none, List.cons_append, List.nil_append, ne_eq, true_and, and_true, and_self, not_true_eq_false, not_false_eq_true, true_implies, false_implies, reduceCtorEq]
/-- alive in the year y, by the reference's notes that count -/
def kq_al (m : km_Mm) (a y : Int) : Prop := (kq_l (m 130) (m 126) (m 127) 3 a (m 123 5).toNat < 0 ∨ m 129 (kq_l (m 130) (m 126) (m 127) 3 a (m 123 5).toNat) ≤ y) ∧ (kq_l (m 130) (m 126) (m 127) 4 a (m 123 5).toNat < 0 ∨ y < m 129 (kq_l (m 130) (m 126) (m 127) 4 a (m 123 5).toNat))
def kq_ag (m : km_Mm) (a y : Int) : Int := if kq_l (m 130) (m 126) (m 127) 3 a (m 123 5).toNat < 0 ∨ y < m 129 (kq_l (m 130) (m 126) (m 127) 3 a (m 123 5).toNat) then -1 else y - m 129 (kq_l (m 130) (m 126) (m 127) 3 a (m 123 5).toNat)
theorem r_misAlive {q : Nat × Int × Int × Int × Int} {c s : Nat} {m : km_Mm} {a y : Int} (h : 0 ≤ m 123 5 ∧ m 123 5 ≤ 100) (Q : Option km_V → km_Al → km_Mm → Prop) : km_E M_X12_isAlive [.inr (.inr 123), .inl a, .inl y] (km_A0 q c s) m Q ↔ Q (some (.inl (@ite Int (kq_al m a y) (Classical.propDecidable _) 1 0))) (km_A0 q c s) m := by
  rw [km_E.of (by decide)]
  show km_G M_X12_isAlive 0 [some (.inr (.inr 123)), some (.inl a), some (.inl y), none, none] [] (km_A0 q c s) m _ ↔ _
  have r1 := fun s0 Q => @r_latest q c s m s0 a h Q
  have b1 := @kq_l_b (m 130) (m 126) (m 127) 3 a (m 123 5).toNat
  have b2 := @kq_l_b (m 130) (m 126) (m 127) 4 a (m 123 5).toNat
  unfold kq_al
  simp (config := { decide := true }) only [g_X12_isAlive, r1, true_or, or_true, false_or, or_false, false_and, and_false, if_true, if_false, km_sr_sf, km_sr_of, km_up_of, km_sr_us, km_sr_uo, km_sr_sr, km_sr_fl, km_sr_flo, km_up_up, km_up_lt, km_lay, km_unL, km_up_o, km_upx_i, km_upx_s, km_fl2_o, km_is, Option.some.injEq, Sum.inl.injEq, Sum.inr.injEq, Option.toList_some, Option.toList_none, List.cons_append, List.nil_append, ne_eq, true_and, and_true, and_self, not_true_eq_false, not_false_eq_true, true_implies, false_implies, reduceCtorEq]
  generalize kq_l (m 130) (m 126) (m 127) 3 a (m 123 5).toNat = l at *
  generalize kq_l (m 130) (m 126) (m 127) 4 a (m 123 5).toNat = k at *
  by_cases c0 : l < 0 <;> by_cases c1 : y < m 129 l <;> by_cases c2 : k < 0 <;> by_cases c3 : m 129 k ≤ y <;> simp (config := { decide := true }) only [c0, c1, c2, c3, true_or, or_true, false_or, or_false, false_and, and_false, if_true, if_false, km_sr_sf, km_sr_of, km_up_of, km_sr_us, km_sr_uo, km_sr_sr, km_sr_fl, km_sr_flo, km_up_up, km_up_lt, km_lay, km_unL, km_up_o, km_upx_i, km_upx_s, km_fl2_o, km_is, Option.some.injEq, Sum.inl.injEq, Sum.inr.injEq, Option.toList_some, Option.toList_none, List.cons_append, List.nil_append, ne_eq, true_and, and_true, and_self, not_true_eq_false, not_false_eq_true, true_implies, false_implies, reduceCtorEq]
  all_goals grind
theorem r_mageOf {q : Nat × Int × Int × Int × Int} {c s : Nat} {m : km_Mm} {a y : Int} (h : 0 ≤ m 123 5 ∧ m 123 5 ≤ 100) (hy : 0 ≤ y ∧ y ≤ 999) (hn : km_ntM m) (Q : Option km_V → km_Al → km_Mm → Prop) : km_E M_X12_ageOf [.inr (.inr 123), .inl a, .inl y] (km_A0 q c s) m Q ↔ Q (some (.inl (kq_ag m a y))) (km_A0 q c s) m := by
  rw [km_E.of (by decide)]
  show km_G M_X12_ageOf 0 [some (.inr (.inr 123)), some (.inl a), some (.inl y), none] [] (km_A0 q c s) m _ ↔ _
  have r1 := fun s0 Q => @r_latest q c s m s0 a h Q
  have b1 := @kq_l_b (m 130) (m 126) (m 127) 3 a (m 123 5).toNat
  unfold kq_ag
  simp (config := { decide := true }) only [g_X12_ageOf, r1, true_or, or_true, false_or, or_false, false_and, and_false, if_true, if_false, km_sr_sf, km_sr_of, km_up_of, km_sr_us, km_sr_uo, km_sr_sr, km_sr_fl, km_sr_flo, km_up_up, km_up_lt, km_lay, km_unL, km_up_o, km_upx_i, km_upx_s, km_fl2_o, km_is, Option.some.injEq, Sum.inl.injEq, Sum.inr.injEq, Option.toList_some, Option.toList_none, List.cons_append, List.nil_append, ne_eq, true_and, and_true, and_self, not_true_eq_false, not_false_eq_true, true_implies, false_implies, reduceCtorEq]
  generalize kq_l (m 130) (m 126) (m 127) 3 a (m 123 5).toNat = l at *
  have b2 : 0 ≤ l → (0 ≤ m 129 l ∧ m 129 l ≤ 999) := fun z => (hn l z (by omega)).2.2.2
  by_cases c0 : l < 0 <;> by_cases c1 : y < m 129 l <;> simp (config := { decide := true }) only [c0, c1, true_or, or_true, false_or, or_false, false_and, and_false, if_true, if_false, km_sr_sf, km_sr_of, km_up_of, km_sr_us, km_sr_uo, km_sr_sr, km_sr_fl, km_sr_flo, km_up_up, km_up_lt, km_lay, km_unL, km_up_o, km_upx_i, km_upx_s, km_fl2_o, km_is, Option.some.injEq, Sum.inl.injEq, Sum.inr.injEq, Option.toList_some, Option.toList_none, List.cons_append, List.nil_append, ne_eq, true_and, and_true, and_self, not_true_eq_false, not_false_eq_true, true_implies, false_implies, reduceCtorEq]
  all_goals grind
/-- the reference's book rows under the class's numbers -/
def kV (m : km_Mm) : km_Mm := fun b j => m (if b = 12 then 126 else if b = 13 then 127 else if b = 14 then 128 else if b = 15 then 129 else 130) j
theorem kV_at {m : km_Mm} : kV m 12 = m 126 ∧ kV m 13 = m 127 ∧ kV m 14 = m 128 ∧ kV m 15 = m 129 ∧ kV m 16 = m 130 := ⟨rfl, rfl, rfl, rfl, rfl⟩
theorem lp_areCouple_6 {q : Nat × Int × Int × Int × Int} {c s : Nat} {a b y : Int} {m : km_Mm} (hk : m 123 5 ≤ 100) {Q : Option km_V → km_Al → km_Mm → Prop} : ∀ (n : Nat) (i l : Int) (o6 : Option km_V), 0 ≤ i → i + n = m 123 5 → -1 ≤ l ∧ l < 100 → (km_G M_X12_areCouple 6 [some (.inr (.inr 123)), some (.inl a), some (.inl b), some (.inl y), some (.inl l), some (.inl i), o6] [] (km_A0 q c s) (m) Q ↔ Q (some (.inl ((if km_cpl (kV m) a b y n i l ≠ -1 ∧ m 126 (km_cpl (kV m) a b y n i l) = 1 then 1 else 0)))) (km_A0 q c s) (m)) := by
  intro n
  induction n with
  | zero =>
    intro i l o6 h0 h1 h2
    have e : m 123 5 ≤ i := by omega
    have l0 : (l < 0) = (l = -1) := by apply propext; omega
    have l1 : ¬ l = -1 → 0 ≤ l := by omega
    rw [g_X12_areCouple_6]
    simp (config := { decide := true }) (disch := first | decide | assumption | omega | (simp (config := { decide := true }) only [km_sr_sf, km_sr_of, km_up_of, km_up_o, km_upx_i, km_upx_s, km_fl2_o, ne_eq, not_true_eq_false, not_false_eq_true] <;> omega) | fail) only [g_X12_areCouple, e, km_cpl, l0, h0, h2, true_or, or_true, false_or, or_false, false_and, and_false, if_true, if_false, ka_lo, ka_hi, ka_nn, km_sr_sf, km_sr_of, km_up_of, km_sr_us, km_sr_uo, km_sr_sr, km_sr_fl, km_sr_flo, km_up_up, km_up_lt, km_lay, km_unL, km_up_o, km_upx_i, km_upx_s, km_fl2_o, km_is, Option.some.injEq, Sum.inl.injEq, Sum.inr.injEq, Option.toList_some, Option.toList_none, List.cons_append, List.nil_append, ne_eq, true_and, and_true, and_self, not_true_eq_false, not_false_eq_true, true_implies, false_implies, reduceCtorEq]
    by_cases cc0 : l = -1 <;> by_cases cc1 : m 126 l = 1 <;> simp (config := { decide := true }) only [cc0, cc1, h2, true_or, or_true, false_or, or_false, false_and, and_false, if_true, if_false, km_sr_sf, km_sr_of, km_up_of, km_sr_us, km_sr_uo, km_sr_sr, km_sr_fl, km_sr_flo, km_up_up, km_up_lt, km_lay, km_unL, km_up_o, km_upx_i, km_upx_s, km_fl2_o, km_is, Option.some.injEq, Sum.inl.injEq, Sum.inr.injEq, Option.toList_some, Option.toList_none, List.cons_append, List.nil_append, ne_eq, true_and, and_true, and_self, not_true_eq_false, not_false_eq_true, true_implies, false_implies, reduceCtorEq] <;> grind
  | succ n ih =>
    intro i l o6 h0 h1 h2
    have e : ¬ m 123 5 ≤ i := by omega
    have e2 : i < 100 := by omega
    have l0 : (l < 0) = (l = -1) := by apply propext; omega
    have l1 : ¬ l = -1 → 0 ≤ l := by omega
    have l2 : l < 100 := h2.2
    obtain ⟨v1, v2, v3, v4, v5⟩ := @kV_at m
    have i1 := fun o6 => ih (i + 1) l o6 (by omega) (by omega) h2
    have i2 := fun o6 => ih (i + 1) i o6 (by omega) (by omega) (by omega)
    rw [g_X12_areCouple_6]
    simp (config := { decide := true }) (disch := first | decide | assumption | omega | (simp (config := { decide := true }) only [km_sr_sf, km_sr_of, km_up_of, km_up_o, km_upx_i, km_upx_s, km_fl2_o, ne_eq, not_true_eq_false, not_false_eq_true] <;> omega) | fail) only [g_X12_areCouple, e, e2, h0, l0, i1, i2, km_cpl, v1, v2, v3, v4, v5, true_or, or_true, false_or, or_false, false_and, and_false, if_true, if_false, ka_lo, ka_hi, ka_nn, km_sr_sf, km_sr_of, km_up_of, km_sr_us, km_sr_uo, km_sr_sr, km_sr_fl, km_sr_flo, km_up_up, km_up_lt, km_lay, km_unL, km_up_o, km_upx_i, km_upx_s, km_fl2_o, km_is, Option.some.injEq, Sum.inl.injEq, Sum.inr.injEq, Option.toList_some, Option.toList_none, List.cons_append, List.nil_append, ne_eq, true_and, and_true, and_self, not_true_eq_false, not_false_eq_true, true_implies, false_implies, reduceCtorEq]
    by_cases c0 : m 130 i = 0
    · simp (config := { decide := true }) only [c0, i1, true_or, or_true, false_or, or_false, false_and, and_false, if_true, if_false, km_sr_sf, km_sr_of, km_up_of, km_sr_us, km_sr_uo, km_sr_sr, km_sr_fl, km_sr_flo, km_up_up, km_up_lt, km_lay, km_unL, km_up_o, km_upx_i, km_upx_s, km_fl2_o, km_is, Option.some.injEq, Sum.inl.injEq, Sum.inr.injEq, Option.toList_some, Option.toList_none, List.cons_append, List.nil_append, ne_eq, true_and, and_true, and_self, not_true_eq_false, not_false_eq_true, true_implies, false_implies, reduceCtorEq]
      done
    by_cases c12 : m 126 i = 1 ∨ m 126 i = 2
    · by_cases c3 : y < m 129 i
      · by_cases c1 : m 126 i = 1 <;> by_cases c2 : m 126 i = 2 <;> simp (config := { decide := true }) only [c0, c1, c2, c3, i1, true_or, or_true, false_or, or_false, false_and, and_false, if_true, if_false, km_sr_sf, km_sr_of, km_up_of, km_sr_us, km_sr_uo, km_sr_sr, km_sr_fl, km_sr_flo, km_up_up, km_up_lt, km_lay, km_unL, km_up_o, km_upx_i, km_upx_s, km_fl2_o, km_is, Option.some.injEq, Sum.inl.injEq, Sum.inr.injEq, Option.toList_some, Option.toList_none, List.cons_append, List.nil_append, ne_eq, true_and, and_true, and_self, not_true_eq_false, not_false_eq_true, true_implies, false_implies, reduceCtorEq]
        all_goals (first | done | grind)
        done
      by_cases c45 : (m 127 i = a ∧ m 128 i = b) ∨ (m 127 i = b ∧ m 128 i = a)
      · have k1 : (¬ m 127 i = a ∨ ¬ m 128 i = b) → (m 127 i = b ∧ m 128 i = a) := by omega
        by_cases c8 : l = -1 <;> by_cases c9 : m 129 i < m 129 l <;> by_cases c1 : m 126 i = 1 <;> by_cases c2 : m 126 i = 2 <;> simp (config := { decide := true }) only [c0, c1, c2, c3, c45, c8, c9, l1, l2, i1, i2, true_or, or_true, false_or, or_false, false_and, and_false, if_true, if_false, km_sr_sf, km_sr_of, km_up_of, km_sr_us, km_sr_uo, km_sr_sr, km_sr_fl, km_sr_flo, km_up_up, km_up_lt, km_lay, km_unL, km_up_o, km_upx_i, km_upx_s, km_fl2_o, km_is, Option.some.injEq, Sum.inl.injEq, Sum.inr.injEq, Option.toList_some, Option.toList_none, List.cons_append, List.nil_append, ne_eq, true_and, and_true, and_self, not_true_eq_false, not_false_eq_true, true_implies, false_implies, reduceCtorEq] <;> grind
      · by_cases c1 : m 126 i = 1 <;> by_cases c2 : m 126 i = 2 <;> simp (config := { decide := true }) only [c0, c1, c2, c3, c45, i1, i2, true_or, or_true, false_or, or_false, false_and, and_false, if_true, if_false, km_sr_sf, km_sr_of, km_up_of, km_sr_us, km_sr_uo, km_sr_sr, km_sr_fl, km_sr_flo, km_up_up, km_up_lt, km_lay, km_unL, km_up_o, km_upx_i, km_upx_s, km_fl2_o, km_is, Option.some.injEq, Sum.inl.injEq, Sum.inr.injEq, Option.toList_some, Option.toList_none, List.cons_append, List.nil_append, ne_eq, true_and, and_true, and_self, not_true_eq_false, not_false_eq_true, true_implies, false_implies, reduceCtorEq] <;> grind
    · have c1 : ¬ m 126 i = 1 := fun w => c12 (Or.inl w)
      have c2 : ¬ m 126 i = 2 := fun w => c12 (Or.inr w)
      simp (config := { decide := true }) only [c0, c1, c2, i1, true_or, or_true, false_or, or_false, false_and, and_false, if_true, if_false, km_sr_sf, km_sr_of, km_up_of, km_sr_us, km_sr_uo, km_sr_sr, km_sr_fl, km_sr_flo, km_up_up, km_up_lt, km_lay, km_unL, km_up_o, km_upx_i, km_upx_s, km_fl2_o, km_is, Option.some.injEq, Sum.inl.injEq, Sum.inr.injEq, Option.toList_some, Option.toList_none, List.cons_append, List.nil_append, ne_eq, true_and, and_true, and_self, not_true_eq_false, not_false_eq_true, true_implies, false_implies, reduceCtorEq]

