/-! ===== Book: the reading ===== -/
/-- strikes, from the n-th note down -/
def km_stk : Nat → km_Mm → km_Mm
  | 0, m => m
  | n + 1, m => km_stk n (if m 16 n ≠ 0 ∧ m 12 n = 5 then km_up m 16 (m 13 n) 0 else m)
theorem lp_strikeOut_30 {q : Nat × Int × Int × Int × Int} {c s : Nat} {Q : Option km_V → km_Al → km_Mm → Prop} : ∀ (n : Nat) (m : km_Mm), (n : Int) ≤ 100 → (∀ i : Int, 0 ≤ i → i < n → 0 ≤ m 13 i ∧ m 13 i < 100) →
    (km_G M_X1_strikeOut 30 [some (.inr (.inr 5)), some (.inl ((n : Int) - 1))] [] (km_A0 q c s) m Q ↔ Q none (km_A0 q c s) (km_stk n m)) := by
  intro n
  induction n with
  | zero =>
    intro m h1 h2
    rw [g_X1_strikeOut_30]
    simp (config := { decide := true }) only [g_X1_strikeOut, km_stk, km_lay, km_unL, km_up_o, km_upx_i, km_upx_s, km_fl2_o, km_is, Option.some.injEq, Sum.inl.injEq, Sum.inr.injEq, Option.toList_some, Option.toList_none, List.cons_append, List.nil_append, ne_eq, true_and, and_true, and_self, not_true_eq_false, not_false_eq_true, true_implies, false_implies, reduceCtorEq]
  | succ n ih =>
    intro m h1 h2
    have e : ((n + 1 : Nat) : Int) - 1 = n := by omega
    have e2 : (n : Int) + -1 = n - 1 := by omega
    have i1 := ih m (by omega) (fun i a b => h2 i a (by omega))
    have i2 := ih (km_up m 16 (m 13 n) 0) (by omega) (fun i a b => h2 i a (by omega))
    have i3 := h2 n (by omega) (by omega)
    rw [g_X1_strikeOut_30, e]
    simp (config := { decide := true }) only [g_X1_strikeOut, km_stk, e2, i1, i2, km_lay, km_unL, km_up_o, km_upx_i, km_upx_s, km_fl2_o, km_is, Option.some.injEq, Sum.inl.injEq, Sum.inr.injEq, Option.toList_some, Option.toList_none, List.cons_append, List.nil_append, ne_eq, true_and, and_true, and_self, not_true_eq_false, not_false_eq_true, true_implies, false_implies, reduceCtorEq]
    grind
theorem lp_strikeOut_2 {q : Nat × Int × Int × Int × Int} {c s : Nat} {Q : Option km_V → km_Al → km_Mm → Prop} : ∀ (n : Nat) (i : Int) (m : km_Mm), 0 ≤ i → i + n = m 5 8 → m 5 8 ≤ 100 → (∀ i : Int, 0 ≤ i → i < 100 → 0 ≤ m 13 i ∧ m 13 i < 100) →
    (km_G M_X1_strikeOut 2 [some (.inr (.inr 5)), some (.inl i)] [] (km_A0 q c s) m Q ↔ Q none (km_A0 q c s) (km_stk (m 5 8).toNat (km_fl2 m 16 i (m 5 8) 1))) := by
  intro n
  induction n with
  | zero =>
    intro i m h0 h1 h2 h3
    have e : i = m 5 8 := by omega
    have e2 : m 5 8 - 1 = ((m 5 8).toNat : Int) - 1 := by omega
    have e3 := @lp_strikeOut_30 q c s Q (m 5 8).toNat m (by omega) (fun i a b => h3 i a (by omega))
    have e4 : -2147483648 ≤ ((m 5 8).toNat : Int) - 1 ∧ ((m 5 8).toNat : Int) - 1 ≤ 2147483647 := by omega
    rw [g_X1_strikeOut_2, km_fl2_end (by omega)]
    simp (config := { decide := true }) only [g_X1_strikeOut, e, Int.le_refl, e2, e3, e4, km_lay, km_unL, km_up_o, km_upx_i, km_upx_s, km_fl2_o, km_is, Option.some.injEq, Sum.inl.injEq, Sum.inr.injEq, Option.toList_some, Option.toList_none, List.cons_append, List.nil_append, ne_eq, true_and, and_true, and_self, not_true_eq_false, not_false_eq_true, true_implies, false_implies, reduceCtorEq]
  | succ n ih =>
    intro i m h0 h1 h2 h3
    have e : ¬ m 5 8 ≤ i := by omega
    have i1 := ih (i + 1) (km_up m 16 i 1) (by omega) (by show i + 1 + (n : Int) = m 5 8; omega) h2 h3
    have e5 : (km_up m 16 i 1) 5 8 = m 5 8 := rfl
    rw [e5, km_fl2_up (by omega)] at i1
    rw [g_X1_strikeOut_2]
    simp (config := { decide := true }) only [g_X1_strikeOut, e, i1, km_lay, km_unL, km_up_o, km_upx_i, km_upx_s, km_fl2_o, km_is, Option.some.injEq, Sum.inl.injEq, Sum.inr.injEq, Option.toList_some, Option.toList_none, List.cons_append, List.nil_append, ne_eq, true_and, and_true, and_self, not_true_eq_false, not_false_eq_true, true_implies, false_implies, reduceCtorEq]
    grind
/-- which notes count, after strikeOut -/
def km_cnt (m : km_Mm) : km_Mm := km_stk (m 5 8).toNat (km_fl2 m 16 0 (m 5 8) 1)
theorem sp_strikeOut {q : Nat × Int × Int × Int × Int} {c s : Nat} {m : km_Mm} (h0 : 0 ≤ m 5 8 ∧ m 5 8 ≤ 100) (h1 : ∀ i : Int, 0 ≤ i → i < 100 → 0 ≤ m 13 i ∧ m 13 i < 100) : km_E M_X1_strikeOut [.inr (.inr 5)] (km_A0 q c s) m (km_is none (km_A0 q c s) (km_cnt m)) := by
  rw [km_E.of (by decide)]
  show km_G M_X1_strikeOut 0 [some (.inr (.inr 5)), none] [] (km_A0 q c s) m _
  have h := @lp_strikeOut_2 q c s (km_is none (km_A0 q c s) (km_cnt m)) (m 5 8).toNat 0 m (by omega) (by omega) h0.2 h1
  simp (config := { decide := true }) only [g_X1_strikeOut, km_lay, km_unL, km_up_o, km_upx_i, km_upx_s, km_fl2_o, km_is, Option.some.injEq, Sum.inl.injEq, Sum.inr.injEq, Option.toList_some, Option.toList_none, List.cons_append, List.nil_append, ne_eq, true_and, and_true, and_self, not_true_eq_false, not_false_eq_true, true_implies, false_implies, reduceCtorEq]
  rw [h]
  exact km_is_rf rfl
/-- birth and death years, n notes from the i-th on -/
def km_bd : Nat → Int → km_Mm → km_Mm
  | 0, _, m => m
  | n + 1, i, m => km_bd n (i + 1) (if m 16 i ≠ 0 ∧ m 12 i = 3 then km_up m 17 (m 13 i) (m 15 i) else if m 16 i ≠ 0 ∧ m 12 i = 4 then km_up m 18 (m 13 i) (m 15 i) else m)
/-- the notes are notes -/
def km_nt (m : km_Mm) : Prop := ∀ i : Int, 0 ≤ i → i < 100 → (0 ≤ m 13 i ∧ m 13 i < 100) ∧ (m 12 i ≠ 5 → m 13 i < 10) ∧ (m 12 i ≤ 2 → 0 ≤ m 14 i ∧ m 14 i < 10) ∧ (0 ≤ m 15 i ∧ m 15 i ≤ 999)
theorem lp_read_34 {q : Nat × Int × Int × Int × Int} {c s : Nat} {k : Int} {Q : Option km_V → km_Al → km_Mm → Prop} : ∀ (n : Nat) (i : Int) (m : km_Mm), 0 ≤ i → i + n = m 5 8 → m 5 8 ≤ 100 → km_nt m →
    (km_G M_X1_read 34 [some (.inr (.inr 5)), some (.inl k), some (.inl i)] [] (km_A0 q c s) m Q ↔ Q none (km_A0 q c s) (km_bd n i m)) := by
  intro n
  induction n with
  | zero =>
    intro i m h0 h1 h2 h3
    have e : m 5 8 ≤ i := by omega
    rw [g_X1_read_34]
    simp (config := { decide := true }) only [g_X1_read, e, km_bd, km_lay, km_unL, km_up_o, km_upx_i, km_upx_s, km_fl2_o, km_is, Option.some.injEq, Sum.inl.injEq, Sum.inr.injEq, Option.toList_some, Option.toList_none, List.cons_append, List.nil_append, ne_eq, true_and, and_true, and_self, not_true_eq_false, not_false_eq_true, true_implies, false_implies, reduceCtorEq]
  | succ n ih =>
    intro i m h0 h1 h2 h3
    have e : ¬ m 5 8 ≤ i := by omega
    have i0 := ih (i + 1) m (by omega) (by omega) h2 h3
    have i1 := ih (i + 1) (km_up m 17 (m 13 i) (m 15 i)) (by omega) (by show i + 1 + (n : Int) = m 5 8; omega) h2 h3
    have i2 := ih (i + 1) (km_up m 18 (m 13 i) (m 15 i)) (by omega) (by show i + 1 + (n : Int) = m 5 8; omega) h2 h3
    have i3 := h3 i h0 (by omega)
    rw [g_X1_read_34]
    simp (config := { decide := true }) only [g_X1_read, e, i0, i1, i2, km_bd, km_lay, km_unL, km_up_o, km_upx_i, km_upx_s, km_fl2_o, km_is, Option.some.injEq, Sum.inl.injEq, Sum.inr.injEq, Option.toList_some, Option.toList_none, List.cons_append, List.nil_append, ne_eq, true_and, and_true, and_self, not_true_eq_false, not_false_eq_true, true_implies, false_implies, reduceCtorEq]
    by_cases cc0 : m 16 i = 0 <;> by_cases cc1 : m 12 i = 3 <;> by_cases cc2 : m 12 i = 4 <;> simp (config := { decide := true }) only [cc0, cc1, cc2, true_implies, km_lay, km_unL, km_up_o, km_upx_i, km_upx_s, km_fl2_o, km_is, Option.some.injEq, Sum.inl.injEq, Sum.inr.injEq, Option.toList_some, Option.toList_none, List.cons_append, List.nil_append, ne_eq, true_and, and_true, and_self, not_true_eq_false, not_false_eq_true, true_implies, false_implies, reduceCtorEq] <;> grind
/-- what the book tells by its first k notes -/
def km_read (k : Int) (m : km_Mm) : km_Mm := km_bd k.toNat 0 (km_fl2 (km_fl2 (km_cnt (km_up m 5 8 k)) 17 0 10 (-1)) 18 0 10 (-1))
theorem km_stk_at {b j : Int} (h : b ≠ 16) : ∀ (n : Nat) (m : km_Mm), km_stk n m b j = m b j := by
  intro n
  induction n with
  | zero => intro m; rfl
  | succ n ih =>
    intro m
    unfold km_stk
    rw [ih]
    split
    · unfold km_up; rw [if_neg h]
    · rfl
theorem km_fl2_at {m : km_Mm} {a b i n v j : Int} (h : b ≠ a) : km_fl2 m a i n v b j = m b j := by unfold km_fl2; rw [if_neg (fun z => h z.1)]
theorem km_cnt_at {m : km_Mm} {b j : Int} (h : b ≠ 16) : km_cnt m b j = m b j := by unfold km_cnt; rw [km_stk_at h, km_fl2_at h]
theorem km_bd_at {b j : Int} (h : b ≠ 17) (h' : b ≠ 18) : ∀ (n : Nat) (i : Int) (m : km_Mm), km_bd n i m b j = m b j := by
  intro n
  induction n with
  | zero => intro i m; rfl
  | succ n ih =>
    intro i m
    unfold km_bd
    rw [ih]
    split
    · unfold km_up; rw [if_neg h]
    · split
      · unfold km_up; rw [if_neg h']
      · rfl
theorem r_fill {q : Nat × Int × Int × Int × Int} {c s : Nat} {m : km_Mm} {a v n : Int} (h0 : 0 ≤ a) (h1 : a < ((km_A0 q c s).1 : Int)) (hk : km_kd (km_A0 q c s) a = 0) (hl : km_ln (km_A0 q c s) a = n) (hn : 0 ≤ n ∧ n ≤ 100000) (Q : Option km_V → km_Al → km_Mm → Prop) : km_E M_J7_fill_53178 [.inr (.inr a), .inl v] (km_A0 q c s) m Q ↔ Q none (km_A0 q c s) (km_fl2 m a 0 n v) := by
  subst hl
  exact km_E.rule (sp_fill h0 h1 hk hn) Q
theorem r_fill17 {q : Nat × Int × Int × Int × Int} {c s : Nat} {m : km_Mm} {v : Int} (Q : Option km_V → km_Al → km_Mm → Prop) : km_E M_J7_fill_53178 [.inr (.inr 17), .inl v] (km_A0 q c s) m Q ↔ Q none (km_A0 q c s) (km_fl2 m 17 0 10 v) := r_fill (by decide) (by simp (config := { decide := true }) only [km_lay, km_unL, km_up_o, km_upx_i, km_upx_s, km_fl2_o, km_is, Option.some.injEq, Sum.inl.injEq, Sum.inr.injEq, Option.toList_some, Option.toList_none, List.cons_append, List.nil_append, ne_eq, true_and, and_true, and_self, not_true_eq_false, not_false_eq_true, true_implies, false_implies, reduceCtorEq]) (by simp (config := { decide := true }) only [km_lay, km_unL, km_up_o, km_upx_i, km_upx_s, km_fl2_o, km_is, Option.some.injEq, Sum.inl.injEq, Sum.inr.injEq, Option.toList_some, Option.toList_none, List.cons_append, List.nil_append, ne_eq, true_and, and_true, and_self, not_true_eq_false, not_false_eq_true, true_implies, false_implies, reduceCtorEq]) (by simp (config := { decide := true }) only [km_lay, km_unL, km_up_o, km_upx_i, km_upx_s, km_fl2_o, km_is, Option.some.injEq, Sum.inl.injEq, Sum.inr.injEq, Option.toList_some, Option.toList_none, List.cons_append, List.nil_append, ne_eq, true_and, and_true, and_self, not_true_eq_false, not_false_eq_true, true_implies, false_implies, reduceCtorEq]) (by decide) Q
theorem r_fill18 {q : Nat × Int × Int × Int × Int} {c s : Nat} {m : km_Mm} {v : Int} (Q : Option km_V → km_Al → km_Mm → Prop) : km_E M_J7_fill_53178 [.inr (.inr 18), .inl v] (km_A0 q c s) m Q ↔ Q none (km_A0 q c s) (km_fl2 m 18 0 10 v) := r_fill (by decide) (by simp (config := { decide := true }) only [km_lay, km_unL, km_up_o, km_upx_i, km_upx_s, km_fl2_o, km_is, Option.some.injEq, Sum.inl.injEq, Sum.inr.injEq, Option.toList_some, Option.toList_none, List.cons_append, List.nil_append, ne_eq, true_and, and_true, and_self, not_true_eq_false, not_false_eq_true, true_implies, false_implies, reduceCtorEq]) (by simp (config := { decide := true }) only [km_lay, km_unL, km_up_o, km_upx_i, km_upx_s, km_fl2_o, km_is, Option.some.injEq, Sum.inl.injEq, Sum.inr.injEq, Option.toList_some, Option.toList_none, List.cons_append, List.nil_append, ne_eq, true_and, and_true, and_self, not_true_eq_false, not_false_eq_true, true_implies, false_implies, reduceCtorEq]) (by simp (config := { decide := true }) only [km_lay, km_unL, km_up_o, km_upx_i, km_upx_s, km_fl2_o, km_is, Option.some.injEq, Sum.inl.injEq, Sum.inr.injEq, Option.toList_some, Option.toList_none, List.cons_append, List.nil_append, ne_eq, true_and, and_true, and_self, not_true_eq_false, not_false_eq_true, true_implies, false_implies, reduceCtorEq]) (by decide) Q
theorem sp_read {q : Nat × Int × Int × Int × Int} {c s : Nat} {m : km_Mm} {k : Int} (h0 : 0 ≤ k) (h1 : 0 ≤ m 5 3 ∧ m 5 3 ≤ 100) (h2 : km_nt m) : km_E M_X1_read [.inr (.inr 5), .inl k] (km_A0 q c s) m (km_is none (km_A0 q c s) (km_read (if m 5 3 < k then m 5 3 else k) m)) := by
  rw [km_E.of (by decide)]
  show km_G M_X1_read 0 [some (.inr (.inr 5)), some (.inl k), none] [] (km_A0 q c s) m _
  have hm : 0 ≤ (if m 5 3 < k then m 5 3 else k) ∧ (if m 5 3 < k then m 5 3 else k) ≤ 100 := by split <;> omega
  have a1 := fun Q => km_E.rule (Q := Q) (@sp_strikeOut q c s (km_up m 5 8 (if m 5 3 < k then m 5 3 else k)) hm (fun i a b => (h2 i a b).1))
  simp (config := { decide := true }) only [g_X1_read, a1, r_fill17, r_fill18, km_lay, km_unL, km_up_o, km_upx_i, km_upx_s, km_fl2_o, km_is, Option.some.injEq, Sum.inl.injEq, Sum.inr.injEq, Option.toList_some, Option.toList_none, List.cons_append, List.nil_append, ne_eq, true_and, and_true, and_self, not_true_eq_false, not_false_eq_true, true_implies, false_implies, reduceCtorEq]
  have e : km_fl2 (km_fl2 (km_cnt (km_up m 5 8 (if m 5 3 < k then m 5 3 else k))) 17 0 10 (-1)) 18 0 10 (-1) 5 8 = (if m 5 3 < k then m 5 3 else k) := by
    rw [km_fl2_at (by decide), km_fl2_at (by decide), km_cnt_at (by decide)]; rfl
  have e2 : km_nt (km_fl2 (km_fl2 (km_cnt (km_up m 5 8 (if m 5 3 < k then m 5 3 else k))) 17 0 10 (-1)) 18 0 10 (-1)) := by
    intro i a b
    simp only [km_fl2_at (show (12 : Int) ≠ 18 by decide), km_fl2_at (show (12 : Int) ≠ 17 by decide), km_fl2_at (show (13 : Int) ≠ 18 by decide), km_fl2_at (show (13 : Int) ≠ 17 by decide), km_fl2_at (show (14 : Int) ≠ 18 by decide), km_fl2_at (show (14 : Int) ≠ 17 by decide), km_fl2_at (show (15 : Int) ≠ 18 by decide), km_fl2_at (show (15 : Int) ≠ 17 by decide), km_cnt_at (show (12 : Int) ≠ 16 by decide), km_cnt_at (show (13 : Int) ≠ 16 by decide), km_cnt_at (show (14 : Int) ≠ 16 by decide), km_cnt_at (show (15 : Int) ≠ 16 by decide)]
    exact h2 i a b
  rw [lp_read_34 (if m 5 3 < k then m 5 3 else k).toNat 0 _ (by omega) (by omega) (by omega) e2]
  exact km_is_rf rfl
theorem r_read {q : Nat × Int × Int × Int × Int} {c s : Nat} {m : km_Mm} {k : Int} (h0 : 0 ≤ k) (h1 : 0 ≤ m 5 3 ∧ m 5 3 ≤ 100) (h2 : km_nt m) (Q : Option km_V → km_Al → km_Mm → Prop) : km_E M_X1_read [.inr (.inr 5), .inl k] (km_A0 q c s) m Q ↔ Q none (km_A0 q c s) (km_read (if m 5 3 < k then m 5 3 else k) m) := km_E.rule (sp_read h0 h1 h2) Q

