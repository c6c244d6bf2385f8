/-! ===== the whole book read: who is alive now ===== -/
theorem km_alv_at {b j : Int} (h : ¬ (b = 5 ∧ j = 12)) : ∀ (n : Nat) (i : Int) (m : km_Mm), km_alv n i m b j = m b j := by
  intro n
  induction n with
  | zero => intro i m; rfl
  | succ n ih =>
    intro i m
    unfold km_alv
    rw [ih]
    split
    · exact km_up_ne h
    · rfl
theorem km_alv_bits : ∀ (n : Nat) (i : Int) (m : km_Mm), 0 ≤ i → i + n ≤ 10 → ten (m 5 12) → ten (km_alv n i m 5 12) ∧ ∀ k : Int, 0 ≤ k → (tb (km_alv n i m 5 12) k = true ↔ tb (m 5 12) k = true ∨ (i ≤ k ∧ k < i + n ∧ m 17 k ≤ m 5 2 ∧ (m 18 k = -1 ∨ m 5 2 < m 18 k))) := by
  intro n
  induction n with
  | zero => intro i m h0 h1 h2; exact ⟨h2, fun k k0 => ⟨Or.inl, fun w => w.elim id (fun w => by omega)⟩⟩
  | succ n ih =>
    intro i m h0 h1 h2
    unfold km_alv
    have t1 := ten_one h0 (by omega : i < 10)
    by_cases z : m 17 i ≤ m 5 2 ∧ (m 18 i = -1 ∨ m 5 2 < m 18 i)
    · rw [if_pos z]
      obtain ⟨i1, i2⟩ := ih (i + 1) (km_up m 5 12 (km_or (m 5 12) (km_shl 1 i))) (by omega) (by omega) (by rw [km_upx_s]; exact ten_or h2 t1)
      refine ⟨i1, fun k k0 => ?_⟩
      rw [i2 k k0, km_upx_s, km_up_o (by decide), km_upx_i (by decide), km_up_o (by decide), tb_or h2.1 (by have := h2.2; omega) t1.1 (by have := t1.2; omega), tb_one h0 (by omega) k0, Bool.or_eq_true, decide_eq_true_eq]
      constructor
      · rintro ((w | w) | w)
        · exact Or.inl w
        · subst w; exact Or.inr ⟨by omega, by omega, z⟩
        · exact Or.inr ⟨by omega, by omega, w.2.2⟩
      · rintro (w | ⟨w1, w2, w3⟩)
        · exact Or.inl (Or.inl w)
        · by_cases e : k = i
          · exact Or.inl (Or.inr e)
          · exact Or.inr ⟨by omega, by omega, w3⟩
    · rw [if_neg z]
      obtain ⟨i1, i2⟩ := ih (i + 1) m (by omega) (by omega) h2
      refine ⟨i1, fun k k0 => ?_⟩
      rw [i2 k k0]
      constructor
      · rintro (w | w)
        · exact Or.inl w
        · exact Or.inr ⟨by omega, by omega, w.2.2⟩
      · rintro (w | ⟨w1, w2, w3⟩)
        · exact Or.inl w
        · by_cases e : k = i
          · subst e; exact absurd w3 z
          · exact Or.inr ⟨by omega, by omega, w3⟩
/-- alive now, how old now, a couple now: by the whole book -/
def kA (m : km_Mm) (k : Int) : Prop := kL m (m 5 3) k (m 5 2)
/-- M holds the whole book's reading (of the book that m holds) -/
def kN (m M : km_Mm) : Prop := M 5 8 = m 5 3 ∧ (∀ i : Int, 0 ≤ i → i < m 5 3 → M 16 i = km_read (m 5 3) m 16 i) ∧ (∀ a : Int, 0 ≤ a → a < 10 → M 17 a = km_read (m 5 3) m 17 a ∧ M 18 a = km_read (m 5 3) m 18 a) ∧ ten (M 5 12) ∧ ∀ k : Int, 0 ≤ k → (tb (M 5 12) k = true ↔ k < m 5 1 ∧ kA m k)
theorem cl_now {q : Nat × Int × Int × Int × Int} {c s : Nat} {m : km_Mm} (hb : kI_book m) : ∃ M : km_Mm, km_jk m M ∧ M 52 = m 52 ∧ kN m M ∧ ∀ Q : Option km_V → km_Al → km_Mm → Prop, (km_E M_X1_readNow [.inr (.inr 5)] (km_A0 q c s) m Q ↔ Q none (km_A0 q c s) M) := by
  obtain ⟨b1, b2, b3, b4, -, -⟩ := id hb
  refine ⟨km_alv (m 5 1).toNat 0 (km_up (km_read (m 5 3) m) 5 12 0), fun b j h => ?_, ?_, ⟨?_, fun i i0 i1 => ?_, fun a a0 a1 => ⟨?_, ?_⟩, ?_⟩, fun Q => r_readNow ⟨b1.1, b1.2.1⟩ ⟨b3.1, b3.2.1⟩ b4 Q⟩
  · have : ¬ (b = 5 ∧ j = 12) ∧ b ≠ 16 ∧ b ≠ 17 ∧ b ≠ 18 ∧ ¬ (b = 5 ∧ j = 8) := by unfold kJ at h; omega
    rw [km_alv_at this.1, km_up_ne this.1, km_read_at this.2.1 this.2.2.1 this.2.2.2.1 this.2.2.2.2]
  · funext j; rw [km_alv_at (by omega), km_up_ne (by omega), km_read_at (by decide) (by decide) (by decide) (by omega)]
  · rw [km_alv_at (by omega), km_up_ne (by omega), km_read_8]
  · rw [km_alv_at (by omega), km_up_ne (by omega)]
  · rw [km_alv_at (by omega), km_up_ne (by omega)]
  · rw [km_alv_at (by omega), km_up_ne (by omega)]
  · obtain ⟨i1, i2⟩ := km_alv_bits (m 5 1).toNat 0 (km_up (km_read (m 5 3) m) 5 12 0) (by omega) (by omega) (by rw [km_upx_s]; exact ten_0)
    refine ⟨i1, fun k k0 => ?_⟩
    rw [i2 k k0, km_upx_s, tb_zero, km_up_o (by decide), km_upx_i (by decide), km_up_o (by decide), @km_read_at (m 5 3) 5 2 m (by decide) (by decide) (by decide) (by omega)]
    unfold kA kL
    constructor
    · rintro (w | ⟨w1, w2, w3⟩)
      · cases w
      · exact ⟨by omega, w3⟩
    · rintro ⟨w1, w2⟩
      exact Or.inr ⟨by omega, by omega, w2⟩
/-- the values don't depend on scratch -/
theorem kL_jk {m M : km_Mm} {n a y : Int} (hb : kI_book m) (hj : km_jk m M) (n0 : 0 ≤ n) (n1 : n ≤ m 5 3) (ha : 0 ≤ a ∧ a < 10) (hy : 0 ≤ y) : (kL m n a y ↔ kL M n a y) ∧ kLg m n a y = kLg M n a y := by
  have hbM := kI_book_jk hb hj
  have e : M 5 3 = m 5 3 := hj 5 3 (by unfold kJ; omega)
  have f1 := kI_fresh_m1 hb hj n0 n1
  have f2 := kI_fresh_m1 hbM km_jk_rf n0 (by rw [e]; exact n1)
  have k1 := kI_al hb f1 ha hy
  have k2 := kI_al hbM f2 ha hy
  exact ⟨k1.1.symm.trans k2.1, k1.2.1.symm.trans k2.2.1⟩
theorem kLc_jk {m M : km_Mm} {n a b y : Int} (hb : kI_book m) (hj : km_jk m M) (n0 : 0 ≤ n) (n1 : n ≤ m 5 3) : kLc m n a b y ↔ kLc M n a b y := by
  have hbM := kI_book_jk hb hj
  have e : M 5 3 = m 5 3 := hj 5 3 (by unfold kJ; omega)
  exact (kI_cp hb (kI_fresh_m1 hb hj n0 n1)).symm.trans (kI_cp hbM (kI_fresh_m1 hbM km_jk_rf n0 (by rw [e]; exact n1)))
theorem kA_jk {m M : km_Mm} {k : Int} (hb : kI_book m) (hj : km_jk m M) (ha : 0 ≤ k ∧ k < 10) : kA m k ↔ kA M k := by
  have e : M 5 3 = m 5 3 := hj 5 3 (by unfold kJ; omega)
  have e2 : M 5 2 = m 5 2 := hj 5 2 (by unfold kJ; omega)
  unfold kA
  rw [e, e2]
  exact (kL_jk hb hj hb.2.2.1.1 (Int.le_refl _) ha hb.2.1.1).1
/-- the class's isAlive, after the reading -/
theorem cl_isAlive {q : Nat × Int × Int × Int × Int} {c s : Nat} {m M : km_Mm} {k : Int} (hN : kN m M) (hk : 0 ≤ k ∧ k < m 5 1) (h10 : m 5 1 ≤ 10) (Q : Option km_V → km_Al → km_Mm → Prop) : km_E M_X1_isAlive [.inr (.inr 5), .inl k] (km_A0 q c s) M Q ↔ Q (some (.inl (@ite Int (kA m k) (Classical.propDecidable _) 1 0))) (km_A0 q c s) M := by
  obtain ⟨-, -, -, h4, h5⟩ := hN
  have hb := ks_bit0 (x := M 5 12) (k := k) h4.1 (by have := h4.2; omega) hk.1 (by omega)
  rw [r_isAlive]
  have k10 : k < 10 := by omega
  by_cases z : kA m k
  · have t := (h5 k hk.1).mpr ⟨hk.2, z⟩
    rw [if_pos z, if_pos ⟨hk.1, k10, fun w => by rw [hb.mp w] at t; cases t⟩]
  · have t : tb (M 5 12) k = false := by cases e : tb (M 5 12) k; rfl; exact absurd ((h5 k hk.1).mp e).2 z
    rw [if_neg z, if_neg (fun w => w.2.2 (hb.mpr t))]
/-- guests: class and reference -/
def kG (m : km_Mm) (k : Int) : Prop := 0 ≤ k ∧ k < 10 ∧ tb (m 100 1) k = true
theorem sp_misGuest {q : Nat × Int × Int × Int × Int} {c s : Nat} {m : km_Mm} {k : Int} : km_E M_X12_isGuest [.inr (.inr 123), .inl k] (km_A0 q c s) m (km_is (some (.inl (if m 123 80 ≠ 0 ∧ (0 ≤ k ∧ k < m 123 3) ∧ km_and (km_shr (m 123 82) k) 1 = 1 then 1 else 0))) (km_A0 q c s) (m)) := by
  rw [km_E.of (by decide)]
  show km_G M_X12_isGuest 0 [some (.inr (.inr 123)), some (.inl k)] [] (km_A0 q c s) m _
  simp (config := { decide := true }) only [g_X12_isGuest, r_misKin, km_lay, km_unL, km_up_o, km_upx_i, km_upx_s, km_fl2_o, km_is, Option.some.injEq, Sum.inl.injEq, Sum.inr.injEq, Option.toList_some, Option.toList_none, List.cons_append, List.nil_append, ne_eq, true_and, and_true, and_self, not_true_eq_false, not_false_eq_true, true_implies, false_implies, reduceCtorEq]
  grind
theorem r_misGuest {q : Nat × Int × Int × Int × Int} {c s : Nat} {m : km_Mm} {k : Int} (Q : Option km_V → km_Al → km_Mm → Prop) : km_E M_X12_isGuest [.inr (.inr 123), .inl k] (km_A0 q c s) m Q ↔ Q (some (.inl (if m 123 80 ≠ 0 ∧ (0 ≤ k ∧ k < m 123 3) ∧ km_and (km_shr (m 123 82) k) 1 = 1 then 1 else 0))) (km_A0 q c s) (m) := km_E.rule (sp_misGuest ) Q
theorem cl_isGuest {q : Nat × Int × Int × Int × Int} {c s : Nat} {m : km_Mm} {k : Int} (h : ten (m 100 1)) (Q : Option km_V → km_Al → km_Mm → Prop) : km_E M_X5_isGuest [.inr (.inr 100), .inl k] (km_A0 q c s) m Q ↔ Q (some (.inl (@ite Int (kG m k) (Classical.propDecidable _) 1 0))) (km_A0 q c s) m := by
  rw [r_isGuest]
  by_cases z : 0 ≤ k ∧ k < 10
  · have hb := ks_bit0 (x := m 100 1) (k := k) h.1 (by have := h.2; omega) z.1 (by omega)
    by_cases t : tb (m 100 1) k = true
    · rw [if_pos ⟨z.1, z.2, fun w => by rw [hb.mp w] at t; cases t⟩, if_pos ⟨z.1, z.2, t⟩]
    · have t2 : tb (m 100 1) k = false := by cases e : tb (m 100 1) k; rfl; exact absurd e t
      rw [if_neg (fun w => w.2.2 (hb.mpr t2)), if_neg (fun w => t w.2.2)]
  · rw [if_neg (fun w => z ⟨w.1, w.2.1⟩), if_neg (fun w => z ⟨w.1, w.2.1⟩)]
theorem md_isGuest {q : Nat × Int × Int × Int × Int} {c s : Nat} {m mm : km_Mm} {k : Int} (h : kI_meet m) (h10 : m 5 1 ≤ 10) (e80 : mm 123 80 = m 123 80) (e82 : mm 123 82 = m 123 82) (e3 : mm 123 3 = m 5 1) (Q : Option km_V → km_Al → km_Mm → Prop) : km_E M_X12_isGuest [.inr (.inr 123), .inl k] (km_A0 q c s) mm Q ↔ Q (some (.inl (@ite Int (kG m k) (Classical.propDecidable _) 1 0))) (km_A0 q c s) mm := by
  obtain ⟨⟨a1, a1'⟩, a2, -, -, a5, -⟩ := h
  rw [r_misGuest, e80, e82, e3, a2.1]
  by_cases z : 0 ≤ k ∧ k < 10
  · have hb := ks_bit (x := m 100 1) (k := k) a2.2.1.1 (by have := a2.2.1.2; omega) z.1 (by omega)
    by_cases t : tb (m 100 1) k = true
    · rw [if_pos t] at hb
      have on : ¬ m 100 0 = -1 := fun w => by rw [(a5 w).1, tb_zero] at t; cases t
      have kk : k < m 5 1 := by
        by_cases w : k < m 5 1
        · exact w
        · have := a2.2.2 k (by omega) z.2; rw [this] at t; cases t
      rw [if_neg on] at a1'
      rw [if_pos ⟨by omega, ⟨z.1, kk⟩, hb⟩, if_pos ⟨z.1, z.2, t⟩]
    · rw [if_neg t] at hb
      rw [if_neg (fun w => by omega), if_neg (fun w => t w.2.2)]
  · rw [if_neg (fun w => z ⟨w.2.1.1, by omega⟩), if_neg (fun w => z ⟨w.1, w.2.1⟩)]

