/-! ===== what both sides keep: the book ===== -/
def kI_note (m : km_Mm) (i : Int) : Prop := m 127 i = m 13 i ∧ ((m 12 i = 5 ∧ m 126 i = 9 ∧ m 13 i < i) ∨ ((0 ≤ m 12 i ∧ m 12 i ≤ 4) ∧ m 126 i = m 12 i ∧ m 128 i = m 14 i ∧ m 129 i = m 15 i ∧ m 13 i < m 5 1 ∧ (m 12 i ≤ 2 → (0 ≤ m 14 i ∧ m 14 i < m 5 1) ∧ m 13 i ≠ m 14 i) ∧ (m 12 i = 0 → m 14 i < m 13 i)))
def kI_book (m : km_Mm) : Prop := (0 ≤ m 5 1 ∧ m 5 1 ≤ 10 ∧ m 123 3 = m 5 1) ∧ (0 ≤ m 5 2 ∧ m 5 2 ≤ 999 ∧ m 123 11 = m 5 2) ∧ (0 ≤ m 5 3 ∧ m 5 3 ≤ 100 ∧ m 123 5 = m 5 3) ∧ km_nt m ∧ km_ntM m ∧ (∀ i : Int, 0 ≤ i → i < m 5 3 → kI_note m i)
/-- what Ancestry's reading leaves -/
def kn_m1 (m : km_Mm) : km_Mm := km_sr (km_up m 52 3 0) 53 (kn_sure m (m 5 8).toNat 0 (fun j => if 0 ≤ j ∧ j < 10 then 0 else m 53 j))
def kn_m2 (m : km_Mm) : (Int → Int) × (Int → Int) × Int := kn_may (kn_m1 m) (m 5 8).toNat 0 (m 54, m 55, 0)
def kn_m3 (m : km_Mm) : km_Mm := km_sr (km_sr (km_up (kn_m1 m) 52 3 (kn_m2 m).2.2) 54 (kn_m2 m).1) 55 (kn_m2 m).2.1
theorem kn_sure_cong {m m' : km_Mm} (h : ∀ b : Int, 12 ≤ b → b ≤ 16 → m' b = m b) : ∀ (n : Nat) (i : Int) (f : Int → Int), kn_sure m' n i f = kn_sure m n i f := by
  intro n
  induction n with
  | zero => intro i f; rfl
  | succ n ih => intro i f; unfold kn_sure; rw [ih, h 12 (by decide) (by decide), h 13 (by decide) (by decide), h 14 (by decide) (by decide), h 15 (by decide) (by decide), h 16 (by decide) (by decide)]
theorem r_aread {q : Nat × Int × Int × Int × Int} {c s : Nat} {m : km_Mm} (hk : 0 ≤ m 5 8 ∧ m 5 8 ≤ 100) (hn : km_nt m) (Q : Option km_V → km_Al → km_Mm → Prop) : km_E M_X0_read [.inr (.inr 52), .inr (.inr 5)] (km_A0 q c s) m Q ↔ Q none (km_A0 q c s) (kn_m3 m) := by
  rw [km_E.of (by decide)]
  show km_G M_X0_read 0 [some (.inr (.inr 52)), some (.inr (.inr 5)), none] [] (km_A0 q c s) m _ ↔ _
  have f := fun m Q => @r_fill q c s m 53 0 10 (by decide) (by simp (config := { decide := true }) only [km_lay, km_unL, km_up_o, km_upx_i, km_upx_s, km_fl2_o, km_is, Option.some.injEq, Sum.inl.injEq, Sum.inr.injEq, Option.toList_some, Option.toList_none, List.cons_append, List.nil_append, ne_eq, true_and, and_true, and_self, not_true_eq_false, not_false_eq_true, true_implies, false_implies, reduceCtorEq]) (by simp (config := { decide := true }) only [km_lay, km_unL, km_up_o, km_upx_i, km_upx_s, km_fl2_o, km_is, Option.some.injEq, Sum.inl.injEq, Sum.inr.injEq, Option.toList_some, Option.toList_none, List.cons_append, List.nil_append, ne_eq, true_and, and_true, and_self, not_true_eq_false, not_false_eq_true, true_implies, false_implies, reduceCtorEq]) (by simp (config := { decide := true }) only [km_lay, km_unL, km_up_o, km_upx_i, km_upx_s, km_fl2_o, km_is, Option.some.injEq, Sum.inl.injEq, Sum.inr.injEq, Option.toList_some, Option.toList_none, List.cons_append, List.nil_append, ne_eq, true_and, and_true, and_self, not_true_eq_false, not_false_eq_true, true_implies, false_implies, reduceCtorEq]) (by decide) Q
  have h1 := @lp_aread_15 q c s (km_up m 52 3 0) (by simp (config := { decide := true }) only [true_or, or_true, false_or, or_false, false_and, and_false, if_true, if_false, km_sr_sf, km_sr_of, km_up_of, km_sr_us, km_sr_uo, km_sr_sr, km_sr_fl, km_sr_flo, km_up_up, km_up_lt, km_lay, km_unL, km_up_o, km_upx_i, km_upx_s, km_fl2_o, km_is, Option.some.injEq, Sum.inl.injEq, Sum.inr.injEq, Option.toList_some, Option.toList_none, List.cons_append, List.nil_append, ne_eq, true_and, and_true, and_self, not_true_eq_false, not_false_eq_true, true_implies, false_implies, reduceCtorEq]; exact hk.2) (by intro i a b; simp (config := { decide := true }) only [true_or, or_true, false_or, or_false, false_and, and_false, if_true, if_false, km_sr_sf, km_sr_of, km_up_of, km_sr_us, km_sr_uo, km_sr_sr, km_sr_fl, km_sr_flo, km_up_up, km_up_lt, km_lay, km_unL, km_up_o, km_upx_i, km_upx_s, km_fl2_o, km_is, Option.some.injEq, Sum.inl.injEq, Sum.inr.injEq, Option.toList_some, Option.toList_none, List.cons_append, List.nil_append, ne_eq, true_and, and_true, and_self, not_true_eq_false, not_false_eq_true, true_implies, false_implies, reduceCtorEq]; exact hn i a b) Q (m 5 8).toNat 0 (fun j => if 0 ≤ j ∧ j < 10 then 0 else m 53 j) (by omega) (by simp (config := { decide := true }) only [true_or, or_true, false_or, or_false, false_and, and_false, if_true, if_false, km_sr_sf, km_sr_of, km_up_of, km_sr_us, km_sr_uo, km_sr_sr, km_sr_fl, km_sr_flo, km_up_up, km_up_lt, km_lay, km_unL, km_up_o, km_upx_i, km_upx_s, km_fl2_o, km_is, Option.some.injEq, Sum.inl.injEq, Sum.inr.injEq, Option.toList_some, Option.toList_none, List.cons_append, List.nil_append, ne_eq, true_and, and_true, and_self, not_true_eq_false, not_false_eq_true, true_implies, false_implies, reduceCtorEq]; omega) (by intro a a0 a1; rw [if_pos ⟨a0, a1⟩]; exact ten_0)
  have e1 : kn_sure (km_up m 52 3 0) (m 5 8).toNat 0 (fun j => if 0 ≤ j ∧ j < 10 then 0 else m 53 j) = kn_sure m (m 5 8).toNat 0 (fun j => if 0 ≤ j ∧ j < 10 then 0 else m 53 j) := kn_sure_cong (fun b b0 b1 => km_up_of (by omega)) _ _ _
  rw [e1] at h1
  have e0 : km_sr (km_up m 52 3 0) 53 (kn_sure m (m 5 8).toNat 0 (fun j => if 0 ≤ j ∧ j < 10 then 0 else m 53 j)) = kn_m1 m := rfl
  rw [e0] at h1
  have h2 := @lp_aread_80 q c s (kn_m1 m) (by unfold kn_m1; simp (config := { decide := true }) only [true_or, or_true, false_or, or_false, false_and, and_false, if_true, if_false, km_sr_sf, km_sr_of, km_up_of, km_sr_us, km_sr_uo, km_sr_sr, km_sr_fl, km_sr_flo, km_up_up, km_up_lt, km_lay, km_unL, km_up_o, km_upx_i, km_upx_s, km_fl2_o, km_is, Option.some.injEq, Sum.inl.injEq, Sum.inr.injEq, Option.toList_some, Option.toList_none, List.cons_append, List.nil_append, ne_eq, true_and, and_true, and_self, not_true_eq_false, not_false_eq_true, true_implies, false_implies, reduceCtorEq]; exact hk.2) (by intro i a b; unfold kn_m1; simp (config := { decide := true }) only [true_or, or_true, false_or, or_false, false_and, and_false, if_true, if_false, km_sr_sf, km_sr_of, km_up_of, km_sr_us, km_sr_uo, km_sr_sr, km_sr_fl, km_sr_flo, km_up_up, km_up_lt, km_lay, km_unL, km_up_o, km_upx_i, km_upx_s, km_fl2_o, km_is, Option.some.injEq, Sum.inl.injEq, Sum.inr.injEq, Option.toList_some, Option.toList_none, List.cons_append, List.nil_append, ne_eq, true_and, and_true, and_self, not_true_eq_false, not_false_eq_true, true_implies, false_implies, reduceCtorEq]; exact hn i a b) Q (m 5 8).toNat 0 (m 54) (m 55) 0 (by omega) (by unfold kn_m1; simp (config := { decide := true }) only [true_or, or_true, false_or, or_false, false_and, and_false, if_true, if_false, km_sr_sf, km_sr_of, km_up_of, km_sr_us, km_sr_uo, km_sr_sr, km_sr_fl, km_sr_flo, km_up_up, km_up_lt, km_lay, km_unL, km_up_o, km_upx_i, km_upx_s, km_fl2_o, km_is, Option.some.injEq, Sum.inl.injEq, Sum.inr.injEq, Option.toList_some, Option.toList_none, List.cons_append, List.nil_append, ne_eq, true_and, and_true, and_self, not_true_eq_false, not_false_eq_true, true_implies, false_implies, reduceCtorEq]; omega) (by omega)
  have e2 : km_sr (km_sr (km_up (kn_m1 m) 52 3 0) 54 (m 54)) 55 (m 55) = kn_m1 m := by
    unfold kn_m1; funext b j; unfold km_sr km_up; grind
  rw [e2] at h2
  have e3 : km_up (km_fl2 m 53 0 10 0) 52 3 0 = km_sr (km_up m 52 3 0) 53 (fun j => if 0 ≤ j ∧ j < 10 then 0 else m 53 j) := by
    funext b j; unfold km_sr km_up km_fl2; grind
  simp (config := { decide := true }) only [g_X0_read, f, e3, h1, true_or, or_true, false_or, or_false, false_and, and_false, if_true, if_false, km_sr_sf, km_sr_of, km_up_of, km_sr_us, km_sr_uo, km_sr_sr, km_sr_fl, km_sr_flo, km_up_up, km_up_lt, km_lay, km_unL, km_up_o, km_upx_i, km_upx_s, km_fl2_o, km_is, Option.some.injEq, Sum.inl.injEq, Sum.inr.injEq, Option.toList_some, Option.toList_none, List.cons_append, List.nil_append, ne_eq, true_and, and_true, and_self, not_true_eq_false, not_false_eq_true, true_implies, false_implies, reduceCtorEq]
  rw [h2]
  exact Iff.rfl
/-- the reading: rows beside 16 to 18 and the place 8 of the book are as before -/
theorem km_read_at {k b j : Int} {m : km_Mm} (h1 : b ≠ 16) (h2 : b ≠ 17) (h3 : b ≠ 18) (h4 : ¬ (b = 5 ∧ j = 8)) : km_read k m b j = m b j := by
  unfold km_read
  rw [km_bd_at h2 h3, km_fl2_at h3, km_fl2_at h2, km_cnt_at h1]
  unfold km_up
  by_cases e : b = 5
  · rw [if_pos e, if_neg (fun q => h4 ⟨e, q⟩)]
  · rw [if_neg e]
theorem km_read_8 {k : Int} {m : km_Mm} : km_read k m 5 8 = k := by
  unfold km_read
  rw [km_bd_at (by decide) (by decide), km_fl2_at (by decide), km_fl2_at (by decide), km_cnt_at (by decide), km_upx_s]
theorem km_read_16 {k : Int} {m : km_Mm} {j : Int} : km_read k m 16 j = km_stk k.toNat (km_fl2 (km_up m 5 8 k) 16 0 k 1) 16 j := by
  unfold km_read
  rw [km_bd_at (by decide) (by decide), km_fl2_at (by decide), km_fl2_at (by decide)]
  unfold km_cnt
  rw [km_upx_s]
/-- the notes that count, n of the first ones being known -/
theorem kI_cnt {m : km_Mm} (hb : kI_book m) {k : Int} (k0 : 0 ≤ k) (k1 : k ≤ m 5 3) {C : Int → Int} : (∀ i : Int, 0 ≤ i → i < k → (km_read k m 16 i ≠ 0 ↔ kq_kn (m 126) (m 127) k.toNat (kq_k0 k C 0) i ≠ 0)) ∧ (∀ i : Int, k ≤ i → i < 100 → kq_kn (m 126) (m 127) k.toNat (kq_k0 k C 0) i = 0) := by
  obtain ⟨-, -, b3, -, -, b6⟩ := hb
  have h := @kc_stk (m 126) (m 127) k (by omega) k.toNat (km_fl2 (km_up m 5 8 k) 16 0 k 1) (kq_k0 k C 0) (by omega) (fun i a b => by
    have := b6 i a (by omega)
    unfold kI_note at this
    show (km_fl2 (km_up m 5 8 k) 16 0 k 1 12 i = 5 ↔ _) ∧ _
    rw [km_fl2_o (by decide), km_fl2_o (by decide), km_up_o (by decide), km_up_o (by decide)]
    omega) (fun i a b => by
    show km_fl2 (km_up m 5 8 k) 16 0 k 1 16 i ≠ 0 ↔ _
    unfold km_fl2 kq_k0
    rw [if_pos ⟨rfl, a, b⟩, if_pos ⟨a, by omega⟩, if_pos b]) (fun i a b => by
    unfold kq_k0; rw [if_pos ⟨by omega, b⟩, if_neg (by omega)])
  refine ⟨fun i a b => ?_, h.2⟩
  rw [km_read_16]
  exact h.1 i a b
/-- after both readings: what is sure, and the maybes -/
theorem kI_sure {m : km_Mm} (hb : kI_book m) {k : Int} (k0 : 0 ≤ k) (k1 : k ≤ m 5 3) : (∀ a : Int, 0 ≤ a → a < 10 → ten (kn_m3 (km_read k m) 53 a) ∧ ∀ x : Int, 0 ≤ x → tb (kn_m3 (km_read k m) 53 a) x = true → x < a) ∧ kf_good (kn_m3 (km_read k m) 53) (kn_m3 (km_read k m) 54) (kn_m3 (km_read k m) 55) (kn_m3 (km_read k m) 52 3) := by
  obtain ⟨b1, -, b3, b4, -, b6⟩ := hb
  generalize hr : km_read k m = r
  have r8 : r 5 8 = k := by rw [← hr]; exact km_read_8
  have rr : ∀ b : Int, 12 ≤ b → b ≤ 15 → r b = m b := fun b b0 b1 => by funext j; rw [← hr]; exact km_read_at (by omega) (by omega) (by omega) (by omega)
  have hn : ∀ i : Int, 0 ≤ i → i < r 5 8 → r 16 i ≠ 0 → r 12 i = 0 → (0 ≤ r 13 i ∧ r 13 i < 10) ∧ (0 ≤ r 14 i ∧ r 14 i < 10) ∧ r 14 i < r 13 i := by
    intro i i0 i1 _ i3
    rw [rr 12 (by decide) (by decide)] at i3
    rw [rr 13 (by decide) (by decide), rr 14 (by decide) (by decide)]
    have := b6 i i0 (by omega)
    have := b4 i i0 (by omega)
    unfold kI_note at *
    omega
  have hs := kn_sure_lt hn k.toNat 0 (fun j => if 0 ≤ j ∧ j < 10 then 0 else r 53 j) (by omega) (by omega) (fun a a0 a1 => by
    rw [if_pos ⟨a0, a1⟩]; exact ⟨ten_0, fun x _ h => by rw [tb_zero] at h; cases h⟩)
  have e53 : kn_m3 r 53 = kn_sure r k.toNat 0 (fun j => if 0 ≤ j ∧ j < 10 then 0 else r 53 j) := by unfold kn_m3 kn_m1; rw [r8]; simp (config := { decide := true }) only [true_or, or_true, false_or, or_false, false_and, and_false, if_true, if_false, km_sr_sf, km_sr_of, km_up_of, km_sr_us, km_sr_uo, km_sr_sr, km_sr_fl, km_sr_flo, km_up_up, km_up_lt, km_lay, km_unL, km_up_o, km_upx_i, km_upx_s, km_fl2_o, km_is, Option.some.injEq, Sum.inl.injEq, Sum.inr.injEq, Option.toList_some, Option.toList_none, List.cons_append, List.nil_append, ne_eq, true_and, and_true, and_self, not_true_eq_false, not_false_eq_true, true_implies, false_implies, reduceCtorEq]
  have e1 : kn_m1 r 53 = kn_sure r k.toNat 0 (fun j => if 0 ≤ j ∧ j < 10 then 0 else r 53 j) := by unfold kn_m1; rw [r8]; simp (config := { decide := true }) only [true_or, or_true, false_or, or_false, false_and, and_false, if_true, if_false, km_sr_sf, km_sr_of, km_up_of, km_sr_us, km_sr_uo, km_sr_sr, km_sr_fl, km_sr_flo, km_up_up, km_up_lt, km_lay, km_unL, km_up_o, km_upx_i, km_upx_s, km_fl2_o, km_is, Option.some.injEq, Sum.inl.injEq, Sum.inr.injEq, Option.toList_some, Option.toList_none, List.cons_append, List.nil_append, ne_eq, true_and, and_true, and_self, not_true_eq_false, not_false_eq_true, true_implies, false_implies, reduceCtorEq]
  have e54 : kn_m3 r 54 = (kn_m2 r).1 := by unfold kn_m3; simp (config := { decide := true }) only [true_or, or_true, false_or, or_false, false_and, and_false, if_true, if_false, km_sr_sf, km_sr_of, km_up_of, km_sr_us, km_sr_uo, km_sr_sr, km_sr_fl, km_sr_flo, km_up_up, km_up_lt, km_lay, km_unL, km_up_o, km_upx_i, km_upx_s, km_fl2_o, km_is, Option.some.injEq, Sum.inl.injEq, Sum.inr.injEq, Option.toList_some, Option.toList_none, List.cons_append, List.nil_append, ne_eq, true_and, and_true, and_self, not_true_eq_false, not_false_eq_true, true_implies, false_implies, reduceCtorEq]
  have e55 : kn_m3 r 55 = (kn_m2 r).2.1 := by unfold kn_m3; simp (config := { decide := true }) only [true_or, or_true, false_or, or_false, false_and, and_false, if_true, if_false, km_sr_sf, km_sr_of, km_up_of, km_sr_us, km_sr_uo, km_sr_sr, km_sr_fl, km_sr_flo, km_up_up, km_up_lt, km_lay, km_unL, km_up_o, km_upx_i, km_upx_s, km_fl2_o, km_is, Option.some.injEq, Sum.inl.injEq, Sum.inr.injEq, Option.toList_some, Option.toList_none, List.cons_append, List.nil_append, ne_eq, true_and, and_true, and_self, not_true_eq_false, not_false_eq_true, true_implies, false_implies, reduceCtorEq]
  have e3 : kn_m3 r 52 3 = (kn_m2 r).2.2 := by unfold kn_m3; simp (config := { decide := true }) only [true_or, or_true, false_or, or_false, false_and, and_false, if_true, if_false, km_sr_sf, km_sr_of, km_up_of, km_sr_us, km_sr_uo, km_sr_sr, km_sr_fl, km_sr_flo, km_up_up, km_up_lt, km_lay, km_unL, km_up_o, km_upx_i, km_upx_s, km_fl2_o, km_is, Option.some.injEq, Sum.inl.injEq, Sum.inr.injEq, Option.toList_some, Option.toList_none, List.cons_append, List.nil_append, ne_eq, true_and, and_true, and_self, not_true_eq_false, not_false_eq_true, true_implies, false_implies, reduceCtorEq]
  rw [e53, e54, e55, e3]
  refine ⟨hs, ?_⟩
  rw [← e1]
  have q : ∀ b : Int, 12 ≤ b → b ≤ 16 → kn_m1 r b = r b := fun b b0 b1 => by unfold kn_m1; rw [km_sr_of (by omega), km_up_of (by omega)]
  have q8 : kn_m1 r 5 8 = k := by unfold kn_m1; simp (config := { decide := true }) only [r8, true_or, or_true, false_or, or_false, false_and, and_false, if_true, if_false, km_sr_sf, km_sr_of, km_up_of, km_sr_us, km_sr_uo, km_sr_sr, km_sr_fl, km_sr_flo, km_up_up, km_up_lt, km_lay, km_unL, km_up_o, km_upx_i, km_upx_s, km_fl2_o, km_is, Option.some.injEq, Sum.inl.injEq, Sum.inr.injEq, Option.toList_some, Option.toList_none, List.cons_append, List.nil_append, ne_eq, true_and, and_true, and_self, not_true_eq_false, not_false_eq_true, true_implies, false_implies, reduceCtorEq]
  unfold kn_m2
  rw [r8]
  refine kn_may_good (fun i i0 i1 i2 i3 => ?_) (by rw [q8]; omega) (fun a a0 a1 => by rw [e1]; exact (hs a a0 a1).1) _ _ _ (by omega) (by rw [q8]; omega) ⟨by dsimp only; omega, fun i a b => by dsimp only at b; omega, fun i j a b d => by dsimp only at d; omega, fun i a b => by dsimp only at b; omega, fun i a b => by dsimp only at b; omega⟩
  rw [q 16 (by decide) (by decide)] at i2
  rw [q 12 (by decide) (by decide)] at i3
  rw [q 13 (by decide) (by decide), q 14 (by decide) (by decide), q8]
  have i4 := i3
  rw [rr 12 (by decide) (by decide)] at i4
  have := b4 i i0 i1
  rw [rr 13 (by decide) (by decide), rr 14 (by decide) (by decide)]
  have w : i < k → _ := fun z => b6 i i0 (by omega)
  unfold kI_note at w
  refine ⟨by omega, by omega, fun z => ?_⟩
  have := w z
  omega

