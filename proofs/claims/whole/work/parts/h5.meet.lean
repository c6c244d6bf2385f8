/-! ===== promise 20: meet ===== -/
/-- the same book, whatever else has changed -/
def kbk (m M : km_Mm) : Prop := ∀ b j : Int, fB b j → M b j = m b j
theorem kI_fresh_c {m M : km_Mm} {n : Int} (hb : kI_book M) (hj : kbk M m) (n0 : 0 ≤ n) (n1 : n ≤ M 5 3) : kI_fresh M (kq_m1 m n) n := by
  have e126 : m 126 = M 126 := funext fun j => hj 126 j (by unfold fB; omega)
  have e127 : m 127 = M 127 := funext fun j => hj 127 j (by unfold fB; omega)
  have e128 : m 128 = M 128 := funext fun j => hj 128 j (by unfold fB; omega)
  have e129 : m 129 = M 129 := funext fun j => hj 129 j (by unfold fB; omega)
  have e5 : m 123 5 = M 123 5 := hj 123 5 (by unfold fB; omega)
  obtain ⟨c1, c2⟩ := kI_cnt hb n0 n1 (C := m 130)
  have b3 := hb.2.2.1
  unfold kI_fresh kq_m1
  simp (config := { decide := true }) only [e126, e127, e128, e129, e5, Int.add_sub_cancel, true_or, or_true, false_or, or_false, false_and, and_false, if_true, if_false, km_sr_sf, km_sr_of, km_up_of, km_sr_us, km_sr_uo, km_sr_sr, km_sr_fl, km_sr_flo, km_up_up, km_up_lt, km_lay, km_unL, km_up_o, km_upx_i, km_upx_s, km_fl2_o, km_is, Option.some.injEq, Sum.inl.injEq, Sum.inr.injEq, Option.toList_some, Option.toList_none, List.cons_append, List.nil_append, ne_eq, true_and, and_true, and_self, not_true_eq_false, not_false_eq_true, true_implies, false_implies, reduceCtorEq]
  exact ⟨⟨n0, n1⟩, b3.2.2, c1, c2⟩
theorem kA_bk {m M : km_Mm} {k : Int} (hb : kI_book m) (hj : kbk m M) (k0 : 0 ≤ k) (k1 : k < 10) : kA m k ↔ kA M k := by
  have hbM : kI_book M := kB_cg hb hj
  have e : M 5 3 = m 5 3 := hj 5 3 (by unfold fB; omega)
  have e2 : M 5 2 = m 5 2 := hj 5 2 (by unfold fB; omega)
  have b3 := hb.2.2.1
  have f1 := kI_fresh_m1 hb km_jk_rf b3.1 (Int.le_refl _)
  have f2 := @kI_fresh_c m M (m 5 3) hbM (fun b j f => (hj b j f).symm) b3.1 (by rw [e]; exact Int.le_refl _)
  unfold kA
  rw [e, e2]
  exact (kI_al hb f1 ⟨k0, k1⟩ hb.2.1.1).1.symm.trans (kI_al hbM f2 ⟨k0, k1⟩ hb.2.1.1).1
theorem kC_bk {m M : km_Mm} {o k : Int} (hb : kI_book m) (hj : kbk m M) (h2 : M (23 + o) k = m (23 + o) k) (k0 : 0 ≤ k) (k1 : k < 10) : kC m o k ↔ kC M o k := by
  have ka := kA_bk hb hj k0 k1
  unfold kC kQ
  rw [h2]
  by_cases z : kA m k
  · rw [if_pos z, if_pos (ka.mp z)]
  · rw [if_neg z, if_neg (fun w => z (ka.mpr w))]
theorem kset_cong {P R : Int → Prop} : ∀ (n : Nat), (∀ k : Int, 0 ≤ k → k < n → (P k ↔ R k)) → kset P n = kset R n := by
  intro n
  induction n with
  | zero => intro _; rfl
  | succ n ih =>
    intro h
    have hh := h n (by omega) (by omega)
    have i1 := ih (fun k k0 k1 => h k k0 (by omega))
    by_cases z : P n
    · rw [kset_yes z, kset_yes (hh.mp z), i1]
    · rw [kset_no z, kset_no (fun w => z (hh.mpr w)), i1]
theorem km_or_0 {x : Int} (h0 : 0 ≤ x) (h1 : x < 2147483648) : km_or x 0 = x := by
  rw [ks_or h0 h1 (by decide) (by decide)]
  show ((x.toNat ||| 0 : Nat) : Int) = x
  rw [Nat.or_zero]
  omega
section FM
variable {q q' : Nat × Int × Int × Int × Int} {c s : Nat} {m C M X Y Z : km_Mm} {N o o1 p b P a k : Int}
theorem cl_now2 (hb : kI_book m) : ∃ M : km_Mm, (∀ b j : Int, ¬ ((b = 5 ∧ (j = 8 ∨ j = 12)) ∨ (16 ≤ b ∧ b ≤ 18)) → M b j = m b j) ∧ kN m M ∧ ∀ Q : Option km_V → km_Al → km_Mm → Prop, (km_E M_X1_readNow [.inr (.inr 5)] (km_A0 q c s) m Q ↔ Q none (km_A0 q c s) M) := by
  obtain ⟨b1, b2, b3, b4, -, -⟩ := id hb
  refine ⟨km_alv (m 5 1).toNat 0 (km_up (km_read (m 5 3) m) 5 12 0), fun b j h => ?_, ⟨?_, fun i i0 i1 => ?_, fun a a0 a1 => ⟨?_, ?_⟩, ?_⟩, fun Q => r_readNow ⟨b1.1, b1.2.1⟩ ⟨b3.1, b3.2.1⟩ b4 Q⟩
  · have : ¬ (b = 5 ∧ j = 12) ∧ b ≠ 16 ∧ b ≠ 17 ∧ b ≠ 18 ∧ ¬ (b = 5 ∧ j = 8) := by omega
    rw [km_alv_at this.1, km_up_ne this.1, km_read_at this.2.1 this.2.2.1 this.2.2.2.1 this.2.2.2.2]
  · rw [km_alv_at (by omega), km_up_ne (by omega), km_read_8]
  · rw [km_alv_at (by omega), km_up_ne (by omega)]
  · rw [km_alv_at (by omega), km_up_ne (by omega)]
  · rw [km_alv_at (by omega), km_up_ne (by omega)]
  · obtain ⟨i1, i2⟩ := km_alv_bits (m 5 1).toNat 0 (km_up (km_read (m 5 3) m) 5 12 0) (by omega) (by omega) (by rw [km_upx_s]; exact ten_0)
    refine ⟨i1, fun k k0 => ?_⟩
    rw [i2 k k0, km_upx_s, tb_zero, km_up_o (by decide), km_upx_i (by decide), km_up_o (by decide), @km_read_at (m 5 3) 5 2 m (by decide) (by decide) (by decide) (by omega)]
    unfold kA kL
    constructor
    · rintro (w | ⟨w1, w2, w3⟩)
      · cases w
      · exact ⟨by omega, w3⟩
    · rintro ⟨w1, w2⟩
      exact Or.inr ⟨by omega, by omega, w2⟩
theorem cl_regretOf2 (hN : kN m M) (hj : ∀ b j : Int, (b = 5 ∧ j = 1) ∨ (23 ≤ b ∧ b ≤ 28) → M b j = m b j) (h10 : m 5 1 ≤ 10) (o0 : 0 ≤ o) (o1 : o < 6) (k0 : 0 ≤ k) (k1 : k < m 5 1) (Q : Option km_V → km_Al → km_Mm → Prop) : km_E M_X6_regretOf [.inr (.inr 19), .inl o, .inl k] (km_A0 q c s) M Q ↔ Q (some (.inl (kQ m o k))) (km_A0 q c s) M := by
  rw [sp_regretOf o0 o1]
  obtain ⟨-, -, -, h4, h5⟩ := hN
  have hb := ks_bit0 (x := M 5 12) (k := k) h4.1 (by have := h4.2; omega) k0 (by omega)
  have e : M (23 + o) k = m (23 + o) k := hj _ _ (by omega)
  unfold kQ
  by_cases z : kA m k
  · have t := (h5 k k0).mpr ⟨k1, z⟩
    rw [if_pos z, if_pos ⟨k0, by omega, fun w => by rw [hb.mp w] at t; cases t⟩, e]
  · have t : tb (M 5 12) k = false := by cases e : tb (M 5 12) k; rfl; exact absurd ((h5 k k0).mp e).2 z
    rw [if_neg z, if_neg (fun w => w.2.2 (hb.mpr t))]
theorem lp_whoCan2_4 {q : Nat × Int × Int × Int × Int} {c s : Nat} {o : Int} {m M : km_Mm} (hN : kN m M) (hj : ∀ b j : Int, (b = 5 ∧ j = 1) ∨ (23 ≤ b ∧ b ≤ 28) → M b j = m b j) (hk : 0 ≤ m 5 1 ∧ m 5 1 ≤ 10) (o0 : 0 ≤ o) (o1 : o < 6) {Q : Option km_V → km_Al → km_Mm → Prop} : ∀ (n : Nat) (i : Nat), (i : Int) + n = m 5 1 → (km_G M_X6_whoCan 4 [some (.inr (.inr 19)), some (.inl o), some (.inl (kset (kC m o) i)), some (.inl ((i : Int)))] [] (km_A0 q c s) (M) Q ↔ Q (some (.inl ((kset (kC m o) (m 5 1).toNat)))) (km_A0 q c s) (M)) := by
  intro n
  induction n with
  | zero =>
    intro i h0
    have e1 : M 5 1 = m 5 1 := hj 5 1 (by omega)
    have e2 : i = (m 5 1).toNat := by omega
    subst e2
    have e3 : m 5 1 ≤ ((m 5 1).toNat : Int) := by omega
    rw [g_X6_whoCan_4]
    simp (config := { decide := true }) (disch := first | decide | assumption | omega | (simp (config := { decide := true }) only [km_sr_sf, km_sr_of, km_up_of, km_up_o, km_upx_i, km_upx_s, km_fl2_o, ne_eq, not_true_eq_false, not_false_eq_true] <;> omega) | fail) only [g_X6_whoCan, e1, e3, Int.add_sub_cancel, true_or, or_true, false_or, or_false, false_and, and_false, if_true, if_false, ka_lo, ka_hi, ka_nn, km_sr_sf, km_sr_of, km_up_of, km_sr_us, km_sr_uo, km_sr_sr, km_sr_fl, km_sr_flo, km_up_up, km_up_lt, km_lay, km_unL, km_up_o, km_upx_i, km_upx_s, km_fl2_o, km_is, Option.some.injEq, Sum.inl.injEq, Sum.inr.injEq, Option.toList_some, Option.toList_none, List.cons_append, List.nil_append, ne_eq, true_and, and_true, and_self, not_true_eq_false, not_false_eq_true, true_implies, false_implies, reduceCtorEq]
    all_goals grind
  | succ n ih =>
    intro i h0
    have e1 : M 5 1 = m 5 1 := hj 5 1 (by omega)
    have e3 : ¬ m 5 1 ≤ (i : Int) := by omega
    have rg := fun Q => @cl_regretOf2 q c s m M o i hN hj hk.2 o0 o1 (by omega) (by omega) Q
    have i1 := ih (i + 1) (by omega)
    have e4 : ((i + 1 : Nat) : Int) = (i : Int) + 1 := by omega
    rw [e4] at i1
    rw [g_X6_whoCan_4]
    by_cases z : kC m o i
    · have u : kset (kC m o) (i + 1) = km_or (kset (kC m o) i) (km_shl 1 i) := kset_yes z
      rw [u] at i1
      unfold kC at z
      simp (config := { decide := true }) (disch := first | decide | assumption | omega | (simp (config := { decide := true }) only [km_sr_sf, km_sr_of, km_up_of, km_up_o, km_upx_i, km_upx_s, km_fl2_o, ne_eq, not_true_eq_false, not_false_eq_true] <;> omega) | fail) only [g_X6_whoCan, e1, e3, rg, i1, ka_lt, ka_le, ka_nlt, ka_nle, ka_ne, ka_eq, Int.add_sub_cancel, true_or, or_true, false_or, or_false, false_and, and_false, if_true, if_false, ka_lo, ka_hi, ka_nn, km_sr_sf, km_sr_of, km_up_of, km_sr_us, km_sr_uo, km_sr_sr, km_sr_fl, km_sr_flo, km_up_up, km_up_lt, km_lay, km_unL, km_up_o, km_upx_i, km_upx_s, km_fl2_o, km_is, Option.some.injEq, Sum.inl.injEq, Sum.inr.injEq, Option.toList_some, Option.toList_none, List.cons_append, List.nil_append, ne_eq, true_and, and_true, and_self, not_true_eq_false, not_false_eq_true, true_implies, false_implies, reduceCtorEq]
    · have u : kset (kC m o) (i + 1) = kset (kC m o) i := kset_no z
      rw [u] at i1
      unfold kC at z
      simp (config := { decide := true }) (disch := first | decide | assumption | omega | (simp (config := { decide := true }) only [km_sr_sf, km_sr_of, km_up_of, km_up_o, km_upx_i, km_upx_s, km_fl2_o, ne_eq, not_true_eq_false, not_false_eq_true] <;> omega) | fail) only [g_X6_whoCan, e1, e3, rg, i1, ka_lt, ka_le, ka_nlt, ka_nle, ka_ne, ka_eq, Int.add_sub_cancel, true_or, or_true, false_or, or_false, false_and, and_false, if_true, if_false, ka_lo, ka_hi, ka_nn, km_sr_sf, km_sr_of, km_up_of, km_sr_us, km_sr_uo, km_sr_sr, km_sr_fl, km_sr_flo, km_up_up, km_up_lt, km_lay, km_unL, km_up_o, km_upx_i, km_upx_s, km_fl2_o, km_is, Option.some.injEq, Sum.inl.injEq, Sum.inr.injEq, Option.toList_some, Option.toList_none, List.cons_append, List.nil_append, ne_eq, true_and, and_true, and_self, not_true_eq_false, not_false_eq_true, true_implies, false_implies, reduceCtorEq]
theorem r_whoCan2 (hN : kN m M) (hj : ∀ b j : Int, (b = 5 ∧ j = 1) ∨ (23 ≤ b ∧ b ≤ 28) → M b j = m b j) (hk : 0 ≤ m 5 1 ∧ m 5 1 ≤ 10) (o0 : 0 ≤ o) (o1 : o < 6) (Q : Option km_V → km_Al → km_Mm → Prop) : km_E M_X6_whoCan [.inr (.inr 19), .inl o] (km_A0 q c s) M Q ↔ Q (some (.inl (kset (kC m o) (m 5 1).toNat))) (km_A0 q c s) M := by
  have h := @lp_whoCan2_4 q c s o m M hN hj hk o0 o1 Q (m 5 1).toNat 0 (by omega)
  have e : kset (kC m o) 0 = 0 := rfl
  rw [e] at h
  rw [e_X6_whoCan]
  simp (config := { decide := true }) only [g_X6_whoCan, Int.add_sub_cancel, true_or, or_true, false_or, or_false, false_and, and_false, if_true, if_false, km_sr_sf, km_sr_of, km_up_of, km_sr_us, km_sr_uo, km_sr_sr, km_sr_fl, km_sr_flo, km_up_up, km_up_lt, km_lay, km_unL, km_up_o, km_upx_i, km_upx_s, km_fl2_o, km_is, Option.some.injEq, Sum.inl.injEq, Sum.inr.injEq, Option.toList_some, Option.toList_none, List.cons_append, List.nil_append, ne_eq, true_and, and_true, and_self, not_true_eq_false, not_false_eq_true, true_implies, false_implies, reduceCtorEq]
  exact h
/-- the class meets at an OPTION -/
theorem c_meet (h : kI0 N m) (hX : km_jk m X) (rX : X 52 = m 52) (ha : 0 ≤ a ∧ a < m 19 1) : ∃ C : km_Mm, (∀ d j : Int, ¬ kJ d j → ¬ (d = 100 ∧ (j = 0 ∨ j = 1)) → C d j = m d j) ∧ C 52 = m 52 ∧ (∀ d j : Int, 123 ≤ d → C d j = X d j) ∧ (C 100 0 = a ∧ C 100 1 = kset (kC m a) (m 5 1).toNat) ∧ ∀ Q : Option km_V → km_Al → km_Mm → Prop, km_G M_X11_meet 26 [some (.inr (.inr 0)), some (.inl o), some (.inl a)] [] (km_A0 q c s) X Q ↔ Q (some (.inl (kcnt (kC m a) (m 5 1).toNat))) (km_A0 q c s) C := by
  have f1 := h.1.1
  have f4 := h.2.2.2.1.1
  have hbX : kI_book X := kI_book_jk h.1 hX
  have X51 : X 5 1 = m 5 1 := hX 5 1 (by unfold kJ; omega)
  have X19 : X 19 1 = m 19 1 := hX 19 1 (by unfold kJ; omega)
  obtain ⟨M, m1, m2, m3⟩ := @cl_now2 q c s X hbX
  have ks := kset_ten (P := kC m a) (m 5 1).toNat (by omega)
  have kp := kset_pop (P := kC m a) (m 5 1).toNat (by omega)
  have bc := fun mm Q => @sp_bitCount _ ks.1 ks.2 (km_A0 q c s) mm Q
  rw [kp] at bc
  have wc := fun Q => @r_whoCan2 q c s X (km_up M 100 0 a) a (kN_cg m2 (fun b j hb => km_up_ne (by omega))) (fun b j hb => (km_up_ne (by omega)).trans (m1 b j (by omega))) (by rw [X51]; omega) ha.1 (by omega) Q
  rw [X51, ← kset_cong (m 5 1).toNat (fun k k0 k1 => @kC_bk m X a k h.1 (fun b j f => hX b j (by unfold fB at f; unfold kJ; omega)) (hX _ _ (by unfold kJ; omega)) k0 (by omega))] at wc
  refine ⟨km_up (km_up M 100 0 a) 100 1 (kset (kC m a) (m 5 1).toNat), fun d j z1 z2 => ?_, ?_, fun d j z => ?_, ⟨?_, ?_⟩, fun Q => ?_⟩
  · rw [km_up_ne (fun w => z2 (by omega)), km_up_ne (fun w => z2 (by omega)), m1 d j (fun w => z1 (by unfold kJ; omega))]
    exact hX d j z1
  · rw [← rX]
    funext j
    rw [km_up_ne (by omega), km_up_ne (by omega), m1 52 j (by omega)]
  · rw [km_up_ne (by omega), km_up_ne (by omega), m1 d j (by omega)]
  · rw [km_up_ne (by omega), km_upx_s]
  · rw [km_upx_s]
  · have X19M : M 19 1 = m 19 1 := (m1 19 1 (by omega)).trans X19
    simp (config := { decide := true }) (disch := first | decide | assumption | omega | (simp (config := { decide := true }) only [km_sr_sf, km_sr_of, km_up_of, km_up_o, km_upx_i, km_upx_s, km_fl2_o, ne_eq, not_true_eq_false, not_false_eq_true] <;> omega) | fail) only [g_X11_meet, r_ohas, X19, ha, m3, wc, bc, ka_lt, ka_le, ka_nlt, ka_nle, ka_ne, ka_eq, Int.add_sub_cancel, true_or, or_true, false_or, or_false, false_and, and_false, if_true, if_false, ka_lo, ka_hi, ka_nn, km_sr_sf, km_sr_of, km_up_of, km_sr_us, km_sr_uo, km_sr_sr, km_sr_fl, km_sr_flo, km_up_up, km_up_lt, km_lay, km_unL, km_up_o, km_upx_i, km_upx_s, km_fl2_o, km_is, Option.some.injEq, Sum.inl.injEq, Sum.inr.injEq, Option.toList_some, Option.toList_none, List.cons_append, List.nil_append, ne_eq, true_and, and_true, and_self, not_true_eq_false, not_false_eq_true, true_implies, false_implies, reduceCtorEq]
/-- the reference's memory once it meets -/
def kMt (m Y Z : km_Mm) (a : Int) : Prop := (∀ d j : Int, d < 123 → Z d j = Y d j) ∧ (∀ d j : Int, 123 ≤ d → ¬ kJ d j → ¬ (d = 123 ∧ (j = 80 ∨ j = 81 ∨ j = 82 ∨ j = 91)) → ¬ (d = 166 ∨ d = 169 ∨ d = 170) → Z d j = m d j) ∧ (Z 123 80 = 1 ∧ Z 123 81 = a ∧ Z 123 82 = kset (kC m a) (m 5 1).toNat ∧ Z 123 91 = 0) ∧ (∀ j : Int, 0 ≤ j → j < 100 → Z 169 j = 0) ∧ ∀ j : Int, 0 ≤ j → j < 10 → Z 166 j = -1 ∧ Z 170 j = 0
theorem m_meet1 (ht : ten (Y 123 82)) : ∀ (n : Nat) (i : Int) (Y' : km_Mm), Y' 123 82 = Y 123 82 → 0 ≤ i → i + n = 10 → ∃ Z : km_Mm, (∀ d j : Int, ¬ ((d = 166 ∨ d = 170) ∧ i ≤ j ∧ j < 10) → Z d j = Y' d j) ∧ (∀ j : Int, i ≤ j → j < 10 → Z 166 j = -1 ∧ Z 170 j = 0) ∧ ∀ Q : Option km_V → km_Al → km_Mm → Prop, km_G M_X12_meet 131 [some (.inr (.inr 123)), some (.inl o), some (.inl a), some (.inl i)] [] (km_A0 q c s) Y' Q ↔ Q (some (.inl (km_pop (Y 123 82)))) (km_A0 q c s) Z := by
  have bc := fun mm Q => @r_bits q c s _ mm ht Q
  intro n
  induction n with
  | zero =>
    intro i Y' e i0 hi
    have z : ¬ i < 10 := by omega
    refine ⟨Y', fun _ _ _ => rfl, fun j j0 j1 => absurd j1 (by omega), fun Q => ?_⟩
    rw [g_X12_meet_131]
    simp (config := { decide := true }) (disch := first | decide | assumption | omega | (simp (config := { decide := true }) only [km_sr_sf, km_sr_of, km_up_of, km_up_o, km_upx_i, km_upx_s, km_fl2_o, ne_eq, not_true_eq_false, not_false_eq_true] <;> omega) | fail) only [g_X12_meet, z, e, bc, ka_lt, ka_le, ka_nlt, ka_nle, ka_ne, ka_eq, Int.add_sub_cancel, true_or, or_true, false_or, or_false, false_and, and_false, if_true, if_false, ka_lo, ka_hi, ka_nn, km_sr_sf, km_sr_of, km_up_of, km_sr_us, km_sr_uo, km_sr_sr, km_sr_fl, km_sr_flo, km_up_up, km_up_lt, km_lay, km_unL, km_up_o, km_upx_i, km_upx_s, km_fl2_o, km_is, Option.some.injEq, Sum.inl.injEq, Sum.inr.injEq, Option.toList_some, Option.toList_none, List.cons_append, List.nil_append, ne_eq, true_and, and_true, and_self, not_true_eq_false, not_false_eq_true, true_implies, false_implies, reduceCtorEq]
  | succ n ih =>
    intro i Y' e i0 hi
    have z : i < 10 := by omega
    obtain ⟨Z, z1, z2, z3⟩ := ih (i + 1) (km_up (km_up Y' 166 i (-1)) 170 i 0) (by rw [km_up_ne (by omega), km_up_ne (by omega)]; exact e) (by omega) (by omega)
    refine ⟨Z, fun d j w => ?_, fun j j0 j1 => ?_, fun Q => ?_⟩
    · rw [z1 d j (fun v => w (by omega)), km_up_ne (fun v => w (by omega)), km_up_ne (fun v => w (by omega))]
    · by_cases y : j = i
      · subst y
        rw [z1 166 j (by omega), z1 170 j (by omega), km_upx_s, km_up_ne (by omega), km_upx_s]
        exact ⟨rfl, rfl⟩
      · exact z2 j (by omega) j1
    · rw [← z3 Q, g_X12_meet_131]
      simp (config := { decide := true }) (disch := first | decide | assumption | omega | (simp (config := { decide := true }) only [km_sr_sf, km_sr_of, km_up_of, km_up_o, km_upx_i, km_upx_s, km_fl2_o, ne_eq, not_true_eq_false, not_false_eq_true] <;> omega) | fail) only [g_X12_meet, z, i0, ka_lt, ka_le, ka_nlt, ka_nle, ka_ne, ka_eq, Int.add_sub_cancel, true_or, or_true, false_or, or_false, false_and, and_false, if_true, if_false, ka_lo, ka_hi, ka_nn, km_sr_sf, km_sr_of, km_up_of, km_sr_us, km_sr_uo, km_sr_sr, km_sr_fl, km_sr_flo, km_up_up, km_up_lt, km_lay, km_unL, km_up_o, km_upx_i, km_upx_s, km_fl2_o, km_is, Option.some.injEq, Sum.inl.injEq, Sum.inr.injEq, Option.toList_some, Option.toList_none, List.cons_append, List.nil_append, ne_eq, true_and, and_true, and_self, not_true_eq_false, not_false_eq_true, true_implies, false_implies, reduceCtorEq]
theorem m_meet2 : ∀ (n : Nat) (i : Int) (Y : km_Mm), 0 ≤ i → i + n = 100 → ∃ Z : km_Mm, (∀ d j : Int, ¬ (d = 169 ∧ i ≤ j ∧ j < 100) → Z d j = Y d j) ∧ (∀ j : Int, i ≤ j → j < 100 → Z 169 j = 0) ∧ ∀ Q : Option km_V → km_Al → km_Mm → Prop, km_G M_X12_meet 110 [some (.inr (.inr 123)), some (.inl o), some (.inl a), some (.inl i)] [] (km_A0 q c s) Y Q ↔ km_G M_X12_meet 131 [some (.inr (.inr 123)), some (.inl o), some (.inl a), some (.inl 0)] [] (km_A0 q c s) Z Q := by
  intro n
  induction n with
  | zero =>
    intro i Y i0 hi
    have z : ¬ i < 100 := by omega
    refine ⟨Y, fun _ _ _ => rfl, fun j j0 j1 => absurd j1 (by omega), fun Q => ?_⟩
    rw [g_X12_meet_110]
    simp (config := { decide := true }) (disch := first | decide | assumption | omega | (simp (config := { decide := true }) only [km_sr_sf, km_sr_of, km_up_of, km_up_o, km_upx_i, km_upx_s, km_fl2_o, ne_eq, not_true_eq_false, not_false_eq_true] <;> omega) | fail) only [g_X12_meet, z, ka_lt, ka_le, ka_nlt, ka_nle, ka_ne, ka_eq, Int.add_sub_cancel, true_or, or_true, false_or, or_false, false_and, and_false, if_true, if_false, ka_lo, ka_hi, ka_nn, km_sr_sf, km_sr_of, km_up_of, km_sr_us, km_sr_uo, km_sr_sr, km_sr_fl, km_sr_flo, km_up_up, km_up_lt, km_lay, km_unL, km_up_o, km_upx_i, km_upx_s, km_fl2_o, km_is, Option.some.injEq, Sum.inl.injEq, Sum.inr.injEq, Option.toList_some, Option.toList_none, List.cons_append, List.nil_append, ne_eq, true_and, and_true, and_self, not_true_eq_false, not_false_eq_true, true_implies, false_implies, reduceCtorEq]
  | succ n ih =>
    intro i Y i0 hi
    have z : i < 100 := by omega
    obtain ⟨Z, z1, z2, z3⟩ := ih (i + 1) (km_up Y 169 i 0) (by omega) (by omega)
    refine ⟨Z, fun d j w => ?_, fun j j0 j1 => ?_, fun Q => ?_⟩
    · rw [z1 d j (fun v => w (by omega)), km_up_ne (fun v => w (by omega))]
    · by_cases y : j = i
      · subst y
        rw [z1 169 j (by omega), km_upx_s]
      · exact z2 j (by omega) j1
    · rw [← z3 Q, g_X12_meet_110]
      simp (config := { decide := true }) (disch := first | decide | assumption | omega | (simp (config := { decide := true }) only [km_sr_sf, km_sr_of, km_up_of, km_up_o, km_upx_i, km_upx_s, km_fl2_o, ne_eq, not_true_eq_false, not_false_eq_true] <;> omega) | fail) only [g_X12_meet, z, i0, ka_lt, ka_le, ka_nlt, ka_nle, ka_ne, ka_eq, Int.add_sub_cancel, true_or, or_true, false_or, or_false, false_and, and_false, if_true, if_false, ka_lo, ka_hi, ka_nn, km_sr_sf, km_sr_of, km_up_of, km_sr_us, km_sr_uo, km_sr_sr, km_sr_fl, km_sr_flo, km_up_up, km_up_lt, km_lay, km_unL, km_up_o, km_upx_i, km_upx_s, km_fl2_o, km_is, Option.some.injEq, Sum.inl.injEq, Sum.inr.injEq, Option.toList_some, Option.toList_none, List.cons_append, List.nil_append, ne_eq, true_and, and_true, and_self, not_true_eq_false, not_false_eq_true, true_implies, false_implies, reduceCtorEq]
theorem m_meet3 (h : kI0 N m) (hY : kMj m Y) (ha : 0 ≤ a ∧ a < m 19 1) : ∀ (n i : Nat) (f : Int → Int), (i : Int) + n = m 5 1 → ∃ g : Int → Int, ∀ Q : Option km_V → km_Al → km_Mm → Prop, km_G M_X12_meet 59 [some (.inr (.inr 123)), some (.inl o), some (.inl a), some (.inl (i : Int))] [] (km_A0 q c s) (km_sr (km_up (km_up Y 123 81 a) 123 82 (kset (kC m a) i)) 130 f) Q ↔ km_G M_X12_meet 110 [some (.inr (.inr 123)), some (.inl o), some (.inl a), some (.inl 0)] [] (km_A0 q c s) (km_up (km_up (km_sr (km_up (km_up Y 123 81 a) 123 82 (kset (kC m a) (m 5 1).toNat)) 130 g) 123 80 1) 123 91 0) Q := by
  have f1 := h.1.1
  have f4 := h.2.2.2.1.1
  have Y3 : Y 123 3 = m 5 1 := (hY 123 3 (by decide) (by unfold kJ; omega)).trans f1.2.2
  intro n
  induction n with
  | zero =>
    intro i f hi
    have e2 : i = (m 5 1).toNat := by omega
    subst e2
    have e3 : m 5 1 ≤ ((m 5 1).toNat : Int) := by omega
    refine ⟨f, fun Q => ?_⟩
    rw [g_X12_meet_59]
    simp (config := { decide := true }) (disch := first | decide | assumption | omega | (simp (config := { decide := true }) only [km_sr_sf, km_sr_of, km_up_of, km_up_o, km_upx_i, km_upx_s, km_fl2_o, ne_eq, not_true_eq_false, not_false_eq_true] <;> omega) | fail) only [g_X12_meet, Y3, e3, ka_lt, ka_le, ka_nlt, ka_nle, ka_ne, ka_eq, Int.add_sub_cancel, true_or, or_true, false_or, or_false, false_and, and_false, if_true, if_false, ka_lo, ka_hi, ka_nn, km_sr_sf, km_sr_of, km_up_of, km_sr_us, km_sr_uo, km_sr_sr, km_sr_fl, km_sr_flo, km_up_up, km_up_lt, km_lay, km_unL, km_up_o, km_upx_i, km_upx_s, km_fl2_o, km_is, Option.some.injEq, Sum.inl.injEq, Sum.inr.injEq, Option.toList_some, Option.toList_none, List.cons_append, List.nil_append, ne_eq, true_and, and_true, and_self, not_true_eq_false, not_false_eq_true, true_implies, false_implies, reduceCtorEq]
  | succ n ih =>
    intro i f hi
    have e3 : ¬ m 5 1 ≤ (i : Int) := by omega
    have e4 : ((i + 1 : Nat) : Int) = (i : Int) + 1 := by omega
    have i31 : (i : Int) < 31 := by omega
    obtain ⟨m2, d2⟩ : ∃ m2 : km_Mm, m2 = km_up (km_up m 123 81 a) 123 82 (kset (kC m a) i) := ⟨_, rfl⟩
    have n2 : ∀ d j : Int, ¬ (d = 123 ∧ (j = 81 ∨ j = 82)) → m2 d j = m d j := fun d j z => by rw [d2, km_up_ne (fun w => z (by omega)), km_up_ne (fun w => z (by omega))]
    have kb : kbk m m2 := fun d j z => n2 d j (by unfold fB at z; omega)
    have j2 : kMj m2 (km_up (km_up Y 123 81 a) 123 82 (kset (kC m a) i)) := fun d j z1 z2 => by
      rw [d2]
      unfold km_up
      rw [hY d j z1 z2]
    have hb2 : kI_book m2 := kB_cg h.1 kb
    have hO2 : kI_opt m2 := kO_cg h.2.2.2.1 (fun d j z => n2 d j (by unfold fO at z; omega))
    have e51 : m2 5 1 = m 5 1 := n2 5 1 (by omega)
    have e19 : m2 19 1 = m 19 1 := n2 19 1 (by omega)
    obtain ⟨g1, cc⟩ := @md_canCome q c s m2 (km_sr (km_up (km_up Y 123 81 a) 123 82 (kset (kC m a) i)) 130 f) a i hb2 hO2 (kMj_sr j2) ha.1 (by omega) (by omega) (by omega)
    have ck := @kC_bk m m2 a i h.1 kb (n2 _ _ (by omega)) (by omega) (by omega)
    obtain ⟨g, i1⟩ := ih (i + 1) g1 (by omega)
    rw [e4] at i1
    refine ⟨g, fun Q => ?_⟩
    rw [g_X12_meet_59]
    by_cases z : kC m a i
    · rw [kset_yes z] at i1
      have z2 := ck.mp z
      simp (config := { decide := true }) (disch := first | decide | assumption | omega | (simp (config := { decide := true }) only [km_sr_sf, km_sr_of, km_up_of, km_up_o, km_upx_i, km_upx_s, km_fl2_o, ne_eq, not_true_eq_false, not_false_eq_true] <;> omega) | fail) only [g_X12_meet, Y3, e3, cc, z2, i1, ka_lt, ka_le, ka_nlt, ka_nle, ka_ne, ka_eq, Int.add_sub_cancel, true_or, or_true, false_or, or_false, false_and, and_false, if_true, if_false, ka_lo, ka_hi, ka_nn, km_sr_sf, km_sr_of, km_up_of, km_sr_us, km_sr_uo, km_sr_sr, km_sr_fl, km_sr_flo, km_up_up, km_up_lt, km_lay, km_unL, km_up_o, km_upx_i, km_upx_s, km_fl2_o, km_is, Option.some.injEq, Sum.inl.injEq, Sum.inr.injEq, Option.toList_some, Option.toList_none, List.cons_append, List.nil_append, ne_eq, true_and, and_true, and_self, not_true_eq_false, not_false_eq_true, true_implies, false_implies, reduceCtorEq]
    · rw [kset_no z] at i1
      have z2 : ¬ kC m2 a i := fun w => z (ck.mpr w)
      have t0 := kset_ten (P := kC m a) i (by omega)
      have o0 := @km_or_0 (kset (kC m a) i) t0.1 (by have := t0.2; omega)
      simp (config := { decide := true }) (disch := first | decide | assumption | omega | (simp (config := { decide := true }) only [km_sr_sf, km_sr_of, km_up_of, km_up_o, km_upx_i, km_upx_s, km_fl2_o, ne_eq, not_true_eq_false, not_false_eq_true] <;> omega) | fail) only [g_X12_meet, Y3, e3, cc, z2, i1, o0, ka_lt, ka_le, ka_nlt, ka_nle, ka_ne, ka_eq, Int.add_sub_cancel, true_or, or_true, false_or, or_false, false_and, and_false, if_true, if_false, ka_lo, ka_hi, ka_nn, km_sr_sf, km_sr_of, km_up_of, km_sr_us, km_sr_uo, km_sr_sr, km_sr_fl, km_sr_flo, km_up_up, km_up_lt, km_lay, km_unL, km_up_o, km_upx_i, km_upx_s, km_fl2_o, km_is, Option.some.injEq, Sum.inl.injEq, Sum.inr.injEq, Option.toList_some, Option.toList_none, List.cons_append, List.nil_append, ne_eq, true_and, and_true, and_self, not_true_eq_false, not_false_eq_true, true_implies, false_implies, reduceCtorEq]
theorem m_meet (h : kI0 N m) (hY : kMj m Y) (ha : 0 ≤ a ∧ a < m 19 1) : ∃ Z : km_Mm, kMt m Y Z a ∧ ∀ Q : Option km_V → km_Al → km_Mm → Prop, km_G M_X12_meet 47 [some (.inr (.inr 123)), some (.inl o), some (.inl a), none] [] (km_A0 q c s) Y Q ↔ Q (some (.inl (kcnt (kC m a) (m 5 1).toNat))) (km_A0 q c s) Z := by
  have f1 := h.1.1
  have ks := kset_ten (P := kC m a) (m 5 1).toNat (by omega)
  have kp := kset_pop (P := kC m a) (m 5 1).toNat (by omega)
  obtain ⟨g, w3⟩ := @m_meet3 q c s m Y N o a h hY ha (m 5 1).toNat 0 (Y 130) (by omega)
  obtain ⟨Y1, d1⟩ : ∃ Y1 : km_Mm, Y1 = km_up (km_up (km_sr (km_up (km_up Y 123 81 a) 123 82 (kset (kC m a) (m 5 1).toNat)) 130 g) 123 80 1) 123 91 0 := ⟨_, rfl⟩
  rw [← d1] at w3
  obtain ⟨Y2, x1, x2, x3⟩ := @m_meet2 q c s o a 100 0 Y1 (by decide) (by decide)
  have e82 : Y1 123 82 = kset (kC m a) (m 5 1).toNat := by rw [d1, km_up_ne (by omega), km_up_ne (by omega), km_sr_ne (by decide), km_upx_s]
  have e82' : Y2 123 82 = kset (kC m a) (m 5 1).toNat := (x1 123 82 (by omega)).trans e82
  obtain ⟨Z, y1, y2, y3⟩ := @m_meet1 q c s Y2 o a (by rw [e82']; exact ks) 10 0 Y2 rfl (by decide) (by decide)
  rw [e82', kp] at y3
  have n1 : ∀ d j : Int, d ≠ 130 → ¬ (d = 123 ∧ (j = 80 ∨ j = 81 ∨ j = 82 ∨ j = 91)) → Y1 d j = Y d j := fun d j z1 z2 => by rw [d1, km_up_ne (fun w => z2 (by omega)), km_up_ne (fun w => z2 (by omega)), km_sr_ne z1, km_up_ne (fun w => z2 (by omega)), km_up_ne (fun w => z2 (by omega))]
  refine ⟨Z, ⟨fun d j z => ?_, fun d j z1 z2 z3 z4 => ?_, ⟨?_, ?_, ?_, ?_⟩, fun j j0 j1 => ?_, fun j j0 j1 => y2 j j0 j1⟩, fun Q => ?_⟩
  · rw [y1 d j (by omega), x1 d j (by omega), n1 d j (by omega) (by omega)]
  · rw [y1 d j (by omega), x1 d j (by omega), n1 d j (fun w => z2 (by unfold kJ; omega)) z3]
    exact hY d j z1 z2
  · rw [y1 _ _ (by omega), x1 _ _ (by omega), d1, km_up_ne (by omega), km_upx_s]
  · rw [y1 _ _ (by omega), x1 _ _ (by omega), d1, km_up_ne (by omega), km_up_ne (by omega), km_sr_ne (by decide), km_up_ne (by omega), km_upx_s]
  · rw [y1 _ _ (by omega), e82']
  · rw [y1 _ _ (by omega), x1 _ _ (by omega), d1, km_upx_s]
  · rw [y1 _ _ (by omega)]; exact x2 j j0 j1
  · rw [← y3 Q, ← x3 Q, ← w3 Q]
    have k0 : kset (kC m a) 0 = 0 := rfl
    have k1 : ((0 : Nat) : Int) = 0 := rfl
    have id1 : km_sr (km_up (km_up Y 123 81 a) 123 82 0) 130 (Y 130) = km_up (km_up Y 123 81 a) 123 82 0 := by
      funext d j
      by_cases e : d = 130
      · subst e; rw [km_sr_s, km_up_ne (by omega), km_up_ne (by omega)]
      · rw [km_sr_ne e]
    rw [k0, k1, id1]
    simp (config := { decide := true }) (disch := first | decide | assumption | omega | (simp (config := { decide := true }) only [km_sr_sf, km_sr_of, km_up_of, km_up_o, km_upx_i, km_upx_s, km_fl2_o, ne_eq, not_true_eq_false, not_false_eq_true] <;> omega) | fail) only [g_X12_meet, ka_lt, ka_le, ka_nlt, ka_nle, ka_ne, ka_eq, Int.add_sub_cancel, true_or, or_true, false_or, or_false, false_and, and_false, if_true, if_false, ka_lo, ka_hi, ka_nn, km_sr_sf, km_sr_of, km_up_of, km_sr_us, km_sr_uo, km_sr_sr, km_sr_fl, km_sr_flo, km_up_up, km_up_lt, km_lay, km_unL, km_up_o, km_upx_i, km_upx_s, km_fl2_o, km_is, Option.some.injEq, Sum.inl.injEq, Sum.inr.injEq, Option.toList_some, Option.toList_none, List.cons_append, List.nil_append, ne_eq, true_and, and_true, and_self, not_true_eq_false, not_false_eq_true, true_implies, false_implies, reduceCtorEq]
end FM

