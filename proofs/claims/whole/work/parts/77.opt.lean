/-! ===== sets and counts of kin; options in the class ===== -/
/-- the set of those below n with P -/
noncomputable def kset (P : Int → Prop) : Nat → Int
  | 0 => 0
  | n + 1 => @ite Int (P n) (Classical.propDecidable _) (km_or (kset P n) (km_shl 1 n)) (kset P n)
noncomputable def kcnt (P : Int → Prop) : Nat → Int
  | 0 => 0
  | n + 1 => kcnt P n + @ite Int (P n) (Classical.propDecidable _) 1 0
theorem kset_yes {P : Int → Prop} {n : Nat} (h : P n) : kset P (n + 1) = km_or (kset P n) (km_shl 1 n) := by rw [kset]; rw [if_pos h]
theorem kset_no {P : Int → Prop} {n : Nat} (h : ¬ P n) : kset P (n + 1) = kset P n := by rw [kset]; rw [if_neg h]
theorem kset_ten {P : Int → Prop} : ∀ (n : Nat), n ≤ 10 → ten (kset P n) := by
  intro n
  induction n with
  | zero => intro _; exact ten_0
  | succ n ih =>
    intro h
    unfold kset
    split
    · exact ten_or (ih (by omega)) (ten_one (by omega) (by omega))
    · exact ih (by omega)
theorem kset_tb {P : Int → Prop} : ∀ (n : Nat), n ≤ 10 → ∀ k : Int, 0 ≤ k → (tb (kset P n) k = true ↔ k < n ∧ P k) := by
  intro n
  induction n with
  | zero => intro _ k k0; unfold kset; rw [tb_zero]; constructor; intro h; cases h; intro h; omega
  | succ n ih =>
    intro h k k0
    have t := kset_ten (P := P) n (by omega)
    have t1 := ten_one (k := n) (by omega) (by omega)
    unfold kset
    split
    · next z =>
      rw [tb_or t.1 (by have := t.2; omega) t1.1 (by have := t1.2; omega), tb_one (by omega) (by omega) k0, Bool.or_eq_true, decide_eq_true_eq, ih (by omega) k k0]
      constructor
      · rintro (w | w)
        · exact ⟨by omega, w.2⟩
        · subst w; exact ⟨by omega, z⟩
      · rintro ⟨w1, w2⟩
        by_cases e : k = n
        · exact Or.inr e
        · exact Or.inl ⟨by omega, w2⟩
    · next z =>
      rw [ih (by omega) k k0]
      constructor
      · rintro ⟨w1, w2⟩; exact ⟨by omega, w2⟩
      · rintro ⟨w1, w2⟩
        by_cases e : k = n
        · subst e; exact absurd w2 z
        · exact ⟨by omega, w2⟩
theorem kset_pop {P : Int → Prop} : ∀ (n : Nat), n ≤ 10 → km_pop (kset P n) = kcnt P n := by
  intro n
  induction n with
  | zero => intro _; show km_pop 0 = 0; decide
  | succ n ih =>
    intro h
    unfold kset kcnt
    split
    · have : ¬ tb (kset P n) n = true := fun w => by have := (kset_tb n (by omega) n (by omega)).mp w; omega
      rw [kf_pop (kset_ten n (by omega)) (by omega) (by omega), if_neg this, ih (by omega)]
    · rw [ih (by omega)]; omega
theorem kcnt_b {P : Int → Prop} : ∀ (n : Nat), 0 ≤ kcnt P n ∧ kcnt P n ≤ n := by
  intro n
  induction n with
  | zero => unfold kcnt; omega
  | succ n ih => unfold kcnt; split <;> omega
theorem kcnt_cong {P R : Int → Prop} : ∀ (n : Nat), (∀ k : Int, 0 ≤ k → k < n → (P k ↔ R k)) → kcnt P n = kcnt R n := by
  intro n
  induction n with
  | zero => intro _; rfl
  | succ n ih =>
    intro h
    unfold kcnt
    rw [ih (fun k a b => h k a (by omega))]
    have := h n (by omega) (by omega)
    by_cases z : P n
    · rw [if_pos z, if_pos (this.mp z)]
    · rw [if_neg z, if_neg (fun w => z (this.mpr w))]
/-- the regret of the option o now -/
noncomputable def kQ (m : km_Mm) (o k : Int) : Int := @ite Int (kA m k) (Classical.propDecidable _) (m (23 + o) k) 100
theorem cl_regretOf {q : Nat × Int × Int × Int × Int} {c s : Nat} {m M : km_Mm} {o k : Int} (hN : kN m M) (hj : km_jk m M) (h10 : m 5 1 ≤ 10) (o0 : 0 ≤ o) (o1 : o < 6) (k0 : 0 ≤ k) (k1 : k < m 5 1) (Q : Option km_V → km_Al → km_Mm → Prop) : km_E M_X6_regretOf [.inr (.inr 19), .inl o, .inl k] (km_A0 q c s) M Q ↔ Q (some (.inl (kQ m o k))) (km_A0 q c s) M := by
  rw [sp_regretOf o0 o1]
  obtain ⟨-, -, -, h4, h5⟩ := hN
  have hb := ks_bit0 (x := M 5 12) (k := k) h4.1 (by have := h4.2; omega) k0 (by omega)
  have e : M (23 + o) k = m (23 + o) k := hj _ _ (by unfold kJ; omega)
  unfold kQ
  by_cases z : kA m k
  · have t := (h5 k k0).mpr ⟨k1, z⟩
    rw [if_pos z, if_pos ⟨k0, by omega, fun w => by rw [hb.mp w] at t; cases t⟩, e]
  · have t : tb (M 5 12) k = false := by cases e : tb (M 5 12) k; rfl; exact absurd ((h5 k k0).mp e).2 z
    rw [if_neg z, if_neg (fun w => w.2.2 (hb.mpr t))]
/-- who can come -/
noncomputable def kC (m : km_Mm) (o : Int) : Int → Prop := fun k => kQ m o k < 100
theorem lp_whoCan_4 {q : Nat × Int × Int × Int × Int} {c s : Nat} {o : Int} {m M : km_Mm} (hN : kN m M) (hj : km_jk m M) (hk : 0 ≤ m 5 1 ∧ m 5 1 ≤ 10) (o0 : 0 ≤ o) (o1 : o < 6) {Q : Option km_V → km_Al → km_Mm → Prop} : ∀ (n : Nat) (i : Nat), (i : Int) + n = m 5 1 → (km_G M_X6_whoCan 4 [some (.inr (.inr 19)), some (.inl o), some (.inl (kset (kC m o) i)), some (.inl ((i : Int)))] [] (km_A0 q c s) (M) Q ↔ Q (some (.inl ((kset (kC m o) (m 5 1).toNat)))) (km_A0 q c s) (M)) := by
  intro n
  induction n with
  | zero =>
    intro i h0
    have e1 : M 5 1 = m 5 1 := hj 5 1 (by unfold kJ; omega)
    have e2 : i = (m 5 1).toNat := by omega
    subst e2
    have e3 : m 5 1 ≤ ((m 5 1).toNat : Int) := by omega
    rw [g_X6_whoCan_4]
    simp (config := { decide := true }) (disch := first | decide | assumption | omega | (simp (config := { decide := true }) only [km_sr_sf, km_sr_of, km_up_of, km_up_o, km_upx_i, km_upx_s, km_fl2_o, ne_eq, not_true_eq_false, not_false_eq_true] <;> omega) | fail) only [g_X6_whoCan, e1, e3, Int.add_sub_cancel, true_or, or_true, false_or, or_false, false_and, and_false, if_true, if_false, ka_lo, ka_hi, ka_nn, km_sr_sf, km_sr_of, km_up_of, km_sr_us, km_sr_uo, km_sr_sr, km_sr_fl, km_sr_flo, km_up_up, km_up_lt, km_lay, km_unL, km_up_o, km_upx_i, km_upx_s, km_fl2_o, km_is, Option.some.injEq, Sum.inl.injEq, Sum.inr.injEq, Option.toList_some, Option.toList_none, List.cons_append, List.nil_append, ne_eq, true_and, and_true, and_self, not_true_eq_false, not_false_eq_true, true_implies, false_implies, reduceCtorEq]
    all_goals grind
  | succ n ih =>
    intro i h0
    have e1 : M 5 1 = m 5 1 := hj 5 1 (by unfold kJ; omega)
    have e3 : ¬ m 5 1 ≤ (i : Int) := by omega
    have rg := fun Q => @cl_regretOf q c s m M o i hN hj hk.2 o0 o1 (by omega) (by omega) Q
    have i1 := ih (i + 1) (by omega)
    have e4 : ((i + 1 : Nat) : Int) = (i : Int) + 1 := by omega
    rw [e4] at i1
    rw [g_X6_whoCan_4]
    by_cases z : kC m o i
    · have u : kset (kC m o) (i + 1) = km_or (kset (kC m o) i) (km_shl 1 i) := kset_yes z
      rw [u] at i1
      unfold kC at z
      simp (config := { decide := true }) (disch := first | decide | assumption | omega | (simp (config := { decide := true }) only [km_sr_sf, km_sr_of, km_up_of, km_up_o, km_upx_i, km_upx_s, km_fl2_o, ne_eq, not_true_eq_false, not_false_eq_true] <;> omega) | fail) only [g_X6_whoCan, e1, e3, rg, i1, ka_lt, ka_le, ka_nlt, ka_nle, ka_ne, ka_eq, Int.add_sub_cancel, true_or, or_true, false_or, or_false, false_and, and_false, if_true, if_false, ka_lo, ka_hi, ka_nn, km_sr_sf, km_sr_of, km_up_of, km_sr_us, km_sr_uo, km_sr_sr, km_sr_fl, km_sr_flo, km_up_up, km_up_lt, km_lay, km_unL, km_up_o, km_upx_i, km_upx_s, km_fl2_o, km_is, Option.some.injEq, Sum.inl.injEq, Sum.inr.injEq, Option.toList_some, Option.toList_none, List.cons_append, List.nil_append, ne_eq, true_and, and_true, and_self, not_true_eq_false, not_false_eq_true, true_implies, false_implies, reduceCtorEq]
    · have u : kset (kC m o) (i + 1) = kset (kC m o) i := kset_no z
      rw [u] at i1
      unfold kC at z
      simp (config := { decide := true }) (disch := first | decide | assumption | omega | (simp (config := { decide := true }) only [km_sr_sf, km_sr_of, km_up_of, km_up_o, km_upx_i, km_upx_s, km_fl2_o, ne_eq, not_true_eq_false, not_false_eq_true] <;> omega) | fail) only [g_X6_whoCan, e1, e3, rg, i1, ka_lt, ka_le, ka_nlt, ka_nle, ka_ne, ka_eq, Int.add_sub_cancel, true_or, or_true, false_or, or_false, false_and, and_false, if_true, if_false, ka_lo, ka_hi, ka_nn, km_sr_sf, km_sr_of, km_up_of, km_sr_us, km_sr_uo, km_sr_sr, km_sr_fl, km_sr_flo, km_up_up, km_up_lt, km_lay, km_unL, km_up_o, km_upx_i, km_upx_s, km_fl2_o, km_is, Option.some.injEq, Sum.inl.injEq, Sum.inr.injEq, Option.toList_some, Option.toList_none, List.cons_append, List.nil_append, ne_eq, true_and, and_true, and_self, not_true_eq_false, not_false_eq_true, true_implies, false_implies, reduceCtorEq]
theorem r_whoCan {q : Nat × Int × Int × Int × Int} {c s : Nat} {o : Int} {m M : km_Mm} (hN : kN m M) (hj : km_jk m M) (hk : 0 ≤ m 5 1 ∧ m 5 1 ≤ 10) (o0 : 0 ≤ o) (o1 : o < 6) (Q : Option km_V → km_Al → km_Mm → Prop) : km_E M_X6_whoCan [.inr (.inr 19), .inl o] (km_A0 q c s) M Q ↔ Q (some (.inl (kset (kC m o) (m 5 1).toNat))) (km_A0 q c s) M := by
  have h := @lp_whoCan_4 q c s o m M hN hj hk o0 o1 Q (m 5 1).toNat 0 (by omega)
  have e : kset (kC m o) 0 = 0 := rfl
  rw [e] at h
  rw [e_X6_whoCan]
  simp (config := { decide := true }) only [g_X6_whoCan, Int.add_sub_cancel, true_or, or_true, false_or, or_false, false_and, and_false, if_true, if_false, km_sr_sf, km_sr_of, km_up_of, km_sr_us, km_sr_uo, km_sr_sr, km_sr_fl, km_sr_flo, km_up_up, km_up_lt, km_lay, km_unL, km_up_o, km_upx_i, km_upx_s, km_fl2_o, km_is, Option.some.injEq, Sum.inl.injEq, Sum.inr.injEq, Option.toList_some, Option.toList_none, List.cons_append, List.nil_append, ne_eq, true_and, and_true, and_self, not_true_eq_false, not_false_eq_true, true_implies, false_implies, reduceCtorEq]
  exact h
/-- by how many more a beats b -/
noncomputable def kbt (m : km_Mm) (a b : Int) : Nat → Int
  | 0 => 0
  | n + 1 => kbt m a b n + (if kQ m b n < kQ m a n then -1 else if kQ m b n = kQ m a n then 0 else 1)
theorem kbt_b {m : km_Mm} {a b : Int} : ∀ (n : Nat), -(n : Int) ≤ kbt m a b n ∧ kbt m a b n ≤ n := by
  intro n
  induction n with
  | zero => unfold kbt; omega
  | succ n ih => unfold kbt; (by_cases zz : kQ m b n < kQ m a n <;> by_cases zz2 : kQ m b n = kQ m a n <;> simp only [zz, zz2, if_true, if_false] <;> omega)
theorem kbt_self {m : km_Mm} {a : Int} : ∀ (n : Nat), kbt m a a n = 0 := by
  intro n
  induction n with
  | zero => rfl
  | succ n ih => unfold kbt; rw [ih, if_neg (by omega), if_pos rfl]; rfl
theorem lp_beats_5 {q : Nat × Int × Int × Int × Int} {c s : Nat} {a b : Int} {m M : km_Mm} (hN : kN m M) (hj : km_jk m M) (hk : 0 ≤ m 5 1 ∧ m 5 1 ≤ 10) (a0 : 0 ≤ a) (a1 : a < 6) (b0 : 0 ≤ b) (b1 : b < 6) {Q : Option km_V → km_Al → km_Mm → Prop} : ∀ (n : Nat) (i : Nat), (i : Int) + n = m 5 1 → (km_G M_X6_beats 5 [some (.inr (.inr 19)), some (.inl a), some (.inl b), some (.inl (kbt m a b i)), some (.inl ((i : Int)))] [] (km_A0 q c s) (M) Q ↔ Q (some (.inl ((if 0 < kbt m a b (m 5 1).toNat then 1 else 0)))) (km_A0 q c s) (M)) := by
  intro n
  induction n with
  | zero =>
    intro i h0
    have e1 : M 5 1 = m 5 1 := hj 5 1 (by unfold kJ; omega)
    have e2 : i = (m 5 1).toNat := by omega
    subst e2
    have e3 : m 5 1 ≤ ((m 5 1).toNat : Int) := by omega
    by_cases z : 0 < kbt m a b (m 5 1).toNat
    · rw [g_X6_beats_5]
      simp (config := { decide := true }) (disch := first | decide | assumption | omega | (simp (config := { decide := true }) only [km_sr_sf, km_sr_of, km_up_of, km_up_o, km_upx_i, km_upx_s, km_fl2_o, ne_eq, not_true_eq_false, not_false_eq_true] <;> omega) | fail) only [g_X6_beats, e1, e3, z, ka_lt, ka_le, ka_nlt, ka_nle, ka_ne, ka_eq, Int.add_sub_cancel, true_or, or_true, false_or, or_false, false_and, and_false, if_true, if_false, ka_lo, ka_hi, ka_nn, km_sr_sf, km_sr_of, km_up_of, km_sr_us, km_sr_uo, km_sr_sr, km_sr_fl, km_sr_flo, km_up_up, km_up_lt, km_lay, km_unL, km_up_o, km_upx_i, km_upx_s, km_fl2_o, km_is, Option.some.injEq, Sum.inl.injEq, Sum.inr.injEq, Option.toList_some, Option.toList_none, List.cons_append, List.nil_append, ne_eq, true_and, and_true, and_self, not_true_eq_false, not_false_eq_true, true_implies, false_implies, reduceCtorEq]
    · rw [g_X6_beats_5]
      simp (config := { decide := true }) (disch := first | decide | assumption | omega | (simp (config := { decide := true }) only [km_sr_sf, km_sr_of, km_up_of, km_up_o, km_upx_i, km_upx_s, km_fl2_o, ne_eq, not_true_eq_false, not_false_eq_true] <;> omega) | fail) only [g_X6_beats, e1, e3, z, ka_lt, ka_le, ka_nlt, ka_nle, ka_ne, ka_eq, Int.add_sub_cancel, true_or, or_true, false_or, or_false, false_and, and_false, if_true, if_false, ka_lo, ka_hi, ka_nn, km_sr_sf, km_sr_of, km_up_of, km_sr_us, km_sr_uo, km_sr_sr, km_sr_fl, km_sr_flo, km_up_up, km_up_lt, km_lay, km_unL, km_up_o, km_upx_i, km_upx_s, km_fl2_o, km_is, Option.some.injEq, Sum.inl.injEq, Sum.inr.injEq, Option.toList_some, Option.toList_none, List.cons_append, List.nil_append, ne_eq, true_and, and_true, and_self, not_true_eq_false, not_false_eq_true, true_implies, false_implies, reduceCtorEq]
  | succ n ih =>
    intro i h0
    have e1 : M 5 1 = m 5 1 := hj 5 1 (by unfold kJ; omega)
    have e3 : ¬ m 5 1 ≤ (i : Int) := by omega
    have rg := fun o o0 o1 Q => @cl_regretOf q c s m M o i hN hj hk.2 o0 o1 (by omega) (by omega) Q
    have rga := fun Q => rg a a0 a1 Q
    have rgb := fun Q => rg b b0 b1 Q
    have i1 := ih (i + 1) (by omega)
    have e4 : ((i + 1 : Nat) : Int) = (i : Int) + 1 := by omega
    rw [e4] at i1
    have bd := @kbt_b m a b i
    have u : kbt m a b (i + 1) = kbt m a b i + (if kQ m b i < kQ m a i then -1 else if kQ m b i = kQ m a i then 0 else 1) := rfl
    have bd2 : -2147483648 ≤ kbt m a b i + (if kQ m b i < kQ m a i then -1 else if kQ m b i = kQ m a i then 0 else 1) ∧ kbt m a b i + (if kQ m b i < kQ m a i then -1 else if kQ m b i = kQ m a i then 0 else 1) ≤ 2147483647 := by (by_cases zz : kQ m b i < kQ m a i <;> by_cases zz2 : kQ m b i = kQ m a i <;> simp only [zz, zz2, if_true, if_false] <;> omega)
    rw [u] at i1
    rw [g_X6_beats_5]
    simp (config := { decide := true }) (disch := first | decide | assumption | omega | (simp (config := { decide := true }) only [km_sr_sf, km_sr_of, km_up_of, km_up_o, km_upx_i, km_upx_s, km_fl2_o, ne_eq, not_true_eq_false, not_false_eq_true] <;> omega) | fail) only [g_X6_beats, e1, e3, rga, rgb, r_compare, bd2, i1, Int.add_sub_cancel, true_or, or_true, false_or, or_false, false_and, and_false, if_true, if_false, ka_lo, ka_hi, ka_nn, km_sr_sf, km_sr_of, km_up_of, km_sr_us, km_sr_uo, km_sr_sr, km_sr_fl, km_sr_flo, km_up_up, km_up_lt, km_lay, km_unL, km_up_o, km_upx_i, km_upx_s, km_fl2_o, km_is, Option.some.injEq, Sum.inl.injEq, Sum.inr.injEq, Option.toList_some, Option.toList_none, List.cons_append, List.nil_append, ne_eq, true_and, and_true, and_self, not_true_eq_false, not_false_eq_true, true_implies, false_implies, reduceCtorEq]
theorem r_beats {q : Nat × Int × Int × Int × Int} {c s : Nat} {a b : Int} {m M : km_Mm} (hN : kN m M) (hj : km_jk m M) (hk : 0 ≤ m 5 1 ∧ m 5 1 ≤ 10) (a0 : 0 ≤ a) (a1 : a < 6) (b0 : 0 ≤ b) (b1 : b < 6) (Q : Option km_V → km_Al → km_Mm → Prop) : km_E M_X6_beats [.inr (.inr 19), .inl a, .inl b] (km_A0 q c s) M Q ↔ Q (some (.inl (if 0 < kbt m a b (m 5 1).toNat then 1 else 0))) (km_A0 q c s) M := by
  have h := @lp_beats_5 q c s a b m M hN hj hk a0 a1 b0 b1 Q (m 5 1).toNat 0 (by omega)
  have e : kbt m a b 0 = 0 := rfl
  rw [e] at h
  rw [e_X6_beats]
  simp (config := { decide := true }) only [g_X6_beats, Int.add_sub_cancel, true_or, or_true, false_or, or_false, false_and, and_false, if_true, if_false, km_sr_sf, km_sr_of, km_up_of, km_sr_us, km_sr_uo, km_sr_sr, km_sr_fl, km_sr_flo, km_up_up, km_up_lt, km_lay, km_unL, km_up_o, km_upx_i, km_upx_s, km_fl2_o, km_is, Option.some.injEq, Sum.inl.injEq, Sum.inr.injEq, Option.toList_some, Option.toList_none, List.cons_append, List.nil_append, ne_eq, true_and, and_true, and_self, not_true_eq_false, not_false_eq_true, true_implies, false_implies, reduceCtorEq]
  exact h
/-- a beats b -/
def kBt (m : km_Mm) (a b : Int) : Prop := 0 < kbt m a b (m 5 1).toNat
theorem lp_beatenBy_4 {q : Nat × Int × Int × Int × Int} {c s : Nat} {o : Int} {m M : km_Mm} (hN : kN m M) (hj : km_jk m M) (hk : 0 ≤ m 5 1 ∧ m 5 1 ≤ 10) (hs : 0 ≤ m 19 1 ∧ m 19 1 ≤ 6) (o0 : 0 ≤ o) (o1 : o < 6) {Q : Option km_V → km_Al → km_Mm → Prop} : ∀ (n : Nat) (i : Nat), (i : Int) + n = m 19 1 → (km_G M_X6_beatenBy 4 [some (.inr (.inr 19)), some (.inl o), some (.inl (kset (kBt m o) i)), some (.inl ((i : Int)))] [] (km_A0 q c s) (M) Q ↔ Q (some (.inl ((kset (kBt m o) (m 19 1).toNat)))) (km_A0 q c s) (M)) := by
  intro n
  induction n with
  | zero =>
    intro i h0
    have e1 : M 19 1 = m 19 1 := hj 19 1 (by unfold kJ; omega)
    have e2 : i = (m 19 1).toNat := by omega
    subst e2
    have e3 : m 19 1 ≤ ((m 19 1).toNat : Int) := by omega
    rw [g_X6_beatenBy_4]
    simp (config := { decide := true }) (disch := first | decide | assumption | omega | (simp (config := { decide := true }) only [km_sr_sf, km_sr_of, km_up_of, km_up_o, km_upx_i, km_upx_s, km_fl2_o, ne_eq, not_true_eq_false, not_false_eq_true] <;> omega) | fail) only [g_X6_beatenBy, e1, e3, Int.add_sub_cancel, true_or, or_true, false_or, or_false, false_and, and_false, if_true, if_false, ka_lo, ka_hi, ka_nn, km_sr_sf, km_sr_of, km_up_of, km_sr_us, km_sr_uo, km_sr_sr, km_sr_fl, km_sr_flo, km_up_up, km_up_lt, km_lay, km_unL, km_up_o, km_upx_i, km_upx_s, km_fl2_o, km_is, Option.some.injEq, Sum.inl.injEq, Sum.inr.injEq, Option.toList_some, Option.toList_none, List.cons_append, List.nil_append, ne_eq, true_and, and_true, and_self, not_true_eq_false, not_false_eq_true, true_implies, false_implies, reduceCtorEq]
    all_goals grind
  | succ n ih =>
    intro i h0
    have e1 : M 19 1 = m 19 1 := hj 19 1 (by unfold kJ; omega)
    have e3 : ¬ m 19 1 ≤ (i : Int) := by omega
    have rb := fun Q => @r_beats q c s o i m M hN hj hk o0 o1 (by omega) (by omega) Q
    have i1 := ih (i + 1) (by omega)
    have e4 : ((i + 1 : Nat) : Int) = (i : Int) + 1 := by omega
    rw [e4] at i1
    rw [g_X6_beatenBy_4]
    by_cases z : kBt m o i
    · have u : kset (kBt m o) (i + 1) = km_or (kset (kBt m o) i) (km_shl 1 i) := kset_yes z
      rw [u] at i1
      unfold kBt at z
      rw [if_pos z] at rb
      simp (config := { decide := true }) (disch := first | decide | assumption | omega | (simp (config := { decide := true }) only [km_sr_sf, km_sr_of, km_up_of, km_up_o, km_upx_i, km_upx_s, km_fl2_o, ne_eq, not_true_eq_false, not_false_eq_true] <;> omega) | fail) only [g_X6_beatenBy, e1, e3, rb, i1, Int.add_sub_cancel, true_or, or_true, false_or, or_false, false_and, and_false, if_true, if_false, ka_lo, ka_hi, ka_nn, km_sr_sf, km_sr_of, km_up_of, km_sr_us, km_sr_uo, km_sr_sr, km_sr_fl, km_sr_flo, km_up_up, km_up_lt, km_lay, km_unL, km_up_o, km_upx_i, km_upx_s, km_fl2_o, km_is, Option.some.injEq, Sum.inl.injEq, Sum.inr.injEq, Option.toList_some, Option.toList_none, List.cons_append, List.nil_append, ne_eq, true_and, and_true, and_self, not_true_eq_false, not_false_eq_true, true_implies, false_implies, reduceCtorEq]
    · have u : kset (kBt m o) (i + 1) = kset (kBt m o) i := kset_no z
      rw [u] at i1
      unfold kBt at z
      rw [if_neg z] at rb
      simp (config := { decide := true }) (disch := first | decide | assumption | omega | (simp (config := { decide := true }) only [km_sr_sf, km_sr_of, km_up_of, km_up_o, km_upx_i, km_upx_s, km_fl2_o, ne_eq, not_true_eq_false, not_false_eq_true] <;> omega) | fail) only [g_X6_beatenBy, e1, e3, rb, i1, Int.add_sub_cancel, true_or, or_true, false_or, or_false, false_and, and_false, if_true, if_false, ka_lo, ka_hi, ka_nn, km_sr_sf, km_sr_of, km_up_of, km_sr_us, km_sr_uo, km_sr_sr, km_sr_fl, km_sr_flo, km_up_up, km_up_lt, km_lay, km_unL, km_up_o, km_upx_i, km_upx_s, km_fl2_o, km_is, Option.some.injEq, Sum.inl.injEq, Sum.inr.injEq, Option.toList_some, Option.toList_none, List.cons_append, List.nil_append, ne_eq, true_and, and_true, and_self, not_true_eq_false, not_false_eq_true, true_implies, false_implies, reduceCtorEq]
theorem r_beatenBy {q : Nat × Int × Int × Int × Int} {c s : Nat} {o : Int} {m M : km_Mm} (hN : kN m M) (hj : km_jk m M) (hk : 0 ≤ m 5 1 ∧ m 5 1 ≤ 10) (hs : 0 ≤ m 19 1 ∧ m 19 1 ≤ 6) (o0 : 0 ≤ o) (o1 : o < 6) (Q : Option km_V → km_Al → km_Mm → Prop) : km_E M_X6_beatenBy [.inr (.inr 19), .inl o] (km_A0 q c s) M Q ↔ Q (some (.inl (kset (kBt m o) (m 19 1).toNat))) (km_A0 q c s) M := by
  have h := @lp_beatenBy_4 q c s o m M hN hj hk hs o0 o1 Q (m 19 1).toNat 0 (by omega)
  have e : kset (kBt m o) 0 = 0 := rfl
  rw [e] at h
  rw [e_X6_beatenBy]
  simp (config := { decide := true }) only [g_X6_beatenBy, Int.add_sub_cancel, true_or, or_true, false_or, or_false, false_and, and_false, if_true, if_false, km_sr_sf, km_sr_of, km_up_of, km_sr_us, km_sr_uo, km_sr_sr, km_sr_fl, km_sr_flo, km_up_up, km_up_lt, km_lay, km_unL, km_up_o, km_upx_i, km_upx_s, km_fl2_o, km_is, Option.some.injEq, Sum.inl.injEq, Sum.inr.injEq, Option.toList_some, Option.toList_none, List.cons_append, List.nil_append, ne_eq, true_and, and_true, and_self, not_true_eq_false, not_false_eq_true, true_implies, false_implies, reduceCtorEq]
  exact h

