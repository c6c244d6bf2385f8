/-! ===== promise 24: settle: all balances together are 0; signum ===== -/
theorem kSm_ksm {f : Int → Int} : ∀ (n : Nat), kSm f n = ksm f n := by
  intro n
  induction n with
  | zero => rfl
  | succ n ih => rw [kSm, ksm, ih]
theorem ksm_sub {g h : Int → Int} : ∀ (n : Nat), ksm (fun k => g k - h k) n = ksm g n - ksm h n := by
  intro n
  induction n with
  | zero => rfl
  | succ n ih => unfold ksm; rw [ih]; omega
section ZS
variable {m : km_Mm} {b k : Int}
/-- what is left behind the division -/
noncomputable def kRm (m : km_Mm) (b k : Int) : Int := kPd m * kPt m b k - kDv m b * kS0 m b k
theorem kRm_b (hT : kI_trait m) (hE : kI_meet m) (k0 : 0 ≤ k) (k1 : k < 10) : (0 ≤ kRm m b k ∧ kRm m b k ≤ kDv m b - 1) ∧ (¬ kPy m b k → kRm m b k = 0) := by
  obtain ⟨⟨p0, p1⟩, p2, p3, p4⟩ := kPt_b (b := b) hT hE k0 k1
  obtain ⟨⟨s0, s1⟩, t0, t1⟩ := kS0_b (b := b) hT hE k0 k1
  have e : kRm m b k = (kPd m * kPt m b k) % kDv m b := by
    unfold kRm kS0
    rw [Int.tdiv_eq_ediv_of_nonneg t0, Int.emod_def]
  refine ⟨⟨?_, ?_⟩, fun h => ?_⟩
  · rw [e]; exact Int.emod_nonneg _ (by omega)
  · have := Int.emod_lt_of_pos (kPd m * kPt m b k) (b := kDv m b) (by omega)
    rw [e]; omega
  · unfold kPy at h
    rw [e, show kPt m b k = 0 by omega, Int.mul_zero, Int.zero_emod]
theorem kPt_sum (hT : kI_trait m) (hE : kI_meet m) : ksm (kPt m b) 10 = kDv m b ∨ (kPd m = 0 ∧ ∀ k : Int, 0 ≤ k → k < 10 → kPt m b k = 0) := by
  by_cases z : kTo m b = 0
  · have e : ksm (kPt m b) 10 = km_pop (m 100 1) := by
      rw [km_pop_cnt, ← ksm_kcnt]
      refine ksm_cong 10 fun k k0 k1 => ?_
      unfold kPt
      rw [if_pos z]
      by_cases t : tb (m 100 1) k = true
      · rw [if_pos t, if_pos t]
      · rw [if_neg t, if_neg t]
    have ed : kDv m b = if 1 < km_pop (m 100 1) then km_pop (m 100 1) else 1 := by unfold kDv; rw [if_pos z]
    by_cases p : km_pop (m 100 1) = 0
    · refine Or.inr ?_
      have no : ∀ k : Int, 0 ≤ k → k < 10 → tb (m 100 1) k = false := fun k k0 k1 => by
        cases t : tb (m 100 1) k with
        | false => rfl
        | true => have := km_pop_pos k0 k1 t; omega
      refine ⟨?_, fun k k0 k1 => by unfold kPt; rw [if_pos z, no k k0 k1]; rfl⟩
      unfold kPd
      rw [kSm_ksm, ← ksm_zero 10]
      exact ksm_cong 10 fun k k0 k1 => (hE.2.2.2.1 k k0 k1).2.2 (no k k0 k1)
    · refine Or.inl ?_
      have := @kpop_b (m 100 1)
      rw [e, ed]
      split <;> omega
  · refine Or.inl ?_
    have e : kDv m b = kTo m b := by unfold kDv; rw [if_neg z]
    rw [e]
    unfold kTo
    rw [kSm_ksm]
    refine ksm_cong 10 fun k k0 k1 => ?_
    unfold kPt
    rw [if_neg z]
theorem kLf_0 (hT : kI_trait m) (hE : kI_meet m) : 0 ≤ kLf m b 0 ∧ kLf m b 0 ≤ kcnt (kPy m b) 10 := by
  have cb := kcnt_b (P := kPy m b) 10
  have eL : kLf m b 0 = kPd m - ksm (kS0 m b) 10 := by unfold kLf; rw [kSm_ksm]
  rcases kPt_sum (b := b) hT hE with h | ⟨h1, h2⟩
  · have er : ksm (kRm m b) 10 = kDv m b * kLf m b 0 := by
      have : ksm (kRm m b) 10 = ksm (fun k => kPd m * kPt m b k) 10 - ksm (fun k => kDv m b * kS0 m b k) 10 := ksm_sub 10
      rw [this, ksm_mul, ksm_mul, h, eL, Int.mul_sub, Int.mul_comm (kPd m)]
    have r0 := (ksm_b (g := kRm m b) (b := kDv m b) 10 (fun k k0 k1 => by have := (kRm_b (b := b) hT hE k0 k1).1; omega)).1
    have r1 : ∀ n : Nat, n ≤ 10 → ksm (kRm m b) n ≤ (kDv m b - 1) * kcnt (kPy m b) n := by
      intro n
      induction n with
      | zero => intro _; unfold ksm kcnt; omega
      | succ n ih =>
        intro hn
        have i := ih (by omega)
        have r := kRm_b (b := b) (k := (n : Int)) hT hE (by omega) (by omega)
        unfold ksm kcnt
        by_cases p : kPy m b n
        · rw [if_pos p, Int.mul_add, Int.mul_one]
          have := r.1.2
          generalize (kDv m b - 1) * kcnt (kPy m b) n = z at *
          omega
        · rw [if_neg p, r.2 p, Int.add_zero, Int.add_zero]; exact i
    have r2 := r1 10 (by decide)
    have d1 := (kPt_b (b := b) (k := 0) hT hE (by decide) (by decide)).2.2.1
    rw [er] at r0 r2
    generalize kLf m b 0 = L at *
    generalize kDv m b = D at *
    generalize kcnt (kPy m b) 10 = C at *
    refine ⟨?_, ?_⟩
    · refine Classical.byContradiction fun w => ?_
      have := Int.mul_le_mul_of_nonneg_left (show L ≤ -1 by omega) (show 0 ≤ D by omega)
      rw [Int.mul_neg, Int.mul_one] at this
      omega
    · refine Classical.byContradiction fun w => ?_
      have := Int.mul_le_mul_of_nonneg_left (show C + 1 ≤ L by omega) (show 0 ≤ D by omega)
      rw [Int.mul_add, Int.mul_one] at this
      rw [Int.sub_mul, Int.one_mul] at r2
      generalize D * C = x at *
      generalize D * L = y at *
      omega
  · have z : ksm (kS0 m b) 10 = 0 := by
      rw [← ksm_zero 10]
      refine ksm_cong 10 fun k k0 k1 => ?_
      unfold kS0
      rw [h2 k k0 k1, Int.mul_zero, Int.zero_tdiv]
    rw [eL, h1, z]
    omega
theorem kLf_run (hL : 0 ≤ kLf m b 0) : ∀ n : Nat, kLf m b n = (if kcnt (kPy m b) n < kLf m b 0 then kLf m b 0 - kcnt (kPy m b) n else 0) ∧ ksm (kSf m b) n = ksm (kS0 m b) n + (kLf m b 0 - kLf m b n) := by
  intro n
  induction n with
  | zero =>
    unfold kcnt ksm
    refine ⟨by split <;> omega, by omega⟩
  | succ n ih =>
    obtain ⟨i1, i2⟩ := ih
    have cb := kcnt_b (P := kPy m b) n
    have en : ((n : Int)).toNat = n := by omega
    have e1 : ksm (kSf m b) (n + 1) = ksm (kSf m b) n + kSf m b n := rfl
    have e2 : ksm (kS0 m b) (n + 1) = ksm (kS0 m b) n + kS0 m b n := rfl
    have e3 : kLf m b (n + 1) = @ite Int (kPy m b n ∧ 0 < kLf m b n) (Classical.propDecidable _) (kLf m b n - 1) (kLf m b n) := rfl
    have e4 : kcnt (kPy m b) (n + 1) = kcnt (kPy m b) n + @ite Int (kPy m b n) (Classical.propDecidable _) 1 0 := rfl
    have e5 : kSf m b n = kS0 m b n + @ite Int (kPy m b n ∧ 0 < kLf m b n) (Classical.propDecidable _) 1 0 := by unfold kSf; rw [en]
    by_cases p : kPy m b n
    · have a2 : kcnt (kPy m b) (n + 1) = kcnt (kPy m b) n + 1 := by rw [e4, if_pos p]
      by_cases l : 0 < kLf m b n
      · have a1 : kLf m b (n + 1) = kLf m b n - 1 := by rw [e3]; exact if_pos ⟨p, l⟩
        have a3 : kSf m b n = kS0 m b n + 1 := by rw [e5]; exact congrArg (kS0 m b n + ·) (if_pos ⟨p, l⟩)
        rw [e1, e2, a1, a2, a3]
        clear e1 e2 e3 e4 e5 a1 a2 a3
        generalize kLf m b 0 = L at *
        by_cases c : kcnt (kPy m b) n < L
        · rw [if_pos c] at i1
          refine ⟨?_, by omega⟩
          by_cases c2 : kcnt (kPy m b) n + 1 < L
          · rw [if_pos c2]; omega
          · rw [if_neg c2]; omega
        · rw [if_neg c] at i1; omega
      · have a1 : kLf m b (n + 1) = kLf m b n := by rw [e3]; exact if_neg (fun w => l w.2)
        have a3 : kSf m b n = kS0 m b n + 0 := by rw [e5]; exact congrArg (kS0 m b n + ·) (if_neg (fun w => l w.2))
        rw [e1, e2, a1, a2, a3]
        clear e1 e2 e3 e4 e5 a1 a2 a3
        generalize kLf m b 0 = L at *
        refine ⟨?_, by omega⟩
        by_cases c : kcnt (kPy m b) n < L
        · rw [if_pos c] at i1; omega
        · rw [if_neg c] at i1
          rw [if_neg (by omega)]; exact i1
    · have a2 : kcnt (kPy m b) (n + 1) = kcnt (kPy m b) n := by rw [e4, if_neg p, Int.add_zero]
      have a1 : kLf m b (n + 1) = kLf m b n := by rw [e3]; exact if_neg (fun w => p w.1)
      have a3 : kSf m b n = kS0 m b n + 0 := by rw [e5]; exact congrArg (kS0 m b n + ·) (if_neg (fun w => p w.1))
      rw [e1, e2, a1, a2, a3]
      exact ⟨i1, by omega⟩
/-- all balances together -/
theorem kBl_sum (hT : kI_trait m) (hE : kI_meet m) : ksm (kBl m b) 10 = 0 := by
  obtain ⟨l0, l1⟩ := kLf_0 (b := b) hT hE
  obtain ⟨r1, r2⟩ := kLf_run l0 10
  have e : ksm (kBl m b) 10 = ksm (m 101) 10 - ksm (kSf m b) 10 := ksm_sub 10
  have eL : kLf m b 0 = kPd m - ksm (kS0 m b) 10 := by unfold kLf; rw [kSm_ksm]
  have eP : kPd m = ksm (m 101) 10 := kSm_ksm 10
  rw [if_neg (by omega)] at r1
  rw [e, r2, r1]
  omega
theorem kBl_no (hE : kI_meet m) (k0 : 0 ≤ k) (k1 : k < 10) (g : ¬ kG m k) : kBl m b k = 0 := by
  obtain ⟨a1, a2, a3, a4⟩ := kPt_no (b := b) hE k0 k1 g
  unfold kBl kSf
  rw [a3, a4, if_neg (fun w => by have := w.1; unfold kPy at this; omega)]
  rfl
end ZS
def ksgz (x : Int) : Int := if x < 0 then -1 else if x = 0 then 0 else 1
theorem ksg_shr {x : Int} (h0 : -2147483648 ≤ x) (h1 : x ≤ 2147483647) : km_shr x 31 = if x < 0 then -1 else 0 := by
  unfold km_shr
  have a : (Int32.ofInt 31 &&& 31 : Int32).toBitVec.smod 32 = 31#32 := by decide
  have t : (Int32.ofInt x).toBitVec.toInt = x := Int32.toInt_ofInt_of_le (by omega) (by omega)
  have e : (Int32.ofInt x >>> (Int32.ofInt 31 &&& 31)).toInt = x >>> 31 := by
    show (Int32.ofInt x >>> (Int32.ofInt 31 &&& 31)).toBitVec.toInt = _
    rw [Int32.toBitVec_shiftRight]
    show ((Int32.ofInt x).toBitVec.sshiftRight ((Int32.ofInt 31 &&& 31 : Int32).toBitVec.smod 32).toNat).toInt = _
    rw [a, BitVec.toInt_sshiftRight, t]
    rfl
  rw [e, Int.shiftRight_eq_div_pow]
  split <;> omega
theorem ksg_ushr {x : Int} (h0 : -2147483648 ≤ x) (h1 : x ≤ 2147483647) : km_ushr x 31 = if x < 0 then 1 else 0 := by
  unfold km_ushr
  have a : ((Int32.ofInt 31).toUInt32 &&& Int32.toUInt32 31).toNat = 31 := by decide
  have t : (Int32.ofInt x).toUInt32.toNat = (if x < 0 then (x + 4294967296).toNat else x.toNat) := by
    show (BitVec.ofInt 32 x).toNat = _
    rw [BitVec.toNat_ofInt]
    split <;> omega
  have e : ((Int32.ofInt x).toUInt32 >>> ((Int32.ofInt 31).toUInt32 &&& Int32.toUInt32 31)).toNat = if x < 0 then 1 else 0 := by
    rw [UInt32.toNat_shiftRight, a, t, Nat.shiftRight_eq_div_pow, show (2 : Nat) ^ (31 % 32) = 2147483648 from by decide]
    split <;> omega
  by_cases c : x < 0
  · rw [if_pos c] at e ⊢
    have : (Int32.ofInt x).toUInt32 >>> ((Int32.ofInt 31).toUInt32 &&& Int32.toUInt32 31) = 1 := UInt32.toNat_inj.mp e
    rw [this]; decide
  · rw [if_neg c] at e ⊢
    have : (Int32.ofInt x).toUInt32 >>> ((Int32.ofInt 31).toUInt32 &&& Int32.toUInt32 31) = 0 := UInt32.toNat_inj.mp e
    rw [this]; decide
theorem r_signum {q : Nat × Int × Int × Int × Int} {c s : Nat} {m : km_Mm} {x : Int} (h0 : -2147483648 < x) (h1 : x ≤ 2147483647) (Q : Option km_V → km_Al → km_Mm → Prop) : km_E M_J6_signum_0f7a4 [.inl x] (km_A0 q c s) m Q ↔ Q (some (.inl (ksgz x))) (km_A0 q c s) m := by
  have s1 := ksg_shr (x := x) (by omega) (by omega)
  have s2 := ksg_ushr (x := -x) (by omega) (by omega)
  have e : km_or (km_shr x 31) (km_ushr (-x) 31) = ksgz x := by
    rw [s1, s2]
    unfold ksgz
    by_cases a : x < 0
    · rw [if_pos a, if_pos a, if_neg (by omega)]; decide
    · rw [if_neg a, if_neg a]
      by_cases z : x = 0
      · rw [if_pos z, if_neg (by omega)]; decide
      · rw [if_neg z, if_pos (by omega)]; decide
  rw [← e, km_E.of (by decide)]
  show km_G M_J6_signum_0f7a4 0 [some (.inl x)] [] (km_A0 q c s) m _ ↔ _
  simp (config := { decide := true }) (disch := first | decide | assumption | omega | (simp (config := { decide := true }) only [km_sr_sf, km_sr_of, km_up_of, km_up_o, km_upx_i, km_upx_s, km_fl2_o, ne_eq, not_true_eq_false, not_false_eq_true] <;> omega) | fail) only [g_J6_signum_0f7a4, ka_lt, ka_le, ka_nlt, ka_nle, ka_ne, ka_eq, Int.add_sub_cancel, true_or, or_true, false_or, or_false, false_and, and_false, if_true, if_false, ka_lo, ka_hi, ka_nn, km_sr_sf, km_sr_of, km_up_of, km_sr_us, km_sr_uo, km_sr_sr, km_sr_fl, km_sr_flo, km_up_up, km_up_lt, km_lay, km_unL, km_up_o, km_upx_i, km_upx_s, km_fl2_o, km_is, Option.some.injEq, Sum.inl.injEq, Sum.inr.injEq, Option.toList_some, Option.toList_none, List.cons_append, List.nil_append, ne_eq, true_and, and_true, and_self, not_true_eq_false, not_false_eq_true, true_implies, false_implies, reduceCtorEq]

