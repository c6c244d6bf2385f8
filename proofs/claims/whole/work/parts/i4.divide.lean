/-! ===== promise 23: owes: the shares ===== -/
noncomputable def kTo (m : km_Mm) (b : Int) : Int := kSm (kwA m b) 10
noncomputable def kPd (m : km_Mm) : Int := kSm (m 101) 10
noncomputable def kPt (m : km_Mm) (b k : Int) : Int := if kTo m b = 0 then (if tb (m 100 1) k = true then 1 else 0) else kwA m b k
noncomputable def kDv (m : km_Mm) (b : Int) : Int := if kTo m b = 0 then (if 1 < km_pop (m 100 1) then km_pop (m 100 1) else 1) else kTo m b
noncomputable def kS0 (m : km_Mm) (b k : Int) : Int := (kPd m * kPt m b k).tdiv (kDv m b)
def kPy (m : km_Mm) (b k : Int) : Prop := 0 < kPt m b k
noncomputable def kLf (m : km_Mm) (b : Int) : Nat → Int
  | 0 => kPd m - kSm (kS0 m b) 10
  | i + 1 => @ite Int (kPy m b i ∧ 0 < kLf m b i) (Classical.propDecidable _) (kLf m b i - 1) (kLf m b i)
noncomputable def kSf (m : km_Mm) (b k : Int) : Int := kS0 m b k + @ite Int (kPy m b k ∧ 0 < kLf m b k.toNat) (Classical.propDecidable _) 1 0
noncomputable def kBl (m : km_Mm) (b k : Int) : Int := m 101 k - kSf m b k
theorem kSm_mem {f : Int → Int} : ∀ (n : Nat), (∀ k : Int, 0 ≤ k → k < n → 0 ≤ f k) → ∀ k : Int, 0 ≤ k → k < n → f k ≤ kSm f n := by
  intro n
  induction n with
  | zero => intro _ k k0 k1; exact absurd k1 (by omega)
  | succ n ih =>
    intro h k k0 k1
    have hn := h n (by omega) (by omega)
    have s0 : 0 ≤ kSm f n := by
      clear ih k1
      have : ∀ j : Nat, j ≤ n → 0 ≤ kSm f j := by
        intro j
        induction j with
        | zero => intro _; exact Int.le_refl _
        | succ j ih => intro hj; have := h j (by omega) (by omega); have := ih (by omega); rw [kSm]; omega
      exact this n (Nat.le_refl _)
    rw [kSm]
    by_cases e : k = n
    · subst e; omega
    · have := ih (fun k k0 k1 => h k k0 (by omega)) k k0 (by omega)
      omega
section FD
variable {q q' : Nat × Int × Int × Int × Int} {c s : Nat} {m C M X X' Y Z : km_Mm} {N o o1 p p1 b b1 P p' k : Int}
theorem kTo_b (hT : kI_trait m) (hE : kI_meet m) : 0 ≤ kTo m b ∧ kTo m b ≤ 10000000 := by
  have := kSm_b (f := kwA m b) (B := 1000000) 10 (fun k _ _ => kwA_b hT hE)
  unfold kTo
  omega
theorem kPd_b (hE : kI_meet m) : 0 ≤ kPd m ∧ kPd m ≤ 9999990 := by
  have := kSm_b (f := m 101) (B := 999999) 10 (fun k k0 k1 => (hE.2.2.2.1 k k0 k1).1)
  unfold kPd
  omega
theorem kPt_b (hT : kI_trait m) (hE : kI_meet m) (k0 : 0 ≤ k) (k1 : k < 10) : (0 ≤ kPt m b k ∧ kPt m b k ≤ 1000000) ∧ kPt m b k ≤ kDv m b ∧ 1 ≤ kDv m b ∧ kDv m b ≤ 10000000 := by
  have hw := kwA_b (b := b) (k := k) hT hE
  have ht := kTo_b (b := b) hT hE
  have hm := kSm_mem (f := kwA m b) 10 (fun k _ _ => (kwA_b hT hE).1) k k0 k1
  have hp : km_pop (m 100 1) ≤ 10 := by
    unfold km_pop
    have := List.length_filter_le (fun i => (m 100 1).toNat.testBit i) (List.range 10)
    rw [List.length_range] at this
    omega
  unfold kPt kDv
  by_cases z : kTo m b = 0
  · rw [if_pos z, if_pos z]
    split <;> split <;> omega
  · rw [if_neg z, if_neg z]
    unfold kTo at *
    omega
theorem kS0_b (hT : kI_trait m) (hE : kI_meet m) (k0 : 0 ≤ k) (k1 : k < 10) : (0 ≤ kS0 m b k ∧ kS0 m b k ≤ 9999990) ∧ (0 ≤ kPd m * kPt m b k ∧ kPd m * kPt m b k ≤ 9999990000000) := by
  obtain ⟨⟨p0, p1⟩, p2, p3, p4⟩ := kPt_b (b := b) hT hE k0 k1
  have a := kPd_b hE
  have m0 : 0 ≤ kPd m * kPt m b k := Int.mul_nonneg a.1 p0
  have m1 : kPd m * kPt m b k ≤ kPd m * kDv m b := Int.mul_le_mul_of_nonneg_left p2 a.1
  have m2 : kPd m * kPt m b k ≤ 9999990 * 1000000 := Int.le_trans (Int.mul_le_mul_of_nonneg_right a.2 p0) (Int.mul_le_mul_of_nonneg_left p1 (by decide))
  refine ⟨⟨?_, ?_⟩, m0, by omega⟩
  · exact Int.tdiv_nonneg m0 (by omega)
  · unfold kS0
    rw [Int.tdiv_eq_ediv_of_nonneg m0]
    have := Int.ediv_le_of_le_mul (by omega) m1
    omega
theorem kLf_b (hT : kI_trait m) (hE : kI_meet m) : ∀ (n : Nat), -100000000 - (n : Int) ≤ kLf m b n ∧ kLf m b n ≤ 10000000 := by
  intro n
  induction n with
  | zero =>
    have a := kPd_b hE
    have s := kSm_b (f := kS0 m b) (B := 9999990) 10 (fun k k0 k1 => (kS0_b hT hE k0 k1).1)
    unfold kLf
    omega
  | succ n ih =>
    rw [kLf]
    split <;> omega
/-- the class divides -/
theorem c_div1 (hX : ∀ j : Int, 0 ≤ j → j < 10 → X 114 j = kwA m b j) (hT : kI_trait m) (hE : kI_meet m) (Q : Option km_V → km_Al → km_Mm → Prop) : ∀ (n i : Nat), (i : Int) + n = 10 → (km_G M_X9_divide 6 [some (.inr (.inr 113)), some (.inl (m 100 1)), some (.inr (.inr 101)), some (.inl (kPd m)), some (.inr (.inl (kSm (kwA m b) i))), none, some (.inl (i : Int)), none, none, none, none, none, none] [] (km_A0 q c s) X Q ↔ km_G M_X9_divide 72 [some (.inr (.inr 113)), some (.inl (m 100 1)), some (.inr (.inr 101)), some (.inl (kPd m)), some (.inr (.inl (kTo m b))), none, some (.inl (if kTo m b = 0 then 1 else 0)), some (.inr (.inl (kDv m b))), none, some (.inl (kPd m)), some (.inl 0), none, none] [] (km_A0 q c s) X Q) := by
  intro n
  induction n with
  | zero =>
    intro i hi
    have e : i = 10 := by omega
    subst e
    have ht := kTo_b (b := b) hT hE
    have hp := hE.2.1.2.1
    have bc := fun mm Q => @sp_bitCount _ hp.1 hp.2 (km_A0 q c s) mm Q
    rw [g_X9_divide_6]
    show km_G M_X9_divide 8 [some (.inr (.inr 113)), some (.inl (m 100 1)), some (.inr (.inr 101)), some (.inl (kPd m)), some (.inr (.inl (kTo m b))), none, some (.inl 10), none, none, none, none, none, none] _ (km_A0 q c s) X Q ↔ _
    unfold kDv
    by_cases z : kTo m b = 0
    · rw [if_pos z, if_pos z]
      simp (config := { decide := true }) (disch := first | decide | assumption | omega | (simp (config := { decide := true }) only [km_sr_sf, km_sr_of, km_up_of, km_up_o, km_upx_i, km_upx_s, km_fl2_o, ne_eq, not_true_eq_false, not_false_eq_true] <;> omega) | fail) only [g_X9_divide, z, kl_0, bc, ka_lt, ka_le, ka_nlt, ka_nle, ka_ne, ka_eq, Int.add_sub_cancel, true_or, or_true, false_or, or_false, false_and, and_false, if_true, if_false, ka_lo, ka_hi, ka_nn, km_sr_sf, km_sr_of, km_up_of, km_sr_us, km_sr_uo, km_sr_sr, km_sr_fl, km_sr_flo, km_up_up, km_up_lt, km_lay, km_unL, km_up_o, km_upx_i, km_upx_s, km_fl2_o, km_is, Option.some.injEq, Sum.inl.injEq, Sum.inr.injEq, Option.toList_some, Option.toList_none, List.cons_append, List.nil_append, ne_eq, true_and, and_true, and_self, not_true_eq_false, not_false_eq_true, true_implies, false_implies, reduceCtorEq]
    · rw [if_neg z, if_neg z]
      simp (config := { decide := true }) (disch := first | decide | assumption | omega | (simp (config := { decide := true }) only [km_sr_sf, km_sr_of, km_up_of, km_up_o, km_upx_i, km_upx_s, km_fl2_o, ne_eq, not_true_eq_false, not_false_eq_true] <;> omega) | fail) only [g_X9_divide, z, kl_0, ka_lt, ka_le, ka_nlt, ka_nle, ka_ne, ka_eq, Int.add_sub_cancel, true_or, or_true, false_or, or_false, false_and, and_false, if_true, if_false, ka_lo, ka_hi, ka_nn, km_sr_sf, km_sr_of, km_up_of, km_sr_us, km_sr_uo, km_sr_sr, km_sr_fl, km_sr_flo, km_up_up, km_up_lt, km_lay, km_unL, km_up_o, km_upx_i, km_upx_s, km_fl2_o, km_is, Option.some.injEq, Sum.inl.injEq, Sum.inr.injEq, Option.toList_some, Option.toList_none, List.cons_append, List.nil_append, ne_eq, true_and, and_true, and_self, not_true_eq_false, not_false_eq_true, true_implies, false_implies, reduceCtorEq]
  | succ n ih =>
    intro i hi
    have z : (i : Int) < 10 := by omega
    have bw := kSm_b (f := kwA m b) (B := 1000000) i (fun k _ _ => kwA_b hT hE)
    have bi := kwA_b (b := b) (k := (i : Int)) hT hE
    have xi := hX i (by omega) z
    have e1 : ((i + 1 : Nat) : Int) = (i : Int) + 1 := by omega
    have s1 : kSm (kwA m b) (i + 1) = kSm (kwA m b) i + kwA m b i := rfl
    have bm : (i : Int) * 1000000 ≤ 10 * 1000000 := by omega
    rw [← ih (i + 1) (by omega), g_X9_divide_6, e1, s1]
    simp (config := { decide := true }) (disch := first | decide | assumption | omega | (simp (config := { decide := true }) only [km_sr_sf, km_sr_of, km_up_of, km_up_o, km_upx_i, km_upx_s, km_fl2_o, ne_eq, not_true_eq_false, not_false_eq_true] <;> omega) | fail) only [g_X9_divide, z, xi, ka_lt, ka_le, ka_nlt, ka_nle, ka_ne, ka_eq, Int.add_sub_cancel, true_or, or_true, false_or, or_false, false_and, and_false, if_true, if_false, ka_lo, ka_hi, ka_nn, km_sr_sf, km_sr_of, km_up_of, km_sr_us, km_sr_uo, km_sr_sr, km_sr_fl, km_sr_flo, km_up_up, km_up_lt, km_lay, km_unL, km_up_o, km_upx_i, km_upx_s, km_fl2_o, km_is, Option.some.injEq, Sum.inl.injEq, Sum.inr.injEq, Option.toList_some, Option.toList_none, List.cons_append, List.nil_append, ne_eq, true_and, and_true, and_self, not_true_eq_false, not_false_eq_true, true_implies, false_implies, reduceCtorEq]
theorem c_div2 (hT : kI_trait m) (hE : kI_meet m) : ∀ (n i : Nat) (X : km_Mm) (o11 o12 : Option km_V), (i : Int) + n = 10 → (∀ j : Int, 0 ≤ j → j < 10 → X 114 j = kwA m b j) → (∀ j : Int, 0 ≤ j → j < i → X 115 j = kS0 m b j) → ∃ (X' : km_Mm) (o11' o12' : Option km_V), (∀ d j : Int, d ≠ 115 → X' d j = X d j) ∧ (∀ j : Int, 0 ≤ j → j < 10 → X' 115 j = kS0 m b j) ∧ ∀ Q : Option km_V → km_Al → km_Mm → Prop, km_G M_X9_divide 72 [some (.inr (.inr 113)), some (.inl (m 100 1)), some (.inr (.inr 101)), some (.inl (kPd m)), some (.inr (.inl (kTo m b))), none, some (.inl (if kTo m b = 0 then 1 else 0)), some (.inr (.inl (kDv m b))), none, some (.inl (kPd m - kSm (kS0 m b) i)), some (.inl (i : Int)), o11, o12] [] (km_A0 q c s) X Q ↔ km_G M_X9_divide 140 [some (.inr (.inr 113)), some (.inl (m 100 1)), some (.inr (.inr 101)), some (.inl (kPd m)), some (.inr (.inl (kTo m b))), none, some (.inl (if kTo m b = 0 then 1 else 0)), some (.inr (.inl (kDv m b))), none, some (.inl (kLf m b 0)), some (.inl 0), o11', o12'] [] (km_A0 q c s) X' Q := by
  have hg := hE.2.1.2.1
  have a := kPd_b hE
  intro n
  induction n with
  | zero =>
    intro i X o11 o12 hi hX hs
    have e : i = 10 := by omega
    subst e
    refine ⟨X, o11, o12, fun _ _ _ => rfl, hs, fun Q => ?_⟩
    rw [g_X9_divide_72]
    unfold kLf
    simp (config := { decide := true }) (disch := first | decide | assumption | omega | (simp (config := { decide := true }) only [km_sr_sf, km_sr_of, km_up_of, km_up_o, km_upx_i, km_upx_s, km_fl2_o, ne_eq, not_true_eq_false, not_false_eq_true] <;> omega) | fail) only [g_X9_divide, ka_lt, ka_le, ka_nlt, ka_nle, ka_ne, ka_eq, Int.add_sub_cancel, true_or, or_true, false_or, or_false, false_and, and_false, if_true, if_false, ka_lo, ka_hi, ka_nn, km_sr_sf, km_sr_of, km_up_of, km_sr_us, km_sr_uo, km_sr_sr, km_sr_fl, km_sr_flo, km_up_up, km_up_lt, km_lay, km_unL, km_up_o, km_upx_i, km_upx_s, km_fl2_o, km_is, Option.some.injEq, Sum.inl.injEq, Sum.inr.injEq, Option.toList_some, Option.toList_none, List.cons_append, List.nil_append, ne_eq, true_and, and_true, and_self, not_true_eq_false, not_false_eq_true, true_implies, false_implies, reduceCtorEq]
  | succ n ih =>
    intro i X o11 o12 hi hX hs
    have z : (i : Int) < 10 := by omega
    have i0 : (0 : Int) ≤ i := by omega
    obtain ⟨⟨p0, p1⟩, p2, p3, p4⟩ := kPt_b (b := b) hT hE i0 z
    obtain ⟨⟨s0, s1⟩, t0, t1⟩ := kS0_b (b := b) hT hE i0 z
    have bs := kSm_b (f := kS0 m b) (B := 9999990) i (fun k k0 k1 => (kS0_b hT hE k0 (by omega)).1)
    have bm : (i : Int) * 9999990 ≤ 10 * 9999990 := by omega
    have e1 : ((i + 1 : Nat) : Int) = (i : Int) + 1 := by omega
    have es : kSm (kS0 m b) (i + 1) = kSm (kS0 m b) i + kS0 m b i := rfl
    have xi := hX i i0 z
    have bt := ks_bit (x := m 100 1) (k := (i : Int)) hg.1 (by have := hg.2; omega) i0 (by omega)
    obtain ⟨X1, d1⟩ : ∃ X1 : km_Mm, X1 = km_up X 115 i (kS0 m b i) := ⟨_, rfl⟩
    obtain ⟨X', u11, u12, w1, w2, w3⟩ := ih (i + 1) X1 (some (.inr (.inl (kPt m b i)))) none (by omega) (fun j j0 j1 => by rw [d1, km_up_ne (by omega)]; exact hX j j0 j1) (fun j j0 j1 => by
      by_cases y : j = i
      · subst y; rw [d1, km_upx_s]
      · rw [d1, km_up_ne (by omega)]; exact hs j j0 (by omega))
    refine ⟨X', u11, u12, fun d j u => by rw [w1 d j u, d1, km_up_ne (by omega)], w2, fun Q => ?_⟩
    have dn : ¬ kDv m b = 0 := by omega
    have sd : (kPd m * kPt m b i).tdiv (kDv m b) = kS0 m b i := rfl
    rw [← w3 Q, g_X9_divide_72, e1, es, d1, ← Int.sub_sub]
    by_cases t : kTo m b = 0
    · have pt : kPt m b i = if tb (m 100 1) i = true then 1 else 0 := by unfold kPt; rw [if_pos t]
      rw [← pt] at bt
      rw [if_pos t]
      simp (config := { decide := true }) (disch := first | decide | assumption | omega | (simp (config := { decide := true }) only [km_sr_sf, km_sr_of, km_up_of, km_up_o, km_upx_i, km_upx_s, km_fl2_o, ne_eq, not_true_eq_false, not_false_eq_true] <;> omega) | fail) only [g_X9_divide, z, i0, bt, dn, sd, ka_lt, ka_le, ka_nlt, ka_nle, ka_ne, ka_eq, Int.add_sub_cancel, true_or, or_true, false_or, or_false, false_and, and_false, if_true, if_false, ka_lo, ka_hi, ka_nn, km_sr_sf, km_sr_of, km_up_of, km_sr_us, km_sr_uo, km_sr_sr, km_sr_fl, km_sr_flo, km_up_up, km_up_lt, km_lay, km_unL, km_up_o, km_upx_i, km_upx_s, km_fl2_o, km_is, Option.some.injEq, Sum.inl.injEq, Sum.inr.injEq, Option.toList_some, Option.toList_none, List.cons_append, List.nil_append, ne_eq, true_and, and_true, and_self, not_true_eq_false, not_false_eq_true, true_implies, false_implies, reduceCtorEq]
    · have pt : kPt m b i = kwA m b i := by unfold kPt; rw [if_neg t]
      rw [← pt] at xi
      rw [if_neg t]
      simp (config := { decide := true }) (disch := first | decide | assumption | omega | (simp (config := { decide := true }) only [km_sr_sf, km_sr_of, km_up_of, km_up_o, km_upx_i, km_upx_s, km_fl2_o, ne_eq, not_true_eq_false, not_false_eq_true] <;> omega) | fail) only [g_X9_divide, z, i0, xi, dn, sd, ka_lt, ka_le, ka_nlt, ka_nle, ka_ne, ka_eq, Int.add_sub_cancel, true_or, or_true, false_or, or_false, false_and, and_false, if_true, if_false, ka_lo, ka_hi, ka_nn, km_sr_sf, km_sr_of, km_up_of, km_sr_us, km_sr_uo, km_sr_sr, km_sr_fl, km_sr_flo, km_up_up, km_up_lt, km_lay, km_unL, km_up_o, km_upx_i, km_upx_s, km_fl2_o, km_is, Option.some.injEq, Sum.inl.injEq, Sum.inr.injEq, Option.toList_some, Option.toList_none, List.cons_append, List.nil_append, ne_eq, true_and, and_true, and_self, not_true_eq_false, not_false_eq_true, true_implies, false_implies, reduceCtorEq]
end FD

