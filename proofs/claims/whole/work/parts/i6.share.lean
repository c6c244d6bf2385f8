/-! ===== promise 23: owes: the reference shares out ===== -/
section FD
variable {q q' : Nat × Int × Int × Int × Int} {c s : Nat} {m C M X X' Y Z : km_Mm} {N o o1 p p1 b b1 P p' k : Int}
theorem km_pop_pos {x : Int} (k0 : 0 ≤ k) (k1 : k < 10) (h : tb x k = true) : 1 ≤ km_pop x := by
  unfold km_pop
  have hm : k.toNat ∈ (List.range 10).filter (fun i => x.toNat.testBit i) := by
    rw [List.mem_filter, List.mem_range]
    exact ⟨by omega, h⟩
  have := List.length_pos_of_mem hm
  omega
theorem kPt_kin (hE : kI_meet m) (k0 : 0 ≤ k) (k1 : k < 10) (hk : m 5 1 ≤ k) : kwA m b k = 0 ∧ kPt m b k = 0 ∧ kS0 m b k = 0 ∧ m 101 k = 0 := by
  have t := hE.2.1.2.2 k hk k1
  have a : kwA m b k = 0 := by
    unfold kwA
    rw [if_neg (fun g => by have := g.2.2; rw [t] at this; cases this)]
  have e : kPt m b k = 0 := by
    unfold kPt
    rw [a, t]
    split <;> rfl
  refine ⟨a, e, ?_, (hE.2.2.2.1 k k0 k1).2.2 t⟩
  unfold kS0
  rw [e, Int.mul_zero, Int.zero_tdiv]
theorem kPt_no (hE : kI_meet m) (k0 : 0 ≤ k) (k1 : k < 10) (g : ¬ kG m k) : kwA m b k = 0 ∧ kPt m b k = 0 ∧ kS0 m b k = 0 ∧ m 101 k = 0 := by
  have t : tb (m 100 1) k = false := by
    cases e : tb (m 100 1) k with
    | false => rfl
    | true => exact absurd ⟨k0, k1, e⟩ g
  have a : kwA m b k = 0 := by unfold kwA; rw [if_neg g]
  have e : kPt m b k = 0 := by
    unfold kPt
    rw [a, t]
    split <;> rfl
  refine ⟨a, e, ?_, (hE.2.2.2.1 k k0 k1).2.2 t⟩
  unfold kS0
  rw [e, Int.mul_zero, Int.zero_tdiv]
theorem kSm_kin {f : Int → Int} (h10 : 0 ≤ m 5 1 ∧ m 5 1 ≤ 10) (h : ∀ k : Int, 0 ≤ k → k < 10 → m 5 1 ≤ k → f k = 0) : kSm f (m 5 1).toNat = kSm f 10 := by
  have := @kSm_zero f (m 5 1).toNat (10 - (m 5 1).toNat) (fun k k0 k1 => h k (by omega) (by omega) (by omega))
  rw [show (m 5 1).toNat + (10 - (m 5 1).toNat) = 10 by omega] at this
  exact this.symm
noncomputable def kDrM (m : km_Mm) (b : Int) : Int := if kTo m b = 0 then km_pop (m 100 1) else kTo m b
theorem kDrM_dv (h : ¬ kPt m b k = 0) (k0 : 0 ≤ k) (k1 : k < 10) : kDrM m b = kDv m b := by
  unfold kDrM kDv
  by_cases z : kTo m b = 0
  · rw [if_pos z, if_pos z]
    have t : tb (m 100 1) k = true := by
      unfold kPt at h
      rw [if_pos z] at h
      cases e : tb (m 100 1) k with
      | false => rw [e] at h; exact absurd rfl h
      | true => rfl
    have := km_pop_pos k0 k1 t
    split <;> omega
  · rw [if_neg z, if_neg z]
theorem m_div2 (h : kI0 N m) : ∀ (n i : Nat) (Y : km_Mm) (o9 o10 : Option km_V), (i : Int) + n = m 5 1 → kMj m Y → (∀ j : Int, 0 ≤ j → j < m 5 1 → Y 174 j = kwA m b j) → (∀ j : Int, 0 ≤ j → j < i → Y 175 j = kS0 m b j) → ∃ (Z : km_Mm) (o9' o10' : Option km_V), (∀ d j : Int, d ≠ 175 → Z d j = Y d j) ∧ (∀ j : Int, 0 ≤ j → j < m 5 1 → Z 175 j = kS0 m b j) ∧ ∀ Q : Option km_V → km_Al → km_Mm → Prop, km_G M_X12_share 115 [some (.inr (.inr 123)), some (.inr (.inl (kDrM m b))), none, some (.inr (.inl (kPd m))), none, some (.inl (if kTo m b = 0 then 1 else 0)), some (.inr (.inl (kPd m - kSm (kS0 m b) i))), none, some (.inl (i : Int)), o9, o10] [] (km_A0 q c s) Y Q ↔ km_G M_X12_share 200 [some (.inr (.inr 123)), some (.inr (.inl (kDrM m b))), none, some (.inr (.inl (kPd m))), none, some (.inl (if kTo m b = 0 then 1 else 0)), some (.inr (.inl (kLf m b 0))), none, some (.inl 0), o9', o10'] [] (km_A0 q c s) Z Q := by
  have f1 := h.1.1
  have hE := h.2.2.2.2.2.2.2.1
  have hT := h.2.2.1
  have a := kPd_b hE
  intro n
  induction n with
  | zero =>
    intro i Y o9 o10 hi hY hW hs
    have e : i = (m 5 1).toNat := by omega
    have z : ¬ (i : Int) < m 5 1 := by omega
    have Y3 : Y 123 3 = m 5 1 := (hY 123 3 (by decide) (by unfold kJ; omega)).trans f1.2.2
    have el : kPd m - kSm (kS0 m b) i = kLf m b 0 := by
      rw [e, kSm_kin ⟨f1.1, f1.2.1⟩ (fun k k0 k1 hk => (kPt_kin hE k0 k1 hk).2.2.1)]; rfl
    refine ⟨Y, o9, o10, fun _ _ _ => rfl, fun j j0 j1 => hs j j0 (by omega), fun Q => ?_⟩
    rw [el, g_X12_share_115]
    simp (config := { decide := true }) (disch := first | decide | assumption | omega | (simp (config := { decide := true }) only [km_sr_sf, km_sr_of, km_up_of, km_up_o, km_upx_i, km_upx_s, km_fl2_o, ne_eq, not_true_eq_false, not_false_eq_true] <;> omega) | fail) only [g_X12_share, Y3, z, ka_lt, ka_le, ka_nlt, ka_nle, ka_ne, ka_eq, Int.add_sub_cancel, true_or, or_true, false_or, or_false, false_and, and_false, if_true, if_false, ka_lo, ka_hi, ka_nn, km_sr_sf, km_sr_of, km_up_of, km_sr_us, km_sr_uo, km_sr_sr, km_sr_fl, km_sr_flo, km_up_up, km_up_lt, km_lay, km_unL, km_up_o, km_upx_i, km_upx_s, km_fl2_o, km_is, Option.some.injEq, Sum.inl.injEq, Sum.inr.injEq, Option.toList_some, Option.toList_none, List.cons_append, List.nil_append, ne_eq, true_and, and_true, and_self, not_true_eq_false, not_false_eq_true, true_implies, false_implies, reduceCtorEq]
  | succ n ih =>
    intro i Y o9 o10 hi hY hW hs
    have z : (i : Int) < m 5 1 := by omega
    have i10 : (i : Int) < 10 := by omega
    have i0 : (0 : Int) ≤ i := by omega
    have Y3 : Y 123 3 = m 5 1 := (hY 123 3 (by decide) (by unfold kJ; omega)).trans f1.2.2
    obtain ⟨⟨p0, p1⟩, p2, p3, p4⟩ := kPt_b (b := b) hT hE i0 i10
    obtain ⟨⟨s0, s1⟩, t0, t1⟩ := kS0_b (b := b) hT hE i0 i10
    have bs := kSm_b (f := kS0 m b) (B := 9999990) i (fun k k0 k1 => (kS0_b hT hE k0 (by omega)).1)
    have bm : (i : Int) * 9999990 ≤ 10 * 9999990 := by omega
    have e1 : ((i + 1 : Nat) : Int) = (i : Int) + 1 := by omega
    have es : kSm (kS0 m b) (i + 1) = kSm (kS0 m b) i + kS0 m b i := rfl
    have xi := hW i i0 z
    have gi := fun Q => @md_isGuest q c s m Y i hE f1.2.1 (hY 123 80 (by decide) (by unfold kJ; omega)) (hY 123 82 (by decide) (by unfold kJ; omega)) Y3 Q
    obtain ⟨Y1, d1⟩ : ∃ Y1 : km_Mm, Y1 = km_up Y 175 i (kS0 m b i) := ⟨_, rfl⟩
    have j1 : kMj m Y1 := fun d j u1 u2 => by rw [d1, km_up_ne (fun w => u2 (by unfold kJ; omega))]; exact hY d j u1 u2
    obtain ⟨Z, u9, u10, w1, w2, w3⟩ := ih (i + 1) Y1 (some (.inr (.inl (kPt m b i)))) none (by omega) j1 (fun j j0 j1 => by rw [d1, km_up_ne (by omega)]; exact hW j j0 j1) (fun j j0 j1 => by
      by_cases y : j = i
      · subst y; rw [d1, km_upx_s]
      · rw [d1, km_up_ne (by omega)]; exact hs j j0 (by omega))
    refine ⟨Z, u9, u10, fun d j u => by rw [w1 d j u, d1, km_up_ne (by omega)], w2, fun Q => ?_⟩
    rw [← w3 Q, g_X12_share_115, e1, es, d1, ← Int.sub_sub]
    by_cases p : kPt m b i = 0
    · have sz : kS0 m b i = 0 := by unfold kS0; rw [p, Int.mul_zero, Int.zero_tdiv]
      rw [sz, p]
      by_cases t : kTo m b = 0
      · have ng : ¬ kG m i := fun g => by
          unfold kPt at p
          rw [if_pos t, if_pos g.2.2] at p
          exact absurd p (by decide)
        rw [if_pos t]
        simp only [if_neg ng] at gi
        simp (config := { decide := true }) (disch := first | decide | assumption | omega | (simp (config := { decide := true }) only [km_sr_sf, km_sr_of, km_up_of, km_up_o, km_upx_i, km_upx_s, km_fl2_o, ne_eq, not_true_eq_false, not_false_eq_true] <;> omega) | fail) only [g_X12_share, Y3, z, i0, i10, gi, kl_0, Int.sub_zero, ka_lt, ka_le, ka_nlt, ka_nle, ka_ne, ka_eq, Int.add_sub_cancel, true_or, or_true, false_or, or_false, false_and, and_false, if_true, if_false, ka_lo, ka_hi, ka_nn, km_sr_sf, km_sr_of, km_up_of, km_sr_us, km_sr_uo, km_sr_sr, km_sr_fl, km_sr_flo, km_up_up, km_up_lt, km_lay, km_unL, km_up_o, km_upx_i, km_upx_s, km_fl2_o, km_is, Option.some.injEq, Sum.inl.injEq, Sum.inr.injEq, Option.toList_some, Option.toList_none, List.cons_append, List.nil_append, ne_eq, true_and, and_true, and_self, not_true_eq_false, not_false_eq_true, true_implies, false_implies, reduceCtorEq]
      · have pt : kPt m b i = kwA m b i := by unfold kPt; rw [if_neg t]
        rw [← pt, p] at xi
        rw [if_neg t]
        simp (config := { decide := true }) (disch := first | decide | assumption | omega | (simp (config := { decide := true }) only [km_sr_sf, km_sr_of, km_up_of, km_up_o, km_upx_i, km_upx_s, km_fl2_o, ne_eq, not_true_eq_false, not_false_eq_true] <;> omega) | fail) only [g_X12_share, Y3, z, i0, i10, xi, kl_0, Int.sub_zero, ka_lt, ka_le, ka_nlt, ka_nle, ka_ne, ka_eq, Int.add_sub_cancel, true_or, or_true, false_or, or_false, false_and, and_false, if_true, if_false, ka_lo, ka_hi, ka_nn, km_sr_sf, km_sr_of, km_up_of, km_sr_us, km_sr_uo, km_sr_sr, km_sr_fl, km_sr_flo, km_up_up, km_up_lt, km_lay, km_unL, km_up_o, km_upx_i, km_upx_s, km_fl2_o, km_is, Option.some.injEq, Sum.inl.injEq, Sum.inr.injEq, Option.toList_some, Option.toList_none, List.cons_append, List.nil_append, ne_eq, true_and, and_true, and_self, not_true_eq_false, not_false_eq_true, true_implies, false_implies, reduceCtorEq]
    · have ed := kDrM_dv p i0 i10
      have dn : ¬ kDrM m b = 0 := by omega
      have sd : (kPd m * kPt m b i).tdiv (kDrM m b) = kS0 m b i := by rw [ed]; rfl
      by_cases t : kTo m b = 0
      · have g : kG m i := by
          refine ⟨i0, i10, ?_⟩
          unfold kPt at p
          rw [if_pos t] at p
          cases e : tb (m 100 1) i with
          | false => rw [e] at p; exact absurd rfl p
          | true => rfl
        have p1 : kPt m b i = 1 := by unfold kPt; rw [if_pos t, if_pos g.2.2]
        rw [p1, Int.mul_one] at sd
        rw [if_pos t, p1]
        simp only [if_pos g] at gi
        simp (config := { decide := true }) (disch := first | decide | assumption | omega | (simp (config := { decide := true }) only [km_sr_sf, km_sr_of, km_up_of, km_up_o, km_upx_i, km_upx_s, km_fl2_o, ne_eq, not_true_eq_false, not_false_eq_true] <;> omega) | fail) only [g_X12_share, Y3, z, i0, i10, gi, kl_0, dn, sd, Int.mul_one, ka_lt, ka_le, ka_nlt, ka_nle, ka_ne, ka_eq, Int.add_sub_cancel, true_or, or_true, false_or, or_false, false_and, and_false, if_true, if_false, ka_lo, ka_hi, ka_nn, km_sr_sf, km_sr_of, km_up_of, km_sr_us, km_sr_uo, km_sr_sr, km_sr_fl, km_sr_flo, km_up_up, km_up_lt, km_lay, km_unL, km_up_o, km_upx_i, km_upx_s, km_fl2_o, km_is, Option.some.injEq, Sum.inl.injEq, Sum.inr.injEq, Option.toList_some, Option.toList_none, List.cons_append, List.nil_append, ne_eq, true_and, and_true, and_self, not_true_eq_false, not_false_eq_true, true_implies, false_implies, reduceCtorEq]
      · have pt : kPt m b i = kwA m b i := by unfold kPt; rw [if_neg t]
        rw [← pt] at xi
        rw [if_neg t]
        simp (config := { decide := true }) (disch := first | decide | assumption | omega | (simp (config := { decide := true }) only [km_sr_sf, km_sr_of, km_up_of, km_up_o, km_upx_i, km_upx_s, km_fl2_o, ne_eq, not_true_eq_false, not_false_eq_true] <;> omega) | fail) only [g_X12_share, Y3, z, i0, i10, xi, kl_0, p, dn, sd, ka_lt, ka_le, ka_nlt, ka_nle, ka_ne, ka_eq, Int.add_sub_cancel, true_or, or_true, false_or, or_false, false_and, and_false, if_true, if_false, ka_lo, ka_hi, ka_nn, km_sr_sf, km_sr_of, km_up_of, km_sr_us, km_sr_uo, km_sr_sr, km_sr_fl, km_sr_flo, km_up_up, km_up_lt, km_lay, km_unL, km_up_o, km_upx_i, km_upx_s, km_fl2_o, km_is, Option.some.injEq, Sum.inl.injEq, Sum.inr.injEq, Option.toList_some, Option.toList_none, List.cons_append, List.nil_append, ne_eq, true_and, and_true, and_self, not_true_eq_false, not_false_eq_true, true_implies, false_implies, reduceCtorEq]
end FD

