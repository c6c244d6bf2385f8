/-! ===== the house in the class: findBedding, findSeating ===== -/
theorem km_wt_cg {m m' : km_Mm} {a v : Int} (h : ∀ k : Int, 0 ≤ k → k < 10 → m' a k = m a k) : ∀ (n : Nat) (i x : Int), 0 ≤ i → i + n ≤ 10 → km_wt m' a v n i x = km_wt m a v n i x := by
  intro n
  induction n with
  | zero => intro i x _ _; rfl
  | succ n ih =>
    intro i x i0 i1
    unfold km_wt
    rw [ih (i + 1) _ (by omega) (by omega), h i i0 (by omega)]
def kbR (m : km_Mm) (a i : Int) : Prop := kLc m (m 5 3) i a (m 5 2)
/-- what a set costs in a ROOM, less what its couples cost apart -/
noncomputable def kbX (m : km_Mm) (p t : Int) : Int := (kbA (m 89 0) (km_wt m 11 1 (m 5 1).toNat 0 0) t - m 89 1 * kpr (kbR m) t) + m 89 2 * km_pop (km_and t (kset (fun i => m 102 i ≠ -1 ∧ m 102 i ≠ p) 10))
def kbFt (m : km_Mm) (p t : Int) : Prop := ksb t (m 100 1) ∧ km_pop t ≤ m 86 p ∧ ¬ kfd (m 88) t
def kbD (m : km_Mm) (a b : Int) : Prop := tb (m 100 1) a = true ∧ tb (m 100 1) b = true ∧ kLc m (m 5 3) a b (m 5 2)
theorem kbX_b {m : km_Mm} (hw : ten (m 100 1)) (hk : 0 ≤ m 5 1 ∧ m 5 1 ≤ 10) (hH : ∀ i : Int, 0 ≤ i → i < 3 → 0 ≤ m 89 i ∧ m 89 i ≤ 99) {p t : Int} (ht : ksb t (m 100 1)) : -5445 ≤ kbX m p t ∧ kbX m p t ≤ 5445 := by
  have tt := ksb_ten hw ht
  have ws := (km_wt_b (m := m) (a := 11) (v := 1) (m 5 1).toNat 0 0 (by decide) (by omega) ten_0).1
  have a := kbA_b (hH 0 (by decide) (by decide)) tt ws.1
  have b := @kpr_b (kbR m) t
  have h1 := hH 1 (by decide) (by decide)
  have h2 := hH 2 (by decide) (by decide)
  have c := kmul_b h1.1 h1.2 b.1 b.2
  have d := @kpop_b (km_and t (kset (fun i => m 102 i ≠ -1 ∧ m 102 i ≠ p) 10))
  have e := kmul_b h2.1 h2.2 d.1 d.2
  unfold kbX
  omega
theorem cl_findBedding {q : Nat × Int × Int × Int × Int} {c s : Nat} {m M : km_Mm} (hb : kI_book m) (hH : kI_house m) (hE : kI_meet m) (hj : km_jk m M) (hN : kN m M) :
    ∃ (v : Int) (M' : km_Mm), (∀ b j : Int, ¬ (90 ≤ b ∧ b ≤ 93) → ¬ (95 ≤ b ∧ b ≤ 99) → M' b j = M b j) ∧ kdE (kbX m) (kbFt m) (m 85 0).toNat 0 (m 100 1) v ∧ (kdD (kbX m) (kbFt m) (m 85 0).toNat 0 (m 100 1) v → kdS (kbX m) (kbFt m) (M' 99) (m 85 0).toNat 0 (m 100 1)) ∧ ∀ Q : Option km_V → km_Al → km_Mm → Prop, (km_E M_X3_findBedding [.inr (.inr 85), .inl (m 100 1), .inr (.inr 5), .inr (.inr 102)] (km_A0 q c s) M Q ↔ Q (some (.inl (if 500000 < v then -1 else v + m 89 1 * ksm (fun a => kcnt (kbD m a) a.toNat) (m 5 1).toNat))) (km_A0 q c s) M') := by
  have b1 := hb.1
  obtain ⟨h1, h2, h3, h4, h5, h6, h7⟩ := hH
  obtain ⟨e1, ⟨e2, hw, e3⟩, -⟩ := hE
  have gB : ∀ b : Int, (12 ≤ b ∧ b ≤ 15) ∨ (7 ≤ b ∧ b ≤ 11) ∨ (85 ≤ b ∧ b ≤ 89) ∨ (100 ≤ b ∧ b ≤ 102) → M b = m b := fun b hb => funext fun j => hj b j (kJ_no (by omega))
  have M51 : M 5 1 = m 5 1 := hj 5 1 (by unfold kJ; omega)
  have p0 := (h6 0 (by decide) (by decide)).2
  have p1 := (h6 1 (by decide) (by decide)).2
  have p2 := (h6 2 (by decide) (by decide)).2
  have h6' : ∀ i : Int, 0 ≤ i → i < 3 → 0 ≤ m 89 i ∧ m 89 i ≤ 99 := fun i i0 i1 => (h6 i i0 i1).2
  have hw' := hw
  unfold ten at hw'
  obtain ⟨g, g1, g2⟩ := @cl_pairCouples q c s m M (m 100 1) (kbD m) hb hj hN hw (fun a b => Iff.rfl)
  have wsM : km_wt (km_sr M 90 g) 11 1 (m 5 1).toNat 0 0 = km_wt m 11 1 (m 5 1).toNat 0 0 := km_wt_cg (fun k _ _ => by rw [km_sr_o (by decide), gB 11 (by omega)]) _ _ _ (by decide) (by omega)
  have ws := (km_wt_b (m := m) (a := 11) (v := 1) (m 5 1).toNat 0 0 (by decide) (by omega) ten_0).1
  have wt := fun Q => @r_withTrait q c s 4 1 (by decide) (km_sr M 90 g) (by rw [km_sr_o (by decide), M51]; exact ⟨b1.1, b1.2.1⟩) Q
  have inw : ∀ k : Int, 0 ≤ k → tb (m 100 1) k = true → k < m 5 1 := fun k k0 hk => by
    by_cases z : k < m 5 1
    · exact z
    · by_cases z2 : k < 10
      · rw [e3 k (by omega) z2] at hk; cases hk
      · rw [tb_big hw (by omega)] at hk; cases hk
  -- the loop over the sets
  have hP : ∀ a : Int, 0 ≤ a → a < 10 → ten (km_up (km_sr M 90 g) 92 0 0 90 a) := fun a a0 a1 => by
    rw [km_up_ne (by omega), km_sr_s]; exact (g1 a a0 a1).1
  have hR : kPR (km_up (km_sr M 90 g) 92 0 0 90) (m 100 1) (kbR m) := fun a i a0 ai i1 ta ti => by
    rw [km_up_ne (by omega), km_sr_s, (g1 a a0 (by omega)).2 i (by omega)]
    unfold kpd kbD kbR
    have := inw i (by omega) ti
    constructor
    · rintro (w | w)
      · omega
      · exact w.2.2.2.2.2
    · intro w
      exact Or.inr ⟨ai, a0, by omega, ti, ta, w⟩
  have e88 : km_up (km_sr M 90 g) 92 0 0 88 = m 88 := by rw [km_up_of (by decide), km_sr_of (by decide)]; exact gB 88 (by omega)
  have e89 : km_up (km_sr M 90 g) 92 0 0 89 = m 89 := by rw [km_up_of (by decide), km_sr_of (by decide)]; exact gB 89 (by omega)
  have loop : ∃ (M3 : km_Mm), (∀ b j : Int, b ≠ 92 → M3 b j = km_up (km_sr M 90 g) 92 0 0 b j) ∧ (∀ t : Int, ksb t (m 100 1) → kSC (m 88) (kbA (m 89 0) (km_wt m 11 1 (m 5 1).toNat 0 0)) (fun t => m 89 1 * kpr (kbR m) t) (M3 92 t) t) ∧ ∃ i' p8 p9 p10, ∀ Q : Option km_V → km_Al → km_Mm → Prop, (km_E M_X3_findBedding [.inr (.inr 85), .inl (m 100 1), .inr (.inr 5), .inr (.inr 102)] (km_A0 q c s) M Q ↔ km_G M_X3_findBedding 33 [some (.inr (.inr 85)), some (.inl (m 100 1)), some (.inr (.inr 5)), some (.inr (.inr 102)), some (.inl (ksm (fun a => kcnt (kbD m a) a.toNat) (m 5 1).toNat)), some (.inl (km_wt m 11 1 (m 5 1).toNat 0 0)), some (.inl 0), some (.inl i'), p8, p9, p10] [] (km_A0 q c s) M3 Q) := by
    have ns := fun (X : km_Mm) Q => @r_nextSet q c s X 0 (m 100 1) (by decide) (by decide) hw.1 (by omega) Q
    have z0 : kSC (m 88) (kbA (m 89 0) (km_wt m 11 1 (m 5 1).toNat 0 0)) (fun t => m 89 1 * kpr (kbR m) t) (km_up (km_sr M 90 g) 92 0 0 92 0) 0 := by
      rw [km_up_eq ⟨rfl, rfl⟩]
      refine ⟨fun _ => ?_, fun w => absurd w kfd_0⟩
      show 0 = kbA _ _ 0 - m 89 1 * kpr (kbR m) 0
      rw [kbA_0 ws.1, kpr_0, Int.mul_zero]; rfl
    have w7 : (7 : Int) + 4 = 11 := rfl
    rcases ksb_next hw (ksb_0 (w := m 100 1)) with ⟨a1, a2⟩ | ⟨a1, a2, a3⟩
    · refine ⟨km_up (km_sr M 90 g) 92 0 0, fun _ _ _ => rfl, fun t ht => ?_, 0, none, none, none, fun Q => ?_⟩
      · have := ksb_le hw ht
        have e : t = 0 := by omega
        subst e; exact z0
      · rw [e_X3_findBedding]
        simp (config := { decide := true }) (disch := first | decide | assumption | omega | (simp (config := { decide := true }) only [km_sr_sf, km_sr_of, km_up_of, km_up_o, km_upx_i, km_upx_s, km_fl2_o, ne_eq, not_true_eq_false, not_false_eq_true] <;> omega) | fail) only [g_X3_findBedding, g2, wt, w7, M51, wsM, ns, a2, ka_lt, ka_le, ka_nlt, ka_nle, ka_ne, ka_eq, Int.add_sub_cancel, true_or, or_true, false_or, or_false, false_and, and_false, if_true, if_false, ka_lo, ka_hi, ka_nn, km_sr_sf, km_sr_of, km_up_of, km_sr_us, km_sr_uo, km_sr_sr, km_sr_fl, km_sr_flo, km_up_up, km_up_lt, km_lay, km_unL, km_up_o, km_upx_i, km_upx_s, km_fl2_o, km_is, Option.some.injEq, Sum.inl.injEq, Sum.inr.injEq, Option.toList_some, Option.toList_none, List.cons_append, List.nil_append, ne_eq, true_and, and_true, and_self, not_true_eq_false, not_false_eq_true, true_implies, false_implies, reduceCtorEq]
    · have a4 := ksb_le hw a2
      obtain ⟨M3, i', p8, p9, p10, d1, d2, d3⟩ := @cl_bed33 q c s (km_up (km_sr M 90 g) 92 0 0) (m 100 1) (km_wt m 11 1 (m 5 1).toNat 0 0) (ksm (fun a => kcnt (kbD m a) a.toNat) (m 5 1).toNat) (kbR m) hw ws (by rw [e88]; exact fun a a0 a1 => (h5 a a0 a1).1) hP hR (by rw [e89]; exact p0) (by rw [e89]; exact p1) 1024 (km_and (0 - m 100 1) (m 100 1)) 0 none none none (km_up (km_sr M 90 g) 92 0 0) (by omega) a2 (by omega) (by omega) a1 (fun _ _ _ => rfl) (fun t ht htx => by
        have e : t = 0 := by
          by_cases z : t = 0
          · exact z
          · have := a3 t ht (by have := ht.1; omega); omega
        subst e; rw [e88, e89]; exact z0)
      rw [e88, e89] at d2
      refine ⟨M3, d1, d2, i', p8, p9, p10, fun Q => ?_⟩
      rw [← d3 Q, e_X3_findBedding]
      simp (config := { decide := true }) (disch := first | decide | assumption | omega | (simp (config := { decide := true }) only [km_sr_sf, km_sr_of, km_up_of, km_up_o, km_upx_i, km_upx_s, km_fl2_o, ne_eq, not_true_eq_false, not_false_eq_true] <;> omega) | fail) only [g_X3_findBedding, g2, wt, w7, M51, wsM, ns, ka_lt, ka_le, ka_nlt, ka_nle, ka_ne, ka_eq, Int.add_sub_cancel, true_or, or_true, false_or, or_false, false_and, and_false, if_true, if_false, ka_lo, ka_hi, ka_nn, km_sr_sf, km_sr_of, km_up_of, km_sr_us, km_sr_uo, km_sr_sr, km_sr_fl, km_sr_flo, km_up_up, km_up_lt, km_lay, km_unL, km_up_o, km_upx_i, km_upx_s, km_fl2_o, km_is, Option.some.injEq, Sum.inl.injEq, Sum.inr.injEq, Option.toList_some, Option.toList_none, List.cons_append, List.nil_append, ne_eq, true_and, and_true, and_self, not_true_eq_false, not_false_eq_true, true_implies, false_implies, reduceCtorEq]
  obtain ⟨M3, d1, d2, i', p8, p9, p10, d3⟩ := loop
  have d1' : ∀ b j : Int, b ≠ 92 → b ≠ 90 → M3 b j = M b j := fun b j z1 z2 => (d1 b j z1).trans (by rw [km_up_ne (fun z => z1 z.1), km_sr_o z2])
  have M385 : ∀ j, M3 85 j = m 85 j := fun j => (d1' 85 j (by decide) (by decide)).trans (by rw [gB 85 (by omega)])
  have M3102 : ∀ j, M3 102 j = m 102 j := fun j => (d1' 102 j (by decide) (by decide)).trans (by rw [gB 102 (by omega)])
  obtain ⟨M4, k1, k2, k3⟩ := @cl_noteMovers q c s M3 (by rw [M385]; omega)
  rw [M385] at k2
  have fr4 : ∀ b j : Int, b ≠ 92 → b ≠ 90 → b ≠ 91 → M4 b j = M b j := fun b j z1 z2 z3 => (k1 b j z3).trans (d1' b j z1 z2)
  have M486 : ∀ j, M4 86 j = m 86 j := fun j => (fr4 86 j (by decide) (by decide) (by decide)).trans (by rw [gB 86 (by omega)])
  have M489 : ∀ j, M4 89 j = m 89 j := fun j => (fr4 89 j (by decide) (by decide) (by decide)).trans (by rw [gB 89 (by omega)])
  have M491 : ∀ r : Int, 0 ≤ r → r < m 85 0 → M4 91 r = kset (fun i => m 102 i ≠ -1 ∧ m 102 i ≠ r) 10 := fun r r0 r1 => by
    rw [k2 r r0 r1]; congr 1; funext i; rw [M3102]
  have M492 : ∀ t : Int, M4 92 t = M3 92 t := fun t => k1 92 t (by decide)
  have hH4 : kHs M4 (m 100 1) 86 (m 85 0).toNat (kbX m) (kbFt m) := by
    refine ⟨⟨fun p t h => kbX_b hw ⟨b1.1, b1.2.1⟩ h6' h.1, fun p t h => by rw [M486]; exact h.2.1⟩, fun j j0 j1 => ⟨?_, ?_⟩, by rw [M489]; exact p2, fun t ht => ?_, fun p t q0 q1 ht => ?_, fun p t q0 q1 ht => ?_⟩
    · rw [M486]; have := (h2 j j0 (by omega)).2; omega
    · rw [M491 j j0 (by omega)]; exact kset_ten 10 (by decide)
    all_goals (
      have tt := ksb_ten hw ht
      have kA := kbA_b p0 tt ws.1
      have kB := @kpr_b (kbR m) t
      have kB' := kmul_b p1.1 p1.2 kB.1 kB.2
      have sc := d2 t ht
      have sb := kSC_b kA.1 kA.2 kB'.1 kB'.2 sc)
    · rw [M492]; omega
    all_goals (
      have e91 := M491 p q0 (by omega)
      have kp := @kpop_b (km_and t (kset (fun i => m 102 i ≠ -1 ∧ m 102 i ≠ p) 10))
      have kp' := kmul_b p2.1 p2.2 kp.1 kp.2
      unfold kpc
      rw [M486, M489, M492, e91])
    · unfold kSC at sc
      dsimp only at sc
      refine ⟨fun h => ?_, fun h => ?_⟩
      · rw [if_neg (by have := h.2.1; omega), sc.1 h.2.2]; rfl
      · by_cases z : m 86 p < km_pop t
        · rw [if_pos z]; decide
        · rw [if_neg z]
          have : kfd (m 88) t := Classical.byContradiction fun w => h ⟨ht, by omega, w⟩
          have := sc.2 this
          omega
    · split <;> omega
  obtain ⟨v, M5, a1, a2, a3, a4⟩ := @cl_arrange q c s M4 (m 100 1) 86 (m 85 0).toNat (kbX m) (kbFt m) hw ⟨by decide, by simp (config := { decide := true }) only [km_lay, km_unL, km_up_o, km_upx_i, km_upx_s, km_fl2_o, km_is, Option.some.injEq, Sum.inl.injEq, Sum.inr.injEq, Option.toList_some, Option.toList_none, List.cons_append, List.nil_append, ne_eq, true_and, and_true, and_self, not_true_eq_false, not_false_eq_true, true_implies, false_implies, reduceCtorEq], by simp (config := { decide := true }) only [km_lay, km_unL, km_up_o, km_upx_i, km_upx_s, km_fl2_o, km_is, Option.some.injEq, Sum.inl.injEq, Sum.inr.injEq, Option.toList_some, Option.toList_none, List.cons_append, List.nil_append, ne_eq, true_and, and_true, and_self, not_true_eq_false, not_false_eq_true, true_implies, false_implies, reduceCtorEq]; omega⟩ (by omega) hH4
  refine ⟨v, M5, fun b j z1 z2 => (a1 b j (by omega) z2).trans (fr4 b j (by omega) (by omega) (by omega)), a2, a3, fun Q => ?_⟩
  have nn : ((m 85 0).toNat : Int) = m 85 0 := by omega
  rw [nn] at a4
  have cc := @ksm_kb (kbD m) (m 5 1).toNat (by omega)
  have cb := kmul_b p1.1 p1.2 cc.1 (show _ ≤ (90 : Int) by omega)
  have vb : -100000 ≤ v ∧ v ≤ 2000000 := by
    rcases a2 with w | w
    · have := kdD_b (fun p t h => hH4.1.1 p t h) _ _ _ _ w; omega
    · omega
  have M489' : M5 89 = m 89 := funext fun j => (a1 89 j (by decide) (by decide)).trans (M489 j)
  have M485 : M4 85 0 = m 85 0 := (k1 85 0 (by decide)).trans (M385 0)
  rw [d3, g_X3_findBedding_33]
  by_cases z : 500000 < v
  · rw [if_pos z]
    simp (config := { decide := true }) (disch := first | decide | assumption | omega | (simp (config := { decide := true }) only [km_sr_sf, km_sr_of, km_up_of, km_up_o, km_upx_i, km_upx_s, km_fl2_o, ne_eq, not_true_eq_false, not_false_eq_true] <;> omega) | fail) only [g_X3_findBedding, k3, M485, a4, ka_lt, ka_le, ka_nlt, ka_nle, ka_ne, ka_eq, Int.add_sub_cancel, true_or, or_true, false_or, or_false, false_and, and_false, if_true, if_false, ka_lo, ka_hi, ka_nn, km_sr_sf, km_sr_of, km_up_of, km_sr_us, km_sr_uo, km_sr_sr, km_sr_fl, km_sr_flo, km_up_up, km_up_lt, km_lay, km_unL, km_up_o, km_upx_i, km_upx_s, km_fl2_o, km_is, Option.some.injEq, Sum.inl.injEq, Sum.inr.injEq, Option.toList_some, Option.toList_none, List.cons_append, List.nil_append, ne_eq, true_and, and_true, and_self, not_true_eq_false, not_false_eq_true, true_implies, false_implies, reduceCtorEq]
  · rw [if_neg z]
    simp (config := { decide := true }) (disch := first | decide | assumption | omega | (simp (config := { decide := true }) only [km_sr_sf, km_sr_of, km_up_of, km_up_o, km_upx_i, km_upx_s, km_fl2_o, ne_eq, not_true_eq_false, not_false_eq_true] <;> omega) | fail) only [g_X3_findBedding, k3, M485, a4, M489', ka_lt, ka_le, ka_nlt, ka_nle, ka_ne, ka_eq, Int.add_sub_cancel, true_or, or_true, false_or, or_false, false_and, and_false, if_true, if_false, ka_lo, ka_hi, ka_nn, km_sr_sf, km_sr_of, km_up_of, km_sr_us, km_sr_uo, km_sr_sr, km_sr_fl, km_sr_flo, km_up_up, km_up_lt, km_lay, km_unL, km_up_o, km_upx_i, km_upx_s, km_fl2_o, km_is, Option.some.injEq, Sum.inl.injEq, Sum.inr.injEq, Option.toList_some, Option.toList_none, List.cons_append, List.nil_append, ne_eq, true_and, and_true, and_self, not_true_eq_false, not_false_eq_true, true_implies, false_implies, reduceCtorEq]
/-! seats -/
def ksR (m : km_Mm) (a i : Int) : Prop := ¬ tb (m 112 a) i = true
noncomputable def ksX (m : km_Mm) (_ t : Int) : Int := - kpr (ksR m) t
def ksU (m : km_Mm) (t : Int) : Int := kdn (km_wt m 10 0 (m 5 1).toNat 0 0) (km_wt m 10 1 (m 5 1).toNat 0 0) (km_wt m 10 2 (m 5 1).toNat 0 0) (km_wt m 10 3 (m 5 1).toNat 0 0) t
def ksF (m : km_Mm) (p t : Int) : Prop := ksb t (m 100 1) ∧ km_pop t ≤ m 87 p ∧ ¬ kfd (m 88) t ∧ ksU m t ≤ m 89 3
theorem kdn_0 {a b d e : Int} (ha : 0 ≤ a) (hb : 0 ≤ b) (hd : 0 ≤ d) (he : 0 ≤ e) : kdn a b d e 0 = 0 := by
  have z : ∀ x : Int, 0 ≤ x → km_and 0 x = 0 := fun x hx => by rw [ks_and (by decide) (by decide) hx]; simp
  unfold kdn
  rw [z a ha, z b hb, z d hd, z e he]; rfl
theorem cl_findSeating {q : Nat × Int × Int × Int × Int} {c s : Nat} {m M : km_Mm} (hb : kI_book m) (hH : kI_house m) (hE : kI_meet m) (hj : km_jk m M) :
    ∃ (v : Int) (M' : km_Mm), (∀ b j : Int, ¬ (90 ≤ b ∧ b ≤ 93) → ¬ (95 ≤ b ∧ b ≤ 99) → M' b j = M b j) ∧ kdE (ksX m) (ksF m) (m 85 2).toNat 0 (m 100 1) v ∧ (kdD (ksX m) (ksF m) (m 85 2).toNat 0 (m 100 1) v → kdS (ksX m) (ksF m) (M' 99) (m 85 2).toNat 0 (m 100 1)) ∧ ∀ Q : Option km_V → km_Al → km_Mm → Prop, (km_E M_X3_findSeating [.inr (.inr 85), .inl (m 100 1), .inr (.inr 5), .inr (.inr 112)] (km_A0 q c s) M Q ↔ Q (some (.inl (if 500000 < v then -1 else -v))) (km_A0 q c s) M') := by
  have b1 := hb.1
  obtain ⟨h1, h2, h3, h4, h5, h6, h7, h8⟩ := hH
  obtain ⟨e1, ⟨e2, hw, e3⟩, -, -, -, -, -, e9, -⟩ := hE
  have gB : ∀ b : Int, (12 ≤ b ∧ b ≤ 15) ∨ (7 ≤ b ∧ b ≤ 11) ∨ (85 ≤ b ∧ b ≤ 89) ∨ (100 ≤ b ∧ b ≤ 112) → M b = m b := fun b hb => funext fun j => hj b j (kJ_no (by omega))
  have M51 : M 5 1 = m 5 1 := hj 5 1 (by unfold kJ; omega)
  have p2 := (h6 2 (by decide) (by decide)).2
  have hw' := hw
  unfold ten at hw'
  obtain ⟨M1, c1, c2, c3⟩ := @cl_seat3 q c s M (m 100 1) 10 0 M (by omega) (fun _ _ _ => rfl) (fun j j0 j1 => by omega)
  rw [show ((0 : Nat) : Int) = 0 from rfl] at c3
  have c2' : ∀ j : Int, 0 ≤ j → j < 10 → M1 90 j = km_and (m 100 1) (km_xor (m 112 j) (-1)) := fun j j0 j1 => by rw [c2 j j0 j1, gB 112 (by omega)]
  have hP : ∀ a : Int, 0 ≤ a → a < 10 → ten (km_up M1 92 0 0 90 a) := fun a a0 a1 => by
    rw [km_up_ne (by omega), c2' a a0 a1]; exact ten_andn hw (e9 a a0 a1)
  have hR : kPR (km_up M1 92 0 0 90) (m 100 1) (ksR m) := fun a i a0 ai i1 ta ti => by
    rw [km_up_ne (by omega), c2' a a0 (by omega), tb_andn hw (e9 a a0 (by omega)), ti]
    unfold ksR
    cases tb (m 112 a) i <;> simp
  have e88 : km_up M1 92 0 0 88 = m 88 := by rw [km_up_of (by decide), ← gB 88 (by omega)]; exact funext fun j => c1 88 j (by decide)
  have loop : ∃ (M3 : km_Mm), (∀ b j : Int, b ≠ 92 → M3 b j = km_up M1 92 0 0 b j) ∧ (∀ t : Int, ksb t (m 100 1) → kSC (m 88) (fun _ => 0) (kpr (ksR m)) (M3 92 t) t) ∧ ∃ i' p6 p7, ∀ Q : Option km_V → km_Al → km_Mm → Prop, (km_E M_X3_findSeating [.inr (.inr 85), .inl (m 100 1), .inr (.inr 5), .inr (.inr 112)] (km_A0 q c s) M Q ↔ km_G M_X3_findSeating 48 [some (.inr (.inr 85)), some (.inl (m 100 1)), some (.inr (.inr 5)), some (.inr (.inr 112)), some (.inl 0), some (.inl i'), p6, p7] [] (km_A0 q c s) M3 Q) := by
    have ns := fun (X : km_Mm) Q => @r_nextSet q c s X 0 (m 100 1) (by decide) (by decide) hw.1 (by omega) Q
    have z0 : kSC (m 88) (fun _ => 0) (kpr (ksR m)) (km_up M1 92 0 0 92 0) 0 := by
      rw [km_up_eq ⟨rfl, rfl⟩]
      refine ⟨fun _ => ?_, fun w => absurd w kfd_0⟩
      rw [kpr_0]; rfl
    rcases ksb_next hw (ksb_0 (w := m 100 1)) with ⟨a1, a2⟩ | ⟨a1, a2, a3⟩
    · refine ⟨km_up M1 92 0 0, fun _ _ _ => rfl, fun t ht => ?_, 0, none, none, fun Q => ?_⟩
      · have := ksb_le hw ht
        have e : t = 0 := by omega
        subst e; exact z0
      · rw [e_X3_findSeating]
        simp (config := { decide := true }) (disch := first | decide | assumption | omega | (simp (config := { decide := true }) only [km_sr_sf, km_sr_of, km_up_of, km_up_o, km_upx_i, km_upx_s, km_fl2_o, ne_eq, not_true_eq_false, not_false_eq_true] <;> omega) | fail) only [g_X3_findSeating, c3, ka_lt, ka_le, ka_nlt, ka_nle, ka_ne, ka_eq, Int.add_sub_cancel, true_or, or_true, false_or, or_false, false_and, and_false, if_true, if_false, ka_lo, ka_hi, ka_nn, km_sr_sf, km_sr_of, km_up_of, km_sr_us, km_sr_uo, km_sr_sr, km_sr_fl, km_sr_flo, km_up_up, km_up_lt, km_lay, km_unL, km_up_o, km_upx_i, km_upx_s, km_fl2_o, km_is, Option.some.injEq, Sum.inl.injEq, Sum.inr.injEq, Option.toList_some, Option.toList_none, List.cons_append, List.nil_append, ne_eq, true_and, and_true, and_self, not_true_eq_false, not_false_eq_true, true_implies, false_implies, reduceCtorEq]
        rw [g_X3_findSeating_3]
        simp (config := { decide := true }) (disch := first | decide | assumption | omega | (simp (config := { decide := true }) only [km_sr_sf, km_sr_of, km_up_of, km_up_o, km_upx_i, km_upx_s, km_fl2_o, ne_eq, not_true_eq_false, not_false_eq_true] <;> omega) | fail) only [g_X3_findSeating, ns, a2, ka_lt, ka_le, ka_nlt, ka_nle, ka_ne, ka_eq, Int.add_sub_cancel, true_or, or_true, false_or, or_false, false_and, and_false, if_true, if_false, ka_lo, ka_hi, ka_nn, km_sr_sf, km_sr_of, km_up_of, km_sr_us, km_sr_uo, km_sr_sr, km_sr_fl, km_sr_flo, km_up_up, km_up_lt, km_lay, km_unL, km_up_o, km_upx_i, km_upx_s, km_fl2_o, km_is, Option.some.injEq, Sum.inl.injEq, Sum.inr.injEq, Option.toList_some, Option.toList_none, List.cons_append, List.nil_append, ne_eq, true_and, and_true, and_self, not_true_eq_false, not_false_eq_true, true_implies, false_implies, reduceCtorEq]
    · have a4 := ksb_le hw a2
      obtain ⟨M3, i', p6, p7, d1, d2, d3⟩ := @cl_seat48 q c s (km_up M1 92 0 0) (m 100 1) (ksR m) hw (by rw [e88]; exact fun a a0 a1 => (h5 a a0 a1).1) hP hR 1024 (km_and (0 - m 100 1) (m 100 1)) 0 none none (km_up M1 92 0 0) (by omega) a2 (by omega) (by omega) a1 (fun _ _ _ => rfl) (fun t ht htx => by
        have e : t = 0 := by
          by_cases z : t = 0
          · exact z
          · have := a3 t ht (by have := ht.1; omega); omega
        subst e; rw [e88]; exact z0)
      rw [e88] at d2
      refine ⟨M3, d1, d2, i', p6, p7, fun Q => ?_⟩
      rw [← d3 Q, e_X3_findSeating]
      simp (config := { decide := true }) (disch := first | decide | assumption | omega | (simp (config := { decide := true }) only [km_sr_sf, km_sr_of, km_up_of, km_up_o, km_upx_i, km_upx_s, km_fl2_o, ne_eq, not_true_eq_false, not_false_eq_true] <;> omega) | fail) only [g_X3_findSeating, c3, ka_lt, ka_le, ka_nlt, ka_nle, ka_ne, ka_eq, Int.add_sub_cancel, true_or, or_true, false_or, or_false, false_and, and_false, if_true, if_false, ka_lo, ka_hi, ka_nn, km_sr_sf, km_sr_of, km_up_of, km_sr_us, km_sr_uo, km_sr_sr, km_sr_fl, km_sr_flo, km_up_up, km_up_lt, km_lay, km_unL, km_up_o, km_upx_i, km_upx_s, km_fl2_o, km_is, Option.some.injEq, Sum.inl.injEq, Sum.inr.injEq, Option.toList_some, Option.toList_none, List.cons_append, List.nil_append, ne_eq, true_and, and_true, and_self, not_true_eq_false, not_false_eq_true, true_implies, false_implies, reduceCtorEq]
      rw [g_X3_findSeating_3]
      simp (config := { decide := true }) (disch := first | decide | assumption | omega | (simp (config := { decide := true }) only [km_sr_sf, km_sr_of, km_up_of, km_up_o, km_upx_i, km_upx_s, km_fl2_o, ne_eq, not_true_eq_false, not_false_eq_true] <;> omega) | fail) only [g_X3_findSeating, ns, ka_lt, ka_le, ka_nlt, ka_nle, ka_ne, ka_eq, Int.add_sub_cancel, true_or, or_true, false_or, or_false, false_and, and_false, if_true, if_false, ka_lo, ka_hi, ka_nn, km_sr_sf, km_sr_of, km_up_of, km_sr_us, km_sr_uo, km_sr_sr, km_sr_fl, km_sr_flo, km_up_up, km_up_lt, km_lay, km_unL, km_up_o, km_upx_i, km_upx_s, km_fl2_o, km_is, Option.some.injEq, Sum.inl.injEq, Sum.inr.injEq, Option.toList_some, Option.toList_none, List.cons_append, List.nil_append, ne_eq, true_and, and_true, and_self, not_true_eq_false, not_false_eq_true, true_implies, false_implies, reduceCtorEq]
  obtain ⟨M3, d1, d2, i', p6, p7, d3⟩ := loop
  have d1' : ∀ b j : Int, b ≠ 92 → b ≠ 90 → M3 b j = M b j := fun b j z1 z2 => (d1 b j z1).trans (by rw [km_up_ne (fun z => z1 z.1)]; exact c1 b j z2)
  have M3g : ∀ b : Int, b = 5 ∨ b = 10 ∨ (85 ≤ b ∧ b ≤ 89) → (b = 5 → ∀ j, j = 1 → M3 b j = m b j) ∧ (b ≠ 5 → M3 b = m b) := fun b hb => ⟨fun e j ej => by subst e; subst ej; exact (d1' 5 1 (by decide) (by decide)).trans M51, fun e => funext fun j => (d1' b j (by omega) (by omega)).trans (by rw [gB b (by omega)])⟩
  have M351 := (M3g 5 (by omega)).1 rfl 1 rfl
  have M310 := (M3g 10 (by omega)).2 (by decide)
  have M389 := (M3g 89 (by omega)).2 (by decide)
  have M385 := (M3g 85 (by omega)).2 (by decide)
  obtain ⟨M4, k1, k2, k3⟩ := @cl_forbidDiets q c s M3 (m 100 1) (by rw [M351]; exact ⟨b1.1, b1.2.1⟩) hw
  have wcg : ∀ v : Int, km_wt M3 10 v (M3 5 1).toNat 0 0 = km_wt m 10 v (m 5 1).toNat 0 0 := fun v => by
    rw [M351]; exact km_wt_cg (fun k _ _ => by rw [M310]) _ _ _ (by decide) (by omega)
  have wtn : ∀ v : Int, ten (km_wt m 10 v (m 5 1).toNat 0 0) := fun v => (km_wt_b (m := m) (a := 10) (v := v) (m 5 1).toNat 0 0 (by decide) (by omega) ten_0).1
  have k2' : ∀ t : Int, ksb t (m 100 1) → M4 92 t = if m 89 3 < ksU m t then 1000000 else M3 92 t := fun t ht => by
    rw [k2 t ht, wcg, wcg, wcg, wcg, M389]
    show (if t ≠ 0 ∧ m 89 3 < ksU m t then _ else _) = _
    by_cases z : t = 0
    · subst z
      have : ksU m 0 = 0 := kdn_0 (wtn 0).1 (wtn 1).1 (wtn 2).1 (wtn 3).1
      rw [if_neg (fun w => w.1 rfl), this, if_neg (by omega)]
    · by_cases y : m 89 3 < ksU m t
      · rw [if_pos ⟨z, y⟩, if_pos y]
      · rw [if_neg (fun w => y w.2), if_neg y]
  have fil := fun Q => @r_fill q c s M4 91 0 4 (by decide) (by simp (config := { decide := true }) only [km_lay, km_unL, km_up_o, km_upx_i, km_upx_s, km_fl2_o, km_is, Option.some.injEq, Sum.inl.injEq, Sum.inr.injEq, Option.toList_some, Option.toList_none, List.cons_append, List.nil_append, ne_eq, true_and, and_true, and_self, not_true_eq_false, not_false_eq_true, true_implies, false_implies, reduceCtorEq]) (by simp (config := { decide := true }) only [km_lay, km_unL, km_up_o, km_upx_i, km_upx_s, km_fl2_o, km_is, Option.some.injEq, Sum.inl.injEq, Sum.inr.injEq, Option.toList_some, Option.toList_none, List.cons_append, List.nil_append, ne_eq, true_and, and_true, and_self, not_true_eq_false, not_false_eq_true, true_implies, false_implies, reduceCtorEq]) (by simp (config := { decide := true }) only [km_lay, km_unL, km_up_o, km_upx_i, km_upx_s, km_fl2_o, km_is, Option.some.injEq, Sum.inl.injEq, Sum.inr.injEq, Option.toList_some, Option.toList_none, List.cons_append, List.nil_append, ne_eq, true_and, and_true, and_self, not_true_eq_false, not_false_eq_true, true_implies, false_implies, reduceCtorEq]) (by decide) Q
  have fr4 : ∀ b j : Int, b ≠ 92 → b ≠ 90 → b ≠ 91 → km_fl2 M4 91 0 4 0 b j = M b j := fun b j z1 z2 z3 => by rw [km_fl2_o z3]; exact (k1 b j z1).trans (d1' b j z1 z2)
  have M587 : ∀ j, km_fl2 M4 91 0 4 0 87 j = m 87 j := fun j => (fr4 87 j (by decide) (by decide) (by decide)).trans (by rw [gB 87 (by omega)])
  have M589 : ∀ j, km_fl2 M4 91 0 4 0 89 j = m 89 j := fun j => (fr4 89 j (by decide) (by decide) (by decide)).trans (by rw [gB 89 (by omega)])
  have M592 : ∀ t : Int, km_fl2 M4 91 0 4 0 92 t = M4 92 t := fun t => km_fl2_o (by decide)
  have M591 : ∀ p : Int, 0 ≤ p → p < 4 → km_fl2 M4 91 0 4 0 91 p = 0 := fun p q0 q1 => by unfold km_fl2; rw [if_pos ⟨rfl, q0, q1⟩]
  have hH4 : kHs (km_fl2 M4 91 0 4 0) (m 100 1) 87 (m 85 2).toNat (ksX m) (ksF m) := by
    refine ⟨⟨fun p t h => by have := @kpr_b (ksR m) t; unfold ksX; omega, fun p t h => by rw [M587]; exact h.2.1⟩, fun j j0 j1 => ⟨?_, ?_⟩, by rw [M589]; exact p2, fun t ht => ?_, fun p t q0 q1 ht => ?_, fun p t q0 q1 ht => ?_⟩
    · rw [M587]; have := (h4 j j0 (by omega)).2; omega
    · rw [M591 j j0 (by omega)]; decide
    all_goals (
      have tt := ksb_ten hw ht
      have kB := @kpr_b (ksR m) t
      have sc := d2 t ht
      have sb := kSC_b (by decide) (by decide) kB.1 (by omega) sc
      have k2t := k2' t ht)
    · rw [M592, k2t]; split <;> omega
    all_goals (
      have e91 := M591 p q0 (by omega)
      have z0 : km_and t 0 = 0 := by rw [ks_and tt.1 (by unfold ten at tt; omega) (by decide)]; simp
      have zp : km_pop 0 = 0 := by decide
      unfold kpc
      rw [M587, M589, M592, e91, z0, zp, Int.mul_zero, Int.add_zero, k2t])
    · unfold kSC at sc
      dsimp only at sc
      refine ⟨fun h => ?_, fun h => ?_⟩
      · rw [if_neg (by have := h.2.1; omega), if_neg (by have := h.2.2.2; omega), sc.1 h.2.2.1]; unfold ksX; omega
      · by_cases z : m 87 p < km_pop t
        · rw [if_pos z]; decide
        · rw [if_neg z]
          by_cases y : m 89 3 < ksU m t
          · rw [if_pos y]; decide
          · rw [if_neg y]
            have : kfd (m 88) t := Classical.byContradiction fun w => h ⟨ht, by omega, w, by omega⟩
            have := sc.2 this
            omega
    · split
      · decide
      · split <;> omega
  obtain ⟨v, M5, a1, a2, a3, a4⟩ := @cl_arrange q c s (km_fl2 M4 91 0 4 0) (m 100 1) 87 (m 85 2).toNat (ksX m) (ksF m) hw ⟨by decide, by simp (config := { decide := true }) only [km_lay, km_unL, km_up_o, km_upx_i, km_upx_s, km_fl2_o, km_is, Option.some.injEq, Sum.inl.injEq, Sum.inr.injEq, Option.toList_some, Option.toList_none, List.cons_append, List.nil_append, ne_eq, true_and, and_true, and_self, not_true_eq_false, not_false_eq_true, true_implies, false_implies, reduceCtorEq], by simp (config := { decide := true }) only [km_lay, km_unL, km_up_o, km_upx_i, km_upx_s, km_fl2_o, km_is, Option.some.injEq, Sum.inl.injEq, Sum.inr.injEq, Option.toList_some, Option.toList_none, List.cons_append, List.nil_append, ne_eq, true_and, and_true, and_self, not_true_eq_false, not_false_eq_true, true_implies, false_implies, reduceCtorEq]; omega⟩ (by omega) hH4
  refine ⟨v, M5, fun b j z1 z2 => (a1 b j (by omega) z2).trans (fr4 b j (by omega) (by omega) (by omega)), a2, a3, fun Q => ?_⟩
  have nn : ((m 85 2).toNat : Int) = m 85 2 := by omega
  rw [nn] at a4
  have vb : -100000 ≤ v ∧ v ≤ 2000000 := by
    rcases a2 with w | w
    · have := kdD_b (fun p t h => hH4.1.1 p t h) _ _ _ _ w; omega
    · omega
  have M585 : km_fl2 M4 91 0 4 0 85 2 = m 85 2 := (fr4 85 2 (by decide) (by decide) (by decide)).trans (by rw [gB 85 (by omega)])
  rw [d3, g_X3_findSeating_48]
  by_cases z : 500000 < v
  · rw [if_pos z]
    simp (config := { decide := true }) (disch := first | decide | assumption | omega | (simp (config := { decide := true }) only [km_sr_sf, km_sr_of, km_up_of, km_up_o, km_upx_i, km_upx_s, km_fl2_o, ne_eq, not_true_eq_false, not_false_eq_true] <;> omega) | fail) only [g_X3_findSeating, k3, fil, M585, a4, ka_lt, ka_le, ka_nlt, ka_nle, ka_ne, ka_eq, Int.add_sub_cancel, true_or, or_true, false_or, or_false, false_and, and_false, if_true, if_false, ka_lo, ka_hi, ka_nn, km_sr_sf, km_sr_of, km_up_of, km_sr_us, km_sr_uo, km_sr_sr, km_sr_fl, km_sr_flo, km_up_up, km_up_lt, km_lay, km_unL, km_up_o, km_upx_i, km_upx_s, km_fl2_o, km_is, Option.some.injEq, Sum.inl.injEq, Sum.inr.injEq, Option.toList_some, Option.toList_none, List.cons_append, List.nil_append, ne_eq, true_and, and_true, and_self, not_true_eq_false, not_false_eq_true, true_implies, false_implies, reduceCtorEq]
  · rw [if_neg z]
    simp (config := { decide := true }) (disch := first | decide | assumption | omega | (simp (config := { decide := true }) only [km_sr_sf, km_sr_of, km_up_of, km_up_o, km_upx_i, km_upx_s, km_fl2_o, ne_eq, not_true_eq_false, not_false_eq_true] <;> omega) | fail) only [g_X3_findSeating, k3, fil, M585, a4, ka_lt, ka_le, ka_nlt, ka_nle, ka_ne, ka_eq, Int.add_sub_cancel, true_or, or_true, false_or, or_false, false_and, and_false, if_true, if_false, ka_lo, ka_hi, ka_nn, km_sr_sf, km_sr_of, km_up_of, km_sr_us, km_sr_uo, km_sr_sr, km_sr_fl, km_sr_flo, km_up_up, km_up_lt, km_lay, km_unL, km_up_o, km_upx_i, km_upx_s, km_fl2_o, km_is, Option.some.injEq, Sum.inl.injEq, Sum.inr.injEq, Option.toList_some, Option.toList_none, List.cons_append, List.nil_append, ne_eq, true_and, and_true, and_self, not_true_eq_false, not_false_eq_true, true_implies, false_implies, reduceCtorEq]

