/-! ===== promise 23: owes ===== -/
section FD
variable {q q' : Nat × Int × Int × Int × Int} {c s : Nat} {m C M X X' Y Z : km_Mm} {N o o1 p p1 b b1 P p' k w : Int}
theorem m_div3 (h : kI0 N m) : ∀ (n i : Nat) (Y : km_Mm) (o9 o10 : Option km_V), (i : Int) + n = m 5 1 → kMj m Y → (∀ j : Int, 0 ≤ j → j < m 5 1 → Y 174 j = kwA m b j) → (∀ j : Int, 0 ≤ j → j < m 5 1 → Y 175 j = if j < i then kSf m b j else kS0 m b j) → (∀ j : Int, 0 ≤ j → j < i → Y 176 j = kBl m b j) → ∃ (Z : km_Mm), (∀ d j : Int, d ≠ 175 → d ≠ 176 → Z d j = Y d j) ∧ (∀ j : Int, 0 ≤ j → j < m 5 1 → Z 175 j = kSf m b j ∧ Z 176 j = kBl m b j) ∧ ∀ Q : Option km_V → km_Al → km_Mm → Prop, km_G M_X12_share 200 [some (.inr (.inr 123)), some (.inr (.inl (kDrM m b))), none, some (.inr (.inl (kPd m))), none, some (.inl (if kTo m b = 0 then 1 else 0)), some (.inr (.inl (kLf m b i))), none, some (.inl (i : Int)), o9, o10] [] (km_A0 q c s) Y Q ↔ Q none (km_A0 q c s) Z := by
  have f1 := h.1.1
  have hE := h.2.2.2.2.2.2.2.1
  have hT := h.2.2.1
  intro n
  induction n with
  | zero =>
    intro i Y o9 o10 hi hY hW hs hb
    have z : ¬ (i : Int) < m 5 1 := by omega
    have Y3 : Y 123 3 = m 5 1 := (hY 123 3 (by decide) (by unfold kJ; omega)).trans f1.2.2
    refine ⟨Y, fun _ _ _ _ => rfl, fun j j0 j1 => ⟨by rw [hs j j0 j1, if_pos (by omega)], hb j j0 (by omega)⟩, fun Q => ?_⟩
    rw [g_X12_share_200]
    simp (config := { decide := true }) (disch := first | decide | assumption | omega | (simp (config := { decide := true }) only [km_sr_sf, km_sr_of, km_up_of, km_up_o, km_upx_i, km_upx_s, km_fl2_o, ne_eq, not_true_eq_false, not_false_eq_true] <;> omega) | fail) only [g_X12_share, Y3, z, ka_lt, ka_le, ka_nlt, ka_nle, ka_ne, ka_eq, Int.add_sub_cancel, true_or, or_true, false_or, or_false, false_and, and_false, if_true, if_false, ka_lo, ka_hi, ka_nn, km_sr_sf, km_sr_of, km_up_of, km_sr_us, km_sr_uo, km_sr_sr, km_sr_fl, km_sr_flo, km_up_up, km_up_lt, km_lay, km_unL, km_up_o, km_upx_i, km_upx_s, km_fl2_o, km_is, Option.some.injEq, Sum.inl.injEq, Sum.inr.injEq, Option.toList_some, Option.toList_none, List.cons_append, List.nil_append, ne_eq, true_and, and_true, and_self, not_true_eq_false, not_false_eq_true, true_implies, false_implies, reduceCtorEq]
  | succ n ih =>
    intro i Y o9 o10 hi hY hW hs hb
    have z : (i : Int) < m 5 1 := by omega
    have i10 : (i : Int) < 10 := by omega
    have i0 : (0 : Int) ≤ i := by omega
    have Y3 : Y 123 3 = m 5 1 := (hY 123 3 (by decide) (by unfold kJ; omega)).trans f1.2.2
    obtain ⟨⟨s0, s1⟩, t0, t1⟩ := kS0_b (b := b) hT hE i0 i10
    have bl := kLf_b (b := b) hT hE i
    have br := (hE.2.2.2.1 i i0 i10).1
    have e1 : ((i + 1 : Nat) : Int) = (i : Int) + 1 := by omega
    have xi := hW i i0 z
    have x5 : Y 175 i = kS0 m b i := by rw [hs i i0 z, if_neg (by omega)]
    have xr : Y 170 i = m 101 i := (hY 170 i (by decide) (by unfold kJ; omega)).trans ((hE.2.2.2.1 i i0 i10).2.1 z)
    have tn : ((i : Int)).toNat = i := by omega
    have gi := fun (Y' : km_Mm) (hy : ∀ d j : Int, d ≠ 175 → Y' d j = Y d j) Q => @md_isGuest q c s m Y' i hE f1.2.1 ((hy _ _ (by decide)).trans (hY 123 80 (by decide) (by unfold kJ; omega))) ((hy _ _ (by decide)).trans (hY 123 82 (by decide) (by unfold kJ; omega))) ((hy _ _ (by decide)).trans Y3) Q
    -- the step, whatever is paid
    have main : ∀ (v : Int) (py : Int), v = kSf m b i → ∃ (Z : km_Mm), (∀ d j : Int, d ≠ 175 → d ≠ 176 → Z d j = Y d j) ∧ (∀ j : Int, 0 ≤ j → j < m 5 1 → Z 175 j = kSf m b j ∧ Z 176 j = kBl m b j) ∧ ∀ Q : Option km_V → km_Al → km_Mm → Prop, km_G M_X12_share 200 [some (.inr (.inr 123)), some (.inr (.inl (kDrM m b))), none, some (.inr (.inl (kPd m))), none, some (.inl (if kTo m b = 0 then 1 else 0)), some (.inr (.inl (kLf m b (i + 1)))), none, some (.inl ((i : Int) + 1)), some (.inl py), o10] [] (km_A0 q c s) (km_up (km_up Y 175 i v) 176 i (kBl m b i)) Q ↔ Q none (km_A0 q c s) Z := fun v py ev => by
      subst ev
      obtain ⟨Y1, d1⟩ : ∃ Y1 : km_Mm, Y1 = km_up (km_up Y 175 i (kSf m b i)) 176 i (kBl m b i) := ⟨_, rfl⟩
      have j1 : kMj m Y1 := fun d j u1 u2 => by rw [d1, km_up_ne (fun w => u2 (by unfold kJ; omega)), km_up_ne (fun w => u2 (by unfold kJ; omega))]; exact hY d j u1 u2
      obtain ⟨Z, w1, w2, w3⟩ := ih (i + 1) Y1 (some (.inl py)) o10 (by omega) j1 (fun j j0 j1 => by rw [d1, km_up_ne (by omega), km_up_ne (by omega)]; exact hW j j0 j1) (fun j j0 j1 => by
        rw [d1, km_up_ne (by omega)]
        by_cases w : j = i
        · subst w; rw [km_upx_s, if_pos (by omega)]
        · rw [km_up_ne (by omega), hs j j0 j1]
          by_cases u : j < i
          · rw [if_pos u, if_pos (by omega)]
          · rw [if_neg u, if_neg (by omega)]) (fun j j0 j1 => by
        rw [d1]
        by_cases w : j = i
        · subst w; rw [km_upx_s]
        · rw [km_up_ne (by omega), km_up_ne (by omega)]; exact hb j j0 (by omega))
      rw [e1, d1] at w3
      exact ⟨Z, fun d j u1 u2 => by rw [w1 d j u1 u2, d1, km_up_ne (by omega), km_up_ne (by omega)], w2, w3⟩
    have self : ∀ v : Int, v = kS0 m b i → km_up Y 175 i v = Y := fun v ev => by
      funext d j
      by_cases w : d = 175 ∧ j = i
      · obtain ⟨rfl, rfl⟩ := w; rw [km_upx_s, ev, x5]
      · rw [km_up_ne w]
    by_cases g : kG m i
    · have g0 := fun Q => gi Y (fun _ _ _ => rfl) Q
      simp only [if_pos g] at g0
      by_cases y1 : kPy m b i
      · by_cases y2 : 0 < kLf m b i
        · have ef : kSf m b i = kS0 m b i + 1 := by unfold kSf; rw [tn, if_pos ⟨y1, y2⟩]
          have el : kLf m b (i + 1) = kLf m b i - 1 := by rw [kLf, if_pos ⟨y1, y2⟩]
          have eb : kBl m b i = m 101 i - (kS0 m b i + 1) := by unfold kBl; rw [ef]
          obtain ⟨Z, w1, w2, w3⟩ := main (kS0 m b i + 1) 1 ef.symm
          have g2 := fun Q => gi (km_up Y 175 i (kS0 m b i + 1)) (fun d j u => km_up_ne (by omega)) Q
          simp only [if_pos g] at g2
          refine ⟨Z, w1, w2, fun Q => ?_⟩
          rw [← w3 Q, g_X12_share_200, el, eb]
          by_cases t : kTo m b = 0
          · rw [if_pos t]
            simp (config := { decide := true }) (disch := first | decide | assumption | omega | (simp (config := { decide := true }) only [km_sr_sf, km_sr_of, km_up_of, km_up_o, km_upx_i, km_upx_s, km_fl2_o, ne_eq, not_true_eq_false, not_false_eq_true] <;> omega) | fail) only [g_X12_share, Y3, z, i0, i10, g0, g2, y2, x5, xr, kl_gt, kl_le, ka_lt, ka_le, ka_nlt, ka_nle, ka_ne, ka_eq, Int.add_sub_cancel, true_or, or_true, false_or, or_false, false_and, and_false, if_true, if_false, ka_lo, ka_hi, ka_nn, km_sr_sf, km_sr_of, km_up_of, km_sr_us, km_sr_uo, km_sr_sr, km_sr_fl, km_sr_flo, km_up_up, km_up_lt, km_lay, km_unL, km_up_o, km_upx_i, km_upx_s, km_fl2_o, km_is, Option.some.injEq, Sum.inl.injEq, Sum.inr.injEq, Option.toList_some, Option.toList_none, List.cons_append, List.nil_append, ne_eq, true_and, and_true, and_self, not_true_eq_false, not_false_eq_true, true_implies, false_implies, reduceCtorEq]
          · have gt := (kPy_na t).mp y1
            rw [if_neg t]
            simp (config := { decide := true }) (disch := first | decide | assumption | omega | (simp (config := { decide := true }) only [km_sr_sf, km_sr_of, km_up_of, km_up_o, km_upx_i, km_upx_s, km_fl2_o, ne_eq, not_true_eq_false, not_false_eq_true] <;> omega) | fail) only [g_X12_share, Y3, z, i0, i10, g0, g2, y2, x5, xr, xi, gt, kl_gt, kl_le, ka_lt, ka_le, ka_nlt, ka_nle, ka_ne, ka_eq, Int.add_sub_cancel, true_or, or_true, false_or, or_false, false_and, and_false, if_true, if_false, ka_lo, ka_hi, ka_nn, km_sr_sf, km_sr_of, km_up_of, km_sr_us, km_sr_uo, km_sr_sr, km_sr_fl, km_sr_flo, km_up_up, km_up_lt, km_lay, km_unL, km_up_o, km_upx_i, km_upx_s, km_fl2_o, km_is, Option.some.injEq, Sum.inl.injEq, Sum.inr.injEq, Option.toList_some, Option.toList_none, List.cons_append, List.nil_append, ne_eq, true_and, and_true, and_self, not_true_eq_false, not_false_eq_true, true_implies, false_implies, reduceCtorEq]
        · have yy : ¬ (kPy m b i ∧ 0 < kLf m b i) := fun w => y2 w.2
          have y3 : kLf m b i ≤ 0 := by omega
          have ef : kSf m b i = kS0 m b i := by unfold kSf; rw [tn, if_neg yy, Int.add_zero]
          have el : kLf m b (i + 1) = kLf m b i := by rw [kLf, if_neg yy]
          have eb : kBl m b i = m 101 i - kS0 m b i := by unfold kBl; rw [ef]
          obtain ⟨Z, w1, w2, w3⟩ := main (kS0 m b i) 1 ef.symm
          rw [self _ rfl] at w3
          refine ⟨Z, w1, w2, fun Q => ?_⟩
          rw [← w3 Q, g_X12_share_200, el, eb]
          by_cases t : kTo m b = 0
          · rw [if_pos t]
            simp (config := { decide := true }) (disch := first | decide | assumption | omega | (simp (config := { decide := true }) only [km_sr_sf, km_sr_of, km_up_of, km_up_o, km_upx_i, km_upx_s, km_fl2_o, ne_eq, not_true_eq_false, not_false_eq_true] <;> omega) | fail) only [g_X12_share, Y3, z, i0, i10, g0, y2, y3, x5, xr, kl_gt, kl_le, ka_lt, ka_le, ka_nlt, ka_nle, ka_ne, ka_eq, Int.add_sub_cancel, true_or, or_true, false_or, or_false, false_and, and_false, if_true, if_false, ka_lo, ka_hi, ka_nn, km_sr_sf, km_sr_of, km_up_of, km_sr_us, km_sr_uo, km_sr_sr, km_sr_fl, km_sr_flo, km_up_up, km_up_lt, km_lay, km_unL, km_up_o, km_upx_i, km_upx_s, km_fl2_o, km_is, Option.some.injEq, Sum.inl.injEq, Sum.inr.injEq, Option.toList_some, Option.toList_none, List.cons_append, List.nil_append, ne_eq, true_and, and_true, and_self, not_true_eq_false, not_false_eq_true, true_implies, false_implies, reduceCtorEq]
          · have gt := (kPy_na t).mp y1
            rw [if_neg t]
            simp (config := { decide := true }) (disch := first | decide | assumption | omega | (simp (config := { decide := true }) only [km_sr_sf, km_sr_of, km_up_of, km_up_o, km_upx_i, km_upx_s, km_fl2_o, ne_eq, not_true_eq_false, not_false_eq_true] <;> omega) | fail) only [g_X12_share, Y3, z, i0, i10, g0, y2, y3, x5, xr, xi, gt, kl_gt, kl_le, ka_lt, ka_le, ka_nlt, ka_nle, ka_ne, ka_eq, Int.add_sub_cancel, true_or, or_true, false_or, or_false, false_and, and_false, if_true, if_false, ka_lo, ka_hi, ka_nn, km_sr_sf, km_sr_of, km_up_of, km_sr_us, km_sr_uo, km_sr_sr, km_sr_fl, km_sr_flo, km_up_up, km_up_lt, km_lay, km_unL, km_up_o, km_upx_i, km_upx_s, km_fl2_o, km_is, Option.some.injEq, Sum.inl.injEq, Sum.inr.injEq, Option.toList_some, Option.toList_none, List.cons_append, List.nil_append, ne_eq, true_and, and_true, and_self, not_true_eq_false, not_false_eq_true, true_implies, false_implies, reduceCtorEq]
      · have t : ¬ kTo m b = 0 := fun t => y1 ((kPy_al t).mpr g.2.2)
        have gt : ¬ 0 < kwA m b i := fun w => y1 ((kPy_na t).mpr w)
        have gl : kwA m b i ≤ 0 := by omega
        have yy : ¬ (kPy m b i ∧ 0 < kLf m b i) := fun w => y1 w.1
        have ef : kSf m b i = kS0 m b i := by unfold kSf; rw [tn, if_neg yy, Int.add_zero]
        have el : kLf m b (i + 1) = kLf m b i := by rw [kLf, if_neg yy]
        have eb : kBl m b i = m 101 i - kS0 m b i := by unfold kBl; rw [ef]
        obtain ⟨Z, w1, w2, w3⟩ := main (kS0 m b i) 0 ef.symm
        rw [self _ rfl] at w3
        refine ⟨Z, w1, w2, fun Q => ?_⟩
        rw [← w3 Q, g_X12_share_200, el, eb]
        rw [if_neg t]
        simp (config := { decide := true }) (disch := first | decide | assumption | omega | (simp (config := { decide := true }) only [km_sr_sf, km_sr_of, km_up_of, km_up_o, km_upx_i, km_upx_s, km_fl2_o, ne_eq, not_true_eq_false, not_false_eq_true] <;> omega) | fail) only [g_X12_share, Y3, z, i0, i10, g0, x5, xr, xi, gt, gl, kl_gt, kl_le, ka_lt, ka_le, ka_nlt, ka_nle, ka_ne, ka_eq, Int.add_sub_cancel, true_or, or_true, false_or, or_false, false_and, and_false, if_true, if_false, ka_lo, ka_hi, ka_nn, km_sr_sf, km_sr_of, km_up_of, km_sr_us, km_sr_uo, km_sr_sr, km_sr_fl, km_sr_flo, km_up_up, km_up_lt, km_lay, km_unL, km_up_o, km_upx_i, km_upx_s, km_fl2_o, km_is, Option.some.injEq, Sum.inl.injEq, Sum.inr.injEq, Option.toList_some, Option.toList_none, List.cons_append, List.nil_append, ne_eq, true_and, and_true, and_self, not_true_eq_false, not_false_eq_true, true_implies, false_implies, reduceCtorEq]
    · have g0 := fun Q => gi Y (fun _ _ _ => rfl) Q
      simp only [if_neg g] at g0
      obtain ⟨n1, n2, n3, n4⟩ := kPt_no (b := b) hE i0 i10 g
      have yy : ¬ (kPy m b i ∧ 0 < kLf m b i) := fun w => by have := w.1; unfold kPy at this; omega
      have ef : kSf m b i = kS0 m b i := by unfold kSf; rw [tn, if_neg yy, Int.add_zero]
      have el : kLf m b (i + 1) = kLf m b i := by rw [kLf, if_neg yy]
      have eb : kBl m b i = 0 := by unfold kBl; rw [ef, n3, n4]; rfl
      obtain ⟨Z, w1, w2, w3⟩ := main (kS0 m b i) 0 ef.symm
      rw [self _ rfl] at w3
      refine ⟨Z, w1, w2, fun Q => ?_⟩
      rw [← w3 Q, g_X12_share_200, el, eb]
      simp (config := { decide := true }) (disch := first | decide | assumption | omega | (simp (config := { decide := true }) only [km_sr_sf, km_sr_of, km_up_of, km_up_o, km_upx_i, km_upx_s, km_fl2_o, ne_eq, not_true_eq_false, not_false_eq_true] <;> omega) | fail) only [g_X12_share, Y3, z, i0, i10, g0, ka_lt, ka_le, ka_nlt, ka_nle, ka_ne, ka_eq, Int.add_sub_cancel, true_or, or_true, false_or, or_false, false_and, and_false, if_true, if_false, ka_lo, ka_hi, ka_nn, km_sr_sf, km_sr_of, km_up_of, km_sr_us, km_sr_uo, km_sr_sr, km_sr_fl, km_sr_flo, km_up_up, km_up_lt, km_lay, km_unL, km_up_o, km_upx_i, km_upx_s, km_fl2_o, km_is, Option.some.injEq, Sum.inl.injEq, Sum.inr.injEq, Option.toList_some, Option.toList_none, List.cons_append, List.nil_append, ne_eq, true_and, and_true, and_self, not_true_eq_false, not_false_eq_true, true_implies, false_implies, reduceCtorEq]
/-- the reference's money -/
def kMnM (m Y Z : km_Mm) (b : Int) : Prop := kMj m Z ∧ (∀ d j : Int, d < 123 → Z d j = Y d j) ∧ ∀ j : Int, 0 ≤ j → j < m 5 1 → Z 174 j = kwA m b j ∧ Z 175 j = kSf m b j ∧ Z 176 j = kBl m b j
theorem m_share (h : kI0 N m) (hN : N ≤ 1000) (hp : kIp P m) (on : m 100 0 ≠ -1) (hY : kMj m Y) (hb : Y 123 58 = b) : ∃ Z : km_Mm, kMnM m Y Z b ∧ ∀ Q : Option km_V → km_Al → km_Mm → Prop, km_E M_X12_share [.inr (.inr 123)] (km_A0 q c s) Y Q ↔ Q none (km_A0 q c s) Z := by
  have f1 := h.1.1
  have hE := h.2.2.2.2.2.2.2.1
  have hT := h.2.2.1
  have h10 : 0 ≤ m 5 1 ∧ m 5 1 ≤ 10 := ⟨f1.1, f1.2.1⟩
  obtain ⟨Z1, a1, a2, a3, a4, a5⟩ := @m_weights q c s m N b P h hN hp on (m 5 1).toNat 0 Y (by omega) hY hb (fun j j0 j1 => absurd j1 (by omega))
  have t1 : kSm (kwA m b) (m 5 1).toNat = kTo m b := kSm_kin h10 (fun k k0 k1 hk => (kPt_kin hE k0 k1 hk).1)
  have t2 : kSm (m 101) (m 5 1).toNat = kPd m := kSm_kin h10 (fun k k0 k1 hk => (kPt_kin (b := b) hE k0 k1 hk).2.2.2)
  rw [t1, t2] at a5
  obtain ⟨Z2, o9, o10, b1, b2, b3⟩ := @m_div2 q c s m N b h (m 5 1).toNat 0 Z1 none none (by omega) a1 a4 (fun j j0 j1 => absurd j1 (by omega))
  have j2 : kMj m Z2 := fun d j u1 u2 => by rw [b1 d j (fun w => u2 (by unfold kJ; omega))]; exact a1 d j u1 u2
  obtain ⟨Z, c1, c2, c3⟩ := @m_div3 q c s m N b h (m 5 1).toNat 0 Z2 o9 o10 (by omega) j2 (fun j j0 j1 => by rw [b1 _ _ (by decide)]; exact a4 j j0 j1) (fun j j0 j1 => by rw [b2 j j0 j1, if_neg (by omega)]) (fun j j0 j1 => absurd j1 (by omega))
  refine ⟨Z, ⟨fun d j u1 u2 => by rw [c1 d j (fun w => u2 (by unfold kJ; omega)) (fun w => u2 (by unfold kJ; omega))]; exact j2 d j u1 u2, fun d j u => by rw [c1 d j (by omega) (by omega), b1 d j (by omega)]; exact a2 d j u, fun j j0 j1 => ⟨by rw [c1 _ _ (by decide) (by decide), b1 _ _ (by decide)]; exact a4 j j0 j1, c2 j j0 j1⟩⟩, fun Q => ?_⟩
  have k1 : ((0 : Nat) : Int) = 0 := rfl
  have k2 : kSm (kwA m b) 0 = 0 := rfl
  have k3 : kSm (m 101) 0 = 0 := rfl
  have k4 : kSm (kS0 m b) 0 = 0 := rfl
  have a5 := a5 Q
  have b3 := b3 Q
  rw [k1, k2, k3] at a5
  rw [k1, k4, Int.sub_zero] at b3
  have c3 := c3 Q
  rw [k1] at c3
  have g82 : (Z1 123 82) = m 100 1 := (a1 123 82 (by decide) (by unfold kJ; omega)).trans hE.2.1.1
  have bt := fun mm Q => @r_bits q c s _ mm hE.2.1.2.1 Q
  have w1 : km_E M_X12_share [.inr (.inr 123)] (km_A0 q c s) Y Q ↔ km_G M_X12_share 7 [some (.inr (.inr 123)), some (.inr (.inl 0)), none, some (.inr (.inl 0)), none, some (.inl 0), none, none, none, none, none] [] (km_A0 q c s) Y Q := by
    rw [e_X12_share]
    simp (config := { decide := true }) (disch := first | decide | assumption | omega | (simp (config := { decide := true }) only [km_sr_sf, km_sr_of, km_up_of, km_up_o, km_upx_i, km_upx_s, km_fl2_o, ne_eq, not_true_eq_false, not_false_eq_true] <;> omega) | fail) only [g_X12_share, ka_lt, ka_le, ka_nlt, ka_nle, ka_ne, ka_eq, Int.add_sub_cancel, true_or, or_true, false_or, or_false, false_and, and_false, if_true, if_false, ka_lo, ka_hi, ka_nn, km_sr_sf, km_sr_of, km_up_of, km_sr_us, km_sr_uo, km_sr_sr, km_sr_fl, km_sr_flo, km_up_up, km_up_lt, km_lay, km_unL, km_up_o, km_upx_i, km_upx_s, km_fl2_o, km_is, Option.some.injEq, Sum.inl.injEq, Sum.inr.injEq, Option.toList_some, Option.toList_none, List.cons_append, List.nil_append, ne_eq, true_and, and_true, and_self, not_true_eq_false, not_false_eq_true, true_implies, false_implies, reduceCtorEq]
  rw [w1, a5, ← c3, ← b3]
  unfold kDrM
  by_cases t : kTo m b = 0
  · rw [if_pos t, if_pos t]
    simp (config := { decide := true }) (disch := first | decide | assumption | omega | (simp (config := { decide := true }) only [km_sr_sf, km_sr_of, km_up_of, km_up_o, km_upx_i, km_upx_s, km_fl2_o, ne_eq, not_true_eq_false, not_false_eq_true] <;> omega) | fail) only [g_X12_share, t, kl_0, g82, bt, ka_lt, ka_le, ka_nlt, ka_nle, ka_ne, ka_eq, Int.add_sub_cancel, true_or, or_true, false_or, or_false, false_and, and_false, if_true, if_false, ka_lo, ka_hi, ka_nn, km_sr_sf, km_sr_of, km_up_of, km_sr_us, km_sr_uo, km_sr_sr, km_sr_fl, km_sr_flo, km_up_up, km_up_lt, km_lay, km_unL, km_up_o, km_upx_i, km_upx_s, km_fl2_o, km_is, Option.some.injEq, Sum.inl.injEq, Sum.inr.injEq, Option.toList_some, Option.toList_none, List.cons_append, List.nil_append, ne_eq, true_and, and_true, and_self, not_true_eq_false, not_false_eq_true, true_implies, false_implies, reduceCtorEq]
  · rw [if_neg t, if_neg t]
    simp (config := { decide := true }) (disch := first | decide | assumption | omega | (simp (config := { decide := true }) only [km_sr_sf, km_sr_of, km_up_of, km_up_o, km_upx_i, km_upx_s, km_fl2_o, ne_eq, not_true_eq_false, not_false_eq_true] <;> omega) | fail) only [g_X12_share, t, kl_0, ka_lt, ka_le, ka_nlt, ka_nle, ka_ne, ka_eq, Int.add_sub_cancel, true_or, or_true, false_or, or_false, false_and, and_false, if_true, if_false, ka_lo, ka_hi, ka_nn, km_sr_sf, km_sr_of, km_up_of, km_sr_us, km_sr_uo, km_sr_sr, km_sr_fl, km_sr_flo, km_up_up, km_up_lt, km_lay, km_unL, km_up_o, km_upx_i, km_upx_s, km_fl2_o, km_is, Option.some.injEq, Sum.inl.injEq, Sum.inr.injEq, Option.toList_some, Option.toList_none, List.cons_append, List.nil_append, ne_eq, true_and, and_true, and_self, not_true_eq_false, not_false_eq_true, true_implies, false_implies, reduceCtorEq]
theorem kIN_fin2 (h : kIN N q m) (hq : kQo q P) (hC : kZ m C) (hM : kMj m Z) (low : ∀ d j : Int, d < 123 → Z d j = C d j) (hq' : kQo q' P) : kIN N q' Z := by
  obtain ⟨h0, P', hq1, hp⟩ := h
  have e : P' = P := by rw [← hq1.2.1]; exact hq.2.1
  subst e
  have jk : km_jk m Z := fun d j z => by
    by_cases w : d < 123
    · rw [low d j w]; exact hC.1 d j z
    · exact hM d j (by omega) z
  have s : kI_scr Z := kR_cg h0.2.1 (fun d j f => by
    unfold fR at f
    rw [low d j (by omega), f.1, hC.2.1])
  exact ⟨kI0_jk h0 jk s, P', hq', kIp_eq hq'.1 hp (kP_jk jk)⟩
theorem kSf_b (hT : kI_trait m) (hE : kI_meet m) (k0 : 0 ≤ k) (k1 : k < 10) : (0 ≤ kSf m b k ∧ kSf m b k ≤ 9999991) ∧ (-9999991 ≤ kBl m b k ∧ kBl m b k ≤ 999999) := by
  have := (kS0_b (b := b) hT hE k0 k1).1
  have r := (hE.2.2.2.1 k k0 k1).1
  have f : 0 ≤ kSf m b k ∧ kSf m b k ≤ 9999991 := by
    unfold kSf
    split <;> omega
  unfold kBl
  omega
theorem fc_owes (h : kIN N q m) (hN : N ≤ 1000) : kFq M_X11_owes M_X12_owes [.inl k, .inl w] N N q c s m := by
  intro Q1 Q2
  have hi := h
  obtain ⟨h0, P, hq, hp⟩ := h
  have f1 := h0.1.1
  have hE := h0.2.2.2.2.2.2.2.1
  have hT := h0.2.2.1
  have gc := fun Q => @cl_isGuest q c s m k hE.2.1.2.1 Q
  have gm := fun (q : Nat × Int × Int × Int × Int) (Y : km_Mm) (hY : kMj m Y) Q => @md_isGuest q c s m Y k hE f1.2.1 (hY 123 80 (by decide) (by unfold kJ; omega)) (hY 123 82 (by decide) (by unfold kJ; omega)) ((hY 123 3 (by decide) (by unfold kJ; omega)).trans f1.2.2) Q
  have jt : kMj m (km_up m 123 2 0) := fun d j u1 u2 => km_up_ne (fun w => u2 (by unfold kJ; omega))
  by_cases g : kG m k
  case neg =>
    have g2 := gm q _ jt
    simp only [if_neg g] at gc g2
    refine ⟨.inr (.inl (-9223372036854775808)), q, m, km_up m 123 2 0, ?_, ?_, rfl, kIN_t hi⟩
    · rw [e_X11_owes]
      simp (config := { decide := true }) (disch := first | decide | assumption | omega | (simp (config := { decide := true }) only [km_sr_sf, km_sr_of, km_up_of, km_up_o, km_upx_i, km_upx_s, km_fl2_o, ne_eq, not_true_eq_false, not_false_eq_true] <;> omega) | fail) only [g_X11_owes, gc, ka_lt, ka_le, ka_nlt, ka_nle, ka_ne, ka_eq, Int.add_sub_cancel, true_or, or_true, false_or, or_false, false_and, and_false, if_true, if_false, ka_lo, ka_hi, ka_nn, km_sr_sf, km_sr_of, km_up_of, km_sr_us, km_sr_uo, km_sr_sr, km_sr_fl, km_sr_flo, km_up_up, km_up_lt, km_lay, km_unL, km_up_o, km_upx_i, km_upx_s, km_fl2_o, km_is, Option.some.injEq, Sum.inl.injEq, Sum.inr.injEq, Option.toList_some, Option.toList_none, List.cons_append, List.nil_append, ne_eq, true_and, and_true, and_self, not_true_eq_false, not_false_eq_true, true_implies, false_implies, reduceCtorEq]
    · rw [e_X12_owes]
      simp (config := { decide := true }) (disch := first | decide | assumption | omega | (simp (config := { decide := true }) only [km_sr_sf, km_sr_of, km_up_of, km_up_o, km_upx_i, km_upx_s, km_fl2_o, ne_eq, not_true_eq_false, not_false_eq_true] <;> omega) | fail) only [g_X12_owes, g2, ka_lt, ka_le, ka_nlt, ka_nle, ka_ne, ka_eq, Int.add_sub_cancel, true_or, or_true, false_or, or_false, false_and, and_false, if_true, if_false, ka_lo, ka_hi, ka_nn, km_sr_sf, km_sr_of, km_up_of, km_sr_us, km_sr_uo, km_sr_sr, km_sr_fl, km_sr_flo, km_up_up, km_up_lt, km_lay, km_unL, km_up_o, km_upx_i, km_upx_s, km_fl2_o, km_is, Option.some.injEq, Sum.inl.injEq, Sum.inr.injEq, Option.toList_some, Option.toList_none, List.cons_append, List.nil_append, ne_eq, true_and, and_true, and_self, not_true_eq_false, not_false_eq_true, true_implies, false_implies, reduceCtorEq]
  by_cases c0 : w < 0
  · have g2 := gm q _ jt
    simp only [if_pos g] at gc g2
    refine ⟨.inr (.inl (-9223372036854775808)), q, m, km_up m 123 2 0, ?_, ?_, rfl, kIN_t hi⟩
    · rw [e_X11_owes]
      simp (config := { decide := true }) (disch := first | decide | assumption | omega | (simp (config := { decide := true }) only [km_sr_sf, km_sr_of, km_up_of, km_up_o, km_upx_i, km_upx_s, km_fl2_o, ne_eq, not_true_eq_false, not_false_eq_true] <;> omega) | fail) only [g_X11_owes, gc, c0, ka_lt, ka_le, ka_nlt, ka_nle, ka_ne, ka_eq, Int.add_sub_cancel, true_or, or_true, false_or, or_false, false_and, and_false, if_true, if_false, ka_lo, ka_hi, ka_nn, km_sr_sf, km_sr_of, km_up_of, km_sr_us, km_sr_uo, km_sr_sr, km_sr_fl, km_sr_flo, km_up_up, km_up_lt, km_lay, km_unL, km_up_o, km_upx_i, km_upx_s, km_fl2_o, km_is, Option.some.injEq, Sum.inl.injEq, Sum.inr.injEq, Option.toList_some, Option.toList_none, List.cons_append, List.nil_append, ne_eq, true_and, and_true, and_self, not_true_eq_false, not_false_eq_true, true_implies, false_implies, reduceCtorEq]
    · rw [e_X12_owes]
      simp (config := { decide := true }) (disch := first | decide | assumption | omega | (simp (config := { decide := true }) only [km_sr_sf, km_sr_of, km_up_of, km_up_o, km_upx_i, km_upx_s, km_fl2_o, ne_eq, not_true_eq_false, not_false_eq_true] <;> omega) | fail) only [g_X12_owes, g2, c0, ka_lt, ka_le, ka_nlt, ka_nle, ka_ne, ka_eq, Int.add_sub_cancel, true_or, or_true, false_or, or_false, false_and, and_false, if_true, if_false, ka_lo, ka_hi, ka_nn, km_sr_sf, km_sr_of, km_up_of, km_sr_us, km_sr_uo, km_sr_sr, km_sr_fl, km_sr_flo, km_up_up, km_up_lt, km_lay, km_unL, km_up_o, km_upx_i, km_upx_s, km_fl2_o, km_is, Option.some.injEq, Sum.inl.injEq, Sum.inr.injEq, Option.toList_some, Option.toList_none, List.cons_append, List.nil_append, ne_eq, true_and, and_true, and_self, not_true_eq_false, not_false_eq_true, true_implies, false_implies, reduceCtorEq]
  by_cases c1 : 2 < w
  · have g2 := gm q _ jt
    simp only [if_pos g] at gc g2
    refine ⟨.inr (.inl (-9223372036854775808)), q, m, km_up m 123 2 0, ?_, ?_, rfl, kIN_t hi⟩
    · rw [e_X11_owes]
      simp (config := { decide := true }) (disch := first | decide | assumption | omega | (simp (config := { decide := true }) only [km_sr_sf, km_sr_of, km_up_of, km_up_o, km_upx_i, km_upx_s, km_fl2_o, ne_eq, not_true_eq_false, not_false_eq_true] <;> omega) | fail) only [g_X11_owes, gc, c0, c1, ka_lt, ka_le, ka_nlt, ka_nle, ka_ne, ka_eq, Int.add_sub_cancel, true_or, or_true, false_or, or_false, false_and, and_false, if_true, if_false, ka_lo, ka_hi, ka_nn, km_sr_sf, km_sr_of, km_up_of, km_sr_us, km_sr_uo, km_sr_sr, km_sr_fl, km_sr_flo, km_up_up, km_up_lt, km_lay, km_unL, km_up_o, km_upx_i, km_upx_s, km_fl2_o, km_is, Option.some.injEq, Sum.inl.injEq, Sum.inr.injEq, Option.toList_some, Option.toList_none, List.cons_append, List.nil_append, ne_eq, true_and, and_true, and_self, not_true_eq_false, not_false_eq_true, true_implies, false_implies, reduceCtorEq]
    · rw [e_X12_owes]
      simp (config := { decide := true }) (disch := first | decide | assumption | omega | (simp (config := { decide := true }) only [km_sr_sf, km_sr_of, km_up_of, km_up_o, km_upx_i, km_upx_s, km_fl2_o, ne_eq, not_true_eq_false, not_false_eq_true] <;> omega) | fail) only [g_X12_owes, g2, c0, c1, ka_lt, ka_le, ka_nlt, ka_nle, ka_ne, ka_eq, Int.add_sub_cancel, true_or, or_true, false_or, or_false, false_and, and_false, if_true, if_false, ka_lo, ka_hi, ka_nn, km_sr_sf, km_sr_of, km_up_of, km_sr_us, km_sr_uo, km_sr_sr, km_sr_fl, km_sr_flo, km_up_up, km_up_lt, km_lay, km_unL, km_up_o, km_upx_i, km_upx_s, km_fl2_o, km_is, Option.some.injEq, Sum.inl.injEq, Sum.inr.injEq, Option.toList_some, Option.toList_none, List.cons_append, List.nil_append, ne_eq, true_and, and_true, and_self, not_true_eq_false, not_false_eq_true, true_implies, false_implies, reduceCtorEq]
  have on : m 100 0 ≠ -1 := fun w => by
    have t := (hE.2.2.2.2.1 w).1
    have := g.2.2
    rw [t, tb_zero] at this
    cases this
  have kk := kG_kin hE g
  have k0 := kk.1
  have k10 := kk.2.1
  have kb := fun b => kSf_b (b := b) hT hE k0 k10
  simp only [if_pos g] at gc
  obtain ⟨p, b, q', C, ⟨cp, cb⟩, ⟨hq', zC, hC⟩, e2⟩ := @km_pick (fun Q => km_E M_X11_owes [.inr (.inr 0), .inl k, .inl w] (km_A0 q c s) m Q) (fun q' X' => (kQo q' P ∧ q'.1 = q.1) ∧ kZ m X' ∧ True) (fun _ b => some (.inr (.inl (if w = 0 then kwA m b k else if w = 1 then kSf m b k else kBl m b k)))) (fun q' => km_A0 q' c s) (fun p b => by
    obtain ⟨q', X', u1, u2, u3, u4⟩ := @c_share q c s m N b P h0 hN hp hq on
    refine ⟨q', X', ⟨u1, u2, trivial⟩, fun Q => ?_⟩
    obtain ⟨v1, v2, v3⟩ := u3 k k0 k10
    rw [e_X11_owes]
    by_cases w0 : w = 0
    · subst w0
      rw [if_pos rfl]
      simp (config := { decide := true }) (disch := first | decide | assumption | omega | (simp (config := { decide := true }) only [km_sr_sf, km_sr_of, km_up_of, km_up_o, km_upx_i, km_upx_s, km_fl2_o, ne_eq, not_true_eq_false, not_false_eq_true] <;> omega) | fail) only [g_X11_owes, gc, u4, k0, k10, v1, ka_lt, ka_le, ka_nlt, ka_nle, ka_ne, ka_eq, Int.add_sub_cancel, true_or, or_true, false_or, or_false, false_and, and_false, if_true, if_false, ka_lo, ka_hi, ka_nn, km_sr_sf, km_sr_of, km_up_of, km_sr_us, km_sr_uo, km_sr_sr, km_sr_fl, km_sr_flo, km_up_up, km_up_lt, km_lay, km_unL, km_up_o, km_upx_i, km_upx_s, km_fl2_o, km_is, Option.some.injEq, Sum.inl.injEq, Sum.inr.injEq, Option.toList_some, Option.toList_none, List.cons_append, List.nil_append, ne_eq, true_and, and_true, and_self, not_true_eq_false, not_false_eq_true, true_implies, false_implies, reduceCtorEq]
    · rw [if_neg w0]
      by_cases w1 : w = 1
      · subst w1
        rw [if_pos rfl]
        simp (config := { decide := true }) (disch := first | decide | assumption | omega | (simp (config := { decide := true }) only [km_sr_sf, km_sr_of, km_up_of, km_up_o, km_upx_i, km_upx_s, km_fl2_o, ne_eq, not_true_eq_false, not_false_eq_true] <;> omega) | fail) only [g_X11_owes, gc, u4, k0, k10, v2, ka_lt, ka_le, ka_nlt, ka_nle, ka_ne, ka_eq, Int.add_sub_cancel, true_or, or_true, false_or, or_false, false_and, and_false, if_true, if_false, ka_lo, ka_hi, ka_nn, km_sr_sf, km_sr_of, km_up_of, km_sr_us, km_sr_uo, km_sr_sr, km_sr_fl, km_sr_flo, km_up_up, km_up_lt, km_lay, km_unL, km_up_o, km_upx_i, km_upx_s, km_fl2_o, km_is, Option.some.injEq, Sum.inl.injEq, Sum.inr.injEq, Option.toList_some, Option.toList_none, List.cons_append, List.nil_append, ne_eq, true_and, and_true, and_self, not_true_eq_false, not_false_eq_true, true_implies, false_implies, reduceCtorEq]
      · rw [if_neg w1]
        simp (config := { decide := true }) (disch := first | decide | assumption | omega | (simp (config := { decide := true }) only [km_sr_sf, km_sr_of, km_up_of, km_up_o, km_upx_i, km_upx_s, km_fl2_o, ne_eq, not_true_eq_false, not_false_eq_true] <;> omega) | fail) only [g_X11_owes, gc, c0, c1, w0, w1, u4, k0, k10, v3, ka_lt, ka_le, ka_nlt, ka_nle, ka_ne, ka_eq, Int.add_sub_cancel, true_or, or_true, false_or, or_false, false_and, and_false, if_true, if_false, ka_lo, ka_hi, ka_nn, km_sr_sf, km_sr_of, km_up_of, km_sr_us, km_sr_uo, km_sr_sr, km_sr_fl, km_sr_flo, km_up_up, km_up_lt, km_lay, km_unL, km_up_o, km_upx_i, km_upx_s, km_fl2_o, km_is, Option.some.injEq, Sum.inl.injEq, Sum.inr.injEq, Option.toList_some, Option.toList_none, List.cons_append, List.nil_append, ne_eq, true_and, and_true, and_self, not_true_eq_false, not_false_eq_true, true_implies, false_implies, reduceCtorEq])
  have j0 : kMj m (km_up C 123 2 0) := fun d j h1 h2 => by rw [km_up_ne (fun w => h2 (by unfold kJ; omega))]; exact zC.1 d j h2
  obtain ⟨Z, ⟨z1, z2, z3⟩, z4⟩ := @m_share q' c s m (km_up C 123 2 0) N b P h0 hN hp on j0 ((km_up_ne (by omega)).trans cb)
  have g2 := gm q' _ j0
  simp only [if_pos g] at g2
  obtain ⟨v1, v2, v3⟩ := z3 k k0 kk.2.2
  refine ⟨_, q', C, Z, e2 Q1, ?_, hq'.2, kIN_fin2 hi hq zC z1 (fun d j hd => (z2 d j hd).trans (km_up_ne (by omega))) hq'.1⟩
  rw [e_X12_owes]
  by_cases w0 : w = 0
  · subst w0
    rw [if_pos rfl]
    simp (config := { decide := true }) (disch := first | decide | assumption | omega | (simp (config := { decide := true }) only [km_sr_sf, km_sr_of, km_up_of, km_up_o, km_upx_i, km_upx_s, km_fl2_o, ne_eq, not_true_eq_false, not_false_eq_true] <;> omega) | fail) only [g_X12_owes, g2, z4, k0, k10, v1, ka_lt, ka_le, ka_nlt, ka_nle, ka_ne, ka_eq, Int.add_sub_cancel, true_or, or_true, false_or, or_false, false_and, and_false, if_true, if_false, ka_lo, ka_hi, ka_nn, km_sr_sf, km_sr_of, km_up_of, km_sr_us, km_sr_uo, km_sr_sr, km_sr_fl, km_sr_flo, km_up_up, km_up_lt, km_lay, km_unL, km_up_o, km_upx_i, km_upx_s, km_fl2_o, km_is, Option.some.injEq, Sum.inl.injEq, Sum.inr.injEq, Option.toList_some, Option.toList_none, List.cons_append, List.nil_append, ne_eq, true_and, and_true, and_self, not_true_eq_false, not_false_eq_true, true_implies, false_implies, reduceCtorEq]
  · rw [if_neg w0]
    by_cases w1 : w = 1
    · subst w1
      rw [if_pos rfl]
      simp (config := { decide := true }) (disch := first | decide | assumption | omega | (simp (config := { decide := true }) only [km_sr_sf, km_sr_of, km_up_of, km_up_o, km_upx_i, km_upx_s, km_fl2_o, ne_eq, not_true_eq_false, not_false_eq_true] <;> omega) | fail) only [g_X12_owes, g2, z4, k0, k10, v2, ka_lt, ka_le, ka_nlt, ka_nle, ka_ne, ka_eq, Int.add_sub_cancel, true_or, or_true, false_or, or_false, false_and, and_false, if_true, if_false, ka_lo, ka_hi, ka_nn, km_sr_sf, km_sr_of, km_up_of, km_sr_us, km_sr_uo, km_sr_sr, km_sr_fl, km_sr_flo, km_up_up, km_up_lt, km_lay, km_unL, km_up_o, km_upx_i, km_upx_s, km_fl2_o, km_is, Option.some.injEq, Sum.inl.injEq, Sum.inr.injEq, Option.toList_some, Option.toList_none, List.cons_append, List.nil_append, ne_eq, true_and, and_true, and_self, not_true_eq_false, not_false_eq_true, true_implies, false_implies, reduceCtorEq]
    · rw [if_neg w1]
      simp (config := { decide := true }) (disch := first | decide | assumption | omega | (simp (config := { decide := true }) only [km_sr_sf, km_sr_of, km_up_of, km_up_o, km_upx_i, km_upx_s, km_fl2_o, ne_eq, not_true_eq_false, not_false_eq_true] <;> omega) | fail) only [g_X12_owes, g2, c0, c1, w0, w1, z4, k0, k10, v3, ka_lt, ka_le, ka_nlt, ka_nle, ka_ne, ka_eq, Int.add_sub_cancel, true_or, or_true, false_or, or_false, false_and, and_false, if_true, if_false, ka_lo, ka_hi, ka_nn, km_sr_sf, km_sr_of, km_up_of, km_sr_us, km_sr_uo, km_sr_sr, km_sr_fl, km_sr_flo, km_up_up, km_up_lt, km_lay, km_unL, km_up_o, km_upx_i, km_upx_s, km_fl2_o, km_is, Option.some.injEq, Sum.inl.injEq, Sum.inr.injEq, Option.toList_some, Option.toList_none, List.cons_append, List.nil_append, ne_eq, true_and, and_true, and_self, not_true_eq_false, not_false_eq_true, true_implies, false_implies, reduceCtorEq]
end FD

