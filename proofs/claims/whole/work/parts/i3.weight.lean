/-! ===== promise 23: owes: the weights, the reference ===== -/
section FW
variable {q q' : Nat × Int × Int × Int × Int} {c s : Nat} {m C M X X' Y Z : km_Mm} {N o o1 p p1 b b1 P p' k : Int}
theorem kRy_pay (hY : kRy m C o p1 b Y) : kRy m C o p b (km_up Y 123 57 p) := by
  obtain ⟨y1, y2, y3, y4, y5⟩ := hY
  exact ⟨fun d j h1 h2 => by rw [km_up_ne (fun w => h2 (by unfold kJ; omega))]; exact y1 d j h1 h2, fun d j hd => by rw [km_up_ne (by omega)]; exact y2 d j hd, by rw [km_up_ne (by omega)]; exact y3, km_upx_s, by rw [km_up_ne (by omega)]; exact y5⟩
/-- what a memory of the reference keeps -/
def kSy (m Y Z : km_Mm) : Prop := kMj m Z ∧ (∀ d j : Int, d < 123 ∨ (174 ≤ d ∧ d ≤ 181) → Z d j = Y d j) ∧ Z 123 58 = Y 123 58
theorem m_weight (h : kI0 N m) (hN : N ≤ 1000) (hp : kIp P m) (on : m 100 0 ≠ -1) (hY : kMj m Y) (hb : Y 123 58 = b) (g : kG m k) :
    ∃ Z : km_Mm, kSy m Y Z ∧ ∀ Q : Option km_V → km_Al → km_Mm → Prop, km_E M_X12_weightOf [.inr (.inr 123), .inl k] (km_A0 q c s) Y Q ↔ Q (some (.inr (.inl (kwG m b k)))) (km_A0 q c s) Z := by
  have hE := h.2.2.2.2.2.2.2.1
  have hT := h.2.2.1
  have kk := kG_kin hE g
  have r5 : Y 142 5 = m 142 5 := hY 142 5 (by decide) (by unfold kJ; omega)
  have k6 := hp.2.2.2.1 5 (by decide) (by decide)
  have ks : m (P + 5) 5 = -1 ↔ m 142 5 = -1 := kIl_s k6
  have k0 := kk.1
  have k10 := kk.2.1
  unfold kwG
  by_cases z : m 142 5 = -1
  · rw [if_pos z]
    have zn : m 142 5 < 0 := by omega
    have t2 : Y 125 (5 * k + 2) = m 9 k := (hY 125 _ (by decide) (by unfold kJ; omega)).trans (hT k kk.1 kk.2.2).1.2.2.1
    refine ⟨Y, ⟨hY, fun _ _ _ => rfl, rfl⟩, fun Q => ?_⟩
    rw [e_X12_weightOf]
    simp (config := { decide := true }) (disch := first | decide | assumption | omega | (simp (config := { decide := true }) only [km_sr_sf, km_sr_of, km_up_of, km_up_o, km_upx_i, km_upx_s, km_fl2_o, ne_eq, not_true_eq_false, not_false_eq_true] <;> omega) | fail) only [g_X12_weightOf, r5, zn, t2, k0, k10, ka_lt, ka_le, ka_nlt, ka_nle, ka_ne, ka_eq, Int.add_sub_cancel, true_or, or_true, false_or, or_false, false_and, and_false, if_true, if_false, ka_lo, ka_hi, ka_nn, km_sr_sf, km_sr_of, km_up_of, km_sr_us, km_sr_uo, km_sr_sr, km_sr_fl, km_sr_flo, km_up_up, km_up_lt, km_lay, km_unL, km_up_o, km_upx_i, km_upx_s, km_fl2_o, km_is, Option.some.injEq, Sum.inl.injEq, Sum.inr.injEq, Option.toList_some, Option.toList_none, List.cons_append, List.nil_append, ne_eq, true_and, and_true, and_self, not_true_eq_false, not_false_eq_true, true_implies, false_implies, reduceCtorEq]
  · rw [if_neg z]
    have hs : m (P + 5) 5 ≠ -1 := fun w => z (ks.mp w)
    have z0 : 0 ≤ m 142 5 := (kIl_k k6 hs).1.2
    have zn : ¬ m 142 5 < 0 := by omega
    have e81 : Y 123 81 = m 100 0 := (hY 123 81 (by decide) (by unfold kJ; omega)).trans hE.1.1.2.2
    have y0 : kRy m Y (Y 123 55) (Y 123 57) b Y := ⟨hY, fun _ _ _ => rfl, rfl, rfl, hb⟩
    have kat : kAt m (m 100 0) k b (kln 5) := ⟨fun _ => ⟨by have := hE.1.1.1; omega, hE.1.1.2.1⟩, fun w => absurd w (by decide), fun _ => ⟨kk.1, kk.2.2⟩⟩
    obtain ⟨Z, z1, z2, z3⟩ := @m_line q c s m Y (km_up (km_up Y 123 55 (m 100 0)) 123 57 k) N (m 100 0) k b P 5 h hN hp (by decide) hs kat (kRy_pay (kRy_at y0))
    have z3 : ∀ Q : Option km_V → km_Al → km_Mm → Prop, km_E M_X12_valueOf [.inr (.inr 123), .inl (m 142 5)] (km_A0 q c s) (km_up (km_up Y 123 55 (m 100 0)) 123 57 k) Q ↔ Q (some (.inr (.inl (kve (kLv m (m 100 0) k b 5))))) (km_A0 q c s) Z := z3
    refine ⟨Z, ⟨z1.1, z1.2.1, z1.2.2.2.2.trans hb.symm⟩, fun Q => ?_⟩
    rw [e_X12_weightOf]
    cases hr : kLv m (m 100 0) k b 5 with
    | none =>
      rw [hr] at z2 z3
      rw [if_pos rfl] at z2
      have e0 : kcw (kvl none) = 0 := rfl
      rw [e0]
      simp (config := { decide := true }) (disch := first | decide | assumption | omega | (simp (config := { decide := true }) only [km_sr_sf, km_sr_of, km_up_of, km_up_o, km_upx_i, km_upx_s, km_fl2_o, ne_eq, not_true_eq_false, not_false_eq_true] <;> omega) | fail) only [g_X12_weightOf, r5, zn, e81, z3, z2, ka_lt, ka_le, ka_nlt, ka_nle, ka_ne, ka_eq, Int.add_sub_cancel, true_or, or_true, false_or, or_false, false_and, and_false, if_true, if_false, ka_lo, ka_hi, ka_nn, km_sr_sf, km_sr_of, km_up_of, km_sr_us, km_sr_uo, km_sr_sr, km_sr_fl, km_sr_flo, km_up_up, km_up_lt, km_lay, km_unL, km_up_o, km_upx_i, km_upx_s, km_fl2_o, km_is, Option.some.injEq, Sum.inl.injEq, Sum.inr.injEq, Option.toList_some, Option.toList_none, List.cons_append, List.nil_append, ne_eq, true_and, and_true, and_self, not_true_eq_false, not_false_eq_true, true_implies, false_implies, reduceCtorEq]
    | some v =>
      rw [hr] at z2 z3
      rw [if_neg (fun w => by cases w)] at z2
      have z3 : ∀ Q : Option km_V → km_Al → km_Mm → Prop, km_E M_X12_valueOf [.inr (.inr 123), .inl (m 142 5)] (km_A0 q c s) (km_up (km_up Y 123 55 (m 100 0)) 123 57 k) Q ↔ Q (some (.inr (.inl v))) (km_A0 q c s) Z := z3
      show _ ↔ Q (some (.inr (.inl (kcw v)))) (km_A0 q c s) Z
      unfold kcw
      by_cases w1 : v < 0
      · rw [if_pos w1]
        have wg : ¬ 0 ≤ v := by omega
        simp (config := { decide := true }) (disch := first | decide | assumption | omega | (simp (config := { decide := true }) only [km_sr_sf, km_sr_of, km_up_of, km_up_o, km_upx_i, km_upx_s, km_fl2_o, ne_eq, not_true_eq_false, not_false_eq_true] <;> omega) | fail) only [g_X12_weightOf, r5, zn, e81, z3, z2, kl_ge, kl_lt, w1, wg, ka_lt, ka_le, ka_nlt, ka_nle, ka_ne, ka_eq, Int.add_sub_cancel, true_or, or_true, false_or, or_false, false_and, and_false, if_true, if_false, ka_lo, ka_hi, ka_nn, km_sr_sf, km_sr_of, km_up_of, km_sr_us, km_sr_uo, km_sr_sr, km_sr_fl, km_sr_flo, km_up_up, km_up_lt, km_lay, km_unL, km_up_o, km_upx_i, km_upx_s, km_fl2_o, km_is, Option.some.injEq, Sum.inl.injEq, Sum.inr.injEq, Option.toList_some, Option.toList_none, List.cons_append, List.nil_append, ne_eq, true_and, and_true, and_self, not_true_eq_false, not_false_eq_true, true_implies, false_implies, reduceCtorEq]
      · rw [if_neg w1]
        have wg : 0 ≤ v := by omega
        by_cases w2 : 1000000 < v
        · rw [if_pos w2]
          have w3 : ¬ v ≤ 1000000 := by omega
          simp (config := { decide := true }) (disch := first | decide | assumption | omega | (simp (config := { decide := true }) only [km_sr_sf, km_sr_of, km_up_of, km_up_o, km_upx_i, km_upx_s, km_fl2_o, ne_eq, not_true_eq_false, not_false_eq_true] <;> omega) | fail) only [g_X12_weightOf, r5, zn, e81, z3, z2, kl_ge, kl_lt, kl_le, kl_gt, w1, wg, w2, w3, ka_lt, ka_le, ka_nlt, ka_nle, ka_ne, ka_eq, Int.add_sub_cancel, true_or, or_true, false_or, or_false, false_and, and_false, if_true, if_false, ka_lo, ka_hi, ka_nn, km_sr_sf, km_sr_of, km_up_of, km_sr_us, km_sr_uo, km_sr_sr, km_sr_fl, km_sr_flo, km_up_up, km_up_lt, km_lay, km_unL, km_up_o, km_upx_i, km_upx_s, km_fl2_o, km_is, Option.some.injEq, Sum.inl.injEq, Sum.inr.injEq, Option.toList_some, Option.toList_none, List.cons_append, List.nil_append, ne_eq, true_and, and_true, and_self, not_true_eq_false, not_false_eq_true, true_implies, false_implies, reduceCtorEq]
        · rw [if_neg w2]
          have w3 : v ≤ 1000000 := by omega
          simp (config := { decide := true }) (disch := first | decide | assumption | omega | (simp (config := { decide := true }) only [km_sr_sf, km_sr_of, km_up_of, km_up_o, km_upx_i, km_upx_s, km_fl2_o, ne_eq, not_true_eq_false, not_false_eq_true] <;> omega) | fail) only [g_X12_weightOf, r5, zn, e81, z3, z2, kl_ge, kl_lt, kl_le, kl_gt, w1, wg, w2, w3, ka_lt, ka_le, ka_nlt, ka_nle, ka_ne, ka_eq, Int.add_sub_cancel, true_or, or_true, false_or, or_false, false_and, and_false, if_true, if_false, ka_lo, ka_hi, ka_nn, km_sr_sf, km_sr_of, km_up_of, km_sr_us, km_sr_uo, km_sr_sr, km_sr_fl, km_sr_flo, km_up_up, km_up_lt, km_lay, km_unL, km_up_o, km_upx_i, km_upx_s, km_fl2_o, km_is, Option.some.injEq, Sum.inl.injEq, Sum.inr.injEq, Option.toList_some, Option.toList_none, List.cons_append, List.nil_append, ne_eq, true_and, and_true, and_self, not_true_eq_false, not_false_eq_true, true_implies, false_implies, reduceCtorEq]
/-- the reference's weights -/
theorem m_weights (h : kI0 N m) (hN : N ≤ 1000) (hp : kIp P m) (on : m 100 0 ≠ -1) : ∀ (n i : Nat) (Y : km_Mm), (i : Int) + n = m 5 1 → kMj m Y → Y 123 58 = b → (∀ j : Int, 0 ≤ j → j < i → Y 174 j = kwA m b j) → ∃ Z : km_Mm, kMj m Z ∧ (∀ d j : Int, d < 123 → Z d j = Y d j) ∧ Z 123 58 = b ∧ (∀ j : Int, 0 ≤ j → j < m 5 1 → Z 174 j = kwA m b j) ∧ ∀ Q : Option km_V → km_Al → km_Mm → Prop, km_G M_X12_share 7 [some (.inr (.inr 123)), some (.inr (.inl (kSm (kwA m b) i))), none, some (.inr (.inl (kSm (m 101) i))), none, some (.inl (i : Int)), none, none, none, none, none] [] (km_A0 q c s) Y Q ↔ km_G M_X12_share 82 [some (.inr (.inr 123)), some (.inr (.inl (kSm (kwA m b) (m 5 1).toNat))), none, some (.inr (.inl (kSm (m 101) (m 5 1).toNat))), none, some (.inl (m 5 1)), none, none, none, none, none] [] (km_A0 q c s) Z Q := by
  have f1 := h.1.1
  have hE := h.2.2.2.2.2.2.2.1
  have hT := h.2.2.1
  have e4 := hE.2.2.2.1
  intro n
  induction n with
  | zero =>
    intro i Y hi hY hb hw
    have e : i = (m 5 1).toNat := by omega
    have e2 : (i : Int) = m 5 1 := by omega
    have z : ¬ (i : Int) < m 5 1 := by omega
    have Y3 : Y 123 3 = m 5 1 := (hY 123 3 (by decide) (by unfold kJ; omega)).trans f1.2.2
    refine ⟨Y, hY, fun _ _ _ => rfl, hb, fun j j0 j1 => hw j j0 (by omega), fun Q => ?_⟩
    rw [← e, e2, g_X12_share_7]
    simp (config := { decide := true }) (disch := first | decide | assumption | omega | (simp (config := { decide := true }) only [km_sr_sf, km_sr_of, km_up_of, km_up_o, km_upx_i, km_upx_s, km_fl2_o, ne_eq, not_true_eq_false, not_false_eq_true] <;> omega) | fail) only [g_X12_share, Y3, ka_lt, ka_le, ka_nlt, ka_nle, ka_ne, ka_eq, Int.add_sub_cancel, true_or, or_true, false_or, or_false, false_and, and_false, if_true, if_false, ka_lo, ka_hi, ka_nn, km_sr_sf, km_sr_of, km_up_of, km_sr_us, km_sr_uo, km_sr_sr, km_sr_fl, km_sr_flo, km_up_up, km_up_lt, km_lay, km_unL, km_up_o, km_upx_i, km_upx_s, km_fl2_o, km_is, Option.some.injEq, Sum.inl.injEq, Sum.inr.injEq, Option.toList_some, Option.toList_none, List.cons_append, List.nil_append, ne_eq, true_and, and_true, and_self, not_true_eq_false, not_false_eq_true, true_implies, false_implies, reduceCtorEq]
  | succ n ih =>
    intro i Y hi hY hb hw
    have z : (i : Int) < m 5 1 := by omega
    have i10 : (i : Int) < 10 := by omega
    have Y3 : Y 123 3 = m 5 1 := (hY 123 3 (by decide) (by unfold kJ; omega)).trans f1.2.2
    have bw := kSm_b (f := kwA m b) (B := 1000000) i (fun k _ _ => kwA_b hT hE)
    have br := kSm_b (f := m 101) (B := 999999) i (fun k k0 k1 => (e4 k k0 (by omega)).1)
    have bi := kwA_b (b := b) (k := (i : Int)) hT hE
    have bj := (e4 i (by omega) i10).1
    have bm : (i : Int) * 1000000 ≤ 10 * 1000000 := by omega
    have bm2 : (i : Int) * 999999 ≤ 10 * 999999 := by omega
    have gi := fun Q => @md_isGuest q c s m Y i hE f1.2.1 (hY 123 80 (by decide) (by unfold kJ; omega)) (hY 123 82 (by decide) (by unfold kJ; omega)) Y3 Q
    have e1 : ((i + 1 : Nat) : Int) = (i : Int) + 1 := by omega
    have s1 : kSm (kwA m b) (i + 1) = kSm (kwA m b) i + kwA m b i := rfl
    have s2 : kSm (m 101) (i + 1) = kSm (m 101) i + m 101 i := rfl
    by_cases g : kG m i
    · obtain ⟨Z1, ⟨z1, z2, z3⟩, z4⟩ := @m_weight q c s m Y N b P i h hN hp on hY hb g
      have ew : kwA m b i = kwG m b i := by unfold kwA; rw [if_pos g]
      obtain ⟨Y1, d1⟩ : ∃ Y1 : km_Mm, Y1 = km_up Z1 174 i (kwG m b i) := ⟨_, rfl⟩
      have j1 : kMj m Y1 := fun d j u1 u2 => by rw [d1, km_up_ne (fun w => u2 (by unfold kJ; omega))]; exact z1 d j u1 u2
      obtain ⟨Z, w1, w2, w3, w4, w5⟩ := ih (i + 1) Y1 (by omega) j1 (by rw [d1, km_up_ne (by omega), z3]; exact hb) (fun j j0 j1 => by
        by_cases y : j = i
        · subst y; rw [d1, km_upx_s, ew]
        · rw [d1, km_up_ne (by omega), z2 _ _ (by omega)]; exact hw j j0 (by omega))
      refine ⟨Z, w1, fun d j u => by rw [w2 d j u, d1, km_up_ne (by omega), z2 d j (by omega)], w3, w4, fun Q => ?_⟩
      rw [← w5 Q, g_X12_share_7, e1, s1, s2, d1, ew]
      rw [ew] at bi
      simp only [if_pos g] at gi
      have Z3 : Z1 123 3 = m 5 1 := (z1 123 3 (by decide) (by unfold kJ; omega)).trans f1.2.2
      have g2 := fun Q => @md_isGuest q c s m (km_up Z1 174 i (kwG m b i)) i hE f1.2.1 ((km_up_ne (by omega)).trans (z1 123 80 (by decide) (by unfold kJ; omega))) ((km_up_ne (by omega)).trans (z1 123 82 (by decide) (by unfold kJ; omega))) ((km_up_ne (by omega)).trans Z3) Q
      simp only [if_pos g] at g2
      have r170 : Z1 170 i = m 101 i := (z1 170 i (by decide) (by unfold kJ; omega)).trans ((e4 i (by omega) i10).2.1 z)
      simp (config := { decide := true }) (disch := first | decide | assumption | omega | (simp (config := { decide := true }) only [km_sr_sf, km_sr_of, km_up_of, km_up_o, km_upx_i, km_upx_s, km_fl2_o, ne_eq, not_true_eq_false, not_false_eq_true] <;> omega) | fail) only [g_X12_share, Y3, z, i10, gi, z4, g2, r170, ka_lt, ka_le, ka_nlt, ka_nle, ka_ne, ka_eq, Int.add_sub_cancel, true_or, or_true, false_or, or_false, false_and, and_false, if_true, if_false, ka_lo, ka_hi, ka_nn, km_sr_sf, km_sr_of, km_up_of, km_sr_us, km_sr_uo, km_sr_sr, km_sr_fl, km_sr_flo, km_up_up, km_up_lt, km_lay, km_unL, km_up_o, km_upx_i, km_upx_s, km_fl2_o, km_is, Option.some.injEq, Sum.inl.injEq, Sum.inr.injEq, Option.toList_some, Option.toList_none, List.cons_append, List.nil_append, ne_eq, true_and, and_true, and_self, not_true_eq_false, not_false_eq_true, true_implies, false_implies, reduceCtorEq]
    · have ew : kwA m b i = 0 := by unfold kwA; rw [if_neg g]
      have er : m 101 i = 0 := (e4 i (by omega) i10).2.2 (by
        cases e : tb (m 100 1) i with
        | false => rfl
        | true => exact absurd ⟨by omega, i10, e⟩ g)
      obtain ⟨Y1, d1⟩ : ∃ Y1 : km_Mm, Y1 = km_up Y 174 i 0 := ⟨_, rfl⟩
      have j1 : kMj m Y1 := fun d j u1 u2 => by rw [d1, km_up_ne (fun w => u2 (by unfold kJ; omega))]; exact hY d j u1 u2
      obtain ⟨Z, w1, w2, w3, w4, w5⟩ := ih (i + 1) Y1 (by omega) j1 (by rw [d1, km_up_ne (by omega)]; exact hb) (fun j j0 j1 => by
        by_cases y : j = i
        · subst y; rw [d1, km_upx_s, ew]
        · rw [d1, km_up_ne (by omega)]; exact hw j j0 (by omega))
      refine ⟨Z, w1, fun d j u => by rw [w2 d j u, d1, km_up_ne (by omega)], w3, w4, fun Q => ?_⟩
      rw [← w5 Q, g_X12_share_7, e1, s1, s2, d1, ew, er]
      simp only [if_neg g] at gi
      have g2 := fun Q => @md_isGuest q c s m (km_up Y 174 i 0) i hE f1.2.1 ((km_up_ne (by omega)).trans (hY 123 80 (by decide) (by unfold kJ; omega))) ((km_up_ne (by omega)).trans (hY 123 82 (by decide) (by unfold kJ; omega))) ((km_up_ne (by omega)).trans Y3) Q
      simp only [if_neg g] at g2
      simp (config := { decide := true }) (disch := first | decide | assumption | omega | (simp (config := { decide := true }) only [km_sr_sf, km_sr_of, km_up_of, km_up_o, km_upx_i, km_upx_s, km_fl2_o, ne_eq, not_true_eq_false, not_false_eq_true] <;> omega) | fail) only [g_X12_share, Y3, z, i10, gi, g2, Int.add_zero, ka_lt, ka_le, ka_nlt, ka_nle, ka_ne, ka_eq, Int.add_sub_cancel, true_or, or_true, false_or, or_false, false_and, and_false, if_true, if_false, ka_lo, ka_hi, ka_nn, km_sr_sf, km_sr_of, km_up_of, km_sr_us, km_sr_uo, km_sr_sr, km_sr_fl, km_sr_flo, km_up_up, km_up_lt, km_lay, km_unL, km_up_o, km_upx_i, km_upx_s, km_fl2_o, km_is, Option.some.injEq, Sum.inl.injEq, Sum.inr.injEq, Option.toList_some, Option.toList_none, List.cons_append, List.nil_append, ne_eq, true_and, and_true, and_self, not_true_eq_false, not_false_eq_true, true_implies, false_implies, reduceCtorEq]
end FW

