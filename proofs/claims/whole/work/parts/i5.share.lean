/-! ===== promise 23: owes: the class shares out ===== -/
section FD
variable {q q' : Nat × Int × Int × Int × Int} {c s : Nat} {m C M X X' Y Z : km_Mm} {N o o1 p p1 b b1 P p' k : Int}
theorem kPy_al (t : kTo m b = 0) : kPy m b k ↔ tb (m 100 1) k = true := by
  unfold kPy kPt
  rw [if_pos t]
  cases tb (m 100 1) k <;> decide
theorem kPy_na (t : ¬ kTo m b = 0) : kPy m b k ↔ 0 < kwA m b k := by
  unfold kPy kPt
  rw [if_neg t]
theorem c_div3 (hT : kI_trait m) (hE : kI_meet m) : ∀ (n i : Nat) (X : km_Mm) (o11 o12 : Option km_V), (i : Int) + n = 10 → (∀ j : Int, 0 ≤ j → j < 10 → X 114 j = kwA m b j ∧ X 101 j = m 101 j) → (∀ j : Int, 0 ≤ j → j < 10 → X 115 j = if j < i then kSf m b j else kS0 m b j) → (∀ j : Int, 0 ≤ j → j < i → X 116 j = kBl m b j) → ∃ (X' : km_Mm), (∀ d j : Int, d ≠ 115 → d ≠ 116 → X' d j = X d j) ∧ (∀ j : Int, 0 ≤ j → j < 10 → X' 115 j = kSf m b j ∧ X' 116 j = kBl m b j) ∧ ∀ Q : Option km_V → km_Al → km_Mm → Prop, km_G M_X9_divide 140 [some (.inr (.inr 113)), some (.inl (m 100 1)), some (.inr (.inr 101)), some (.inl (kPd m)), some (.inr (.inl (kTo m b))), none, some (.inl (if kTo m b = 0 then 1 else 0)), some (.inr (.inl (kDv m b))), none, some (.inl (kLf m b i)), some (.inl (i : Int)), o11, o12] [] (km_A0 q c s) X Q ↔ Q none (km_A0 q c s) X' := by
  have hg := hE.2.1.2.1
  intro n
  induction n with
  | zero =>
    intro i X o11 o12 hi hX hs hb
    have e : i = 10 := by omega
    subst e
    refine ⟨X, fun _ _ _ _ => rfl, fun j j0 j1 => ⟨by rw [hs j j0 j1, if_pos (by omega)], hb j j0 (by omega)⟩, fun Q => ?_⟩
    rw [g_X9_divide_140]
    simp (config := { decide := true }) (disch := first | decide | assumption | omega | (simp (config := { decide := true }) only [km_sr_sf, km_sr_of, km_up_of, km_up_o, km_upx_i, km_upx_s, km_fl2_o, ne_eq, not_true_eq_false, not_false_eq_true] <;> omega) | fail) only [g_X9_divide, ka_lt, ka_le, ka_nlt, ka_nle, ka_ne, ka_eq, Int.add_sub_cancel, true_or, or_true, false_or, or_false, false_and, and_false, if_true, if_false, ka_lo, ka_hi, ka_nn, km_sr_sf, km_sr_of, km_up_of, km_sr_us, km_sr_uo, km_sr_sr, km_sr_fl, km_sr_flo, km_up_up, km_up_lt, km_lay, km_unL, km_up_o, km_upx_i, km_upx_s, km_fl2_o, km_is, Option.some.injEq, Sum.inl.injEq, Sum.inr.injEq, Option.toList_some, Option.toList_none, List.cons_append, List.nil_append, ne_eq, true_and, and_true, and_self, not_true_eq_false, not_false_eq_true, true_implies, false_implies, reduceCtorEq]
  | succ n ih =>
    intro i X o11 o12 hi hX hs hb
    have z : (i : Int) < 10 := by omega
    have i0 : (0 : Int) ≤ i := by omega
    obtain ⟨⟨s0, s1⟩, t0, t1⟩ := kS0_b (b := b) hT hE i0 z
    have bl := kLf_b (b := b) hT hE i
    have br := (hE.2.2.2.1 i i0 z).1
    have e1 : ((i + 1 : Nat) : Int) = (i : Int) + 1 := by omega
    obtain ⟨xi, xr⟩ := hX i i0 z
    have x5 : X 115 i = kS0 m b i := by rw [hs i i0 z, if_neg (by omega)]
    have bt := ks_bit0 (x := m 100 1) (k := (i : Int)) hg.1 (by have := hg.2; omega) i0 (by omega)
    have tn : ((i : Int)).toNat = i := by omega
    by_cases y : kPy m b i ∧ 0 < kLf m b i
    · have ef : kSf m b i = kS0 m b i + 1 := by unfold kSf; rw [tn, if_pos y]
      have el : kLf m b (i + 1) = kLf m b i + -1 := by rw [kLf, if_pos y, Int.sub_eq_add_neg]
      have eb : kBl m b i = m 101 i - (kS0 m b i + 1) := by unfold kBl; rw [ef]
      obtain ⟨X1, d1⟩ : ∃ X1 : km_Mm, X1 = km_up (km_up X 115 i (kS0 m b i + 1)) 116 i (m 101 i - (kS0 m b i + 1)) := ⟨_, rfl⟩
      obtain ⟨X', w1, w2, w3⟩ := ih (i + 1) X1 (some (.inl 1)) o12 (by omega) (fun j j0 j1 => by rw [d1, km_up_ne (by omega), km_up_ne (by omega), km_up_ne (by omega), km_up_ne (by omega)]; exact hX j j0 j1) (fun j j0 j1 => by
        rw [d1, km_up_ne (by omega)]
        by_cases w : j = i
        · subst w; rw [km_upx_s, if_pos (by omega), ef]
        · rw [km_up_ne (by omega), hs j j0 j1]
          by_cases u : j < i
          · rw [if_pos u, if_pos (by omega)]
          · rw [if_neg u, if_neg (by omega)]) (fun j j0 j1 => by
        rw [d1]
        by_cases w : j = i
        · subst w; rw [km_upx_s, eb]
        · rw [km_up_ne (by omega), km_up_ne (by omega)]; exact hb j j0 (by omega))
      refine ⟨X', fun d j u1 u2 => by rw [w1 d j u1 u2, d1, km_up_ne (by omega), km_up_ne (by omega)], w2, fun Q => ?_⟩
      have y2 := y.2
      rw [← w3 Q, g_X9_divide_140, e1, d1, el]
      by_cases t : kTo m b = 0
      · have gt := (kPy_al t).mp y.1
        have bn : ¬ km_and (km_shr (m 100 1) i) 1 = 0 := fun w => by rw [bt.mp w] at gt; cases gt
        rw [if_pos t]
        simp (config := { decide := true }) (disch := first | decide | assumption | omega | (simp (config := { decide := true }) only [km_sr_sf, km_sr_of, km_up_of, km_up_o, km_upx_i, km_upx_s, km_fl2_o, ne_eq, not_true_eq_false, not_false_eq_true] <;> omega) | fail) only [g_X9_divide, z, i0, bn, y2, x5, xr, ka_lt, ka_le, ka_nlt, ka_nle, ka_ne, ka_eq, Int.add_sub_cancel, true_or, or_true, false_or, or_false, false_and, and_false, if_true, if_false, ka_lo, ka_hi, ka_nn, km_sr_sf, km_sr_of, km_up_of, km_sr_us, km_sr_uo, km_sr_sr, km_sr_fl, km_sr_flo, km_up_up, km_up_lt, km_lay, km_unL, km_up_o, km_upx_i, km_upx_s, km_fl2_o, km_is, Option.some.injEq, Sum.inl.injEq, Sum.inr.injEq, Option.toList_some, Option.toList_none, List.cons_append, List.nil_append, ne_eq, true_and, and_true, and_self, not_true_eq_false, not_false_eq_true, true_implies, false_implies, reduceCtorEq]
      · have gt := (kPy_na t).mp y.1
        rw [if_neg t]
        simp (config := { decide := true }) (disch := first | decide | assumption | omega | (simp (config := { decide := true }) only [km_sr_sf, km_sr_of, km_up_of, km_up_o, km_upx_i, km_upx_s, km_fl2_o, ne_eq, not_true_eq_false, not_false_eq_true] <;> omega) | fail) only [g_X9_divide, z, i0, xi, gt, kl_gt, kl_le, y2, x5, xr, ka_lt, ka_le, ka_nlt, ka_nle, ka_ne, ka_eq, Int.add_sub_cancel, true_or, or_true, false_or, or_false, false_and, and_false, if_true, if_false, ka_lo, ka_hi, ka_nn, km_sr_sf, km_sr_of, km_up_of, km_sr_us, km_sr_uo, km_sr_sr, km_sr_fl, km_sr_flo, km_up_up, km_up_lt, km_lay, km_unL, km_up_o, km_upx_i, km_upx_s, km_fl2_o, km_is, Option.some.injEq, Sum.inl.injEq, Sum.inr.injEq, Option.toList_some, Option.toList_none, List.cons_append, List.nil_append, ne_eq, true_and, and_true, and_self, not_true_eq_false, not_false_eq_true, true_implies, false_implies, reduceCtorEq]
    · have ef : kSf m b i = kS0 m b i := by unfold kSf; rw [tn, if_neg y, Int.add_zero]
      have el : kLf m b (i + 1) = kLf m b i := by rw [kLf, if_neg y]
      have eb : kBl m b i = m 101 i - kS0 m b i := by unfold kBl; rw [ef]
      obtain ⟨X1, d1⟩ : ∃ X1 : km_Mm, X1 = km_up X 116 i (m 101 i - kS0 m b i) := ⟨_, rfl⟩
      have main : ∀ py : Int, (py = 0 ∨ py = 1) → ∃ (X' : km_Mm), (∀ d j : Int, d ≠ 115 → d ≠ 116 → X' d j = X d j) ∧ (∀ j : Int, 0 ≤ j → j < 10 → X' 115 j = kSf m b j ∧ X' 116 j = kBl m b j) ∧ ∀ Q : Option km_V → km_Al → km_Mm → Prop, km_G M_X9_divide 140 [some (.inr (.inr 113)), some (.inl (m 100 1)), some (.inr (.inr 101)), some (.inl (kPd m)), some (.inr (.inl (kTo m b))), none, some (.inl (if kTo m b = 0 then 1 else 0)), some (.inr (.inl (kDv m b))), none, some (.inl (kLf m b i)), some (.inl ((i : Int) + 1)), some (.inl py), o12] [] (km_A0 q c s) X1 Q ↔ Q none (km_A0 q c s) X' := fun py _ => by
        obtain ⟨X', w1, w2, w3⟩ := ih (i + 1) X1 (some (.inl py)) o12 (by omega) (fun j j0 j1 => by rw [d1, km_up_ne (by omega), km_up_ne (by omega)]; exact hX j j0 j1) (fun j j0 j1 => by
          rw [d1, km_up_ne (by omega), hs j j0 j1]
          by_cases u : j < i
          · rw [if_pos u, if_pos (by omega)]
          · rw [if_neg u]
            by_cases w : j = i
            · subst w; rw [if_pos (by omega), ef]
            · rw [if_neg (by omega)]) (fun j j0 j1 => by
          rw [d1]
          by_cases w : j = i
          · subst w; rw [km_upx_s, eb]
          · rw [km_up_ne (by omega)]; exact hb j j0 (by omega))
        rw [e1, el] at w3
        exact ⟨X', fun d j u1 u2 => by rw [w1 d j u1 u2, d1, km_up_ne (by omega)], w2, w3⟩
      by_cases y1 : kPy m b i
      · have y2 : ¬ 0 < kLf m b i := fun w => y ⟨y1, w⟩
        obtain ⟨X', w1, w2, w3⟩ := main 1 (Or.inr rfl)
        refine ⟨X', w1, w2, fun Q => ?_⟩
        rw [← w3 Q, g_X9_divide_140, d1]
        by_cases t : kTo m b = 0
        · have gt := (kPy_al t).mp y1
          have bn : ¬ km_and (km_shr (m 100 1) i) 1 = 0 := fun w => by rw [bt.mp w] at gt; cases gt
          rw [if_pos t]
          simp (config := { decide := true }) (disch := first | decide | assumption | omega | (simp (config := { decide := true }) only [km_sr_sf, km_sr_of, km_up_of, km_up_o, km_upx_i, km_upx_s, km_fl2_o, ne_eq, not_true_eq_false, not_false_eq_true] <;> omega) | fail) only [g_X9_divide, z, i0, bn, y2, x5, xr, ka_lt, ka_le, ka_nlt, ka_nle, ka_ne, ka_eq, Int.add_sub_cancel, true_or, or_true, false_or, or_false, false_and, and_false, if_true, if_false, ka_lo, ka_hi, ka_nn, km_sr_sf, km_sr_of, km_up_of, km_sr_us, km_sr_uo, km_sr_sr, km_sr_fl, km_sr_flo, km_up_up, km_up_lt, km_lay, km_unL, km_up_o, km_upx_i, km_upx_s, km_fl2_o, km_is, Option.some.injEq, Sum.inl.injEq, Sum.inr.injEq, Option.toList_some, Option.toList_none, List.cons_append, List.nil_append, ne_eq, true_and, and_true, and_self, not_true_eq_false, not_false_eq_true, true_implies, false_implies, reduceCtorEq]
        · have gt := (kPy_na t).mp y1
          rw [if_neg t]
          simp (config := { decide := true }) (disch := first | decide | assumption | omega | (simp (config := { decide := true }) only [km_sr_sf, km_sr_of, km_up_of, km_up_o, km_upx_i, km_upx_s, km_fl2_o, ne_eq, not_true_eq_false, not_false_eq_true] <;> omega) | fail) only [g_X9_divide, z, i0, xi, gt, kl_gt, kl_le, y2, x5, xr, ka_lt, ka_le, ka_nlt, ka_nle, ka_ne, ka_eq, Int.add_sub_cancel, true_or, or_true, false_or, or_false, false_and, and_false, if_true, if_false, ka_lo, ka_hi, ka_nn, km_sr_sf, km_sr_of, km_up_of, km_sr_us, km_sr_uo, km_sr_sr, km_sr_fl, km_sr_flo, km_up_up, km_up_lt, km_lay, km_unL, km_up_o, km_upx_i, km_upx_s, km_fl2_o, km_is, Option.some.injEq, Sum.inl.injEq, Sum.inr.injEq, Option.toList_some, Option.toList_none, List.cons_append, List.nil_append, ne_eq, true_and, and_true, and_self, not_true_eq_false, not_false_eq_true, true_implies, false_implies, reduceCtorEq]
      · obtain ⟨X', w1, w2, w3⟩ := main 0 (Or.inl rfl)
        refine ⟨X', w1, w2, fun Q => ?_⟩
        rw [← w3 Q, g_X9_divide_140, d1]
        by_cases t : kTo m b = 0
        · have gt : ¬ tb (m 100 1) i = true := fun w => y1 ((kPy_al t).mpr w)
          have bn : km_and (km_shr (m 100 1) i) 1 = 0 := bt.mpr (by simpa using gt)
          rw [if_pos t]
          simp (config := { decide := true }) (disch := first | decide | assumption | omega | (simp (config := { decide := true }) only [km_sr_sf, km_sr_of, km_up_of, km_up_o, km_upx_i, km_upx_s, km_fl2_o, ne_eq, not_true_eq_false, not_false_eq_true] <;> omega) | fail) only [g_X9_divide, z, i0, bn, x5, xr, ka_lt, ka_le, ka_nlt, ka_nle, ka_ne, ka_eq, Int.add_sub_cancel, true_or, or_true, false_or, or_false, false_and, and_false, if_true, if_false, ka_lo, ka_hi, ka_nn, km_sr_sf, km_sr_of, km_up_of, km_sr_us, km_sr_uo, km_sr_sr, km_sr_fl, km_sr_flo, km_up_up, km_up_lt, km_lay, km_unL, km_up_o, km_upx_i, km_upx_s, km_fl2_o, km_is, Option.some.injEq, Sum.inl.injEq, Sum.inr.injEq, Option.toList_some, Option.toList_none, List.cons_append, List.nil_append, ne_eq, true_and, and_true, and_self, not_true_eq_false, not_false_eq_true, true_implies, false_implies, reduceCtorEq]
        · have gt : ¬ 0 < kwA m b i := fun w => y1 ((kPy_na t).mpr w)
          have gl : kwA m b i ≤ 0 := by omega
          rw [if_neg t]
          simp (config := { decide := true }) (disch := first | decide | assumption | omega | (simp (config := { decide := true }) only [km_sr_sf, km_sr_of, km_up_of, km_up_o, km_upx_i, km_upx_s, km_fl2_o, ne_eq, not_true_eq_false, not_false_eq_true] <;> omega) | fail) only [g_X9_divide, z, i0, xi, gt, gl, kl_gt, kl_le, x5, xr, ka_lt, ka_le, ka_nlt, ka_nle, ka_ne, ka_eq, Int.add_sub_cancel, true_or, or_true, false_or, or_false, false_and, and_false, if_true, if_false, ka_lo, ka_hi, ka_nn, km_sr_sf, km_sr_of, km_up_of, km_sr_us, km_sr_uo, km_sr_sr, km_sr_fl, km_sr_flo, km_up_up, km_up_lt, km_lay, km_unL, km_up_o, km_upx_i, km_upx_s, km_fl2_o, km_is, Option.some.injEq, Sum.inl.injEq, Sum.inr.injEq, Option.toList_some, Option.toList_none, List.cons_append, List.nil_append, ne_eq, true_and, and_true, and_self, not_true_eq_false, not_false_eq_true, true_implies, false_implies, reduceCtorEq]
/-- the class's money -/
def kMny (m X : km_Mm) (b : Int) : Prop := ∀ j : Int, 0 ≤ j → j < 10 → X 114 j = kwA m b j ∧ X 115 j = kSf m b j ∧ X 116 j = kBl m b j
theorem c_share (h : kI0 N m) (hN : N ≤ 1000) (hp : kIp P m) (hq : kQo q P) (on : m 100 0 ≠ -1) :
    ∃ (q' : Nat × Int × Int × Int × Int) (X' : km_Mm), (kQo q' P ∧ q'.1 = q.1) ∧ kZ m X' ∧ kMny m X' b ∧ ∀ Q : Option km_V → km_Al → km_Mm → Prop, km_E M_X11_shareOut [.inr (.inr 0)] (km_A0 q c s) m Q ↔ Q none (km_A0 q' c s) X' := by
  have hE := h.2.2.2.2.2.2.2.1
  have hT := h.2.2.1
  have oo : 0 ≤ m 100 0 ∧ m 100 0 < m 19 1 := ⟨by have := hE.1.1.1; omega, hE.1.1.2.1⟩
  obtain ⟨M, zM, eM⟩ := @kZ_now q c s m h.1
  obtain ⟨M1, z1, x1, e1⟩ := @cl_lookAt q c s m M N (m 100 0) P h hp hq zM oo.1 oo.2
  obtain ⟨q2, X2, u1, u2, u3, u4, u5⟩ := @c_weights c s m N b P h hN hp 10 0 q M1 (by decide) (by decide) hq z1 x1 (fun j j0 j1 => absurd j1 (by omega))
  have M100 : M 100 0 = m 100 0 := zM.1 100 0 (by unfold kJ; omega)
  have X1001 : X2 100 1 = m 100 1 := u2.1 100 1 (by unfold kJ; omega)
  have X101 : ∀ j : Int, X2 101 j = m 101 j := fun j => u2.1 101 j (by unfold kJ; omega)
  have pi := fun Q => @r_paidInAll q2 c s X2 (fun k k0 k1 => by rw [X101]; exact (hE.2.2.2.1 k k0 k1).1) Q
  have e101 : X2 101 = m 101 := funext X101
  rw [e101] at pi
  have d1 := fun Q => @c_div1 q2 c s m X2 b u4 hT hE Q 10 0 (by decide)
  obtain ⟨X3, o11, o12, v1, v2, v3⟩ := @c_div2 q2 c s m b hT hE 10 0 X2 none none (by decide) u4 (fun j j0 j1 => absurd j1 (by omega))
  obtain ⟨X4, w1, w2, w3⟩ := @c_div3 q2 c s m b hT hE 10 0 X3 o11 o12 (by decide) (fun j j0 j1 => ⟨by rw [v1 _ _ (by decide)]; exact u4 j j0 j1, by rw [v1 _ _ (by decide)]; exact X101 j⟩) (fun j j0 j1 => by rw [v2 j j0 j1, if_neg (by omega)]) (fun j j0 j1 => absurd j1 (by omega))
  have zX4 : kZ m X4 := kZ_pu u2 (fun d j w => by rw [w1 d j (by omega) (by omega), v1 d j (by omega)])
  have k1 : ((0 : Nat) : Int) = 0 := rfl
  have k2 : kSm (kwA m b) 0 = 0 := rfl
  have k3 : kSm (kS0 m b) 0 = 0 := rfl
  have eP : kSm (m 101) 10 = kPd m := rfl
  rw [eP] at pi
  have ed : ∀ Q : Option km_V → km_Al → km_Mm → Prop, km_E M_X9_divide [.inr (.inr 113), .inl (m 100 1), .inr (.inr 101), .inl (kPd m)] (km_A0 q2 c s) X2 Q ↔ Q none (km_A0 q2 c s) X4 := fun Q => by
    have d1 := d1 Q
    have v3 := v3 Q
    rw [k1, k2] at d1
    rw [k1, k3, Int.sub_zero] at v3
    rw [← w3 Q, k1, ← v3, ← d1, e_X9_divide]
    simp (config := { decide := true }) (disch := first | decide | assumption | omega | (simp (config := { decide := true }) only [km_sr_sf, km_sr_of, km_up_of, km_up_o, km_upx_i, km_upx_s, km_fl2_o, ne_eq, not_true_eq_false, not_false_eq_true] <;> omega) | fail) only [g_X9_divide, ka_lt, ka_le, ka_nlt, ka_nle, ka_ne, ka_eq, Int.add_sub_cancel, true_or, or_true, false_or, or_false, false_and, and_false, if_true, if_false, ka_lo, ka_hi, ka_nn, km_sr_sf, km_sr_of, km_up_of, km_sr_us, km_sr_uo, km_sr_sr, km_sr_fl, km_sr_flo, km_up_up, km_up_lt, km_lay, km_unL, km_up_o, km_upx_i, km_upx_s, km_fl2_o, km_is, Option.some.injEq, Sum.inl.injEq, Sum.inr.injEq, Option.toList_some, Option.toList_none, List.cons_append, List.nil_append, ne_eq, true_and, and_true, and_self, not_true_eq_false, not_false_eq_true, true_implies, false_implies, reduceCtorEq]
  refine ⟨q2, X4, u1, zX4, fun j j0 j1 => ⟨by rw [w1 _ _ (by decide) (by decide), v1 _ _ (by decide)]; exact u4 j j0 j1, w2 j j0 j1⟩, fun Q => ?_⟩
  have w : km_E M_X11_shareOut [.inr (.inr 0)] (km_A0 q c s) m Q ↔ km_G M_X11_shareOut 20 [some (.inr (.inr 0)), some (.inl 0)] [] (km_A0 q c s) M1 Q := by
    rw [e_X11_shareOut]
    simp (config := { decide := true }) (disch := first | decide | assumption | omega | (simp (config := { decide := true }) only [km_sr_sf, km_sr_of, km_up_of, km_up_o, km_upx_i, km_upx_s, km_fl2_o, ne_eq, not_true_eq_false, not_false_eq_true] <;> omega) | fail) only [g_X11_shareOut, eM, M100, e1, ka_lt, ka_le, ka_nlt, ka_nle, ka_ne, ka_eq, Int.add_sub_cancel, true_or, or_true, false_or, or_false, false_and, and_false, if_true, if_false, ka_lo, ka_hi, ka_nn, km_sr_sf, km_sr_of, km_up_of, km_sr_us, km_sr_uo, km_sr_sr, km_sr_fl, km_sr_flo, km_up_up, km_up_lt, km_lay, km_unL, km_up_o, km_upx_i, km_upx_s, km_fl2_o, km_is, Option.some.injEq, Sum.inl.injEq, Sum.inr.injEq, Option.toList_some, Option.toList_none, List.cons_append, List.nil_append, ne_eq, true_and, and_true, and_self, not_true_eq_false, not_false_eq_true, true_implies, false_implies, reduceCtorEq]
  rw [w, u5 Q]
  simp (config := { decide := true }) (disch := first | decide | assumption | omega | (simp (config := { decide := true }) only [km_sr_sf, km_sr_of, km_up_of, km_up_o, km_upx_i, km_upx_s, km_fl2_o, ne_eq, not_true_eq_false, not_false_eq_true] <;> omega) | fail) only [g_X11_shareOut, X1001, pi, ed, ka_lt, ka_le, ka_nlt, ka_nle, ka_ne, ka_eq, Int.add_sub_cancel, true_or, or_true, false_or, or_false, false_and, and_false, if_true, if_false, ka_lo, ka_hi, ka_nn, km_sr_sf, km_sr_of, km_up_of, km_sr_us, km_sr_uo, km_sr_sr, km_sr_fl, km_sr_flo, km_up_up, km_up_lt, km_lay, km_unL, km_up_o, km_upx_i, km_upx_s, km_fl2_o, km_is, Option.some.injEq, Sum.inl.injEq, Sum.inr.injEq, Option.toList_some, Option.toList_none, List.cons_append, List.nil_append, ne_eq, true_and, and_true, and_self, not_true_eq_false, not_false_eq_true, true_implies, false_implies, reduceCtorEq]
end FD

