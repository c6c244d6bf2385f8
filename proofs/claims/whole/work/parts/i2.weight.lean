/-! ===== promise 23: owes: the weights ===== -/
def kcw (v : Int) : Int := if v < 0 then 0 else if 1000000 < v then 1000000 else v
/-- the weight of a guest -/
noncomputable def kwG (m : km_Mm) (b k : Int) : Int := if m 142 5 = -1 then m 9 k else kcw (kvl (kLv m (m 100 0) k b 5))
/-- of anybody -/
noncomputable def kwA (m : km_Mm) (b k : Int) : Int := @ite Int (kG m k) (Classical.propDecidable _) (kwG m b k) 0
theorem kcw_b {v : Int} : 0 ≤ kcw v ∧ kcw v ≤ 1000000 := by
  unfold kcw
  split
  · omega
  · split <;> omega
section FW
variable {q q' : Nat × Int × Int × Int × Int} {c s : Nat} {m C M X X' Y Z : km_Mm} {N o o1 p p1 b b1 P p' k : Int}
theorem kG_kin (hE : kI_meet m) (g : kG m k) : 0 ≤ k ∧ k < 10 ∧ k < m 5 1 := by
  refine ⟨g.1, g.2.1, ?_⟩
  by_cases w : k < m 5 1
  · exact w
  · have := hE.2.1.2.2 k (by omega) g.2.1
    rw [g.2.2] at this; cases this
theorem kwA_b (hT : kI_trait m) (hE : kI_meet m) : 0 ≤ kwA m b k ∧ kwA m b k ≤ 1000000 := by
  unfold kwA
  by_cases g : kG m k
  · rw [if_pos g]
    unfold kwG
    split
    · have kk := kG_kin hE g
      have := (hT k kk.1 kk.2.2).2.2.2.1
      omega
    · exact kcw_b
  · rw [if_neg g]; omega
theorem kXO_cg2 (hP : P = 40 ∨ P = 46) (h : kXO m X o p P 0) (k : ∀ d j : Int, d ≠ 69 → d ≠ 84 → ¬ (113 ≤ d ∧ d ≤ 122) → X' d j = X d j) : kXO m X' o p P 0 := by
  unfold kXO at *
  rw [k 5 1 (by decide) (by decide) (by decide), k 70 0 (by decide) (by decide) (by decide), k 70 1 (by decide) (by decide) (by decide), k 70 2 (by decide) (by decide) (by decide), k 70 3 (by decide) (by decide) (by decide), k P 9 (by omega) (by omega) (by omega)]
  obtain ⟨h1, h2, h3, h4, -⟩ := h
  refine ⟨h1, h2, h3, fun x x0 x1 => ?_, fun w => absurd w (by decide)⟩
  rw [k 73 x (by decide) (by decide) (by decide), k 74 x (by decide) (by decide) (by decide), k 75 x (by decide) (by decide) (by decide), k 76 x (by decide) (by decide) (by decide), k 77 x (by decide) (by decide) (by decide), k 78 x (by decide) (by decide) (by decide), k 79 x (by decide) (by decide) (by decide)]
  exact h4 x x0 x1
theorem kZ_pu (h : kZ m X) (k : ∀ d j : Int, ¬ (113 ≤ d ∧ d ≤ 122) → X' d j = X d j) : kZ m X' := by
  obtain ⟨h1, h2, h3⟩ := h
  refine ⟨fun d j z => (k d j (fun w => z (by unfold kJ; omega))).trans (h1 d j z), ?_, kN_cg h3 (fun d j hb => k d j (by omega))⟩
  rw [← h2]
  exact funext fun j => k 52 j (by omega)
theorem c_weight (h : kI0 N m) (hN : N ≤ 1000) (hp : kIp P m) (hq : kQo q P) (hZ : kZ m X) (hX : kXO m X (m 100 0) p' P 0) (g : kG m k) :
    ∃ (q' : Nat × Int × Int × Int × Int) (X' : km_Mm), (kQo q' P ∧ q'.1 = q.1) ∧ kZ m X' ∧ (∀ d j : Int, d ≠ 69 → d ≠ 84 → X' d j = X d j) ∧ ∀ Q : Option km_V → km_Al → km_Mm → Prop, km_E M_X11_weightOf [.inr (.inr 0), .inl k] (km_A0 q c s) X Q ↔ Q (some (.inr (.inl (kwG m b k)))) (km_A0 q' c s) X' := by
  have hPo := hq.1
  have hE := h.2.2.2.2.2.2.2.1
  have kk := kG_kin hE g
  have e5 : X (P + 5) 5 = m (P + 5) 5 := hZ.1 _ _ (kJ_no (by omega))
  have ph := fun Q => @r_phas q c s X P 5 hPo (by decide) Q
  rw [e5] at ph
  have ks : m (P + 5) 5 = -1 ↔ m 142 5 = -1 := kIl_s (hp.2.2.2.1 5 (by decide) (by decide))
  have hq1 := hq.2.1
  have k0 := kk.1
  have k10 := kk.2.1
  unfold kwG
  by_cases z : m (P + 5) 5 = -1
  · rw [if_pos (ks.mp z)]
    rw [if_pos z] at ph
    have X9 : X 9 k = m 9 k := hZ.1 9 k (by unfold kJ; omega)
    refine ⟨q, X, ⟨hq, rfl⟩, hZ, fun _ _ _ _ => rfl, fun Q => ?_⟩
    rw [e_X11_weightOf]
    rcases hPo with rfl | rfl <;> simp (config := { decide := true }) (disch := first | decide | assumption | omega | (simp (config := { decide := true }) only [km_sr_sf, km_sr_of, km_up_of, km_up_o, km_upx_i, km_upx_s, km_fl2_o, ne_eq, not_true_eq_false, not_false_eq_true] <;> omega) | fail) only [g_X11_weightOf, hq1, ph, km_row6, Int.reduceAdd, X9, k0, k10, ka_lt, ka_le, ka_nlt, ka_nle, ka_ne, ka_eq, Int.add_sub_cancel, true_or, or_true, false_or, or_false, false_and, and_false, if_true, if_false, ka_lo, ka_hi, ka_nn, km_sr_sf, km_sr_of, km_up_of, km_sr_us, km_sr_uo, km_sr_sr, km_sr_fl, km_sr_flo, km_up_up, km_up_lt, km_lay, km_unL, km_up_o, km_upx_i, km_upx_s, km_fl2_o, km_is, Option.some.injEq, Sum.inl.injEq, Sum.inr.injEq, Option.toList_some, Option.toList_none, List.cons_append, List.nil_append, ne_eq, true_and, and_true, and_self, not_true_eq_false, not_false_eq_true, true_implies, false_implies, reduceCtorEq]
  · rw [if_neg (fun w => z (ks.mpr w))]
    rw [if_neg z] at ph
    have zX1 : kZ m (km_up X 69 2 k) := kZ_tr hZ (fun d j w => km_up_ne (by omega))
    have xo : kXO m (km_up X 69 2 k) (m 100 0) k P 2 := by
      obtain ⟨a1, a2, a3, a4, -⟩ := kXO_cg2 (X' := km_up X 69 2 k) hPo hX (fun d j w1 w2 w3 => km_up_ne (by omega))
      exact ⟨a1, a2, a3, a4, fun _ => ⟨km_upx_s, kk.1, kk.2.2⟩⟩
    obtain ⟨q', X', v1, v2, v3, v4, v5⟩ := @c_line q c s m (km_up X 69 2 k) N (m 100 0) k b P 5 h hN hp hq zX1 (by decide) z (fun q' => cl_namesO h.1 (by decide) xo)
    refine ⟨q', X', v1, v2, fun d j w1 w2 => (v3 d j w1 w2).trans (km_up_ne (by omega)), fun Q => ?_⟩
    have eW : kcw (kvl (kLv m (m 100 0) k b 5)) = if (if kvl (kLv m (m 100 0) k b 5) < 1000000 then kvl (kLv m (m 100 0) k b 5) else 1000000) < 0 then 0 else (if kvl (kLv m (m 100 0) k b 5) < 1000000 then kvl (kLv m (m 100 0) k b 5) else 1000000) := by
      unfold kcw
      generalize kvl (kLv m (m 100 0) k b 5) = v
      split
      · next w => rw [if_pos (show v < 1000000 by omega), if_pos w]
      · next w =>
        split
        · next w2 => rw [if_neg (show ¬ v < 1000000 by omega)]; rfl
        · next w2 =>
          by_cases w3 : v < 1000000
          · rw [if_pos w3, if_neg w]
          · rw [if_neg w3, if_neg (by decide)]; omega
    rw [eW, e_X11_weightOf]
    rcases hPo with rfl | rfl <;> simp (config := { decide := true }) (disch := first | decide | assumption | omega | (simp (config := { decide := true }) only [km_sr_sf, km_sr_of, km_up_of, km_up_o, km_upx_i, km_upx_s, km_fl2_o, ne_eq, not_true_eq_false, not_false_eq_true] <;> omega) | fail) only [g_X11_weightOf, hq1, ph, v5, ka_lt, ka_le, ka_nlt, ka_nle, ka_ne, ka_eq, Int.add_sub_cancel, true_or, or_true, false_or, or_false, false_and, and_false, if_true, if_false, ka_lo, ka_hi, ka_nn, km_sr_sf, km_sr_of, km_up_of, km_sr_us, km_sr_uo, km_sr_sr, km_sr_fl, km_sr_flo, km_up_up, km_up_lt, km_lay, km_unL, km_up_o, km_upx_i, km_upx_s, km_fl2_o, km_is, Option.some.injEq, Sum.inl.injEq, Sum.inr.injEq, Option.toList_some, Option.toList_none, List.cons_append, List.nil_append, ne_eq, true_and, and_true, and_self, not_true_eq_false, not_false_eq_true, true_implies, false_implies, reduceCtorEq]
/-- the class's weights -/
theorem c_weights (h : kI0 N m) (hN : N ≤ 1000) (hp : kIp P m) : ∀ (n : Nat) (i : Int) (q : Nat × Int × Int × Int × Int) (X : km_Mm), 0 ≤ i → i + n = 10 → kQo q P → kZ m X → kXO m X (m 100 0) (-1) P 0 → (∀ j : Int, 0 ≤ j → j < i → X 114 j = kwA m b j) → ∃ (q' : Nat × Int × Int × Int × Int) (X' : km_Mm), (kQo q' P ∧ q'.1 = q.1) ∧ kZ m X' ∧ (∀ d j : Int, d ≠ 69 → d ≠ 84 → d ≠ 114 → X' d j = X d j) ∧ (∀ j : Int, 0 ≤ j → j < 10 → X' 114 j = kwA m b j) ∧ ∀ Q : Option km_V → km_Al → km_Mm → Prop, km_G M_X11_shareOut 20 [some (.inr (.inr 0)), some (.inl i)] [] (km_A0 q c s) X Q ↔ km_G M_X11_shareOut 61 [some (.inr (.inr 0)), some (.inl 10)] [] (km_A0 q' c s) X' Q := by
  have hE := h.2.2.2.2.2.2.2.1
  intro n
  induction n with
  | zero =>
    intro i q X i0 hi hq hZ hX hw
    have e : i = 10 := by omega
    subst e
    refine ⟨q, X, ⟨hq, rfl⟩, hZ, fun _ _ _ _ _ => rfl, hw, fun Q => ?_⟩
    rw [g_X11_shareOut_20]
    simp (config := { decide := true }) (disch := first | decide | assumption | omega | (simp (config := { decide := true }) only [km_sr_sf, km_sr_of, km_up_of, km_up_o, km_upx_i, km_upx_s, km_fl2_o, ne_eq, not_true_eq_false, not_false_eq_true] <;> omega) | fail) only [g_X11_shareOut, ka_lt, ka_le, ka_nlt, ka_nle, ka_ne, ka_eq, Int.add_sub_cancel, true_or, or_true, false_or, or_false, false_and, and_false, if_true, if_false, ka_lo, ka_hi, ka_nn, km_sr_sf, km_sr_of, km_up_of, km_sr_us, km_sr_uo, km_sr_sr, km_sr_fl, km_sr_flo, km_up_up, km_up_lt, km_lay, km_unL, km_up_o, km_upx_i, km_upx_s, km_fl2_o, km_is, Option.some.injEq, Sum.inl.injEq, Sum.inr.injEq, Option.toList_some, Option.toList_none, List.cons_append, List.nil_append, ne_eq, true_and, and_true, and_self, not_true_eq_false, not_false_eq_true, true_implies, false_implies, reduceCtorEq]
  | succ n ih =>
    intro i q X i0 hi hq hZ hX hw
    have z : i < 10 := by omega
    have X1001 : X 100 1 = m 100 1 := hZ.1 100 1 (by unfold kJ; omega)
    have gi := fun Q => @cl_isGuest q c s X i (by rw [X1001]; exact hE.2.1.2.1) Q
    have gX : kG X i ↔ kG m i := by unfold kG; rw [X1001]
    by_cases g : kG m i
    · obtain ⟨q1, X1, v1, v2, v3, v4⟩ := @c_weight q c s m X N b P (-1) i h hN hp hq hZ hX g
      have g2 := gX.mpr g
      have ew : kwA m b i = kwG m b i := by unfold kwA; rw [if_pos g]
      obtain ⟨q', X', w1, w2, w3, w4, w5⟩ := ih (i + 1) q1 (km_up X1 114 i (kwG m b i)) (by omega) (by omega) v1.1 (kZ_pu v2 (fun d j w => km_up_ne (by omega))) (by
        have := hq.1
        exact kXO_cg2 hq.1 hX (fun d j u1 u2 u3 => (km_up_ne (by omega)).trans (v3 d j u1 u2))) (fun j j0 j1 => by
        by_cases y : j = i
        · subst y; rw [km_upx_s, ew]
        · rw [km_up_ne (by omega), v3 _ _ (by decide) (by decide)]; exact hw j j0 (by omega))
      refine ⟨q', X', ⟨w1.1, w1.2.trans v1.2⟩, w2, fun d j u1 u2 u3 => (w3 d j u1 u2 u3).trans ((km_up_ne (by omega)).trans (v3 d j u1 u2)), w4, fun Q => ?_⟩
      rw [← w5 Q, g_X11_shareOut_20]
      simp only [if_pos g2] at gi
      simp (config := { decide := true }) (disch := first | decide | assumption | omega | (simp (config := { decide := true }) only [km_sr_sf, km_sr_of, km_up_of, km_up_o, km_upx_i, km_upx_s, km_fl2_o, ne_eq, not_true_eq_false, not_false_eq_true] <;> omega) | fail) only [g_X11_shareOut, z, i0, gi, v4, ka_lt, ka_le, ka_nlt, ka_nle, ka_ne, ka_eq, Int.add_sub_cancel, true_or, or_true, false_or, or_false, false_and, and_false, if_true, if_false, ka_lo, ka_hi, ka_nn, km_sr_sf, km_sr_of, km_up_of, km_sr_us, km_sr_uo, km_sr_sr, km_sr_fl, km_sr_flo, km_up_up, km_up_lt, km_lay, km_unL, km_up_o, km_upx_i, km_upx_s, km_fl2_o, km_is, Option.some.injEq, Sum.inl.injEq, Sum.inr.injEq, Option.toList_some, Option.toList_none, List.cons_append, List.nil_append, ne_eq, true_and, and_true, and_self, not_true_eq_false, not_false_eq_true, true_implies, false_implies, reduceCtorEq]
    · have g2 : ¬ kG X i := fun w => g (gX.mp w)
      have ew : kwA m b i = 0 := by unfold kwA; rw [if_neg g]
      obtain ⟨q', X', w1, w2, w3, w4, w5⟩ := ih (i + 1) q (km_up X 114 i 0) (by omega) (by omega) hq (kZ_pu hZ (fun d j w => km_up_ne (by omega))) (kXO_cg2 hq.1 hX (fun d j u1 u2 u3 => km_up_ne (by omega))) (fun j j0 j1 => by
        by_cases y : j = i
        · subst y; rw [km_upx_s, ew]
        · rw [km_up_ne (by omega)]; exact hw j j0 (by omega))
      refine ⟨q', X', w1, w2, fun d j u1 u2 u3 => (w3 d j u1 u2 u3).trans (km_up_ne (by omega)), w4, fun Q => ?_⟩
      rw [← w5 Q, g_X11_shareOut_20]
      simp only [if_neg g2] at gi
      simp (config := { decide := true }) (disch := first | decide | assumption | omega | (simp (config := { decide := true }) only [km_sr_sf, km_sr_of, km_up_of, km_up_o, km_upx_i, km_upx_s, km_fl2_o, ne_eq, not_true_eq_false, not_false_eq_true] <;> omega) | fail) only [g_X11_shareOut, z, i0, gi, ka_lt, ka_le, ka_nlt, ka_nle, ka_ne, ka_eq, Int.add_sub_cancel, true_or, or_true, false_or, or_false, false_and, and_false, if_true, if_false, ka_lo, ka_hi, ka_nn, km_sr_sf, km_sr_of, km_up_of, km_sr_us, km_sr_uo, km_sr_sr, km_sr_fl, km_sr_flo, km_up_up, km_up_lt, km_lay, km_unL, km_up_o, km_upx_i, km_upx_s, km_fl2_o, km_is, Option.some.injEq, Sum.inl.injEq, Sum.inr.injEq, Option.toList_some, Option.toList_none, List.cons_append, List.nil_append, ne_eq, true_and, and_true, and_self, not_true_eq_false, not_false_eq_true, true_implies, false_implies, reduceCtorEq]
end FW

