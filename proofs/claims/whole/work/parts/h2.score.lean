/-! ===== SCORE, the bars ===== -/
/-- SCORE of an OPTION -/
noncomputable def kScv (m : km_Mm) (o p b : Int) : Option Int := if m 142 0 = -1 then some (kRa m o (m 5 1).toNat) else kLv m o p b 4
/-- the first bar, from L on, that puts it out -/
noncomputable def kBr (m : km_Mm) (o p b : Int) : Nat → Int → Int
  | 0, _ => 0
  | n + 1, L => @ite Int (m 142 (krt L - 7) ≠ -1 ∧ kLv m o p b L ≠ some 0) (Classical.propDecidable _) (L + 1) (kBr m o p b n (L + 1))
/-- by which it is out -/
noncomputable def kOt (m : km_Mm) (o p b : Int) : Int := if kBr m o p b 4 0 = 0 then (if kScv m o p b = none then 5 else 0) else kBr m o p b 4 0
theorem kBr_b {m : km_Mm} {o p b : Int} : ∀ (n : Nat) (L : Int), 0 ≤ L → L + n ≤ 4 → 0 ≤ kBr m o p b n L ∧ kBr m o p b n L ≤ 4 := by
  intro n
  induction n with
  | zero => intro L _ _; exact ⟨Int.le_refl _, (by decide : (0 : Int) ≤ 4)⟩
  | succ n ih =>
    intro L h0 h1
    have := ih (L + 1) (by omega) (by omega)
    rw [kBr]
    split <;> omega
theorem kvl_0 {r : Option Int} : kvl r = 0 ↔ r = some 0 := by
  cases r with
  | none => exact ⟨fun w => by have w : (-9223372036854775808 : Int) = 0 := w; exact absurd w (by decide), fun w => by cases w⟩
  | some v => exact ⟨fun w => by have w : v = 0 := w; rw [w], fun w => by cases w; rfl⟩
theorem kve_0 {r : Option Int} : (r ≠ none ∧ kve r = 0) ↔ r = some 0 := by
  cases r with
  | none => exact ⟨fun w => absurd rfl w.1, fun w => by cases w⟩
  | some v => exact ⟨fun w => by have w : v = 0 := w.2; rw [w], fun w => by cases w; exact ⟨fun u => (by cases u), rfl⟩⟩
theorem kXO_cg {m X X' : km_Mm} {o p P ln : Int} (hP : P = 40 ∨ P = 46) (h : kXO m X o p P ln) (k : ∀ d j : Int, d ≠ 69 → d ≠ 84 → X' d j = X d j) (k2 : X' 69 2 = X 69 2) : kXO m X' o p P ln := by
  unfold kXO at *
  rw [k 5 1 (by decide) (by decide), k 70 0 (by decide) (by decide), k 70 1 (by decide) (by decide), k 70 2 (by decide) (by decide), k 70 3 (by decide) (by decide), k P 9 (by omega) (by omega), k2]
  obtain ⟨h1, h2, h3, h4, h5⟩ := h
  refine ⟨h1, h2, h3, fun x x0 x1 => ?_, h5⟩
  rw [k 73 x (by decide) (by decide), k 74 x (by decide) (by decide), k 75 x (by decide) (by decide), k 76 x (by decide) (by decide), k 77 x (by decide) (by decide), k 78 x (by decide) (by decide), k 79 x (by decide) (by decide)]
  exact h4 x x0 x1
section HS
variable {q : Nat × Int × Int × Int × Int} {c s : Nat} {m C X Y : km_Mm} {N o o1 p b P p' : Int}
theorem krt4 : krt 4 - 7 = 0 := rfl
theorem c_score (h : kI0 N m) (hN : N ≤ 1000) (hp : kIp P m) (hq : kQo q P) (hZ : kZ m X) (hX : kXO m X o p' P 0) :
    ∃ (q' : Nat × Int × Int × Int × Int) (X' : km_Mm), (kQo q' P ∧ q'.1 = q.1) ∧ kZ m X' ∧ kXO m X' o p' P 0 ∧ ∀ Q : Option km_V → km_Al → km_Mm → Prop, km_E M_X11_scoreAt [.inr (.inr 0), .inl o] (km_A0 q c s) X Q ↔ Q (some (.inr (.inl (kvl (kScv m o p b))))) (km_A0 q' c s) X' := by
  have hPo := hq.1
  have ho := hX.2.1
  have e5 : X (P + 5) 4 = m (P + 5) 4 := hZ.1 _ _ (kJ_no (by omega))
  have ph := fun Q => @r_phas q c s X P 4 hPo (by decide) Q
  rw [e5] at ph
  have ks := kIl_s (hp.2.2.2.1 4 (by decide) (by decide))
  rw [krt4] at ks
  have hq1 := hq.2.1
  unfold kScv
  by_cases z : m (P + 5) 4 = -1
  · rw [if_pos (ks.mp z)]
    rw [if_pos z] at ph
    have cr := fun Q => @cl_regrets q c s m X o Q h.1 h.2.2.2.1 hZ ho.1 ho.2
    refine ⟨q, X, ⟨hq, rfl⟩, hZ, hX, fun Q => ?_⟩
    rw [e_X11_scoreAt]
    show _ ↔ Q (some (.inr (.inl (kRa m o (m 5 1).toNat)))) (km_A0 q c s) X
    rcases hPo with rfl | rfl <;> simp (config := { decide := true }) (disch := first | decide | assumption | omega | (simp (config := { decide := true }) only [km_sr_sf, km_sr_of, km_up_of, km_up_o, km_upx_i, km_upx_s, km_fl2_o, ne_eq, not_true_eq_false, not_false_eq_true] <;> omega) | fail) only [g_X11_scoreAt, hq1, ph, cr, ka_lt, ka_le, ka_nlt, ka_nle, ka_ne, ka_eq, Int.add_sub_cancel, true_or, or_true, false_or, or_false, false_and, and_false, if_true, if_false, ka_lo, ka_hi, ka_nn, km_sr_sf, km_sr_of, km_up_of, km_sr_us, km_sr_uo, km_sr_sr, km_sr_fl, km_sr_flo, km_up_up, km_up_lt, km_lay, km_unL, km_up_o, km_upx_i, km_upx_s, km_fl2_o, km_is, Option.some.injEq, Sum.inl.injEq, Sum.inr.injEq, Option.toList_some, Option.toList_none, List.cons_append, List.nil_append, ne_eq, true_and, and_true, and_self, not_true_eq_false, not_false_eq_true, true_implies, false_implies, reduceCtorEq]
  · rw [if_neg (fun w => z (ks.mpr w))]
    rw [if_neg z] at ph
    obtain ⟨q', X', v1, v2, v3, v4, v5⟩ := @c_line q c s m X N o p b P 4 h hN hp hq hZ (by decide) z (fun q' => cl_namesO h.1 (by decide) (by obtain ⟨a1, a2, a3, a4, -⟩ := hX; exact ⟨a1, a2, a3, a4, fun w => absurd w (by decide)⟩))
    refine ⟨q', X', v1, v2, kXO_cg hPo hX v3 v4, fun Q => ?_⟩
    rw [e_X11_scoreAt]
    rcases hPo with rfl | rfl <;> simp (config := { decide := true }) (disch := first | decide | assumption | omega | (simp (config := { decide := true }) only [km_sr_sf, km_sr_of, km_up_of, km_up_o, km_upx_i, km_upx_s, km_fl2_o, ne_eq, not_true_eq_false, not_false_eq_true] <;> omega) | fail) only [g_X11_scoreAt, hq1, ph, v5, ka_lt, ka_le, ka_nlt, ka_nle, ka_ne, ka_eq, Int.add_sub_cancel, true_or, or_true, false_or, or_false, false_and, and_false, if_true, if_false, ka_lo, ka_hi, ka_nn, km_sr_sf, km_sr_of, km_up_of, km_sr_us, km_sr_uo, km_sr_sr, km_sr_fl, km_sr_flo, km_up_up, km_up_lt, km_lay, km_unL, km_up_o, km_upx_i, km_upx_s, km_fl2_o, km_is, Option.some.injEq, Sum.inl.injEq, Sum.inr.injEq, Option.toList_some, Option.toList_none, List.cons_append, List.nil_append, ne_eq, true_and, and_true, and_self, not_true_eq_false, not_false_eq_true, true_implies, false_implies, reduceCtorEq]
theorem c_bar (h : kI0 N m) (hN : N ≤ 1000) (hp : kIp P m) (hq : kQo q P) (hZ : kZ m X) (hX : kXO m X o p' P 0) :
    ∃ (q' : Nat × Int × Int × Int × Int) (X' : km_Mm), (kQo q' P ∧ q'.1 = q.1) ∧ kZ m X' ∧ kXO m X' o p' P 0 ∧ ∀ Q : Option km_V → km_Al → km_Mm → Prop, km_E M_X11_firstBar [.inr (.inr 0)] (km_A0 q c s) X Q ↔ Q (some (.inl (kBr m o p b 4 0))) (km_A0 q' c s) X' := by
  have hPo := hq.1
  have lp : ∀ (n : Nat) (L : Int) (q : Nat × Int × Int × Int × Int) (X : km_Mm), 0 ≤ L → L + n = 4 → kQo q P → kZ m X → kXO m X o p' P 0 → ∃ (q' : Nat × Int × Int × Int × Int) (X' : km_Mm), (kQo q' P ∧ q'.1 = q.1) ∧ kZ m X' ∧ kXO m X' o p' P 0 ∧ ∀ Q : Option km_V → km_Al → km_Mm → Prop, km_G M_X11_firstBar 2 [some (.inr (.inr 0)), some (.inl L)] [] (km_A0 q c s) X Q ↔ Q (some (.inl (kBr m o p b n L))) (km_A0 q' c s) X' := by
    intro n
    induction n with
    | zero =>
      intro L q X L0 L4 hq hZ hX
      have z : ¬ L < 4 := by omega
      refine ⟨q, X, ⟨hq, rfl⟩, hZ, hX, fun Q => ?_⟩
      rw [g_X11_firstBar_2]
      unfold kBr
      simp (config := { decide := true }) (disch := first | decide | assumption | omega | (simp (config := { decide := true }) only [km_sr_sf, km_sr_of, km_up_of, km_up_o, km_upx_i, km_upx_s, km_fl2_o, ne_eq, not_true_eq_false, not_false_eq_true] <;> omega) | fail) only [g_X11_firstBar, z, ka_lt, ka_le, ka_nlt, ka_nle, ka_ne, ka_eq, Int.add_sub_cancel, true_or, or_true, false_or, or_false, false_and, and_false, if_true, if_false, ka_lo, ka_hi, ka_nn, km_sr_sf, km_sr_of, km_up_of, km_sr_us, km_sr_uo, km_sr_sr, km_sr_fl, km_sr_flo, km_up_up, km_up_lt, km_lay, km_unL, km_up_o, km_upx_i, km_upx_s, km_fl2_o, km_is, Option.some.injEq, Sum.inl.injEq, Sum.inr.injEq, Option.toList_some, Option.toList_none, List.cons_append, List.nil_append, ne_eq, true_and, and_true, and_self, not_true_eq_false, not_false_eq_true, true_implies, false_implies, reduceCtorEq]
    | succ n ih =>
      intro L q X L0 L4 hq hZ hX
      have hq1 := hq.2.1
      have z : L < 4 := by omega
      have e5 : X (P + 5) L = m (P + 5) L := hZ.1 _ _ (kJ_no (by omega))
      have ph := fun Q => @r_phas q c s X P L hPo (by omega) Q
      rw [e5] at ph
      have ks := kIl_s (hp.2.2.2.1 L L0 (by omega))
      have kl : kln L = 1 := by unfold kln; rw [if_pos z]
      by_cases y : m (P + 5) L = -1
      · rw [if_pos y] at ph
        obtain ⟨q', X', u1, u2, u3, u4⟩ := ih (L + 1) q X (by omega) (by omega) hq hZ hX
        refine ⟨q', X', u1, u2, u3, fun Q => ?_⟩
        rw [kBr, if_neg (fun w => w.1 (ks.mp y)), ← u4 Q, g_X11_firstBar_2]
        rcases hPo with rfl | rfl <;> simp (config := { decide := true }) (disch := first | decide | assumption | omega | (simp (config := { decide := true }) only [km_sr_sf, km_sr_of, km_up_of, km_up_o, km_upx_i, km_upx_s, km_fl2_o, ne_eq, not_true_eq_false, not_false_eq_true] <;> omega) | fail) only [g_X11_firstBar, z, L0, hq1, ph, ka_lt, ka_le, ka_nlt, ka_nle, ka_ne, ka_eq, Int.add_sub_cancel, true_or, or_true, false_or, or_false, false_and, and_false, if_true, if_false, ka_lo, ka_hi, ka_nn, km_sr_sf, km_sr_of, km_up_of, km_sr_us, km_sr_uo, km_sr_sr, km_sr_fl, km_sr_flo, km_up_up, km_up_lt, km_lay, km_unL, km_up_o, km_upx_i, km_upx_s, km_fl2_o, km_is, Option.some.injEq, Sum.inl.injEq, Sum.inr.injEq, Option.toList_some, Option.toList_none, List.cons_append, List.nil_append, ne_eq, true_and, and_true, and_self, not_true_eq_false, not_false_eq_true, true_implies, false_implies, reduceCtorEq]
      · rw [if_neg y] at ph
        obtain ⟨q1, X1, v1, v2, v3, v4, v5⟩ := @c_line q c s m X N o p b P L h hN hp hq hZ (by omega) y (fun q' => by rw [kl]; exact cl_namesO h.1 (by decide) (by obtain ⟨a1, a2, a3, a4, -⟩ := hX; exact ⟨a1, a2, a3, a4, fun w => absurd w (by decide)⟩))
        have hX1 := kXO_cg hPo hX v3 v4
        by_cases x : kLv m o p b L = some 0
        · have k0 := kvl_0.mpr x
          obtain ⟨q', X', u1, u2, u3, u4⟩ := ih (L + 1) q1 X1 (by omega) (by omega) v1.1 v2 hX1
          refine ⟨q', X', ⟨u1.1, u1.2.trans v1.2⟩, u2, u3, fun Q => ?_⟩
          rw [kBr, if_neg (fun w => w.2 x), ← u4 Q, g_X11_firstBar_2]
          rcases hPo with rfl | rfl <;> simp (config := { decide := true }) (disch := first | decide | assumption | omega | (simp (config := { decide := true }) only [km_sr_sf, km_sr_of, km_up_of, km_up_o, km_upx_i, km_upx_s, km_fl2_o, ne_eq, not_true_eq_false, not_false_eq_true] <;> omega) | fail) only [g_X11_firstBar, z, L0, hq1, ph, v5, kl_0, k0, ka_lt, ka_le, ka_nlt, ka_nle, ka_ne, ka_eq, Int.add_sub_cancel, true_or, or_true, false_or, or_false, false_and, and_false, if_true, if_false, ka_lo, ka_hi, ka_nn, km_sr_sf, km_sr_of, km_up_of, km_sr_us, km_sr_uo, km_sr_sr, km_sr_fl, km_sr_flo, km_up_up, km_up_lt, km_lay, km_unL, km_up_o, km_upx_i, km_upx_s, km_fl2_o, km_is, Option.some.injEq, Sum.inl.injEq, Sum.inr.injEq, Option.toList_some, Option.toList_none, List.cons_append, List.nil_append, ne_eq, true_and, and_true, and_self, not_true_eq_false, not_false_eq_true, true_implies, false_implies, reduceCtorEq]
        · have k0 : ¬ kvl (kLv m o p b L) = 0 := fun w => x (kvl_0.mp w)
          refine ⟨q1, X1, v1, v2, hX1, fun Q => ?_⟩
          rw [kBr, if_pos ⟨fun w => y (ks.mpr w), x⟩, g_X11_firstBar_2]
          rcases hPo with rfl | rfl <;> simp (config := { decide := true }) (disch := first | decide | assumption | omega | (simp (config := { decide := true }) only [km_sr_sf, km_sr_of, km_up_of, km_up_o, km_upx_i, km_upx_s, km_fl2_o, ne_eq, not_true_eq_false, not_false_eq_true] <;> omega) | fail) only [g_X11_firstBar, z, L0, hq1, ph, v5, kl_0, k0, ka_lt, ka_le, ka_nlt, ka_nle, ka_ne, ka_eq, Int.add_sub_cancel, true_or, or_true, false_or, or_false, false_and, and_false, if_true, if_false, ka_lo, ka_hi, ka_nn, km_sr_sf, km_sr_of, km_up_of, km_sr_us, km_sr_uo, km_sr_sr, km_sr_fl, km_sr_flo, km_up_up, km_up_lt, km_lay, km_unL, km_up_o, km_upx_i, km_upx_s, km_fl2_o, km_is, Option.some.injEq, Sum.inl.injEq, Sum.inr.injEq, Option.toList_some, Option.toList_none, List.cons_append, List.nil_append, ne_eq, true_and, and_true, and_self, not_true_eq_false, not_false_eq_true, true_implies, false_implies, reduceCtorEq]
  obtain ⟨q', X', u1, u2, u3, u4⟩ := lp 4 0 q X (Int.le_refl _) (by decide) hq hZ hX
  refine ⟨q', X', u1, u2, u3, fun Q => ?_⟩
  rw [← u4 Q, e_X11_firstBar]
  simp (config := { decide := true }) (disch := first | decide | assumption | omega | (simp (config := { decide := true }) only [km_sr_sf, km_sr_of, km_up_of, km_up_o, km_upx_i, km_upx_s, km_fl2_o, ne_eq, not_true_eq_false, not_false_eq_true] <;> omega) | fail) only [g_X11_firstBar, ka_lt, ka_le, ka_nlt, ka_nle, ka_ne, ka_eq, Int.add_sub_cancel, true_or, or_true, false_or, or_false, false_and, and_false, if_true, if_false, ka_lo, ka_hi, ka_nn, km_sr_sf, km_sr_of, km_up_of, km_sr_us, km_sr_uo, km_sr_sr, km_sr_fl, km_sr_flo, km_up_up, km_up_lt, km_lay, km_unL, km_up_o, km_upx_i, km_upx_s, km_fl2_o, km_is, Option.some.injEq, Sum.inl.injEq, Sum.inr.injEq, Option.toList_some, Option.toList_none, List.cons_append, List.nil_append, ne_eq, true_and, and_true, and_self, not_true_eq_false, not_false_eq_true, true_implies, false_implies, reduceCtorEq]
/-- the reference stands at another OPTION -/
theorem kRy_at (hY : kRy m C o1 p b Y) : kRy m C o p b (km_up Y 123 55 o) := by
  obtain ⟨y1, y2, y3, y4, y5⟩ := hY
  exact ⟨fun d j h1 h2 => by rw [km_up_ne (fun w => h2 (by unfold kJ; omega))]; exact y1 d j h1 h2, fun d j hd => by rw [km_up_ne (by omega)]; exact y2 d j hd, km_upx_s, by rw [km_up_ne (by omega)]; exact y4, by rw [km_up_ne (by omega)]; exact y5⟩
theorem kRy_54 {v : Int} (hY : kRy m C o p b Y) : kRy m C o p b (km_up Y 123 54 v) := by
  obtain ⟨y1, y2, y3, y4, y5⟩ := hY
  exact ⟨fun d j h1 h2 => by rw [km_up_ne (fun w => h2 (by unfold kJ; omega))]; exact y1 d j h1 h2, fun d j hd => by rw [km_up_ne (by omega)]; exact y2 d j hd, by rw [km_up_ne (by omega)]; exact y3, by rw [km_up_ne (by omega)]; exact y4, by rw [km_up_ne (by omega)]; exact y5⟩
theorem m_score (h : kI0 N m) (hN : N ≤ 1000) (hp : kIp P m) (ho : 0 ≤ o ∧ o < m 19 1) (hY : kRy m C o1 p b Y) :
    ∃ Z : km_Mm, kRy m C o p b Z ∧ Z 123 54 = (if kScv m o p b = none then 1 else 0) ∧ ∀ Q : Option km_V → km_Al → km_Mm → Prop, km_E M_X12_scoreOf [.inr (.inr 123), .inl o] (km_A0 q c s) Y Q ↔ Q (some (.inr (.inl (kve (kScv m o p b))))) (km_A0 q c s) Z := by
  have hB := h.1
  have hO := h.2.2.2.1
  have f1 := hB.1
  have ks := kIl_s (hp.2.2.2.1 4 (by decide) (by decide))
  rw [krt4] at ks
  have y0 := @kRy_at m C Y o o1 p b hY
  have r0 : Y 142 0 = m 142 0 := hY.1 142 0 (by decide) (by unfold kJ; omega)
  unfold kScv
  by_cases z : m 142 0 = -1
  · rw [if_pos z]
    have y1 := @kRy_54 m C (km_up Y 123 55 o) o p b 0 y0
    have z2 : m 142 0 < 0 := by omega
    have z3 : ¬ 0 ≤ m 142 0 := by omega
    have lp : ∀ (n i : Nat) (Y : km_Mm), (i : Int) + n = m 5 1 → kRy m C o p b Y → Y 123 54 = 0 → ∃ Z : km_Mm, kRy m C o p b Z ∧ Z 123 54 = 0 ∧ ∀ Q : Option km_V → km_Al → km_Mm → Prop, km_G M_X12_scoreOf 35 [some (.inr (.inr 123)), some (.inl o), some (.inr (.inl (kRa m o i))), none, some (.inl (i : Int))] [] (km_A0 q c s) Y Q ↔ Q (some (.inr (.inl (kRa m o (m 5 1).toNat)))) (km_A0 q c s) Z := by
      intro n
      induction n with
      | zero =>
        intro i Y hi hY h54
        have e3 : Y 123 3 = m 5 1 := (hY.1 123 3 (by decide) (by unfold kJ; omega)).trans f1.2.2
        have e : i = (m 5 1).toNat := by omega
        have w : ¬ (i : Int) < m 5 1 := by omega
        refine ⟨Y, hY, h54, fun Q => ?_⟩
        rw [← e, g_X12_scoreOf_35]
        simp (config := { decide := true }) (disch := first | decide | assumption | omega | (simp (config := { decide := true }) only [km_sr_sf, km_sr_of, km_up_of, km_up_o, km_upx_i, km_upx_s, km_fl2_o, ne_eq, not_true_eq_false, not_false_eq_true] <;> omega) | fail) only [g_X12_scoreOf, e3, w, ka_lt, ka_le, ka_nlt, ka_nle, ka_ne, ka_eq, Int.add_sub_cancel, true_or, or_true, false_or, or_false, false_and, and_false, if_true, if_false, ka_lo, ka_hi, ka_nn, km_sr_sf, km_sr_of, km_up_of, km_sr_us, km_sr_uo, km_sr_sr, km_sr_fl, km_sr_flo, km_up_up, km_up_lt, km_lay, km_unL, km_up_o, km_upx_i, km_upx_s, km_fl2_o, km_is, Option.some.injEq, Sum.inl.injEq, Sum.inr.injEq, Option.toList_some, Option.toList_none, List.cons_append, List.nil_append, ne_eq, true_and, and_true, and_self, not_true_eq_false, not_false_eq_true, true_implies, false_implies, reduceCtorEq]
      | succ n ih =>
        intro i Y hi hY h54
        have e3 : Y 123 3 = m 5 1 := (hY.1 123 3 (by decide) (by unfold kJ; omega)).trans f1.2.2
        have w : (i : Int) < m 5 1 := by omega
        have kb := kRa_b hO ho.1 ho.2 i (by omega)
        have rb := (hO.2.2 o i ho.1 ho.2 (by omega) (by omega)).1
        obtain ⟨g, lv⟩ := @md_livesM q c s m Y i hB hY.1 ⟨by omega, by omega⟩
        have yg := @kRy_130 m C Y o p b g hY
        have eR : kRa m o (i + 1) = kRa m o i + (@ite Int (kA m i) (Classical.propDecidable _) (m (23 + o) i) 0) := rfl
        by_cases a : kA m i
        · simp only [if_pos a] at lv eR
          obtain ⟨g2, rg⟩ := @md_regretOf q c s m (km_sr Y 130 g) o i hB hO yg.1 ho.1 ho.2 (by omega) w
          have kq : kQ m o i = m (23 + o) i := by unfold kQ; rw [if_pos a]
          rw [kq] at rg
          obtain ⟨Z, z1, z2, z3⟩ := ih (i + 1) (km_sr (km_sr Y 130 g) 130 g2) (by omega) (kRy_130 yg) (by rw [km_sr_o (by decide), km_sr_o (by decide)]; exact h54)
          refine ⟨Z, z1, z2, fun Q => ?_⟩
          rw [← z3 Q, eR, show ((i + 1 : Nat) : Int) = (i : Int) + 1 by omega, g_X12_scoreOf_35]
          rw [km_sr_sr] at *
          simp (config := { decide := true }) (disch := first | decide | assumption | omega | (simp (config := { decide := true }) only [km_sr_sf, km_sr_of, km_up_of, km_up_o, km_upx_i, km_upx_s, km_fl2_o, ne_eq, not_true_eq_false, not_false_eq_true] <;> omega) | fail) only [g_X12_scoreOf, e3, w, lv, rg, kb, rb, ka_lt, ka_le, ka_nlt, ka_nle, ka_ne, ka_eq, Int.add_sub_cancel, true_or, or_true, false_or, or_false, false_and, and_false, if_true, if_false, ka_lo, ka_hi, ka_nn, km_sr_sf, km_sr_of, km_up_of, km_sr_us, km_sr_uo, km_sr_sr, km_sr_fl, km_sr_flo, km_up_up, km_up_lt, km_lay, km_unL, km_up_o, km_upx_i, km_upx_s, km_fl2_o, km_is, Option.some.injEq, Sum.inl.injEq, Sum.inr.injEq, Option.toList_some, Option.toList_none, List.cons_append, List.nil_append, ne_eq, true_and, and_true, and_self, not_true_eq_false, not_false_eq_true, true_implies, false_implies, reduceCtorEq]
        · simp only [if_neg a] at lv eR
          obtain ⟨Z, z1, z2, z3⟩ := ih (i + 1) (km_sr Y 130 g) (by omega) yg (by rw [km_sr_o (by decide)]; exact h54)
          refine ⟨Z, z1, z2, fun Q => ?_⟩
          rw [← z3 Q, eR, show ((i + 1 : Nat) : Int) = (i : Int) + 1 by omega, g_X12_scoreOf_35]
          simp (config := { decide := true }) (disch := first | decide | assumption | omega | (simp (config := { decide := true }) only [km_sr_sf, km_sr_of, km_up_of, km_up_o, km_upx_i, km_upx_s, km_fl2_o, ne_eq, not_true_eq_false, not_false_eq_true] <;> omega) | fail) only [g_X12_scoreOf, e3, w, lv, kb, ka_lt, ka_le, ka_nlt, ka_nle, ka_ne, ka_eq, Int.add_sub_cancel, true_or, or_true, false_or, or_false, false_and, and_false, if_true, if_false, ka_lo, ka_hi, ka_nn, km_sr_sf, km_sr_of, km_up_of, km_sr_us, km_sr_uo, km_sr_sr, km_sr_fl, km_sr_flo, km_up_up, km_up_lt, km_lay, km_unL, km_up_o, km_upx_i, km_upx_s, km_fl2_o, km_is, Option.some.injEq, Sum.inl.injEq, Sum.inr.injEq, Option.toList_some, Option.toList_none, List.cons_append, List.nil_append, ne_eq, true_and, and_true, and_self, not_true_eq_false, not_false_eq_true, true_implies, false_implies, reduceCtorEq]
    obtain ⟨Z, z1, z4, z5⟩ := lp (m 5 1).toNat 0 (km_up (km_up Y 123 55 o) 123 54 0) (by omega) y1 km_upx_s
    refine ⟨Z, z1, by rw [if_neg (fun w => by cases w)]; exact z4, fun Q => ?_⟩
    show _ ↔ Q (some (.inr (.inl (kRa m o (m 5 1).toNat)))) (km_A0 q c s) Z
    rw [← z5 Q, e_X12_scoreOf]
    show _ ↔ km_G M_X12_scoreOf 35 [some (.inr (.inr 123)), some (.inl o), some (.inr (.inl 0)), none, some (.inl 0)] [] (km_A0 q c s) (km_up (km_up Y 123 55 o) 123 54 0) Q
    simp (config := { decide := true }) (disch := first | decide | assumption | omega | (simp (config := { decide := true }) only [km_sr_sf, km_sr_of, km_up_of, km_up_o, km_upx_i, km_upx_s, km_fl2_o, ne_eq, not_true_eq_false, not_false_eq_true] <;> omega) | fail) only [g_X12_scoreOf, r0, z2, z3, ka_lt, ka_le, ka_nlt, ka_nle, ka_ne, ka_eq, Int.add_sub_cancel, true_or, or_true, false_or, or_false, false_and, and_false, if_true, if_false, ka_lo, ka_hi, ka_nn, km_sr_sf, km_sr_of, km_up_of, km_sr_us, km_sr_uo, km_sr_sr, km_sr_fl, km_sr_flo, km_up_up, km_up_lt, km_lay, km_unL, km_up_o, km_upx_i, km_upx_s, km_fl2_o, km_is, Option.some.injEq, Sum.inl.injEq, Sum.inr.injEq, Option.toList_some, Option.toList_none, List.cons_append, List.nil_append, ne_eq, true_and, and_true, and_self, not_true_eq_false, not_false_eq_true, true_implies, false_implies, reduceCtorEq]
  · rw [if_neg z]
    obtain ⟨h1, -⟩ := kIl_k (hp.2.2.2.1 4 (by decide) (by decide)) (fun w => z (ks.mp w))
    have h1 : 0 ≤ m 142 0 := h1.2
    have z3 : ¬ m 142 0 < 0 := by omega
    obtain ⟨Z, z1, z4, z5⟩ := @m_line q c s m C (km_up Y 123 55 o) N o p b P 4 h hN hp (by decide) (fun w => z (ks.mp w)) ⟨fun _ => ho, fun w => absurd w (by decide), fun w => absurd w (by decide)⟩ y0
    rw [krt4] at z5
    refine ⟨Z, z1, z4, fun Q => ?_⟩
    rw [e_X12_scoreOf]
    simp (config := { decide := true }) (disch := first | decide | assumption | omega | (simp (config := { decide := true }) only [km_sr_sf, km_sr_of, km_up_of, km_up_o, km_upx_i, km_upx_s, km_fl2_o, ne_eq, not_true_eq_false, not_false_eq_true] <;> omega) | fail) only [g_X12_scoreOf, r0, h1, z3, z5, ka_lt, ka_le, ka_nlt, ka_nle, ka_ne, ka_eq, Int.add_sub_cancel, true_or, or_true, false_or, or_false, false_and, and_false, if_true, if_false, ka_lo, ka_hi, ka_nn, km_sr_sf, km_sr_of, km_up_of, km_sr_us, km_sr_uo, km_sr_sr, km_sr_fl, km_sr_flo, km_up_up, km_up_lt, km_lay, km_unL, km_up_o, km_upx_i, km_upx_s, km_fl2_o, km_is, Option.some.injEq, Sum.inl.injEq, Sum.inr.injEq, Option.toList_some, Option.toList_none, List.cons_append, List.nil_append, ne_eq, true_and, and_true, and_self, not_true_eq_false, not_false_eq_true, true_implies, false_implies, reduceCtorEq]
theorem m_out (h : kI0 N m) (hN : N ≤ 1000) (hp : kIp P m) (ho : 0 ≤ o ∧ o < m 19 1) (hY : kRy m C o1 p b Y) :
    ∃ Z : km_Mm, kRy m C o p b Z ∧ ∀ Q : Option km_V → km_Al → km_Mm → Prop, km_E M_X12_outBy [.inr (.inr 123), .inl o] (km_A0 q c s) Y Q ↔ Q (some (.inl (kOt m o p b))) (km_A0 q c s) Z := by
  have lp : ∀ (n : Nat) (L : Int) (o1 : Int) (Y : km_Mm) (o3 : Option km_V), 0 ≤ L → L + n = 4 → kRy m C o1 p b Y → ∃ Z : km_Mm, kRy m C o p b Z ∧ ∀ Q : Option km_V → km_Al → km_Mm → Prop, km_G M_X12_outBy 2 [some (.inr (.inr 123)), some (.inl o), some (.inl (L + 1)), o3, none] [] (km_A0 q c s) Y Q ↔ Q (some (.inl (if kBr m o p b n L = 0 then (if kScv m o p b = none then 5 else 0) else kBr m o p b n L))) (km_A0 q c s) Z := by
    intro n
    induction n with
    | zero =>
      intro L o1 Y o3 L0 L4 hY
      have e : L = 4 := by omega
      subst e
      obtain ⟨Z, z1, z2, z3⟩ := @m_score q c s m C Y N o o1 p b P h hN hp ho hY
      refine ⟨Z, z1, fun Q => ?_⟩
      have k0 : kBr m o p b 0 4 = 0 := rfl
      rw [k0, if_pos rfl, g_X12_outBy_2]
      by_cases y : kScv m o p b = none
      · rw [if_pos y] at z2 ⊢
        simp (config := { decide := true }) (disch := first | decide | assumption | omega | (simp (config := { decide := true }) only [km_sr_sf, km_sr_of, km_up_of, km_up_o, km_upx_i, km_upx_s, km_fl2_o, ne_eq, not_true_eq_false, not_false_eq_true] <;> omega) | fail) only [g_X12_outBy, Int.reduceAdd, z3, z2, ka_lt, ka_le, ka_nlt, ka_nle, ka_ne, ka_eq, Int.add_sub_cancel, true_or, or_true, false_or, or_false, false_and, and_false, if_true, if_false, ka_lo, ka_hi, ka_nn, km_sr_sf, km_sr_of, km_up_of, km_sr_us, km_sr_uo, km_sr_sr, km_sr_fl, km_sr_flo, km_up_up, km_up_lt, km_lay, km_unL, km_up_o, km_upx_i, km_upx_s, km_fl2_o, km_is, Option.some.injEq, Sum.inl.injEq, Sum.inr.injEq, Option.toList_some, Option.toList_none, List.cons_append, List.nil_append, ne_eq, true_and, and_true, and_self, not_true_eq_false, not_false_eq_true, true_implies, false_implies, reduceCtorEq]
      · rw [if_neg y] at z2 ⊢
        simp (config := { decide := true }) (disch := first | decide | assumption | omega | (simp (config := { decide := true }) only [km_sr_sf, km_sr_of, km_up_of, km_up_o, km_upx_i, km_upx_s, km_fl2_o, ne_eq, not_true_eq_false, not_false_eq_true] <;> omega) | fail) only [g_X12_outBy, Int.reduceAdd, z3, z2, ka_lt, ka_le, ka_nlt, ka_nle, ka_ne, ka_eq, Int.add_sub_cancel, true_or, or_true, false_or, or_false, false_and, and_false, if_true, if_false, ka_lo, ka_hi, ka_nn, km_sr_sf, km_sr_of, km_up_of, km_sr_us, km_sr_uo, km_sr_sr, km_sr_fl, km_sr_flo, km_up_up, km_up_lt, km_lay, km_unL, km_up_o, km_upx_i, km_upx_s, km_fl2_o, km_is, Option.some.injEq, Sum.inl.injEq, Sum.inr.injEq, Option.toList_some, Option.toList_none, List.cons_append, List.nil_append, ne_eq, true_and, and_true, and_self, not_true_eq_false, not_false_eq_true, true_implies, false_implies, reduceCtorEq]
    | succ n ih =>
      intro L o1 Y o3 L0 L4 hY
      have w : L + 1 < 5 := by omega
      have w2 : ¬ 5 ≤ L + 1 := by omega
      have kr : krt L - 7 = L + 1 := by unfold krt; rw [if_neg (by omega), if_neg (by omega), if_neg (by omega)]; omega
      have r0 : Y 142 (L + 1) = m 142 (L + 1) := hY.1 142 _ (by decide) (by unfold kJ; omega)
      have ks := kIl_s (hp.2.2.2.1 L L0 (by omega))
      rw [kr] at ks
      have kl : kln L = 1 := by unfold kln; rw [if_pos (by omega)]
      have eB : kBr m o p b (n + 1) L = @ite Int (m 142 (krt L - 7) ≠ -1 ∧ kLv m o p b L ≠ some 0) (Classical.propDecidable _) (L + 1) (kBr m o p b n (L + 1)) := rfl
      rw [kr] at eB
      by_cases z : m 142 (L + 1) = -1
      · rw [if_neg (fun u => u.1 z)] at eB
        rw [eB]
        have z2 : m 142 (L + 1) < 0 := by omega
        have z3 : ¬ 0 ≤ m 142 (L + 1) := by omega
        obtain ⟨Z, z1, z4⟩ := ih (L + 1) o1 Y o3 (by omega) (by omega) hY
        refine ⟨Z, z1, fun Q => ?_⟩
        rw [← z4 Q, g_X12_outBy_2]
        simp (config := { decide := true }) (disch := first | decide | assumption | omega | (simp (config := { decide := true }) only [km_sr_sf, km_sr_of, km_up_of, km_up_o, km_upx_i, km_upx_s, km_fl2_o, ne_eq, not_true_eq_false, not_false_eq_true] <;> omega) | fail) only [g_X12_outBy, w, w2, L0, r0, z2, z3, ka_lt, ka_le, ka_nlt, ka_nle, ka_ne, ka_eq, Int.add_sub_cancel, true_or, or_true, false_or, or_false, false_and, and_false, if_true, if_false, ka_lo, ka_hi, ka_nn, km_sr_sf, km_sr_of, km_up_of, km_sr_us, km_sr_uo, km_sr_sr, km_sr_fl, km_sr_flo, km_up_up, km_up_lt, km_lay, km_unL, km_up_o, km_upx_i, km_upx_s, km_fl2_o, km_is, Option.some.injEq, Sum.inl.injEq, Sum.inr.injEq, Option.toList_some, Option.toList_none, List.cons_append, List.nil_append, ne_eq, true_and, and_true, and_self, not_true_eq_false, not_false_eq_true, true_implies, false_implies, reduceCtorEq]
      · obtain ⟨h1, -⟩ := kIl_k (hp.2.2.2.1 L L0 (by omega)) (fun u => z (ks.mp u))
        rw [kr] at h1
        have h1 := h1.2
        have z3 : ¬ m 142 (L + 1) < 0 := by omega
        obtain ⟨Z1, z1, z4, z5⟩ := @m_line q c s m C (km_up Y 123 55 o) N o p b P L h hN hp (by omega) (fun u => z (ks.mp u)) (by rw [kl]; exact ⟨fun _ => ho, fun w => absurd w (by decide), fun w => absurd w (by decide)⟩) (kRy_at hY)
        rw [kr] at z5
        by_cases x : kLv m o p b L = some 0
        · rw [if_neg (fun u => u.2 x)] at eB
          rw [eB]
          obtain ⟨x1, x2⟩ := kve_0.mpr x
          rw [if_neg x1] at z4
          obtain ⟨Z, y1, y4⟩ := ih (L + 1) o Z1 (some (.inr (.inl 0))) (by omega) (by omega) z1
          refine ⟨Z, y1, fun Q => ?_⟩
          rw [← y4 Q, g_X12_outBy_2]
          simp (config := { decide := true }) (disch := first | decide | assumption | omega | (simp (config := { decide := true }) only [km_sr_sf, km_sr_of, km_up_of, km_up_o, km_upx_i, km_upx_s, km_fl2_o, ne_eq, not_true_eq_false, not_false_eq_true] <;> omega) | fail) only [g_X12_outBy, w, w2, L0, r0, h1, z3, z5, z4, x2, kl_0, ka_lt, ka_le, ka_nlt, ka_nle, ka_ne, ka_eq, Int.add_sub_cancel, true_or, or_true, false_or, or_false, false_and, and_false, if_true, if_false, ka_lo, ka_hi, ka_nn, km_sr_sf, km_sr_of, km_up_of, km_sr_us, km_sr_uo, km_sr_sr, km_sr_fl, km_sr_flo, km_up_up, km_up_lt, km_lay, km_unL, km_up_o, km_upx_i, km_upx_s, km_fl2_o, km_is, Option.some.injEq, Sum.inl.injEq, Sum.inr.injEq, Option.toList_some, Option.toList_none, List.cons_append, List.nil_append, ne_eq, true_and, and_true, and_self, not_true_eq_false, not_false_eq_true, true_implies, false_implies, reduceCtorEq]
        · rw [if_pos ⟨z, x⟩] at eB
          rw [eB, if_neg (by omega)]
          refine ⟨Z1, z1, fun Q => ?_⟩
          rw [g_X12_outBy_2]
          by_cases x1 : kLv m o p b L = none
          · rw [if_pos x1] at z4
            simp (config := { decide := true }) (disch := first | decide | assumption | omega | (simp (config := { decide := true }) only [km_sr_sf, km_sr_of, km_up_of, km_up_o, km_upx_i, km_upx_s, km_fl2_o, ne_eq, not_true_eq_false, not_false_eq_true] <;> omega) | fail) only [g_X12_outBy, w, w2, L0, r0, h1, z3, z5, z4, ka_lt, ka_le, ka_nlt, ka_nle, ka_ne, ka_eq, Int.add_sub_cancel, true_or, or_true, false_or, or_false, false_and, and_false, if_true, if_false, ka_lo, ka_hi, ka_nn, km_sr_sf, km_sr_of, km_up_of, km_sr_us, km_sr_uo, km_sr_sr, km_sr_fl, km_sr_flo, km_up_up, km_up_lt, km_lay, km_unL, km_up_o, km_upx_i, km_upx_s, km_fl2_o, km_is, Option.some.injEq, Sum.inl.injEq, Sum.inr.injEq, Option.toList_some, Option.toList_none, List.cons_append, List.nil_append, ne_eq, true_and, and_true, and_self, not_true_eq_false, not_false_eq_true, true_implies, false_implies, reduceCtorEq]
          · rw [if_neg x1] at z4
            have x2 : ¬ kve (kLv m o p b L) = 0 := fun u => x (kve_0.mp ⟨x1, u⟩)
            simp (config := { decide := true }) (disch := first | decide | assumption | omega | (simp (config := { decide := true }) only [km_sr_sf, km_sr_of, km_up_of, km_up_o, km_upx_i, km_upx_s, km_fl2_o, ne_eq, not_true_eq_false, not_false_eq_true] <;> omega) | fail) only [g_X12_outBy, w, w2, L0, r0, h1, z3, z5, z4, x2, kl_0, ka_lt, ka_le, ka_nlt, ka_nle, ka_ne, ka_eq, Int.add_sub_cancel, true_or, or_true, false_or, or_false, false_and, and_false, if_true, if_false, ka_lo, ka_hi, ka_nn, km_sr_sf, km_sr_of, km_up_of, km_sr_us, km_sr_uo, km_sr_sr, km_sr_fl, km_sr_flo, km_up_up, km_up_lt, km_lay, km_unL, km_up_o, km_upx_i, km_upx_s, km_fl2_o, km_is, Option.some.injEq, Sum.inl.injEq, Sum.inr.injEq, Option.toList_some, Option.toList_none, List.cons_append, List.nil_append, ne_eq, true_and, and_true, and_self, not_true_eq_false, not_false_eq_true, true_implies, false_implies, reduceCtorEq]
  obtain ⟨Z, z1, z2⟩ := lp 4 0 o1 Y none (Int.le_refl _) (by decide) hY
  refine ⟨Z, z1, fun Q => ?_⟩
  unfold kOt
  rw [← z2 Q, e_X12_outBy]
  simp (config := { decide := true }) (disch := first | decide | assumption | omega | (simp (config := { decide := true }) only [km_sr_sf, km_sr_of, km_up_of, km_up_o, km_upx_i, km_upx_s, km_fl2_o, ne_eq, not_true_eq_false, not_false_eq_true] <;> omega) | fail) only [g_X12_outBy, Int.reduceAdd, ka_lt, ka_le, ka_nlt, ka_nle, ka_ne, ka_eq, Int.add_sub_cancel, true_or, or_true, false_or, or_false, false_and, and_false, if_true, if_false, ka_lo, ka_hi, ka_nn, km_sr_sf, km_sr_of, km_up_of, km_sr_us, km_sr_uo, km_sr_sr, km_sr_fl, km_sr_flo, km_up_up, km_up_lt, km_lay, km_unL, km_up_o, km_upx_i, km_upx_s, km_fl2_o, km_is, Option.some.injEq, Sum.inl.injEq, Sum.inr.injEq, Option.toList_some, Option.toList_none, List.cons_append, List.nil_append, ne_eq, true_and, and_true, and_self, not_true_eq_false, not_false_eq_true, true_implies, false_implies, reduceCtorEq]
end HS

