/-! ===== promise 26: host, the reference ===== -/
section FT
variable {q q' : Nat × Int × Int × Int × Int} {c s : Nat} {m C M X Y Z : km_Mm} {N o o1 p b b1 P a k : Int}
theorem kRy_br (hY : kRy m C o p b1 Y) : kRy m C o p b (km_up Y 123 58 b) := by
  obtain ⟨y1, y2, y3, y4, y5⟩ := hY
  exact ⟨fun d j h1 h2 => by rw [km_up_ne (fun w => h2 (by unfold kJ; omega))]; exact y1 d j h1 h2, fun d j hd => by rw [km_up_ne (by omega)]; exact y2 d j hd, by rw [km_up_ne (by omega)]; exact y3, by rw [km_up_ne (by omega)]; exact y4, km_upx_s⟩
theorem m_turn (h : kI0 N m) (z6 : m 142 6 = -1) : ∀ (n : Nat) (i f : Int) (Y : km_Mm) (o5 o6 : Option km_V), 0 ≤ i → i + n = 4 → (-1 ≤ f ∧ f < i) → kRy m C o p b Y → ∃ Z : km_Mm, kRy m C o p b Z ∧ ∀ Q : Option km_V → km_Al → km_Mm → Prop, km_G M_X12_hostOf 7 [some (.inr (.inr 123)), some (.inl f), some (.inr (.inl 0)), none, some (.inl i), o5, o6] [] (km_A0 q c s) Y Q ↔ Q (some (.inl (kHstT m n i f))) (km_A0 q c s) Z := by
  have hS := h.2.2.2.2.2.2.2.2.1
  intro n
  induction n with
  | zero =>
    intro i f Y o5 o6 i0 hi hf hY
    have z : ¬ i < 4 := by omega
    refine ⟨Y, hY, fun Q => ?_⟩
    rw [g_X12_hostOf_7]
    unfold kHstT
    simp (config := { decide := true }) (disch := first | decide | assumption | omega | (simp (config := { decide := true }) only [km_sr_sf, km_sr_of, km_up_of, km_up_o, km_upx_i, km_upx_s, km_fl2_o, ne_eq, not_true_eq_false, not_false_eq_true] <;> omega) | fail) only [g_X12_hostOf, z, ka_lt, ka_le, ka_nlt, ka_nle, ka_ne, ka_eq, Int.add_sub_cancel, true_or, or_true, false_or, or_false, false_and, and_false, if_true, if_false, ka_lo, ka_hi, ka_nn, km_sr_sf, km_sr_of, km_up_of, km_sr_us, km_sr_uo, km_sr_sr, km_sr_fl, km_sr_flo, km_up_up, km_up_lt, km_lay, km_unL, km_up_o, km_upx_i, km_upx_s, km_fl2_o, km_is, Option.some.injEq, Sum.inl.injEq, Sum.inr.injEq, Option.toList_some, Option.toList_none, List.cons_append, List.nil_append, ne_eq, true_and, and_true, and_self, not_true_eq_false, not_false_eq_true, true_implies, false_implies, reduceCtorEq]
  | succ n ih =>
    intro i f Y o5 o6 i0 hi hf hY
    have z : i < 4 := by omega
    obtain ⟨g, pe⟩ := @md_peopleOf q c s m Y i h.1 h.2.2.1 hY.1
    have kb := kcnt_b (P := kPe m i) (m 5 1).toNat
    have yg := @kRy_130 m C Y o p b g hY
    have r6 : Y 142 6 = -1 := (hY.1 142 6 (by decide) (by unfold kJ; omega)).trans z6
    have h1 : ∀ x : Int, 0 ≤ x → x < 4 → Y 182 x = m 1 x ∧ Y 183 x = m 2 x := fun x x0 x1 => ⟨(hY.1 182 x (by decide) (by unfold kJ; omega)).trans (hS x x0 x1).1.1, (hY.1 183 x (by decide) (by unfold kJ; omega)).trans (hS x x0 x1).2.1⟩
    have eH : kHstT m (n + 1) i f = kHstT m n (i + 1) (@ite Int (0 < kcnt (kPe m i) (m 5 1).toNat ∧ (f = -1 ∨ m 1 i < m 1 f ∨ (m 1 i = m 1 f ∧ m 2 i < m 2 f))) (Classical.propDecidable _) i f) := rfl
    by_cases y : 0 < kcnt (kPe m i) (m 5 1).toNat
    case neg =>
      have y0 : kcnt (kPe m i) (m 5 1).toNat = 0 := by omega
      obtain ⟨Z, w1, w2⟩ := ih (i + 1) f (km_sr Y 130 g) o5 o6 (by omega) (by omega) (by omega) yg
      refine ⟨Z, w1, fun Q => ?_⟩
      rw [eH, if_neg (fun w => y w.1), ← w2 Q, g_X12_hostOf_7]
      simp (config := { decide := true }) (disch := first | decide | assumption | omega | (simp (config := { decide := true }) only [km_sr_sf, km_sr_of, km_up_of, km_up_o, km_upx_i, km_upx_s, km_fl2_o, ne_eq, not_true_eq_false, not_false_eq_true] <;> omega) | fail) only [g_X12_hostOf, z, pe, y0, ka_lt, ka_le, ka_nlt, ka_nle, ka_ne, ka_eq, Int.add_sub_cancel, true_or, or_true, false_or, or_false, false_and, and_false, if_true, if_false, ka_lo, ka_hi, ka_nn, km_sr_sf, km_sr_of, km_up_of, km_sr_us, km_sr_uo, km_sr_sr, km_sr_fl, km_sr_flo, km_up_up, km_up_lt, km_lay, km_unL, km_up_o, km_upx_i, km_upx_s, km_fl2_o, km_is, Option.some.injEq, Sum.inl.injEq, Sum.inr.injEq, Option.toList_some, Option.toList_none, List.cons_append, List.nil_append, ne_eq, true_and, and_true, and_self, not_true_eq_false, not_false_eq_true, true_implies, false_implies, reduceCtorEq]
    have y0 : ¬ kcnt (kPe m i) (m 5 1).toNat = 0 := by omega
    have hi1 := (h1 i i0 z)
    by_cases w0 : f = -1
    · obtain ⟨Z, w1, w2⟩ := ih (i + 1) i (km_sr Y 130 g) (some (.inl 1)) o6 (by omega) (by omega) (by omega) yg
      refine ⟨Z, w1, fun Q => ?_⟩
      rw [eH, if_pos ⟨y, Or.inl w0⟩, ← w2 Q, g_X12_hostOf_7]
      simp (config := { decide := true }) (disch := first | decide | assumption | omega | (simp (config := { decide := true }) only [km_sr_sf, km_sr_of, km_up_of, km_up_o, km_upx_i, km_upx_s, km_fl2_o, ne_eq, not_true_eq_false, not_false_eq_true] <;> omega) | fail) only [g_X12_hostOf, z, i0, pe, y0, r6, w0, ka_lt, ka_le, ka_nlt, ka_nle, ka_ne, ka_eq, Int.add_sub_cancel, true_or, or_true, false_or, or_false, false_and, and_false, if_true, if_false, ka_lo, ka_hi, ka_nn, km_sr_sf, km_sr_of, km_up_of, km_sr_us, km_sr_uo, km_sr_sr, km_sr_fl, km_sr_flo, km_up_up, km_up_lt, km_lay, km_unL, km_up_o, km_upx_i, km_upx_s, km_fl2_o, km_is, Option.some.injEq, Sum.inl.injEq, Sum.inr.injEq, Option.toList_some, Option.toList_none, List.cons_append, List.nil_append, ne_eq, true_and, and_true, and_self, not_true_eq_false, not_false_eq_true, true_implies, false_implies, reduceCtorEq]
    have f0 : 0 ≤ f := by omega
    have f4 : f < 4 := by omega
    have hf1 := h1 f f0 f4
    by_cases c1 : m 1 i < m 1 f
    · obtain ⟨Z, w1, w2⟩ := ih (i + 1) i (km_sr Y 130 g) (some (.inl 1)) o6 (by omega) (by omega) (by omega) yg
      refine ⟨Z, w1, fun Q => ?_⟩
      rw [eH, if_pos ⟨y, Or.inr (Or.inl c1)⟩, ← w2 Q, g_X12_hostOf_7]
      simp (config := { decide := true }) (disch := first | decide | assumption | omega | (simp (config := { decide := true }) only [km_sr_sf, km_sr_of, km_up_of, km_up_o, km_upx_i, km_upx_s, km_fl2_o, ne_eq, not_true_eq_false, not_false_eq_true] <;> omega) | fail) only [g_X12_hostOf, z, i0, f0, f4, pe, y0, r6, hi1, hf1, c1, ka_lt, ka_le, ka_nlt, ka_nle, ka_ne, ka_eq, Int.add_sub_cancel, true_or, or_true, false_or, or_false, false_and, and_false, if_true, if_false, ka_lo, ka_hi, ka_nn, km_sr_sf, km_sr_of, km_up_of, km_sr_us, km_sr_uo, km_sr_sr, km_sr_fl, km_sr_flo, km_up_up, km_up_lt, km_lay, km_unL, km_up_o, km_upx_i, km_upx_s, km_fl2_o, km_is, Option.some.injEq, Sum.inl.injEq, Sum.inr.injEq, Option.toList_some, Option.toList_none, List.cons_append, List.nil_append, ne_eq, true_and, and_true, and_self, not_true_eq_false, not_false_eq_true, true_implies, false_implies, reduceCtorEq]
    by_cases c2 : m 1 i = m 1 f
    case neg =>
      obtain ⟨Z, w1, w2⟩ := ih (i + 1) f (km_sr Y 130 g) (some (.inl 0)) o6 (by omega) (by omega) (by omega) yg
      refine ⟨Z, w1, fun Q => ?_⟩
      rw [eH, if_neg (fun w => w.2.elim w0 (fun w => w.elim c1 (fun w => c2 w.1))), ← w2 Q, g_X12_hostOf_7]
      simp (config := { decide := true }) (disch := first | decide | assumption | omega | (simp (config := { decide := true }) only [km_sr_sf, km_sr_of, km_up_of, km_up_o, km_upx_i, km_upx_s, km_fl2_o, ne_eq, not_true_eq_false, not_false_eq_true] <;> omega) | fail) only [g_X12_hostOf, z, i0, f0, f4, pe, y0, r6, hi1, hf1, c1, c2, ka_lt, ka_le, ka_nlt, ka_nle, ka_ne, ka_eq, Int.add_sub_cancel, true_or, or_true, false_or, or_false, false_and, and_false, if_true, if_false, ka_lo, ka_hi, ka_nn, km_sr_sf, km_sr_of, km_up_of, km_sr_us, km_sr_uo, km_sr_sr, km_sr_fl, km_sr_flo, km_up_up, km_up_lt, km_lay, km_unL, km_up_o, km_upx_i, km_upx_s, km_fl2_o, km_is, Option.some.injEq, Sum.inl.injEq, Sum.inr.injEq, Option.toList_some, Option.toList_none, List.cons_append, List.nil_append, ne_eq, true_and, and_true, and_self, not_true_eq_false, not_false_eq_true, true_implies, false_implies, reduceCtorEq]
    by_cases c3 : m 2 i < m 2 f
    · obtain ⟨Z, w1, w2⟩ := ih (i + 1) i (km_sr Y 130 g) (some (.inl 1)) o6 (by omega) (by omega) (by omega) yg
      refine ⟨Z, w1, fun Q => ?_⟩
      rw [eH, if_pos ⟨y, Or.inr (Or.inr ⟨c2, c3⟩)⟩, ← w2 Q, g_X12_hostOf_7]
      simp (config := { decide := true }) (disch := first | decide | assumption | omega | (simp (config := { decide := true }) only [km_sr_sf, km_sr_of, km_up_of, km_up_o, km_upx_i, km_upx_s, km_fl2_o, ne_eq, not_true_eq_false, not_false_eq_true] <;> omega) | fail) only [g_X12_hostOf, z, i0, f0, f4, pe, y0, r6, hi1, hf1, c1, c2, c3, ka_lt, ka_le, ka_nlt, ka_nle, ka_ne, ka_eq, Int.add_sub_cancel, true_or, or_true, false_or, or_false, false_and, and_false, if_true, if_false, ka_lo, ka_hi, ka_nn, km_sr_sf, km_sr_of, km_up_of, km_sr_us, km_sr_uo, km_sr_sr, km_sr_fl, km_sr_flo, km_up_up, km_up_lt, km_lay, km_unL, km_up_o, km_upx_i, km_upx_s, km_fl2_o, km_is, Option.some.injEq, Sum.inl.injEq, Sum.inr.injEq, Option.toList_some, Option.toList_none, List.cons_append, List.nil_append, ne_eq, true_and, and_true, and_self, not_true_eq_false, not_false_eq_true, true_implies, false_implies, reduceCtorEq]
    · obtain ⟨Z, w1, w2⟩ := ih (i + 1) f (km_sr Y 130 g) (some (.inl 0)) o6 (by omega) (by omega) (by omega) yg
      refine ⟨Z, w1, fun Q => ?_⟩
      rw [eH, if_neg (fun w => w.2.elim w0 (fun w => w.elim c1 (fun w => c3 w.2))), ← w2 Q, g_X12_hostOf_7]
      simp (config := { decide := true }) (disch := first | decide | assumption | omega | (simp (config := { decide := true }) only [km_sr_sf, km_sr_of, km_up_of, km_up_o, km_upx_i, km_upx_s, km_fl2_o, ne_eq, not_true_eq_false, not_false_eq_true] <;> omega) | fail) only [g_X12_hostOf, z, i0, f0, f4, pe, y0, r6, hi1, hf1, c1, c2, c3, ka_lt, ka_le, ka_nlt, ka_nle, ka_ne, ka_eq, Int.add_sub_cancel, true_or, or_true, false_or, or_false, false_and, and_false, if_true, if_false, ka_lo, ka_hi, ka_nn, km_sr_sf, km_sr_of, km_up_of, km_sr_us, km_sr_uo, km_sr_sr, km_sr_fl, km_sr_flo, km_up_up, km_up_lt, km_lay, km_unL, km_up_o, km_upx_i, km_upx_s, km_fl2_o, km_is, Option.some.injEq, Sum.inl.injEq, Sum.inr.injEq, Option.toList_some, Option.toList_none, List.cons_append, List.nil_append, ne_eq, true_and, and_true, and_self, not_true_eq_false, not_false_eq_true, true_implies, false_implies, reduceCtorEq]
theorem m_rule (h : kI0 N m) (hN : N ≤ 1000) (hp : kIp P m) (hs : m (P + 5) 6 ≠ -1) (z6 : 0 ≤ m 142 6) : ∀ (n : Nat) (i b1 : Int) (sc : Int × Int) (Y : km_Mm) (o5 o6 : Option km_V), 0 ≤ i → i + n = 4 → (-1 ≤ sc.1 ∧ sc.1 < i) → kRy m C o p b1 Y → ∃ (b2 : Int) (Z : km_Mm), kRy m C o p b2 Z ∧ ∀ Q : Option km_V → km_Al → km_Mm → Prop, km_G M_X12_hostOf 7 [some (.inr (.inr 123)), some (.inl sc.1), some (.inr (.inl sc.2)), none, some (.inl i), o5, o6] [] (km_A0 q c s) Y Q ↔ Q (some (.inl (kHstR m o p n i sc).1)) (km_A0 q c s) Z := by
  intro n
  induction n with
  | zero =>
    intro i b1 sc Y o5 o6 i0 hi hf hY
    have z : ¬ i < 4 := by omega
    refine ⟨b1, Y, hY, fun Q => ?_⟩
    rw [g_X12_hostOf_7]
    unfold kHstR
    simp (config := { decide := true }) (disch := first | decide | assumption | omega | (simp (config := { decide := true }) only [km_sr_sf, km_sr_of, km_up_of, km_up_o, km_upx_i, km_upx_s, km_fl2_o, ne_eq, not_true_eq_false, not_false_eq_true] <;> omega) | fail) only [g_X12_hostOf, z, ka_lt, ka_le, ka_nlt, ka_nle, ka_ne, ka_eq, Int.add_sub_cancel, true_or, or_true, false_or, or_false, false_and, and_false, if_true, if_false, ka_lo, ka_hi, ka_nn, km_sr_sf, km_sr_of, km_up_of, km_sr_us, km_sr_uo, km_sr_sr, km_sr_fl, km_sr_flo, km_up_up, km_up_lt, km_lay, km_unL, km_up_o, km_upx_i, km_upx_s, km_fl2_o, km_is, Option.some.injEq, Sum.inl.injEq, Sum.inr.injEq, Option.toList_some, Option.toList_none, List.cons_append, List.nil_append, ne_eq, true_and, and_true, and_self, not_true_eq_false, not_false_eq_true, true_implies, false_implies, reduceCtorEq]
  | succ n ih =>
    intro i b1 sc Y o5 o6 i0 hi hf hY
    have z : i < 4 := by omega
    obtain ⟨g, pe⟩ := @md_peopleOf q c s m Y i h.1 h.2.2.1 hY.1
    have kb := kcnt_b (P := kPe m i) (m 5 1).toNat
    have yg := @kRy_130 m C Y o p b1 g hY
    have r6 : Y 142 6 = m 142 6 := hY.1 142 6 (by decide) (by unfold kJ; omega)
    have zn : ¬ m 142 6 < 0 := by omega
    have eH : kHstR m o p (n + 1) i sc = kHstR m o p n (i + 1) (@ite (Int × Int) (0 < kcnt (kPe m i) (m 5 1).toNat ∧ kLv m o p i 6 ≠ none ∧ (sc.1 = -1 ∨ sc.2 < kvl (kLv m o p i 6))) (Classical.propDecidable _) (i, kvl (kLv m o p i 6)) sc) := rfl
    by_cases y : 0 < kcnt (kPe m i) (m 5 1).toNat
    case neg =>
      have y0 : kcnt (kPe m i) (m 5 1).toNat = 0 := by omega
      obtain ⟨b2, Z, w1, w2⟩ := ih (i + 1) b1 sc (km_sr Y 130 g) o5 o6 (by omega) (by omega) (by omega) yg
      refine ⟨b2, Z, w1, fun Q => ?_⟩
      rw [eH, if_neg (fun w => y w.1), ← w2 Q, g_X12_hostOf_7]
      simp (config := { decide := true }) (disch := first | decide | assumption | omega | (simp (config := { decide := true }) only [km_sr_sf, km_sr_of, km_up_of, km_up_o, km_upx_i, km_upx_s, km_fl2_o, ne_eq, not_true_eq_false, not_false_eq_true] <;> omega) | fail) only [g_X12_hostOf, z, pe, y0, ka_lt, ka_le, ka_nlt, ka_nle, ka_ne, ka_eq, Int.add_sub_cancel, true_or, or_true, false_or, or_false, false_and, and_false, if_true, if_false, ka_lo, ka_hi, ka_nn, km_sr_sf, km_sr_of, km_up_of, km_sr_us, km_sr_uo, km_sr_sr, km_sr_fl, km_sr_flo, km_up_up, km_up_lt, km_lay, km_unL, km_up_o, km_upx_i, km_upx_s, km_fl2_o, km_is, Option.some.injEq, Sum.inl.injEq, Sum.inr.injEq, Option.toList_some, Option.toList_none, List.cons_append, List.nil_append, ne_eq, true_and, and_true, and_self, not_true_eq_false, not_false_eq_true, true_implies, false_implies, reduceCtorEq]
    have y0 : ¬ kcnt (kPe m i) (m 5 1).toNat = 0 := by omega
    have kat : kAt m o p i (kln 6) := ⟨fun w => absurd rfl w, fun _ => ⟨i0, z⟩, fun w => absurd w (by decide)⟩
    obtain ⟨Z1, z1, z2, z3⟩ := @m_line q c s m C (km_sr (km_up Y 123 58 i) 130 g) N o p i P 6 h hN hp (by decide) hs kat (kRy_130 (kRy_br hY))
    have z3 : ∀ Q : Option km_V → km_Al → km_Mm → Prop, km_E M_X12_valueOf [.inr (.inr 123), .inl (m 142 6)] (km_A0 q c s) (km_sr (km_up Y 123 58 i) 130 g) Q ↔ Q (some (.inr (.inl (kve (kLv m o p i 6))))) (km_A0 q c s) Z1 := z3
    cases hr : kLv m o p i 6 with
    | none =>
      rw [hr] at z2 z3 eH
      rw [if_pos rfl] at z2
      obtain ⟨b2, Z, w1, w2⟩ := ih (i + 1) i sc Z1 (some (.inr (.inl (kve none)))) none (by omega) (by omega) (by omega) z1
      refine ⟨b2, Z, w1, fun Q => ?_⟩
      rw [eH, if_neg (fun w => w.2.1 rfl), ← w2 Q, g_X12_hostOf_7]
      simp (config := { decide := true }) (disch := first | decide | assumption | omega | (simp (config := { decide := true }) only [km_sr_sf, km_sr_of, km_up_of, km_up_o, km_upx_i, km_upx_s, km_fl2_o, ne_eq, not_true_eq_false, not_false_eq_true] <;> omega) | fail) only [g_X12_hostOf, z, i0, pe, y0, r6, zn, z3, z2, ka_lt, ka_le, ka_nlt, ka_nle, ka_ne, ka_eq, Int.add_sub_cancel, true_or, or_true, false_or, or_false, false_and, and_false, if_true, if_false, ka_lo, ka_hi, ka_nn, km_sr_sf, km_sr_of, km_up_of, km_sr_us, km_sr_uo, km_sr_sr, km_sr_fl, km_sr_flo, km_up_up, km_up_lt, km_lay, km_unL, km_up_o, km_upx_i, km_upx_s, km_fl2_o, km_is, Option.some.injEq, Sum.inl.injEq, Sum.inr.injEq, Option.toList_some, Option.toList_none, List.cons_append, List.nil_append, ne_eq, true_and, and_true, and_self, not_true_eq_false, not_false_eq_true, true_implies, false_implies, reduceCtorEq]
    | some u =>
      rw [hr] at z2 z3 eH
      rw [if_neg (fun w => by cases w)] at z2
      have z3 : ∀ Q : Option km_V → km_Al → km_Mm → Prop, km_E M_X12_valueOf [.inr (.inr 123), .inl (m 142 6)] (km_A0 q c s) (km_sr (km_up Y 123 58 i) 130 g) Q ↔ Q (some (.inr (.inl u))) (km_A0 q c s) Z1 := z3
      have eH : kHstR m o p (n + 1) i sc = kHstR m o p n (i + 1) (@ite (Int × Int) (0 < kcnt (kPe m i) (m 5 1).toNat ∧ some u ≠ none ∧ (sc.1 = -1 ∨ sc.2 < u)) (Classical.propDecidable _) (i, u) sc) := eH
      by_cases w0 : sc.1 = -1
      · have wn : sc.1 < 0 := by omega
        obtain ⟨b2, Z, w1, w2⟩ := ih (i + 1) i (i, u) Z1 (some (.inr (.inl u))) none (by omega) (by omega) (by show -1 ≤ i ∧ i < i + 1; omega) z1
        refine ⟨b2, Z, w1, fun Q => ?_⟩
        rw [eH, if_pos ⟨y, (fun w => by cases w), Or.inl w0⟩, ← w2 Q, g_X12_hostOf_7]
        simp (config := { decide := true }) (disch := first | decide | assumption | omega | (simp (config := { decide := true }) only [km_sr_sf, km_sr_of, km_up_of, km_up_o, km_upx_i, km_upx_s, km_fl2_o, ne_eq, not_true_eq_false, not_false_eq_true] <;> omega) | fail) only [g_X12_hostOf, z, i0, pe, y0, r6, zn, z3, z2, wn, ka_lt, ka_le, ka_nlt, ka_nle, ka_ne, ka_eq, Int.add_sub_cancel, true_or, or_true, false_or, or_false, false_and, and_false, if_true, if_false, ka_lo, ka_hi, ka_nn, km_sr_sf, km_sr_of, km_up_of, km_sr_us, km_sr_uo, km_sr_sr, km_sr_fl, km_sr_flo, km_up_up, km_up_lt, km_lay, km_unL, km_up_o, km_upx_i, km_upx_s, km_fl2_o, km_is, Option.some.injEq, Sum.inl.injEq, Sum.inr.injEq, Option.toList_some, Option.toList_none, List.cons_append, List.nil_append, ne_eq, true_and, and_true, and_self, not_true_eq_false, not_false_eq_true, true_implies, false_implies, reduceCtorEq]
      have wn : ¬ sc.1 < 0 := by omega
      by_cases wl : sc.2 < u
      · obtain ⟨b2, Z, w1, w2⟩ := ih (i + 1) i (i, u) Z1 (some (.inr (.inl u))) none (by omega) (by omega) (by show -1 ≤ i ∧ i < i + 1; omega) z1
        refine ⟨b2, Z, w1, fun Q => ?_⟩
        rw [eH, if_pos ⟨y, (fun w => by cases w), Or.inr wl⟩, ← w2 Q, g_X12_hostOf_7]
        have wg : ¬ u ≤ sc.2 := by omega
        simp (config := { decide := true }) (disch := first | decide | assumption | omega | (simp (config := { decide := true }) only [km_sr_sf, km_sr_of, km_up_of, km_up_o, km_upx_i, km_upx_s, km_fl2_o, ne_eq, not_true_eq_false, not_false_eq_true] <;> omega) | fail) only [g_X12_hostOf, z, i0, pe, y0, r6, zn, z3, z2, wn, kl_gt, kl_le, wl, wg, ka_lt, ka_le, ka_nlt, ka_nle, ka_ne, ka_eq, Int.add_sub_cancel, true_or, or_true, false_or, or_false, false_and, and_false, if_true, if_false, ka_lo, ka_hi, ka_nn, km_sr_sf, km_sr_of, km_up_of, km_sr_us, km_sr_uo, km_sr_sr, km_sr_fl, km_sr_flo, km_up_up, km_up_lt, km_lay, km_unL, km_up_o, km_upx_i, km_upx_s, km_fl2_o, km_is, Option.some.injEq, Sum.inl.injEq, Sum.inr.injEq, Option.toList_some, Option.toList_none, List.cons_append, List.nil_append, ne_eq, true_and, and_true, and_self, not_true_eq_false, not_false_eq_true, true_implies, false_implies, reduceCtorEq]
      · obtain ⟨b2, Z, w1, w2⟩ := ih (i + 1) i sc Z1 (some (.inr (.inl u))) none (by omega) (by omega) (by omega) z1
        refine ⟨b2, Z, w1, fun Q => ?_⟩
        rw [eH, if_neg (fun w => w.2.2.elim w0 wl), ← w2 Q, g_X12_hostOf_7]
        have wg : u ≤ sc.2 := by omega
        simp (config := { decide := true }) (disch := first | decide | assumption | omega | (simp (config := { decide := true }) only [km_sr_sf, km_sr_of, km_up_of, km_up_o, km_upx_i, km_upx_s, km_fl2_o, ne_eq, not_true_eq_false, not_false_eq_true] <;> omega) | fail) only [g_X12_hostOf, z, i0, pe, y0, r6, zn, z3, z2, wn, kl_gt, kl_le, wl, wg, ka_lt, ka_le, ka_nlt, ka_nle, ka_ne, ka_eq, Int.add_sub_cancel, true_or, or_true, false_or, or_false, false_and, and_false, if_true, if_false, ka_lo, ka_hi, ka_nn, km_sr_sf, km_sr_of, km_up_of, km_sr_us, km_sr_uo, km_sr_sr, km_sr_fl, km_sr_flo, km_up_up, km_up_lt, km_lay, km_unL, km_up_o, km_upx_i, km_upx_s, km_fl2_o, km_is, Option.some.injEq, Sum.inl.injEq, Sum.inr.injEq, Option.toList_some, Option.toList_none, List.cons_append, List.nil_append, ne_eq, true_and, and_true, and_self, not_true_eq_false, not_false_eq_true, true_implies, false_implies, reduceCtorEq]
theorem m_host (h : kI0 N m) (hN : N ≤ 1000) (hp : kIp P m) (hY : kRy m C o p b Y) :
    ∃ (b2 : Int) (Z : km_Mm), kRy m C o p b2 Z ∧ ∀ Q : Option km_V → km_Al → km_Mm → Prop, km_E M_X12_hostOf [.inr (.inr 123)] (km_A0 q c s) Y Q ↔ Q (some (.inl (kHst m o p))) (km_A0 q c s) Z := by
  have k6 := hp.2.2.2.1 6 (by decide) (by decide)
  have ks : m (P + 5) 6 = -1 ↔ m 142 6 = -1 := kIl_s k6
  unfold kHst
  by_cases z : m 142 6 = -1
  · rw [if_pos z]
    obtain ⟨Z, w1, w2⟩ := @m_turn q c s m C N o p b h z 4 0 (-1) Y none none (by decide) (by decide) (by decide) hY
    refine ⟨b, Z, w1, fun Q => ?_⟩
    rw [← w2 Q, e_X12_hostOf]
    simp (config := { decide := true }) (disch := first | decide | assumption | omega | (simp (config := { decide := true }) only [km_sr_sf, km_sr_of, km_up_of, km_up_o, km_upx_i, km_upx_s, km_fl2_o, ne_eq, not_true_eq_false, not_false_eq_true] <;> omega) | fail) only [g_X12_hostOf, ka_lt, ka_le, ka_nlt, ka_nle, ka_ne, ka_eq, Int.add_sub_cancel, true_or, or_true, false_or, or_false, false_and, and_false, if_true, if_false, ka_lo, ka_hi, ka_nn, km_sr_sf, km_sr_of, km_up_of, km_sr_us, km_sr_uo, km_sr_sr, km_sr_fl, km_sr_flo, km_up_up, km_up_lt, km_lay, km_unL, km_up_o, km_upx_i, km_upx_s, km_fl2_o, km_is, Option.some.injEq, Sum.inl.injEq, Sum.inr.injEq, Option.toList_some, Option.toList_none, List.cons_append, List.nil_append, ne_eq, true_and, and_true, and_self, not_true_eq_false, not_false_eq_true, true_implies, false_implies, reduceCtorEq]
  · rw [if_neg z]
    have hs : m (P + 5) 6 ≠ -1 := fun w => z (ks.mp w)
    have z0 : 0 ≤ m 142 6 := (kIl_k k6 hs).1.2
    obtain ⟨b2, Z, w1, w2⟩ := @m_rule q c s m C N o p P h hN hp hs z0 4 0 b (-1, 0) Y none none (by decide) (by decide) (by decide) hY
    refine ⟨b2, Z, w1, fun Q => ?_⟩
    rw [← w2 Q, e_X12_hostOf]
    show _ ↔ km_G M_X12_hostOf 7 [some (.inr (.inr 123)), some (.inl (-1)), some (.inr (.inl 0)), none, some (.inl 0), none, none] [] (km_A0 q c s) Y Q
    simp (config := { decide := true }) (disch := first | decide | assumption | omega | (simp (config := { decide := true }) only [km_sr_sf, km_sr_of, km_up_of, km_up_o, km_upx_i, km_upx_s, km_fl2_o, ne_eq, not_true_eq_false, not_false_eq_true] <;> omega) | fail) only [g_X12_hostOf, ka_lt, ka_le, ka_nlt, ka_nle, ka_ne, ka_eq, Int.add_sub_cancel, true_or, or_true, false_or, or_false, false_and, and_false, if_true, if_false, ka_lo, ka_hi, ka_nn, km_sr_sf, km_sr_of, km_up_of, km_sr_us, km_sr_uo, km_sr_sr, km_sr_fl, km_sr_flo, km_up_up, km_up_lt, km_lay, km_unL, km_up_o, km_upx_i, km_upx_s, km_fl2_o, km_is, Option.some.injEq, Sum.inl.injEq, Sum.inr.injEq, Option.toList_some, Option.toList_none, List.cons_append, List.nil_append, ne_eq, true_and, and_true, and_self, not_true_eq_false, not_false_eq_true, true_implies, false_implies, reduceCtorEq]
/-- as km_pick, for the OPTION and the payer -/
theorem km_pickO {E : (Option km_V → km_Al → km_Mm → Prop) → Prop} {R : Int → Int → Nat × Int × Int × Int × Int → km_Mm → Prop} {v : Int → Int → Option km_V} {A : Nat × Int × Int × Int × Int → km_Al} (h : ∀ o p : Int, ∃ (q' : Nat × Int × Int × Int × Int) (X' : km_Mm), R o p q' X' ∧ ∀ Q, E Q ↔ Q (v o p) (A q') X') : ∃ (o p : Int) (q' : Nat × Int × Int × Int × Int) (X' : km_Mm), (X' 123 55 = o ∧ X' 123 57 = p) ∧ R o p q' X' ∧ ∀ Q, E Q ↔ Q (v o p) (A q') X' := by
  obtain ⟨q0, X0, r0, e0⟩ := h 0 0
  obtain ⟨q1, X1, r1, e1⟩ := h (X0 123 55) (X0 123 57)
  have e : X1 = X0 := (e1 (fun _ _ m => m = X0)).mp ((e0 _).mpr rfl)
  exact ⟨_, _, q1, X1, ⟨by rw [e], by rw [e]⟩, r1, e1⟩
theorem fc_host (h : kIN N q m) (hN : N ≤ 1000) : kFq M_X11_host M_X12_host [] N N q c s m := by
  intro Q1 Q2
  have hi := h
  obtain ⟨h0, P, hq, hp⟩ := h
  obtain ⟨o, p, q', C, ⟨co, cp⟩, ⟨hq', zC⟩, e2⟩ := @km_pickO (fun Q => km_E M_X11_host [.inr (.inr 0)] (km_A0 q c s) m Q) (fun _ _ q' X' => (kQo q' P ∧ q'.1 = q.1) ∧ kZ m X') (fun o p => some (.inl (kHst m o p))) (fun q' => km_A0 q' c s) (fun o p => by
    obtain ⟨q', X', u1, u2, u3⟩ := @c_host q c s m N o p P h0 hN hp hq
    exact ⟨q', X', ⟨u1, u2⟩, u3⟩)
  have y0 := @kRy_0 m C zC
  rw [co, cp] at y0
  obtain ⟨b2, Z, w1, w2⟩ := @m_host q' c s m C (km_up C 123 2 0) N o p (C 123 58) P h0 hN hp y0
  refine ⟨.inl (kHst m o p), q', C, Z, e2 Q1, ?_, hq'.2, kIN_fin hi hq zC w1 hq'.1⟩
  rw [e_X12_host]
  simp (config := { decide := true }) (disch := first | decide | assumption | omega | (simp (config := { decide := true }) only [km_sr_sf, km_sr_of, km_up_of, km_up_o, km_upx_i, km_upx_s, km_fl2_o, ne_eq, not_true_eq_false, not_false_eq_true] <;> omega) | fail) only [g_X12_host, w2, ka_lt, ka_le, ka_nlt, ka_nle, ka_ne, ka_eq, Int.add_sub_cancel, true_or, or_true, false_or, or_false, false_and, and_false, if_true, if_false, ka_lo, ka_hi, ka_nn, km_sr_sf, km_sr_of, km_up_of, km_sr_us, km_sr_uo, km_sr_sr, km_sr_fl, km_sr_flo, km_up_up, km_up_lt, km_lay, km_unL, km_up_o, km_upx_i, km_upx_s, km_fl2_o, km_is, Option.some.injEq, Sum.inl.injEq, Sum.inr.injEq, Option.toList_some, Option.toList_none, List.cons_append, List.nil_append, ne_eq, true_and, and_true, and_self, not_true_eq_false, not_false_eq_true, true_implies, false_implies, reduceCtorEq]
end FT

