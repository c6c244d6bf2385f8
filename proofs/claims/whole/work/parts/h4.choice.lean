/-! ===== promise 19: choice ===== -/
/-- the best of the OPTIONS from i on, and its SCORE -/
noncomputable def kCh (m : km_Mm) (p b : Int) : Nat → Int → Int × Int → Int × Int
  | 0, _, s => s
  | n + 1, i, s => kCh m p b n (i + 1) (@ite (Int × Int) (kOt m i p b = 0 ∧ (s.1 = -1 ∨ kvl (kScv m i p b) < s.2)) (Classical.propDecidable _) (i, kvl (kScv m i p b)) s)
theorem kCh_b {m : km_Mm} {p b : Int} : ∀ (n : Nat) (i : Int) (s : Int × Int), 0 ≤ i → (-1 ≤ s.1 ∧ s.1 < i) → -1 ≤ (kCh m p b n i s).1 ∧ (kCh m p b n i s).1 < i + n := by
  intro n
  induction n with
  | zero => intro i s _ h; show -1 ≤ s.1 ∧ s.1 < i + 0; omega
  | succ n ih =>
    intro i s i0 h
    rw [kCh]
    have e : i + ((n + 1 : Nat) : Int) = (i + 1) + n := by omega
    rw [e]
    refine ih (i + 1) _ (by omega) ?_
    split
    · show -1 ≤ i ∧ i < i + 1; omega
    · omega
/-- not out: a SCORE that is a value -/
theorem kOt_0 {m : km_Mm} {o p b : Int} : kOt m o p b = 0 ↔ kBr m o p b 4 0 = 0 ∧ kScv m o p b ≠ none := by
  unfold kOt
  by_cases z : kBr m o p b 4 0 = 0
  · rw [if_pos z]
    by_cases y : kScv m o p b = none
    · rw [if_pos y]; exact ⟨fun w => by omega, fun w => absurd y w.2⟩
    · rw [if_neg y]; exact ⟨fun _ => ⟨z, y⟩, fun _ => rfl⟩
  · rw [if_neg z]; exact ⟨fun w => absurd w z, fun w => absurd w.1 z⟩
section FC
variable {q q' : Nat × Int × Int × Int × Int} {c s : Nat} {m C X Y Z : km_Mm} {N o o1 p b P : Int}
theorem kScv_12 (h : kI0 N m) (hN : N ≤ 1000) (hp : kIp P m) (ho : 0 ≤ o ∧ o < m 19 1) {u : Int} (hr : kScv m o p b = some u) : k12 u := by
  have f1 := h.1.1
  unfold kScv at hr
  split at hr
  · cases hr
    have := kRa_b h.2.2.2.1 ho.1 ho.2 (m 5 1).toNat (by omega)
    unfold k12; omega
  · next hz => exact kLv_12 h hN hp (by decide) (fun z => hz ((kIl_s (hp.2.2.2.1 4 (by decide) (by decide))).mp z)) hr
theorem c_choice (h : kI0 N m) (hN : N ≤ 1000) (hp : kIp P m) (hq : kQo q P) :
    ∃ (q' : Nat × Int × Int × Int × Int) (X' : km_Mm), (kQo q' P ∧ q'.1 = q.1) ∧ kZ m X' ∧ ∀ Q : Option km_V → km_Al → km_Mm → Prop, km_E M_X11_choice [.inr (.inr 0)] (km_A0 q c s) m Q ↔ Q (some (.inl (kCh m p b (m 19 1).toNat 0 (-1, 0)).1)) (km_A0 q' c s) X' := by
  have f4 := h.2.2.2.1.1
  obtain ⟨M, zM, eM⟩ := @kZ_now q c s m h.1
  have lp : ∀ (n : Nat) (i : Int) (q : Nat × Int × Int × Int × Int) (X : km_Mm) (sc : Int × Int) (o5 o6 : Option km_V), 0 ≤ i → i + n = m 19 1 → kQo q P → kZ m X → -1 ≤ sc.1 → k12 sc.2 → ∃ (q' : Nat × Int × Int × Int × Int) (X' : km_Mm), (kQo q' P ∧ q'.1 = q.1) ∧ kZ m X' ∧ ∀ Q : Option km_V → km_Al → km_Mm → Prop, km_G M_X11_choice 14 [some (.inr (.inr 0)), some (.inl sc.1), some (.inr (.inl sc.2)), none, some (.inl i), o5, o6] [] (km_A0 q c s) X Q ↔ Q (some (.inl (kCh m p b n i sc).1)) (km_A0 q' c s) X' := by
    intro n
    induction n with
    | zero =>
      intro i q X sc o5 o6 i0 hi hq hZ s0 s1
      have e19 : X 19 1 = m 19 1 := hZ.1 19 1 (by unfold kJ; omega)
      have z : ¬ i < m 19 1 := by omega
      refine ⟨q, X, ⟨hq, rfl⟩, hZ, fun Q => ?_⟩
      rw [g_X11_choice_14]
      unfold kCh
      simp (config := { decide := true }) (disch := first | decide | assumption | omega | (simp (config := { decide := true }) only [km_sr_sf, km_sr_of, km_up_of, km_up_o, km_upx_i, km_upx_s, km_fl2_o, ne_eq, not_true_eq_false, not_false_eq_true] <;> omega) | fail) only [g_X11_choice, e19, z, ka_lt, ka_le, ka_nlt, ka_nle, ka_ne, ka_eq, Int.add_sub_cancel, true_or, or_true, false_or, or_false, false_and, and_false, if_true, if_false, ka_lo, ka_hi, ka_nn, km_sr_sf, km_sr_of, km_up_of, km_sr_us, km_sr_uo, km_sr_sr, km_sr_fl, km_sr_flo, km_up_up, km_up_lt, km_lay, km_unL, km_up_o, km_upx_i, km_upx_s, km_fl2_o, km_is, Option.some.injEq, Sum.inl.injEq, Sum.inr.injEq, Option.toList_some, Option.toList_none, List.cons_append, List.nil_append, ne_eq, true_and, and_true, and_self, not_true_eq_false, not_false_eq_true, true_implies, false_implies, reduceCtorEq]
    | succ n ih =>
      intro i q X sc o5 o6 i0 hi hq hZ s0 s1
      have e19 : X 19 1 = m 19 1 := hZ.1 19 1 (by unfold kJ; omega)
      have z : i < m 19 1 := by omega
      obtain ⟨X1, z1, x1, e1⟩ := @cl_lookAt q c s m X N i P h hp hq hZ i0 z
      obtain ⟨q2, X2, u1, u2, u3, u4⟩ := @c_bar q c s m X1 N i p b P (-1) h hN hp hq z1 x1
      have eC : kCh m p b (n + 1) i sc = kCh m p b n (i + 1) (@ite (Int × Int) (kOt m i p b = 0 ∧ (sc.1 = -1 ∨ kvl (kScv m i p b) < sc.2)) (Classical.propDecidable _) (i, kvl (kScv m i p b)) sc) := rfl
      by_cases y : kBr m i p b 4 0 = 0
      · obtain ⟨q3, X3, t1, t2, t3, t4⟩ := @c_score q2 c s m X2 N i p b P (-1) h hN hp u1.1 u2 u3
        cases hr : kScv m i p b with
        | none =>
          have no : ¬ kOt m i p b = 0 := fun w => (kOt_0.mp w).2 hr
          rw [if_neg (fun w => no w.1)] at eC
          rw [hr] at t4
          have t4 : ∀ Q : Option km_V → km_Al → km_Mm → Prop, km_E M_X11_scoreAt [.inr (.inr 0), .inl i] (km_A0 q2 c s) X2 Q ↔ Q (some (.inr (.inl (-9223372036854775808)))) (km_A0 q3 c s) X3 := t4
          obtain ⟨q', X', w1, w2, w3⟩ := ih (i + 1) q3 X3 sc (some (.inr (.inl (-9223372036854775808)))) none (by omega) (by omega) t1.1 t2 s0 s1
          refine ⟨q', X', ⟨w1.1, (w1.2.trans t1.2).trans u1.2⟩, w2, fun Q => ?_⟩
          rw [eC, ← w3 Q, g_X11_choice_14]
          simp (config := { decide := true }) (disch := first | decide | assumption | omega | (simp (config := { decide := true }) only [km_sr_sf, km_sr_of, km_up_of, km_up_o, km_upx_i, km_upx_s, km_fl2_o, ne_eq, not_true_eq_false, not_false_eq_true] <;> omega) | fail) only [g_X11_choice, e19, z, i0, e1, u4, y, t4, kl_0, ka_lt, ka_le, ka_nlt, ka_nle, ka_ne, ka_eq, Int.add_sub_cancel, true_or, or_true, false_or, or_false, false_and, and_false, if_true, if_false, ka_lo, ka_hi, ka_nn, km_sr_sf, km_sr_of, km_up_of, km_sr_us, km_sr_uo, km_sr_sr, km_sr_fl, km_sr_flo, km_up_up, km_up_lt, km_lay, km_unL, km_up_o, km_upx_i, km_upx_s, km_fl2_o, km_is, Option.some.injEq, Sum.inl.injEq, Sum.inr.injEq, Option.toList_some, Option.toList_none, List.cons_append, List.nil_append, ne_eq, true_and, and_true, and_self, not_true_eq_false, not_false_eq_true, true_implies, false_implies, reduceCtorEq]
        | some u =>
          have ok : kOt m i p b = 0 := kOt_0.mpr ⟨y, by rw [hr]; exact fun w => by cases w⟩
          have u12 := kScv_12 h hN hp ⟨i0, z⟩ hr
          rw [hr] at t4 eC
          have t4 : ∀ Q : Option km_V → km_Al → km_Mm → Prop, km_E M_X11_scoreAt [.inr (.inr 0), .inl i] (km_A0 q2 c s) X2 Q ↔ Q (some (.inr (.inl u))) (km_A0 q3 c s) X3 := t4
          have eC : kCh m p b (n + 1) i sc = kCh m p b n (i + 1) (@ite (Int × Int) (kOt m i p b = 0 ∧ (sc.1 = -1 ∨ u < sc.2)) (Classical.propDecidable _) (i, u) sc) := eC
          have un : ¬ u = -9223372036854775808 := by unfold k12 at u12; omega
          by_cases w : sc.1 = -1 ∨ u < sc.2
          · rw [if_pos ⟨ok, w⟩] at eC
            obtain ⟨q', X', w1, w2, w3⟩ := ih (i + 1) q3 X3 (i, u) (some (.inr (.inl u))) none (by omega) (by omega) t1.1 t2 (by show -1 ≤ i; omega) u12
            refine ⟨q', X', ⟨w1.1, (w1.2.trans t1.2).trans u1.2⟩, w2, fun Q => ?_⟩
            rw [eC, ← w3 Q, g_X11_choice_14]
            by_cases w0 : sc.1 = -1
            · simp (config := { decide := true }) (disch := first | decide | assumption | omega | (simp (config := { decide := true }) only [km_sr_sf, km_sr_of, km_up_of, km_up_o, km_upx_i, km_upx_s, km_fl2_o, ne_eq, not_true_eq_false, not_false_eq_true] <;> omega) | fail) only [g_X11_choice, e19, z, i0, e1, u4, y, t4, kl_0, un, w0, ka_lt, ka_le, ka_nlt, ka_nle, ka_ne, ka_eq, Int.add_sub_cancel, true_or, or_true, false_or, or_false, false_and, and_false, if_true, if_false, ka_lo, ka_hi, ka_nn, km_sr_sf, km_sr_of, km_up_of, km_sr_us, km_sr_uo, km_sr_sr, km_sr_fl, km_sr_flo, km_up_up, km_up_lt, km_lay, km_unL, km_up_o, km_upx_i, km_upx_s, km_fl2_o, km_is, Option.some.injEq, Sum.inl.injEq, Sum.inr.injEq, Option.toList_some, Option.toList_none, List.cons_append, List.nil_append, ne_eq, true_and, and_true, and_self, not_true_eq_false, not_false_eq_true, true_implies, false_implies, reduceCtorEq]
            · have wl : u < sc.2 := w.resolve_left w0
              have wg : ¬ sc.2 ≤ u := by omega
              simp (config := { decide := true }) (disch := first | decide | assumption | omega | (simp (config := { decide := true }) only [km_sr_sf, km_sr_of, km_up_of, km_up_o, km_upx_i, km_upx_s, km_fl2_o, ne_eq, not_true_eq_false, not_false_eq_true] <;> omega) | fail) only [g_X11_choice, e19, z, i0, e1, u4, y, t4, kl_0, kl_ge, kl_lt, un, w0, wl, wg, ka_lt, ka_le, ka_nlt, ka_nle, ka_ne, ka_eq, Int.add_sub_cancel, true_or, or_true, false_or, or_false, false_and, and_false, if_true, if_false, ka_lo, ka_hi, ka_nn, km_sr_sf, km_sr_of, km_up_of, km_sr_us, km_sr_uo, km_sr_sr, km_sr_fl, km_sr_flo, km_up_up, km_up_lt, km_lay, km_unL, km_up_o, km_upx_i, km_upx_s, km_fl2_o, km_is, Option.some.injEq, Sum.inl.injEq, Sum.inr.injEq, Option.toList_some, Option.toList_none, List.cons_append, List.nil_append, ne_eq, true_and, and_true, and_self, not_true_eq_false, not_false_eq_true, true_implies, false_implies, reduceCtorEq]
          · rw [if_neg (fun v => w v.2)] at eC
            have w0 : ¬ sc.1 = -1 := fun v => w (Or.inl v)
            have wl : ¬ u < sc.2 := fun v => w (Or.inr v)
            have wg : sc.2 ≤ u := by omega
            obtain ⟨q', X', w1, w2, w3⟩ := ih (i + 1) q3 X3 sc (some (.inr (.inl u))) none (by omega) (by omega) t1.1 t2 s0 s1
            refine ⟨q', X', ⟨w1.1, (w1.2.trans t1.2).trans u1.2⟩, w2, fun Q => ?_⟩
            rw [eC, ← w3 Q, g_X11_choice_14]
            simp (config := { decide := true }) (disch := first | decide | assumption | omega | (simp (config := { decide := true }) only [km_sr_sf, km_sr_of, km_up_of, km_up_o, km_upx_i, km_upx_s, km_fl2_o, ne_eq, not_true_eq_false, not_false_eq_true] <;> omega) | fail) only [g_X11_choice, e19, z, i0, e1, u4, y, t4, kl_0, kl_ge, kl_lt, un, w0, wl, wg, ka_lt, ka_le, ka_nlt, ka_nle, ka_ne, ka_eq, Int.add_sub_cancel, true_or, or_true, false_or, or_false, false_and, and_false, if_true, if_false, ka_lo, ka_hi, ka_nn, km_sr_sf, km_sr_of, km_up_of, km_sr_us, km_sr_uo, km_sr_sr, km_sr_fl, km_sr_flo, km_up_up, km_up_lt, km_lay, km_unL, km_up_o, km_upx_i, km_upx_s, km_fl2_o, km_is, Option.some.injEq, Sum.inl.injEq, Sum.inr.injEq, Option.toList_some, Option.toList_none, List.cons_append, List.nil_append, ne_eq, true_and, and_true, and_self, not_true_eq_false, not_false_eq_true, true_implies, false_implies, reduceCtorEq]
      · have no : ¬ kOt m i p b = 0 := fun w => y (kOt_0.mp w).1
        rw [if_neg (fun w => no w.1)] at eC
        obtain ⟨q', X', w1, w2, w3⟩ := ih (i + 1) q2 X2 sc (some (.inr (.inl (-9223372036854775808)))) none (by omega) (by omega) u1.1 u2 s0 s1
        refine ⟨q', X', ⟨w1.1, w1.2.trans u1.2⟩, w2, fun Q => ?_⟩
        rw [eC, ← w3 Q, g_X11_choice_14]
        simp (config := { decide := true }) (disch := first | decide | assumption | omega | (simp (config := { decide := true }) only [km_sr_sf, km_sr_of, km_up_of, km_up_o, km_upx_i, km_upx_s, km_fl2_o, ne_eq, not_true_eq_false, not_false_eq_true] <;> omega) | fail) only [g_X11_choice, e19, z, i0, e1, u4, y, kl_0, ka_lt, ka_le, ka_nlt, ka_nle, ka_ne, ka_eq, Int.add_sub_cancel, true_or, or_true, false_or, or_false, false_and, and_false, if_true, if_false, ka_lo, ka_hi, ka_nn, km_sr_sf, km_sr_of, km_up_of, km_sr_us, km_sr_uo, km_sr_sr, km_sr_fl, km_sr_flo, km_up_up, km_up_lt, km_lay, km_unL, km_up_o, km_upx_i, km_upx_s, km_fl2_o, km_is, Option.some.injEq, Sum.inl.injEq, Sum.inr.injEq, Option.toList_some, Option.toList_none, List.cons_append, List.nil_append, ne_eq, true_and, and_true, and_self, not_true_eq_false, not_false_eq_true, true_implies, false_implies, reduceCtorEq]
  obtain ⟨q', X', w1, w2, w3⟩ := lp (m 19 1).toNat 0 q M (-1, 0) none none (Int.le_refl _) (by omega) hq zM (Int.le_refl _) (by show k12 0; unfold k12; omega)
  refine ⟨q', X', w1, w2, fun Q => ?_⟩
  rw [← w3 Q, e_X11_choice]
  show _ ↔ km_G M_X11_choice 14 [some (.inr (.inr 0)), some (.inl (-1)), some (.inr (.inl 0)), none, some (.inl 0), none, none] [] (km_A0 q c s) M Q
  simp (config := { decide := true }) (disch := first | decide | assumption | omega | (simp (config := { decide := true }) only [km_sr_sf, km_sr_of, km_up_of, km_up_o, km_upx_i, km_upx_s, km_fl2_o, ne_eq, not_true_eq_false, not_false_eq_true] <;> omega) | fail) only [g_X11_choice, eM, ka_lt, ka_le, ka_nlt, ka_nle, ka_ne, ka_eq, Int.add_sub_cancel, true_or, or_true, false_or, or_false, false_and, and_false, if_true, if_false, ka_lo, ka_hi, ka_nn, km_sr_sf, km_sr_of, km_up_of, km_sr_us, km_sr_uo, km_sr_sr, km_sr_fl, km_sr_flo, km_up_up, km_up_lt, km_lay, km_unL, km_up_o, km_upx_i, km_upx_s, km_fl2_o, km_is, Option.some.injEq, Sum.inl.injEq, Sum.inr.injEq, Option.toList_some, Option.toList_none, List.cons_append, List.nil_append, ne_eq, true_and, and_true, and_self, not_true_eq_false, not_false_eq_true, true_implies, false_implies, reduceCtorEq]
theorem m_choice (h : kI0 N m) (hN : N ≤ 1000) (hp : kIp P m) (hY : kRy m C o1 p b Y) :
    ∃ (o2 : Int) (Z : km_Mm), kRy m C o2 p b Z ∧ ∀ Q : Option km_V → km_Al → km_Mm → Prop, km_E M_X12_chosen [.inr (.inr 123)] (km_A0 q c s) Y Q ↔ Q (some (.inl (kCh m p b (m 19 1).toNat 0 (-1, 0)).1)) (km_A0 q c s) Z := by
  have f4 := h.2.2.2.1.1
  have lp : ∀ (n : Nat) (i : Int) (o1 : Int) (Y : km_Mm) (sc : Int × Int) (o5 o6 : Option km_V), 0 ≤ i → i + n = m 19 1 → kRy m C o1 p b Y → -1 ≤ sc.1 → ∃ (o2 : Int) (Z : km_Mm), kRy m C o2 p b Z ∧ ∀ Q : Option km_V → km_Al → km_Mm → Prop, km_G M_X12_chosen 7 [some (.inr (.inr 123)), some (.inl sc.1), some (.inr (.inl sc.2)), none, some (.inl i), o5, o6] [] (km_A0 q c s) Y Q ↔ Q (some (.inl (kCh m p b n i sc).1)) (km_A0 q c s) Z := by
    intro n
    induction n with
    | zero =>
      intro i o1 Y sc o5 o6 i0 hi hY s0
      have e63 : Y 123 63 = m 19 1 := (hY.1 123 63 (by decide) (by unfold kJ; omega)).trans f4.2.2
      have z : ¬ i < m 19 1 := by omega
      refine ⟨o1, Y, hY, fun Q => ?_⟩
      rw [g_X12_chosen_7]
      unfold kCh
      simp (config := { decide := true }) (disch := first | decide | assumption | omega | (simp (config := { decide := true }) only [km_sr_sf, km_sr_of, km_up_of, km_up_o, km_upx_i, km_upx_s, km_fl2_o, ne_eq, not_true_eq_false, not_false_eq_true] <;> omega) | fail) only [g_X12_chosen, e63, z, ka_lt, ka_le, ka_nlt, ka_nle, ka_ne, ka_eq, Int.add_sub_cancel, true_or, or_true, false_or, or_false, false_and, and_false, if_true, if_false, ka_lo, ka_hi, ka_nn, km_sr_sf, km_sr_of, km_up_of, km_sr_us, km_sr_uo, km_sr_sr, km_sr_fl, km_sr_flo, km_up_up, km_up_lt, km_lay, km_unL, km_up_o, km_upx_i, km_upx_s, km_fl2_o, km_is, Option.some.injEq, Sum.inl.injEq, Sum.inr.injEq, Option.toList_some, Option.toList_none, List.cons_append, List.nil_append, ne_eq, true_and, and_true, and_self, not_true_eq_false, not_false_eq_true, true_implies, false_implies, reduceCtorEq]
    | succ n ih =>
      intro i o1 Y sc o5 o6 i0 hi hY s0
      have e63 : Y 123 63 = m 19 1 := (hY.1 123 63 (by decide) (by unfold kJ; omega)).trans f4.2.2
      have z : i < m 19 1 := by omega
      obtain ⟨Z1, z1, z2⟩ := @m_out q c s m C Y N i o1 p b P h hN hp ⟨i0, z⟩ hY
      have eC : kCh m p b (n + 1) i sc = kCh m p b n (i + 1) (@ite (Int × Int) (kOt m i p b = 0 ∧ (sc.1 = -1 ∨ kvl (kScv m i p b) < sc.2)) (Classical.propDecidable _) (i, kvl (kScv m i p b)) sc) := rfl
      by_cases y : kOt m i p b = 0
      · obtain ⟨Z2, w1, w2, w3⟩ := @m_score q c s m C Z1 N i i p b P h hN hp ⟨i0, z⟩ z1
        obtain ⟨u, hr⟩ : ∃ u, kScv m i p b = some u := Option.ne_none_iff_exists'.mp (kOt_0.mp y).2
        rw [hr] at w3 eC
        have w3 : ∀ Q : Option km_V → km_Al → km_Mm → Prop, km_E M_X12_scoreOf [.inr (.inr 123), .inl i] (km_A0 q c s) Z1 Q ↔ Q (some (.inr (.inl u))) (km_A0 q c s) Z2 := w3
        have eC : kCh m p b (n + 1) i sc = kCh m p b n (i + 1) (@ite (Int × Int) (kOt m i p b = 0 ∧ (sc.1 = -1 ∨ u < sc.2)) (Classical.propDecidable _) (i, u) sc) := eC
        by_cases w : sc.1 = -1 ∨ u < sc.2
        · rw [if_pos ⟨y, w⟩] at eC
          obtain ⟨o2, Z, v1, v2⟩ := ih (i + 1) i Z2 (i, u) (some (.inr (.inl u))) none (by omega) (by omega) w1 (by show -1 ≤ i; omega)
          refine ⟨o2, Z, v1, fun Q => ?_⟩
          rw [eC, ← v2 Q, g_X12_chosen_7]
          by_cases w0 : sc.1 < 0
          · simp (config := { decide := true }) (disch := first | decide | assumption | omega | (simp (config := { decide := true }) only [km_sr_sf, km_sr_of, km_up_of, km_up_o, km_upx_i, km_upx_s, km_fl2_o, ne_eq, not_true_eq_false, not_false_eq_true] <;> omega) | fail) only [g_X12_chosen, e63, z, i0, z2, y, w3, w0, ka_lt, ka_le, ka_nlt, ka_nle, ka_ne, ka_eq, Int.add_sub_cancel, true_or, or_true, false_or, or_false, false_and, and_false, if_true, if_false, ka_lo, ka_hi, ka_nn, km_sr_sf, km_sr_of, km_up_of, km_sr_us, km_sr_uo, km_sr_sr, km_sr_fl, km_sr_flo, km_up_up, km_up_lt, km_lay, km_unL, km_up_o, km_upx_i, km_upx_s, km_fl2_o, km_is, Option.some.injEq, Sum.inl.injEq, Sum.inr.injEq, Option.toList_some, Option.toList_none, List.cons_append, List.nil_append, ne_eq, true_and, and_true, and_self, not_true_eq_false, not_false_eq_true, true_implies, false_implies, reduceCtorEq]
          · have wl : u < sc.2 := w.resolve_left (fun v => w0 (by omega))
            have wg : ¬ sc.2 ≤ u := by omega
            simp (config := { decide := true }) (disch := first | decide | assumption | omega | (simp (config := { decide := true }) only [km_sr_sf, km_sr_of, km_up_of, km_up_o, km_upx_i, km_upx_s, km_fl2_o, ne_eq, not_true_eq_false, not_false_eq_true] <;> omega) | fail) only [g_X12_chosen, e63, z, i0, z2, y, w3, w0, wl, wg, kl_lt, kl_ge, ka_lt, ka_le, ka_nlt, ka_nle, ka_ne, ka_eq, Int.add_sub_cancel, true_or, or_true, false_or, or_false, false_and, and_false, if_true, if_false, ka_lo, ka_hi, ka_nn, km_sr_sf, km_sr_of, km_up_of, km_sr_us, km_sr_uo, km_sr_sr, km_sr_fl, km_sr_flo, km_up_up, km_up_lt, km_lay, km_unL, km_up_o, km_upx_i, km_upx_s, km_fl2_o, km_is, Option.some.injEq, Sum.inl.injEq, Sum.inr.injEq, Option.toList_some, Option.toList_none, List.cons_append, List.nil_append, ne_eq, true_and, and_true, and_self, not_true_eq_false, not_false_eq_true, true_implies, false_implies, reduceCtorEq]
        · rw [if_neg (fun v => w v.2)] at eC
          have w0 : ¬ sc.1 < 0 := fun v => w (Or.inl (by omega))
          have wl : ¬ u < sc.2 := fun v => w (Or.inr v)
          have wg : sc.2 ≤ u := by omega
          obtain ⟨o2, Z, v1, v2⟩ := ih (i + 1) i Z2 sc (some (.inr (.inl u))) none (by omega) (by omega) w1 s0
          refine ⟨o2, Z, v1, fun Q => ?_⟩
          rw [eC, ← v2 Q, g_X12_chosen_7]
          simp (config := { decide := true }) (disch := first | decide | assumption | omega | (simp (config := { decide := true }) only [km_sr_sf, km_sr_of, km_up_of, km_up_o, km_upx_i, km_upx_s, km_fl2_o, ne_eq, not_true_eq_false, not_false_eq_true] <;> omega) | fail) only [g_X12_chosen, e63, z, i0, z2, y, w3, w0, wl, wg, kl_lt, kl_ge, ka_lt, ka_le, ka_nlt, ka_nle, ka_ne, ka_eq, Int.add_sub_cancel, true_or, or_true, false_or, or_false, false_and, and_false, if_true, if_false, ka_lo, ka_hi, ka_nn, km_sr_sf, km_sr_of, km_up_of, km_sr_us, km_sr_uo, km_sr_sr, km_sr_fl, km_sr_flo, km_up_up, km_up_lt, km_lay, km_unL, km_up_o, km_upx_i, km_upx_s, km_fl2_o, km_is, Option.some.injEq, Sum.inl.injEq, Sum.inr.injEq, Option.toList_some, Option.toList_none, List.cons_append, List.nil_append, ne_eq, true_and, and_true, and_self, not_true_eq_false, not_false_eq_true, true_implies, false_implies, reduceCtorEq]
      · rw [if_neg (fun w => y w.1)] at eC
        obtain ⟨o2, Z, v1, v2⟩ := ih (i + 1) i Z1 sc o5 o6 (by omega) (by omega) z1 s0
        refine ⟨o2, Z, v1, fun Q => ?_⟩
        rw [eC, ← v2 Q, g_X12_chosen_7]
        simp (config := { decide := true }) (disch := first | decide | assumption | omega | (simp (config := { decide := true }) only [km_sr_sf, km_sr_of, km_up_of, km_up_o, km_upx_i, km_upx_s, km_fl2_o, ne_eq, not_true_eq_false, not_false_eq_true] <;> omega) | fail) only [g_X12_chosen, e63, z, i0, z2, y, ka_lt, ka_le, ka_nlt, ka_nle, ka_ne, ka_eq, Int.add_sub_cancel, true_or, or_true, false_or, or_false, false_and, and_false, if_true, if_false, ka_lo, ka_hi, ka_nn, km_sr_sf, km_sr_of, km_up_of, km_sr_us, km_sr_uo, km_sr_sr, km_sr_fl, km_sr_flo, km_up_up, km_up_lt, km_lay, km_unL, km_up_o, km_upx_i, km_upx_s, km_fl2_o, km_is, Option.some.injEq, Sum.inl.injEq, Sum.inr.injEq, Option.toList_some, Option.toList_none, List.cons_append, List.nil_append, ne_eq, true_and, and_true, and_self, not_true_eq_false, not_false_eq_true, true_implies, false_implies, reduceCtorEq]
  obtain ⟨o2, Z, v1, v2⟩ := lp (m 19 1).toNat 0 o1 Y (-1, 0) none none (Int.le_refl _) (by omega) hY (Int.le_refl _)
  refine ⟨o2, Z, v1, fun Q => ?_⟩
  rw [← v2 Q, e_X12_chosen]
  show _ ↔ km_G M_X12_chosen 7 [some (.inr (.inr 123)), some (.inl (-1)), some (.inr (.inl 0)), none, some (.inl 0), none, none] [] (km_A0 q c s) Y Q
  simp (config := { decide := true }) (disch := first | decide | assumption | omega | (simp (config := { decide := true }) only [km_sr_sf, km_sr_of, km_up_of, km_up_o, km_upx_i, km_upx_s, km_fl2_o, ne_eq, not_true_eq_false, not_false_eq_true] <;> omega) | fail) only [g_X12_chosen, ka_lt, ka_le, ka_nlt, ka_nle, ka_ne, ka_eq, Int.add_sub_cancel, true_or, or_true, false_or, or_false, false_and, and_false, if_true, if_false, ka_lo, ka_hi, ka_nn, km_sr_sf, km_sr_of, km_up_of, km_sr_us, km_sr_uo, km_sr_sr, km_sr_fl, km_sr_flo, km_up_up, km_up_lt, km_lay, km_unL, km_up_o, km_upx_i, km_upx_s, km_fl2_o, km_is, Option.some.injEq, Sum.inl.injEq, Sum.inr.injEq, Option.toList_some, Option.toList_none, List.cons_append, List.nil_append, ne_eq, true_and, and_true, and_self, not_true_eq_false, not_false_eq_true, true_implies, false_implies, reduceCtorEq]
theorem fc_choice (h : kIN N q m) (hN : N ≤ 1000) : kFq M_X11_choice M_X12_choice [] N N q c s m := by
  intro Q1 Q2
  have hi := h
  obtain ⟨h0, P, hq, hp⟩ := h
  obtain ⟨p, b, q', C, ⟨cp, cb⟩, ⟨hq', zC⟩, e2⟩ := @km_pick (fun Q => km_E M_X11_choice [.inr (.inr 0)] (km_A0 q c s) m Q) (fun q' X' => (kQo q' P ∧ q'.1 = q.1) ∧ kZ m X') (fun p b => some (.inl (kCh m p b (m 19 1).toNat 0 (-1, 0)).1)) (fun q' => km_A0 q' c s) (fun p b => by
    obtain ⟨q', X', u1, u2, u3⟩ := @c_choice q c s m N p b P h0 hN hp hq
    exact ⟨q', X', ⟨u1, u2⟩, u3⟩)
  have y0 := @kRy_0 m C zC
  rw [cp, cb] at y0
  obtain ⟨o2, Z, w1, w2⟩ := @m_choice q' c s m C (km_up C 123 2 0) N (C 123 55) p b P h0 hN hp y0
  refine ⟨.inl (kCh m p b (m 19 1).toNat 0 (-1, 0)).1, q', C, Z, e2 Q1, ?_, hq'.2, kIN_fin hi hq zC w1 hq'.1⟩
  rw [e_X12_choice]
  simp (config := { decide := true }) (disch := first | decide | assumption | omega | (simp (config := { decide := true }) only [km_sr_sf, km_sr_of, km_up_of, km_up_o, km_upx_i, km_upx_s, km_fl2_o, ne_eq, not_true_eq_false, not_false_eq_true] <;> omega) | fail) only [g_X12_choice, w2, ka_lt, ka_le, ka_nlt, ka_nle, ka_ne, ka_eq, Int.add_sub_cancel, true_or, or_true, false_or, or_false, false_and, and_false, if_true, if_false, ka_lo, ka_hi, ka_nn, km_sr_sf, km_sr_of, km_up_of, km_sr_us, km_sr_uo, km_sr_sr, km_sr_fl, km_sr_flo, km_up_up, km_up_lt, km_lay, km_unL, km_up_o, km_upx_i, km_upx_s, km_fl2_o, km_is, Option.some.injEq, Sum.inl.injEq, Sum.inr.injEq, Option.toList_some, Option.toList_none, List.cons_append, List.nil_append, ne_eq, true_and, and_true, and_self, not_true_eq_false, not_false_eq_true, true_implies, false_implies, reduceCtorEq]
end FC

