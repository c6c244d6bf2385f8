/-! ===== ring in the reference ===== -/
theorem md_ring55 {q : Nat × Int × Int × Int × Int} {c s : Nat} {m mm : km_Mm} {sz x a : Int} (hb : kI_book m) (hO : kI_opt m) (hj : kMj m mm) (x0 : 0 ≤ x) (x1 : x < 1024) (a0 : 0 ≤ a) (a1 : a < m 19 1) : ∀ (n : Nat) (b : Int) (P : Prop) (f : Int → Int), 0 ≤ b → b + n = m 19 1 →
    ∃ g : Int → Int, ∀ Q : Option km_V → km_Al → km_Mm → Prop, (km_G M_X12_ring 55 [some (.inr (.inr 123)), some (.inl sz), some (.inl x), some (.inl (@ite Int P (Classical.propDecidable _) 1 0)), some (.inl a), some (.inl b)] [] (km_A0 q c s) (km_sr mm 130 f) Q ↔
      km_G M_X12_ring 43 [some (.inr (.inr 123)), some (.inl sz), some (.inl x), some (.inl (@ite Int (P ∧ ∀ j : Int, b ≤ j → j < m 19 1 → tb x a = true → tb x j = false → kBt m a j) (Classical.propDecidable _) 1 0)), some (.inl (a + 1)), some (.inl (m 19 1))] [] (km_A0 q c s) (km_sr mm 130 g) Q) := by
  have f4 := hO.1
  intro n
  induction n with
  | zero =>
    intro b P f h0 h1
    have e1 : mm 123 63 = m 19 1 := (hj 123 63 (by decide) (by unfold kJ; omega)).trans f4.2.2
    have e2 : b = m 19 1 := by omega
    subst e2
    have e3 : (P ∧ ∀ j : Int, m 19 1 ≤ j → j < m 19 1 → tb x a = true → tb x j = false → kBt m a j) ↔ P := ⟨fun h => h.1, fun h => ⟨h, fun j p r => by omega⟩⟩
    refine ⟨f, fun Q => ?_⟩
    rw [@km_ite_iff _ _ _ (Classical.propDecidable _) _ _ e3, g_X12_ring_55]
    simp (config := { decide := true }) (disch := first | decide | assumption | omega | (simp (config := { decide := true }) only [km_sr_sf, km_sr_of, km_up_of, km_up_o, km_upx_i, km_upx_s, km_fl2_o, ne_eq, not_true_eq_false, not_false_eq_true] <;> omega) | fail) only [g_X12_ring, e1, Int.le_refl, ka_lt, ka_le, ka_nlt, ka_nle, ka_ne, ka_eq, Int.add_sub_cancel, true_or, or_true, false_or, or_false, false_and, and_false, if_true, if_false, ka_lo, ka_hi, ka_nn, km_sr_sf, km_sr_of, km_up_of, km_sr_us, km_sr_uo, km_sr_sr, km_sr_fl, km_sr_flo, km_up_up, km_up_lt, km_lay, km_unL, km_up_o, km_upx_i, km_upx_s, km_fl2_o, km_is, Option.some.injEq, Sum.inl.injEq, Sum.inr.injEq, Option.toList_some, Option.toList_none, List.cons_append, List.nil_append, ne_eq, true_and, and_true, and_self, not_true_eq_false, not_false_eq_true, true_implies, false_implies, reduceCtorEq]
  | succ n ih =>
    intro b P f h0 h1
    have e1 : mm 123 63 = m 19 1 := (hj 123 63 (by decide) (by unfold kJ; omega)).trans f4.2.2
    have e3 : ¬ m 19 1 ≤ b := by omega
    have step : (P ∧ ∀ j : Int, b ≤ j → j < m 19 1 → tb x a = true → tb x j = false → kBt m a j) ↔ ((P ∧ (tb x a = true → tb x b = false → kBt m a b)) ∧ ∀ j : Int, b + 1 ≤ j → j < m 19 1 → tb x a = true → tb x j = false → kBt m a j) := by
      constructor
      · rintro ⟨h1, h2⟩; exact ⟨⟨h1, h2 b (Int.le_refl _) (by omega)⟩, fun j p r => h2 j (by omega) r⟩
      · rintro ⟨⟨h1, h2⟩, h3⟩
        refine ⟨h1, fun j p r => ?_⟩
        by_cases e : j = b
        · subst e; exact h2
        · exact h3 j (by omega) r
    have ba := ks_bit (x := x) (k := a) x0 (by omega) a0 (by omega)
    have bb := ks_bit0 (x := x) (k := b) x0 (by omega) h0 (by omega)
    by_cases t : tb x a = true ∧ tb x b = false
    · rw [if_pos t.1] at ba
      have bb2 := bb.mpr t.2
      by_cases p : P
      · obtain ⟨g1, r1⟩ := @md_beats q c s m (km_sr mm 130 f) a b hb hO (kMj_sr hj) a0 a1 h0 (by omega)
        obtain ⟨g2, i1⟩ := ih (b + 1) (P ∧ (tb x a = true → tb x b = false → kBt m a b)) g1 (by omega) (by omega)
        refine ⟨g2, fun Q => ?_⟩
        have i1 := i1 Q
        rw [@km_ite_iff _ _ _ (Classical.propDecidable _) _ _ step, g_X12_ring_55]
        by_cases w : kBt m a b
        · rw [if_pos ⟨p, fun _ _ => w⟩] at i1
          unfold kBt at w
          rw [if_pos p]
          rw [if_pos w] at r1
          simp (config := { decide := true }) (disch := first | decide | assumption | omega | (simp (config := { decide := true }) only [km_sr_sf, km_sr_of, km_up_of, km_up_o, km_upx_i, km_upx_s, km_fl2_o, ne_eq, not_true_eq_false, not_false_eq_true] <;> omega) | fail) only [g_X12_ring, e1, e3, ba, bb2, r1, i1, ka_lt, ka_le, ka_nlt, ka_nle, ka_ne, ka_eq, Int.add_sub_cancel, true_or, or_true, false_or, or_false, false_and, and_false, if_true, if_false, ka_lo, ka_hi, ka_nn, km_sr_sf, km_sr_of, km_up_of, km_sr_us, km_sr_uo, km_sr_sr, km_sr_fl, km_sr_flo, km_up_up, km_up_lt, km_lay, km_unL, km_up_o, km_upx_i, km_upx_s, km_fl2_o, km_is, Option.some.injEq, Sum.inl.injEq, Sum.inr.injEq, Option.toList_some, Option.toList_none, List.cons_append, List.nil_append, ne_eq, true_and, and_true, and_self, not_true_eq_false, not_false_eq_true, true_implies, false_implies, reduceCtorEq]
        · rw [if_neg (fun q => w (q.2 t.1 t.2))] at i1
          unfold kBt at w
          rw [if_pos p]
          rw [if_neg w] at r1
          simp (config := { decide := true }) (disch := first | decide | assumption | omega | (simp (config := { decide := true }) only [km_sr_sf, km_sr_of, km_up_of, km_up_o, km_upx_i, km_upx_s, km_fl2_o, ne_eq, not_true_eq_false, not_false_eq_true] <;> omega) | fail) only [g_X12_ring, e1, e3, ba, bb2, r1, i1, ka_lt, ka_le, ka_nlt, ka_nle, ka_ne, ka_eq, Int.add_sub_cancel, true_or, or_true, false_or, or_false, false_and, and_false, if_true, if_false, ka_lo, ka_hi, ka_nn, km_sr_sf, km_sr_of, km_up_of, km_sr_us, km_sr_uo, km_sr_sr, km_sr_fl, km_sr_flo, km_up_up, km_up_lt, km_lay, km_unL, km_up_o, km_upx_i, km_upx_s, km_fl2_o, km_is, Option.some.injEq, Sum.inl.injEq, Sum.inr.injEq, Option.toList_some, Option.toList_none, List.cons_append, List.nil_append, ne_eq, true_and, and_true, and_self, not_true_eq_false, not_false_eq_true, true_implies, false_implies, reduceCtorEq]
      · obtain ⟨g2, i1⟩ := ih (b + 1) (P ∧ (tb x a = true → tb x b = false → kBt m a b)) f (by omega) (by omega)
        refine ⟨g2, fun Q => ?_⟩
        have i1 := i1 Q
        rw [if_neg (fun q => p q.1)] at i1
        rw [@km_ite_iff _ _ _ (Classical.propDecidable _) _ _ step, g_X12_ring_55, if_neg p]
        simp (config := { decide := true }) (disch := first | decide | assumption | omega | (simp (config := { decide := true }) only [km_sr_sf, km_sr_of, km_up_of, km_up_o, km_upx_i, km_upx_s, km_fl2_o, ne_eq, not_true_eq_false, not_false_eq_true] <;> omega) | fail) only [g_X12_ring, e1, e3, ba, bb2, i1, ka_lt, ka_le, ka_nlt, ka_nle, ka_ne, ka_eq, Int.add_sub_cancel, true_or, or_true, false_or, or_false, false_and, and_false, if_true, if_false, ka_lo, ka_hi, ka_nn, km_sr_sf, km_sr_of, km_up_of, km_sr_us, km_sr_uo, km_sr_sr, km_sr_fl, km_sr_flo, km_up_up, km_up_lt, km_lay, km_unL, km_up_o, km_upx_i, km_upx_s, km_fl2_o, km_is, Option.some.injEq, Sum.inl.injEq, Sum.inr.injEq, Option.toList_some, Option.toList_none, List.cons_append, List.nil_append, ne_eq, true_and, and_true, and_self, not_true_eq_false, not_false_eq_true, true_implies, false_implies, reduceCtorEq]
    · obtain ⟨g2, i1⟩ := ih (b + 1) (P ∧ (tb x a = true → tb x b = false → kBt m a b)) f (by omega) (by omega)
      have same : (P ∧ (tb x a = true → tb x b = false → kBt m a b)) ↔ P := ⟨fun h => h.1, fun h => ⟨h, fun u v => absurd ⟨u, v⟩ t⟩⟩
      refine ⟨g2, fun Q => ?_⟩
      have i1 := i1 Q
      rw [@km_ite_iff _ _ _ (Classical.propDecidable _) _ _ same] at i1
      rw [@km_ite_iff _ _ _ (Classical.propDecidable _) _ _ step, g_X12_ring_55]
      by_cases u : tb x a = true
      · rw [if_pos u] at ba
        have bb2 : ¬ km_and (km_shr x b) 1 = 0 := fun w => t ⟨u, bb.mp w⟩
        simp (config := { decide := true }) (disch := first | decide | assumption | omega | (simp (config := { decide := true }) only [km_sr_sf, km_sr_of, km_up_of, km_up_o, km_upx_i, km_upx_s, km_fl2_o, ne_eq, not_true_eq_false, not_false_eq_true] <;> omega) | fail) only [g_X12_ring, e1, e3, ba, bb2, i1, ka_lt, ka_le, ka_nlt, ka_nle, ka_ne, ka_eq, Int.add_sub_cancel, true_or, or_true, false_or, or_false, false_and, and_false, if_true, if_false, ka_lo, ka_hi, ka_nn, km_sr_sf, km_sr_of, km_up_of, km_sr_us, km_sr_uo, km_sr_sr, km_sr_fl, km_sr_flo, km_up_up, km_up_lt, km_lay, km_unL, km_up_o, km_upx_i, km_upx_s, km_fl2_o, km_is, Option.some.injEq, Sum.inl.injEq, Sum.inr.injEq, Option.toList_some, Option.toList_none, List.cons_append, List.nil_append, ne_eq, true_and, and_true, and_self, not_true_eq_false, not_false_eq_true, true_implies, false_implies, reduceCtorEq]
      · rw [if_neg u] at ba
        simp (config := { decide := true }) (disch := first | decide | assumption | omega | (simp (config := { decide := true }) only [km_sr_sf, km_sr_of, km_up_of, km_up_o, km_upx_i, km_upx_s, km_fl2_o, ne_eq, not_true_eq_false, not_false_eq_true] <;> omega) | fail) only [g_X12_ring, e1, e3, ba, i1, ka_lt, ka_le, ka_nlt, ka_nle, ka_ne, ka_eq, Int.add_sub_cancel, true_or, or_true, false_or, or_false, false_and, and_false, if_true, if_false, ka_lo, ka_hi, ka_nn, km_sr_sf, km_sr_of, km_up_of, km_sr_us, km_sr_uo, km_sr_sr, km_sr_fl, km_sr_flo, km_up_up, km_up_lt, km_lay, km_unL, km_up_o, km_upx_i, km_upx_s, km_fl2_o, km_is, Option.some.injEq, Sum.inl.injEq, Sum.inr.injEq, Option.toList_some, Option.toList_none, List.cons_append, List.nil_append, ne_eq, true_and, and_true, and_self, not_true_eq_false, not_false_eq_true, true_implies, false_implies, reduceCtorEq]
theorem md_ring43 {q : Nat × Int × Int × Int × Int} {c s : Nat} {m mm : km_Mm} {sz x : Int} (hb : kI_book m) (hO : kI_opt m) (hj : kMj m mm) (x0 : 0 ≤ x) (x1 : x < 1024) : ∀ (n : Nat) (a : Int) (P : Prop) (f : Int → Int) (o5 : Option km_V), 0 ≤ a → a + n = m 19 1 →
    ∃ (g : Int → Int) (p3 p5 : Option km_V), ∀ Q : Option km_V → km_Al → km_Mm → Prop, (km_G M_X12_ring 43 [some (.inr (.inr 123)), some (.inl sz), some (.inl x), some (.inl (@ite Int P (Classical.propDecidable _) 1 0)), some (.inl a), o5] [] (km_A0 q c s) (km_sr mm 130 f) Q ↔
      @ite Prop (P ∧ ∀ i j : Int, a ≤ i → i < m 19 1 → 0 ≤ j → j < m 19 1 → tb x i = true → tb x j = false → kBt m i j) (Classical.propDecidable _) (Q (some (.inl x)) (km_A0 q c s) (km_sr mm 130 g)) (km_G M_X12_ring 17 [some (.inr (.inr 123)), some (.inl sz), some (.inl (x + 1)), p3, some (.inl (m 19 1)), p5] [] (km_A0 q c s) (km_sr mm 130 g) Q)) := by
  have f4 := hO.1
  intro n
  induction n with
  | zero =>
    intro a P f o5 h0 h1
    have e1 : mm 123 63 = m 19 1 := (hj 123 63 (by decide) (by unfold kJ; omega)).trans f4.2.2
    have e2 : a = m 19 1 := by omega
    subst e2
    by_cases p : P
    · refine ⟨f, none, none, fun Q => ?_⟩
      rw [if_pos (⟨p, fun i j u v => by omega⟩ : P ∧ _), if_pos p, g_X12_ring_43]
      simp (config := { decide := true }) (disch := first | decide | assumption | omega | (simp (config := { decide := true }) only [km_sr_sf, km_sr_of, km_up_of, km_up_o, km_upx_i, km_upx_s, km_fl2_o, ne_eq, not_true_eq_false, not_false_eq_true] <;> omega) | fail) only [g_X12_ring, e1, Int.le_refl, ka_lt, ka_le, ka_nlt, ka_nle, ka_ne, ka_eq, Int.add_sub_cancel, true_or, or_true, false_or, or_false, false_and, and_false, if_true, if_false, ka_lo, ka_hi, ka_nn, km_sr_sf, km_sr_of, km_up_of, km_sr_us, km_sr_uo, km_sr_sr, km_sr_fl, km_sr_flo, km_up_up, km_up_lt, km_lay, km_unL, km_up_o, km_upx_i, km_upx_s, km_fl2_o, km_is, Option.some.injEq, Sum.inl.injEq, Sum.inr.injEq, Option.toList_some, Option.toList_none, List.cons_append, List.nil_append, ne_eq, true_and, and_true, and_self, not_true_eq_false, not_false_eq_true, true_implies, false_implies, reduceCtorEq]
    · refine ⟨f, some (.inl 0), o5, fun Q => ?_⟩
      rw [if_neg (show ¬ (P ∧ _) from fun w => p w.1), if_neg p, g_X12_ring_43]
      simp (config := { decide := true }) (disch := first | decide | assumption | omega | (simp (config := { decide := true }) only [km_sr_sf, km_sr_of, km_up_of, km_up_o, km_upx_i, km_upx_s, km_fl2_o, ne_eq, not_true_eq_false, not_false_eq_true] <;> omega) | fail) only [g_X12_ring, e1, Int.le_refl, ka_lt, ka_le, ka_nlt, ka_nle, ka_ne, ka_eq, Int.add_sub_cancel, true_or, or_true, false_or, or_false, false_and, and_false, if_true, if_false, ka_lo, ka_hi, ka_nn, km_sr_sf, km_sr_of, km_up_of, km_sr_us, km_sr_uo, km_sr_sr, km_sr_fl, km_sr_flo, km_up_up, km_up_lt, km_lay, km_unL, km_up_o, km_upx_i, km_upx_s, km_fl2_o, km_is, Option.some.injEq, Sum.inl.injEq, Sum.inr.injEq, Option.toList_some, Option.toList_none, List.cons_append, List.nil_append, ne_eq, true_and, and_true, and_self, not_true_eq_false, not_false_eq_true, true_implies, false_implies, reduceCtorEq]
  | succ n ih =>
    intro a P f o5 h0 h1
    have e1 : mm 123 63 = m 19 1 := (hj 123 63 (by decide) (by unfold kJ; omega)).trans f4.2.2
    have e3 : ¬ m 19 1 ≤ a := by omega
    obtain ⟨g1, r1⟩ := @md_ring55 q c s m mm sz x a hb hO hj x0 x1 h0 (by omega) (m 19 1).toNat 0 P f (by omega) (by omega)
    obtain ⟨g2, p3, p5, i1⟩ := ih (a + 1) (P ∧ ∀ j : Int, 0 ≤ j → j < m 19 1 → tb x a = true → tb x j = false → kBt m a j) g1 (some (.inl (m 19 1))) (by omega) (by omega)
    have step : (P ∧ ∀ i j : Int, a ≤ i → i < m 19 1 → 0 ≤ j → j < m 19 1 → tb x i = true → tb x j = false → kBt m i j) ↔ ((P ∧ ∀ j : Int, 0 ≤ j → j < m 19 1 → tb x a = true → tb x j = false → kBt m a j) ∧ ∀ i j : Int, a + 1 ≤ i → i < m 19 1 → 0 ≤ j → j < m 19 1 → tb x i = true → tb x j = false → kBt m i j) := by
      constructor
      · rintro ⟨h1, h2⟩; exact ⟨⟨h1, fun j => h2 a j (Int.le_refl _) (by omega)⟩, fun i j p r => h2 i j (by omega) r⟩
      · rintro ⟨⟨h1, h2⟩, h3⟩
        refine ⟨h1, fun i j p r => ?_⟩
        by_cases e : i = a
        · subst e; exact h2 j
        · exact h3 i j (by omega) r
    refine ⟨g2, p3, p5, fun Q => ?_⟩
    have ei : ∀ X Y : Prop, @ite Prop (P ∧ ∀ i j : Int, a ≤ i → i < m 19 1 → 0 ≤ j → j < m 19 1 → tb x i = true → tb x j = false → kBt m i j) (Classical.propDecidable _) X Y = @ite Prop ((P ∧ ∀ j : Int, 0 ≤ j → j < m 19 1 → tb x a = true → tb x j = false → kBt m a j) ∧ ∀ i j : Int, a + 1 ≤ i → i < m 19 1 → 0 ≤ j → j < m 19 1 → tb x i = true → tb x j = false → kBt m i j) (Classical.propDecidable _) X Y := fun X Y => by
      by_cases z : (P ∧ ∀ i j : Int, a ≤ i → i < m 19 1 → 0 ≤ j → j < m 19 1 → tb x i = true → tb x j = false → kBt m i j)
      · rw [if_pos z, if_pos (step.mp z)]
      · rw [if_neg z, if_neg (fun w => z (step.mpr w))]
    rw [ei, ← i1 Q, ← r1 Q, g_X12_ring_43]
    simp (config := { decide := true }) (disch := first | decide | assumption | omega | (simp (config := { decide := true }) only [km_sr_sf, km_sr_of, km_up_of, km_up_o, km_upx_i, km_upx_s, km_fl2_o, ne_eq, not_true_eq_false, not_false_eq_true] <;> omega) | fail) only [g_X12_ring, e1, e3, Int.add_sub_cancel, true_or, or_true, false_or, or_false, false_and, and_false, if_true, if_false, ka_lo, ka_hi, ka_nn, km_sr_sf, km_sr_of, km_up_of, km_sr_us, km_sr_uo, km_sr_sr, km_sr_fl, km_sr_flo, km_up_up, km_up_lt, km_lay, km_unL, km_up_o, km_upx_i, km_upx_s, km_fl2_o, km_is, Option.some.injEq, Sum.inl.injEq, Sum.inr.injEq, Option.toList_some, Option.toList_none, List.cons_append, List.nil_append, ne_eq, true_and, and_true, and_self, not_true_eq_false, not_false_eq_true, true_implies, false_implies, reduceCtorEq]
theorem md_ring17 {q : Nat × Int × Int × Int × Int} {c s : Nat} {m mm : km_Mm} {sz r : Int} (hb : kI_book m) (hO : kI_opt m) (hj : kMj m mm) (hs : 1 ≤ m 19 1) (hr : kRing m r) (s1 : 1 ≤ sz) (s0 : sz ≤ km_pop r) : ∀ (n : Nat) (x : Int) (f : Int → Int) (o3 o4 o5 : Option km_V), 1 ≤ x → x + n = km_shl 1 (m 19 1) → (sz = km_pop r → x ≤ r) →
    ∃ (g : Int → Int) (p3 p4 p5 : Option km_V), ∀ Q : Option km_V → km_Al → km_Mm → Prop, (km_G M_X12_ring 17 [some (.inr (.inr 123)), some (.inl sz), some (.inl x), o3, o4, o5] [] (km_A0 q c s) (km_sr mm 130 f) Q ↔
      (if sz = km_pop r then Q (some (.inl r)) (km_A0 q c s) (km_sr mm 130 g) else km_G M_X12_ring 7 [some (.inr (.inr 123)), some (.inl (sz + 1)), some (.inl (km_shl 1 (m 19 1))), p3, p4, p5] [] (km_A0 q c s) (km_sr mm 130 g) Q)) := by
  have f4 := hO.1
  have hb2 := kAll_b (s0 := m 19 1) ⟨f4.1, f4.2.1⟩
  have pr := (kPop_b (s0 := m 19 1) ⟨f4.1, f4.2.1⟩ (x := r) (by have := hr.1; omega) hr.1.2)
  intro n
  induction n with
  | zero =>
    intro x f o3 o4 o5 h0 h1 h2
    have e1 : mm 123 63 = m 19 1 := (hj 123 63 (by decide) (by unfold kJ; omega)).trans f4.2.2
    have e2 : x = km_shl 1 (m 19 1) := by omega
    subst e2
    have ns : ¬ sz = km_pop r := fun w => by have := h2 w; have := hr.1; omega
    refine ⟨f, o3, o4, o5, fun Q => ?_⟩
    rw [if_neg ns, g_X12_ring_17]
    simp (config := { decide := true }) (disch := first | decide | assumption | omega | (simp (config := { decide := true }) only [km_sr_sf, km_sr_of, km_up_of, km_up_o, km_upx_i, km_upx_s, km_fl2_o, ne_eq, not_true_eq_false, not_false_eq_true] <;> omega) | fail) only [g_X12_ring, e1, Int.le_refl, ka_lt, ka_le, ka_nlt, ka_nle, ka_ne, ka_eq, Int.add_sub_cancel, true_or, or_true, false_or, or_false, false_and, and_false, if_true, if_false, ka_lo, ka_hi, ka_nn, km_sr_sf, km_sr_of, km_up_of, km_sr_us, km_sr_uo, km_sr_sr, km_sr_fl, km_sr_flo, km_up_up, km_up_lt, km_lay, km_unL, km_up_o, km_upx_i, km_upx_s, km_fl2_o, km_is, Option.some.injEq, Sum.inl.injEq, Sum.inr.injEq, Option.toList_some, Option.toList_none, List.cons_append, List.nil_append, ne_eq, true_and, and_true, and_self, not_true_eq_false, not_false_eq_true, true_implies, false_implies, reduceCtorEq]
  | succ n ih =>
    intro x f o3 o4 o5 h0 h1 h2
    have e1 : mm 123 63 = m 19 1 := (hj 123 63 (by decide) (by unfold kJ; omega)).trans f4.2.2
    have e3 : ¬ km_shl 1 (m 19 1) ≤ x := by omega
    have bt := fun Q => @r_bits q c s x (km_sr mm 130 f) ⟨by omega, by omega⟩ Q
    by_cases z : km_pop x = sz
    · obtain ⟨g1, p3, p5, r1⟩ := @md_ring43 q c s m mm sz x hb hO hj (by omega) (by omega) (m 19 1).toNat 0 True f o5 (by omega) (by omega)
      have dd : (True ∧ ∀ i j : Int, 0 ≤ i → i < m 19 1 → 0 ≤ j → j < m 19 1 → tb x i = true → tb x j = false → kBt m i j) ↔ kD m x := ⟨fun h i j a b d e => h.2 i j a b d e, fun h => ⟨trivial, fun i j a b d e => h i j a b d e⟩⟩
      rw [if_pos trivial] at r1
      by_cases w : kD m x
      · have key := hr.2.2 x h0 (by omega) w
        have ex : x = r := by
          have : sz = km_pop r := by omega
          have := h2 this
          omega
        subst ex
        refine ⟨g1, p3, p3, p5, fun Q => ?_⟩
        have r1 := r1 Q
        rw [if_pos (dd.mpr w)] at r1
        rw [if_pos z.symm, ← r1, g_X12_ring_17]
        simp (config := { decide := true }) (disch := first | decide | assumption | omega | (simp (config := { decide := true }) only [km_sr_sf, km_sr_of, km_up_of, km_up_o, km_upx_i, km_upx_s, km_fl2_o, ne_eq, not_true_eq_false, not_false_eq_true] <;> omega) | fail) only [g_X12_ring, e1, e3, bt, z, Int.add_sub_cancel, true_or, or_true, false_or, or_false, false_and, and_false, if_true, if_false, ka_lo, ka_hi, ka_nn, km_sr_sf, km_sr_of, km_up_of, km_sr_us, km_sr_uo, km_sr_sr, km_sr_fl, km_sr_flo, km_up_up, km_up_lt, km_lay, km_unL, km_up_o, km_upx_i, km_upx_s, km_fl2_o, km_is, Option.some.injEq, Sum.inl.injEq, Sum.inr.injEq, Option.toList_some, Option.toList_none, List.cons_append, List.nil_append, ne_eq, true_and, and_true, and_self, not_true_eq_false, not_false_eq_true, true_implies, false_implies, reduceCtorEq]
      · obtain ⟨g2, p3', p4', p5', i1⟩ := ih (x + 1) g1 p3 (some (.inl (m 19 1))) p5 (by omega) (by omega) (fun v => by
          have := h2 v
          by_cases e : x = r
          · subst e; exact absurd hr.2.1 w
          · omega)
        refine ⟨g2, p3', p4', p5', fun Q => ?_⟩
        have r1 := r1 Q
        rw [if_neg (fun v => w (dd.mp v))] at r1
        rw [← i1 Q, ← r1, g_X12_ring_17]
        simp (config := { decide := true }) (disch := first | decide | assumption | omega | (simp (config := { decide := true }) only [km_sr_sf, km_sr_of, km_up_of, km_up_o, km_upx_i, km_upx_s, km_fl2_o, ne_eq, not_true_eq_false, not_false_eq_true] <;> omega) | fail) only [g_X12_ring, e1, e3, bt, z, Int.add_sub_cancel, true_or, or_true, false_or, or_false, false_and, and_false, if_true, if_false, ka_lo, ka_hi, ka_nn, km_sr_sf, km_sr_of, km_up_of, km_sr_us, km_sr_uo, km_sr_sr, km_sr_fl, km_sr_flo, km_up_up, km_up_lt, km_lay, km_unL, km_up_o, km_upx_i, km_upx_s, km_fl2_o, km_is, Option.some.injEq, Sum.inl.injEq, Sum.inr.injEq, Option.toList_some, Option.toList_none, List.cons_append, List.nil_append, ne_eq, true_and, and_true, and_self, not_true_eq_false, not_false_eq_true, true_implies, false_implies, reduceCtorEq]
    · obtain ⟨g2, p3', p4', p5', i1⟩ := ih (x + 1) f o3 o4 o5 (by omega) (by omega) (fun v => by
        have := h2 v
        by_cases e : x = r
        · subst e; exact absurd v.symm z
        · omega)
      refine ⟨g2, p3', p4', p5', fun Q => ?_⟩
      rw [← i1 Q, g_X12_ring_17]
      simp (config := { decide := true }) (disch := first | decide | assumption | omega | (simp (config := { decide := true }) only [km_sr_sf, km_sr_of, km_up_of, km_up_o, km_upx_i, km_upx_s, km_fl2_o, ne_eq, not_true_eq_false, not_false_eq_true] <;> omega) | fail) only [g_X12_ring, e1, e3, bt, z, ka_lt, ka_le, ka_nlt, ka_nle, ka_ne, ka_eq, Int.add_sub_cancel, true_or, or_true, false_or, or_false, false_and, and_false, if_true, if_false, ka_lo, ka_hi, ka_nn, km_sr_sf, km_sr_of, km_up_of, km_sr_us, km_sr_uo, km_sr_sr, km_sr_fl, km_sr_flo, km_up_up, km_up_lt, km_lay, km_unL, km_up_o, km_upx_i, km_upx_s, km_fl2_o, km_is, Option.some.injEq, Sum.inl.injEq, Sum.inr.injEq, Option.toList_some, Option.toList_none, List.cons_append, List.nil_append, ne_eq, true_and, and_true, and_self, not_true_eq_false, not_false_eq_true, true_implies, false_implies, reduceCtorEq]
theorem md_ring7 {q : Nat × Int × Int × Int × Int} {c s : Nat} {m mm : km_Mm} {r : Int} (hb : kI_book m) (hO : kI_opt m) (hj : kMj m mm) (hs : 1 ≤ m 19 1) (hr : kRing m r) : ∀ (n : Nat) (sz : Int) (f : Int → Int) (o2 o3 o4 o5 : Option km_V), 1 ≤ sz → sz + n = km_pop r →
    ∃ (g : Int → Int), ∀ Q : Option km_V → km_Al → km_Mm → Prop, (km_G M_X12_ring 7 [some (.inr (.inr 123)), some (.inl sz), o2, o3, o4, o5] [] (km_A0 q c s) (km_sr mm 130 f) Q ↔ Q (some (.inl r)) (km_A0 q c s) (km_sr mm 130 g)) := by
  have f4 := hO.1
  have hb2 := kAll_b (s0 := m 19 1) ⟨f4.1, f4.2.1⟩
  have pr := (kPop_b (s0 := m 19 1) ⟨f4.1, f4.2.1⟩ (x := r) (by have := hr.1; omega) hr.1.2)
  have e1 : mm 123 63 = m 19 1 := (hj 123 63 (by decide) (by unfold kJ; omega)).trans f4.2.2
  intro n
  induction n with
  | zero =>
    intro sz f o2 o3 o4 o5 h0 h1
    obtain ⟨g, p3, p4, p5, i1⟩ := @md_ring17 q c s m mm sz r hb hO hj hs hr h0 (by omega) (km_shl 1 (m 19 1) - 1).toNat 1 f o3 o4 o5 (by omega) (by omega) (fun _ => hr.1.1)
    refine ⟨g, fun Q => ?_⟩
    have i1 := i1 Q
    rw [if_pos (by omega)] at i1
    have e3 : ¬ m 19 1 < sz := by omega
    rw [← i1, g_X12_ring_7]
    simp (config := { decide := true }) (disch := first | decide | assumption | omega | (simp (config := { decide := true }) only [km_sr_sf, km_sr_of, km_up_of, km_up_o, km_upx_i, km_upx_s, km_fl2_o, ne_eq, not_true_eq_false, not_false_eq_true] <;> omega) | fail) only [g_X12_ring, e1, e3, Int.add_sub_cancel, true_or, or_true, false_or, or_false, false_and, and_false, if_true, if_false, ka_lo, ka_hi, ka_nn, km_sr_sf, km_sr_of, km_up_of, km_sr_us, km_sr_uo, km_sr_sr, km_sr_fl, km_sr_flo, km_up_up, km_up_lt, km_lay, km_unL, km_up_o, km_upx_i, km_upx_s, km_fl2_o, km_is, Option.some.injEq, Sum.inl.injEq, Sum.inr.injEq, Option.toList_some, Option.toList_none, List.cons_append, List.nil_append, ne_eq, true_and, and_true, and_self, not_true_eq_false, not_false_eq_true, true_implies, false_implies, reduceCtorEq]
  | succ n ih =>
    intro sz f o2 o3 o4 o5 h0 h1
    obtain ⟨g, p3, p4, p5, i1⟩ := @md_ring17 q c s m mm sz r hb hO hj hs hr h0 (by omega) (km_shl 1 (m 19 1) - 1).toNat 1 f o3 o4 o5 (by omega) (by omega) (fun _ => hr.1.1)
    obtain ⟨g2, i2⟩ := ih (sz + 1) g (some (.inl (km_shl 1 (m 19 1)))) p3 p4 p5 (by omega) (by omega)
    refine ⟨g2, fun Q => ?_⟩
    have i1 := i1 Q
    rw [if_neg (by omega)] at i1
    have e3 : ¬ m 19 1 < sz := by omega
    rw [← i2 Q, ← i1, g_X12_ring_7]
    simp (config := { decide := true }) (disch := first | decide | assumption | omega | (simp (config := { decide := true }) only [km_sr_sf, km_sr_of, km_up_of, km_up_o, km_upx_i, km_upx_s, km_fl2_o, ne_eq, not_true_eq_false, not_false_eq_true] <;> omega) | fail) only [g_X12_ring, e1, e3, Int.add_sub_cancel, true_or, or_true, false_or, or_false, false_and, and_false, if_true, if_false, ka_lo, ka_hi, ka_nn, km_sr_sf, km_sr_of, km_up_of, km_sr_us, km_sr_uo, km_sr_sr, km_sr_fl, km_sr_flo, km_up_up, km_up_lt, km_lay, km_unL, km_up_o, km_upx_i, km_upx_s, km_fl2_o, km_is, Option.some.injEq, Sum.inl.injEq, Sum.inr.injEq, Option.toList_some, Option.toList_none, List.cons_append, List.nil_append, ne_eq, true_and, and_true, and_self, not_true_eq_false, not_false_eq_true, true_implies, false_implies, reduceCtorEq]
theorem fc_ring {N : Int} {q : Nat × Int × Int × Int × Int} {c s : Nat} {m : km_Mm} (h : kI0 N m) : kF M_X11_ring M_X12_ring [] N q c s m := by
  intro Q1 Q2
  have hi := h
  have f1 := h.1.1
  have hO := h.2.2.2.1
  have f4 := hO.1
  obtain ⟨M, jM, rM, nM, eM⟩ := @cl_now q c s m hi.1
  obtain ⟨r, f, z0, z1, lr⟩ := @cl_leastRing q c s m M nM jM ⟨f1.1, f1.2.1⟩ ⟨f4.1, f4.2.1⟩
  have j1 : km_jk m (km_sr M 36 f) := jM.tr (fun b j z => km_sr_ne (fun e => z (by unfold kJ; omega)))
  have j2 : km_jk m (km_up (km_sr M 36 f) 123 2 0) := j1.tr (fun b j z => km_up_ne (fun e => z (by unfold kJ; omega)))
  have s2 : km_up (km_sr M 36 f) 123 2 0 52 = m 52 := by rw [km_up_of (by decide), km_sr_of (by decide), rM]
  have E63 : km_up (km_sr M 36 f) 123 2 0 123 63 = m 19 1 := (j2 123 63 (by unfold kJ; omega)).trans f4.2.2
  have x63 : M 123 63 = m 19 1 := (jM 123 63 (by unfold kJ; omega)).trans f4.2.2
  by_cases z : m 19 1 = 0
  · have z0 := z0 z
    subst z0
    refine ⟨.inl 0, km_sr M 36 f, km_up (km_sr M 36 f) 123 2 0, ?_, ?_, kI0_jk hi j2 (by unfold kI_scr; rw [s2]; exact hi.2.1), kP_jk j2⟩
    · rw [e_X11_ring]
      simp (config := { decide := true }) (disch := first | decide | assumption | omega | (simp (config := { decide := true }) only [km_sr_sf, km_sr_of, km_up_of, km_up_o, km_upx_i, km_upx_s, km_fl2_o, ne_eq, not_true_eq_false, not_false_eq_true] <;> omega) | fail) only [g_X11_ring, eM, lr, Int.add_sub_cancel, true_or, or_true, false_or, or_false, false_and, and_false, if_true, if_false, ka_lo, ka_hi, ka_nn, km_sr_sf, km_sr_of, km_up_of, km_sr_us, km_sr_uo, km_sr_sr, km_sr_fl, km_sr_flo, km_up_up, km_up_lt, km_lay, km_unL, km_up_o, km_upx_i, km_upx_s, km_fl2_o, km_is, Option.some.injEq, Sum.inl.injEq, Sum.inr.injEq, Option.toList_some, Option.toList_none, List.cons_append, List.nil_append, ne_eq, true_and, and_true, and_self, not_true_eq_false, not_false_eq_true, true_implies, false_implies, reduceCtorEq]
    · have e3 : m 19 1 < 1 := by omega
      rw [e_X12_ring]
      simp (config := { decide := true }) (disch := first | decide | assumption | omega | (simp (config := { decide := true }) only [km_sr_sf, km_sr_of, km_up_of, km_up_o, km_upx_i, km_upx_s, km_fl2_o, ne_eq, not_true_eq_false, not_false_eq_true] <;> omega) | fail) only [g_X12_ring, Int.add_sub_cancel, true_or, or_true, false_or, or_false, false_and, and_false, if_true, if_false, ka_lo, ka_hi, ka_nn, km_sr_sf, km_sr_of, km_up_of, km_sr_us, km_sr_uo, km_sr_sr, km_sr_fl, km_sr_flo, km_up_up, km_up_lt, km_lay, km_unL, km_up_o, km_upx_i, km_upx_s, km_fl2_o, km_is, Option.some.injEq, Sum.inl.injEq, Sum.inr.injEq, Option.toList_some, Option.toList_none, List.cons_append, List.nil_append, ne_eq, true_and, and_true, and_self, not_true_eq_false, not_false_eq_true, true_implies, false_implies, reduceCtorEq]
      rw [g_X12_ring_7]
      simp (config := { decide := true }) (disch := first | decide | assumption | omega | (simp (config := { decide := true }) only [km_sr_sf, km_sr_of, km_up_of, km_up_o, km_upx_i, km_upx_s, km_fl2_o, ne_eq, not_true_eq_false, not_false_eq_true] <;> omega) | fail) only [g_X12_ring, x63, e3, Int.add_sub_cancel, true_or, or_true, false_or, or_false, false_and, and_false, if_true, if_false, ka_lo, ka_hi, ka_nn, km_sr_sf, km_sr_of, km_up_of, km_sr_us, km_sr_uo, km_sr_sr, km_sr_fl, km_sr_flo, km_up_up, km_up_lt, km_lay, km_unL, km_up_o, km_upx_i, km_upx_s, km_fl2_o, km_is, Option.some.injEq, Sum.inl.injEq, Sum.inr.injEq, Option.toList_some, Option.toList_none, List.cons_append, List.nil_append, ne_eq, true_and, and_true, and_self, not_true_eq_false, not_false_eq_true, true_implies, false_implies, reduceCtorEq]
  · have hs : 1 ≤ m 19 1 := by omega
    have hr := z1 hs
    have pr := (kPop_b (s0 := m 19 1) ⟨f4.1, f4.2.1⟩ (x := r) (by have := hr.1; omega) hr.1.2)
    have p1 := pr.2.2.2 (by have := hr.1; omega)
    obtain ⟨g, i1⟩ := @md_ring7 q c s m (km_up (km_sr M 36 f) 123 2 0) r hi.1 hO (kMj_jk j2) hs hr (km_pop r - 1).toNat 1 (km_up (km_sr M 36 f) 123 2 0 130) none none none none (by omega) (by omega)
    rw [km_sr_id] at i1
    have j3 : km_jk m (km_sr (km_up (km_sr M 36 f) 123 2 0) 130 g) := j2.tr (fun b j z => km_sr_ne (fun e => z (by unfold kJ; omega)))
    refine ⟨.inl r, km_sr M 36 f, km_sr (km_up (km_sr M 36 f) 123 2 0) 130 g, ?_, ?_, kI0_jk hi j3 (by unfold kI_scr; rw [km_sr_of (by decide), s2]; exact hi.2.1), kP_jk j3⟩
    · rw [e_X11_ring]
      simp (config := { decide := true }) (disch := first | decide | assumption | omega | (simp (config := { decide := true }) only [km_sr_sf, km_sr_of, km_up_of, km_up_o, km_upx_i, km_upx_s, km_fl2_o, ne_eq, not_true_eq_false, not_false_eq_true] <;> omega) | fail) only [g_X11_ring, eM, lr, Int.add_sub_cancel, true_or, or_true, false_or, or_false, false_and, and_false, if_true, if_false, ka_lo, ka_hi, ka_nn, km_sr_sf, km_sr_of, km_up_of, km_sr_us, km_sr_uo, km_sr_sr, km_sr_fl, km_sr_flo, km_up_up, km_up_lt, km_lay, km_unL, km_up_o, km_upx_i, km_upx_s, km_fl2_o, km_is, Option.some.injEq, Sum.inl.injEq, Sum.inr.injEq, Option.toList_some, Option.toList_none, List.cons_append, List.nil_append, ne_eq, true_and, and_true, and_self, not_true_eq_false, not_false_eq_true, true_implies, false_implies, reduceCtorEq]
    · rw [← i1 Q2, e_X12_ring]
      simp (config := { decide := true }) (disch := first | decide | assumption | omega | (simp (config := { decide := true }) only [km_sr_sf, km_sr_of, km_up_of, km_up_o, km_upx_i, km_upx_s, km_fl2_o, ne_eq, not_true_eq_false, not_false_eq_true] <;> omega) | fail) only [g_X12_ring, Int.add_sub_cancel, true_or, or_true, false_or, or_false, false_and, and_false, if_true, if_false, ka_lo, ka_hi, ka_nn, km_sr_sf, km_sr_of, km_up_of, km_sr_us, km_sr_uo, km_sr_sr, km_sr_fl, km_sr_flo, km_up_up, km_up_lt, km_lay, km_unL, km_up_o, km_upx_i, km_upx_s, km_fl2_o, km_is, Option.some.injEq, Sum.inl.injEq, Sum.inr.injEq, Option.toList_some, Option.toList_none, List.cons_append, List.nil_append, ne_eq, true_and, and_true, and_self, not_true_eq_false, not_false_eq_true, true_implies, false_implies, reduceCtorEq]

