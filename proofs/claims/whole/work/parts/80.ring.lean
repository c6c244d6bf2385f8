/-! ===== ring: class and reference ===== -/
theorem kN_sr {m M : km_Mm} {b : Int} {f : Int → Int} (h : kN m M) (hb : b ≠ 5 ∧ b ≠ 16 ∧ b ≠ 17 ∧ b ≠ 18) : kN m (km_sr M b f) := by
  unfold kN at *
  simp only [km_sr_of (show (5 : Int) ≠ b by omega), km_sr_of (show (16 : Int) ≠ b by omega), km_sr_of (show (17 : Int) ≠ b by omega), km_sr_of (show (18 : Int) ≠ b by omega)]
  exact h
def kv_fn (f : Int → Int) (k n : Int) (B : Int → Int) : Int → Int := fun j => if k ≤ j ∧ j < n then B j else f j
theorem kv_fn_end {f B : Int → Int} {k n : Int} (h : n ≤ k) : kv_fn f k n B = f := by funext j; unfold kv_fn; rw [if_neg (by omega)]
theorem kv_fn_up {f B : Int → Int} {k n : Int} (h : k < n) : kv_fn (km_u1 f k (B k)) (k + 1) n B = kv_fn f k n B := by
  funext j; unfold kv_fn km_u1
  by_cases e : j = k
  · subst e; rw [if_neg (by omega), if_pos rfl, if_pos (by omega)]
  · by_cases z : k + 1 ≤ j ∧ j < n
    · rw [if_pos z, if_pos (by omega)]
    · rw [if_neg z, if_neg e, if_neg (by omega)]
/-- what each option beats -/
noncomputable def kBe (m : km_Mm) : Int → Int := fun i => kset (kBt m i) (m 19 1).toNat
theorem lp_beatsRest_2 {q : Nat × Int × Int × Int × Int} {c s : Nat} {x al : Int} {m M : km_Mm} (hs : 0 ≤ m 19 1 ∧ m 19 1 ≤ 6) (e1 : M 19 1 = m 19 1) (hB : ∀ i : Int, 0 ≤ i → i < m 19 1 → M 36 i = kBe m i) (x0 : 0 ≤ x) (x1 : x < 1024) {Q : Option km_V → km_Al → km_Mm → Prop} : ∀ (n : Nat) (i : Int), 0 ≤ i → i + n = m 19 1 → (km_G M_X6_beatsRest 2 [some (.inr (.inr 19)), some (.inl x), some (.inl al), some (.inl i)] [] (km_A0 q c s) (M) Q ↔ Q (some (.inl ((@ite Int (∀ j : Int, i ≤ j → j < m 19 1 → tb x j = true → km_or x (kBe m j) = al) (Classical.propDecidable _) 1 0)))) (km_A0 q c s) (M)) := by
  intro n
  induction n with
  | zero =>
    intro i h0 h1
    have e3 : m 19 1 ≤ i := by omega
    have z : ∀ j : Int, i ≤ j → j < m 19 1 → tb x j = true → km_or x (kBe m j) = al := fun j a b => by omega
    rw [if_pos z]
    rw [g_X6_beatsRest_2]
    simp (config := { decide := true }) (disch := first | decide | assumption | omega | (simp (config := { decide := true }) only [km_sr_sf, km_sr_of, km_up_of, km_up_o, km_upx_i, km_upx_s, km_fl2_o, ne_eq, not_true_eq_false, not_false_eq_true] <;> omega) | fail) only [g_X6_beatsRest, e1, e3, h0, Int.add_sub_cancel, true_or, or_true, false_or, or_false, false_and, and_false, if_true, if_false, ka_lo, ka_hi, ka_nn, km_sr_sf, km_sr_of, km_up_of, km_sr_us, km_sr_uo, km_sr_sr, km_sr_fl, km_sr_flo, km_up_up, km_up_lt, km_lay, km_unL, km_up_o, km_upx_i, km_upx_s, km_fl2_o, km_is, Option.some.injEq, Sum.inl.injEq, Sum.inr.injEq, Option.toList_some, Option.toList_none, List.cons_append, List.nil_append, ne_eq, true_and, and_true, and_self, not_true_eq_false, not_false_eq_true, true_implies, false_implies, reduceCtorEq]
    all_goals grind
  | succ n ih =>
    intro i h0 h1
    have e3 : ¬ m 19 1 ≤ i := by omega
    have e4 := hB i h0 (by omega)
    have e5 : i < 6 := by omega
    have hb := ks_bit0 (x := x) (k := i) x0 (by omega) h0 (by omega)
    have i1 := ih (i + 1) (by omega) (by omega)
    have step : (∀ j : Int, i ≤ j → j < m 19 1 → tb x j = true → km_or x (kBe m j) = al) ↔ (tb x i = true → km_or x (kBe m i) = al) ∧ (∀ j : Int, i + 1 ≤ j → j < m 19 1 → tb x j = true → km_or x (kBe m j) = al) := by
      constructor
      · intro h; exact ⟨h i (Int.le_refl _) (by omega), fun j a b => h j (by omega) b⟩
      · rintro ⟨h1, h2⟩ j a b
        by_cases e : j = i
        · subst e; exact h1
        · exact h2 j (by omega) b
    rw [g_X6_beatsRest_2, @km_ite_iff _ _ _ (Classical.propDecidable _) _ _ step]
    by_cases z : tb x i = true
    · have z2 : ¬ km_and (km_shr x i) 1 = 0 := fun w => by rw [hb.mp w] at z; cases z
      by_cases w : km_or x (kBe m i) = al
      · have s2 : ((tb x i = true → km_or x (kBe m i) = al) ∧ (∀ j : Int, i + 1 ≤ j → j < m 19 1 → tb x j = true → km_or x (kBe m j) = al)) ↔ (∀ j : Int, i + 1 ≤ j → j < m 19 1 → tb x j = true → km_or x (kBe m j) = al) := ⟨fun h => h.2, fun h => ⟨fun _ => w, h⟩⟩
        rw [@km_ite_iff _ _ _ (Classical.propDecidable _) _ _ s2]
        simp (config := { decide := true }) (disch := first | decide | assumption | omega | (simp (config := { decide := true }) only [km_sr_sf, km_sr_of, km_up_of, km_up_o, km_upx_i, km_upx_s, km_fl2_o, ne_eq, not_true_eq_false, not_false_eq_true] <;> omega) | fail) only [g_X6_beatsRest, e1, e3, e4, e5, h0, z2, w, i1, Int.add_sub_cancel, true_or, or_true, false_or, or_false, false_and, and_false, if_true, if_false, ka_lo, ka_hi, ka_nn, km_sr_sf, km_sr_of, km_up_of, km_sr_us, km_sr_uo, km_sr_sr, km_sr_fl, km_sr_flo, km_up_up, km_up_lt, km_lay, km_unL, km_up_o, km_upx_i, km_upx_s, km_fl2_o, km_is, Option.some.injEq, Sum.inl.injEq, Sum.inr.injEq, Option.toList_some, Option.toList_none, List.cons_append, List.nil_append, ne_eq, true_and, and_true, and_self, not_true_eq_false, not_false_eq_true, true_implies, false_implies, reduceCtorEq]
      · rw [if_neg (fun h => w (h.1 z))]
        simp (config := { decide := true }) (disch := first | decide | assumption | omega | (simp (config := { decide := true }) only [km_sr_sf, km_sr_of, km_up_of, km_up_o, km_upx_i, km_upx_s, km_fl2_o, ne_eq, not_true_eq_false, not_false_eq_true] <;> omega) | fail) only [g_X6_beatsRest, e1, e3, e4, e5, h0, z2, w, Int.add_sub_cancel, true_or, or_true, false_or, or_false, false_and, and_false, if_true, if_false, ka_lo, ka_hi, ka_nn, km_sr_sf, km_sr_of, km_up_of, km_sr_us, km_sr_uo, km_sr_sr, km_sr_fl, km_sr_flo, km_up_up, km_up_lt, km_lay, km_unL, km_up_o, km_upx_i, km_upx_s, km_fl2_o, km_is, Option.some.injEq, Sum.inl.injEq, Sum.inr.injEq, Option.toList_some, Option.toList_none, List.cons_append, List.nil_append, ne_eq, true_and, and_true, and_self, not_true_eq_false, not_false_eq_true, true_implies, false_implies, reduceCtorEq]
    · have z1 : tb x i = false := by cases e : tb x i; rfl; exact absurd e z
      have z2 : km_and (km_shr x i) 1 = 0 := hb.mpr z1
      have s2 : ((tb x i = true → km_or x (kBe m i) = al) ∧ (∀ j : Int, i + 1 ≤ j → j < m 19 1 → tb x j = true → km_or x (kBe m j) = al)) ↔ (∀ j : Int, i + 1 ≤ j → j < m 19 1 → tb x j = true → km_or x (kBe m j) = al) := ⟨fun h => h.2, fun h => ⟨fun w => absurd w z, h⟩⟩
      rw [@km_ite_iff _ _ _ (Classical.propDecidable _) _ _ s2]
      simp (config := { decide := true }) (disch := first | decide | assumption | omega | (simp (config := { decide := true }) only [km_sr_sf, km_sr_of, km_up_of, km_up_o, km_upx_i, km_upx_s, km_fl2_o, ne_eq, not_true_eq_false, not_false_eq_true] <;> omega) | fail) only [g_X6_beatsRest, e1, e3, e4, e5, h0, z2, i1, Int.add_sub_cancel, true_or, or_true, false_or, or_false, false_and, and_false, if_true, if_false, ka_lo, ka_hi, ka_nn, km_sr_sf, km_sr_of, km_up_of, km_sr_us, km_sr_uo, km_sr_sr, km_sr_fl, km_sr_flo, km_up_up, km_up_lt, km_lay, km_unL, km_up_o, km_upx_i, km_upx_s, km_fl2_o, km_is, Option.some.injEq, Sum.inl.injEq, Sum.inr.injEq, Option.toList_some, Option.toList_none, List.cons_append, List.nil_append, ne_eq, true_and, and_true, and_self, not_true_eq_false, not_false_eq_true, true_implies, false_implies, reduceCtorEq]
theorem r_beatsRest {q : Nat × Int × Int × Int × Int} {c s : Nat} {x : Int} {m M : km_Mm} (hs : 1 ≤ m 19 1 ∧ m 19 1 ≤ 6) (e1 : M 19 1 = m 19 1) (hB : ∀ i : Int, 0 ≤ i → i < m 19 1 → M 36 i = kBe m i) (x0 : 0 ≤ x) (x1 : x < km_shl 1 (m 19 1)) (Q : Option km_V → km_Al → km_Mm → Prop) : km_E M_X6_beatsRest [.inr (.inr 19), .inl x, .inl (km_shl 1 (m 19 1) - 1)] (km_A0 q c s) M Q ↔ Q (some (.inl (@ite Int (kD m x) (Classical.propDecidable _) 1 0))) (km_A0 q c s) M := by
  have hb := kAll_b (s0 := m 19 1) ⟨by omega, hs.2⟩
  have h := @lp_beatsRest_2 q c s x (km_shl 1 (m 19 1) - 1) m M ⟨by omega, hs.2⟩ e1 hB x0 (by omega) Q (m 19 1).toNat 0 (by omega) (by omega)
  rw [e_X6_beatsRest]
  simp (config := { decide := true }) only [g_X6_beatsRest, h, Int.add_sub_cancel, true_or, or_true, false_or, or_false, false_and, and_false, if_true, if_false, km_sr_sf, km_sr_of, km_up_of, km_sr_us, km_sr_uo, km_sr_sr, km_sr_fl, km_sr_flo, km_up_up, km_up_lt, km_lay, km_unL, km_up_o, km_upx_i, km_upx_s, km_fl2_o, km_is, Option.some.injEq, Sum.inl.injEq, Sum.inr.injEq, Option.toList_some, Option.toList_none, List.cons_append, List.nil_append, ne_eq, true_and, and_true, and_self, not_true_eq_false, not_false_eq_true, true_implies, false_implies, reduceCtorEq]
  rw [@km_ite_iff _ _ _ (Classical.propDecidable _) _ _ (kD_iff hs x0 x1)]
  exact Iff.rfl
theorem lp_leastRing_13 {q : Nat × Int × Int × Int × Int} {c s : Nat} {Q : Option km_V → km_Al → km_Mm → Prop} {al ri : Int} {m M : km_Mm} (hN : kN m M) (hj : km_jk m M) (hk : 0 ≤ m 5 1 ∧ m 5 1 ≤ 10) (hs : 0 ≤ m 19 1 ∧ m 19 1 ≤ 6) {R : (Int → Int) → Prop} (hR : ∀ f : Int → Int, km_G M_X6_leastRing 38 [some (.inr (.inr 19)), some (.inl al), some (.inl ri), some (.inl (m 19 1))] [] (km_A0 q c s) (km_sr M 36 f) Q ↔ R f) : ∀ (n : Nat) (i : Int) (f : Int → Int), 0 ≤ i → i + n = m 19 1 → (km_G M_X6_leastRing 13 [some (.inr (.inr 19)), some (.inl al), some (.inl ri), some (.inl i)] [] (km_A0 q c s) (km_sr M 36 f) Q ↔ R (kv_fn f i (m 19 1) (kBe m))) := by
  intro n
  induction n with
  | zero =>
    intro i f h0 h1
    have e2 : i = m 19 1 := by omega
    have e3 : m 19 1 ≤ i := by omega
    have e1 : M 19 1 = m 19 1 := hj 19 1 (by unfold kJ; omega)
    subst e2
    rw [g_X6_leastRing_13]
    simp (config := { decide := true }) (disch := first | decide | assumption | omega | (simp (config := { decide := true }) only [km_sr_sf, km_sr_of, km_up_of, km_up_o, km_upx_i, km_upx_s, km_fl2_o, ne_eq, not_true_eq_false, not_false_eq_true] <;> omega) | fail) only [g_X6_leastRing, e1, e3, kv_fn_end, hR, h0, Int.add_sub_cancel, true_or, or_true, false_or, or_false, false_and, and_false, if_true, if_false, ka_lo, ka_hi, ka_nn, km_sr_sf, km_sr_of, km_up_of, km_sr_us, km_sr_uo, km_sr_sr, km_sr_fl, km_sr_flo, km_up_up, km_up_lt, km_lay, km_unL, km_up_o, km_upx_i, km_upx_s, km_fl2_o, km_is, Option.some.injEq, Sum.inl.injEq, Sum.inr.injEq, Option.toList_some, Option.toList_none, List.cons_append, List.nil_append, ne_eq, true_and, and_true, and_self, not_true_eq_false, not_false_eq_true, true_implies, false_implies, reduceCtorEq]
    all_goals grind
  | succ n ih =>
    intro i f h0 h1
    have e1 : M 19 1 = m 19 1 := hj 19 1 (by unfold kJ; omega)
    have e3 : ¬ m 19 1 ≤ i := by omega
    have e5 : i < 6 := by omega
    have u := @kv_fn_up f (kBe m) i (m 19 1) (by omega)
    have rb := fun Q => @r_beatenBy q c s i m (km_sr M 36 f) (kN_sr hN (by decide)) (hj.tr (fun b j z => km_sr_ne (fun e => z (by unfold kJ; omega)))) hk hs h0 e5 Q
    have i1 := ih (i + 1) (km_u1 f i (kBe m i)) (by omega) (by omega)
    rw [u] at i1
    have eb : kset (kBt m i) (m 19 1).toNat = kBe m i := rfl
    rw [eb] at rb
    rw [g_X6_leastRing_13]
    simp (config := { decide := true }) (disch := first | decide | assumption | omega | (simp (config := { decide := true }) only [km_sr_sf, km_sr_of, km_up_of, km_up_o, km_upx_i, km_upx_s, km_fl2_o, ne_eq, not_true_eq_false, not_false_eq_true] <;> omega) | fail) only [g_X6_leastRing, e1, e3, e5, h0, rb, i1, Int.add_sub_cancel, true_or, or_true, false_or, or_false, false_and, and_false, if_true, if_false, ka_lo, ka_hi, ka_nn, km_sr_sf, km_sr_of, km_up_of, km_sr_us, km_sr_uo, km_sr_sr, km_sr_fl, km_sr_flo, km_up_up, km_up_lt, km_lay, km_unL, km_up_o, km_upx_i, km_upx_s, km_fl2_o, km_is, Option.some.injEq, Sum.inl.injEq, Sum.inr.injEq, Option.toList_some, Option.toList_none, List.cons_append, List.nil_append, ne_eq, true_and, and_true, and_self, not_true_eq_false, not_false_eq_true, true_implies, false_implies, reduceCtorEq]
theorem lp_leastRing_40 {q : Nat × Int × Int × Int × Int} {c s : Nat} {m M : km_Mm} (hs : 1 ≤ m 19 1 ∧ m 19 1 ≤ 6) (e1 : M 19 1 = m 19 1) (hB : ∀ i : Int, 0 ≤ i → i < m 19 1 → M 36 i = kBe m i) {Q : Option km_V → km_Al → km_Mm → Prop} : ∀ (n : Nat) (x r : Int), 1 ≤ x → x + n = km_shl 1 (m 19 1) - 1 → 1 ≤ r ∧ r < km_shl 1 (m 19 1) → (km_G M_X6_leastRing 40 [some (.inr (.inr 19)), some (.inl (km_shl 1 (m 19 1) - 1)), some (.inl r), some (.inl x)] [] (km_A0 q c s) (M) Q ↔ Q (some (.inl ((kRf m n x r)))) (km_A0 q c s) (M)) := by
  intro n
  induction n with
  | zero =>
    intro x r h0 h1 h2
    have e3 : km_shl 1 (m 19 1) - 1 ≤ x := by omega
    rw [g_X6_leastRing_40]
    simp (config := { decide := true }) (disch := first | decide | assumption | omega | (simp (config := { decide := true }) only [km_sr_sf, km_sr_of, km_up_of, km_up_o, km_upx_i, km_upx_s, km_fl2_o, ne_eq, not_true_eq_false, not_false_eq_true] <;> omega) | fail) only [g_X6_leastRing, e3, kRf, h0, h2, Int.add_sub_cancel, true_or, or_true, false_or, or_false, false_and, and_false, if_true, if_false, ka_lo, ka_hi, ka_nn, km_sr_sf, km_sr_of, km_up_of, km_sr_us, km_sr_uo, km_sr_sr, km_sr_fl, km_sr_flo, km_up_up, km_up_lt, km_lay, km_unL, km_up_o, km_upx_i, km_upx_s, km_fl2_o, km_is, Option.some.injEq, Sum.inl.injEq, Sum.inr.injEq, Option.toList_some, Option.toList_none, List.cons_append, List.nil_append, ne_eq, true_and, and_true, and_self, not_true_eq_false, not_false_eq_true, true_implies, false_implies, reduceCtorEq]
    all_goals grind
  | succ n ih =>
    intro x r h0 h1 h2
    have e3 : ¬ km_shl 1 (m 19 1) - 1 ≤ x := by omega
    have hb := kAll_b (s0 := m 19 1) ⟨by omega, hs.2⟩
    have b1 := fun Q => @sp_bitCount x (by omega) (by omega) (km_A0 q c s) M Q
    have b2 := fun Q => @sp_bitCount r (by omega) (by omega) (km_A0 q c s) M Q
    have br := fun Q => @r_beatsRest q c s x m M hs e1 hB (by omega) (by omega) Q
    have i1 := ih (x + 1) r (by omega) (by omega) h2
    have i2 := ih (x + 1) x (by omega) (by omega) (by omega)
    rw [g_X6_leastRing_40]
    unfold kRf
    by_cases z : km_pop x < km_pop r
    · have z1 : ¬ km_pop r ≤ km_pop x := by omega
      by_cases w : kD m x
      · rw [if_pos ⟨z, w⟩]
        simp (config := { decide := true }) (disch := first | decide | assumption | omega | (simp (config := { decide := true }) only [km_sr_sf, km_sr_of, km_up_of, km_up_o, km_upx_i, km_upx_s, km_fl2_o, ne_eq, not_true_eq_false, not_false_eq_true] <;> omega) | fail) only [g_X6_leastRing, e3, b1, b2, z1, br, w, i2, Int.add_sub_cancel, true_or, or_true, false_or, or_false, false_and, and_false, if_true, if_false, ka_lo, ka_hi, ka_nn, km_sr_sf, km_sr_of, km_up_of, km_sr_us, km_sr_uo, km_sr_sr, km_sr_fl, km_sr_flo, km_up_up, km_up_lt, km_lay, km_unL, km_up_o, km_upx_i, km_upx_s, km_fl2_o, km_is, Option.some.injEq, Sum.inl.injEq, Sum.inr.injEq, Option.toList_some, Option.toList_none, List.cons_append, List.nil_append, ne_eq, true_and, and_true, and_self, not_true_eq_false, not_false_eq_true, true_implies, false_implies, reduceCtorEq]
      · rw [if_neg (fun q => w q.2)]
        simp (config := { decide := true }) (disch := first | decide | assumption | omega | (simp (config := { decide := true }) only [km_sr_sf, km_sr_of, km_up_of, km_up_o, km_upx_i, km_upx_s, km_fl2_o, ne_eq, not_true_eq_false, not_false_eq_true] <;> omega) | fail) only [g_X6_leastRing, e3, b1, b2, z1, br, w, i1, Int.add_sub_cancel, true_or, or_true, false_or, or_false, false_and, and_false, if_true, if_false, ka_lo, ka_hi, ka_nn, km_sr_sf, km_sr_of, km_up_of, km_sr_us, km_sr_uo, km_sr_sr, km_sr_fl, km_sr_flo, km_up_up, km_up_lt, km_lay, km_unL, km_up_o, km_upx_i, km_upx_s, km_fl2_o, km_is, Option.some.injEq, Sum.inl.injEq, Sum.inr.injEq, Option.toList_some, Option.toList_none, List.cons_append, List.nil_append, ne_eq, true_and, and_true, and_self, not_true_eq_false, not_false_eq_true, true_implies, false_implies, reduceCtorEq]
    · have z1 : km_pop r ≤ km_pop x := by omega
      rw [if_neg (fun q => z q.1)]
      simp (config := { decide := true }) (disch := first | decide | assumption | omega | (simp (config := { decide := true }) only [km_sr_sf, km_sr_of, km_up_of, km_up_o, km_upx_i, km_upx_s, km_fl2_o, ne_eq, not_true_eq_false, not_false_eq_true] <;> omega) | fail) only [g_X6_leastRing, e3, b1, b2, z1, i1, Int.add_sub_cancel, true_or, or_true, false_or, or_false, false_and, and_false, if_true, if_false, ka_lo, ka_hi, ka_nn, km_sr_sf, km_sr_of, km_up_of, km_sr_us, km_sr_uo, km_sr_sr, km_sr_fl, km_sr_flo, km_up_up, km_up_lt, km_lay, km_unL, km_up_o, km_upx_i, km_upx_s, km_fl2_o, km_is, Option.some.injEq, Sum.inl.injEq, Sum.inr.injEq, Option.toList_some, Option.toList_none, List.cons_append, List.nil_append, ne_eq, true_and, and_true, and_self, not_true_eq_false, not_false_eq_true, true_implies, false_implies, reduceCtorEq]
theorem cl_leastRing {q : Nat × Int × Int × Int × Int} {c s : Nat} {m M : km_Mm} (hN : kN m M) (hj : km_jk m M) (hk : 0 ≤ m 5 1 ∧ m 5 1 ≤ 10) (hs : 0 ≤ m 19 1 ∧ m 19 1 ≤ 6) :
    ∃ (r : Int) (f : Int → Int), (m 19 1 = 0 → r = 0) ∧ (1 ≤ m 19 1 → kRing m r) ∧ ∀ Q : Option km_V → km_Al → km_Mm → Prop, (km_E M_X6_leastRing [.inr (.inr 19)] (km_A0 q c s) M Q ↔ Q (some (.inl r)) (km_A0 q c s) (km_sr M 36 f)) := by
  have hb := kAll_b (s0 := m 19 1) hs
  have e1 : M 19 1 = m 19 1 := hj 19 1 (by unfold kJ; omega)
  have h13 := fun Q => @lp_leastRing_13 q c s Q (km_shl 1 (m 19 1) - 1) (km_shl 1 (m 19 1) - 1) m M hN hj hk hs (fun f => km_G M_X6_leastRing 38 [some (.inr (.inr 19)), some (.inl (km_shl 1 (m 19 1) - 1)), some (.inl (km_shl 1 (m 19 1) - 1)), some (.inl (m 19 1))] [] (km_A0 q c s) (km_sr M 36 f) Q) (fun f => Iff.rfl) (m 19 1).toNat 0 (M 36) (by omega) (by omega)
  rw [km_sr_id] at h13
  by_cases z : m 19 1 = 0
  · have e0 : km_shl 1 (m 19 1) = 1 := by rw [z]; decide
    refine ⟨0, kv_fn (M 36) 0 (m 19 1) (kBe m), fun _ => rfl, fun w => by omega, fun Q => ?_⟩
    rw [e_X6_leastRing]
    have h13 := h13 Q
    rw [e0, show (1 : Int) - 1 = 0 from rfl] at h13
    simp (config := { decide := true }) (disch := first | decide | assumption | omega | (simp (config := { decide := true }) only [km_sr_sf, km_sr_of, km_up_of, km_up_o, km_upx_i, km_upx_s, km_fl2_o, ne_eq, not_true_eq_false, not_false_eq_true] <;> omega) | fail) only [g_X6_leastRing, e1, e0, h13, Int.reduceSub, Int.add_sub_cancel, true_or, or_true, false_or, or_false, false_and, and_false, if_true, if_false, ka_lo, ka_hi, ka_nn, km_sr_sf, km_sr_of, km_up_of, km_sr_us, km_sr_uo, km_sr_sr, km_sr_fl, km_sr_flo, km_up_up, km_up_lt, km_lay, km_unL, km_up_o, km_upx_i, km_upx_s, km_fl2_o, km_is, Option.some.injEq, Sum.inl.injEq, Sum.inr.injEq, Option.toList_some, Option.toList_none, List.cons_append, List.nil_append, ne_eq, true_and, and_true, and_self, not_true_eq_false, not_false_eq_true, true_implies, false_implies, reduceCtorEq]
    rw [g_X6_leastRing_40]
    simp (config := { decide := true }) (disch := first | decide | assumption | omega | (simp (config := { decide := true }) only [km_sr_sf, km_sr_of, km_up_of, km_up_o, km_upx_i, km_upx_s, km_fl2_o, ne_eq, not_true_eq_false, not_false_eq_true] <;> omega) | fail) only [g_X6_leastRing, Int.add_sub_cancel, true_or, or_true, false_or, or_false, false_and, and_false, if_true, if_false, ka_lo, ka_hi, ka_nn, km_sr_sf, km_sr_of, km_up_of, km_sr_us, km_sr_uo, km_sr_sr, km_sr_fl, km_sr_flo, km_up_up, km_up_lt, km_lay, km_unL, km_up_o, km_upx_i, km_upx_s, km_fl2_o, km_is, Option.some.injEq, Sum.inl.injEq, Sum.inr.injEq, Option.toList_some, Option.toList_none, List.cons_append, List.nil_append, ne_eq, true_and, and_true, and_self, not_true_eq_false, not_false_eq_true, true_implies, false_implies, reduceCtorEq]
  · have hs1 : 1 ≤ m 19 1 ∧ m 19 1 ≤ 6 := by omega
    have hB : ∀ i : Int, 0 ≤ i → i < m 19 1 → km_sr M 36 (kv_fn (M 36) 0 (m 19 1) (kBe m)) 36 i = kBe m i := fun i i0 i1 => by
      rw [km_sr_s]; unfold kv_fn; rw [if_pos ⟨i0, i1⟩]
    have hb2 : 2 ≤ km_shl 1 (m 19 1) := by
      rw [ks_one hs.1 (by omega)]
      have h2 : 2 ^ 1 ≤ 2 ^ (m 19 1).toNat := Nat.pow_le_pow_right (by decide) (by omega)
      generalize 2 ^ (m 19 1).toNat = z at *
      omega
    have h40 := fun Q => @lp_leastRing_40 q c s m (km_sr M 36 (kv_fn (M 36) 0 (m 19 1) (kBe m))) hs1 (by rw [km_sr_o (by decide)]; exact e1) hB Q (km_shl 1 (m 19 1) - 2).toNat 1 (km_shl 1 (m 19 1) - 1) (by omega) (by omega) (by omega)
    refine ⟨kRf m (km_shl 1 (m 19 1) - 2).toNat 1 (km_shl 1 (m 19 1) - 1), kv_fn (M 36) 0 (m 19 1) (kBe m), fun w => absurd w z, fun _ => ?_, fun Q => ?_⟩
    · exact kRf_ring hs1 _ 1 _ (by omega) (by omega) (by omega) (kD_all hs1) (fun y a b => by omega) (Or.inr rfl)
    · have sl : -2147483648 ≤ km_shl 1 (m 19 1) - 1 ∧ km_shl 1 (m 19 1) - 1 ≤ 2147483647 := by omega
      rw [e_X6_leastRing]
      simp (config := { decide := true }) (disch := first | decide | assumption | omega | (simp (config := { decide := true }) only [km_sr_sf, km_sr_of, km_up_of, km_up_o, km_upx_i, km_upx_s, km_fl2_o, ne_eq, not_true_eq_false, not_false_eq_true] <;> omega) | fail) only [g_X6_leastRing, e1, sl, h13 Q, h40 Q, Int.add_sub_cancel, true_or, or_true, false_or, or_false, false_and, and_false, if_true, if_false, ka_lo, ka_hi, ka_nn, km_sr_sf, km_sr_of, km_up_of, km_sr_us, km_sr_uo, km_sr_sr, km_sr_fl, km_sr_flo, km_up_up, km_up_lt, km_lay, km_unL, km_up_o, km_upx_i, km_upx_s, km_fl2_o, km_is, Option.some.injEq, Sum.inl.injEq, Sum.inr.injEq, Option.toList_some, Option.toList_none, List.cons_append, List.nil_append, ne_eq, true_and, and_true, and_self, not_true_eq_false, not_false_eq_true, true_implies, false_implies, reduceCtorEq]

