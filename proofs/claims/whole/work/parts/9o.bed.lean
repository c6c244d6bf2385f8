/-! ===== bed ===== -/
theorem md_bed {q : Nat × Int × Int × Int × Int} {c s : Nat} {m mm : km_Mm} (hb : kI_book m) (hT : kI_trait m) (hH : kI_house m) (hE : kI_meet m) (on : m 100 0 ≠ -1) (hj : kMj m mm) :
    (∀ v : Int, kdD (kbX m) (kbFt m) (m 85 0).toNat 0 (m 100 1) v → ∀ cc : Int → Int, kdS (kbX m) (kbFt m) cc (m 85 0).toNat 0 (m 100 1) → ∃ M' : km_Mm, (∀ b j : Int, b ≠ 166 → ¬ (b = 123 ∧ j = 2) → ¬ (b = 130 ∨ (171 ≤ b ∧ b ≤ 173)) → M' b j = mm b j) ∧ (∀ j : Int, 0 ≤ j → j < 10 → M' 166 j = kdP cc (m 85 0).toNat j) ∧ 0 ≤ v + m 89 1 * kVC m (m 100 1) ∧ ∀ Q : Option km_V → km_Al → km_Mm → Prop, (km_E M_X12_bed [.inr (.inr 123)] (km_A0 q c s) mm Q ↔ Q (some (.inl (v + m 89 1 * kVC m (m 100 1)))) (km_A0 q c s) M')) ∧
    ((¬ ∃ v : Int, kdD (kbX m) (kbFt m) (m 85 0).toNat 0 (m 100 1) v) → ∃ M' : km_Mm, (∀ b j : Int, ¬ (b = 123 ∧ j = 2) → ¬ (b = 130 ∨ (171 ≤ b ∧ b ≤ 173)) → M' b j = mm b j) ∧ ∀ Q : Option km_V → km_Al → km_Mm → Prop, (km_E M_X12_bed [.inr (.inr 123)] (km_A0 q c s) mm Q ↔ Q (some (.inl (-1))) (km_A0 q c s) M')) := by
  obtain ⟨b1, b2, b3, b4, b5, b6⟩ := id hb
  obtain ⟨h1, h2, h3, h4, h5, h6, h7⟩ := hH
  obtain ⟨⟨e1a, e1b⟩, ⟨e2, hw, e3⟩, e4, e5, e6, e7, e8⟩ := id hE
  have nn : (((m 85 0).toNat : Nat) : Int) = m 85 0 := by omega
  have r123 : ∀ b : Int, 123 < b → (∀ j, ¬ kJ b j) → mm b = m b := fun b hb k => funext fun j => hj b j (by omega) (k j)
  have kj : ∀ b j : Int, (124 ≤ b ∧ b ≤ 129) ∨ (163 ≤ b ∧ b ≤ 170) → ¬ kJ b j := fun b j h => kJ_no (by omega)
  have E11 : mm 123 11 = m 5 2 := (hj 123 11 (by decide) (by unfold kJ; omega)).trans b2.2.2
  have E5 : mm 123 5 = m 5 3 := (hj 123 5 (by decide) (by unfold kJ; omega)).trans b3.2.2
  have E80 : mm 123 80 = 1 := by rw [hj 123 80 (by decide) (by unfold kJ; omega), e1b, if_neg on]
  have E82 : mm 123 82 = m 100 1 := (hj 123 82 (by decide) (by unfold kJ; omega)).trans e2
  have E83 : mm 123 83 = m 85 0 := (hj 123 83 (by decide) (by unfold kJ; omega)).trans h1.2.2
  have e125 : mm 125 = m 125 := r123 125 (by decide) (fun j => kj _ _ (by omega))
  have e126 : mm 126 = m 126 := r123 126 (by decide) (fun j => kj _ _ (by omega))
  have e127 : mm 127 = m 127 := r123 127 (by decide) (fun j => kj _ _ (by omega))
  have e128 : mm 128 = m 128 := r123 128 (by decide) (fun j => kj _ _ (by omega))
  have e129 : mm 129 = m 129 := r123 129 (by decide) (fun j => kj _ _ (by omega))
  have e163 : mm 163 = m 163 := r123 163 (by decide) (fun j => kj _ _ (by omega))
  have e164 : mm 164 = m 164 := r123 164 (by decide) (fun j => kj _ _ (by omega))
  have e165 : mm 165 = m 165 := r123 165 (by decide) (fun j => kj _ _ (by omega))
  have e166 : mm 166 = m 166 := r123 166 (by decide) (fun j => kj _ _ (by omega))
  -- know
  have rk := fun Q => @r_know q c s (m 5 3) (km_up mm 123 2 0) ⟨b3.1, b3.2.1⟩ (by intro i i0 i1; rw [km_up_ne (by omega), e127]; exact (b5 i i0 i1).1) Q
  obtain ⟨c1, c2⟩ := kI_cnt hb b3.1 (Int.le_refl _) (C := mm 130)
  obtain ⟨Y0, hY0⟩ : ∃ Y : km_Mm, Y = km_sr (km_up mm 123 2 0) 130 (kq_kn (km_up mm 123 2 0 126) (km_up mm 123 2 0 127) (m 5 3).toNat (kq_k0 (m 5 3) (km_up mm 123 2 0 130) 0)) := ⟨_, rfl⟩
  rw [← hY0] at rk
  have f0 : ∀ b j : Int, ¬ (b = 123 ∧ j = 2) → b ≠ 130 → Y0 b j = mm b j := fun b j z1 z2 => by rw [hY0, km_sr_o z2, km_up_ne z1]
  have fr : kI_fresh m Y0 (m 5 3) := by
    rw [hY0]
    unfold kI_fresh
    simp (config := { decide := true }) only [e126, e127, e128, e129, Int.add_sub_cancel, true_or, or_true, false_or, or_false, false_and, and_false, if_true, if_false, km_sr_sf, km_sr_of, km_up_of, km_sr_us, km_sr_uo, km_sr_sr, km_sr_fl, km_sr_flo, km_up_up, km_up_lt, km_lay, km_unL, km_up_o, km_upx_i, km_upx_s, km_fl2_o, km_is, Option.some.injEq, Sum.inl.injEq, Sum.inr.injEq, Option.toList_some, Option.toList_none, List.cons_append, List.nil_append, ne_eq, true_and, and_true, and_self, not_true_eq_false, not_false_eq_true, true_implies, false_implies, reduceCtorEq]
    exact ⟨⟨b3.1, Int.le_refl _⟩, E5, c1, c2⟩
  -- couples
  obtain ⟨Y1, p1, g1, g2, g3⟩ := @lp_bed24 q c s m Y0 hb fr hw ((f0 _ _ (by omega) (by omega)).trans E82) ((f0 _ _ (by omega) (by omega)).trans E11) 10 0 none Y0 (by omega) (by decide) (fun _ _ _ => rfl) (fun x y x0 y0 y1 xa => by omega)
  have f1 : ∀ b j : Int, ¬ (b = 123 ∧ j = 2) → b ≠ 130 → b ≠ 173 → Y1 b j = mm b j := fun b j z1 z2 z3 => (g1 b j z3).trans (f0 b j z1 z2)
  have f1' : ∀ b : Int, b ≠ 123 → b ≠ 130 → b ≠ 173 → Y1 b = mm b := fun b z1 z2 z3 => funext fun j => f1 b j (fun w => z1 w.1) z2 z3
  have Y183 : Y1 123 83 = m 85 0 := (f1 _ _ (by omega) (by omega) (by omega)).trans E83
  have h6' : ∀ i : Int, 0 ≤ i → i < 3 → 0 ≤ m 89 i ∧ m 89 i ≤ 99 := fun i i0 i1 => (h6 i i0 i1).2
  have Y165 : ∀ i : Int, 0 ≤ i → i < 3 → Y1 165 i = m 89 i := fun i i0 i1 => by rw [f1' 165 (by decide) (by decide) (by decide), e165]; exact (h6 i i0 i1).1
  have val := fun (r t : Int) (ht : ksb t (m 100 1)) => @kbed_val m Y1 r t hb hT hE on ht (by rw [f1' 125 (by decide) (by decide) (by decide), e125]) Y165 (fun k k0 k1 => by rw [f1' 166 (by decide) (by decide) (by decide), e166]; exact (e7 k k0 (by omega)).2.1 on k1) g2
  -- the costs of all sets
  obtain ⟨Y2, p2, a1, a2, a3⟩ := @lp_bed110 q c s Y1 (m 88) (m 100 1) (fun r t => @ite Int (ksb t (m 100 1)) (Classical.propDecidable _) (@ite Int (Y1 163 r < km_pop t ∨ kfd (m 88) t) (Classical.propDecidable _) (-1) (ksm (kgs Y1 r t) 10 + Y1 165 0 * ksm (kgl Y1 t) 10 * (km_pop t - ksm (kgl Y1 t) 10))) (-1)) hw ((f1 _ _ (by omega) (by omega) (by omega)).trans E82) (by rw [Y183]; omega) (fun a b a0 a1 b0 b1 => ((h5 a a0 a1).2 b b0 b1).2.1) (fun a b b0 ba a1 => by rw [f1' 164 (by decide) (by decide) (by decide), e164]; exact ((h5 a (by omega) a1).2 b b0 (by omega)).1) (fun i i0 i1 => by rw [Y165 i i0 i1]; exact h6' i i0 i1) (fun t k ht k0 k1 => (val 0 t ht).1 k k0 k1) (fun r t _ _ _ => rfl) (m 85 0).toNat 0 p1 Y1 (by rw [Y183]; omega) (by decide) (fun _ _ _ => rfl) (fun x t' x0 ht' xr => by omega)
  rw [Y183] at a2 a3
  have W : ∀ p t : Int, 0 ≤ p → p < m 85 0 → ksb t (m 100 1) → Y2 171 (1024 * p + t) = @ite Int (m 86 p < km_pop t ∨ kfd (m 88) t) (Classical.propDecidable _) (-1) (kbX m p t + m 89 1 * kVC m t) := fun p t p0 p1 ht => by
    rw [a2 p t p0 (ksb_ten hw ht) p1, if_pos ht, (val p t ht).2.1, f1' 163 (by decide) (by decide) (by decide), e163, (h2 p p0 p1).1]
  have Wb : ∀ r t : Int, 0 ≤ r → r < (((m 85 0).toNat : Nat) : Int) → ten t → Y2 171 (1024 * r + t) ≤ 8000 ∧ -1 ≤ Y2 171 (1024 * r + t) := fun r t r0 r1 tt => by
    rw [nn] at r1
    by_cases z : ksb t (m 100 1)
    · have vb := (val r t z).2.2 h6'
      rw [W r t r0 r1 z]
      split <;> omega
    · rw [a2 r t r0 tt r1, if_neg z]; omega
  have rel : ∀ p t : Int, 0 ≤ p → p < m 85 0 → ksb t (m 100 1) → (kbFt m p t ↔ klF (Y2 171) p t) ∧ (kbFt m p t → klX (Y2 171) 1 p t = kbX m p t + m 89 1 * kVC m t) := fun p t p0 p1 ht => by
    have vb := (val p t ht).2.2 h6'
    have w := W p t p0 p1 ht
    unfold kbFt klF klX
    by_cases z : m 86 p < km_pop t ∨ kfd (m 88) t
    · rw [if_pos z] at w
      rw [w]
      refine ⟨⟨fun u => ?_, fun u => by omega⟩, fun u => ?_⟩
      · rcases z with z | z
        · have := u.2.1; omega
        · exact absurd z u.2.2
      · rcases z with z | z
        · have := u.2.1; omega
        · exact absurd z u.2.2
    · rw [if_neg z] at w
      rw [w]
      refine ⟨⟨fun u => by omega, fun u => ⟨ht, ?_, fun y => z (Or.inr y)⟩⟩, fun u => by omega⟩
      by_cases y : m 86 p < km_pop t
      · exact absurd (Or.inl y) z
      · omega
  have hV : ∀ S t : Int, ksb S (m 100 1) → ksb t S → (fun t => m 89 1 * kVC m t) S = (fun t => m 89 1 * kVC m t) t + (fun t => m 89 1 * kVC m t) (S - t) := fun S t hS ht => by
    show m 89 1 * kVC m S = m 89 1 * kVC m t + m 89 1 * kVC m (S - t)
    rw [kVC_add (ksb_ten hw hS) ht, Int.mul_add]
  have hV0 : (fun t => m 89 1 * kVC m t) 0 = 0 := by show m 89 1 * kVC m 0 = 0; rw [kVC_0, Int.mul_zero]
  have Y282 : Y2 123 82 = m 100 1 := (a1 _ _ (by decide)).trans ((f1 _ _ (by omega) (by omega) (by omega)).trans E82)
  obtain ⟨Y3, d1, d2, d3⟩ := @md_laid q c s Y2 0 1000000 1 (m 85 0).toNat (Or.inl ⟨rfl, rfl, rfl⟩) (by omega) (by rw [Y282]; exact hw) Wb
  rw [nn, Y282] at d3
  have f3 : ∀ b j : Int, ¬ (b = 123 ∧ j = 2) → ¬ (b = 130 ∨ (171 ≤ b ∧ b ≤ 173)) → Y3 b j = mm b j := fun b j z1 z2 => (d1 b j (by omega)).trans ((a1 b j (by omega)).trans (f1 b j z1 (by omega) (by omega)))
  have Y382 : Y3 123 82 = m 100 1 := (d1 _ _ (by decide)).trans Y282
  have Y383 : Y2 123 83 = m 85 0 := (a1 _ _ (by decide)).trans Y183
  have top := d2 0 (Nat.zero_le _) (m 100 1) hw
  rw [Nat.sub_zero, show 1024 * ((0 : Nat) : Int) + m 100 1 = m 100 1 by omega] at top
  have ch := fun v => kdD_ch2 (x := kbX m) (y := klX (Y2 171) 1) (f := kbFt m) (g := klF (Y2 171)) (V := fun t => m 89 1 * kVC m t) (N := m 85 0) hw hV hV0 rel (m 85 0).toNat 0 (m 100 1) v (by decide) (by omega) (ksb_rf hw)
  constructor
  · intro v hv cc hc
    have hy := (ch v).mp hv
    have kb := klD_b (mo := 0) (no := 1000000) (Or.inl ⟨rfl, rfl, rfl⟩) hy
    have vt : Y3 172 (m 100 1) = v + m 89 1 * kVC m (m 100 1) := by
      rcases top with ⟨v', t1, t2⟩ | ⟨t1, t2⟩
      · have := kdD_un (show kdD (klX (Y2 171) 1) (klF (Y2 171)) (m 85 0).toNat 0 (m 100 1) v' from t1) hy
        rw [t2, this, Int.one_mul]
      · exact absurd ⟨_, hy⟩ t1
    have hc2 := kdS_ch2 (x := kbX m) (y := klX (Y2 171) 1) (f := kbFt m) (g := klF (Y2 171)) (V := fun t => m 89 1 * kVC m t) (N := m 85 0) hw hV hV0 rel (m 85 0).toNat 0 (m 100 1) (by decide) (by omega) (ksb_rf hw) hc
    obtain ⟨Y4, i1, i2, i3⟩ := @lp_bed197 q c s Y3 (v + m 89 1 * kVC m (m 100 1)) (m 100 1) 10 0 Y3 (by omega) (by decide) (fun _ _ _ => rfl) (fun j j0 j1 => by omega)
    obtain ⟨Y5, k1, k2, k3⟩ := @lp_bed218 q c s Y3 (Y2 171) cc (v + m 89 1 * kVC m (m 100 1)) (m 100 1) (m 85 0).toNat (by omega) ((d1 _ _ (by decide)).trans (Y383.trans nn.symm)) hw (funext fun j => d1 171 j (by decide)) Wb d2 (m 85 0).toNat 0 (m 100 1) none none Y4 (by omega) hw hc2 i1 i2
    rw [show ((0 : Nat) : Int) = 0 from rfl] at k3
    refine ⟨Y5, fun b j z1 z2 z3 => (k1 b j z1).trans (f3 b j z2 z3), k2, by omega, fun Q => ?_⟩
    have lt : v + m 89 1 * kVC m (m 100 1) < 1000000 := by omega
    rw [e_X12_bed]
    simp (config := { decide := true }) (disch := first | decide | assumption | omega | (simp (config := { decide := true }) only [km_sr_sf, km_sr_of, km_up_of, km_up_o, km_upx_i, km_upx_s, km_fl2_o, ne_eq, not_true_eq_false, not_false_eq_true] <;> omega) | fail) only [g_X12_bed, E80, E5, rk, g3, ka_lt, ka_le, ka_nlt, ka_nle, ka_ne, ka_eq, Int.add_sub_cancel, true_or, or_true, false_or, or_false, false_and, and_false, if_true, if_false, ka_lo, ka_hi, ka_nn, km_sr_sf, km_sr_of, km_up_of, km_sr_us, km_sr_uo, km_sr_sr, km_sr_fl, km_sr_flo, km_up_up, km_up_lt, km_lay, km_unL, km_up_o, km_upx_i, km_upx_s, km_fl2_o, km_is, Option.some.injEq, Sum.inl.injEq, Sum.inr.injEq, Option.toList_some, Option.toList_none, List.cons_append, List.nil_append, ne_eq, true_and, and_true, and_self, not_true_eq_false, not_false_eq_true, true_implies, false_implies, reduceCtorEq]
    rw [g_X12_bed_24]
    simp (config := { decide := true }) (disch := first | decide | assumption | omega | (simp (config := { decide := true }) only [km_sr_sf, km_sr_of, km_up_of, km_up_o, km_upx_i, km_upx_s, km_fl2_o, ne_eq, not_true_eq_false, not_false_eq_true] <;> omega) | fail) only [g_X12_bed, a3, ka_lt, ka_le, ka_nlt, ka_nle, ka_ne, ka_eq, Int.add_sub_cancel, true_or, or_true, false_or, or_false, false_and, and_false, if_true, if_false, ka_lo, ka_hi, ka_nn, km_sr_sf, km_sr_of, km_up_of, km_sr_us, km_sr_uo, km_sr_sr, km_sr_fl, km_sr_flo, km_up_up, km_up_lt, km_lay, km_unL, km_up_o, km_upx_i, km_upx_s, km_fl2_o, km_is, Option.some.injEq, Sum.inl.injEq, Sum.inr.injEq, Option.toList_some, Option.toList_none, List.cons_append, List.nil_append, ne_eq, true_and, and_true, and_self, not_true_eq_false, not_false_eq_true, true_implies, false_implies, reduceCtorEq]
    rw [g_X12_bed_110]
    simp (config := { decide := true }) (disch := first | decide | assumption | omega | (simp (config := { decide := true }) only [km_sr_sf, km_sr_of, km_up_of, km_up_o, km_upx_i, km_upx_s, km_fl2_o, ne_eq, not_true_eq_false, not_false_eq_true] <;> omega) | fail) only [g_X12_bed, Y383, Int.lt_irrefl, d3, vt, lt, Y382, i3, k3, ka_lt, ka_le, ka_nlt, ka_nle, ka_ne, ka_eq, Int.add_sub_cancel, true_or, or_true, false_or, or_false, false_and, and_false, if_true, if_false, ka_lo, ka_hi, ka_nn, km_sr_sf, km_sr_of, km_up_of, km_sr_us, km_sr_uo, km_sr_sr, km_sr_fl, km_sr_flo, km_up_up, km_up_lt, km_lay, km_unL, km_up_o, km_upx_i, km_upx_s, km_fl2_o, km_is, Option.some.injEq, Sum.inl.injEq, Sum.inr.injEq, Option.toList_some, Option.toList_none, List.cons_append, List.nil_append, ne_eq, true_and, and_true, and_self, not_true_eq_false, not_false_eq_true, true_implies, false_implies, reduceCtorEq]
  · intro hv
    have hy : ¬ ∃ v, kdD (klX (Y2 171) 1) (klF (Y2 171)) (m 85 0).toNat 0 (m 100 1) v := fun ⟨v, w⟩ => hv ⟨v - m 89 1 * kVC m (m 100 1), (ch _).mpr (by show kdD _ _ _ _ _ (v - m 89 1 * kVC m (m 100 1) + m 89 1 * kVC m (m 100 1)); rw [Int.sub_add_cancel]; exact w)⟩
    have vt : Y3 172 (m 100 1) = 1000000 := by
      rcases top with ⟨v', t1, t2⟩ | ⟨t1, t2⟩
      · exact absurd ⟨_, t1⟩ hy
      · exact t2
    refine ⟨Y3, f3, fun Q => ?_⟩
    rw [e_X12_bed]
    simp (config := { decide := true }) (disch := first | decide | assumption | omega | (simp (config := { decide := true }) only [km_sr_sf, km_sr_of, km_up_of, km_up_o, km_upx_i, km_upx_s, km_fl2_o, ne_eq, not_true_eq_false, not_false_eq_true] <;> omega) | fail) only [g_X12_bed, E80, E5, rk, g3, ka_lt, ka_le, ka_nlt, ka_nle, ka_ne, ka_eq, Int.add_sub_cancel, true_or, or_true, false_or, or_false, false_and, and_false, if_true, if_false, ka_lo, ka_hi, ka_nn, km_sr_sf, km_sr_of, km_up_of, km_sr_us, km_sr_uo, km_sr_sr, km_sr_fl, km_sr_flo, km_up_up, km_up_lt, km_lay, km_unL, km_up_o, km_upx_i, km_upx_s, km_fl2_o, km_is, Option.some.injEq, Sum.inl.injEq, Sum.inr.injEq, Option.toList_some, Option.toList_none, List.cons_append, List.nil_append, ne_eq, true_and, and_true, and_self, not_true_eq_false, not_false_eq_true, true_implies, false_implies, reduceCtorEq]
    rw [g_X12_bed_24]
    simp (config := { decide := true }) (disch := first | decide | assumption | omega | (simp (config := { decide := true }) only [km_sr_sf, km_sr_of, km_up_of, km_up_o, km_upx_i, km_upx_s, km_fl2_o, ne_eq, not_true_eq_false, not_false_eq_true] <;> omega) | fail) only [g_X12_bed, a3, ka_lt, ka_le, ka_nlt, ka_nle, ka_ne, ka_eq, Int.add_sub_cancel, true_or, or_true, false_or, or_false, false_and, and_false, if_true, if_false, ka_lo, ka_hi, ka_nn, km_sr_sf, km_sr_of, km_up_of, km_sr_us, km_sr_uo, km_sr_sr, km_sr_fl, km_sr_flo, km_up_up, km_up_lt, km_lay, km_unL, km_up_o, km_upx_i, km_upx_s, km_fl2_o, km_is, Option.some.injEq, Sum.inl.injEq, Sum.inr.injEq, Option.toList_some, Option.toList_none, List.cons_append, List.nil_append, ne_eq, true_and, and_true, and_self, not_true_eq_false, not_false_eq_true, true_implies, false_implies, reduceCtorEq]
    rw [g_X12_bed_110]
    simp (config := { decide := true }) (disch := first | decide | assumption | omega | (simp (config := { decide := true }) only [km_sr_sf, km_sr_of, km_up_of, km_up_o, km_upx_i, km_upx_s, km_fl2_o, ne_eq, not_true_eq_false, not_false_eq_true] <;> omega) | fail) only [g_X12_bed, Y383, Int.lt_irrefl, d3, vt, Int.lt_irrefl, ka_lt, ka_le, ka_nlt, ka_nle, ka_ne, ka_eq, Int.add_sub_cancel, true_or, or_true, false_or, or_false, false_and, and_false, if_true, if_false, ka_lo, ka_hi, ka_nn, km_sr_sf, km_sr_of, km_up_of, km_sr_us, km_sr_uo, km_sr_sr, km_sr_fl, km_sr_flo, km_up_up, km_up_lt, km_lay, km_unL, km_up_o, km_upx_i, km_upx_s, km_fl2_o, km_is, Option.some.injEq, Sum.inl.injEq, Sum.inr.injEq, Option.toList_some, Option.toList_none, List.cons_append, List.nil_append, ne_eq, true_and, and_true, and_self, not_true_eq_false, not_false_eq_true, true_implies, false_implies, reduceCtorEq]

