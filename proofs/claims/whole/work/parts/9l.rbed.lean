/-! ===== the reference beds ===== -/
theorem md_couple {q : Nat × Int × Int × Int × Int} {c s : Nat} {m X : km_Mm} {a b : Int} (hb : kI_book m) (hf : kI_fresh m X (m 5 3)) (Q : Option km_V → km_Al → km_Mm → Prop) : km_E M_X12_areCouple [.inr (.inr 123), .inl a, .inl b, .inl (m 5 2)] (km_A0 q c s) X Q ↔ Q (some (.inl (@ite Int (kLc m (m 5 3) a b (m 5 2)) (Classical.propDecidable _) 1 0))) (km_A0 q c s) X := by
  have b3 := hb.2.2.1
  have e5 := hf.2.2.2.2.2.1
  have k := @kI_cp m X (m 5 3) a b (m 5 2) hb hf
  rw [r_mareCouple (by omega)]
  have := @km_ite_iff _ _ inferInstance (Classical.propDecidable _) 1 0 k
  rw [this]
noncomputable def kVc (m : km_Mm) (a b : Int) : Int := @ite Int (a ≠ b ∧ tb (m 100 1) a = true ∧ tb (m 100 1) b = true ∧ kLc m (m 5 3) a b (m 5 2)) (Classical.propDecidable _) 1 0
theorem lp_bed32 {q : Nat × Int × Int × Int × Int} {c s : Nat} {m Y : km_Mm} (hb : kI_book m) (hf : kI_fresh m Y (m 5 3)) (hw : ten (m 100 1)) (e82 : Y 123 82 = m 100 1) (e11 : Y 123 11 = m 5 2) {a : Int} (a0 : 0 ≤ a) (a1 : a < 10) :
    ∀ (N : Nat) (b : Int) (X : km_Mm), b + N = 10 → 0 ≤ b → (∀ e j : Int, e ≠ 173 → X e j = Y e j) → (∀ x y : Int, 0 ≤ x → 0 ≤ y → y < 10 → x < a ∨ (x = a ∧ y < b) → X 173 (10 * x + y) = kVc m x y) →
    ∃ M' : km_Mm, (∀ e j : Int, e ≠ 173 → M' e j = Y e j) ∧ (∀ x y : Int, 0 ≤ x → 0 ≤ y → y < 10 → x < a + 1 → M' 173 (10 * x + y) = kVc m x y) ∧ ∀ Q : Option km_V → km_Al → km_Mm → Prop, (km_G M_X12_bed 32 [some (.inr (.inr 123)), some (.inl a), some (.inl b), none, none, none] [] (km_A0 q c s) X Q ↔ km_G M_X12_bed 24 [some (.inr (.inr 123)), some (.inl (a + 1)), some (.inl 10), none, none, none] [] (km_A0 q c s) M' Q) := by
  intro N
  have w2 : m 100 1 < 2147483648 := by unfold ten at hw; omega
  induction N with
  | zero =>
    intro b X h b0 f1 f2
    have e : b = 10 := by omega
    subst e
    refine ⟨X, f1, fun x y x0 y0 y1 xa => f2 x y x0 y0 y1 (by omega), fun Q => ?_⟩
    rw [g_X12_bed_32]
    simp (config := { decide := true }) (disch := first | decide | assumption | omega | (simp (config := { decide := true }) only [km_sr_sf, km_sr_of, km_up_of, km_up_o, km_upx_i, km_upx_s, km_fl2_o, ne_eq, not_true_eq_false, not_false_eq_true] <;> omega) | fail) only [g_X12_bed, ka_lt, ka_le, ka_nlt, ka_nle, ka_ne, ka_eq, Int.add_sub_cancel, true_or, or_true, false_or, or_false, false_and, and_false, if_true, if_false, ka_lo, ka_hi, ka_nn, km_sr_sf, km_sr_of, km_up_of, km_sr_us, km_sr_uo, km_sr_sr, km_sr_fl, km_sr_flo, km_up_up, km_up_lt, km_lay, km_unL, km_up_o, km_upx_i, km_upx_s, km_fl2_o, km_is, Option.some.injEq, Sum.inl.injEq, Sum.inr.injEq, Option.toList_some, Option.toList_none, List.cons_append, List.nil_append, ne_eq, true_and, and_true, and_self, not_true_eq_false, not_false_eq_true, true_implies, false_implies, reduceCtorEq]
  | succ N ih =>
    intro b X h b0 f1 f2
    have X82 : X 123 82 = m 100 1 := (f1 _ _ (by decide)).trans e82
    have X11 : X 123 11 = m 5 2 := (f1 _ _ (by decide)).trans e11
    have hfX : kI_fresh m X (m 5 3) := by
      unfold kI_fresh at *
      have r : ∀ e : Int, e ≠ 173 → X e = Y e := fun e he => funext fun j => f1 e j he
      rw [r 126 (by decide), r 127 (by decide), r 128 (by decide), r 129 (by decide), r 123 (by decide), r 130 (by decide)]
      exact hf
    have cp := fun Q => @md_couple q c s m X a b hb hfX Q
    have ba := ks_bit (x := m 100 1) (k := a) hw.1 w2 a0 (by omega)
    have bb := ks_bit (x := m 100 1) (k := b) hw.1 w2 b0 (by omega)
    obtain ⟨M', d1, d2, d3⟩ := ih (b + 1) (km_up X 173 (10 * a + b) (kVc m a b)) (by omega) (by omega) (fun e j z => by rw [km_up_ne (fun w => z w.1)]; exact f1 e j z) (fun x y x0 y0 y1 xy => by
      by_cases z : x = a ∧ y = b
      · rw [km_up_eq ⟨rfl, by rw [z.1, z.2]⟩, z.1, z.2]
      · rw [km_up_ne (fun w => by omega)]; exact f2 x y x0 y0 y1 (by omega))
    refine ⟨M', d1, d2, fun Q => ?_⟩
    rw [← d3 Q, g_X12_bed_32]
    unfold kVc
    by_cases z1 : a = b
    · rw [if_neg (fun w => w.1 z1)]
      simp (config := { decide := true }) (disch := first | decide | assumption | omega | (simp (config := { decide := true }) only [km_sr_sf, km_sr_of, km_up_of, km_up_o, km_upx_i, km_upx_s, km_fl2_o, ne_eq, not_true_eq_false, not_false_eq_true] <;> omega) | fail) only [g_X12_bed, z1, ka_lt, ka_le, ka_nlt, ka_nle, ka_ne, ka_eq, Int.add_sub_cancel, true_or, or_true, false_or, or_false, false_and, and_false, if_true, if_false, ka_lo, ka_hi, ka_nn, km_sr_sf, km_sr_of, km_up_of, km_sr_us, km_sr_uo, km_sr_sr, km_sr_fl, km_sr_flo, km_up_up, km_up_lt, km_lay, km_unL, km_up_o, km_upx_i, km_upx_s, km_fl2_o, km_is, Option.some.injEq, Sum.inl.injEq, Sum.inr.injEq, Option.toList_some, Option.toList_none, List.cons_append, List.nil_append, ne_eq, true_and, and_true, and_self, not_true_eq_false, not_false_eq_true, true_implies, false_implies, reduceCtorEq]
    · by_cases z2 : tb (m 100 1) a = true
      · rw [if_pos z2] at ba
        by_cases z3 : tb (m 100 1) b = true
        · rw [if_pos z3] at bb
          by_cases z4 : kLc m (m 5 3) a b (m 5 2)
          · rw [if_pos z4] at cp
            rw [if_pos ⟨z1, z2, z3, z4⟩]
            simp (config := { decide := true }) (disch := first | decide | assumption | omega | (simp (config := { decide := true }) only [km_sr_sf, km_sr_of, km_up_of, km_up_o, km_upx_i, km_upx_s, km_fl2_o, ne_eq, not_true_eq_false, not_false_eq_true] <;> omega) | fail) only [g_X12_bed, z1, X82, X11, ba, bb, cp, ka_lt, ka_le, ka_nlt, ka_nle, ka_ne, ka_eq, Int.add_sub_cancel, true_or, or_true, false_or, or_false, false_and, and_false, if_true, if_false, ka_lo, ka_hi, ka_nn, km_sr_sf, km_sr_of, km_up_of, km_sr_us, km_sr_uo, km_sr_sr, km_sr_fl, km_sr_flo, km_up_up, km_up_lt, km_lay, km_unL, km_up_o, km_upx_i, km_upx_s, km_fl2_o, km_is, Option.some.injEq, Sum.inl.injEq, Sum.inr.injEq, Option.toList_some, Option.toList_none, List.cons_append, List.nil_append, ne_eq, true_and, and_true, and_self, not_true_eq_false, not_false_eq_true, true_implies, false_implies, reduceCtorEq]
          · rw [if_neg z4] at cp
            rw [if_neg (fun w => z4 w.2.2.2)]
            simp (config := { decide := true }) (disch := first | decide | assumption | omega | (simp (config := { decide := true }) only [km_sr_sf, km_sr_of, km_up_of, km_up_o, km_upx_i, km_upx_s, km_fl2_o, ne_eq, not_true_eq_false, not_false_eq_true] <;> omega) | fail) only [g_X12_bed, z1, X82, X11, ba, bb, cp, ka_lt, ka_le, ka_nlt, ka_nle, ka_ne, ka_eq, Int.add_sub_cancel, true_or, or_true, false_or, or_false, false_and, and_false, if_true, if_false, ka_lo, ka_hi, ka_nn, km_sr_sf, km_sr_of, km_up_of, km_sr_us, km_sr_uo, km_sr_sr, km_sr_fl, km_sr_flo, km_up_up, km_up_lt, km_lay, km_unL, km_up_o, km_upx_i, km_upx_s, km_fl2_o, km_is, Option.some.injEq, Sum.inl.injEq, Sum.inr.injEq, Option.toList_some, Option.toList_none, List.cons_append, List.nil_append, ne_eq, true_and, and_true, and_self, not_true_eq_false, not_false_eq_true, true_implies, false_implies, reduceCtorEq]
        · rw [if_neg z3] at bb
          rw [if_neg (fun w => z3 w.2.2.1)]
          simp (config := { decide := true }) (disch := first | decide | assumption | omega | (simp (config := { decide := true }) only [km_sr_sf, km_sr_of, km_up_of, km_up_o, km_upx_i, km_upx_s, km_fl2_o, ne_eq, not_true_eq_false, not_false_eq_true] <;> omega) | fail) only [g_X12_bed, z1, X82, ba, bb, ka_lt, ka_le, ka_nlt, ka_nle, ka_ne, ka_eq, Int.add_sub_cancel, true_or, or_true, false_or, or_false, false_and, and_false, if_true, if_false, ka_lo, ka_hi, ka_nn, km_sr_sf, km_sr_of, km_up_of, km_sr_us, km_sr_uo, km_sr_sr, km_sr_fl, km_sr_flo, km_up_up, km_up_lt, km_lay, km_unL, km_up_o, km_upx_i, km_upx_s, km_fl2_o, km_is, Option.some.injEq, Sum.inl.injEq, Sum.inr.injEq, Option.toList_some, Option.toList_none, List.cons_append, List.nil_append, ne_eq, true_and, and_true, and_self, not_true_eq_false, not_false_eq_true, true_implies, false_implies, reduceCtorEq]
      · rw [if_neg z2] at ba
        rw [if_neg (fun w => z2 w.2.1)]
        simp (config := { decide := true }) (disch := first | decide | assumption | omega | (simp (config := { decide := true }) only [km_sr_sf, km_sr_of, km_up_of, km_up_o, km_upx_i, km_upx_s, km_fl2_o, ne_eq, not_true_eq_false, not_false_eq_true] <;> omega) | fail) only [g_X12_bed, z1, X82, ba, ka_lt, ka_le, ka_nlt, ka_nle, ka_ne, ka_eq, Int.add_sub_cancel, true_or, or_true, false_or, or_false, false_and, and_false, if_true, if_false, ka_lo, ka_hi, ka_nn, km_sr_sf, km_sr_of, km_up_of, km_sr_us, km_sr_uo, km_sr_sr, km_sr_fl, km_sr_flo, km_up_up, km_up_lt, km_lay, km_unL, km_up_o, km_upx_i, km_upx_s, km_fl2_o, km_is, Option.some.injEq, Sum.inl.injEq, Sum.inr.injEq, Option.toList_some, Option.toList_none, List.cons_append, List.nil_append, ne_eq, true_and, and_true, and_self, not_true_eq_false, not_false_eq_true, true_implies, false_implies, reduceCtorEq]
theorem lp_bed24 {q : Nat × Int × Int × Int × Int} {c s : Nat} {m Y : km_Mm} (hb : kI_book m) (hf : kI_fresh m Y (m 5 3)) (hw : ten (m 100 1)) (e82 : Y 123 82 = m 100 1) (e11 : Y 123 11 = m 5 2) :
    ∀ (N : Nat) (a : Int) (o : Option km_V) (X : km_Mm), a + N = 10 → 0 ≤ a → (∀ e j : Int, e ≠ 173 → X e j = Y e j) → (∀ x y : Int, 0 ≤ x → 0 ≤ y → y < 10 → x < a → X 173 (10 * x + y) = kVc m x y) →
    ∃ (M' : km_Mm) (p : Option km_V), (∀ e j : Int, e ≠ 173 → M' e j = Y e j) ∧ (∀ x y : Int, 0 ≤ x → 0 ≤ y → y < 10 → x < 10 → M' 173 (10 * x + y) = kVc m x y) ∧ ∀ Q : Option km_V → km_Al → km_Mm → Prop, (km_G M_X12_bed 24 [some (.inr (.inr 123)), some (.inl a), o, none, none, none] [] (km_A0 q c s) X Q ↔ km_G M_X12_bed 24 [some (.inr (.inr 123)), some (.inl 10), p, none, none, none] [] (km_A0 q c s) M' Q) := by
  intro N
  induction N with
  | zero =>
    intro a o X h a0 f1 f2
    have e : a = 10 := by omega
    subst e
    exact ⟨X, o, f1, f2, fun Q => Iff.rfl⟩
  | succ N ih =>
    intro a o X h a0 f1 f2
    obtain ⟨M1, c1, c2, c3⟩ := @lp_bed32 q c s m Y hb hf hw e82 e11 a a0 (by omega) 10 0 X (by omega) (by decide) f1 (fun x y x0 y0 y1 xy => f2 x y x0 y0 y1 (by omega))
    obtain ⟨M', p, d1, d2, d3⟩ := ih (a + 1) (some (.inl 10)) M1 (by omega) (by omega) c1 c2
    refine ⟨M', p, d1, d2, fun Q => ?_⟩
    rw [← d3 Q, g_X12_bed_24]
    simp (config := { decide := true }) (disch := first | decide | assumption | omega | (simp (config := { decide := true }) only [km_sr_sf, km_sr_of, km_up_of, km_up_o, km_upx_i, km_upx_s, km_fl2_o, ne_eq, not_true_eq_false, not_false_eq_true] <;> omega) | fail) only [g_X12_bed, c3, ka_lt, ka_le, ka_nlt, ka_nle, ka_ne, ka_eq, Int.add_sub_cancel, true_or, or_true, false_or, or_false, false_and, and_false, if_true, if_false, ka_lo, ka_hi, ka_nn, km_sr_sf, km_sr_of, km_up_of, km_sr_us, km_sr_uo, km_sr_sr, km_sr_fl, km_sr_flo, km_up_up, km_up_lt, km_lay, km_unL, km_up_o, km_upx_i, km_upx_s, km_fl2_o, km_is, Option.some.injEq, Sum.inl.injEq, Sum.inr.injEq, Option.toList_some, Option.toList_none, List.cons_append, List.nil_append, ne_eq, true_and, and_true, and_self, not_true_eq_false, not_false_eq_true, true_implies, false_implies, reduceCtorEq]
/-- the costs of all sets in a ROOM -/
theorem lp_bed120 {q : Nat × Int × Int × Int × Int} {c s : Nat} {Y : km_Mm} {F : Int → Int} {w r : Int} {V : Int → Int → Int} (hw : ten w) (e82 : Y 123 82 = w) (hs : ∀ a b : Int, 0 ≤ a → a < 10 → 0 ≤ b → b < 10 → tb (F b) a = tb (F a) b) (hf : ∀ a b : Int, 0 ≤ b → b < a → a < 10 → Y 164 (10 * a + b) = if tb (F a) b = true then 1 else 0) (hp : ∀ i : Int, 0 ≤ i → i < 3 → 0 ≤ Y 165 i ∧ Y 165 i ≤ 99) (hl : ∀ t k : Int, ksb t w → 0 ≤ k → k < 10 → 0 ≤ kgl Y t k ∧ kgl Y t k ≤ 1) (r0 : 0 ≤ r) (r1 : r < 4)
    (hV : ∀ t : Int, ten t → V r t = @ite Int (ksb t w) (Classical.propDecidable _) (@ite Int (Y 163 r < km_pop t ∨ kfd F t) (Classical.propDecidable _) (-1) (ksm (kgs Y r t) 10 + Y 165 0 * ksm (kgl Y t) 10 * (km_pop t - ksm (kgl Y t) 10))) (-1)) :
    ∀ (N : Nat) (t : Int) (X : km_Mm), t + N = 1024 → 0 ≤ t → (∀ e j : Int, e ≠ 171 → X e j = Y e j) → (∀ x t' : Int, 0 ≤ x → ten t' → x < r ∨ (x = r ∧ t' < t) → X 171 (1024 * x + t') = V x t') →
    ∃ M' : km_Mm, (∀ e j : Int, e ≠ 171 → M' e j = Y e j) ∧ (∀ x t' : Int, 0 ≤ x → ten t' → x < r + 1 → M' 171 (1024 * x + t') = V x t') ∧ ∀ Q : Option km_V → km_Al → km_Mm → Prop, (km_G M_X12_bed 120 [some (.inr (.inr 123)), some (.inl r), some (.inl t), none, none, none] [] (km_A0 q c s) X Q ↔ km_G M_X12_bed 110 [some (.inr (.inr 123)), some (.inl (r + 1)), some (.inl 1024), none, none, none] [] (km_A0 q c s) M' Q) := by
  intro N
  induction N with
  | zero =>
    intro t X h t0 f1 f2
    have e : t = 1024 := by omega
    subst e
    refine ⟨X, f1, fun x t' x0 ht' xr => f2 x t' x0 ht' (by unfold ten at ht'; omega), fun Q => ?_⟩
    rw [g_X12_bed_120]
    simp (config := { decide := true }) (disch := first | decide | assumption | omega | (simp (config := { decide := true }) only [km_sr_sf, km_sr_of, km_up_of, km_up_o, km_upx_i, km_upx_s, km_fl2_o, ne_eq, not_true_eq_false, not_false_eq_true] <;> omega) | fail) only [g_X12_bed, ka_lt, ka_le, ka_nlt, ka_nle, ka_ne, ka_eq, Int.add_sub_cancel, true_or, or_true, false_or, or_false, false_and, and_false, if_true, if_false, ka_lo, ka_hi, ka_nn, km_sr_sf, km_sr_of, km_up_of, km_sr_us, km_sr_uo, km_sr_sr, km_sr_fl, km_sr_flo, km_up_up, km_up_lt, km_lay, km_unL, km_up_o, km_upx_i, km_upx_s, km_fl2_o, km_is, Option.some.injEq, Sum.inl.injEq, Sum.inr.injEq, Option.toList_some, Option.toList_none, List.cons_append, List.nil_append, ne_eq, true_and, and_true, and_self, not_true_eq_false, not_false_eq_true, true_implies, false_implies, reduceCtorEq]
  | succ N ih =>
    intro t X h t0 f1 f2
    have tt : ten t := ⟨t0, by omega⟩
    have X82 : X 123 82 = w := (f1 _ _ (by decide)).trans e82
    obtain ⟨M', d1, d2, d3⟩ := ih (t + 1) (km_up X 171 (1024 * r + t) (V r t)) (by omega) (by omega) (fun e j z => by rw [km_up_ne (fun w => z w.1)]; exact f1 e j z) (fun x t' x0 ht' xt => by
      unfold ten at ht'
      by_cases z : x = r ∧ t' = t
      · rw [km_up_eq ⟨rfl, by rw [z.1, z.2]⟩, z.1, z.2]
      · rw [km_up_ne (fun w => by omega)]; exact f2 x t' x0 ht' (by omega))
    refine ⟨M', d1, d2, fun Q => ?_⟩
    rw [← d3 Q, g_X12_bed_120, hV t tt]
    have n0 := ksb_n0 tt hw
    by_cases z : ksb t w
    · have z0 := n0.mpr z
      have r163 : X 163 = Y 163 := funext fun j => f1 163 j (by decide)
      have r164 : X 164 = Y 164 := funext fun j => f1 164 j (by decide)
      have r165 : X 165 = Y 165 := funext fun j => f1 165 j (by decide)
      have r166 : X 166 = Y 166 := funext fun j => f1 166 j (by decide)
      have r173 : X 173 = Y 173 := funext fun j => f1 173 j (by decide)
      have r125 : X 125 = Y 125 := funext fun j => f1 125 j (by decide)
      have gl : kgl X t = kgl Y t := by funext k; unfold kgl; rw [r125]
      have gs : kgs X r t = kgs Y r t := by funext k; unfold kgs kgp; rw [r166, r165, r173]
      have bc := fun Q => @md_bedCost q c s X F r t tt hs (by rw [r164]; exact hf) (by rw [r165]; exact hp) (by rw [gl]; exact hl t · z) r0 r1 Q
      rw [gl, gs, r163, r165] at bc
      rw [if_pos z]
      simp (config := { decide := true }) (disch := first | decide | assumption | omega | (simp (config := { decide := true }) only [km_sr_sf, km_sr_of, km_up_of, km_up_o, km_upx_i, km_upx_s, km_fl2_o, ne_eq, not_true_eq_false, not_false_eq_true] <;> omega) | fail) only [g_X12_bed, X82, z0, bc, ka_lt, ka_le, ka_nlt, ka_nle, ka_ne, ka_eq, Int.add_sub_cancel, true_or, or_true, false_or, or_false, false_and, and_false, if_true, if_false, ka_lo, ka_hi, ka_nn, km_sr_sf, km_sr_of, km_up_of, km_sr_us, km_sr_uo, km_sr_sr, km_sr_fl, km_sr_flo, km_up_up, km_up_lt, km_lay, km_unL, km_up_o, km_upx_i, km_upx_s, km_fl2_o, km_is, Option.some.injEq, Sum.inl.injEq, Sum.inr.injEq, Option.toList_some, Option.toList_none, List.cons_append, List.nil_append, ne_eq, true_and, and_true, and_self, not_true_eq_false, not_false_eq_true, true_implies, false_implies, reduceCtorEq]
    · have z0 : ¬ km_and t (km_xor w (-1)) = 0 := fun y => z (n0.mp y)
      rw [if_neg z]
      simp (config := { decide := true }) (disch := first | decide | assumption | omega | (simp (config := { decide := true }) only [km_sr_sf, km_sr_of, km_up_of, km_up_o, km_upx_i, km_upx_s, km_fl2_o, ne_eq, not_true_eq_false, not_false_eq_true] <;> omega) | fail) only [g_X12_bed, X82, z0, ka_lt, ka_le, ka_nlt, ka_nle, ka_ne, ka_eq, Int.add_sub_cancel, true_or, or_true, false_or, or_false, false_and, and_false, if_true, if_false, ka_lo, ka_hi, ka_nn, km_sr_sf, km_sr_of, km_up_of, km_sr_us, km_sr_uo, km_sr_sr, km_sr_fl, km_sr_flo, km_up_up, km_up_lt, km_lay, km_unL, km_up_o, km_upx_i, km_upx_s, km_fl2_o, km_is, Option.some.injEq, Sum.inl.injEq, Sum.inr.injEq, Option.toList_some, Option.toList_none, List.cons_append, List.nil_append, ne_eq, true_and, and_true, and_self, not_true_eq_false, not_false_eq_true, true_implies, false_implies, reduceCtorEq]
theorem lp_bed110 {q : Nat × Int × Int × Int × Int} {c s : Nat} {Y : km_Mm} {F : Int → Int} {w : Int} {V : Int → Int → Int} (hw : ten w) (e82 : Y 123 82 = w) (hn : 0 ≤ Y 123 83 ∧ Y 123 83 ≤ 4) (hs : ∀ a b : Int, 0 ≤ a → a < 10 → 0 ≤ b → b < 10 → tb (F b) a = tb (F a) b) (hf : ∀ a b : Int, 0 ≤ b → b < a → a < 10 → Y 164 (10 * a + b) = if tb (F a) b = true then 1 else 0) (hp : ∀ i : Int, 0 ≤ i → i < 3 → 0 ≤ Y 165 i ∧ Y 165 i ≤ 99) (hl : ∀ t k : Int, ksb t w → 0 ≤ k → k < 10 → 0 ≤ kgl Y t k ∧ kgl Y t k ≤ 1)
    (hV : ∀ r t : Int, 0 ≤ r → r < Y 123 83 → ten t → V r t = @ite Int (ksb t w) (Classical.propDecidable _) (@ite Int (Y 163 r < km_pop t ∨ kfd F t) (Classical.propDecidable _) (-1) (ksm (kgs Y r t) 10 + Y 165 0 * ksm (kgl Y t) 10 * (km_pop t - ksm (kgl Y t) 10))) (-1)) :
    ∀ (N : Nat) (r : Int) (o : Option km_V) (X : km_Mm), r + N = Y 123 83 → 0 ≤ r → (∀ e j : Int, e ≠ 171 → X e j = Y e j) → (∀ x t' : Int, 0 ≤ x → ten t' → x < r → X 171 (1024 * x + t') = V x t') →
    ∃ (M' : km_Mm) (p : Option km_V), (∀ e j : Int, e ≠ 171 → M' e j = Y e j) ∧ (∀ x t' : Int, 0 ≤ x → ten t' → x < Y 123 83 → M' 171 (1024 * x + t') = V x t') ∧ ∀ Q : Option km_V → km_Al → km_Mm → Prop, (km_G M_X12_bed 110 [some (.inr (.inr 123)), some (.inl r), o, none, none, none] [] (km_A0 q c s) X Q ↔ km_G M_X12_bed 110 [some (.inr (.inr 123)), some (.inl (Y 123 83)), p, none, none, none] [] (km_A0 q c s) M' Q) := by
  intro N
  induction N with
  | zero =>
    intro r o X h r0 f1 f2
    have e : r = Y 123 83 := by omega
    subst e
    exact ⟨X, o, f1, f2, fun Q => Iff.rfl⟩
  | succ N ih =>
    intro r o X h r0 f1 f2
    have X83 : X 123 83 = Y 123 83 := f1 _ _ (by decide)
    obtain ⟨M1, c1, c2, c3⟩ := @lp_bed120 q c s Y F w r V hw e82 hs hf hp hl r0 (by omega) (fun t ht => hV r t r0 (by omega) ht) 1024 0 X (by omega) (by decide) f1 (fun x t' x0 ht' xt => f2 x t' x0 ht' (by unfold ten at ht'; omega))
    obtain ⟨M', p, d1, d2, d3⟩ := ih (r + 1) (some (.inl 1024)) M1 (by omega) (by omega) c1 c2
    refine ⟨M', p, d1, d2, fun Q => ?_⟩
    have lt : r < Y 123 83 := by omega
    rw [← d3 Q, g_X12_bed_110]
    simp (config := { decide := true }) (disch := first | decide | assumption | omega | (simp (config := { decide := true }) only [km_sr_sf, km_sr_of, km_up_of, km_up_o, km_upx_i, km_upx_s, km_fl2_o, ne_eq, not_true_eq_false, not_false_eq_true] <;> omega) | fail) only [g_X12_bed, X83, lt, c3, ka_lt, ka_le, ka_nlt, ka_nle, ka_ne, ka_eq, Int.add_sub_cancel, true_or, or_true, false_or, or_false, false_and, and_false, if_true, if_false, ka_lo, ka_hi, ka_nn, km_sr_sf, km_sr_of, km_up_of, km_sr_us, km_sr_uo, km_sr_sr, km_sr_fl, km_sr_flo, km_up_up, km_up_lt, km_lay, km_unL, km_up_o, km_upx_i, km_upx_s, km_fl2_o, km_is, Option.some.injEq, Sum.inl.injEq, Sum.inr.injEq, Option.toList_some, Option.toList_none, List.cons_append, List.nil_append, ne_eq, true_and, and_true, and_self, not_true_eq_false, not_false_eq_true, true_implies, false_implies, reduceCtorEq]
/-- who lies where, as the reference writes it -/
theorem lp_bed197 {q : Nat × Int × Int × Int × Int} {c s : Nat} {Y : km_Mm} {n left : Int} :
    ∀ (N : Nat) (k : Int) (X : km_Mm), k + N = 10 → 0 ≤ k → (∀ e j : Int, e ≠ 166 → X e j = Y e j) → (∀ j : Int, 0 ≤ j → j < k → X 166 j = -1) →
    ∃ (M' : km_Mm), (∀ e j : Int, e ≠ 166 → M' e j = Y e j) ∧ (∀ j : Int, 0 ≤ j → j < 10 → M' 166 j = -1) ∧ ∀ Q : Option km_V → km_Al → km_Mm → Prop, (km_G M_X12_bed 197 [some (.inr (.inr 123)), some (.inl n), some (.inl left), some (.inl k), none, none] [] (km_A0 q c s) X Q ↔ km_G M_X12_bed 218 [some (.inr (.inr 123)), some (.inl n), some (.inl left), some (.inl 0), none, none] [] (km_A0 q c s) M' Q) := by
  intro N
  induction N with
  | zero =>
    intro k X h k0 f1 f2
    have e : k = 10 := by omega
    subst e
    refine ⟨X, f1, f2, fun Q => ?_⟩
    rw [g_X12_bed_197]
    simp (config := { decide := true }) (disch := first | decide | assumption | omega | (simp (config := { decide := true }) only [km_sr_sf, km_sr_of, km_up_of, km_up_o, km_upx_i, km_upx_s, km_fl2_o, ne_eq, not_true_eq_false, not_false_eq_true] <;> omega) | fail) only [g_X12_bed, ka_lt, ka_le, ka_nlt, ka_nle, ka_ne, ka_eq, Int.add_sub_cancel, true_or, or_true, false_or, or_false, false_and, and_false, if_true, if_false, ka_lo, ka_hi, ka_nn, km_sr_sf, km_sr_of, km_up_of, km_sr_us, km_sr_uo, km_sr_sr, km_sr_fl, km_sr_flo, km_up_up, km_up_lt, km_lay, km_unL, km_up_o, km_upx_i, km_upx_s, km_fl2_o, km_is, Option.some.injEq, Sum.inl.injEq, Sum.inr.injEq, Option.toList_some, Option.toList_none, List.cons_append, List.nil_append, ne_eq, true_and, and_true, and_self, not_true_eq_false, not_false_eq_true, true_implies, false_implies, reduceCtorEq]
  | succ N ih =>
    intro k X h k0 f1 f2
    obtain ⟨M', d1, d2, d3⟩ := ih (k + 1) (km_up X 166 k (-1)) (by omega) (by omega) (fun e j z => by rw [km_up_ne (fun w => z w.1)]; exact f1 e j z) (fun j j0 j1 => by
      by_cases z : j = k
      · rw [km_up_eq ⟨rfl, z⟩]
      · rw [km_up_ne (fun w => z w.2)]; exact f2 j j0 (by omega))
    refine ⟨M', d1, d2, fun Q => ?_⟩
    rw [← d3 Q, g_X12_bed_197]
    simp (config := { decide := true }) (disch := first | decide | assumption | omega | (simp (config := { decide := true }) only [km_sr_sf, km_sr_of, km_up_of, km_up_o, km_upx_i, km_upx_s, km_fl2_o, ne_eq, not_true_eq_false, not_false_eq_true] <;> omega) | fail) only [g_X12_bed, ka_lt, ka_le, ka_nlt, ka_nle, ka_ne, ka_eq, Int.add_sub_cancel, true_or, or_true, false_or, or_false, false_and, and_false, if_true, if_false, ka_lo, ka_hi, ka_nn, km_sr_sf, km_sr_of, km_up_of, km_sr_us, km_sr_uo, km_sr_sr, km_sr_fl, km_sr_flo, km_up_up, km_up_lt, km_lay, km_unL, km_up_o, km_upx_i, km_upx_s, km_fl2_o, km_is, Option.some.injEq, Sum.inl.injEq, Sum.inr.injEq, Option.toList_some, Option.toList_none, List.cons_append, List.nil_append, ne_eq, true_and, and_true, and_self, not_true_eq_false, not_false_eq_true, true_implies, false_implies, reduceCtorEq]
theorem lp_bed237 {q : Nat × Int × Int × Int × Int} {c s : Nat} {Y : km_Mm} {n left S : Int} {cc : Int → Int} {r : Nat} (tS : ten S) (hS : cc r = S) (hl : ten left) (hsl : ksb S left) (r1 : r < 4) :
    ∀ (N : Nat) (k : Int) (X : km_Mm), k + N = 10 → 0 ≤ k → (∀ e j : Int, e ≠ 166 → X e j = Y e j) → (∀ j : Int, 0 ≤ j → j < k → X 166 j = kdP cc (r + 1) j) → (∀ j : Int, k ≤ j → j < 10 → X 166 j = kdP cc r j) →
    ∃ (M' : km_Mm), (∀ e j : Int, e ≠ 166 → M' e j = Y e j) ∧ (∀ j : Int, 0 ≤ j → j < 10 → M' 166 j = kdP cc (r + 1) j) ∧ ∀ Q : Option km_V → km_Al → km_Mm → Prop, (km_G M_X12_bed 237 [some (.inr (.inr 123)), some (.inl n), some (.inl left), some (.inl (r : Int)), some (.inl S), some (.inl k)] [] (km_A0 q c s) X Q ↔ km_G M_X12_bed 218 [some (.inr (.inr 123)), some (.inl n), some (.inl (left - S)), some (.inl ((r : Int) + 1)), some (.inl S), some (.inl 10)] [] (km_A0 q c s) M' Q) := by
  intro N
  have S2 : S < 2147483648 := by unfold ten at tS; omega
  have an := ksb_andn hl hsl
  induction N with
  | zero =>
    intro k X h k0 f1 f2 f3
    have e : k = 10 := by omega
    subst e
    refine ⟨X, f1, f2, fun Q => ?_⟩
    rw [g_X12_bed_237]
    simp (config := { decide := true }) (disch := first | decide | assumption | omega | (simp (config := { decide := true }) only [km_sr_sf, km_sr_of, km_up_of, km_up_o, km_upx_i, km_upx_s, km_fl2_o, ne_eq, not_true_eq_false, not_false_eq_true] <;> omega) | fail) only [g_X12_bed, an, ka_lt, ka_le, ka_nlt, ka_nle, ka_ne, ka_eq, Int.add_sub_cancel, true_or, or_true, false_or, or_false, false_and, and_false, if_true, if_false, ka_lo, ka_hi, ka_nn, km_sr_sf, km_sr_of, km_up_of, km_sr_us, km_sr_uo, km_sr_sr, km_sr_fl, km_sr_flo, km_up_up, km_up_lt, km_lay, km_unL, km_up_o, km_upx_i, km_upx_s, km_fl2_o, km_is, Option.some.injEq, Sum.inl.injEq, Sum.inr.injEq, Option.toList_some, Option.toList_none, List.cons_append, List.nil_append, ne_eq, true_and, and_true, and_self, not_true_eq_false, not_false_eq_true, true_implies, false_implies, reduceCtorEq]
  | succ N ih =>
    intro k X h k0 f1 f2 f3
    have bk := ks_bit (x := S) (k := k) tS.1 S2 k0 (by omega)
    have kd : ∀ j : Int, kdP cc (r + 1) j = if tb S j = true then (r : Int) else kdP cc r j := fun j => by rw [← hS]; rfl
    by_cases z : tb S k = true
    · rw [if_pos z] at bk
      obtain ⟨M', d1, d2, d3⟩ := ih (k + 1) (km_up X 166 k r) (by omega) (by omega) (fun e j z => by rw [km_up_ne (fun w => z w.1)]; exact f1 e j z) (fun j j0 j1 => by
        by_cases y : j = k
        · rw [km_up_eq ⟨rfl, y⟩, kd, y, if_pos z]
        · rw [km_up_ne (fun w => y w.2)]; exact f2 j j0 (by omega)) (fun j j0 j1 => by rw [km_up_ne (fun w => by omega)]; exact f3 j (by omega) j1)
      refine ⟨M', d1, d2, fun Q => ?_⟩
      rw [← d3 Q, g_X12_bed_237]
      simp (config := { decide := true }) (disch := first | decide | assumption | omega | (simp (config := { decide := true }) only [km_sr_sf, km_sr_of, km_up_of, km_up_o, km_upx_i, km_upx_s, km_fl2_o, ne_eq, not_true_eq_false, not_false_eq_true] <;> omega) | fail) only [g_X12_bed, bk, ka_lt, ka_le, ka_nlt, ka_nle, ka_ne, ka_eq, Int.add_sub_cancel, true_or, or_true, false_or, or_false, false_and, and_false, if_true, if_false, ka_lo, ka_hi, ka_nn, km_sr_sf, km_sr_of, km_up_of, km_sr_us, km_sr_uo, km_sr_sr, km_sr_fl, km_sr_flo, km_up_up, km_up_lt, km_lay, km_unL, km_up_o, km_upx_i, km_upx_s, km_fl2_o, km_is, Option.some.injEq, Sum.inl.injEq, Sum.inr.injEq, Option.toList_some, Option.toList_none, List.cons_append, List.nil_append, ne_eq, true_and, and_true, and_self, not_true_eq_false, not_false_eq_true, true_implies, false_implies, reduceCtorEq]
    · rw [if_neg z] at bk
      obtain ⟨M', d1, d2, d3⟩ := ih (k + 1) X (by omega) (by omega) f1 (fun j j0 j1 => by
        by_cases y : j = k
        · rw [kd, y, if_neg z]; exact f3 k (by omega) (by omega)
        · exact f2 j j0 (by omega)) (fun j j0 j1 => f3 j (by omega) j1)
      refine ⟨M', d1, d2, fun Q => ?_⟩
      rw [← d3 Q, g_X12_bed_237]
      simp (config := { decide := true }) (disch := first | decide | assumption | omega | (simp (config := { decide := true }) only [km_sr_sf, km_sr_of, km_up_of, km_up_o, km_upx_i, km_upx_s, km_fl2_o, ne_eq, not_true_eq_false, not_false_eq_true] <;> omega) | fail) only [g_X12_bed, bk, ka_lt, ka_le, ka_nlt, ka_nle, ka_ne, ka_eq, Int.add_sub_cancel, true_or, or_true, false_or, or_false, false_and, and_false, if_true, if_false, ka_lo, ka_hi, ka_nn, km_sr_sf, km_sr_of, km_up_of, km_sr_us, km_sr_uo, km_sr_sr, km_sr_fl, km_sr_flo, km_up_up, km_up_lt, km_lay, km_unL, km_up_o, km_upx_i, km_upx_s, km_fl2_o, km_is, Option.some.injEq, Sum.inl.injEq, Sum.inr.injEq, Option.toList_some, Option.toList_none, List.cons_append, List.nil_append, ne_eq, true_and, and_true, and_self, not_true_eq_false, not_false_eq_true, true_implies, false_implies, reduceCtorEq]
theorem lp_bed218 {q : Nat × Int × Int × Int × Int} {c s : Nat} {Y : km_Mm} {W : Int → Int} {cc : Int → Int} {v0 w : Int} {n : Nat} (n4 : n ≤ 4) (hn : Y 123 83 = n) (hw : ten w) (hW : Y 171 = W) (hb : ∀ r t : Int, 0 ≤ r → r < n → ten t → W (1024 * r + t) ≤ 8000 ∧ -1 ≤ W (1024 * r + t)) (hB : ∀ k : Nat, k ≤ n → ∀ S : Int, ten S → klB W 1 1000000 (n - k) k S (Y 172 (1024 * k + S))) :
    ∀ (N r : Nat) (left : Int) (o4 o5 : Option km_V) (X : km_Mm), r + N = n → ten left → kdS (klX W 1) (klF W) cc N r left → (∀ e j : Int, e ≠ 166 → X e j = Y e j) → (∀ j : Int, 0 ≤ j → j < 10 → X 166 j = kdP cc r j) →
    ∃ (M' : km_Mm), (∀ e j : Int, e ≠ 166 → M' e j = Y e j) ∧ (∀ j : Int, 0 ≤ j → j < 10 → M' 166 j = kdP cc n j) ∧ ∀ Q : Option km_V → km_Al → km_Mm → Prop, (km_G M_X12_bed 218 [some (.inr (.inr 123)), some (.inl v0), some (.inl left), some (.inl (r : Int)), o4, o5] [] (km_A0 q c s) X Q ↔ Q (some (.inl v0)) (km_A0 q c s) M') := by
  intro N
  induction N with
  | zero =>
    intro r left o4 o5 X h hl hk f1 f2
    have e : r = n := by omega
    subst e
    have X83 : X 123 83 = r := (f1 _ _ (by decide)).trans hn
    refine ⟨X, f1, f2, fun Q => ?_⟩
    rw [g_X12_bed_218]
    simp (config := { decide := true }) (disch := first | decide | assumption | omega | (simp (config := { decide := true }) only [km_sr_sf, km_sr_of, km_up_of, km_up_o, km_upx_i, km_upx_s, km_fl2_o, ne_eq, not_true_eq_false, not_false_eq_true] <;> omega) | fail) only [g_X12_bed, X83, Int.le_refl, ka_lt, ka_le, ka_nlt, ka_nle, ka_ne, ka_eq, Int.add_sub_cancel, true_or, or_true, false_or, or_false, false_and, and_false, if_true, if_false, ka_lo, ka_hi, ka_nn, km_sr_sf, km_sr_of, km_up_of, km_sr_us, km_sr_uo, km_sr_sr, km_sr_fl, km_sr_flo, km_up_up, km_up_lt, km_lay, km_unL, km_up_o, km_upx_i, km_upx_s, km_fl2_o, km_is, Option.some.injEq, Sum.inl.injEq, Sum.inr.injEq, Option.toList_some, Option.toList_none, List.cons_append, List.nil_append, ne_eq, true_and, and_true, and_self, not_true_eq_false, not_false_eq_true, true_implies, false_implies, reduceCtorEq]
  | succ N ih =>
    intro r left o4 o5 X h hl hk f1 f2
    obtain ⟨k1, k2⟩ := hk
    have s1 := k1.1.1
    have X83 : X 123 83 = n := (f1 _ _ (by decide)).trans hn
    have e171 : X 171 = W := (funext fun j => f1 171 j (by decide)).trans hW
    have e172 : X 172 = Y 172 := funext fun j => f1 172 j (by decide)
    have nk : n - (r + 1) = N := by omega
    have nk2 : n - r = N + 1 := by omega
    have fo := fun Q => @md_firstOf q c s X W 0 1000000 1 r left (cc r) N (Or.inl ⟨rfl, rfl, rfl⟩) (by omega) e171 (by omega) (by omega) hl (fun t ht => hb r t (by omega) (by omega) ht) (fun t ht => by
      have := hB (r + 1) (by omega) (left - t) (ksb_diff hl ht).1
      rw [nk, show 1024 * ((r + 1 : Nat) : Int) + (left - t) = 1024 * (r : Int) + 1024 + (left - t) by omega, show ((r + 1 : Nat) : Int) = (r : Int) + 1 by omega] at this
      rw [e172]; exact this) (by
      have := hB r (by omega) left hl
      rw [nk2] at this
      rw [e172]; exact this) k1 Q
    obtain ⟨M1, c1, c2, c3⟩ := @lp_bed237 q c s Y v0 left (cc r) cc r (ksb_ten hl s1) rfl hl s1 (by omega) 10 0 X (by omega) (by decide) f1 (fun j j0 j1 => by omega) f2
    have er : ((r + 1 : Nat) : Int) = (r : Int) + 1 := by omega
    obtain ⟨M', d1, d2, d3⟩ := ih (r + 1) (left - cc r) (some (.inl (cc r))) (some (.inl 10)) M1 (by omega) (ksb_diff hl s1).1 (by rw [er]; exact k2) c1 c2
    refine ⟨M', d1, d2, fun Q => ?_⟩
    rw [← d3 Q, g_X12_bed_218, er]
    simp (config := { decide := true }) (disch := first | decide | assumption | omega | (simp (config := { decide := true }) only [km_sr_sf, km_sr_of, km_up_of, km_up_o, km_upx_i, km_upx_s, km_fl2_o, ne_eq, not_true_eq_false, not_false_eq_true] <;> omega) | fail) only [g_X12_bed, X83, fo, c3, ka_lt, ka_le, ka_nlt, ka_nle, ka_ne, ka_eq, Int.add_sub_cancel, true_or, or_true, false_or, or_false, false_and, and_false, if_true, if_false, ka_lo, ka_hi, ka_nn, km_sr_sf, km_sr_of, km_up_of, km_sr_us, km_sr_uo, km_sr_sr, km_sr_fl, km_sr_flo, km_up_up, km_up_lt, km_lay, km_unL, km_up_o, km_upx_i, km_upx_s, km_fl2_o, km_is, Option.some.injEq, Sum.inl.injEq, Sum.inr.injEq, Option.toList_some, Option.toList_none, List.cons_append, List.nil_append, ne_eq, true_and, and_true, and_self, not_true_eq_false, not_false_eq_true, true_implies, false_implies, reduceCtorEq]

