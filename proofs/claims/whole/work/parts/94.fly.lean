/-! ===== travels: who waits where ===== -/
/-- those who can come and live in v -/
def kWt (m : km_Mm) (o v : Int) : Int → Prop := fun k => kC m o k ∧ m 7 k = v
theorem kcnt_yes {P : Int → Prop} {n : Nat} (h : P n) : kcnt P (n + 1) = kcnt P n + 1 := by rw [kcnt, if_pos h]
theorem kcnt_no {P : Int → Prop} {n : Nat} (h : ¬ P n) : kcnt P (n + 1) = kcnt P n := by rw [kcnt, if_neg h, Int.add_zero]
theorem md_travels54 {q : Nat × Int × Int × Int × Int} {c s : Nat} {m M0 : km_Mm} {o g : Int} (hb : kI_book m) (hT : kI_trait m) (hO : kI_opt m) (hj : kMj m M0) (o0 : 0 ≤ o) (o1 : o < m 19 1) (hg : M0 151 o = g) : ∀ (n i : Nat) (M : km_Mm), (i : Int) + n = m 5 1 → (∀ b j : Int, b ≠ 130 → b ≠ 159 → ¬ (b = 123 ∧ j = 77) → M b j = M0 b j) → M 123 77 = kcnt (kWt m o g) i → (∀ v : Int, 0 ≤ v → v < 6 → M 159 v = if v = g then 0 else kcnt (kWt m o v) i) →
    ∃ M' : km_Mm, (∀ b j : Int, b ≠ 130 → b ≠ 159 → ¬ (b = 123 ∧ j = 77) → M' b j = M0 b j) ∧ M' 123 77 = kcnt (kWt m o g) (m 5 1).toNat ∧ (∀ v : Int, 0 ≤ v → v < 6 → M' 159 v = if v = g then 0 else kcnt (kWt m o v) (m 5 1).toNat) ∧ ∀ Q : Option km_V → km_Al → km_Mm → Prop, (km_G M_X12_travels 54 [some (.inr (.inr 123)), some (.inl o), some (.inl (i : Int))] [] (km_A0 q c s) M Q ↔ km_G M_X12_travels 129 [some (.inr (.inr 123)), some (.inl o), some (.inl 1)] [] (km_A0 q c s) M' Q) := by
  have h1 := hb.1
  have f4 := hO.1
  intro n
  induction n with
  | zero =>
    intro i M h fr h77 h159
    have e1 : M 123 3 = m 5 1 := (fr 123 3 (by decide) (by decide) (by omega)).trans ((hj 123 3 (by decide) (by unfold kJ; omega)).trans h1.2.2)
    have e2 : i = (m 5 1).toNat := by omega
    subst e2
    have e3 : m 5 1 ≤ ((m 5 1).toNat : Int) := by omega
    refine ⟨M, fr, h77, h159, fun Q => ?_⟩
    rw [g_X12_travels_54]
    simp (config := { decide := true }) (disch := first | decide | assumption | omega | (simp (config := { decide := true }) only [km_sr_sf, km_sr_of, km_up_of, km_up_o, km_upx_i, km_upx_s, km_fl2_o, ne_eq, not_true_eq_false, not_false_eq_true] <;> omega) | fail) only [g_X12_travels, e1, e3, Int.add_sub_cancel, true_or, or_true, false_or, or_false, false_and, and_false, if_true, if_false, ka_lo, ka_hi, ka_nn, km_sr_sf, km_sr_of, km_up_of, km_sr_us, km_sr_uo, km_sr_sr, km_sr_fl, km_sr_flo, km_up_up, km_up_lt, km_lay, km_unL, km_up_o, km_upx_i, km_upx_s, km_fl2_o, km_is, Option.some.injEq, Sum.inl.injEq, Sum.inr.injEq, Option.toList_some, Option.toList_none, List.cons_append, List.nil_append, ne_eq, true_and, and_true, and_self, not_true_eq_false, not_false_eq_true, true_implies, false_implies, reduceCtorEq]
  | succ n ih =>
    intro i M h fr h77 h159
    have e1 : M 123 3 = m 5 1 := (fr 123 3 (by decide) (by decide) (by omega)).trans ((hj 123 3 (by decide) (by unfold kJ; omega)).trans h1.2.2)
    have e3 : ¬ m 5 1 ≤ (i : Int) := by omega
    have e4 : ((i + 1 : Nat) : Int) = (i : Int) + 1 := by omega
    have hjM : kMj m M := fun b j z1 z2 => (fr b j (fun e => z2 (by unfold kJ; omega)) (fun e => z2 (by unfold kJ; omega)) (fun e => z2 (by unfold kJ; omega))).trans (hj b j z1 z2)
    obtain ⟨g1, lv⟩ := @md_canCome q c s m M o i hb hO hjM o0 o1 (by omega) (by omega)
    have tr := hT i (by omega) (by omega)
    have r125 : M 125 (5 * (i : Int)) = m 7 i := ((fr 125 _ (by decide) (by decide) (by omega)).trans (hj 125 _ (by decide) (kJ_no (by decide)))).trans tr.1.1
    have r151 : M 151 o = g := (fr 151 o (by decide) (by decide) (by omega)).trans hg
    have bg := @kcnt_b (kWt m o g) i
    have bv := @kcnt_b (kWt m o (m 7 i)) i
    by_cases z : kC m o i
    · by_cases hm : m 7 i = g
      · obtain ⟨M', a1, a2, a3, a4⟩ := ih (i + 1) (km_up (km_sr M 130 g1) 123 77 (kcnt (kWt m o g) i + 1)) (by omega) (fun b j b1 b2 b3 => by rw [km_up_ne b3, km_sr_ne b1]; exact fr b j b1 b2 b3) (by rw [km_up_eq ⟨rfl, rfl⟩, kcnt_yes ⟨z, hm⟩]) (fun v v0 v1 => by
          rw [km_up_ne (by omega), km_sr_ne (by decide), h159 v v0 v1]
          by_cases e : v = g
          · rw [if_pos e, if_pos e]
          · rw [if_neg e, if_neg e, kcnt_no (fun w => e (w.2.symm.trans hm))])
        refine ⟨M', a1, a2, a3, fun Q => ?_⟩
        rw [← a4 Q, e4, g_X12_travels_54]
        simp (config := { decide := true }) (disch := first | decide | assumption | omega | (simp (config := { decide := true }) only [km_sr_sf, km_sr_of, km_up_of, km_up_o, km_upx_i, km_upx_s, km_fl2_o, ne_eq, not_true_eq_false, not_false_eq_true] <;> omega) | fail) only [g_X12_travels, e1, e3, lv, z, r125, r151, hm, h77, ka_lt, ka_le, ka_nlt, ka_nle, ka_ne, ka_eq, Int.add_sub_cancel, true_or, or_true, false_or, or_false, false_and, and_false, if_true, if_false, ka_lo, ka_hi, ka_nn, km_sr_sf, km_sr_of, km_up_of, km_sr_us, km_sr_uo, km_sr_sr, km_sr_fl, km_sr_flo, km_up_up, km_up_lt, km_lay, km_unL, km_up_o, km_upx_i, km_upx_s, km_fl2_o, km_is, Option.some.injEq, Sum.inl.injEq, Sum.inr.injEq, Option.toList_some, Option.toList_none, List.cons_append, List.nil_append, ne_eq, true_and, and_true, and_self, not_true_eq_false, not_false_eq_true, true_implies, false_implies, reduceCtorEq]
      · have w159 := h159 (m 7 i) tr.2.1.1 tr.2.1.2
        rw [if_neg hm] at w159
        obtain ⟨M', a1, a2, a3, a4⟩ := ih (i + 1) (km_up (km_sr M 130 g1) 159 (m 7 i) (kcnt (kWt m o (m 7 i)) i + 1)) (by omega) (fun b j b1 b2 b3 => by rw [km_up_ne (by omega), km_sr_ne b1]; exact fr b j b1 b2 b3) (by rw [km_up_ne (by omega), km_sr_ne (by decide), h77, kcnt_no (fun w => hm w.2)]) (fun v v0 v1 => by
          by_cases e : v = m 7 i
          · rw [km_up_eq ⟨rfl, e⟩, if_neg (by rw [e]; exact hm), e, kcnt_yes ⟨z, rfl⟩]
          · rw [km_up_ne (fun w => e w.2), km_sr_ne (by decide), h159 v v0 v1]
            by_cases e2 : v = g
            · rw [if_pos e2, if_pos e2]
            · rw [if_neg e2, if_neg e2, kcnt_no (fun w => e w.2.symm)])
        refine ⟨M', a1, a2, a3, fun Q => ?_⟩
        rw [← a4 Q, e4, g_X12_travels_54]
        simp (config := { decide := true }) (disch := first | decide | assumption | omega | (simp (config := { decide := true }) only [km_sr_sf, km_sr_of, km_up_of, km_up_o, km_upx_i, km_upx_s, km_fl2_o, ne_eq, not_true_eq_false, not_false_eq_true] <;> omega) | fail) only [g_X12_travels, e1, e3, lv, z, r125, r151, hm, w159, tr.2.1.1, tr.2.1.2, ka_lt, ka_le, ka_nlt, ka_nle, ka_ne, ka_eq, Int.add_sub_cancel, true_or, or_true, false_or, or_false, false_and, and_false, if_true, if_false, ka_lo, ka_hi, ka_nn, km_sr_sf, km_sr_of, km_up_of, km_sr_us, km_sr_uo, km_sr_sr, km_sr_fl, km_sr_flo, km_up_up, km_up_lt, km_lay, km_unL, km_up_o, km_upx_i, km_upx_s, km_fl2_o, km_is, Option.some.injEq, Sum.inl.injEq, Sum.inr.injEq, Option.toList_some, Option.toList_none, List.cons_append, List.nil_append, ne_eq, true_and, and_true, and_self, not_true_eq_false, not_false_eq_true, true_implies, false_implies, reduceCtorEq]
    · obtain ⟨M', a1, a2, a3, a4⟩ := ih (i + 1) (km_sr M 130 g1) (by omega) (fun b j b1 b2 b3 => by rw [km_sr_ne b1]; exact fr b j b1 b2 b3) (by rw [km_sr_ne (by decide), h77, kcnt_no (fun w => z w.1)]) (fun v v0 v1 => by
        rw [km_sr_ne (by decide), h159 v v0 v1]
        by_cases e : v = g
        · rw [if_pos e, if_pos e]
        · rw [if_neg e, if_neg e, kcnt_no (fun w => z w.1)])
      refine ⟨M', a1, a2, a3, fun Q => ?_⟩
      rw [← a4 Q, e4, g_X12_travels_54]
      simp (config := { decide := true }) (disch := first | decide | assumption | omega | (simp (config := { decide := true }) only [km_sr_sf, km_sr_of, km_up_of, km_up_o, km_upx_i, km_upx_s, km_fl2_o, ne_eq, not_true_eq_false, not_false_eq_true] <;> omega) | fail) only [g_X12_travels, e1, e3, lv, z, ka_lt, ka_le, ka_nlt, ka_nle, ka_ne, ka_eq, Int.add_sub_cancel, true_or, or_true, false_or, or_false, false_and, and_false, if_true, if_false, ka_lo, ka_hi, ka_nn, km_sr_sf, km_sr_of, km_up_of, km_sr_us, km_sr_uo, km_sr_sr, km_sr_fl, km_sr_flo, km_up_up, km_up_lt, km_lay, km_unL, km_up_o, km_upx_i, km_upx_s, km_fl2_o, km_is, Option.some.injEq, Sum.inl.injEq, Sum.inr.injEq, Option.toList_some, Option.toList_none, List.cons_append, List.nil_append, ne_eq, true_and, and_true, and_self, not_true_eq_false, not_false_eq_true, true_implies, false_implies, reduceCtorEq]
theorem lp_mtravels_12 {q : Nat × Int × Int × Int × Int} {c s : Nat} {Q : Option km_V → km_Al → km_Mm → Prop} {o : Int} {m : km_Mm} {R : (Int → Int) → Prop} (hR : ∀ f : Int → Int, km_G M_X12_travels 33 [some (.inr (.inr 123)), some (.inl o), some (.inl 0)] [] (km_A0 q c s) (km_sr m 159 f) Q ↔ R f) : ∀ (n : Nat) (k : Int) (f : Int → Int), 0 ≤ k → k + n = 6 → (km_G M_X12_travels 12 [some (.inr (.inr 123)), some (.inl o), some (.inl k)] [] (km_A0 q c s) (km_sr m 159 f) Q ↔ R (kv_fl f k 6 0)) := by
  intro n
  induction n with
  | zero =>
    intro k f h0 h1
    have e : (6 : Int) ≤ k := by omega
    rw [g_X12_travels_12]
    simp (config := { decide := true }) (disch := first | decide | assumption | omega | (simp (config := { decide := true }) only [km_sr_sf, km_sr_of, km_up_of, km_up_o, km_upx_i, km_upx_s, km_fl2_o, ne_eq, not_true_eq_false, not_false_eq_true] <;> omega) | fail) only [g_X12_travels, e, hR, kv_fl_end, h0, Int.add_sub_cancel, true_or, or_true, false_or, or_false, false_and, and_false, if_true, if_false, ka_lo, ka_hi, ka_nn, km_sr_sf, km_sr_of, km_up_of, km_sr_us, km_sr_uo, km_sr_sr, km_sr_fl, km_sr_flo, km_up_up, km_up_lt, km_lay, km_unL, km_up_o, km_upx_i, km_upx_s, km_fl2_o, km_is, Option.some.injEq, Sum.inl.injEq, Sum.inr.injEq, Option.toList_some, Option.toList_none, List.cons_append, List.nil_append, ne_eq, true_and, and_true, and_self, not_true_eq_false, not_false_eq_true, true_implies, false_implies, reduceCtorEq]
    all_goals grind
  | succ n ih =>
    intro k f h0 h1
    have e : ¬ (6 : Int) ≤ k := by omega
    have e2 : k < 6 := by omega
    rw [g_X12_travels_12]
    simp (config := { decide := true }) (disch := first | decide | assumption | omega | (simp (config := { decide := true }) only [km_sr_sf, km_sr_of, km_up_of, km_up_o, km_upx_i, km_upx_s, km_fl2_o, ne_eq, not_true_eq_false, not_false_eq_true] <;> omega) | fail) only [g_X12_travels, ih, e, e2, kv_fl_up, h0, Int.add_sub_cancel, true_or, or_true, false_or, or_false, false_and, and_false, if_true, if_false, ka_lo, ka_hi, ka_nn, km_sr_sf, km_sr_of, km_up_of, km_sr_us, km_sr_uo, km_sr_sr, km_sr_fl, km_sr_flo, km_up_up, km_up_lt, km_lay, km_unL, km_up_o, km_upx_i, km_upx_s, km_fl2_o, km_is, Option.some.injEq, Sum.inl.injEq, Sum.inr.injEq, Option.toList_some, Option.toList_none, List.cons_append, List.nil_append, ne_eq, true_and, and_true, and_self, not_true_eq_false, not_false_eq_true, true_implies, false_implies, reduceCtorEq]
    all_goals grind
theorem lp_mtravels_33 {q : Nat × Int × Int × Int × Int} {c s : Nat} {Q : Option km_V → km_Al → km_Mm → Prop} {o : Int} {m : km_Mm} {R : (Int → Int) → Prop} (hR : ∀ f : Int → Int, km_G M_X12_travels 54 [some (.inr (.inr 123)), some (.inl o), some (.inl 0)] [] (km_A0 q c s) (km_sr m 160 f) Q ↔ R f) : ∀ (n : Nat) (k : Int) (f : Int → Int), 0 ≤ k → k + n = 14 → (km_G M_X12_travels 33 [some (.inr (.inr 123)), some (.inl o), some (.inl k)] [] (km_A0 q c s) (km_sr m 160 f) Q ↔ R (kv_fl f k 14 0)) := by
  intro n
  induction n with
  | zero =>
    intro k f h0 h1
    have e : (14 : Int) ≤ k := by omega
    rw [g_X12_travels_33]
    simp (config := { decide := true }) (disch := first | decide | assumption | omega | (simp (config := { decide := true }) only [km_sr_sf, km_sr_of, km_up_of, km_up_o, km_upx_i, km_upx_s, km_fl2_o, ne_eq, not_true_eq_false, not_false_eq_true] <;> omega) | fail) only [g_X12_travels, e, hR, kv_fl_end, h0, Int.add_sub_cancel, true_or, or_true, false_or, or_false, false_and, and_false, if_true, if_false, ka_lo, ka_hi, ka_nn, km_sr_sf, km_sr_of, km_up_of, km_sr_us, km_sr_uo, km_sr_sr, km_sr_fl, km_sr_flo, km_up_up, km_up_lt, km_lay, km_unL, km_up_o, km_upx_i, km_upx_s, km_fl2_o, km_is, Option.some.injEq, Sum.inl.injEq, Sum.inr.injEq, Option.toList_some, Option.toList_none, List.cons_append, List.nil_append, ne_eq, true_and, and_true, and_self, not_true_eq_false, not_false_eq_true, true_implies, false_implies, reduceCtorEq]
    all_goals grind
  | succ n ih =>
    intro k f h0 h1
    have e : ¬ (14 : Int) ≤ k := by omega
    have e2 : k < 14 := by omega
    rw [g_X12_travels_33]
    simp (config := { decide := true }) (disch := first | decide | assumption | omega | (simp (config := { decide := true }) only [km_sr_sf, km_sr_of, km_up_of, km_up_o, km_upx_i, km_upx_s, km_fl2_o, ne_eq, not_true_eq_false, not_false_eq_true] <;> omega) | fail) only [g_X12_travels, ih, e, e2, kv_fl_up, h0, Int.add_sub_cancel, true_or, or_true, false_or, or_false, false_and, and_false, if_true, if_false, ka_lo, ka_hi, ka_nn, km_sr_sf, km_sr_of, km_up_of, km_sr_us, km_sr_uo, km_sr_sr, km_sr_fl, km_sr_flo, km_up_up, km_up_lt, km_lay, km_unL, km_up_o, km_upx_i, km_upx_s, km_fl2_o, km_is, Option.some.injEq, Sum.inl.injEq, Sum.inr.injEq, Option.toList_some, Option.toList_none, List.cons_append, List.nil_append, ne_eq, true_and, and_true, and_self, not_true_eq_false, not_false_eq_true, true_implies, false_implies, reduceCtorEq]
    all_goals grind

