/-! ===== the house in the reference: quarrels, bedCost, fresh ===== -/
theorem kpr_hi {R : Int → Int → Prop} {t : Int} : kpr R t = ksm (fun a => if tb t a = true then kcnt (fun b => tb t b = true ∧ R b a) a.toNat else 0) 10 := by
  have e1 : kpr R t = ksm (fun k => kcnt (fun i => tb t k = true ∧ k < i ∧ tb t i = true ∧ R k i) 10) 10 := by
    unfold kpr
    refine ksm_cong 10 (fun k k0 _ => ?_)
    by_cases z : tb t k = true
    · rw [if_pos z]; exact kcnt_cong 10 (fun i _ _ => ⟨fun w => ⟨z, w⟩, fun w => w.2⟩)
    · rw [if_neg z]; exact (kcnt_none 10 (fun i _ _ w => z w.1)).symm
  rw [e1, kcnt_swap (P := fun k i => tb t k = true ∧ k < i ∧ tb t i = true ∧ R k i) 10 10]
  refine ksm_cong 10 (fun a a0 a1 => ?_)
  show kcnt (fun k => tb t k = true ∧ k < a ∧ tb t a = true ∧ R k a) 10 = _
  by_cases z : tb t a = true
  · rw [if_pos z]
    have e := kcnt_up (P := fun k => tb t k = true ∧ k < a ∧ tb t a = true ∧ R k a) a.toNat (10 - a.toNat) (fun k k0 _ w => by omega)
    rw [show a.toNat + (10 - a.toNat) = 10 by omega] at e
    rw [e]
    exact kcnt_cong _ (fun k k0 k1 => ⟨fun w => ⟨w.1, w.2.2.2⟩, fun w => ⟨w.1, by omega, z, w.2⟩⟩)
  · rw [if_neg z]; exact kcnt_none 10 (fun i _ _ w => z w.2.2.1)
/-- two of t with a FEUD, the greater a, the lesser from b to e -/
def kqq (F : Int → Int) (t a b e : Int) : Prop := ∃ i : Int, b ≤ i ∧ i < e ∧ tb t a = true ∧ tb t i = true ∧ tb (F a) i = true
theorem lp_quar10 {q : Nat × Int × Int × Int × Int} {c s : Nat} {mm : km_Mm} {F : Int → Int} {t : Int} (ht : ten t) (hf : ∀ a b : Int, 0 ≤ b → b < a → a < 10 → mm 164 (10 * a + b) = if tb (F a) b = true then 1 else 0) {a : Int} (a0 : 0 ≤ a) (a1 : a < 10) (Q : Option km_V → km_Al → km_Mm → Prop) :
    ∀ (n : Nat) (b : Int), 0 ≤ b → b + n = a → (kqq F t a b a → (km_G M_X12_quarrels 10 [some (.inr (.inr 123)), some (.inl t), some (.inl a), some (.inl b)] [] (km_A0 q c s) mm Q ↔ Q (some (.inl 1)) (km_A0 q c s) mm)) ∧ (¬ kqq F t a b a → (km_G M_X12_quarrels 10 [some (.inr (.inr 123)), some (.inl t), some (.inl a), some (.inl b)] [] (km_A0 q c s) mm Q ↔ km_G M_X12_quarrels 10 [some (.inr (.inr 123)), some (.inl t), some (.inl a), some (.inl a)] [] (km_A0 q c s) mm Q)) := by
  intro n
  have t2 : t < 2147483648 := by unfold ten at ht; omega
  induction n with
  | zero =>
    intro b b0 h
    have e : b = a := by omega
    subst e
    exact ⟨fun ⟨i, h1, h2, _⟩ => by omega, fun _ => Iff.rfl⟩
  | succ n ih =>
    intro b b0 h
    obtain ⟨i1, i2⟩ := ih (b + 1) (by omega) (by omega)
    have ba := ks_bit (x := t) (k := a) ht.1 t2 a0 (by omega)
    have bb := ks_bit (x := t) (k := b) ht.1 t2 b0 (by omega)
    have fb := hf a b b0 (by omega) a1
    have x1 : 10 * a + b < 100 := by omega
    have step : ¬ (tb t a = true ∧ tb t b = true ∧ tb (F a) b = true) → (km_G M_X12_quarrels 10 [some (.inr (.inr 123)), some (.inl t), some (.inl a), some (.inl b)] [] (km_A0 q c s) mm Q ↔ km_G M_X12_quarrels 10 [some (.inr (.inr 123)), some (.inl t), some (.inl a), some (.inl (b + 1))] [] (km_A0 q c s) mm Q) := fun d => by
      rw [g_X12_quarrels_10]
      by_cases z1 : tb t a = true
      · rw [if_pos z1] at ba
        by_cases z2 : tb t b = true
        · rw [if_pos z2] at bb
          have z3 : ¬ tb (F a) b = true := fun w => d ⟨z1, z2, w⟩
          rw [if_neg z3] at fb
          simp (config := { decide := true }) (disch := first | decide | assumption | omega | (simp (config := { decide := true }) only [km_sr_sf, km_sr_of, km_up_of, km_up_o, km_upx_i, km_upx_s, km_fl2_o, ne_eq, not_true_eq_false, not_false_eq_true] <;> omega) | fail) only [g_X12_quarrels, ba, bb, fb, ka_lt, ka_le, ka_nlt, ka_nle, ka_ne, ka_eq, Int.add_sub_cancel, true_or, or_true, false_or, or_false, false_and, and_false, if_true, if_false, ka_lo, ka_hi, ka_nn, km_sr_sf, km_sr_of, km_up_of, km_sr_us, km_sr_uo, km_sr_sr, km_sr_fl, km_sr_flo, km_up_up, km_up_lt, km_lay, km_unL, km_up_o, km_upx_i, km_upx_s, km_fl2_o, km_is, Option.some.injEq, Sum.inl.injEq, Sum.inr.injEq, Option.toList_some, Option.toList_none, List.cons_append, List.nil_append, ne_eq, true_and, and_true, and_self, not_true_eq_false, not_false_eq_true, true_implies, false_implies, reduceCtorEq]
        · rw [if_neg z2] at bb
          simp (config := { decide := true }) (disch := first | decide | assumption | omega | (simp (config := { decide := true }) only [km_sr_sf, km_sr_of, km_up_of, km_up_o, km_upx_i, km_upx_s, km_fl2_o, ne_eq, not_true_eq_false, not_false_eq_true] <;> omega) | fail) only [g_X12_quarrels, ba, bb, ka_lt, ka_le, ka_nlt, ka_nle, ka_ne, ka_eq, Int.add_sub_cancel, true_or, or_true, false_or, or_false, false_and, and_false, if_true, if_false, ka_lo, ka_hi, ka_nn, km_sr_sf, km_sr_of, km_up_of, km_sr_us, km_sr_uo, km_sr_sr, km_sr_fl, km_sr_flo, km_up_up, km_up_lt, km_lay, km_unL, km_up_o, km_upx_i, km_upx_s, km_fl2_o, km_is, Option.some.injEq, Sum.inl.injEq, Sum.inr.injEq, Option.toList_some, Option.toList_none, List.cons_append, List.nil_append, ne_eq, true_and, and_true, and_self, not_true_eq_false, not_false_eq_true, true_implies, false_implies, reduceCtorEq]
      · rw [if_neg z1] at ba
        simp (config := { decide := true }) (disch := first | decide | assumption | omega | (simp (config := { decide := true }) only [km_sr_sf, km_sr_of, km_up_of, km_up_o, km_upx_i, km_upx_s, km_fl2_o, ne_eq, not_true_eq_false, not_false_eq_true] <;> omega) | fail) only [g_X12_quarrels, ba, ka_lt, ka_le, ka_nlt, ka_nle, ka_ne, ka_eq, Int.add_sub_cancel, true_or, or_true, false_or, or_false, false_and, and_false, if_true, if_false, ka_lo, ka_hi, ka_nn, km_sr_sf, km_sr_of, km_up_of, km_sr_us, km_sr_uo, km_sr_sr, km_sr_fl, km_sr_flo, km_up_up, km_up_lt, km_lay, km_unL, km_up_o, km_upx_i, km_upx_s, km_fl2_o, km_is, Option.some.injEq, Sum.inl.injEq, Sum.inr.injEq, Option.toList_some, Option.toList_none, List.cons_append, List.nil_append, ne_eq, true_and, and_true, and_self, not_true_eq_false, not_false_eq_true, true_implies, false_implies, reduceCtorEq]
    have iff : ¬ (tb t a = true ∧ tb t b = true ∧ tb (F a) b = true) → (kqq F t a b a ↔ kqq F t a (b + 1) a) := fun d => by
      constructor
      · rintro ⟨i, h1, h2, h3⟩
        refine ⟨i, ?_, h2, h3⟩
        by_cases e : i = b
        · subst e; exact absurd h3 d
        · omega
      · rintro ⟨i, h1, h2, h3⟩; exact ⟨i, by omega, h2, h3⟩
    by_cases d : tb t a = true ∧ tb t b = true ∧ tb (F a) b = true
    · obtain ⟨d1, d2, d3⟩ := d
      refine ⟨fun _ => ?_, fun w => absurd ⟨b, Int.le_refl _, by omega, d1, d2, d3⟩ w⟩
      rw [if_pos d1] at ba
      rw [if_pos d2] at bb
      rw [if_pos d3] at fb
      rw [g_X12_quarrels_10]
      simp (config := { decide := true }) (disch := first | decide | assumption | omega | (simp (config := { decide := true }) only [km_sr_sf, km_sr_of, km_up_of, km_up_o, km_upx_i, km_upx_s, km_fl2_o, ne_eq, not_true_eq_false, not_false_eq_true] <;> omega) | fail) only [g_X12_quarrels, ba, bb, fb, ka_lt, ka_le, ka_nlt, ka_nle, ka_ne, ka_eq, Int.add_sub_cancel, true_or, or_true, false_or, or_false, false_and, and_false, if_true, if_false, ka_lo, ka_hi, ka_nn, km_sr_sf, km_sr_of, km_up_of, km_sr_us, km_sr_uo, km_sr_sr, km_sr_fl, km_sr_flo, km_up_up, km_up_lt, km_lay, km_unL, km_up_o, km_upx_i, km_upx_s, km_fl2_o, km_is, Option.some.injEq, Sum.inl.injEq, Sum.inr.injEq, Option.toList_some, Option.toList_none, List.cons_append, List.nil_append, ne_eq, true_and, and_true, and_self, not_true_eq_false, not_false_eq_true, true_implies, false_implies, reduceCtorEq]
    · rw [iff d]
      exact ⟨fun w => (step d).trans (i1 w), fun w => (step d).trans (i2 w)⟩
theorem lp_quar2 {q : Nat × Int × Int × Int × Int} {c s : Nat} {mm : km_Mm} {F : Int → Int} {t : Int} (ht : ten t) (hf : ∀ a b : Int, 0 ≤ b → b < a → a < 10 → mm 164 (10 * a + b) = if tb (F a) b = true then 1 else 0) (Q : Option km_V → km_Al → km_Mm → Prop) :
    ∀ (n : Nat) (a : Int) (o : Option km_V), 0 ≤ a → a + n = 10 → ((∃ x : Int, a ≤ x ∧ x < 10 ∧ kqq F t x 0 x) → (km_G M_X12_quarrels 2 [some (.inr (.inr 123)), some (.inl t), some (.inl a), o] [] (km_A0 q c s) mm Q ↔ Q (some (.inl 1)) (km_A0 q c s) mm)) ∧ (¬ (∃ x : Int, a ≤ x ∧ x < 10 ∧ kqq F t x 0 x) → (km_G M_X12_quarrels 2 [some (.inr (.inr 123)), some (.inl t), some (.inl a), o] [] (km_A0 q c s) mm Q ↔ Q (some (.inl 0)) (km_A0 q c s) mm)) := by
  intro n
  induction n with
  | zero =>
    intro a o a0 h
    refine ⟨fun ⟨x, h1, h2, _⟩ => by omega, fun _ => ?_⟩
    rw [g_X12_quarrels_2]
    simp (config := { decide := true }) (disch := first | decide | assumption | omega | (simp (config := { decide := true }) only [km_sr_sf, km_sr_of, km_up_of, km_up_o, km_upx_i, km_upx_s, km_fl2_o, ne_eq, not_true_eq_false, not_false_eq_true] <;> omega) | fail) only [g_X12_quarrels, ka_lt, ka_le, ka_nlt, ka_nle, ka_ne, ka_eq, Int.add_sub_cancel, true_or, or_true, false_or, or_false, false_and, and_false, if_true, if_false, ka_lo, ka_hi, ka_nn, km_sr_sf, km_sr_of, km_up_of, km_sr_us, km_sr_uo, km_sr_sr, km_sr_fl, km_sr_flo, km_up_up, km_up_lt, km_lay, km_unL, km_up_o, km_upx_i, km_upx_s, km_fl2_o, km_is, Option.some.injEq, Sum.inl.injEq, Sum.inr.injEq, Option.toList_some, Option.toList_none, List.cons_append, List.nil_append, ne_eq, true_and, and_true, and_self, not_true_eq_false, not_false_eq_true, true_implies, false_implies, reduceCtorEq]
  | succ n ih =>
    intro a o a0 h
    obtain ⟨i1, i2⟩ := ih (a + 1) (some (.inl a)) (by omega) (by omega)
    obtain ⟨k1, k2⟩ := @lp_quar10 q c s mm F t ht hf a a0 (by omega) Q a.toNat 0 (by decide) (by omega)
    by_cases z : kqq F t a 0 a
    · refine ⟨fun _ => ?_, fun w => absurd ⟨a, Int.le_refl _, by omega, z⟩ w⟩
      rw [g_X12_quarrels_2]
      simp (config := { decide := true }) (disch := first | decide | assumption | omega | (simp (config := { decide := true }) only [km_sr_sf, km_sr_of, km_up_of, km_up_o, km_upx_i, km_upx_s, km_fl2_o, ne_eq, not_true_eq_false, not_false_eq_true] <;> omega) | fail) only [g_X12_quarrels, k1 z, ka_lt, ka_le, ka_nlt, ka_nle, ka_ne, ka_eq, Int.add_sub_cancel, true_or, or_true, false_or, or_false, false_and, and_false, if_true, if_false, ka_lo, ka_hi, ka_nn, km_sr_sf, km_sr_of, km_up_of, km_sr_us, km_sr_uo, km_sr_sr, km_sr_fl, km_sr_flo, km_up_up, km_up_lt, km_lay, km_unL, km_up_o, km_upx_i, km_upx_s, km_fl2_o, km_is, Option.some.injEq, Sum.inl.injEq, Sum.inr.injEq, Option.toList_some, Option.toList_none, List.cons_append, List.nil_append, ne_eq, true_and, and_true, and_self, not_true_eq_false, not_false_eq_true, true_implies, false_implies, reduceCtorEq]
    · have iff : (∃ x : Int, a ≤ x ∧ x < 10 ∧ kqq F t x 0 x) ↔ (∃ x : Int, a + 1 ≤ x ∧ x < 10 ∧ kqq F t x 0 x) := by
        constructor
        · rintro ⟨x, h1, h2, h3⟩
          refine ⟨x, ?_, h2, h3⟩
          by_cases e : x = a
          · subst e; exact absurd h3 z
          · omega
        · rintro ⟨x, h1, h2, h3⟩; exact ⟨x, by omega, h2, h3⟩
      have step : km_G M_X12_quarrels 2 [some (.inr (.inr 123)), some (.inl t), some (.inl a), o] [] (km_A0 q c s) mm Q ↔ km_G M_X12_quarrels 2 [some (.inr (.inr 123)), some (.inl t), some (.inl (a + 1)), some (.inl a)] [] (km_A0 q c s) mm Q := by
        rw [g_X12_quarrels_2]
        simp (config := { decide := true }) (disch := first | decide | assumption | omega | (simp (config := { decide := true }) only [km_sr_sf, km_sr_of, km_up_of, km_up_o, km_upx_i, km_upx_s, km_fl2_o, ne_eq, not_true_eq_false, not_false_eq_true] <;> omega) | fail) only [g_X12_quarrels, k2 z, ka_lt, ka_le, ka_nlt, ka_nle, ka_ne, ka_eq, Int.add_sub_cancel, true_or, or_true, false_or, or_false, false_and, and_false, if_true, if_false, ka_lo, ka_hi, ka_nn, km_sr_sf, km_sr_of, km_up_of, km_sr_us, km_sr_uo, km_sr_sr, km_sr_fl, km_sr_flo, km_up_up, km_up_lt, km_lay, km_unL, km_up_o, km_upx_i, km_upx_s, km_fl2_o, km_is, Option.some.injEq, Sum.inl.injEq, Sum.inr.injEq, Option.toList_some, Option.toList_none, List.cons_append, List.nil_append, ne_eq, true_and, and_true, and_self, not_true_eq_false, not_false_eq_true, true_implies, false_implies, reduceCtorEq]
        rw [g_X12_quarrels_10]
        simp (config := { decide := true }) (disch := first | decide | assumption | omega | (simp (config := { decide := true }) only [km_sr_sf, km_sr_of, km_up_of, km_up_o, km_upx_i, km_upx_s, km_fl2_o, ne_eq, not_true_eq_false, not_false_eq_true] <;> omega) | fail) only [g_X12_quarrels, Int.le_refl, ka_lt, ka_le, ka_nlt, ka_nle, ka_ne, ka_eq, Int.add_sub_cancel, true_or, or_true, false_or, or_false, false_and, and_false, if_true, if_false, ka_lo, ka_hi, ka_nn, km_sr_sf, km_sr_of, km_up_of, km_sr_us, km_sr_uo, km_sr_sr, km_sr_fl, km_sr_flo, km_up_up, km_up_lt, km_lay, km_unL, km_up_o, km_upx_i, km_upx_s, km_fl2_o, km_is, Option.some.injEq, Sum.inl.injEq, Sum.inr.injEq, Option.toList_some, Option.toList_none, List.cons_append, List.nil_append, ne_eq, true_and, and_true, and_self, not_true_eq_false, not_false_eq_true, true_implies, false_implies, reduceCtorEq]
      rw [iff]
      exact ⟨fun w => step.trans (i1 w), fun w => step.trans (i2 w)⟩
theorem md_quarrels {q : Nat × Int × Int × Int × Int} {c s : Nat} {mm : km_Mm} {F : Int → Int} {t : Int} (ht : ten t) (hs : ∀ a b : Int, 0 ≤ a → a < 10 → 0 ≤ b → b < 10 → tb (F b) a = tb (F a) b) (hf : ∀ a b : Int, 0 ≤ b → b < a → a < 10 → mm 164 (10 * a + b) = if tb (F a) b = true then 1 else 0) (Q : Option km_V → km_Al → km_Mm → Prop) :
    km_E M_X12_quarrels [.inr (.inr 123), .inl t] (km_A0 q c s) mm Q ↔ Q (some (.inl (@ite Int (kfd F t) (Classical.propDecidable _) 1 0))) (km_A0 q c s) mm := by
  obtain ⟨i1, i2⟩ := @lp_quar2 q c s mm F t ht hf Q 10 0 none (by decide) (by decide)
  have iff : kfd F t ↔ ∃ x : Int, 0 ≤ x ∧ x < 10 ∧ kqq F t x 0 x := by
    constructor
    · rintro ⟨i, k, i0, ik, k1, ti, tk, fi⟩
      exact ⟨k, by omega, k1, i, i0, ik, tk, ti, by rw [hs i k i0 (by omega) (by omega) k1]; exact fi⟩
    · rintro ⟨k, k0, k1, i, i0, ik, tk, ti, fi⟩
      exact ⟨i, k, i0, ik, k1, ti, tk, by rw [← hs i k i0 (by omega) k0 k1]; exact fi⟩
  by_cases z : kfd F t
  · rw [if_pos z, e_X12_quarrels]
    simp (config := { decide := true }) (disch := first | decide | assumption | omega | (simp (config := { decide := true }) only [km_sr_sf, km_sr_of, km_up_of, km_up_o, km_upx_i, km_upx_s, km_fl2_o, ne_eq, not_true_eq_false, not_false_eq_true] <;> omega) | fail) only [g_X12_quarrels, i1 (iff.mp z), Int.add_sub_cancel, true_or, or_true, false_or, or_false, false_and, and_false, if_true, if_false, ka_lo, ka_hi, ka_nn, km_sr_sf, km_sr_of, km_up_of, km_sr_us, km_sr_uo, km_sr_sr, km_sr_fl, km_sr_flo, km_up_up, km_up_lt, km_lay, km_unL, km_up_o, km_upx_i, km_upx_s, km_fl2_o, km_is, Option.some.injEq, Sum.inl.injEq, Sum.inr.injEq, Option.toList_some, Option.toList_none, List.cons_append, List.nil_append, ne_eq, true_and, and_true, and_self, not_true_eq_false, not_false_eq_true, true_implies, false_implies, reduceCtorEq]
  · rw [if_neg z, e_X12_quarrels]
    simp (config := { decide := true }) (disch := first | decide | assumption | omega | (simp (config := { decide := true }) only [km_sr_sf, km_sr_of, km_up_of, km_up_o, km_upx_i, km_upx_s, km_fl2_o, ne_eq, not_true_eq_false, not_false_eq_true] <;> omega) | fail) only [g_X12_quarrels, i2 (fun w => z (iff.mpr w)), Int.add_sub_cancel, true_or, or_true, false_or, or_false, false_and, and_false, if_true, if_false, ka_lo, ka_hi, ka_nn, km_sr_sf, km_sr_of, km_up_of, km_sr_us, km_sr_uo, km_sr_sr, km_sr_fl, km_sr_flo, km_up_up, km_up_lt, km_lay, km_unL, km_up_o, km_upx_i, km_upx_s, km_fl2_o, km_is, Option.some.injEq, Sum.inl.injEq, Sum.inr.injEq, Option.toList_some, Option.toList_none, List.cons_append, List.nil_append, ne_eq, true_and, and_true, and_self, not_true_eq_false, not_false_eq_true, true_implies, false_implies, reduceCtorEq]
/-- what each of the set adds -/
def kgl (mm : km_Mm) (t k : Int) : Int := if tb t k = true then mm 125 (5 * k + 4) else 0
noncomputable def kgp (mm : km_Mm) (t k : Int) : Int := kcnt (fun i => k < i ∧ ¬ mm 173 (10 * k + i) = 0 ∧ ¬ tb t i = true) 10
noncomputable def kgs (mm : km_Mm) (r t k : Int) : Int := if tb t k = true then (if mm 166 k ≠ -1 ∧ mm 166 k ≠ r then mm 165 2 else 0) + mm 165 1 * kgp mm t k else 0
theorem lp_cost103 {q : Nat × Int × Int × Int × Int} {c s : Nat} {mm : km_Mm} {r t lo su : Int} (ht : ten t) (hp : 0 ≤ mm 165 1 ∧ mm 165 1 ≤ 99) (hs : 0 ≤ su ∧ su ≤ 100000) {k : Int} (k0 : 0 ≤ k) (k1 : k < 10) (Q : Option km_V → km_Al → km_Mm → Prop) :
    ∀ (n i : Nat), i + n = 10 → k < i → (km_G M_X12_bedCost 103 [some (.inr (.inr 123)), some (.inl r), some (.inl t), some (.inl lo), some (.inl (su + mm 165 1 * kcnt (fun i => k < i ∧ ¬ mm 173 (10 * k + i) = 0 ∧ ¬ tb t i = true) i)), some (.inl k), some (.inl (i : Int))] [] (km_A0 q c s) mm Q ↔ km_G M_X12_bedCost 103 [some (.inr (.inr 123)), some (.inl r), some (.inl t), some (.inl lo), some (.inl (su + mm 165 1 * kgp mm t k)), some (.inl k), some (.inl 10)] [] (km_A0 q c s) mm Q) := by
  intro n
  have t2 : t < 2147483648 := by unfold ten at ht; omega
  induction n with
  | zero =>
    intro i h hk
    have e : i = 10 := by omega
    subst e
    exact Iff.rfl
  | succ n ih =>
    intro i h hk
    have i1 := ih (i + 1) (by omega) (by omega)
    have ei : ((i + 1 : Nat) : Int) = (i : Int) + 1 := by omega
    have cb := @kcnt_b (fun i => k < i ∧ ¬ mm 173 (10 * k + i) = 0 ∧ ¬ tb t i = true) i
    have cm := kmul_b hp.1 hp.2 cb.1 (show _ ≤ (10 : Int) by omega)
    have bi := ks_bit (x := t) (k := i) ht.1 t2 (by omega) (by omega)
    rw [← i1, g_X12_bedCost_103, ei]
    by_cases z1 : mm 173 (10 * k + i) = 0
    · have kc := kcnt_no (P := fun i => k < i ∧ ¬ mm 173 (10 * k + i) = 0 ∧ ¬ tb t i = true) (n := i) (fun w => w.2.1 z1)
      simp (config := { decide := true }) (disch := first | decide | assumption | omega | (simp (config := { decide := true }) only [km_sr_sf, km_sr_of, km_up_of, km_up_o, km_upx_i, km_upx_s, km_fl2_o, ne_eq, not_true_eq_false, not_false_eq_true] <;> omega) | fail) only [g_X12_bedCost, z1, kc, Int.add_zero, ka_lt, ka_le, ka_nlt, ka_nle, ka_ne, ka_eq, Int.add_sub_cancel, true_or, or_true, false_or, or_false, false_and, and_false, if_true, if_false, ka_lo, ka_hi, ka_nn, km_sr_sf, km_sr_of, km_up_of, km_sr_us, km_sr_uo, km_sr_sr, km_sr_fl, km_sr_flo, km_up_up, km_up_lt, km_lay, km_unL, km_up_o, km_upx_i, km_upx_s, km_fl2_o, km_is, Option.some.injEq, Sum.inl.injEq, Sum.inr.injEq, Option.toList_some, Option.toList_none, List.cons_append, List.nil_append, ne_eq, true_and, and_true, and_self, not_true_eq_false, not_false_eq_true, true_implies, false_implies, reduceCtorEq]
    · by_cases z2 : tb t i = true
      · have kc := kcnt_no (P := fun i => k < i ∧ ¬ mm 173 (10 * k + i) = 0 ∧ ¬ tb t i = true) (n := i) (fun w => w.2.2 z2)
        rw [if_pos z2] at bi
        simp (config := { decide := true }) (disch := first | decide | assumption | omega | (simp (config := { decide := true }) only [km_sr_sf, km_sr_of, km_up_of, km_up_o, km_upx_i, km_upx_s, km_fl2_o, ne_eq, not_true_eq_false, not_false_eq_true] <;> omega) | fail) only [g_X12_bedCost, z1, bi, kc, Int.add_zero, ka_lt, ka_le, ka_nlt, ka_nle, ka_ne, ka_eq, Int.add_sub_cancel, true_or, or_true, false_or, or_false, false_and, and_false, if_true, if_false, ka_lo, ka_hi, ka_nn, km_sr_sf, km_sr_of, km_up_of, km_sr_us, km_sr_uo, km_sr_sr, km_sr_fl, km_sr_flo, km_up_up, km_up_lt, km_lay, km_unL, km_up_o, km_upx_i, km_upx_s, km_fl2_o, km_is, Option.some.injEq, Sum.inl.injEq, Sum.inr.injEq, Option.toList_some, Option.toList_none, List.cons_append, List.nil_append, ne_eq, true_and, and_true, and_self, not_true_eq_false, not_false_eq_true, true_implies, false_implies, reduceCtorEq]
      · have kc := kcnt_yes (P := fun i => k < i ∧ ¬ mm 173 (10 * k + i) = 0 ∧ ¬ tb t i = true) (n := i) ⟨hk, z1, z2⟩
        rw [if_neg z2] at bi
        have ad : su + mm 165 1 * (kcnt (fun i => k < i ∧ ¬ mm 173 (10 * k + i) = 0 ∧ ¬ tb t i = true) i + 1) = su + mm 165 1 * kcnt (fun i => k < i ∧ ¬ mm 173 (10 * k + i) = 0 ∧ ¬ tb t i = true) i + mm 165 1 := by rw [Int.mul_add]; omega
        simp (config := { decide := true }) (disch := first | decide | assumption | omega | (simp (config := { decide := true }) only [km_sr_sf, km_sr_of, km_up_of, km_up_o, km_upx_i, km_upx_s, km_fl2_o, ne_eq, not_true_eq_false, not_false_eq_true] <;> omega) | fail) only [g_X12_bedCost, z1, bi, kc, ad, ka_lt, ka_le, ka_nlt, ka_nle, ka_ne, ka_eq, Int.add_sub_cancel, true_or, or_true, false_or, or_false, false_and, and_false, if_true, if_false, ka_lo, ka_hi, ka_nn, km_sr_sf, km_sr_of, km_up_of, km_sr_us, km_sr_uo, km_sr_sr, km_sr_fl, km_sr_flo, km_up_up, km_up_lt, km_lay, km_unL, km_up_o, km_upx_i, km_upx_s, km_fl2_o, km_is, Option.some.injEq, Sum.inl.injEq, Sum.inr.injEq, Option.toList_some, Option.toList_none, List.cons_append, List.nil_append, ne_eq, true_and, and_true, and_self, not_true_eq_false, not_false_eq_true, true_implies, false_implies, reduceCtorEq]
theorem lp_cost31 {q : Nat × Int × Int × Int × Int} {c s : Nat} {mm : km_Mm} {r t : Int} (ht : ten t) (hp : ∀ i : Int, 0 ≤ i → i < 3 → 0 ≤ mm 165 i ∧ mm 165 i ≤ 99) (hl : ∀ k : Int, 0 ≤ k → k < 10 → 0 ≤ kgl mm t k ∧ kgl mm t k ≤ 1) (Q : Option km_V → km_Al → km_Mm → Prop) :
    ∀ (n k : Nat) (o : Option km_V), k + n = 10 → ∃ o' : Option km_V, (km_G M_X12_bedCost 31 [some (.inr (.inr 123)), some (.inl r), some (.inl t), some (.inl (ksm (kgl mm t) k)), some (.inl (ksm (kgs mm r t) k)), some (.inl (k : Int)), o] [] (km_A0 q c s) mm Q ↔ km_G M_X12_bedCost 31 [some (.inr (.inr 123)), some (.inl r), some (.inl t), some (.inl (ksm (kgl mm t) 10)), some (.inl (ksm (kgs mm r t) 10)), some (.inl 10), o'] [] (km_A0 q c s) mm Q) := by
  intro n
  have t2 : t < 2147483648 := by unfold ten at ht; omega
  have p1 := hp 1 (by decide) (by decide)
  have p2 := hp 2 (by decide) (by decide)
  have pb : ∀ k, 0 ≤ mm 165 1 * kgp mm t k ∧ mm 165 1 * kgp mm t k ≤ 990 := fun k => by
    have := @kcnt_b (fun i => k < i ∧ ¬ mm 173 (10 * k + i) = 0 ∧ ¬ tb t i = true) 10
    have := kmul_b p1.1 p1.2 this.1 this.2
    unfold kgp; omega
  have sb : ∀ k, 0 ≤ kgs mm r t k ∧ kgs mm r t k ≤ 1089 := fun k => by
    have := pb k
    unfold kgs
    split
    · split <;> omega
    · omega
  induction n with
  | zero =>
    intro k o h
    have e : k = 10 := by omega
    subst e
    exact ⟨o, Iff.rfl⟩
  | succ n ih =>
    intro k o h
    have ek : ((k + 1 : Nat) : Int) = (k : Int) + 1 := by omega
    have bk := ks_bit (x := t) (k := k) ht.1 t2 (by omega) (by omega)
    have lb := ksm_b (g := kgl mm t) (b := 1) k (fun j j0 j1 => hl j j0 (by omega))
    have ub := ksm_b (g := kgs mm r t) (b := 1089) k (fun j j0 j1 => sb j)
    have lk := hl k (by omega) (by omega)
    have s1 : ksm (kgl mm t) (k + 1) = ksm (kgl mm t) k + kgl mm t k := rfl
    have s2 : ksm (kgs mm r t) (k + 1) = ksm (kgs mm r t) k + kgs mm r t k := rfl
    by_cases z : tb t k = true
    · rw [if_pos z] at bk
      have l1 : kgl mm t k = mm 125 (5 * k + 4) := if_pos z
      rw [l1] at lk s1
      obtain ⟨o', i1⟩ := ih (k + 1) (some (.inl 10)) (by omega)
      refine ⟨o', ?_⟩
      have c103 := fun su hs => @lp_cost103 q c s mm r t (ksm (kgl mm t) k + mm 125 (5 * k + 4)) su ht p1 hs k (by omega) (by omega) Q (10 - (k + 1)) (k + 1) (by omega) (by omega)
      have c0 : kcnt (fun i => (k : Int) < i ∧ ¬ mm 173 (10 * (k : Int) + i) = 0 ∧ ¬ tb t i = true) (k + 1) = 0 := kcnt_none _ (fun j j0 j1 w => by omega)
      have pk := pb k
      rw [c0, Int.mul_zero] at c103
      by_cases y : mm 166 k ≠ -1 ∧ mm 166 k ≠ r
      · have g1 : kgs mm r t k = mm 165 2 + mm 165 1 * kgp mm t k := by unfold kgs; rw [if_pos z, if_pos y]
        have c1 := c103 (ksm (kgs mm r t) k + mm 165 2) (by omega)
        rw [Int.add_zero, ek] at c1
        rw [← i1, g_X12_bedCost_31, s1, s2, g1, ek, ← Int.add_assoc]
        simp (config := { decide := true }) (disch := first | decide | assumption | omega | (simp (config := { decide := true }) only [km_sr_sf, km_sr_of, km_up_of, km_up_o, km_upx_i, km_upx_s, km_fl2_o, ne_eq, not_true_eq_false, not_false_eq_true] <;> omega) | fail) only [g_X12_bedCost, bk, y.1, y.2, c1, ka_lt, ka_le, ka_nlt, ka_nle, ka_ne, ka_eq, Int.add_sub_cancel, true_or, or_true, false_or, or_false, false_and, and_false, if_true, if_false, ka_lo, ka_hi, ka_nn, km_sr_sf, km_sr_of, km_up_of, km_sr_us, km_sr_uo, km_sr_sr, km_sr_fl, km_sr_flo, km_up_up, km_up_lt, km_lay, km_unL, km_up_o, km_upx_i, km_upx_s, km_fl2_o, km_is, Option.some.injEq, Sum.inl.injEq, Sum.inr.injEq, Option.toList_some, Option.toList_none, List.cons_append, List.nil_append, ne_eq, true_and, and_true, and_self, not_true_eq_false, not_false_eq_true, true_implies, false_implies, reduceCtorEq]
        rw [g_X12_bedCost_103]
        simp (config := { decide := true }) (disch := first | decide | assumption | omega | (simp (config := { decide := true }) only [km_sr_sf, km_sr_of, km_up_of, km_up_o, km_upx_i, km_upx_s, km_fl2_o, ne_eq, not_true_eq_false, not_false_eq_true] <;> omega) | fail) only [g_X12_bedCost, ka_lt, ka_le, ka_nlt, ka_nle, ka_ne, ka_eq, Int.add_sub_cancel, true_or, or_true, false_or, or_false, false_and, and_false, if_true, if_false, ka_lo, ka_hi, ka_nn, km_sr_sf, km_sr_of, km_up_of, km_sr_us, km_sr_uo, km_sr_sr, km_sr_fl, km_sr_flo, km_up_up, km_up_lt, km_lay, km_unL, km_up_o, km_upx_i, km_upx_s, km_fl2_o, km_is, Option.some.injEq, Sum.inl.injEq, Sum.inr.injEq, Option.toList_some, Option.toList_none, List.cons_append, List.nil_append, ne_eq, true_and, and_true, and_self, not_true_eq_false, not_false_eq_true, true_implies, false_implies, reduceCtorEq]
      · have g1 : kgs mm r t k = 0 + mm 165 1 * kgp mm t k := by unfold kgs; rw [if_pos z, if_neg y]
        have c1 := c103 (ksm (kgs mm r t) k) (by omega)
        rw [Int.add_zero, ek] at c1
        rw [← i1, g_X12_bedCost_31, s1, s2, g1, ek, Int.zero_add]
        by_cases y1 : mm 166 k = -1
        · simp (config := { decide := true }) (disch := first | decide | assumption | omega | (simp (config := { decide := true }) only [km_sr_sf, km_sr_of, km_up_of, km_up_o, km_upx_i, km_upx_s, km_fl2_o, ne_eq, not_true_eq_false, not_false_eq_true] <;> omega) | fail) only [g_X12_bedCost, bk, y1, c1, ka_lt, ka_le, ka_nlt, ka_nle, ka_ne, ka_eq, Int.add_sub_cancel, true_or, or_true, false_or, or_false, false_and, and_false, if_true, if_false, ka_lo, ka_hi, ka_nn, km_sr_sf, km_sr_of, km_up_of, km_sr_us, km_sr_uo, km_sr_sr, km_sr_fl, km_sr_flo, km_up_up, km_up_lt, km_lay, km_unL, km_up_o, km_upx_i, km_upx_s, km_fl2_o, km_is, Option.some.injEq, Sum.inl.injEq, Sum.inr.injEq, Option.toList_some, Option.toList_none, List.cons_append, List.nil_append, ne_eq, true_and, and_true, and_self, not_true_eq_false, not_false_eq_true, true_implies, false_implies, reduceCtorEq]
          rw [g_X12_bedCost_103]
          simp (config := { decide := true }) (disch := first | decide | assumption | omega | (simp (config := { decide := true }) only [km_sr_sf, km_sr_of, km_up_of, km_up_o, km_upx_i, km_upx_s, km_fl2_o, ne_eq, not_true_eq_false, not_false_eq_true] <;> omega) | fail) only [g_X12_bedCost, ka_lt, ka_le, ka_nlt, ka_nle, ka_ne, ka_eq, Int.add_sub_cancel, true_or, or_true, false_or, or_false, false_and, and_false, if_true, if_false, ka_lo, ka_hi, ka_nn, km_sr_sf, km_sr_of, km_up_of, km_sr_us, km_sr_uo, km_sr_sr, km_sr_fl, km_sr_flo, km_up_up, km_up_lt, km_lay, km_unL, km_up_o, km_upx_i, km_upx_s, km_fl2_o, km_is, Option.some.injEq, Sum.inl.injEq, Sum.inr.injEq, Option.toList_some, Option.toList_none, List.cons_append, List.nil_append, ne_eq, true_and, and_true, and_self, not_true_eq_false, not_false_eq_true, true_implies, false_implies, reduceCtorEq]
        · have y2 : mm 166 k = r := Classical.byContradiction fun w => y ⟨y1, w⟩
          rw [y2] at y1
          simp (config := { decide := true }) (disch := first | decide | assumption | omega | (simp (config := { decide := true }) only [km_sr_sf, km_sr_of, km_up_of, km_up_o, km_upx_i, km_upx_s, km_fl2_o, ne_eq, not_true_eq_false, not_false_eq_true] <;> omega) | fail) only [g_X12_bedCost, bk, y1, y2, c1, ka_lt, ka_le, ka_nlt, ka_nle, ka_ne, ka_eq, Int.add_sub_cancel, true_or, or_true, false_or, or_false, false_and, and_false, if_true, if_false, ka_lo, ka_hi, ka_nn, km_sr_sf, km_sr_of, km_up_of, km_sr_us, km_sr_uo, km_sr_sr, km_sr_fl, km_sr_flo, km_up_up, km_up_lt, km_lay, km_unL, km_up_o, km_upx_i, km_upx_s, km_fl2_o, km_is, Option.some.injEq, Sum.inl.injEq, Sum.inr.injEq, Option.toList_some, Option.toList_none, List.cons_append, List.nil_append, ne_eq, true_and, and_true, and_self, not_true_eq_false, not_false_eq_true, true_implies, false_implies, reduceCtorEq]
          rw [g_X12_bedCost_103]
          simp (config := { decide := true }) (disch := first | decide | assumption | omega | (simp (config := { decide := true }) only [km_sr_sf, km_sr_of, km_up_of, km_up_o, km_upx_i, km_upx_s, km_fl2_o, ne_eq, not_true_eq_false, not_false_eq_true] <;> omega) | fail) only [g_X12_bedCost, ka_lt, ka_le, ka_nlt, ka_nle, ka_ne, ka_eq, Int.add_sub_cancel, true_or, or_true, false_or, or_false, false_and, and_false, if_true, if_false, ka_lo, ka_hi, ka_nn, km_sr_sf, km_sr_of, km_up_of, km_sr_us, km_sr_uo, km_sr_sr, km_sr_fl, km_sr_flo, km_up_up, km_up_lt, km_lay, km_unL, km_up_o, km_upx_i, km_upx_s, km_fl2_o, km_is, Option.some.injEq, Sum.inl.injEq, Sum.inr.injEq, Option.toList_some, Option.toList_none, List.cons_append, List.nil_append, ne_eq, true_and, and_true, and_self, not_true_eq_false, not_false_eq_true, true_implies, false_implies, reduceCtorEq]
    · rw [if_neg z] at bk
      obtain ⟨o', i1⟩ := ih (k + 1) o (by omega)
      have l1 : kgl mm t k = 0 := if_neg z
      have g1 : kgs mm r t k = 0 := if_neg z
      refine ⟨o', ?_⟩
      rw [← i1, g_X12_bedCost_31, s1, s2, l1, g1, ek, Int.add_zero, Int.add_zero]
      simp (config := { decide := true }) (disch := first | decide | assumption | omega | (simp (config := { decide := true }) only [km_sr_sf, km_sr_of, km_up_of, km_up_o, km_upx_i, km_upx_s, km_fl2_o, ne_eq, not_true_eq_false, not_false_eq_true] <;> omega) | fail) only [g_X12_bedCost, bk, ka_lt, ka_le, ka_nlt, ka_nle, ka_ne, ka_eq, Int.add_sub_cancel, true_or, or_true, false_or, or_false, false_and, and_false, if_true, if_false, ka_lo, ka_hi, ka_nn, km_sr_sf, km_sr_of, km_up_of, km_sr_us, km_sr_uo, km_sr_sr, km_sr_fl, km_sr_flo, km_up_up, km_up_lt, km_lay, km_unL, km_up_o, km_upx_i, km_upx_s, km_fl2_o, km_is, Option.some.injEq, Sum.inl.injEq, Sum.inr.injEq, Option.toList_some, Option.toList_none, List.cons_append, List.nil_append, ne_eq, true_and, and_true, and_self, not_true_eq_false, not_false_eq_true, true_implies, false_implies, reduceCtorEq]
theorem md_bedCost {q : Nat × Int × Int × Int × Int} {c s : Nat} {mm : km_Mm} {F : Int → Int} {r t : Int} (ht : ten t) (hs : ∀ a b : Int, 0 ≤ a → a < 10 → 0 ≤ b → b < 10 → tb (F b) a = tb (F a) b) (hf : ∀ a b : Int, 0 ≤ b → b < a → a < 10 → mm 164 (10 * a + b) = if tb (F a) b = true then 1 else 0) (hp : ∀ i : Int, 0 ≤ i → i < 3 → 0 ≤ mm 165 i ∧ mm 165 i ≤ 99) (hl : ∀ k : Int, 0 ≤ k → k < 10 → 0 ≤ kgl mm t k ∧ kgl mm t k ≤ 1) (r0 : 0 ≤ r) (r1 : r < 4) (Q : Option km_V → km_Al → km_Mm → Prop) :
    km_E M_X12_bedCost [.inr (.inr 123), .inl r, .inl t] (km_A0 q c s) mm Q ↔ Q (some (.inl (@ite Int (mm 163 r < km_pop t ∨ kfd F t) (Classical.propDecidable _) (-1) (ksm (kgs mm r t) 10 + mm 165 0 * ksm (kgl mm t) 10 * (km_pop t - ksm (kgl mm t) 10))))) (km_A0 q c s) mm := by
  have bt := fun Q => @r_bits q c s t mm ht Q
  have qu := fun Q => @md_quarrels q c s mm F t ht hs hf Q
  rw [e_X12_bedCost]
  by_cases z1 : mm 163 r < km_pop t
  · rw [if_pos (Or.inl z1)]
    simp (config := { decide := true }) (disch := first | decide | assumption | omega | (simp (config := { decide := true }) only [km_sr_sf, km_sr_of, km_up_of, km_up_o, km_upx_i, km_upx_s, km_fl2_o, ne_eq, not_true_eq_false, not_false_eq_true] <;> omega) | fail) only [g_X12_bedCost, bt, z1, ka_lt, ka_le, ka_nlt, ka_nle, ka_ne, ka_eq, Int.add_sub_cancel, true_or, or_true, false_or, or_false, false_and, and_false, if_true, if_false, ka_lo, ka_hi, ka_nn, km_sr_sf, km_sr_of, km_up_of, km_sr_us, km_sr_uo, km_sr_sr, km_sr_fl, km_sr_flo, km_up_up, km_up_lt, km_lay, km_unL, km_up_o, km_upx_i, km_upx_s, km_fl2_o, km_is, Option.some.injEq, Sum.inl.injEq, Sum.inr.injEq, Option.toList_some, Option.toList_none, List.cons_append, List.nil_append, ne_eq, true_and, and_true, and_self, not_true_eq_false, not_false_eq_true, true_implies, false_implies, reduceCtorEq]
  · by_cases z2 : kfd F t
    · rw [if_pos (Or.inr z2)]
      rw [if_pos z2] at qu
      simp (config := { decide := true }) (disch := first | decide | assumption | omega | (simp (config := { decide := true }) only [km_sr_sf, km_sr_of, km_up_of, km_up_o, km_upx_i, km_upx_s, km_fl2_o, ne_eq, not_true_eq_false, not_false_eq_true] <;> omega) | fail) only [g_X12_bedCost, bt, z1, qu, ka_lt, ka_le, ka_nlt, ka_nle, ka_ne, ka_eq, Int.add_sub_cancel, true_or, or_true, false_or, or_false, false_and, and_false, if_true, if_false, ka_lo, ka_hi, ka_nn, km_sr_sf, km_sr_of, km_up_of, km_sr_us, km_sr_uo, km_sr_sr, km_sr_fl, km_sr_flo, km_up_up, km_up_lt, km_lay, km_unL, km_up_o, km_upx_i, km_upx_s, km_fl2_o, km_is, Option.some.injEq, Sum.inl.injEq, Sum.inr.injEq, Option.toList_some, Option.toList_none, List.cons_append, List.nil_append, ne_eq, true_and, and_true, and_self, not_true_eq_false, not_false_eq_true, true_implies, false_implies, reduceCtorEq]
    · rw [if_neg (fun w => w.elim z1 z2)]
      rw [if_neg z2] at qu
      obtain ⟨o', i1⟩ := @lp_cost31 q c s mm r t ht hp hl Q 10 0 none (by omega)
      rw [show ((0 : Nat) : Int) = 0 from rfl, show ksm (kgl mm t) 0 = 0 from rfl, show ksm (kgs mm r t) 0 = 0 from rfl] at i1
      have p1 := hp 1 (by decide) (by decide)
      have p2 := hp 2 (by decide) (by decide)
      have p0 := hp 0 (by decide) (by decide)
      have sb : ∀ k, 0 ≤ kgs mm r t k ∧ kgs mm r t k ≤ 1089 := fun k => by
        have a := @kcnt_b (fun i => k < i ∧ ¬ mm 173 (10 * k + i) = 0 ∧ ¬ tb t i = true) 10
        have a2 := kmul_b p1.1 p1.2 a.1 a.2
        unfold kgs kgp
        split
        · split <;> omega
        · omega
      have lb := ksm_b (g := kgl mm t) (b := 1) 10 (fun j j0 j1 => hl j j0 (by omega))
      have ub := ksm_b (g := kgs mm r t) (b := 1089) 10 (fun j j0 j1 => sb j)
      have pb := @kpop_b t
      have m1 := kmul_b p0.1 p0.2 lb.1 (show _ ≤ (10 : Int) by omega)
      have m2 : -9900 ≤ mm 165 0 * ksm (kgl mm t) 10 * (km_pop t - ksm (kgl mm t) 10) ∧ mm 165 0 * ksm (kgl mm t) 10 * (km_pop t - ksm (kgl mm t) 10) ≤ 9900 := by
        generalize mm 165 0 * ksm (kgl mm t) 10 = P at *
        have e : ∃ d : Int, km_pop t - ksm (kgl mm t) 10 = d ∧ -10 ≤ d ∧ d ≤ 10 := ⟨_, rfl, by omega, by omega⟩
        obtain ⟨d, e1, e2, e3⟩ := e
        rw [e1]
        by_cases z : 0 ≤ d
        · have := kmul_b m1.1 (show P ≤ 990 by omega) z e3; omega
        · have := kmul_b m1.1 (show P ≤ 990 by omega) (show 0 ≤ -d by omega) (show -d ≤ 10 by omega)
          rw [Int.mul_neg] at this; omega
      simp (config := { decide := true }) (disch := first | decide | assumption | omega | (simp (config := { decide := true }) only [km_sr_sf, km_sr_of, km_up_of, km_up_o, km_upx_i, km_upx_s, km_fl2_o, ne_eq, not_true_eq_false, not_false_eq_true] <;> omega) | fail) only [g_X12_bedCost, bt, z1, qu, i1, ka_lt, ka_le, ka_nlt, ka_nle, ka_ne, ka_eq, Int.add_sub_cancel, true_or, or_true, false_or, or_false, false_and, and_false, if_true, if_false, ka_lo, ka_hi, ka_nn, km_sr_sf, km_sr_of, km_up_of, km_sr_us, km_sr_uo, km_sr_sr, km_sr_fl, km_sr_flo, km_up_up, km_up_lt, km_lay, km_unL, km_up_o, km_upx_i, km_upx_s, km_fl2_o, km_is, Option.some.injEq, Sum.inl.injEq, Sum.inr.injEq, Option.toList_some, Option.toList_none, List.cons_append, List.nil_append, ne_eq, true_and, and_true, and_self, not_true_eq_false, not_false_eq_true, true_implies, false_implies, reduceCtorEq]
      rw [g_X12_bedCost_31]
      simp (config := { decide := true }) (disch := first | decide | assumption | omega | (simp (config := { decide := true }) only [km_sr_sf, km_sr_of, km_up_of, km_up_o, km_upx_i, km_upx_s, km_fl2_o, ne_eq, not_true_eq_false, not_false_eq_true] <;> omega) | fail) only [g_X12_bedCost, bt, ka_lt, ka_le, ka_nlt, ka_nle, ka_ne, ka_eq, Int.add_sub_cancel, true_or, or_true, false_or, or_false, false_and, and_false, if_true, if_false, ka_lo, ka_hi, ka_nn, km_sr_sf, km_sr_of, km_up_of, km_sr_us, km_sr_uo, km_sr_sr, km_sr_fl, km_sr_flo, km_up_up, km_up_lt, km_lay, km_unL, km_up_o, km_upx_i, km_upx_s, km_fl2_o, km_is, Option.some.injEq, Sum.inl.injEq, Sum.inr.injEq, Option.toList_some, Option.toList_none, List.cons_append, List.nil_append, ne_eq, true_and, and_true, and_self, not_true_eq_false, not_false_eq_true, true_implies, false_implies, reduceCtorEq]
/-- the DIETS of a set, as bits -/
def kor (mm : km_Mm) (t : Int) : Nat → Int
  | 0 => 0
  | n + 1 => if tb t n = true then km_or (kor mm t n) (km_shl 1 (mm 125 (5 * n + 3))) else kor mm t n
theorem kor_b {mm : km_Mm} {t : Int} (hd : ∀ k : Int, 0 ≤ k → tb t k = true → 0 ≤ mm 125 (5 * k + 3) ∧ mm 125 (5 * k + 3) < 4) : ∀ (n : Nat), ten (kor mm t n) ∧ ∀ d : Int, 0 ≤ d → (tb (kor mm t n) d = true ↔ ∃ k : Int, 0 ≤ k ∧ k < n ∧ tb t k = true ∧ mm 125 (5 * k + 3) = d) := by
  intro n
  induction n with
  | zero => refine ⟨ten_0, fun d d0 => ?_⟩; unfold kor; rw [tb_zero]; constructor; intro w; cases w; rintro ⟨k, h1, h2, _⟩; omega
  | succ n ih =>
    obtain ⟨i1, i2⟩ := ih
    unfold kor
    by_cases z : tb t n = true
    · have h := hd n (by omega) z
      have t1 := ten_one (k := mm 125 (5 * (n : Int) + 3)) h.1 (by omega)
      rw [if_pos z]
      refine ⟨ten_or i1 t1, fun d d0 => ?_⟩
      rw [tb_or i1.1 (by unfold ten at i1; omega) t1.1 (by unfold ten at t1; omega), tb_one h.1 (by omega) d0, Bool.or_eq_true, decide_eq_true_eq, i2 d d0]
      constructor
      · rintro (⟨k, h1, h2, h3⟩ | w)
        · exact ⟨k, h1, by omega, h3⟩
        · exact ⟨n, by omega, by omega, z, w.symm⟩
      · rintro ⟨k, h1, h2, h3, h4⟩
        by_cases e : k = n
        · subst e; exact Or.inr h4.symm
        · exact Or.inl ⟨k, h1, by omega, h3, h4⟩
    · rw [if_neg z]
      refine ⟨i1, fun d d0 => ?_⟩
      rw [i2 d d0]
      constructor
      · rintro ⟨k, h1, h2, h3⟩; exact ⟨k, h1, by omega, h3⟩
      · rintro ⟨k, h1, h2, h3, h4⟩
        by_cases e : k = n
        · subst e; exact absurd h3 z
        · exact ⟨k, h1, by omega, h3, h4⟩
noncomputable def kgf (mm : km_Mm) (t a : Int) : Int := if tb t a = true then kcnt (fun b => tb t b = true ∧ mm 169 (10 * a + b) = 0) a.toNat else 0
theorem lp_fresh69 {q : Nat × Int × Int × Int × Int} {c s : Nat} {mm : km_Mm} {r t di su : Int} (ht : ten t) (hs : 0 ≤ su ∧ su ≤ 100000) {a : Nat} (a1 : a < 10) (Q : Option km_V → km_Al → km_Mm → Prop) :
    ∀ (n b : Nat), b + n = a → (km_G M_X12_fresh 69 [some (.inr (.inr 123)), some (.inl r), some (.inl t), some (.inl di), some (.inl (su + kcnt (fun b => tb t b = true ∧ mm 169 (10 * a + b) = 0) b)), some (.inl (a : Int)), some (.inl (b : Int))] [] (km_A0 q c s) mm Q ↔ km_G M_X12_fresh 69 [some (.inr (.inr 123)), some (.inl r), some (.inl t), some (.inl di), some (.inl (su + kcnt (fun b => tb t b = true ∧ mm 169 (10 * a + b) = 0) a)), some (.inl (a : Int)), some (.inl (a : Int))] [] (km_A0 q c s) mm Q) := by
  intro n
  have t2 : t < 2147483648 := by unfold ten at ht; omega
  induction n with
  | zero =>
    intro b h
    have e : b = a := by omega
    subst e
    exact Iff.rfl
  | succ n ih =>
    intro b h
    have i1 := ih (b + 1) (by omega)
    have ei : ((b + 1 : Nat) : Int) = (b : Int) + 1 := by omega
    have cb := @kcnt_b (fun b => tb t b = true ∧ mm 169 (10 * a + b) = 0) b
    have bi := ks_bit (x := t) (k := b) ht.1 t2 (by omega) (by omega)
    rw [← i1, g_X12_fresh_69, ei]
    by_cases z2 : tb t b = true
    · rw [if_pos z2] at bi
      by_cases z1 : mm 169 (10 * a + b) = 0
      · have kc := kcnt_yes (P := fun b => tb t b = true ∧ mm 169 (10 * a + b) = 0) (n := b) ⟨z2, z1⟩
        have ad : su + (kcnt (fun b => tb t b = true ∧ mm 169 (10 * a + b) = 0) b + 1) = su + kcnt (fun b => tb t b = true ∧ mm 169 (10 * a + b) = 0) b + 1 := by omega
        simp (config := { decide := true }) (disch := first | decide | assumption | omega | (simp (config := { decide := true }) only [km_sr_sf, km_sr_of, km_up_of, km_up_o, km_upx_i, km_upx_s, km_fl2_o, ne_eq, not_true_eq_false, not_false_eq_true] <;> omega) | fail) only [g_X12_fresh, bi, z1, kc, ad, ka_lt, ka_le, ka_nlt, ka_nle, ka_ne, ka_eq, Int.add_sub_cancel, true_or, or_true, false_or, or_false, false_and, and_false, if_true, if_false, ka_lo, ka_hi, ka_nn, km_sr_sf, km_sr_of, km_up_of, km_sr_us, km_sr_uo, km_sr_sr, km_sr_fl, km_sr_flo, km_up_up, km_up_lt, km_lay, km_unL, km_up_o, km_upx_i, km_upx_s, km_fl2_o, km_is, Option.some.injEq, Sum.inl.injEq, Sum.inr.injEq, Option.toList_some, Option.toList_none, List.cons_append, List.nil_append, ne_eq, true_and, and_true, and_self, not_true_eq_false, not_false_eq_true, true_implies, false_implies, reduceCtorEq]
      · have kc := kcnt_no (P := fun b => tb t b = true ∧ mm 169 (10 * a + b) = 0) (n := b) (fun w => z1 w.2)
        simp (config := { decide := true }) (disch := first | decide | assumption | omega | (simp (config := { decide := true }) only [km_sr_sf, km_sr_of, km_up_of, km_up_o, km_upx_i, km_upx_s, km_fl2_o, ne_eq, not_true_eq_false, not_false_eq_true] <;> omega) | fail) only [g_X12_fresh, bi, z1, kc, Int.add_zero, ka_lt, ka_le, ka_nlt, ka_nle, ka_ne, ka_eq, Int.add_sub_cancel, true_or, or_true, false_or, or_false, false_and, and_false, if_true, if_false, ka_lo, ka_hi, ka_nn, km_sr_sf, km_sr_of, km_up_of, km_sr_us, km_sr_uo, km_sr_sr, km_sr_fl, km_sr_flo, km_up_up, km_up_lt, km_lay, km_unL, km_up_o, km_upx_i, km_upx_s, km_fl2_o, km_is, Option.some.injEq, Sum.inl.injEq, Sum.inr.injEq, Option.toList_some, Option.toList_none, List.cons_append, List.nil_append, ne_eq, true_and, and_true, and_self, not_true_eq_false, not_false_eq_true, true_implies, false_implies, reduceCtorEq]
    · rw [if_neg z2] at bi
      have kc := kcnt_no (P := fun b => tb t b = true ∧ mm 169 (10 * a + b) = 0) (n := b) (fun w => z2 w.1)
      simp (config := { decide := true }) (disch := first | decide | assumption | omega | (simp (config := { decide := true }) only [km_sr_sf, km_sr_of, km_up_of, km_up_o, km_upx_i, km_upx_s, km_fl2_o, ne_eq, not_true_eq_false, not_false_eq_true] <;> omega) | fail) only [g_X12_fresh, bi, kc, Int.add_zero, ka_lt, ka_le, ka_nlt, ka_nle, ka_ne, ka_eq, Int.add_sub_cancel, true_or, or_true, false_or, or_false, false_and, and_false, if_true, if_false, ka_lo, ka_hi, ka_nn, km_sr_sf, km_sr_of, km_up_of, km_sr_us, km_sr_uo, km_sr_sr, km_sr_fl, km_sr_flo, km_up_up, km_up_lt, km_lay, km_unL, km_up_o, km_upx_i, km_upx_s, km_fl2_o, km_is, Option.some.injEq, Sum.inl.injEq, Sum.inr.injEq, Option.toList_some, Option.toList_none, List.cons_append, List.nil_append, ne_eq, true_and, and_true, and_self, not_true_eq_false, not_false_eq_true, true_implies, false_implies, reduceCtorEq]
theorem lp_fresh31 {q : Nat × Int × Int × Int × Int} {c s : Nat} {mm : km_Mm} {r t : Int} (ht : ten t) (hd : ∀ k : Int, 0 ≤ k → tb t k = true → 0 ≤ mm 125 (5 * k + 3) ∧ mm 125 (5 * k + 3) < 4) (Q : Option km_V → km_Al → km_Mm → Prop) :
    ∀ (n k : Nat) (o : Option km_V), k + n = 10 → ∃ o' : Option km_V, (km_G M_X12_fresh 31 [some (.inr (.inr 123)), some (.inl r), some (.inl t), some (.inl (kor mm t k)), some (.inl (ksm (kgf mm t) k)), some (.inl (k : Int)), o] [] (km_A0 q c s) mm Q ↔ km_G M_X12_fresh 31 [some (.inr (.inr 123)), some (.inl r), some (.inl t), some (.inl (kor mm t 10)), some (.inl (ksm (kgf mm t) 10)), some (.inl 10), o'] [] (km_A0 q c s) mm Q) := by
  intro n
  have t2 : t < 2147483648 := by unfold ten at ht; omega
  induction n with
  | zero =>
    intro k o h
    have e : k = 10 := by omega
    subst e
    exact ⟨o, Iff.rfl⟩
  | succ n ih =>
    intro k o h
    have ek : ((k + 1 : Nat) : Int) = (k : Int) + 1 := by omega
    have bk := ks_bit (x := t) (k := k) ht.1 t2 (by omega) (by omega)
    have ub := ksm_b (g := kgf mm t) (b := 10) k (fun j j0 j1 => by
      have := @kcnt_b (fun b => tb t b = true ∧ mm 169 (10 * j + b) = 0) j.toNat
      unfold kgf; split <;> omega)
    have s2 : ksm (kgf mm t) (k + 1) = ksm (kgf mm t) k + kgf mm t k := rfl
    by_cases z : tb t k = true
    · rw [if_pos z] at bk
      have s1 : kor mm t (k + 1) = km_or (kor mm t k) (km_shl 1 (mm 125 (5 * k + 3))) := if_pos z
      have g1 : kgf mm t k = kcnt (fun b => tb t b = true ∧ mm 169 (10 * k + b) = 0) k := by
        unfold kgf; rw [if_pos z, show ((k : Int)).toNat = k by omega]
      obtain ⟨o', i1⟩ := ih (k + 1) (some (.inl (k : Int))) (by omega)
      refine ⟨o', ?_⟩
      have c1 := @lp_fresh69 q c s mm r t (km_or (kor mm t k) (km_shl 1 (mm 125 (5 * k + 3)))) (ksm (kgf mm t) k) ht (by omega) k (by omega) Q k 0 (by omega)
      rw [show ((0 : Nat) : Int) = 0 from rfl, show kcnt (fun b => tb t b = true ∧ mm 169 (10 * (k : Int) + b) = 0) 0 = 0 from rfl, Int.add_zero] at c1
      rw [← i1, g_X12_fresh_31, s1, s2, g1, ek]
      simp (config := { decide := true }) (disch := first | decide | assumption | omega | (simp (config := { decide := true }) only [km_sr_sf, km_sr_of, km_up_of, km_up_o, km_upx_i, km_upx_s, km_fl2_o, ne_eq, not_true_eq_false, not_false_eq_true] <;> omega) | fail) only [g_X12_fresh, bk, c1, ka_lt, ka_le, ka_nlt, ka_nle, ka_ne, ka_eq, Int.add_sub_cancel, true_or, or_true, false_or, or_false, false_and, and_false, if_true, if_false, ka_lo, ka_hi, ka_nn, km_sr_sf, km_sr_of, km_up_of, km_sr_us, km_sr_uo, km_sr_sr, km_sr_fl, km_sr_flo, km_up_up, km_up_lt, km_lay, km_unL, km_up_o, km_upx_i, km_upx_s, km_fl2_o, km_is, Option.some.injEq, Sum.inl.injEq, Sum.inr.injEq, Option.toList_some, Option.toList_none, List.cons_append, List.nil_append, ne_eq, true_and, and_true, and_self, not_true_eq_false, not_false_eq_true, true_implies, false_implies, reduceCtorEq]
      rw [g_X12_fresh_69]
      simp (config := { decide := true }) (disch := first | decide | assumption | omega | (simp (config := { decide := true }) only [km_sr_sf, km_sr_of, km_up_of, km_up_o, km_upx_i, km_upx_s, km_fl2_o, ne_eq, not_true_eq_false, not_false_eq_true] <;> omega) | fail) only [g_X12_fresh, Int.le_refl, ka_lt, ka_le, ka_nlt, ka_nle, ka_ne, ka_eq, Int.add_sub_cancel, true_or, or_true, false_or, or_false, false_and, and_false, if_true, if_false, ka_lo, ka_hi, ka_nn, km_sr_sf, km_sr_of, km_up_of, km_sr_us, km_sr_uo, km_sr_sr, km_sr_fl, km_sr_flo, km_up_up, km_up_lt, km_lay, km_unL, km_up_o, km_upx_i, km_upx_s, km_fl2_o, km_is, Option.some.injEq, Sum.inl.injEq, Sum.inr.injEq, Option.toList_some, Option.toList_none, List.cons_append, List.nil_append, ne_eq, true_and, and_true, and_self, not_true_eq_false, not_false_eq_true, true_implies, false_implies, reduceCtorEq]
    · rw [if_neg z] at bk
      obtain ⟨o', i1⟩ := ih (k + 1) o (by omega)
      have s1 : kor mm t (k + 1) = kor mm t k := if_neg z
      have g1 : kgf mm t k = 0 := if_neg z
      refine ⟨o', ?_⟩
      rw [← i1, g_X12_fresh_31, s1, s2, g1, ek, Int.add_zero]
      simp (config := { decide := true }) (disch := first | decide | assumption | omega | (simp (config := { decide := true }) only [km_sr_sf, km_sr_of, km_up_of, km_up_o, km_upx_i, km_upx_s, km_fl2_o, ne_eq, not_true_eq_false, not_false_eq_true] <;> omega) | fail) only [g_X12_fresh, bk, ka_lt, ka_le, ka_nlt, ka_nle, ka_ne, ka_eq, Int.add_sub_cancel, true_or, or_true, false_or, or_false, false_and, and_false, if_true, if_false, ka_lo, ka_hi, ka_nn, km_sr_sf, km_sr_of, km_up_of, km_sr_us, km_sr_uo, km_sr_sr, km_sr_fl, km_sr_flo, km_up_up, km_up_lt, km_lay, km_unL, km_up_o, km_upx_i, km_upx_s, km_fl2_o, km_is, Option.some.injEq, Sum.inl.injEq, Sum.inr.injEq, Option.toList_some, Option.toList_none, List.cons_append, List.nil_append, ne_eq, true_and, and_true, and_self, not_true_eq_false, not_false_eq_true, true_implies, false_implies, reduceCtorEq]
theorem md_fresh {q : Nat × Int × Int × Int × Int} {c s : Nat} {mm : km_Mm} {F : Int → Int} {r t : Int} (ht : ten t) (hs : ∀ a b : Int, 0 ≤ a → a < 10 → 0 ≤ b → b < 10 → tb (F b) a = tb (F a) b) (hf : ∀ a b : Int, 0 ≤ b → b < a → a < 10 → mm 164 (10 * a + b) = if tb (F a) b = true then 1 else 0) (hd : ∀ k : Int, 0 ≤ k → tb t k = true → 0 ≤ mm 125 (5 * k + 3) ∧ mm 125 (5 * k + 3) < 4) (r0 : 0 ≤ r) (r1 : r < 3) (Q : Option km_V → km_Al → km_Mm → Prop) :
    km_E M_X12_fresh [.inr (.inr 123), .inl r, .inl t] (km_A0 q c s) mm Q ↔ Q (some (.inl (@ite Int (mm 167 r < km_pop t ∨ kfd F t ∨ mm 123 87 < km_pop (kor mm t 10)) (Classical.propDecidable _) (-1) (ksm (kgf mm t) 10)))) (km_A0 q c s) mm := by
  have bt := fun Q => @r_bits q c s t mm ht Q
  have qu := fun Q => @md_quarrels q c s mm F t ht hs hf Q
  have kt := (@kor_b mm t hd 10).1
  have bo := fun Q => @r_bits q c s (kor mm t 10) mm kt Q
  rw [e_X12_fresh]
  by_cases z1 : mm 167 r < km_pop t
  · rw [if_pos (Or.inl z1)]
    simp (config := { decide := true }) (disch := first | decide | assumption | omega | (simp (config := { decide := true }) only [km_sr_sf, km_sr_of, km_up_of, km_up_o, km_upx_i, km_upx_s, km_fl2_o, ne_eq, not_true_eq_false, not_false_eq_true] <;> omega) | fail) only [g_X12_fresh, bt, z1, ka_lt, ka_le, ka_nlt, ka_nle, ka_ne, ka_eq, Int.add_sub_cancel, true_or, or_true, false_or, or_false, false_and, and_false, if_true, if_false, ka_lo, ka_hi, ka_nn, km_sr_sf, km_sr_of, km_up_of, km_sr_us, km_sr_uo, km_sr_sr, km_sr_fl, km_sr_flo, km_up_up, km_up_lt, km_lay, km_unL, km_up_o, km_upx_i, km_upx_s, km_fl2_o, km_is, Option.some.injEq, Sum.inl.injEq, Sum.inr.injEq, Option.toList_some, Option.toList_none, List.cons_append, List.nil_append, ne_eq, true_and, and_true, and_self, not_true_eq_false, not_false_eq_true, true_implies, false_implies, reduceCtorEq]
  · by_cases z2 : kfd F t
    · rw [if_pos (Or.inr (Or.inl z2))]
      rw [if_pos z2] at qu
      simp (config := { decide := true }) (disch := first | decide | assumption | omega | (simp (config := { decide := true }) only [km_sr_sf, km_sr_of, km_up_of, km_up_o, km_upx_i, km_upx_s, km_fl2_o, ne_eq, not_true_eq_false, not_false_eq_true] <;> omega) | fail) only [g_X12_fresh, bt, z1, qu, ka_lt, ka_le, ka_nlt, ka_nle, ka_ne, ka_eq, Int.add_sub_cancel, true_or, or_true, false_or, or_false, false_and, and_false, if_true, if_false, ka_lo, ka_hi, ka_nn, km_sr_sf, km_sr_of, km_up_of, km_sr_us, km_sr_uo, km_sr_sr, km_sr_fl, km_sr_flo, km_up_up, km_up_lt, km_lay, km_unL, km_up_o, km_upx_i, km_upx_s, km_fl2_o, km_is, Option.some.injEq, Sum.inl.injEq, Sum.inr.injEq, Option.toList_some, Option.toList_none, List.cons_append, List.nil_append, ne_eq, true_and, and_true, and_self, not_true_eq_false, not_false_eq_true, true_implies, false_implies, reduceCtorEq]
    · rw [if_neg z2] at qu
      obtain ⟨o', i1⟩ := @lp_fresh31 q c s mm r t ht hd Q 10 0 none (by omega)
      rw [show ((0 : Nat) : Int) = 0 from rfl, show kor mm t 0 = 0 from rfl, show ksm (kgf mm t) 0 = 0 from rfl] at i1
      by_cases z3 : mm 123 87 < km_pop (kor mm t 10)
      · rw [if_pos (Or.inr (Or.inr z3))]
        simp (config := { decide := true }) (disch := first | decide | assumption | omega | (simp (config := { decide := true }) only [km_sr_sf, km_sr_of, km_up_of, km_up_o, km_upx_i, km_upx_s, km_fl2_o, ne_eq, not_true_eq_false, not_false_eq_true] <;> omega) | fail) only [g_X12_fresh, bt, z1, qu, i1, ka_lt, ka_le, ka_nlt, ka_nle, ka_ne, ka_eq, Int.add_sub_cancel, true_or, or_true, false_or, or_false, false_and, and_false, if_true, if_false, ka_lo, ka_hi, ka_nn, km_sr_sf, km_sr_of, km_up_of, km_sr_us, km_sr_uo, km_sr_sr, km_sr_fl, km_sr_flo, km_up_up, km_up_lt, km_lay, km_unL, km_up_o, km_upx_i, km_upx_s, km_fl2_o, km_is, Option.some.injEq, Sum.inl.injEq, Sum.inr.injEq, Option.toList_some, Option.toList_none, List.cons_append, List.nil_append, ne_eq, true_and, and_true, and_self, not_true_eq_false, not_false_eq_true, true_implies, false_implies, reduceCtorEq]
        rw [g_X12_fresh_31]
        simp (config := { decide := true }) (disch := first | decide | assumption | omega | (simp (config := { decide := true }) only [km_sr_sf, km_sr_of, km_up_of, km_up_o, km_upx_i, km_upx_s, km_fl2_o, ne_eq, not_true_eq_false, not_false_eq_true] <;> omega) | fail) only [g_X12_fresh, bo, z3, ka_lt, ka_le, ka_nlt, ka_nle, ka_ne, ka_eq, Int.add_sub_cancel, true_or, or_true, false_or, or_false, false_and, and_false, if_true, if_false, ka_lo, ka_hi, ka_nn, km_sr_sf, km_sr_of, km_up_of, km_sr_us, km_sr_uo, km_sr_sr, km_sr_fl, km_sr_flo, km_up_up, km_up_lt, km_lay, km_unL, km_up_o, km_upx_i, km_upx_s, km_fl2_o, km_is, Option.some.injEq, Sum.inl.injEq, Sum.inr.injEq, Option.toList_some, Option.toList_none, List.cons_append, List.nil_append, ne_eq, true_and, and_true, and_self, not_true_eq_false, not_false_eq_true, true_implies, false_implies, reduceCtorEq]
      · rw [if_neg (fun w => w.elim z1 (fun w => w.elim z2 z3))]
        simp (config := { decide := true }) (disch := first | decide | assumption | omega | (simp (config := { decide := true }) only [km_sr_sf, km_sr_of, km_up_of, km_up_o, km_upx_i, km_upx_s, km_fl2_o, ne_eq, not_true_eq_false, not_false_eq_true] <;> omega) | fail) only [g_X12_fresh, bt, z1, qu, i1, ka_lt, ka_le, ka_nlt, ka_nle, ka_ne, ka_eq, Int.add_sub_cancel, true_or, or_true, false_or, or_false, false_and, and_false, if_true, if_false, ka_lo, ka_hi, ka_nn, km_sr_sf, km_sr_of, km_up_of, km_sr_us, km_sr_uo, km_sr_sr, km_sr_fl, km_sr_flo, km_up_up, km_up_lt, km_lay, km_unL, km_up_o, km_upx_i, km_upx_s, km_fl2_o, km_is, Option.some.injEq, Sum.inl.injEq, Sum.inr.injEq, Option.toList_some, Option.toList_none, List.cons_append, List.nil_append, ne_eq, true_and, and_true, and_self, not_true_eq_false, not_false_eq_true, true_implies, false_implies, reduceCtorEq]
        rw [g_X12_fresh_31]
        simp (config := { decide := true }) (disch := first | decide | assumption | omega | (simp (config := { decide := true }) only [km_sr_sf, km_sr_of, km_up_of, km_up_o, km_upx_i, km_upx_s, km_fl2_o, ne_eq, not_true_eq_false, not_false_eq_true] <;> omega) | fail) only [g_X12_fresh, bo, z3, ka_lt, ka_le, ka_nlt, ka_nle, ka_ne, ka_eq, Int.add_sub_cancel, true_or, or_true, false_or, or_false, false_and, and_false, if_true, if_false, ka_lo, ka_hi, ka_nn, km_sr_sf, km_sr_of, km_up_of, km_sr_us, km_sr_uo, km_sr_sr, km_sr_fl, km_sr_flo, km_up_up, km_up_lt, km_lay, km_unL, km_up_o, km_upx_i, km_upx_s, km_fl2_o, km_is, Option.some.injEq, Sum.inl.injEq, Sum.inr.injEq, Option.toList_some, Option.toList_none, List.cons_append, List.nil_append, ne_eq, true_and, and_true, and_self, not_true_eq_false, not_false_eq_true, true_implies, false_implies, reduceCtorEq]

