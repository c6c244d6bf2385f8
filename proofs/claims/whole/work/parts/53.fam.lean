/-! ===== the reference: worlds, climbs, nearest ===== -/
def kq_n (w : Int) (A : Int → Int) (a : Int) : Nat → Int → Int → Int
  | 0, _, x => x
  | n + 1, i, x => kq_n w A a n (i + 1) (x + if km_and (km_shr w i) 1 = 1 ∧ A i = a then 1 else 0)
def kq_w (w : Int) (A pn : Int → Int) (mb : Int) : Nat → Int → Bool
  | 0, _ => true
  | n + 1, a => if 2 < kq_n w A a mb.toNat 0 (pn a) then false else kq_w w A pn mb n (a + 1)
theorem lp_isWorld_20 {q : Nat × Int × Int × Int × Int} {c s : Nat} {Q : Option km_V → km_Al → km_Mm → Prop} {w a : Int} {m : km_Mm} (ha : 0 ≤ a ∧ a < 10) (hk : 0 ≤ m 123 14 ∧ m 123 14 ≤ 6) {R : Int → Prop} (hR1 : ∀ (x : Int) (o4 : Option km_V), 2 < x → (Q (some (.inl 0)) (km_A0 q c s) m ↔ R x)) (hR : ∀ (x : Int) (o4 : Option km_V), ¬ 2 < x → (km_G M_X12_isWorld 2 [some (.inr (.inr 123)), some (.inl w), some (.inl (a + 1)), some (.inl x), o4] [] (km_A0 q c s) m Q ↔ R x)) : ∀ (n : Nat) (i x : Int), 0 ≤ i → i + n = m 123 14 → -100 ≤ x → x + n ≤ 100 → (km_G M_X12_isWorld 20 [some (.inr (.inr 123)), some (.inl w), some (.inl a), some (.inl x), some (.inl i)] [] (km_A0 q c s) (m) Q ↔ R (kq_n w (m 133) a n i x)) := by
  intro n
  induction n with
  | zero =>
    intro i x h0 h1 h2 h3
    have e : m 123 14 ≤ i := by omega
    by_cases z : 2 < x
    · have r1 := hR1 x none z
      have z2 : ¬ x ≤ 2 := by omega
      rw [g_X12_isWorld_20]
      simp (config := { decide := true }) (disch := first | decide | assumption | omega | (simp (config := { decide := true }) only [km_sr_sf, km_sr_of, km_up_of, km_up_o, km_upx_i, km_upx_s, km_fl2_o, ne_eq, not_true_eq_false, not_false_eq_true] <;> omega) | fail) only [g_X12_isWorld, e, z2, kq_n, r1, true_or, or_true, false_or, or_false, false_and, and_false, if_true, if_false, ka_lo, ka_hi, ka_nn, km_sr_sf, km_sr_of, km_up_of, km_sr_us, km_sr_uo, km_sr_sr, km_sr_fl, km_sr_flo, km_up_up, km_up_lt, km_lay, km_unL, km_up_o, km_upx_i, km_upx_s, km_fl2_o, km_is, Option.some.injEq, Sum.inl.injEq, Sum.inr.injEq, Option.toList_some, Option.toList_none, List.cons_append, List.nil_append, ne_eq, true_and, and_true, and_self, not_true_eq_false, not_false_eq_true, true_implies, false_implies, reduceCtorEq]
    · have r1 := fun o4 => hR x o4 z
      have z2 : x ≤ 2 := by omega
      rw [g_X12_isWorld_20]
      simp (config := { decide := true }) (disch := first | decide | assumption | omega | (simp (config := { decide := true }) only [km_sr_sf, km_sr_of, km_up_of, km_up_o, km_upx_i, km_upx_s, km_fl2_o, ne_eq, not_true_eq_false, not_false_eq_true] <;> omega) | fail) only [g_X12_isWorld, e, z2, kq_n, r1, true_or, or_true, false_or, or_false, false_and, and_false, if_true, if_false, ka_lo, ka_hi, ka_nn, km_sr_sf, km_sr_of, km_up_of, km_sr_us, km_sr_uo, km_sr_sr, km_sr_fl, km_sr_flo, km_up_up, km_up_lt, km_lay, km_unL, km_up_o, km_upx_i, km_upx_s, km_fl2_o, km_is, Option.some.injEq, Sum.inl.injEq, Sum.inr.injEq, Option.toList_some, Option.toList_none, List.cons_append, List.nil_append, ne_eq, true_and, and_true, and_self, not_true_eq_false, not_false_eq_true, true_implies, false_implies, reduceCtorEq]
      all_goals (clear hR hR1; grind)
  | succ n ih =>
    intro i x h0 h1 h2 h3
    have e : ¬ m 123 14 ≤ i := by omega
    have e2 : i < 6 := by omega
    rw [g_X12_isWorld_20]
    simp (config := { decide := true }) (disch := first | decide | assumption | omega | (simp (config := { decide := true }) only [km_sr_sf, km_sr_of, km_up_of, km_up_o, km_upx_i, km_upx_s, km_fl2_o, ne_eq, not_true_eq_false, not_false_eq_true] <;> omega) | fail) only [g_X12_isWorld, ih, e, e2, kq_n, h0, h2, h3, true_or, or_true, false_or, or_false, false_and, and_false, if_true, if_false, ka_lo, ka_hi, ka_nn, km_sr_sf, km_sr_of, km_up_of, km_sr_us, km_sr_uo, km_sr_sr, km_sr_fl, km_sr_flo, km_up_up, km_up_lt, km_lay, km_unL, km_up_o, km_upx_i, km_upx_s, km_fl2_o, km_is, Option.some.injEq, Sum.inl.injEq, Sum.inr.injEq, Option.toList_some, Option.toList_none, List.cons_append, List.nil_append, ne_eq, true_and, and_true, and_self, not_true_eq_false, not_false_eq_true, true_implies, false_implies, reduceCtorEq]
    by_cases cc0 : km_and (km_shr w i) 1 = 1 <;> by_cases cc1 : m 133 i = a <;> simp (config := { decide := true }) (disch := first | decide | assumption | omega | (simp (config := { decide := true }) only [km_sr_sf, km_sr_of, km_up_of, km_up_o, km_upx_i, km_upx_s, km_fl2_o, ne_eq, not_true_eq_false, not_false_eq_true] <;> omega) | fail) only [cc0, cc1, ih, e, e2, kq_n, Int.add_zero, if_true, if_false, h0, h2, h3, true_or, or_true, false_or, or_false, false_and, and_false, if_true, if_false, ka_lo, ka_hi, ka_nn, km_sr_sf, km_sr_of, km_up_of, km_sr_us, km_sr_uo, km_sr_sr, km_sr_fl, km_sr_flo, km_up_up, km_up_lt, km_lay, km_unL, km_up_o, km_upx_i, km_upx_s, km_fl2_o, km_is, Option.some.injEq, Sum.inl.injEq, Sum.inr.injEq, Option.toList_some, Option.toList_none, List.cons_append, List.nil_append, ne_eq, true_and, and_true, and_self, not_true_eq_false, not_false_eq_true, true_implies, false_implies, reduceCtorEq] <;> grind
theorem lp_isWorld_2 {q : Nat × Int × Int × Int × Int} {c s : Nat} {w : Int} {m : km_Mm} (hk : 0 ≤ m 123 14 ∧ m 123 14 ≤ 6) (hp : ∀ a : Int, 0 ≤ a → a < 10 → 0 ≤ m 132 a ∧ m 132 a ≤ 2) (h10 : m 123 3 ≤ 10) {Q : Option km_V → km_Al → km_Mm → Prop} : ∀ (n : Nat) (a : Int) (o3 o4 : Option km_V), 0 ≤ a → a + n = m 123 3 → (km_G M_X12_isWorld 2 [some (.inr (.inr 123)), some (.inl w), some (.inl a), o3, o4] [] (km_A0 q c s) (m) Q ↔ Q (some (.inl ((if kq_w w (m 133) (m 132) (m 123 14) n a = true then 1 else 0)))) (km_A0 q c s) (m)) := by
  intro n
  induction n with
  | zero =>
    intro a o3 o4 h0 h1
    have e : m 123 3 ≤ a := by omega
    rw [g_X12_isWorld_2]
    simp (config := { decide := true }) (disch := first | decide | assumption | omega | (simp (config := { decide := true }) only [km_sr_sf, km_sr_of, km_up_of, km_up_o, km_upx_i, km_upx_s, km_fl2_o, ne_eq, not_true_eq_false, not_false_eq_true] <;> omega) | fail) only [g_X12_isWorld, e, kq_w, h0, true_or, or_true, false_or, or_false, false_and, and_false, if_true, if_false, ka_lo, ka_hi, ka_nn, km_sr_sf, km_sr_of, km_up_of, km_sr_us, km_sr_uo, km_sr_sr, km_sr_fl, km_sr_flo, km_up_up, km_up_lt, km_lay, km_unL, km_up_o, km_upx_i, km_upx_s, km_fl2_o, km_is, Option.some.injEq, Sum.inl.injEq, Sum.inr.injEq, Option.toList_some, Option.toList_none, List.cons_append, List.nil_append, ne_eq, true_and, and_true, and_self, not_true_eq_false, not_false_eq_true, true_implies, false_implies, reduceCtorEq]
    all_goals grind
  | succ n ih =>
    intro a o3 o4 h0 h1
    have e : ¬ m 123 3 ≤ a := by omega
    have e2 : a < 10 := by omega
    have e3 := hp a h0 e2
    have i2 := @lp_isWorld_20 q c s Q w a m ⟨h0, e2⟩ hk (fun x => Q (some (.inl (if (if 2 < x then false else kq_w w (m 133) (m 132) (m 123 14) n (a + 1)) = true then 1 else 0))) (km_A0 q c s) m) (fun x o4 z => by rw [if_pos z]; exact Iff.rfl) (fun x o4 z => by rw [if_neg z]; exact ih (a + 1) _ o4 (by omega) (by omega)) (m 123 14).toNat 0 (m 132 a) (by omega) (by omega) (by omega) (by omega)
    rw [g_X12_isWorld_2]
    simp (config := { decide := true }) (disch := first | decide | assumption | omega | (simp (config := { decide := true }) only [km_sr_sf, km_sr_of, km_up_of, km_up_o, km_upx_i, km_upx_s, km_fl2_o, ne_eq, not_true_eq_false, not_false_eq_true] <;> omega) | fail) only [g_X12_isWorld, ih, e, e2, i2, kq_w, h0, true_or, or_true, false_or, or_false, false_and, and_false, if_true, if_false, ka_lo, ka_hi, ka_nn, km_sr_sf, km_sr_of, km_up_of, km_sr_us, km_sr_uo, km_sr_sr, km_sr_fl, km_sr_flo, km_up_up, km_up_lt, km_lay, km_unL, km_up_o, km_upx_i, km_upx_s, km_fl2_o, km_is, Option.some.injEq, Sum.inl.injEq, Sum.inr.injEq, Option.toList_some, Option.toList_none, List.cons_append, List.nil_append, ne_eq, true_and, and_true, and_self, not_true_eq_false, not_false_eq_true, true_implies, false_implies, reduceCtorEq]
    all_goals grind
theorem r_isWorld {q : Nat × Int × Int × Int × Int} {c s : Nat} {w : Int} {m : km_Mm} (hk : 0 ≤ m 123 14 ∧ m 123 14 ≤ 6) (hp : ∀ a : Int, 0 ≤ a → a < 10 → 0 ≤ m 132 a ∧ m 132 a ≤ 2) (h10 : 0 ≤ m 123 3 ∧ m 123 3 ≤ 10) (Q : Option km_V → km_Al → km_Mm → Prop) : km_E M_X12_isWorld [.inr (.inr 123), .inl w] (km_A0 q c s) m Q ↔ Q (some (.inl (if kq_w w (m 133) (m 132) (m 123 14) (m 123 3).toNat 0 = true then 1 else 0))) (km_A0 q c s) m := by
  rw [km_E.of (by decide)]
  show km_G M_X12_isWorld 0 [some (.inr (.inr 123)), some (.inl w), none, none, none] [] (km_A0 q c s) m _ ↔ _
  have h := @lp_isWorld_2 q c s w m hk hp h10.2 Q (m 123 3).toNat 0 none none (by omega) (by omega)
  simp (config := { decide := true }) only [g_X12_isWorld, h, true_or, or_true, false_or, or_false, false_and, and_false, if_true, if_false, km_sr_sf, km_sr_of, km_up_of, km_sr_us, km_sr_uo, km_sr_sr, km_sr_fl, km_sr_flo, km_up_up, km_up_lt, km_lay, km_unL, km_up_o, km_upx_i, km_upx_s, km_fl2_o, km_is, Option.some.injEq, Sum.inl.injEq, Sum.inr.injEq, Option.toList_some, Option.toList_none, List.cons_append, List.nil_append, ne_eq, true_and, and_true, and_self, not_true_eq_false, not_false_eq_true, true_implies, false_implies, reduceCtorEq]
def kb_r (f : Int → Int) : Prop := ∀ x : Int, 0 ≤ x → x < 10 → 0 ≤ f x ∧ f x ≤ 1000000
theorem kb_r_up {f : Int → Int} {x v : Int} (h : kb_r f) (v0 : 0 ≤ v) (v1 : v ≤ 1000000) : kb_r (km_u1 f x v) := by
  intro y y0 y1; unfold km_u1; split; exact ⟨v0, v1⟩; exact h y y0 y1
theorem lp_climbs_113_135 {q : Nat × Int × Int × Int × Int} {c s : Nat} {Q : Option km_V → km_Al → km_Mm → Prop} {fr w y : Int} {m : km_Mm} (hy : 0 ≤ y ∧ y < 10) (hk : 0 ≤ m 123 14 ∧ m 123 14 ≤ 6) (hB : ∀ i : Int, 0 ≤ i → i < m 123 14 → 0 ≤ m 134 i ∧ m 134 i < 10) {R : (Int → Int) → Prop} (hR : ∀ (f : Int → Int) (o5 o6 : Option km_V), kb_r f → (km_G M_X12_climbs 35 [some (.inr (.inr 123)), some (.inr (.inr 135)), some (.inl fr), some (.inl w), some (.inl (y + -1)), o5, o6] [] (km_A0 q c s) (km_sr m 135 f) Q ↔ R f)) : ∀ (n : Nat) (i : Int) (f : Int → Int) (o6 : Option km_V), 0 ≤ i → i + n = m 123 14 → kb_r f → (km_G M_X12_climbs 113 [some (.inr (.inr 123)), some (.inr (.inr 135)), some (.inl fr), some (.inl w), some (.inl y), some (.inl i), o6] [] (km_A0 q c s) (km_sr m 135 f) Q ↔ R (kq_b w (m 133) (m 134) y n i f)) := by
  intro n
  induction n with
  | zero =>
    intro i f o6 h0 h1 h2
    have e : m 123 14 ≤ i := by omega
    have e2 := fun o5 o6 => hR f o5 o6 h2
    rw [g_X12_climbs_113]
    simp (config := { decide := true }) (disch := first | decide | assumption | omega | (simp (config := { decide := true }) only [km_sr_sf, km_sr_of, km_up_of, km_up_o, km_upx_i, km_upx_s, km_fl2_o, ne_eq, not_true_eq_false, not_false_eq_true] <;> omega) | fail) only [g_X12_climbs, e, e2, kq_b, h0, true_or, or_true, false_or, or_false, false_and, and_false, if_true, if_false, ka_lo, ka_hi, ka_nn, km_sr_sf, km_sr_of, km_up_of, km_sr_us, km_sr_uo, km_sr_sr, km_sr_fl, km_sr_flo, km_up_up, km_up_lt, km_lay, km_unL, km_up_o, km_upx_i, km_upx_s, km_fl2_o, km_is, Option.some.injEq, Sum.inl.injEq, Sum.inr.injEq, Option.toList_some, Option.toList_none, List.cons_append, List.nil_append, ne_eq, true_and, and_true, and_self, not_true_eq_false, not_false_eq_true, true_implies, false_implies, reduceCtorEq]
    all_goals (clear hR; grind)
  | succ n ih =>
    intro i f o6 h0 h1 h2
    have e : ¬ m 123 14 ≤ i := by omega
    have e2 : i < 6 := by omega
    have e3 := hB i h0 (by omega)
    have e4 := h2 y hy.1 hy.2
    have e5 := h2 _ e3.1 e3.2
    have i1 := fun o6 => ih (i + 1) f o6 (by omega) (by omega) h2
    by_cases z : f y + 1 < f (m 134 i)
    · have i2 := fun o6 => ih (i + 1) (km_u1 f (m 134 i) (f y + 1)) o6 (by omega) (by omega) (kb_r_up h2 (by omega) (by omega))
      have z2 : ¬ f (m 134 i) ≤ f y + 1 := by omega
      rw [g_X12_climbs_113]
      simp (config := { decide := true }) (disch := first | decide | assumption | omega | (simp (config := { decide := true }) only [km_sr_sf, km_sr_of, km_up_of, km_up_o, km_upx_i, km_upx_s, km_fl2_o, ne_eq, not_true_eq_false, not_false_eq_true] <;> omega) | fail) only [g_X12_climbs, e, e2, e3, e4, e5, i1, i2, z, z2, h0, hy.1, hy.2, kq_b, true_or, or_true, false_or, or_false, false_and, and_false, if_true, if_false, ka_lo, ka_hi, ka_nn, km_sr_sf, km_sr_of, km_up_of, km_sr_us, km_sr_uo, km_sr_sr, km_sr_fl, km_sr_flo, km_up_up, km_up_lt, km_lay, km_unL, km_up_o, km_upx_i, km_upx_s, km_fl2_o, km_is, Option.some.injEq, Sum.inl.injEq, Sum.inr.injEq, Option.toList_some, Option.toList_none, List.cons_append, List.nil_append, ne_eq, true_and, and_true, and_self, not_true_eq_false, not_false_eq_true, true_implies, false_implies, reduceCtorEq]
      by_cases c0 : km_and (km_shr w i) 1 = 1 <;> by_cases c1 : m 133 i = y <;> simp (config := { decide := true }) (disch := first | decide | assumption | omega | (simp (config := { decide := true }) only [km_sr_sf, km_sr_of, km_up_of, km_up_o, km_upx_i, km_upx_s, km_fl2_o, ne_eq, not_true_eq_false, not_false_eq_true] <;> omega) | fail) only [c0, c1, i1, i2, true_or, or_true, false_or, or_false, false_and, and_false, if_true, if_false, ka_lo, ka_hi, ka_nn, km_sr_sf, km_sr_of, km_up_of, km_sr_us, km_sr_uo, km_sr_sr, km_sr_fl, km_sr_flo, km_up_up, km_up_lt, km_lay, km_unL, km_up_o, km_upx_i, km_upx_s, km_fl2_o, km_is, Option.some.injEq, Sum.inl.injEq, Sum.inr.injEq, Option.toList_some, Option.toList_none, List.cons_append, List.nil_append, ne_eq, true_and, and_true, and_self, not_true_eq_false, not_false_eq_true, true_implies, false_implies, reduceCtorEq]
      all_goals (clear ih hR; grind)
    · have z2 : f (m 134 i) ≤ f y + 1 := by omega
      rw [g_X12_climbs_113]
      simp (config := { decide := true }) (disch := first | decide | assumption | omega | (simp (config := { decide := true }) only [km_sr_sf, km_sr_of, km_up_of, km_up_o, km_upx_i, km_upx_s, km_fl2_o, ne_eq, not_true_eq_false, not_false_eq_true] <;> omega) | fail) only [g_X12_climbs, e, e2, e3, e4, e5, i1, z, z2, h0, hy.1, hy.2, kq_b, true_or, or_true, false_or, or_false, false_and, and_false, if_true, if_false, ka_lo, ka_hi, ka_nn, km_sr_sf, km_sr_of, km_up_of, km_sr_us, km_sr_uo, km_sr_sr, km_sr_fl, km_sr_flo, km_up_up, km_up_lt, km_lay, km_unL, km_up_o, km_upx_i, km_upx_s, km_fl2_o, km_is, Option.some.injEq, Sum.inl.injEq, Sum.inr.injEq, Option.toList_some, Option.toList_none, List.cons_append, List.nil_append, ne_eq, true_and, and_true, and_self, not_true_eq_false, not_false_eq_true, true_implies, false_implies, reduceCtorEq]
      by_cases c0 : km_and (km_shr w i) 1 = 1 <;> by_cases c1 : m 133 i = y <;> simp (config := { decide := true }) (disch := first | decide | assumption | omega | (simp (config := { decide := true }) only [km_sr_sf, km_sr_of, km_up_of, km_up_o, km_upx_i, km_upx_s, km_fl2_o, ne_eq, not_true_eq_false, not_false_eq_true] <;> omega) | fail) only [c0, c1, i1, true_or, or_true, false_or, or_false, false_and, and_false, if_true, if_false, ka_lo, ka_hi, ka_nn, km_sr_sf, km_sr_of, km_up_of, km_sr_us, km_sr_uo, km_sr_sr, km_sr_fl, km_sr_flo, km_up_up, km_up_lt, km_lay, km_unL, km_up_o, km_upx_i, km_upx_s, km_fl2_o, km_is, Option.some.injEq, Sum.inl.injEq, Sum.inr.injEq, Option.toList_some, Option.toList_none, List.cons_append, List.nil_append, ne_eq, true_and, and_true, and_self, not_true_eq_false, not_false_eq_true, true_implies, false_implies, reduceCtorEq]
      all_goals (clear ih hR; grind)
theorem lp_climbs_55_135 {q : Nat × Int × Int × Int × Int} {c s : Nat} {Q : Option km_V → km_Al → km_Mm → Prop} {fr w y : Int} {m : km_Mm} (hy : 0 ≤ y ∧ y < 10) (hp : 0 ≤ m 132 y ∧ m 132 y ≤ 2) (hB : ∀ i : Int, 0 ≤ i → i < m 132 y → 0 ≤ m 131 (2 * y + i) ∧ m 131 (2 * y + i) < 10) {R : (Int → Int) → Prop} (hR : ∀ (f : Int → Int) (o6 : Option km_V), kb_r f → (km_G M_X12_climbs 113 [some (.inr (.inr 123)), some (.inr (.inr 135)), some (.inl fr), some (.inl w), some (.inl y), some (.inl 0), o6] [] (km_A0 q c s) (km_sr m 135 f) Q ↔ R f)) : ∀ (n : Nat) (i : Int) (f : Int → Int) (o6 : Option km_V), 0 ≤ i → i + n = m 132 y → kb_r f → (km_G M_X12_climbs 55 [some (.inr (.inr 123)), some (.inr (.inr 135)), some (.inl fr), some (.inl w), some (.inl y), some (.inl i), o6] [] (km_A0 q c s) (km_sr m 135 f) Q ↔ R (kq_a (m 131) y n i f)) := by
  intro n
  induction n with
  | zero =>
    intro i f o6 h0 h1 h2
    have e : m 132 y ≤ i := by omega
    have e2 := fun o6 => hR f o6 h2
    rw [g_X12_climbs_55]
    simp (config := { decide := true }) (disch := first | decide | assumption | omega | (simp (config := { decide := true }) only [km_sr_sf, km_sr_of, km_up_of, km_up_o, km_upx_i, km_upx_s, km_fl2_o, ne_eq, not_true_eq_false, not_false_eq_true] <;> omega) | fail) only [g_X12_climbs, e, e2, hy.1, hy.2, kq_a, h0, true_or, or_true, false_or, or_false, false_and, and_false, if_true, if_false, ka_lo, ka_hi, ka_nn, km_sr_sf, km_sr_of, km_up_of, km_sr_us, km_sr_uo, km_sr_sr, km_sr_fl, km_sr_flo, km_up_up, km_up_lt, km_lay, km_unL, km_up_o, km_upx_i, km_upx_s, km_fl2_o, km_is, Option.some.injEq, Sum.inl.injEq, Sum.inr.injEq, Option.toList_some, Option.toList_none, List.cons_append, List.nil_append, ne_eq, true_and, and_true, and_self, not_true_eq_false, not_false_eq_true, true_implies, false_implies, reduceCtorEq]
    all_goals (clear hR; grind)
  | succ n ih =>
    intro i f o6 h0 h1 h2
    have e : ¬ m 132 y ≤ i := by omega
    have e2 : i < 2 := by omega
    have e3 := hB i h0 (by omega)
    have e4 := h2 y hy.1 hy.2
    have e5 := h2 _ e3.1 e3.2
    have e6 : 2 * y + i < 20 := by omega
    have i1 := fun o6 => ih (i + 1) f o6 (by omega) (by omega) h2
    by_cases z : f y + 1 < f (m 131 (2 * y + i))
    · have i2 := fun o6 => ih (i + 1) (km_u1 f (m 131 (2 * y + i)) (f y + 1)) o6 (by omega) (by omega) (kb_r_up h2 (by omega) (by omega))
      have z2 : ¬ f (m 131 (2 * y + i)) ≤ f y + 1 := by omega
      rw [g_X12_climbs_55]
      simp (config := { decide := true }) (disch := first | decide | assumption | omega | (simp (config := { decide := true }) only [km_sr_sf, km_sr_of, km_up_of, km_up_o, km_upx_i, km_upx_s, km_fl2_o, ne_eq, not_true_eq_false, not_false_eq_true] <;> omega) | fail) only [g_X12_climbs, e, e2, e3, e4, e5, e6, i1, i2, z, z2, h0, hy.1, hy.2, kq_a, true_or, or_true, false_or, or_false, false_and, and_false, if_true, if_false, ka_lo, ka_hi, ka_nn, km_sr_sf, km_sr_of, km_up_of, km_sr_us, km_sr_uo, km_sr_sr, km_sr_fl, km_sr_flo, km_up_up, km_up_lt, km_lay, km_unL, km_up_o, km_upx_i, km_upx_s, km_fl2_o, km_is, Option.some.injEq, Sum.inl.injEq, Sum.inr.injEq, Option.toList_some, Option.toList_none, List.cons_append, List.nil_append, ne_eq, true_and, and_true, and_self, not_true_eq_false, not_false_eq_true, true_implies, false_implies, reduceCtorEq]
      all_goals (clear ih hR; grind)
    · have z2 : f (m 131 (2 * y + i)) ≤ f y + 1 := by omega
      rw [g_X12_climbs_55]
      simp (config := { decide := true }) (disch := first | decide | assumption | omega | (simp (config := { decide := true }) only [km_sr_sf, km_sr_of, km_up_of, km_up_o, km_upx_i, km_upx_s, km_fl2_o, ne_eq, not_true_eq_false, not_false_eq_true] <;> omega) | fail) only [g_X12_climbs, e, e2, e3, e4, e5, e6, i1, z, z2, h0, hy.1, hy.2, kq_a, true_or, or_true, false_or, or_false, false_and, and_false, if_true, if_false, ka_lo, ka_hi, ka_nn, km_sr_sf, km_sr_of, km_up_of, km_sr_us, km_sr_uo, km_sr_sr, km_sr_fl, km_sr_flo, km_up_up, km_up_lt, km_lay, km_unL, km_up_o, km_upx_i, km_upx_s, km_fl2_o, km_is, Option.some.injEq, Sum.inl.injEq, Sum.inr.injEq, Option.toList_some, Option.toList_none, List.cons_append, List.nil_append, ne_eq, true_and, and_true, and_self, not_true_eq_false, not_false_eq_true, true_implies, false_implies, reduceCtorEq]
      all_goals (clear ih hR; grind)
theorem lp_climbs_113_136 {q : Nat × Int × Int × Int × Int} {c s : Nat} {Q : Option km_V → km_Al → km_Mm → Prop} {fr w y : Int} {m : km_Mm} (hy : 0 ≤ y ∧ y < 10) (hk : 0 ≤ m 123 14 ∧ m 123 14 ≤ 6) (hB : ∀ i : Int, 0 ≤ i → i < m 123 14 → 0 ≤ m 134 i ∧ m 134 i < 10) {R : (Int → Int) → Prop} (hR : ∀ (f : Int → Int) (o5 o6 : Option km_V), kb_r f → (km_G M_X12_climbs 35 [some (.inr (.inr 123)), some (.inr (.inr 136)), some (.inl fr), some (.inl w), some (.inl (y + -1)), o5, o6] [] (km_A0 q c s) (km_sr m 136 f) Q ↔ R f)) : ∀ (n : Nat) (i : Int) (f : Int → Int) (o6 : Option km_V), 0 ≤ i → i + n = m 123 14 → kb_r f → (km_G M_X12_climbs 113 [some (.inr (.inr 123)), some (.inr (.inr 136)), some (.inl fr), some (.inl w), some (.inl y), some (.inl i), o6] [] (km_A0 q c s) (km_sr m 136 f) Q ↔ R (kq_b w (m 133) (m 134) y n i f)) := by
  intro n
  induction n with
  | zero =>
    intro i f o6 h0 h1 h2
    have e : m 123 14 ≤ i := by omega
    have e2 := fun o5 o6 => hR f o5 o6 h2
    rw [g_X12_climbs_113]
    simp (config := { decide := true }) (disch := first | decide | assumption | omega | (simp (config := { decide := true }) only [km_sr_sf, km_sr_of, km_up_of, km_up_o, km_upx_i, km_upx_s, km_fl2_o, ne_eq, not_true_eq_false, not_false_eq_true] <;> omega) | fail) only [g_X12_climbs, e, e2, kq_b, h0, true_or, or_true, false_or, or_false, false_and, and_false, if_true, if_false, ka_lo, ka_hi, ka_nn, km_sr_sf, km_sr_of, km_up_of, km_sr_us, km_sr_uo, km_sr_sr, km_sr_fl, km_sr_flo, km_up_up, km_up_lt, km_lay, km_unL, km_up_o, km_upx_i, km_upx_s, km_fl2_o, km_is, Option.some.injEq, Sum.inl.injEq, Sum.inr.injEq, Option.toList_some, Option.toList_none, List.cons_append, List.nil_append, ne_eq, true_and, and_true, and_self, not_true_eq_false, not_false_eq_true, true_implies, false_implies, reduceCtorEq]
    all_goals (clear hR; grind)
  | succ n ih =>
    intro i f o6 h0 h1 h2
    have e : ¬ m 123 14 ≤ i := by omega
    have e2 : i < 6 := by omega
    have e3 := hB i h0 (by omega)
    have e4 := h2 y hy.1 hy.2
    have e5 := h2 _ e3.1 e3.2
    have i1 := fun o6 => ih (i + 1) f o6 (by omega) (by omega) h2
    by_cases z : f y + 1 < f (m 134 i)
    · have i2 := fun o6 => ih (i + 1) (km_u1 f (m 134 i) (f y + 1)) o6 (by omega) (by omega) (kb_r_up h2 (by omega) (by omega))
      have z2 : ¬ f (m 134 i) ≤ f y + 1 := by omega
      rw [g_X12_climbs_113]
      simp (config := { decide := true }) (disch := first | decide | assumption | omega | (simp (config := { decide := true }) only [km_sr_sf, km_sr_of, km_up_of, km_up_o, km_upx_i, km_upx_s, km_fl2_o, ne_eq, not_true_eq_false, not_false_eq_true] <;> omega) | fail) only [g_X12_climbs, e, e2, e3, e4, e5, i1, i2, z, z2, h0, hy.1, hy.2, kq_b, true_or, or_true, false_or, or_false, false_and, and_false, if_true, if_false, ka_lo, ka_hi, ka_nn, km_sr_sf, km_sr_of, km_up_of, km_sr_us, km_sr_uo, km_sr_sr, km_sr_fl, km_sr_flo, km_up_up, km_up_lt, km_lay, km_unL, km_up_o, km_upx_i, km_upx_s, km_fl2_o, km_is, Option.some.injEq, Sum.inl.injEq, Sum.inr.injEq, Option.toList_some, Option.toList_none, List.cons_append, List.nil_append, ne_eq, true_and, and_true, and_self, not_true_eq_false, not_false_eq_true, true_implies, false_implies, reduceCtorEq]
      by_cases c0 : km_and (km_shr w i) 1 = 1 <;> by_cases c1 : m 133 i = y <;> simp (config := { decide := true }) (disch := first | decide | assumption | omega | (simp (config := { decide := true }) only [km_sr_sf, km_sr_of, km_up_of, km_up_o, km_upx_i, km_upx_s, km_fl2_o, ne_eq, not_true_eq_false, not_false_eq_true] <;> omega) | fail) only [c0, c1, i1, i2, true_or, or_true, false_or, or_false, false_and, and_false, if_true, if_false, ka_lo, ka_hi, ka_nn, km_sr_sf, km_sr_of, km_up_of, km_sr_us, km_sr_uo, km_sr_sr, km_sr_fl, km_sr_flo, km_up_up, km_up_lt, km_lay, km_unL, km_up_o, km_upx_i, km_upx_s, km_fl2_o, km_is, Option.some.injEq, Sum.inl.injEq, Sum.inr.injEq, Option.toList_some, Option.toList_none, List.cons_append, List.nil_append, ne_eq, true_and, and_true, and_self, not_true_eq_false, not_false_eq_true, true_implies, false_implies, reduceCtorEq]
      all_goals (clear ih hR; grind)
    · have z2 : f (m 134 i) ≤ f y + 1 := by omega
      rw [g_X12_climbs_113]
      simp (config := { decide := true }) (disch := first | decide | assumption | omega | (simp (config := { decide := true }) only [km_sr_sf, km_sr_of, km_up_of, km_up_o, km_upx_i, km_upx_s, km_fl2_o, ne_eq, not_true_eq_false, not_false_eq_true] <;> omega) | fail) only [g_X12_climbs, e, e2, e3, e4, e5, i1, z, z2, h0, hy.1, hy.2, kq_b, true_or, or_true, false_or, or_false, false_and, and_false, if_true, if_false, ka_lo, ka_hi, ka_nn, km_sr_sf, km_sr_of, km_up_of, km_sr_us, km_sr_uo, km_sr_sr, km_sr_fl, km_sr_flo, km_up_up, km_up_lt, km_lay, km_unL, km_up_o, km_upx_i, km_upx_s, km_fl2_o, km_is, Option.some.injEq, Sum.inl.injEq, Sum.inr.injEq, Option.toList_some, Option.toList_none, List.cons_append, List.nil_append, ne_eq, true_and, and_true, and_self, not_true_eq_false, not_false_eq_true, true_implies, false_implies, reduceCtorEq]
      by_cases c0 : km_and (km_shr w i) 1 = 1 <;> by_cases c1 : m 133 i = y <;> simp (config := { decide := true }) (disch := first | decide | assumption | omega | (simp (config := { decide := true }) only [km_sr_sf, km_sr_of, km_up_of, km_up_o, km_upx_i, km_upx_s, km_fl2_o, ne_eq, not_true_eq_false, not_false_eq_true] <;> omega) | fail) only [c0, c1, i1, true_or, or_true, false_or, or_false, false_and, and_false, if_true, if_false, ka_lo, ka_hi, ka_nn, km_sr_sf, km_sr_of, km_up_of, km_sr_us, km_sr_uo, km_sr_sr, km_sr_fl, km_sr_flo, km_up_up, km_up_lt, km_lay, km_unL, km_up_o, km_upx_i, km_upx_s, km_fl2_o, km_is, Option.some.injEq, Sum.inl.injEq, Sum.inr.injEq, Option.toList_some, Option.toList_none, List.cons_append, List.nil_append, ne_eq, true_and, and_true, and_self, not_true_eq_false, not_false_eq_true, true_implies, false_implies, reduceCtorEq]
      all_goals (clear ih hR; grind)
theorem lp_climbs_55_136 {q : Nat × Int × Int × Int × Int} {c s : Nat} {Q : Option km_V → km_Al → km_Mm → Prop} {fr w y : Int} {m : km_Mm} (hy : 0 ≤ y ∧ y < 10) (hp : 0 ≤ m 132 y ∧ m 132 y ≤ 2) (hB : ∀ i : Int, 0 ≤ i → i < m 132 y → 0 ≤ m 131 (2 * y + i) ∧ m 131 (2 * y + i) < 10) {R : (Int → Int) → Prop} (hR : ∀ (f : Int → Int) (o6 : Option km_V), kb_r f → (km_G M_X12_climbs 113 [some (.inr (.inr 123)), some (.inr (.inr 136)), some (.inl fr), some (.inl w), some (.inl y), some (.inl 0), o6] [] (km_A0 q c s) (km_sr m 136 f) Q ↔ R f)) : ∀ (n : Nat) (i : Int) (f : Int → Int) (o6 : Option km_V), 0 ≤ i → i + n = m 132 y → kb_r f → (km_G M_X12_climbs 55 [some (.inr (.inr 123)), some (.inr (.inr 136)), some (.inl fr), some (.inl w), some (.inl y), some (.inl i), o6] [] (km_A0 q c s) (km_sr m 136 f) Q ↔ R (kq_a (m 131) y n i f)) := by
  intro n
  induction n with
  | zero =>
    intro i f o6 h0 h1 h2
    have e : m 132 y ≤ i := by omega
    have e2 := fun o6 => hR f o6 h2
    rw [g_X12_climbs_55]
    simp (config := { decide := true }) (disch := first | decide | assumption | omega | (simp (config := { decide := true }) only [km_sr_sf, km_sr_of, km_up_of, km_up_o, km_upx_i, km_upx_s, km_fl2_o, ne_eq, not_true_eq_false, not_false_eq_true] <;> omega) | fail) only [g_X12_climbs, e, e2, hy.1, hy.2, kq_a, h0, true_or, or_true, false_or, or_false, false_and, and_false, if_true, if_false, ka_lo, ka_hi, ka_nn, km_sr_sf, km_sr_of, km_up_of, km_sr_us, km_sr_uo, km_sr_sr, km_sr_fl, km_sr_flo, km_up_up, km_up_lt, km_lay, km_unL, km_up_o, km_upx_i, km_upx_s, km_fl2_o, km_is, Option.some.injEq, Sum.inl.injEq, Sum.inr.injEq, Option.toList_some, Option.toList_none, List.cons_append, List.nil_append, ne_eq, true_and, and_true, and_self, not_true_eq_false, not_false_eq_true, true_implies, false_implies, reduceCtorEq]
    all_goals (clear hR; grind)
  | succ n ih =>
    intro i f o6 h0 h1 h2
    have e : ¬ m 132 y ≤ i := by omega
    have e2 : i < 2 := by omega
    have e3 := hB i h0 (by omega)
    have e4 := h2 y hy.1 hy.2
    have e5 := h2 _ e3.1 e3.2
    have e6 : 2 * y + i < 20 := by omega
    have i1 := fun o6 => ih (i + 1) f o6 (by omega) (by omega) h2
    by_cases z : f y + 1 < f (m 131 (2 * y + i))
    · have i2 := fun o6 => ih (i + 1) (km_u1 f (m 131 (2 * y + i)) (f y + 1)) o6 (by omega) (by omega) (kb_r_up h2 (by omega) (by omega))
      have z2 : ¬ f (m 131 (2 * y + i)) ≤ f y + 1 := by omega
      rw [g_X12_climbs_55]
      simp (config := { decide := true }) (disch := first | decide | assumption | omega | (simp (config := { decide := true }) only [km_sr_sf, km_sr_of, km_up_of, km_up_o, km_upx_i, km_upx_s, km_fl2_o, ne_eq, not_true_eq_false, not_false_eq_true] <;> omega) | fail) only [g_X12_climbs, e, e2, e3, e4, e5, e6, i1, i2, z, z2, h0, hy.1, hy.2, kq_a, true_or, or_true, false_or, or_false, false_and, and_false, if_true, if_false, ka_lo, ka_hi, ka_nn, km_sr_sf, km_sr_of, km_up_of, km_sr_us, km_sr_uo, km_sr_sr, km_sr_fl, km_sr_flo, km_up_up, km_up_lt, km_lay, km_unL, km_up_o, km_upx_i, km_upx_s, km_fl2_o, km_is, Option.some.injEq, Sum.inl.injEq, Sum.inr.injEq, Option.toList_some, Option.toList_none, List.cons_append, List.nil_append, ne_eq, true_and, and_true, and_self, not_true_eq_false, not_false_eq_true, true_implies, false_implies, reduceCtorEq]
      all_goals (clear ih hR; grind)
    · have z2 : f (m 131 (2 * y + i)) ≤ f y + 1 := by omega
      rw [g_X12_climbs_55]
      simp (config := { decide := true }) (disch := first | decide | assumption | omega | (simp (config := { decide := true }) only [km_sr_sf, km_sr_of, km_up_of, km_up_o, km_upx_i, km_upx_s, km_fl2_o, ne_eq, not_true_eq_false, not_false_eq_true] <;> omega) | fail) only [g_X12_climbs, e, e2, e3, e4, e5, e6, i1, z, z2, h0, hy.1, hy.2, kq_a, true_or, or_true, false_or, or_false, false_and, and_false, if_true, if_false, ka_lo, ka_hi, ka_nn, km_sr_sf, km_sr_of, km_up_of, km_sr_us, km_sr_uo, km_sr_sr, km_sr_fl, km_sr_flo, km_up_up, km_up_lt, km_lay, km_unL, km_up_o, km_upx_i, km_upx_s, km_fl2_o, km_is, Option.some.injEq, Sum.inl.injEq, Sum.inr.injEq, Option.toList_some, Option.toList_none, List.cons_append, List.nil_append, ne_eq, true_and, and_true, and_self, not_true_eq_false, not_false_eq_true, true_implies, false_implies, reduceCtorEq]
      all_goals (clear ih hR; grind)
theorem kq_a_r {pr : Int → Int} {y : Int} (hy : 0 ≤ y ∧ y < 10) : ∀ (n : Nat) (i : Int) (f : Int → Int), kb_r f → kb_r (kq_a pr y n i f) := by
  intro n
  induction n with
  | zero => intro i f h; exact h
  | succ n ih =>
    intro i f h
    unfold kq_a
    refine ih _ _ ?_
    split
    · have := h y hy.1 hy.2
      by_cases z : f y + 1 ≤ 1000000
      · exact kb_r_up h (by omega) z
      · next z2 =>
        intro x x0 x1
        unfold km_u1
        split
        · next e => have := h x x0 x1; subst e; omega
        · exact h x x0 x1
    · exact h
theorem kq_b_r {A B : Int → Int} {w y : Int} (hy : 0 ≤ y ∧ y < 10) : ∀ (n : Nat) (i : Int) (f : Int → Int), kb_r f → kb_r (kq_b w A B y n i f) := by
  intro n
  induction n with
  | zero => intro i f h; exact h
  | succ n ih =>
    intro i f h
    unfold kq_b
    refine ih _ _ ?_
    split
    · next z =>
      have := h y hy.1 hy.2
      intro x x0 x1
      unfold km_u1
      split
      · next e => have := h x x0 x1; subst e; omega
      · exact h x x0 x1
    · exact h
theorem lp_climbs_35_135 {q : Nat × Int × Int × Int × Int} {c s : Nat} {fr w : Int} {m : km_Mm} (hk : 0 ≤ m 123 14 ∧ m 123 14 ≤ 6) (hB : ∀ i : Int, 0 ≤ i → i < m 123 14 → 0 ≤ m 134 i ∧ m 134 i < 10) (hp : ∀ y : Int, 0 ≤ y → y < 10 → (0 ≤ m 132 y ∧ m 132 y ≤ 2) ∧ ∀ i : Int, 0 ≤ i → i < m 132 y → 0 ≤ m 131 (2 * y + i) ∧ m 131 (2 * y + i) < 10) {Q : Option km_V → km_Al → km_Mm → Prop} : ∀ (n : Nat) (f : Int → Int) (o5 o6 : Option km_V), (n : Int) ≤ 10 → kb_r f → (km_G M_X12_climbs 35 [some (.inr (.inr 123)), some (.inr (.inr 135)), some (.inl fr), some (.inl w), some (.inl ((n : Int) - 1)), o5, o6] [] (km_A0 q c s) (km_sr m 135 f) Q ↔ Q none (km_A0 q c s) (km_sr m 135 (kq_c w (m 132) (m 131) (m 133) (m 134) (m 123 14) n f))) := by
  intro n
  induction n with
  | zero =>
    intro f o5 o6 h0 h1
    rw [g_X12_climbs_35]
    simp (config := { decide := true }) (disch := first | decide | assumption | omega | (simp (config := { decide := true }) only [km_sr_sf, km_sr_of, km_up_of, km_up_o, km_upx_i, km_upx_s, km_fl2_o, ne_eq, not_true_eq_false, not_false_eq_true] <;> omega) | fail) only [g_X12_climbs, kq_c, h0, true_or, or_true, false_or, or_false, false_and, and_false, if_true, if_false, ka_lo, ka_hi, ka_nn, km_sr_sf, km_sr_of, km_up_of, km_sr_us, km_sr_uo, km_sr_sr, km_sr_fl, km_sr_flo, km_up_up, km_up_lt, km_lay, km_unL, km_up_o, km_upx_i, km_upx_s, km_fl2_o, km_is, Option.some.injEq, Sum.inl.injEq, Sum.inr.injEq, Option.toList_some, Option.toList_none, List.cons_append, List.nil_append, ne_eq, true_and, and_true, and_self, not_true_eq_false, not_false_eq_true, true_implies, false_implies, reduceCtorEq]
    all_goals grind
  | succ n ih =>
    intro f o5 o6 h0 h1
    have e : ((n + 1 : Nat) : Int) - 1 = n := by omega
    have e1 : (n : Int) + -1 = n - 1 := by omega
    have e2 : ¬ (n : Int) < 0 := by omega
    have e3 : (n : Int) < 10 := by omega
    have e4 : (0 : Int) ≤ n := by omega
    obtain ⟨p1, p2⟩ := hp n e4 e3
    rw [e]
    have i1 := fun f o5 o6 (z : kb_r f) => ih f o5 o6 (by omega) z
    by_cases z : f n = 1000000
    · rw [g_X12_climbs_35]
      simp (config := { decide := true }) (disch := first | decide | assumption | omega | (simp (config := { decide := true }) only [km_sr_sf, km_sr_of, km_up_of, km_up_o, km_upx_i, km_upx_s, km_fl2_o, ne_eq, not_true_eq_false, not_false_eq_true] <;> omega) | fail) only [g_X12_climbs, e1, e2, e3, e4, z, i1, h1, kq_c, true_or, or_true, false_or, or_false, false_and, and_false, if_true, if_false, ka_lo, ka_hi, ka_nn, km_sr_sf, km_sr_of, km_up_of, km_sr_us, km_sr_uo, km_sr_sr, km_sr_fl, km_sr_flo, km_up_up, km_up_lt, km_lay, km_unL, km_up_o, km_upx_i, km_upx_s, km_fl2_o, km_is, Option.some.injEq, Sum.inl.injEq, Sum.inr.injEq, Option.toList_some, Option.toList_none, List.cons_append, List.nil_append, ne_eq, true_and, and_true, and_self, not_true_eq_false, not_false_eq_true, true_implies, false_implies, reduceCtorEq]
      done
    have k2 := fun f o6 (z : kb_r f) => @lp_climbs_113_135 q c s Q fr w n m ⟨e4, e3⟩ hk hB (fun g => Q none (km_A0 q c s) (km_sr m 135 (kq_c w (m 132) (m 131) (m 133) (m 134) (m 123 14) n g))) (fun f o5 o6 z => by rw [e1]; exact i1 f o5 o6 z) (m 123 14).toNat 0 f o6 (by omega) (by omega) z
    have k1 := fun f o6 (z : kb_r f) => @lp_climbs_55_135 q c s Q fr w n m ⟨e4, e3⟩ p1 p2 (fun g => Q none (km_A0 q c s) (km_sr m 135 (kq_c w (m 132) (m 131) (m 133) (m 134) (m 123 14) n (kq_b w (m 133) (m 134) n (m 123 14).toNat 0 g)))) (fun f o6 z => k2 f o6 z) (m 132 n).toNat 0 f o6 (by omega) (by omega) z
    have k1 := fun o6 => k1 f o6 h1
    rw [g_X12_climbs_35]
    simp (config := { decide := true }) (disch := first | decide | assumption | omega | (simp (config := { decide := true }) only [km_sr_sf, km_sr_of, km_up_of, km_up_o, km_upx_i, km_upx_s, km_fl2_o, ne_eq, not_true_eq_false, not_false_eq_true] <;> omega) | fail) only [g_X12_climbs, e1, e2, e3, e4, z, k1, kq_c, true_or, or_true, false_or, or_false, false_and, and_false, if_true, if_false, ka_lo, ka_hi, ka_nn, km_sr_sf, km_sr_of, km_up_of, km_sr_us, km_sr_uo, km_sr_sr, km_sr_fl, km_sr_flo, km_up_up, km_up_lt, km_lay, km_unL, km_up_o, km_upx_i, km_upx_s, km_fl2_o, km_is, Option.some.injEq, Sum.inl.injEq, Sum.inr.injEq, Option.toList_some, Option.toList_none, List.cons_append, List.nil_append, ne_eq, true_and, and_true, and_self, not_true_eq_false, not_false_eq_true, true_implies, false_implies, reduceCtorEq]
def kq_i_135 (fr : Int) (f : Int → Int) (k : Int) : Int → Int := fun j => if k ≤ j ∧ j < 10 then (if j = fr then 0 else 1000000) else f j
theorem kq_i_135_end {fr k : Int} {f : Int → Int} (h : 10 ≤ k) : kq_i_135 fr f k = f := by funext j; unfold kq_i_135; rw [if_neg (by omega)]
theorem kq_i_135_0 {fr k : Int} {f : Int → Int} (h : k < 10) (h2 : k = fr) : kq_i_135 fr (km_u1 f k 0) (k + 1) = kq_i_135 fr f k := by funext j; unfold kq_i_135 km_u1; grind
theorem kq_i_135_1 {fr k : Int} {f : Int → Int} (h : k < 10) (h2 : ¬ k = fr) : kq_i_135 fr (km_u1 f k 1000000) (k + 1) = kq_i_135 fr f k := by funext j; unfold kq_i_135 km_u1; grind
theorem lp_climbs_3_135 {q : Nat × Int × Int × Int × Int} {c s : Nat} {Q : Option km_V → km_Al → km_Mm → Prop} {fr w : Int} {m : km_Mm} (hf : 0 ≤ fr ∧ fr < 10) {R : (Int → Int) → Prop} (hR : ∀ (f : Int → Int), km_G M_X12_climbs 35 [some (.inr (.inr 123)), some (.inr (.inr 135)), some (.inl fr), some (.inl w), some (.inl fr), none, none] [] (km_A0 q c s) (km_sr m 135 f) Q ↔ R f) : ∀ (n : Nat) (k : Int) (f : Int → Int), 0 ≤ k → k + n = 10 → (km_G M_X12_climbs 3 [some (.inr (.inr 123)), some (.inr (.inr 135)), some (.inl fr), some (.inl w), some (.inl k), none, none] [] (km_A0 q c s) (km_sr m 135 f) Q ↔ R (kq_i_135 fr f k)) := by
  intro n
  induction n with
  | zero =>
    intro k f h0 h1
    have e : (10 : Int) ≤ k := by omega
    rw [g_X12_climbs_3]
    simp (config := { decide := true }) (disch := first | decide | assumption | omega | (simp (config := { decide := true }) only [km_sr_sf, km_sr_of, km_up_of, km_up_o, km_upx_i, km_upx_s, km_fl2_o, ne_eq, not_true_eq_false, not_false_eq_true] <;> omega) | fail) only [g_X12_climbs, e, kq_i_135_end, hR, h0, true_or, or_true, false_or, or_false, false_and, and_false, if_true, if_false, ka_lo, ka_hi, ka_nn, km_sr_sf, km_sr_of, km_up_of, km_sr_us, km_sr_uo, km_sr_sr, km_sr_fl, km_sr_flo, km_up_up, km_up_lt, km_lay, km_unL, km_up_o, km_upx_i, km_upx_s, km_fl2_o, km_is, Option.some.injEq, Sum.inl.injEq, Sum.inr.injEq, Option.toList_some, Option.toList_none, List.cons_append, List.nil_append, ne_eq, true_and, and_true, and_self, not_true_eq_false, not_false_eq_true, true_implies, false_implies, reduceCtorEq]
    all_goals grind
  | succ n ih =>
    intro k f h0 h1
    have e : ¬ (10 : Int) ≤ k := by omega
    have e2 : k < 10 := by omega
    have i0 := fun (z : k = fr) => @kq_i_135_0 fr k f e2 z
    have i1 := fun (z : ¬ k = fr) => @kq_i_135_1 fr k f e2 z
    by_cases z : k = fr
    · have i0 := i0 z
      rw [g_X12_climbs_3]
      simp (config := { decide := true }) (disch := first | decide | assumption | omega | (simp (config := { decide := true }) only [km_sr_sf, km_sr_of, km_up_of, km_up_o, km_upx_i, km_upx_s, km_fl2_o, ne_eq, not_true_eq_false, not_false_eq_true] <;> omega) | fail) only [g_X12_climbs, e, e2, h0, z, ih, true_or, or_true, false_or, or_false, false_and, and_false, if_true, if_false, ka_lo, ka_hi, ka_nn, km_sr_sf, km_sr_of, km_up_of, km_sr_us, km_sr_uo, km_sr_sr, km_sr_fl, km_sr_flo, km_up_up, km_up_lt, km_lay, km_unL, km_up_o, km_upx_i, km_upx_s, km_fl2_o, km_is, Option.some.injEq, Sum.inl.injEq, Sum.inr.injEq, Option.toList_some, Option.toList_none, List.cons_append, List.nil_append, ne_eq, true_and, and_true, and_self, not_true_eq_false, not_false_eq_true, true_implies, false_implies, reduceCtorEq]
      rw [z] at i0
      rw [← i0]
      all_goals (clear hR ih; grind)
    · have i1 := i1 z
      rw [g_X12_climbs_3]
      simp (config := { decide := true }) (disch := first | decide | assumption | omega | (simp (config := { decide := true }) only [km_sr_sf, km_sr_of, km_up_of, km_up_o, km_upx_i, km_upx_s, km_fl2_o, ne_eq, not_true_eq_false, not_false_eq_true] <;> omega) | fail) only [g_X12_climbs, e, e2, h0, z, ih, i1, true_or, or_true, false_or, or_false, false_and, and_false, if_true, if_false, ka_lo, ka_hi, ka_nn, km_sr_sf, km_sr_of, km_up_of, km_sr_us, km_sr_uo, km_sr_sr, km_sr_fl, km_sr_flo, km_up_up, km_up_lt, km_lay, km_unL, km_up_o, km_upx_i, km_upx_s, km_fl2_o, km_is, Option.some.injEq, Sum.inl.injEq, Sum.inr.injEq, Option.toList_some, Option.toList_none, List.cons_append, List.nil_append, ne_eq, true_and, and_true, and_self, not_true_eq_false, not_false_eq_true, true_implies, false_implies, reduceCtorEq]
theorem r_climbs_135 {q : Nat × Int × Int × Int × Int} {c s : Nat} {fr w : Int} {m : km_Mm} (hf : 0 ≤ fr ∧ fr < 10) (hk : 0 ≤ m 123 14 ∧ m 123 14 ≤ 6) (hB : ∀ i : Int, 0 ≤ i → i < m 123 14 → 0 ≤ m 134 i ∧ m 134 i < 10) (hp : ∀ y : Int, 0 ≤ y → y < 10 → (0 ≤ m 132 y ∧ m 132 y ≤ 2) ∧ ∀ i : Int, 0 ≤ i → i < m 132 y → 0 ≤ m 131 (2 * y + i) ∧ m 131 (2 * y + i) < 10) (Q : Option km_V → km_Al → km_Mm → Prop) :
    km_E M_X12_climbs [.inr (.inr 123), .inr (.inr 135), .inl fr, .inl w] (km_A0 q c s) m Q ↔ Q none (km_A0 q c s) (km_sr m 135 (kq_c w (m 132) (m 131) (m 133) (m 134) (m 123 14) (fr + 1).toNat (kq_i_135 fr (m 135) 0))) := by
  rw [km_E.of (by decide)]
  show km_G M_X12_climbs 0 [some (.inr (.inr 123)), some (.inr (.inr 135)), some (.inl fr), some (.inl w), none, none, none] [] (km_A0 q c s) m _ ↔ _
  have e : (((fr + 1).toNat : Nat) : Int) - 1 = fr := by omega
  have h2 := @lp_climbs_35_135 q c s fr w m hk hB hp Q (fr + 1).toNat (kq_i_135 fr (m 135) 0) none none (by omega) (by intro x x0 x1; unfold kq_i_135; rw [if_pos ⟨x0, x1⟩]; split <;> omega)
  rw [e] at h2
  have h1 := @lp_climbs_3_135 q c s Q fr w m hf (fun f => km_G M_X12_climbs 35 [some (.inr (.inr 123)), some (.inr (.inr 135)), some (.inl fr), some (.inl w), some (.inl fr), none, none] [] (km_A0 q c s) (km_sr m 135 f) Q) (fun f => Iff.rfl) 10 0 (m 135) (by omega) (by omega)
  rw [km_sr_id] at h1
  simp (config := { decide := true }) only [g_X12_climbs, h1, h2, true_or, or_true, false_or, or_false, false_and, and_false, if_true, if_false, km_sr_sf, km_sr_of, km_up_of, km_sr_us, km_sr_uo, km_sr_sr, km_sr_fl, km_sr_flo, km_up_up, km_up_lt, km_lay, km_unL, km_up_o, km_upx_i, km_upx_s, km_fl2_o, km_is, Option.some.injEq, Sum.inl.injEq, Sum.inr.injEq, Option.toList_some, Option.toList_none, List.cons_append, List.nil_append, ne_eq, true_and, and_true, and_self, not_true_eq_false, not_false_eq_true, true_implies, false_implies, reduceCtorEq]
theorem lp_climbs_35_136 {q : Nat × Int × Int × Int × Int} {c s : Nat} {fr w : Int} {m : km_Mm} (hk : 0 ≤ m 123 14 ∧ m 123 14 ≤ 6) (hB : ∀ i : Int, 0 ≤ i → i < m 123 14 → 0 ≤ m 134 i ∧ m 134 i < 10) (hp : ∀ y : Int, 0 ≤ y → y < 10 → (0 ≤ m 132 y ∧ m 132 y ≤ 2) ∧ ∀ i : Int, 0 ≤ i → i < m 132 y → 0 ≤ m 131 (2 * y + i) ∧ m 131 (2 * y + i) < 10) {Q : Option km_V → km_Al → km_Mm → Prop} : ∀ (n : Nat) (f : Int → Int) (o5 o6 : Option km_V), (n : Int) ≤ 10 → kb_r f → (km_G M_X12_climbs 35 [some (.inr (.inr 123)), some (.inr (.inr 136)), some (.inl fr), some (.inl w), some (.inl ((n : Int) - 1)), o5, o6] [] (km_A0 q c s) (km_sr m 136 f) Q ↔ Q none (km_A0 q c s) (km_sr m 136 (kq_c w (m 132) (m 131) (m 133) (m 134) (m 123 14) n f))) := by
  intro n
  induction n with
  | zero =>
    intro f o5 o6 h0 h1
    rw [g_X12_climbs_35]
    simp (config := { decide := true }) (disch := first | decide | assumption | omega | (simp (config := { decide := true }) only [km_sr_sf, km_sr_of, km_up_of, km_up_o, km_upx_i, km_upx_s, km_fl2_o, ne_eq, not_true_eq_false, not_false_eq_true] <;> omega) | fail) only [g_X12_climbs, kq_c, h0, true_or, or_true, false_or, or_false, false_and, and_false, if_true, if_false, ka_lo, ka_hi, ka_nn, km_sr_sf, km_sr_of, km_up_of, km_sr_us, km_sr_uo, km_sr_sr, km_sr_fl, km_sr_flo, km_up_up, km_up_lt, km_lay, km_unL, km_up_o, km_upx_i, km_upx_s, km_fl2_o, km_is, Option.some.injEq, Sum.inl.injEq, Sum.inr.injEq, Option.toList_some, Option.toList_none, List.cons_append, List.nil_append, ne_eq, true_and, and_true, and_self, not_true_eq_false, not_false_eq_true, true_implies, false_implies, reduceCtorEq]
    all_goals grind
  | succ n ih =>
    intro f o5 o6 h0 h1
    have e : ((n + 1 : Nat) : Int) - 1 = n := by omega
    have e1 : (n : Int) + -1 = n - 1 := by omega
    have e2 : ¬ (n : Int) < 0 := by omega
    have e3 : (n : Int) < 10 := by omega
    have e4 : (0 : Int) ≤ n := by omega
    obtain ⟨p1, p2⟩ := hp n e4 e3
    rw [e]
    have i1 := fun f o5 o6 (z : kb_r f) => ih f o5 o6 (by omega) z
    by_cases z : f n = 1000000
    · rw [g_X12_climbs_35]
      simp (config := { decide := true }) (disch := first | decide | assumption | omega | (simp (config := { decide := true }) only [km_sr_sf, km_sr_of, km_up_of, km_up_o, km_upx_i, km_upx_s, km_fl2_o, ne_eq, not_true_eq_false, not_false_eq_true] <;> omega) | fail) only [g_X12_climbs, e1, e2, e3, e4, z, i1, h1, kq_c, true_or, or_true, false_or, or_false, false_and, and_false, if_true, if_false, ka_lo, ka_hi, ka_nn, km_sr_sf, km_sr_of, km_up_of, km_sr_us, km_sr_uo, km_sr_sr, km_sr_fl, km_sr_flo, km_up_up, km_up_lt, km_lay, km_unL, km_up_o, km_upx_i, km_upx_s, km_fl2_o, km_is, Option.some.injEq, Sum.inl.injEq, Sum.inr.injEq, Option.toList_some, Option.toList_none, List.cons_append, List.nil_append, ne_eq, true_and, and_true, and_self, not_true_eq_false, not_false_eq_true, true_implies, false_implies, reduceCtorEq]
      done
    have k2 := fun f o6 (z : kb_r f) => @lp_climbs_113_136 q c s Q fr w n m ⟨e4, e3⟩ hk hB (fun g => Q none (km_A0 q c s) (km_sr m 136 (kq_c w (m 132) (m 131) (m 133) (m 134) (m 123 14) n g))) (fun f o5 o6 z => by rw [e1]; exact i1 f o5 o6 z) (m 123 14).toNat 0 f o6 (by omega) (by omega) z
    have k1 := fun f o6 (z : kb_r f) => @lp_climbs_55_136 q c s Q fr w n m ⟨e4, e3⟩ p1 p2 (fun g => Q none (km_A0 q c s) (km_sr m 136 (kq_c w (m 132) (m 131) (m 133) (m 134) (m 123 14) n (kq_b w (m 133) (m 134) n (m 123 14).toNat 0 g)))) (fun f o6 z => k2 f o6 z) (m 132 n).toNat 0 f o6 (by omega) (by omega) z
    have k1 := fun o6 => k1 f o6 h1
    rw [g_X12_climbs_35]
    simp (config := { decide := true }) (disch := first | decide | assumption | omega | (simp (config := { decide := true }) only [km_sr_sf, km_sr_of, km_up_of, km_up_o, km_upx_i, km_upx_s, km_fl2_o, ne_eq, not_true_eq_false, not_false_eq_true] <;> omega) | fail) only [g_X12_climbs, e1, e2, e3, e4, z, k1, kq_c, true_or, or_true, false_or, or_false, false_and, and_false, if_true, if_false, ka_lo, ka_hi, ka_nn, km_sr_sf, km_sr_of, km_up_of, km_sr_us, km_sr_uo, km_sr_sr, km_sr_fl, km_sr_flo, km_up_up, km_up_lt, km_lay, km_unL, km_up_o, km_upx_i, km_upx_s, km_fl2_o, km_is, Option.some.injEq, Sum.inl.injEq, Sum.inr.injEq, Option.toList_some, Option.toList_none, List.cons_append, List.nil_append, ne_eq, true_and, and_true, and_self, not_true_eq_false, not_false_eq_true, true_implies, false_implies, reduceCtorEq]
def kq_i_136 (fr : Int) (f : Int → Int) (k : Int) : Int → Int := fun j => if k ≤ j ∧ j < 10 then (if j = fr then 0 else 1000000) else f j
theorem kq_i_136_end {fr k : Int} {f : Int → Int} (h : 10 ≤ k) : kq_i_136 fr f k = f := by funext j; unfold kq_i_136; rw [if_neg (by omega)]
theorem kq_i_136_0 {fr k : Int} {f : Int → Int} (h : k < 10) (h2 : k = fr) : kq_i_136 fr (km_u1 f k 0) (k + 1) = kq_i_136 fr f k := by funext j; unfold kq_i_136 km_u1; grind
theorem kq_i_136_1 {fr k : Int} {f : Int → Int} (h : k < 10) (h2 : ¬ k = fr) : kq_i_136 fr (km_u1 f k 1000000) (k + 1) = kq_i_136 fr f k := by funext j; unfold kq_i_136 km_u1; grind
theorem lp_climbs_3_136 {q : Nat × Int × Int × Int × Int} {c s : Nat} {Q : Option km_V → km_Al → km_Mm → Prop} {fr w : Int} {m : km_Mm} (hf : 0 ≤ fr ∧ fr < 10) {R : (Int → Int) → Prop} (hR : ∀ (f : Int → Int), km_G M_X12_climbs 35 [some (.inr (.inr 123)), some (.inr (.inr 136)), some (.inl fr), some (.inl w), some (.inl fr), none, none] [] (km_A0 q c s) (km_sr m 136 f) Q ↔ R f) : ∀ (n : Nat) (k : Int) (f : Int → Int), 0 ≤ k → k + n = 10 → (km_G M_X12_climbs 3 [some (.inr (.inr 123)), some (.inr (.inr 136)), some (.inl fr), some (.inl w), some (.inl k), none, none] [] (km_A0 q c s) (km_sr m 136 f) Q ↔ R (kq_i_136 fr f k)) := by
  intro n
  induction n with
  | zero =>
    intro k f h0 h1
    have e : (10 : Int) ≤ k := by omega
    rw [g_X12_climbs_3]
    simp (config := { decide := true }) (disch := first | decide | assumption | omega | (simp (config := { decide := true }) only [km_sr_sf, km_sr_of, km_up_of, km_up_o, km_upx_i, km_upx_s, km_fl2_o, ne_eq, not_true_eq_false, not_false_eq_true] <;> omega) | fail) only [g_X12_climbs, e, kq_i_136_end, hR, h0, true_or, or_true, false_or, or_false, false_and, and_false, if_true, if_false, ka_lo, ka_hi, ka_nn, km_sr_sf, km_sr_of, km_up_of, km_sr_us, km_sr_uo, km_sr_sr, km_sr_fl, km_sr_flo, km_up_up, km_up_lt, km_lay, km_unL, km_up_o, km_upx_i, km_upx_s, km_fl2_o, km_is, Option.some.injEq, Sum.inl.injEq, Sum.inr.injEq, Option.toList_some, Option.toList_none, List.cons_append, List.nil_append, ne_eq, true_and, and_true, and_self, not_true_eq_false, not_false_eq_true, true_implies, false_implies, reduceCtorEq]
    all_goals grind
  | succ n ih =>
    intro k f h0 h1
    have e : ¬ (10 : Int) ≤ k := by omega
    have e2 : k < 10 := by omega
    have i0 := fun (z : k = fr) => @kq_i_136_0 fr k f e2 z
    have i1 := fun (z : ¬ k = fr) => @kq_i_136_1 fr k f e2 z
    by_cases z : k = fr
    · have i0 := i0 z
      rw [g_X12_climbs_3]
      simp (config := { decide := true }) (disch := first | decide | assumption | omega | (simp (config := { decide := true }) only [km_sr_sf, km_sr_of, km_up_of, km_up_o, km_upx_i, km_upx_s, km_fl2_o, ne_eq, not_true_eq_false, not_false_eq_true] <;> omega) | fail) only [g_X12_climbs, e, e2, h0, z, ih, true_or, or_true, false_or, or_false, false_and, and_false, if_true, if_false, ka_lo, ka_hi, ka_nn, km_sr_sf, km_sr_of, km_up_of, km_sr_us, km_sr_uo, km_sr_sr, km_sr_fl, km_sr_flo, km_up_up, km_up_lt, km_lay, km_unL, km_up_o, km_upx_i, km_upx_s, km_fl2_o, km_is, Option.some.injEq, Sum.inl.injEq, Sum.inr.injEq, Option.toList_some, Option.toList_none, List.cons_append, List.nil_append, ne_eq, true_and, and_true, and_self, not_true_eq_false, not_false_eq_true, true_implies, false_implies, reduceCtorEq]
      rw [z] at i0
      rw [← i0]
      all_goals (clear hR ih; grind)
    · have i1 := i1 z
      rw [g_X12_climbs_3]
      simp (config := { decide := true }) (disch := first | decide | assumption | omega | (simp (config := { decide := true }) only [km_sr_sf, km_sr_of, km_up_of, km_up_o, km_upx_i, km_upx_s, km_fl2_o, ne_eq, not_true_eq_false, not_false_eq_true] <;> omega) | fail) only [g_X12_climbs, e, e2, h0, z, ih, i1, true_or, or_true, false_or, or_false, false_and, and_false, if_true, if_false, ka_lo, ka_hi, ka_nn, km_sr_sf, km_sr_of, km_up_of, km_sr_us, km_sr_uo, km_sr_sr, km_sr_fl, km_sr_flo, km_up_up, km_up_lt, km_lay, km_unL, km_up_o, km_upx_i, km_upx_s, km_fl2_o, km_is, Option.some.injEq, Sum.inl.injEq, Sum.inr.injEq, Option.toList_some, Option.toList_none, List.cons_append, List.nil_append, ne_eq, true_and, and_true, and_self, not_true_eq_false, not_false_eq_true, true_implies, false_implies, reduceCtorEq]
theorem r_climbs_136 {q : Nat × Int × Int × Int × Int} {c s : Nat} {fr w : Int} {m : km_Mm} (hf : 0 ≤ fr ∧ fr < 10) (hk : 0 ≤ m 123 14 ∧ m 123 14 ≤ 6) (hB : ∀ i : Int, 0 ≤ i → i < m 123 14 → 0 ≤ m 134 i ∧ m 134 i < 10) (hp : ∀ y : Int, 0 ≤ y → y < 10 → (0 ≤ m 132 y ∧ m 132 y ≤ 2) ∧ ∀ i : Int, 0 ≤ i → i < m 132 y → 0 ≤ m 131 (2 * y + i) ∧ m 131 (2 * y + i) < 10) (Q : Option km_V → km_Al → km_Mm → Prop) :
    km_E M_X12_climbs [.inr (.inr 123), .inr (.inr 136), .inl fr, .inl w] (km_A0 q c s) m Q ↔ Q none (km_A0 q c s) (km_sr m 136 (kq_c w (m 132) (m 131) (m 133) (m 134) (m 123 14) (fr + 1).toNat (kq_i_136 fr (m 136) 0))) := by
  rw [km_E.of (by decide)]
  show km_G M_X12_climbs 0 [some (.inr (.inr 123)), some (.inr (.inr 136)), some (.inl fr), some (.inl w), none, none, none] [] (km_A0 q c s) m _ ↔ _
  have e : (((fr + 1).toNat : Nat) : Int) - 1 = fr := by omega
  have h2 := @lp_climbs_35_136 q c s fr w m hk hB hp Q (fr + 1).toNat (kq_i_136 fr (m 136) 0) none none (by omega) (by intro x x0 x1; unfold kq_i_136; rw [if_pos ⟨x0, x1⟩]; split <;> omega)
  rw [e] at h2
  have h1 := @lp_climbs_3_136 q c s Q fr w m hf (fun f => km_G M_X12_climbs 35 [some (.inr (.inr 123)), some (.inr (.inr 136)), some (.inl fr), some (.inl w), some (.inl fr), none, none] [] (km_A0 q c s) (km_sr m 136 f) Q) (fun f => Iff.rfl) 10 0 (m 136) (by omega) (by omega)
  rw [km_sr_id] at h1
  simp (config := { decide := true }) only [g_X12_climbs, h1, h2, true_or, or_true, false_or, or_false, false_and, and_false, if_true, if_false, km_sr_sf, km_sr_of, km_up_of, km_sr_us, km_sr_uo, km_sr_sr, km_sr_fl, km_sr_flo, km_up_up, km_up_lt, km_lay, km_unL, km_up_o, km_upx_i, km_upx_s, km_fl2_o, km_is, Option.some.injEq, Sum.inl.injEq, Sum.inr.injEq, Option.toList_some, Option.toList_none, List.cons_append, List.nil_append, ne_eq, true_and, and_true, and_self, not_true_eq_false, not_false_eq_true, true_implies, false_implies, reduceCtorEq]
/-- the nearest above both in the reference, n from the x-th on -/
def kq_fn (U D : Int → Int) : Nat → Int → Int × Int × Int → Int × Int × Int
  | 0, _, t => t
  | n + 1, x, t => kq_fn U D n (x + 1) (if U x = 1000000 ∨ D x = 1000000 then t else if 0 < t.2.2 ∧ (0 < U x + D x - t.1 - t.2.1 ∨ (U x + D x - t.1 - t.2.1 = 0 ∧ t.1 < U x)) then t else (U x, D x, if 0 < t.2.2 ∧ U x + D x - t.1 - t.2.1 = 0 ∧ U x = t.1 then t.2.2 + 1 else 1))
theorem lp_nearest_40 {q : Nat × Int × Int × Int × Int} {c s : Nat} {a b w : Int} {m : km_Mm} (h10 : m 123 3 ≤ 10) (hU : kb_r (m 135)) (hD : kb_r (m 136)) {Q : Option km_V → km_Al → km_Mm → Prop} : ∀ (n : Nat) (x u d k : Int) (o5 o6 : Option km_V), 0 ≤ x → x + n = m 123 3 → 0 ≤ u ∧ u ≤ 1000000 → 0 ≤ d ∧ d ≤ 1000000 → 0 ≤ k ∧ k ≤ x → (km_G M_X12_nearest 40 [some (.inr (.inr 123)), some (.inl a), some (.inl b), some (.inl w), some (.inl x), o5, o6] [] (km_A0 q c s) (km_up (km_up (km_up m 123 19 u) 123 20 d) 123 21 k) Q ↔ Q (some (.inl ((if 0 < (kq_fn (m 135) (m 136) n x (u, d, k)).2.2 then 1 else 0)))) (km_A0 q c s) (km_up (km_up (km_up m 123 19 (kq_fn (m 135) (m 136) n x (u, d, k)).1) 123 20 (kq_fn (m 135) (m 136) n x (u, d, k)).2.1) 123 21 (kq_fn (m 135) (m 136) n x (u, d, k)).2.2)) := by
  intro n
  induction n with
  | zero =>
    intro x u d k o5 o6 h0 h1 h2 h3 h4
    have e : m 123 3 ≤ x := by omega
    by_cases z : 0 < k
    · have z2 : ¬ k ≤ 0 := by omega
      rw [g_X12_nearest_40]
      simp (config := { decide := true }) (disch := first | decide | assumption | omega | (simp (config := { decide := true }) only [km_sr_sf, km_sr_of, km_up_of, km_up_o, km_upx_i, km_upx_s, km_fl2_o, ne_eq, not_true_eq_false, not_false_eq_true] <;> omega) | fail) only [g_X12_nearest, kq_fn, e, z, z2, true_or, or_true, false_or, or_false, false_and, and_false, if_true, if_false, ka_lo, ka_hi, ka_nn, km_sr_sf, km_sr_of, km_up_of, km_sr_us, km_sr_uo, km_sr_sr, km_sr_fl, km_sr_flo, km_up_up, km_up_lt, km_lay, km_unL, km_up_o, km_upx_i, km_upx_s, km_fl2_o, km_is, Option.some.injEq, Sum.inl.injEq, Sum.inr.injEq, Option.toList_some, Option.toList_none, List.cons_append, List.nil_append, ne_eq, true_and, and_true, and_self, not_true_eq_false, not_false_eq_true, true_implies, false_implies, reduceCtorEq]
    · have z2 : k ≤ 0 := by omega
      rw [g_X12_nearest_40]
      simp (config := { decide := true }) (disch := first | decide | assumption | omega | (simp (config := { decide := true }) only [km_sr_sf, km_sr_of, km_up_of, km_up_o, km_upx_i, km_upx_s, km_fl2_o, ne_eq, not_true_eq_false, not_false_eq_true] <;> omega) | fail) only [g_X12_nearest, kq_fn, e, z, z2, true_or, or_true, false_or, or_false, false_and, and_false, if_true, if_false, ka_lo, ka_hi, ka_nn, km_sr_sf, km_sr_of, km_up_of, km_sr_us, km_sr_uo, km_sr_sr, km_sr_fl, km_sr_flo, km_up_up, km_up_lt, km_lay, km_unL, km_up_o, km_upx_i, km_upx_s, km_fl2_o, km_is, Option.some.injEq, Sum.inl.injEq, Sum.inr.injEq, Option.toList_some, Option.toList_none, List.cons_append, List.nil_append, ne_eq, true_and, and_true, and_self, not_true_eq_false, not_false_eq_true, true_implies, false_implies, reduceCtorEq]
  | succ n ih =>
    intro x u d k o5 o6 h0 h1 h2 h3 h4
    have e : ¬ m 123 3 ≤ x := by omega
    have e2 : x < 10 := by omega
    have e3 := hU x h0 e2
    have e4 := hD x h0 e2
    rw [g_X12_nearest_40]
    by_cases z : m 135 x = 1000000
    · simp (config := { decide := true }) (disch := first | decide | assumption | omega | (simp (config := { decide := true }) only [km_sr_sf, km_sr_of, km_up_of, km_up_o, km_upx_i, km_upx_s, km_fl2_o, ne_eq, not_true_eq_false, not_false_eq_true] <;> omega) | fail) only [g_X12_nearest, kq_fn, ih, e, e2, z, true_or, or_true, false_or, or_false, false_and, and_false, if_true, if_false, ka_lo, ka_hi, ka_nn, km_sr_sf, km_sr_of, km_up_of, km_sr_us, km_sr_uo, km_sr_sr, km_sr_fl, km_sr_flo, km_up_up, km_up_lt, km_lay, km_unL, km_up_o, km_upx_i, km_upx_s, km_fl2_o, km_is, Option.some.injEq, Sum.inl.injEq, Sum.inr.injEq, Option.toList_some, Option.toList_none, List.cons_append, List.nil_append, ne_eq, true_and, and_true, and_self, not_true_eq_false, not_false_eq_true, true_implies, false_implies, reduceCtorEq]
      done
    by_cases z1 : m 136 x = 1000000
    · simp (config := { decide := true }) (disch := first | decide | assumption | omega | (simp (config := { decide := true }) only [km_sr_sf, km_sr_of, km_up_of, km_up_o, km_upx_i, km_upx_s, km_fl2_o, ne_eq, not_true_eq_false, not_false_eq_true] <;> omega) | fail) only [g_X12_nearest, kq_fn, ih, e, e2, z, z1, true_or, or_true, false_or, or_false, false_and, and_false, if_true, if_false, ka_lo, ka_hi, ka_nn, km_sr_sf, km_sr_of, km_up_of, km_sr_us, km_sr_uo, km_sr_sr, km_sr_fl, km_sr_flo, km_up_up, km_up_lt, km_lay, km_unL, km_up_o, km_upx_i, km_upx_s, km_fl2_o, km_is, Option.some.injEq, Sum.inl.injEq, Sum.inr.injEq, Option.toList_some, Option.toList_none, List.cons_append, List.nil_append, ne_eq, true_and, and_true, and_self, not_true_eq_false, not_false_eq_true, true_implies, false_implies, reduceCtorEq]
      done
    by_cases y0 : 0 < k
    · have y1 : ¬ k ≤ 0 := by omega
      by_cases y2 : 0 < m 135 x + m 136 x - u - d
      · simp (config := { decide := true }) (disch := first | decide | assumption | omega | (simp (config := { decide := true }) only [km_sr_sf, km_sr_of, km_up_of, km_up_o, km_upx_i, km_upx_s, km_fl2_o, ne_eq, not_true_eq_false, not_false_eq_true] <;> omega) | fail) only [g_X12_nearest, kq_fn, ih, e, e2, z, z1, y0, y1, y2, true_or, or_true, false_or, or_false, false_and, and_false, if_true, if_false, ka_lo, ka_hi, ka_nn, km_sr_sf, km_sr_of, km_up_of, km_sr_us, km_sr_uo, km_sr_sr, km_sr_fl, km_sr_flo, km_up_up, km_up_lt, km_lay, km_unL, km_up_o, km_upx_i, km_upx_s, km_fl2_o, km_is, Option.some.injEq, Sum.inl.injEq, Sum.inr.injEq, Option.toList_some, Option.toList_none, List.cons_append, List.nil_append, ne_eq, true_and, and_true, and_self, not_true_eq_false, not_false_eq_true, true_implies, false_implies, reduceCtorEq]
        done
      by_cases y3 : m 135 x + m 136 x - u - d = 0
      · by_cases y4 : u < m 135 x
        · have y5 : ¬ m 135 x ≤ u := by omega
          simp (config := { decide := true }) (disch := first | decide | assumption | omega | (simp (config := { decide := true }) only [km_sr_sf, km_sr_of, km_up_of, km_up_o, km_upx_i, km_upx_s, km_fl2_o, ne_eq, not_true_eq_false, not_false_eq_true] <;> omega) | fail) only [g_X12_nearest, kq_fn, ih, e, e2, z, z1, y0, y1, y2, y3, y4, y5, true_or, or_true, false_or, or_false, false_and, and_false, if_true, if_false, ka_lo, ka_hi, ka_nn, km_sr_sf, km_sr_of, km_up_of, km_sr_us, km_sr_uo, km_sr_sr, km_sr_fl, km_sr_flo, km_up_up, km_up_lt, km_lay, km_unL, km_up_o, km_upx_i, km_upx_s, km_fl2_o, km_is, Option.some.injEq, Sum.inl.injEq, Sum.inr.injEq, Option.toList_some, Option.toList_none, List.cons_append, List.nil_append, ne_eq, true_and, and_true, and_self, not_true_eq_false, not_false_eq_true, true_implies, false_implies, reduceCtorEq]
          done
        have y5 : m 135 x ≤ u := by omega
        by_cases y6 : m 135 x = u
        · have y6 := y6.symm
          subst y6
          simp (config := { decide := true }) (disch := first | decide | assumption | omega | (simp (config := { decide := true }) only [km_sr_sf, km_sr_of, km_up_of, km_up_o, km_upx_i, km_upx_s, km_fl2_o, ne_eq, not_true_eq_false, not_false_eq_true] <;> omega) | fail) only [g_X12_nearest, kq_fn, ih, e, e2, z, z1, y0, y1, y2, y3, y4, y5, eq_self, Int.lt_irrefl, Int.le_refl, true_or, or_true, false_or, or_false, false_and, and_false, if_true, if_false, ka_lo, ka_hi, ka_nn, km_sr_sf, km_sr_of, km_up_of, km_sr_us, km_sr_uo, km_sr_sr, km_sr_fl, km_sr_flo, km_up_up, km_up_lt, km_lay, km_unL, km_up_o, km_upx_i, km_upx_s, km_fl2_o, km_is, Option.some.injEq, Sum.inl.injEq, Sum.inr.injEq, Option.toList_some, Option.toList_none, List.cons_append, List.nil_append, ne_eq, true_and, and_true, and_self, not_true_eq_false, not_false_eq_true, true_implies, false_implies, reduceCtorEq]
          done
        simp (config := { decide := true }) (disch := first | decide | assumption | omega | (simp (config := { decide := true }) only [km_sr_sf, km_sr_of, km_up_of, km_up_o, km_upx_i, km_upx_s, km_fl2_o, ne_eq, not_true_eq_false, not_false_eq_true] <;> omega) | fail) only [g_X12_nearest, kq_fn, ih, e, e2, z, z1, y0, y1, y2, y3, y4, y5, y6, true_or, or_true, false_or, or_false, false_and, and_false, if_true, if_false, ka_lo, ka_hi, ka_nn, km_sr_sf, km_sr_of, km_up_of, km_sr_us, km_sr_uo, km_sr_sr, km_sr_fl, km_sr_flo, km_up_up, km_up_lt, km_lay, km_unL, km_up_o, km_upx_i, km_upx_s, km_fl2_o, km_is, Option.some.injEq, Sum.inl.injEq, Sum.inr.injEq, Option.toList_some, Option.toList_none, List.cons_append, List.nil_append, ne_eq, true_and, and_true, and_self, not_true_eq_false, not_false_eq_true, true_implies, false_implies, reduceCtorEq]
        done
      simp (config := { decide := true }) (disch := first | decide | assumption | omega | (simp (config := { decide := true }) only [km_sr_sf, km_sr_of, km_up_of, km_up_o, km_upx_i, km_upx_s, km_fl2_o, ne_eq, not_true_eq_false, not_false_eq_true] <;> omega) | fail) only [g_X12_nearest, kq_fn, ih, e, e2, z, z1, y0, y1, y2, y3, true_or, or_true, false_or, or_false, false_and, and_false, if_true, if_false, ka_lo, ka_hi, ka_nn, km_sr_sf, km_sr_of, km_up_of, km_sr_us, km_sr_uo, km_sr_sr, km_sr_fl, km_sr_flo, km_up_up, km_up_lt, km_lay, km_unL, km_up_o, km_upx_i, km_upx_s, km_fl2_o, km_is, Option.some.injEq, Sum.inl.injEq, Sum.inr.injEq, Option.toList_some, Option.toList_none, List.cons_append, List.nil_append, ne_eq, true_and, and_true, and_self, not_true_eq_false, not_false_eq_true, true_implies, false_implies, reduceCtorEq]
      done
    have y1 : k ≤ 0 := by omega
    simp (config := { decide := true }) (disch := first | decide | assumption | omega | (simp (config := { decide := true }) only [km_sr_sf, km_sr_of, km_up_of, km_up_o, km_upx_i, km_upx_s, km_fl2_o, ne_eq, not_true_eq_false, not_false_eq_true] <;> omega) | fail) only [g_X12_nearest, kq_fn, ih, e, e2, z, z1, y0, y1, true_or, or_true, false_or, or_false, false_and, and_false, if_true, if_false, ka_lo, ka_hi, ka_nn, km_sr_sf, km_sr_of, km_up_of, km_sr_us, km_sr_uo, km_sr_sr, km_sr_fl, km_sr_flo, km_up_up, km_up_lt, km_lay, km_unL, km_up_o, km_upx_i, km_upx_s, km_fl2_o, km_is, Option.some.injEq, Sum.inl.injEq, Sum.inr.injEq, Option.toList_some, Option.toList_none, List.cons_append, List.nil_append, ne_eq, true_and, and_true, and_self, not_true_eq_false, not_false_eq_true, true_implies, false_implies, reduceCtorEq]

