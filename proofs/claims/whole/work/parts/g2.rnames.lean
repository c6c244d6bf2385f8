/-! ===== the reference reads a name; its next kin ===== -/
section KN
variable {q : Nat × Int × Int × Int × Int} {c s : Nat} {m C : km_Mm} {o p b N : Int} {al : List Int} {ln : Int}
/-- what the names ask of where one stands -/
def kAt (m : km_Mm) (o p b ln : Int) : Prop := (ln ≠ 3 → 0 ≤ o ∧ o < m 19 1) ∧ (ln = 3 → 0 ≤ b ∧ b < 4) ∧ (ln = 2 → 0 ≤ p ∧ p < m 5 1)
theorem md_n12 {x v hh g t hs hm hya : Int} {ν ς σ : Int → Int} {Y : km_Mm} (h : kI0 N m) (hN : N ≤ 1000) (ha : kAt m o p b ln) (hal : ∀ y, y ∈ al → 0 ≤ y ∧ y < m 5 1) (hY : kRy m C o p b Y) (hk : kok ln v hh) (hx : (hh = 1 ∧ x ∈ al) ∨ (hh = 0 ∧ x = -1)) (hv : v = 12) : ∃ Y' : km_Mm, kRy m C o p b Y' ∧ ∀ Q : Option km_V → km_Al → km_Mm → Prop, km_E M_X12_nameValue [.inr (.inr 123), .inl v] (km_A0 q c s) (kmR Y g t 0 x hs hm hya ν ς σ) Q ↔ Q (some (.inr (.inl (kVv m o p b x v)))) (km_A0 q c s) (kmR Y' g t 0 x hs hm hya ν ς σ) := by
  obtain ⟨hb, -, hT, hO, hM, hF, -, -, hS, -⟩ := h
  obtain ⟨a1, a2, a3⟩ := ha
  have h1 := hb.1
  have hYR := @kRy_R m C Y o p b g t 0 x hs hm hya ν ς σ hY
  obtain ⟨yj, yc, y55, y57, y58⟩ := id hY
  obtain ⟨⟨v0, v1⟩, hk⟩ := hk
  have fin : ∀ (f : Int → Int) (e : Int), kVv m o p b x v = e → (∀ Q : Option km_V → km_Al → km_Mm → Prop, km_E M_X12_nameValue [.inr (.inr 123), .inl v] (km_A0 q c s) (kmR Y g t 0 x hs hm hya ν ς σ) Q ↔ Q (some (.inr (.inl e))) (km_A0 q c s) (km_sr (kmR Y g t 0 x hs hm hya ν ς σ) 130 f)) → ∃ Y' : km_Mm, kRy m C o p b Y' ∧ ∀ Q : Option km_V → km_Al → km_Mm → Prop, km_E M_X12_nameValue [.inr (.inr 123), .inl v] (km_A0 q c s) (kmR Y g t 0 x hs hm hya ν ς σ) Q ↔ Q (some (.inr (.inl (kVv m o p b x v)))) (km_A0 q c s) (kmR Y' g t 0 x hs hm hya ν ς σ) := fun f e he hq => ⟨km_sr Y 130 f, kRy_130 hY, fun Q => by rw [he, ← kR_sr]; exact hq Q⟩
  have fin0 : ∀ (e : Int), kVv m o p b x v = e → (∀ Q : Option km_V → km_Al → km_Mm → Prop, km_E M_X12_nameValue [.inr (.inr 123), .inl v] (km_A0 q c s) (kmR Y g t 0 x hs hm hya ν ς σ) Q ↔ Q (some (.inr (.inl e))) (km_A0 q c s) (kmR Y g t 0 x hs hm hya ν ς σ)) → ∃ Y' : km_Mm, kRy m C o p b Y' ∧ ∀ Q : Option km_V → km_Al → km_Mm → Prop, km_E M_X12_nameValue [.inr (.inr 123), .inl v] (km_A0 q c s) (kmR Y g t 0 x hs hm hya ν ς σ) Q ↔ Q (some (.inr (.inl (kVv m o p b x v)))) (km_A0 q c s) (kmR Y' g t 0 x hs hm hya ν ς σ) := fun e he hq => ⟨Y, hY, fun Q => by rw [he]; exact hq Q⟩
  have v15 : v ≤ 15 := by omega
  have ho : 0 ≤ o ∧ o < m 19 1 := a1 (by omega)
  have o6 := hO.1
  have op := hO.2.1 o ho.1 ho.2
  have e0 : kVv m o p b x v = (if v = 12 then m 20 o else if v = 13 then m 21 o else if v = 14 then kFr m o else kcnt (kC m o) (m 5 1).toNat) := by unfold kVv; rw [if_pos v15, if_pos ho]
  have y151 : Y 151 o = m 20 o := (yj 151 o (by decide) (kJ_no (by decide))).trans op.1.1
  have y152 : Y 152 o = m 21 o := (yj 152 o (by decide) (kJ_no (by decide))).trans op.1.2
  have xx : x < 0 ∨ ¬ x < 0 := by omega
  subst hv
  refine fin0 (m 20 o) e0 (fun Q => ?_)
  rw [e_X12_nameValue]
  rcases xx with xx | xx <;> simp (config := { decide := true }) (disch := first | decide | assumption | omega | (simp (config := { decide := true }) only [km_sr_sf, km_sr_of, km_up_of, km_up_o, km_upx_i, km_upx_s, km_fl2_o, ne_eq, not_true_eq_false, not_false_eq_true] <;> omega) | fail) only [g_X12_nameValue, kRo, kR55, kR56, kR57, y55, y57, xx, ho, y151, ka_lt, ka_le, ka_nlt, ka_nle, ka_ne, ka_eq, Int.add_sub_cancel, true_or, or_true, false_or, or_false, false_and, and_false, if_true, if_false, ka_lo, ka_hi, ka_nn, km_sr_sf, km_sr_of, km_up_of, km_sr_us, km_sr_uo, km_sr_sr, km_sr_fl, km_sr_flo, km_up_up, km_up_lt, km_lay, km_unL, km_up_o, km_upx_i, km_upx_s, km_fl2_o, km_is, Option.some.injEq, Sum.inl.injEq, Sum.inr.injEq, Option.toList_some, Option.toList_none, List.cons_append, List.nil_append, ne_eq, true_and, and_true, and_self, not_true_eq_false, not_false_eq_true, true_implies, false_implies, reduceCtorEq]

theorem md_n13 {x v hh g t hs hm hya : Int} {ν ς σ : Int → Int} {Y : km_Mm} (h : kI0 N m) (hN : N ≤ 1000) (ha : kAt m o p b ln) (hal : ∀ y, y ∈ al → 0 ≤ y ∧ y < m 5 1) (hY : kRy m C o p b Y) (hk : kok ln v hh) (hx : (hh = 1 ∧ x ∈ al) ∨ (hh = 0 ∧ x = -1)) (hv : v = 13) : ∃ Y' : km_Mm, kRy m C o p b Y' ∧ ∀ Q : Option km_V → km_Al → km_Mm → Prop, km_E M_X12_nameValue [.inr (.inr 123), .inl v] (km_A0 q c s) (kmR Y g t 0 x hs hm hya ν ς σ) Q ↔ Q (some (.inr (.inl (kVv m o p b x v)))) (km_A0 q c s) (kmR Y' g t 0 x hs hm hya ν ς σ) := by
  obtain ⟨hb, -, hT, hO, hM, hF, -, -, hS, -⟩ := h
  obtain ⟨a1, a2, a3⟩ := ha
  have h1 := hb.1
  have hYR := @kRy_R m C Y o p b g t 0 x hs hm hya ν ς σ hY
  obtain ⟨yj, yc, y55, y57, y58⟩ := id hY
  obtain ⟨⟨v0, v1⟩, hk⟩ := hk
  have fin : ∀ (f : Int → Int) (e : Int), kVv m o p b x v = e → (∀ Q : Option km_V → km_Al → km_Mm → Prop, km_E M_X12_nameValue [.inr (.inr 123), .inl v] (km_A0 q c s) (kmR Y g t 0 x hs hm hya ν ς σ) Q ↔ Q (some (.inr (.inl e))) (km_A0 q c s) (km_sr (kmR Y g t 0 x hs hm hya ν ς σ) 130 f)) → ∃ Y' : km_Mm, kRy m C o p b Y' ∧ ∀ Q : Option km_V → km_Al → km_Mm → Prop, km_E M_X12_nameValue [.inr (.inr 123), .inl v] (km_A0 q c s) (kmR Y g t 0 x hs hm hya ν ς σ) Q ↔ Q (some (.inr (.inl (kVv m o p b x v)))) (km_A0 q c s) (kmR Y' g t 0 x hs hm hya ν ς σ) := fun f e he hq => ⟨km_sr Y 130 f, kRy_130 hY, fun Q => by rw [he, ← kR_sr]; exact hq Q⟩
  have fin0 : ∀ (e : Int), kVv m o p b x v = e → (∀ Q : Option km_V → km_Al → km_Mm → Prop, km_E M_X12_nameValue [.inr (.inr 123), .inl v] (km_A0 q c s) (kmR Y g t 0 x hs hm hya ν ς σ) Q ↔ Q (some (.inr (.inl e))) (km_A0 q c s) (kmR Y g t 0 x hs hm hya ν ς σ)) → ∃ Y' : km_Mm, kRy m C o p b Y' ∧ ∀ Q : Option km_V → km_Al → km_Mm → Prop, km_E M_X12_nameValue [.inr (.inr 123), .inl v] (km_A0 q c s) (kmR Y g t 0 x hs hm hya ν ς σ) Q ↔ Q (some (.inr (.inl (kVv m o p b x v)))) (km_A0 q c s) (kmR Y' g t 0 x hs hm hya ν ς σ) := fun e he hq => ⟨Y, hY, fun Q => by rw [he]; exact hq Q⟩
  have v15 : v ≤ 15 := by omega
  have ho : 0 ≤ o ∧ o < m 19 1 := a1 (by omega)
  have o6 := hO.1
  have op := hO.2.1 o ho.1 ho.2
  have e0 : kVv m o p b x v = (if v = 12 then m 20 o else if v = 13 then m 21 o else if v = 14 then kFr m o else kcnt (kC m o) (m 5 1).toNat) := by unfold kVv; rw [if_pos v15, if_pos ho]
  have y151 : Y 151 o = m 20 o := (yj 151 o (by decide) (kJ_no (by decide))).trans op.1.1
  have y152 : Y 152 o = m 21 o := (yj 152 o (by decide) (kJ_no (by decide))).trans op.1.2
  have xx : x < 0 ∨ ¬ x < 0 := by omega
  subst hv
  refine fin0 (m 21 o) e0 (fun Q => ?_)
  rw [e_X12_nameValue]
  rcases xx with xx | xx <;> simp (config := { decide := true }) (disch := first | decide | assumption | omega | (simp (config := { decide := true }) only [km_sr_sf, km_sr_of, km_up_of, km_up_o, km_upx_i, km_upx_s, km_fl2_o, ne_eq, not_true_eq_false, not_false_eq_true] <;> omega) | fail) only [g_X12_nameValue, kRo, kR55, kR56, kR57, y55, y57, xx, ho, y152, ka_lt, ka_le, ka_nlt, ka_nle, ka_ne, ka_eq, Int.add_sub_cancel, true_or, or_true, false_or, or_false, false_and, and_false, if_true, if_false, ka_lo, ka_hi, ka_nn, km_sr_sf, km_sr_of, km_up_of, km_sr_us, km_sr_uo, km_sr_sr, km_sr_fl, km_sr_flo, km_up_up, km_up_lt, km_lay, km_unL, km_up_o, km_upx_i, km_upx_s, km_fl2_o, km_is, Option.some.injEq, Sum.inl.injEq, Sum.inr.injEq, Option.toList_some, Option.toList_none, List.cons_append, List.nil_append, ne_eq, true_and, and_true, and_self, not_true_eq_false, not_false_eq_true, true_implies, false_implies, reduceCtorEq]

theorem md_n14 {x v hh g t hs hm hya : Int} {ν ς σ : Int → Int} {Y : km_Mm} (h : kI0 N m) (hN : N ≤ 1000) (ha : kAt m o p b ln) (hal : ∀ y, y ∈ al → 0 ≤ y ∧ y < m 5 1) (hY : kRy m C o p b Y) (hk : kok ln v hh) (hx : (hh = 1 ∧ x ∈ al) ∨ (hh = 0 ∧ x = -1)) (hv : v = 14) : ∃ Y' : km_Mm, kRy m C o p b Y' ∧ ∀ Q : Option km_V → km_Al → km_Mm → Prop, km_E M_X12_nameValue [.inr (.inr 123), .inl v] (km_A0 q c s) (kmR Y g t 0 x hs hm hya ν ς σ) Q ↔ Q (some (.inr (.inl (kVv m o p b x v)))) (km_A0 q c s) (kmR Y' g t 0 x hs hm hya ν ς σ) := by
  obtain ⟨hb, -, hT, hO, hM, hF, -, -, hS, -⟩ := h
  obtain ⟨a1, a2, a3⟩ := ha
  have h1 := hb.1
  have hYR := @kRy_R m C Y o p b g t 0 x hs hm hya ν ς σ hY
  obtain ⟨yj, yc, y55, y57, y58⟩ := id hY
  obtain ⟨⟨v0, v1⟩, hk⟩ := hk
  have fin : ∀ (f : Int → Int) (e : Int), kVv m o p b x v = e → (∀ Q : Option km_V → km_Al → km_Mm → Prop, km_E M_X12_nameValue [.inr (.inr 123), .inl v] (km_A0 q c s) (kmR Y g t 0 x hs hm hya ν ς σ) Q ↔ Q (some (.inr (.inl e))) (km_A0 q c s) (km_sr (kmR Y g t 0 x hs hm hya ν ς σ) 130 f)) → ∃ Y' : km_Mm, kRy m C o p b Y' ∧ ∀ Q : Option km_V → km_Al → km_Mm → Prop, km_E M_X12_nameValue [.inr (.inr 123), .inl v] (km_A0 q c s) (kmR Y g t 0 x hs hm hya ν ς σ) Q ↔ Q (some (.inr (.inl (kVv m o p b x v)))) (km_A0 q c s) (kmR Y' g t 0 x hs hm hya ν ς σ) := fun f e he hq => ⟨km_sr Y 130 f, kRy_130 hY, fun Q => by rw [he, ← kR_sr]; exact hq Q⟩
  have fin0 : ∀ (e : Int), kVv m o p b x v = e → (∀ Q : Option km_V → km_Al → km_Mm → Prop, km_E M_X12_nameValue [.inr (.inr 123), .inl v] (km_A0 q c s) (kmR Y g t 0 x hs hm hya ν ς σ) Q ↔ Q (some (.inr (.inl e))) (km_A0 q c s) (kmR Y g t 0 x hs hm hya ν ς σ)) → ∃ Y' : km_Mm, kRy m C o p b Y' ∧ ∀ Q : Option km_V → km_Al → km_Mm → Prop, km_E M_X12_nameValue [.inr (.inr 123), .inl v] (km_A0 q c s) (kmR Y g t 0 x hs hm hya ν ς σ) Q ↔ Q (some (.inr (.inl (kVv m o p b x v)))) (km_A0 q c s) (kmR Y' g t 0 x hs hm hya ν ς σ) := fun e he hq => ⟨Y, hY, fun Q => by rw [he]; exact hq Q⟩
  have v15 : v ≤ 15 := by omega
  have ho : 0 ≤ o ∧ o < m 19 1 := a1 (by omega)
  have o6 := hO.1
  have op := hO.2.1 o ho.1 ho.2
  have e0 : kVv m o p b x v = (if v = 12 then m 20 o else if v = 13 then m 21 o else if v = 14 then kFr m o else kcnt (kC m o) (m 5 1).toNat) := by unfold kVv; rw [if_pos v15, if_pos ho]
  have y151 : Y 151 o = m 20 o := (yj 151 o (by decide) (kJ_no (by decide))).trans op.1.1
  have y152 : Y 152 o = m 21 o := (yj 152 o (by decide) (kJ_no (by decide))).trans op.1.2
  have xx : x < 0 ∨ ¬ x < 0 := by omega
  subst hv
  obtain ⟨M', f1, f2⟩ := @md_fareOf q c s m (kmR Y g t 0 x hs hm hya ν ς σ) o hb hT hO hF hYR.1 ho.1 ho.2
  have eM := @kR_eq M' Y g t 0 x hs hm hya ν ς σ (fun b j w => f1 b j (by omega))
  refine ⟨M', ⟨fun d j z1 z2 => (f1 d j (fun w => z2 (by unfold kJ; omega))).trans (hYR.1 d j z1 z2), fun d j hd => (f1 d j (by omega)).trans (hYR.2.1 d j hd), (f1 123 55 (by omega)).trans y55, (f1 123 57 (by omega)).trans y57, (f1 123 58 (by omega)).trans y58⟩, fun Q => ?_⟩
  rw [e0, ← eM]
  have e14 : (if (14 : Int) = 12 then m 20 o else if (14 : Int) = 13 then m 21 o else if (14 : Int) = 14 then kFr m o else kcnt (kC m o) (m 5 1).toNat) = kFr m o := rfl
  rw [e14, e_X12_nameValue]
  rcases xx with xx | xx <;> simp (config := { decide := true }) (disch := first | decide | assumption | omega | (simp (config := { decide := true }) only [km_sr_sf, km_sr_of, km_up_of, km_up_o, km_upx_i, km_upx_s, km_fl2_o, ne_eq, not_true_eq_false, not_false_eq_true] <;> omega) | fail) only [g_X12_nameValue, kRo, kR55, kR56, kR57, y55, y57, xx, ho, f2, ka_lt, ka_le, ka_nlt, ka_nle, ka_ne, ka_eq, Int.add_sub_cancel, true_or, or_true, false_or, or_false, false_and, and_false, if_true, if_false, ka_lo, ka_hi, ka_nn, km_sr_sf, km_sr_of, km_up_of, km_sr_us, km_sr_uo, km_sr_sr, km_sr_fl, km_sr_flo, km_up_up, km_up_lt, km_lay, km_unL, km_up_o, km_upx_i, km_upx_s, km_fl2_o, km_is, Option.some.injEq, Sum.inl.injEq, Sum.inr.injEq, Option.toList_some, Option.toList_none, List.cons_append, List.nil_append, ne_eq, true_and, and_true, and_self, not_true_eq_false, not_false_eq_true, true_implies, false_implies, reduceCtorEq]

theorem md_n15 {x v hh g t hs hm hya : Int} {ν ς σ : Int → Int} {Y : km_Mm} (h : kI0 N m) (hN : N ≤ 1000) (ha : kAt m o p b ln) (hal : ∀ y, y ∈ al → 0 ≤ y ∧ y < m 5 1) (hY : kRy m C o p b Y) (hk : kok ln v hh) (hx : (hh = 1 ∧ x ∈ al) ∨ (hh = 0 ∧ x = -1)) (hv : v = 15) : ∃ Y' : km_Mm, kRy m C o p b Y' ∧ ∀ Q : Option km_V → km_Al → km_Mm → Prop, km_E M_X12_nameValue [.inr (.inr 123), .inl v] (km_A0 q c s) (kmR Y g t 0 x hs hm hya ν ς σ) Q ↔ Q (some (.inr (.inl (kVv m o p b x v)))) (km_A0 q c s) (kmR Y' g t 0 x hs hm hya ν ς σ) := by
  obtain ⟨hb, -, hT, hO, hM, hF, -, -, hS, -⟩ := h
  obtain ⟨a1, a2, a3⟩ := ha
  have h1 := hb.1
  have hYR := @kRy_R m C Y o p b g t 0 x hs hm hya ν ς σ hY
  obtain ⟨yj, yc, y55, y57, y58⟩ := id hY
  obtain ⟨⟨v0, v1⟩, hk⟩ := hk
  have fin : ∀ (f : Int → Int) (e : Int), kVv m o p b x v = e → (∀ Q : Option km_V → km_Al → km_Mm → Prop, km_E M_X12_nameValue [.inr (.inr 123), .inl v] (km_A0 q c s) (kmR Y g t 0 x hs hm hya ν ς σ) Q ↔ Q (some (.inr (.inl e))) (km_A0 q c s) (km_sr (kmR Y g t 0 x hs hm hya ν ς σ) 130 f)) → ∃ Y' : km_Mm, kRy m C o p b Y' ∧ ∀ Q : Option km_V → km_Al → km_Mm → Prop, km_E M_X12_nameValue [.inr (.inr 123), .inl v] (km_A0 q c s) (kmR Y g t 0 x hs hm hya ν ς σ) Q ↔ Q (some (.inr (.inl (kVv m o p b x v)))) (km_A0 q c s) (kmR Y' g t 0 x hs hm hya ν ς σ) := fun f e he hq => ⟨km_sr Y 130 f, kRy_130 hY, fun Q => by rw [he, ← kR_sr]; exact hq Q⟩
  have fin0 : ∀ (e : Int), kVv m o p b x v = e → (∀ Q : Option km_V → km_Al → km_Mm → Prop, km_E M_X12_nameValue [.inr (.inr 123), .inl v] (km_A0 q c s) (kmR Y g t 0 x hs hm hya ν ς σ) Q ↔ Q (some (.inr (.inl e))) (km_A0 q c s) (kmR Y g t 0 x hs hm hya ν ς σ)) → ∃ Y' : km_Mm, kRy m C o p b Y' ∧ ∀ Q : Option km_V → km_Al → km_Mm → Prop, km_E M_X12_nameValue [.inr (.inr 123), .inl v] (km_A0 q c s) (kmR Y g t 0 x hs hm hya ν ς σ) Q ↔ Q (some (.inr (.inl (kVv m o p b x v)))) (km_A0 q c s) (kmR Y' g t 0 x hs hm hya ν ς σ) := fun e he hq => ⟨Y, hY, fun Q => by rw [he]; exact hq Q⟩
  have v15 : v ≤ 15 := by omega
  have ho : 0 ≤ o ∧ o < m 19 1 := a1 (by omega)
  have o6 := hO.1
  have op := hO.2.1 o ho.1 ho.2
  have e0 : kVv m o p b x v = (if v = 12 then m 20 o else if v = 13 then m 21 o else if v = 14 then kFr m o else kcnt (kC m o) (m 5 1).toNat) := by unfold kVv; rw [if_pos v15, if_pos ho]
  have y151 : Y 151 o = m 20 o := (yj 151 o (by decide) (kJ_no (by decide))).trans op.1.1
  have y152 : Y 152 o = m 21 o := (yj 152 o (by decide) (kJ_no (by decide))).trans op.1.2
  have xx : x < 0 ∨ ¬ x < 0 := by omega
  subst hv
  obtain ⟨f, f1⟩ := @md_comeOf q c s m (kmR Y g t 0 x hs hm hya ν ς σ) o hb hO hYR.1 ho.1 ho.2
  refine fin f (kcnt (kC m o) (m 5 1).toNat) e0 (fun Q => ?_)
  rw [e_X12_nameValue]
  rcases xx with xx | xx <;> simp (config := { decide := true }) (disch := first | decide | assumption | omega | (simp (config := { decide := true }) only [km_sr_sf, km_sr_of, km_up_of, km_up_o, km_upx_i, km_upx_s, km_fl2_o, ne_eq, not_true_eq_false, not_false_eq_true] <;> omega) | fail) only [g_X12_nameValue, kRo, kR55, kR56, kR57, y55, y57, xx, ho, f1, ka_lt, ka_le, ka_nlt, ka_nle, ka_ne, ka_eq, Int.add_sub_cancel, true_or, or_true, false_or, or_false, false_and, and_false, if_true, if_false, ka_lo, ka_hi, ka_nn, km_sr_sf, km_sr_of, km_up_of, km_sr_us, km_sr_uo, km_sr_sr, km_sr_fl, km_sr_flo, km_up_up, km_up_lt, km_lay, km_unL, km_up_o, km_upx_i, km_upx_s, km_fl2_o, km_is, Option.some.injEq, Sum.inl.injEq, Sum.inr.injEq, Option.toList_some, Option.toList_none, List.cons_append, List.nil_append, ne_eq, true_and, and_true, and_self, not_true_eq_false, not_false_eq_true, true_implies, false_implies, reduceCtorEq]

theorem md_n23 {x v hh g t hs hm hya : Int} {ν ς σ : Int → Int} {Y : km_Mm} (h : kI0 N m) (hN : N ≤ 1000) (ha : kAt m o p b ln) (hal : ∀ y, y ∈ al → 0 ≤ y ∧ y < m 5 1) (hY : kRy m C o p b Y) (hk : kok ln v hh) (hx : (hh = 1 ∧ x ∈ al) ∨ (hh = 0 ∧ x = -1)) (hv : v = 23) : ∃ Y' : km_Mm, kRy m C o p b Y' ∧ ∀ Q : Option km_V → km_Al → km_Mm → Prop, km_E M_X12_nameValue [.inr (.inr 123), .inl v] (km_A0 q c s) (kmR Y g t 0 x hs hm hya ν ς σ) Q ↔ Q (some (.inr (.inl (kVv m o p b x v)))) (km_A0 q c s) (kmR Y' g t 0 x hs hm hya ν ς σ) := by
  obtain ⟨hb, -, hT, hO, hM, hF, -, -, hS, -⟩ := h
  obtain ⟨a1, a2, a3⟩ := ha
  have h1 := hb.1
  have hYR := @kRy_R m C Y o p b g t 0 x hs hm hya ν ς σ hY
  obtain ⟨yj, yc, y55, y57, y58⟩ := id hY
  obtain ⟨⟨v0, v1⟩, hk⟩ := hk
  have fin : ∀ (f : Int → Int) (e : Int), kVv m o p b x v = e → (∀ Q : Option km_V → km_Al → km_Mm → Prop, km_E M_X12_nameValue [.inr (.inr 123), .inl v] (km_A0 q c s) (kmR Y g t 0 x hs hm hya ν ς σ) Q ↔ Q (some (.inr (.inl e))) (km_A0 q c s) (km_sr (kmR Y g t 0 x hs hm hya ν ς σ) 130 f)) → ∃ Y' : km_Mm, kRy m C o p b Y' ∧ ∀ Q : Option km_V → km_Al → km_Mm → Prop, km_E M_X12_nameValue [.inr (.inr 123), .inl v] (km_A0 q c s) (kmR Y g t 0 x hs hm hya ν ς σ) Q ↔ Q (some (.inr (.inl (kVv m o p b x v)))) (km_A0 q c s) (kmR Y' g t 0 x hs hm hya ν ς σ) := fun f e he hq => ⟨km_sr Y 130 f, kRy_130 hY, fun Q => by rw [he, ← kR_sr]; exact hq Q⟩
  have fin0 : ∀ (e : Int), kVv m o p b x v = e → (∀ Q : Option km_V → km_Al → km_Mm → Prop, km_E M_X12_nameValue [.inr (.inr 123), .inl v] (km_A0 q c s) (kmR Y g t 0 x hs hm hya ν ς σ) Q ↔ Q (some (.inr (.inl e))) (km_A0 q c s) (kmR Y g t 0 x hs hm hya ν ς σ)) → ∃ Y' : km_Mm, kRy m C o p b Y' ∧ ∀ Q : Option km_V → km_Al → km_Mm → Prop, km_E M_X12_nameValue [.inr (.inr 123), .inl v] (km_A0 q c s) (kmR Y g t 0 x hs hm hya ν ς σ) Q ↔ Q (some (.inr (.inl (kVv m o p b x v)))) (km_A0 q c s) (kmR Y' g t 0 x hs hm hya ν ς σ) := fun e he hq => ⟨Y, hY, fun Q => by rw [he]; exact hq Q⟩
  have v15 : ¬ v ≤ 15 := by omega
  have v23 : 23 ≤ v ∧ v ≤ 25 := by omega
  have hb4 : 0 ≤ b ∧ b < 4 := a2 (by omega)
  have hs4 := hS b hb4.1 hb4.2
  have e0 : kVv m o p b x v = (if v = 23 then m 1 b else if v = 24 then m 2 b else kcnt (kPe m b) (m 5 1).toNat) := by unfold kVv; rw [if_neg v15, if_pos v23, if_pos hb4]
  have y182 : Y 182 b = m 1 b := (yj 182 b (by decide) (kJ_no (by decide))).trans hs4.1.1
  have y183 : Y 183 b = m 2 b := (yj 183 b (by decide) (kJ_no (by decide))).trans hs4.2.1
  have xx : x < 0 ∨ ¬ x < 0 := by omega
  subst hv
  refine fin0 (m 1 b) e0 (fun Q => ?_)
  rw [e_X12_nameValue]
  rcases xx with xx | xx <;> simp (config := { decide := true }) (disch := first | decide | assumption | omega | (simp (config := { decide := true }) only [km_sr_sf, km_sr_of, km_up_of, km_up_o, km_upx_i, km_upx_s, km_fl2_o, ne_eq, not_true_eq_false, not_false_eq_true] <;> omega) | fail) only [g_X12_nameValue, kRo, kR58, kR56, kR57, y58, y57, xx, hb4, y182, ka_lt, ka_le, ka_nlt, ka_nle, ka_ne, ka_eq, Int.add_sub_cancel, true_or, or_true, false_or, or_false, false_and, and_false, if_true, if_false, ka_lo, ka_hi, ka_nn, km_sr_sf, km_sr_of, km_up_of, km_sr_us, km_sr_uo, km_sr_sr, km_sr_fl, km_sr_flo, km_up_up, km_up_lt, km_lay, km_unL, km_up_o, km_upx_i, km_upx_s, km_fl2_o, km_is, Option.some.injEq, Sum.inl.injEq, Sum.inr.injEq, Option.toList_some, Option.toList_none, List.cons_append, List.nil_append, ne_eq, true_and, and_true, and_self, not_true_eq_false, not_false_eq_true, true_implies, false_implies, reduceCtorEq]

theorem md_n24 {x v hh g t hs hm hya : Int} {ν ς σ : Int → Int} {Y : km_Mm} (h : kI0 N m) (hN : N ≤ 1000) (ha : kAt m o p b ln) (hal : ∀ y, y ∈ al → 0 ≤ y ∧ y < m 5 1) (hY : kRy m C o p b Y) (hk : kok ln v hh) (hx : (hh = 1 ∧ x ∈ al) ∨ (hh = 0 ∧ x = -1)) (hv : v = 24) : ∃ Y' : km_Mm, kRy m C o p b Y' ∧ ∀ Q : Option km_V → km_Al → km_Mm → Prop, km_E M_X12_nameValue [.inr (.inr 123), .inl v] (km_A0 q c s) (kmR Y g t 0 x hs hm hya ν ς σ) Q ↔ Q (some (.inr (.inl (kVv m o p b x v)))) (km_A0 q c s) (kmR Y' g t 0 x hs hm hya ν ς σ) := by
  obtain ⟨hb, -, hT, hO, hM, hF, -, -, hS, -⟩ := h
  obtain ⟨a1, a2, a3⟩ := ha
  have h1 := hb.1
  have hYR := @kRy_R m C Y o p b g t 0 x hs hm hya ν ς σ hY
  obtain ⟨yj, yc, y55, y57, y58⟩ := id hY
  obtain ⟨⟨v0, v1⟩, hk⟩ := hk
  have fin : ∀ (f : Int → Int) (e : Int), kVv m o p b x v = e → (∀ Q : Option km_V → km_Al → km_Mm → Prop, km_E M_X12_nameValue [.inr (.inr 123), .inl v] (km_A0 q c s) (kmR Y g t 0 x hs hm hya ν ς σ) Q ↔ Q (some (.inr (.inl e))) (km_A0 q c s) (km_sr (kmR Y g t 0 x hs hm hya ν ς σ) 130 f)) → ∃ Y' : km_Mm, kRy m C o p b Y' ∧ ∀ Q : Option km_V → km_Al → km_Mm → Prop, km_E M_X12_nameValue [.inr (.inr 123), .inl v] (km_A0 q c s) (kmR Y g t 0 x hs hm hya ν ς σ) Q ↔ Q (some (.inr (.inl (kVv m o p b x v)))) (km_A0 q c s) (kmR Y' g t 0 x hs hm hya ν ς σ) := fun f e he hq => ⟨km_sr Y 130 f, kRy_130 hY, fun Q => by rw [he, ← kR_sr]; exact hq Q⟩
  have fin0 : ∀ (e : Int), kVv m o p b x v = e → (∀ Q : Option km_V → km_Al → km_Mm → Prop, km_E M_X12_nameValue [.inr (.inr 123), .inl v] (km_A0 q c s) (kmR Y g t 0 x hs hm hya ν ς σ) Q ↔ Q (some (.inr (.inl e))) (km_A0 q c s) (kmR Y g t 0 x hs hm hya ν ς σ)) → ∃ Y' : km_Mm, kRy m C o p b Y' ∧ ∀ Q : Option km_V → km_Al → km_Mm → Prop, km_E M_X12_nameValue [.inr (.inr 123), .inl v] (km_A0 q c s) (kmR Y g t 0 x hs hm hya ν ς σ) Q ↔ Q (some (.inr (.inl (kVv m o p b x v)))) (km_A0 q c s) (kmR Y' g t 0 x hs hm hya ν ς σ) := fun e he hq => ⟨Y, hY, fun Q => by rw [he]; exact hq Q⟩
  have v15 : ¬ v ≤ 15 := by omega
  have v23 : 23 ≤ v ∧ v ≤ 25 := by omega
  have hb4 : 0 ≤ b ∧ b < 4 := a2 (by omega)
  have hs4 := hS b hb4.1 hb4.2
  have e0 : kVv m o p b x v = (if v = 23 then m 1 b else if v = 24 then m 2 b else kcnt (kPe m b) (m 5 1).toNat) := by unfold kVv; rw [if_neg v15, if_pos v23, if_pos hb4]
  have y182 : Y 182 b = m 1 b := (yj 182 b (by decide) (kJ_no (by decide))).trans hs4.1.1
  have y183 : Y 183 b = m 2 b := (yj 183 b (by decide) (kJ_no (by decide))).trans hs4.2.1
  have xx : x < 0 ∨ ¬ x < 0 := by omega
  subst hv
  refine fin0 (m 2 b) e0 (fun Q => ?_)
  rw [e_X12_nameValue]
  rcases xx with xx | xx <;> simp (config := { decide := true }) (disch := first | decide | assumption | omega | (simp (config := { decide := true }) only [km_sr_sf, km_sr_of, km_up_of, km_up_o, km_upx_i, km_upx_s, km_fl2_o, ne_eq, not_true_eq_false, not_false_eq_true] <;> omega) | fail) only [g_X12_nameValue, kRo, kR58, kR56, kR57, y58, y57, xx, hb4, y183, ka_lt, ka_le, ka_nlt, ka_nle, ka_ne, ka_eq, Int.add_sub_cancel, true_or, or_true, false_or, or_false, false_and, and_false, if_true, if_false, ka_lo, ka_hi, ka_nn, km_sr_sf, km_sr_of, km_up_of, km_sr_us, km_sr_uo, km_sr_sr, km_sr_fl, km_sr_flo, km_up_up, km_up_lt, km_lay, km_unL, km_up_o, km_upx_i, km_upx_s, km_fl2_o, km_is, Option.some.injEq, Sum.inl.injEq, Sum.inr.injEq, Option.toList_some, Option.toList_none, List.cons_append, List.nil_append, ne_eq, true_and, and_true, and_self, not_true_eq_false, not_false_eq_true, true_implies, false_implies, reduceCtorEq]

theorem md_n25 {x v hh g t hs hm hya : Int} {ν ς σ : Int → Int} {Y : km_Mm} (h : kI0 N m) (hN : N ≤ 1000) (ha : kAt m o p b ln) (hal : ∀ y, y ∈ al → 0 ≤ y ∧ y < m 5 1) (hY : kRy m C o p b Y) (hk : kok ln v hh) (hx : (hh = 1 ∧ x ∈ al) ∨ (hh = 0 ∧ x = -1)) (hv : v = 25) : ∃ Y' : km_Mm, kRy m C o p b Y' ∧ ∀ Q : Option km_V → km_Al → km_Mm → Prop, km_E M_X12_nameValue [.inr (.inr 123), .inl v] (km_A0 q c s) (kmR Y g t 0 x hs hm hya ν ς σ) Q ↔ Q (some (.inr (.inl (kVv m o p b x v)))) (km_A0 q c s) (kmR Y' g t 0 x hs hm hya ν ς σ) := by
  obtain ⟨hb, -, hT, hO, hM, hF, -, -, hS, -⟩ := h
  obtain ⟨a1, a2, a3⟩ := ha
  have h1 := hb.1
  have hYR := @kRy_R m C Y o p b g t 0 x hs hm hya ν ς σ hY
  obtain ⟨yj, yc, y55, y57, y58⟩ := id hY
  obtain ⟨⟨v0, v1⟩, hk⟩ := hk
  have fin : ∀ (f : Int → Int) (e : Int), kVv m o p b x v = e → (∀ Q : Option km_V → km_Al → km_Mm → Prop, km_E M_X12_nameValue [.inr (.inr 123), .inl v] (km_A0 q c s) (kmR Y g t 0 x hs hm hya ν ς σ) Q ↔ Q (some (.inr (.inl e))) (km_A0 q c s) (km_sr (kmR Y g t 0 x hs hm hya ν ς σ) 130 f)) → ∃ Y' : km_Mm, kRy m C o p b Y' ∧ ∀ Q : Option km_V → km_Al → km_Mm → Prop, km_E M_X12_nameValue [.inr (.inr 123), .inl v] (km_A0 q c s) (kmR Y g t 0 x hs hm hya ν ς σ) Q ↔ Q (some (.inr (.inl (kVv m o p b x v)))) (km_A0 q c s) (kmR Y' g t 0 x hs hm hya ν ς σ) := fun f e he hq => ⟨km_sr Y 130 f, kRy_130 hY, fun Q => by rw [he, ← kR_sr]; exact hq Q⟩
  have fin0 : ∀ (e : Int), kVv m o p b x v = e → (∀ Q : Option km_V → km_Al → km_Mm → Prop, km_E M_X12_nameValue [.inr (.inr 123), .inl v] (km_A0 q c s) (kmR Y g t 0 x hs hm hya ν ς σ) Q ↔ Q (some (.inr (.inl e))) (km_A0 q c s) (kmR Y g t 0 x hs hm hya ν ς σ)) → ∃ Y' : km_Mm, kRy m C o p b Y' ∧ ∀ Q : Option km_V → km_Al → km_Mm → Prop, km_E M_X12_nameValue [.inr (.inr 123), .inl v] (km_A0 q c s) (kmR Y g t 0 x hs hm hya ν ς σ) Q ↔ Q (some (.inr (.inl (kVv m o p b x v)))) (km_A0 q c s) (kmR Y' g t 0 x hs hm hya ν ς σ) := fun e he hq => ⟨Y, hY, fun Q => by rw [he]; exact hq Q⟩
  have v15 : ¬ v ≤ 15 := by omega
  have v23 : 23 ≤ v ∧ v ≤ 25 := by omega
  have hb4 : 0 ≤ b ∧ b < 4 := a2 (by omega)
  have hs4 := hS b hb4.1 hb4.2
  have e0 : kVv m o p b x v = (if v = 23 then m 1 b else if v = 24 then m 2 b else kcnt (kPe m b) (m 5 1).toNat) := by unfold kVv; rw [if_neg v15, if_pos v23, if_pos hb4]
  have y182 : Y 182 b = m 1 b := (yj 182 b (by decide) (kJ_no (by decide))).trans hs4.1.1
  have y183 : Y 183 b = m 2 b := (yj 183 b (by decide) (kJ_no (by decide))).trans hs4.2.1
  have xx : x < 0 ∨ ¬ x < 0 := by omega
  subst hv
  obtain ⟨f, f1⟩ := @md_peopleOf q c s m (kmR Y g t 0 x hs hm hya ν ς σ) b hb hT hYR.1
  refine fin f (kcnt (kPe m b) (m 5 1).toNat) e0 (fun Q => ?_)
  rw [e_X12_nameValue]
  rcases xx with xx | xx <;> simp (config := { decide := true }) (disch := first | decide | assumption | omega | (simp (config := { decide := true }) only [km_sr_sf, km_sr_of, km_up_of, km_up_o, km_upx_i, km_upx_s, km_fl2_o, ne_eq, not_true_eq_false, not_false_eq_true] <;> omega) | fail) only [g_X12_nameValue, kRo, kR58, kR56, kR57, y58, y57, xx, hb4, f1, ka_lt, ka_le, ka_nlt, ka_nle, ka_ne, ka_eq, Int.add_sub_cancel, true_or, or_true, false_or, or_false, false_and, and_false, if_true, if_false, ka_lo, ka_hi, ka_nn, km_sr_sf, km_sr_of, km_up_of, km_sr_us, km_sr_uo, km_sr_sr, km_sr_fl, km_sr_flo, km_up_up, km_up_lt, km_lay, km_unL, km_up_o, km_upx_i, km_upx_s, km_fl2_o, km_is, Option.some.injEq, Sum.inl.injEq, Sum.inr.injEq, Option.toList_some, Option.toList_none, List.cons_append, List.nil_append, ne_eq, true_and, and_true, and_self, not_true_eq_false, not_false_eq_true, true_implies, false_implies, reduceCtorEq]

theorem md_n16 {x v hh g t hs hm hya : Int} {ν ς σ : Int → Int} {Y : km_Mm} (h : kI0 N m) (hN : N ≤ 1000) (ha : kAt m o p b ln) (hal : ∀ y, y ∈ al → 0 ≤ y ∧ y < m 5 1) (hY : kRy m C o p b Y) (hk : kok ln v hh) (hx : (hh = 1 ∧ x ∈ al) ∨ (hh = 0 ∧ x = -1)) (hv : v = 16) : ∃ Y' : km_Mm, kRy m C o p b Y' ∧ ∀ Q : Option km_V → km_Al → km_Mm → Prop, km_E M_X12_nameValue [.inr (.inr 123), .inl v] (km_A0 q c s) (kmR Y g t 0 x hs hm hya ν ς σ) Q ↔ Q (some (.inr (.inl (kVv m o p b x v)))) (km_A0 q c s) (kmR Y' g t 0 x hs hm hya ν ς σ) := by
  obtain ⟨hb, -, hT, hO, hM, hF, -, -, hS, -⟩ := h
  obtain ⟨a1, a2, a3⟩ := ha
  have h1 := hb.1
  have hYR := @kRy_R m C Y o p b g t 0 x hs hm hya ν ς σ hY
  obtain ⟨yj, yc, y55, y57, y58⟩ := id hY
  obtain ⟨⟨v0, v1⟩, hk⟩ := hk
  have fin : ∀ (f : Int → Int) (e : Int), kVv m o p b x v = e → (∀ Q : Option km_V → km_Al → km_Mm → Prop, km_E M_X12_nameValue [.inr (.inr 123), .inl v] (km_A0 q c s) (kmR Y g t 0 x hs hm hya ν ς σ) Q ↔ Q (some (.inr (.inl e))) (km_A0 q c s) (km_sr (kmR Y g t 0 x hs hm hya ν ς σ) 130 f)) → ∃ Y' : km_Mm, kRy m C o p b Y' ∧ ∀ Q : Option km_V → km_Al → km_Mm → Prop, km_E M_X12_nameValue [.inr (.inr 123), .inl v] (km_A0 q c s) (kmR Y g t 0 x hs hm hya ν ς σ) Q ↔ Q (some (.inr (.inl (kVv m o p b x v)))) (km_A0 q c s) (kmR Y' g t 0 x hs hm hya ν ς σ) := fun f e he hq => ⟨km_sr Y 130 f, kRy_130 hY, fun Q => by rw [he, ← kR_sr]; exact hq Q⟩
  have fin0 : ∀ (e : Int), kVv m o p b x v = e → (∀ Q : Option km_V → km_Al → km_Mm → Prop, km_E M_X12_nameValue [.inr (.inr 123), .inl v] (km_A0 q c s) (kmR Y g t 0 x hs hm hya ν ς σ) Q ↔ Q (some (.inr (.inl e))) (km_A0 q c s) (kmR Y g t 0 x hs hm hya ν ς σ)) → ∃ Y' : km_Mm, kRy m C o p b Y' ∧ ∀ Q : Option km_V → km_Al → km_Mm → Prop, km_E M_X12_nameValue [.inr (.inr 123), .inl v] (km_A0 q c s) (kmR Y g t 0 x hs hm hya ν ς σ) Q ↔ Q (some (.inr (.inl (kVv m o p b x v)))) (km_A0 q c s) (kmR Y' g t 0 x hs hm hya ν ς σ) := fun e he hq => ⟨Y, hY, fun Q => by rw [he]; exact hq Q⟩
  have v15 : ¬ v ≤ 15 := by omega
  have v23 : ¬ (23 ≤ v ∧ v ≤ 25) := by omega
  obtain ⟨k, hk1, hk2, hkx⟩ : ∃ k : Int, (if 0 ≤ x then x else p) = k ∧ (0 ≤ k ∧ k < m 5 1) ∧ ((¬ x < 0 ∧ x = k) ∨ (x < 0 ∧ p = k)) := by
    rcases hx with ⟨_, hx⟩ | ⟨hx1, hx2⟩
    · have := hal x hx
      exact ⟨x, if_pos this.1, this, Or.inl ⟨by omega, rfl⟩⟩
    · have hp : 0 ≤ p ∧ p < m 5 1 := a3 (by omega)
      exact ⟨p, if_neg (by omega), hp, Or.inr ⟨by omega, rfl⟩⟩
  have tr := hT k hk2.1 hk2.2
  have k10 : k < 10 := by omega
  have t125 : ∀ j : Int, Y 125 j = m 125 j := fun j => yj 125 j (by decide) (kJ_no (by decide))
  have u0 : Y 125 (5 * k) = m 7 k := (t125 _).trans tr.1.1
  have u1 : Y 125 (5 * k + 1) = m 8 k := (t125 _).trans tr.1.2.1
  have u2 : Y 125 (5 * k + 2) = m 9 k := (t125 _).trans tr.1.2.2.1
  have e0 : kVv m o p b x v = (if v = 16 then m 7 k else if v = 17 then m 8 k else if v = 18 then kLg m (m 5 3) k (m 5 2) else if v = 19 then m 9 k else if v = 26 then (if m 8 k = b then 1 else 0) else if 0 ≤ o ∧ o < m 19 1 then (if v = 20 then (if kQ m o k < 100 then 1 else 0) else if v = 21 then kQ m o k else m (30 + m 7 k) (m 20 o)) else 0) := by
    unfold kVv
    rw [if_neg v15, if_neg v23, hk1]
    unfold kVk
    rw [if_pos hk2]
  subst hv
  refine fin0 (m 7 k) e0 (fun Q => ?_)
  rw [e_X12_nameValue]
  rcases hkx with ⟨xx, rfl⟩ | ⟨xx, rfl⟩ <;> simp (config := { decide := true }) (disch := first | decide | assumption | omega | (simp (config := { decide := true }) only [km_sr_sf, km_sr_of, km_up_of, km_up_o, km_upx_i, km_upx_s, km_fl2_o, ne_eq, not_true_eq_false, not_false_eq_true] <;> omega) | fail) only [g_X12_nameValue, kRo, kR55, kR56, kR57, y55, y57, xx, hk2, u0, ka_lt, ka_le, ka_nlt, ka_nle, ka_ne, ka_eq, Int.add_sub_cancel, true_or, or_true, false_or, or_false, false_and, and_false, if_true, if_false, ka_lo, ka_hi, ka_nn, km_sr_sf, km_sr_of, km_up_of, km_sr_us, km_sr_uo, km_sr_sr, km_sr_fl, km_sr_flo, km_up_up, km_up_lt, km_lay, km_unL, km_up_o, km_upx_i, km_upx_s, km_fl2_o, km_is, Option.some.injEq, Sum.inl.injEq, Sum.inr.injEq, Option.toList_some, Option.toList_none, List.cons_append, List.nil_append, ne_eq, true_and, and_true, and_self, not_true_eq_false, not_false_eq_true, true_implies, false_implies, reduceCtorEq]

theorem md_n17 {x v hh g t hs hm hya : Int} {ν ς σ : Int → Int} {Y : km_Mm} (h : kI0 N m) (hN : N ≤ 1000) (ha : kAt m o p b ln) (hal : ∀ y, y ∈ al → 0 ≤ y ∧ y < m 5 1) (hY : kRy m C o p b Y) (hk : kok ln v hh) (hx : (hh = 1 ∧ x ∈ al) ∨ (hh = 0 ∧ x = -1)) (hv : v = 17) : ∃ Y' : km_Mm, kRy m C o p b Y' ∧ ∀ Q : Option km_V → km_Al → km_Mm → Prop, km_E M_X12_nameValue [.inr (.inr 123), .inl v] (km_A0 q c s) (kmR Y g t 0 x hs hm hya ν ς σ) Q ↔ Q (some (.inr (.inl (kVv m o p b x v)))) (km_A0 q c s) (kmR Y' g t 0 x hs hm hya ν ς σ) := by
  obtain ⟨hb, -, hT, hO, hM, hF, -, -, hS, -⟩ := h
  obtain ⟨a1, a2, a3⟩ := ha
  have h1 := hb.1
  have hYR := @kRy_R m C Y o p b g t 0 x hs hm hya ν ς σ hY
  obtain ⟨yj, yc, y55, y57, y58⟩ := id hY
  obtain ⟨⟨v0, v1⟩, hk⟩ := hk
  have fin : ∀ (f : Int → Int) (e : Int), kVv m o p b x v = e → (∀ Q : Option km_V → km_Al → km_Mm → Prop, km_E M_X12_nameValue [.inr (.inr 123), .inl v] (km_A0 q c s) (kmR Y g t 0 x hs hm hya ν ς σ) Q ↔ Q (some (.inr (.inl e))) (km_A0 q c s) (km_sr (kmR Y g t 0 x hs hm hya ν ς σ) 130 f)) → ∃ Y' : km_Mm, kRy m C o p b Y' ∧ ∀ Q : Option km_V → km_Al → km_Mm → Prop, km_E M_X12_nameValue [.inr (.inr 123), .inl v] (km_A0 q c s) (kmR Y g t 0 x hs hm hya ν ς σ) Q ↔ Q (some (.inr (.inl (kVv m o p b x v)))) (km_A0 q c s) (kmR Y' g t 0 x hs hm hya ν ς σ) := fun f e he hq => ⟨km_sr Y 130 f, kRy_130 hY, fun Q => by rw [he, ← kR_sr]; exact hq Q⟩
  have fin0 : ∀ (e : Int), kVv m o p b x v = e → (∀ Q : Option km_V → km_Al → km_Mm → Prop, km_E M_X12_nameValue [.inr (.inr 123), .inl v] (km_A0 q c s) (kmR Y g t 0 x hs hm hya ν ς σ) Q ↔ Q (some (.inr (.inl e))) (km_A0 q c s) (kmR Y g t 0 x hs hm hya ν ς σ)) → ∃ Y' : km_Mm, kRy m C o p b Y' ∧ ∀ Q : Option km_V → km_Al → km_Mm → Prop, km_E M_X12_nameValue [.inr (.inr 123), .inl v] (km_A0 q c s) (kmR Y g t 0 x hs hm hya ν ς σ) Q ↔ Q (some (.inr (.inl (kVv m o p b x v)))) (km_A0 q c s) (kmR Y' g t 0 x hs hm hya ν ς σ) := fun e he hq => ⟨Y, hY, fun Q => by rw [he]; exact hq Q⟩
  have v15 : ¬ v ≤ 15 := by omega
  have v23 : ¬ (23 ≤ v ∧ v ≤ 25) := by omega
  obtain ⟨k, hk1, hk2, hkx⟩ : ∃ k : Int, (if 0 ≤ x then x else p) = k ∧ (0 ≤ k ∧ k < m 5 1) ∧ ((¬ x < 0 ∧ x = k) ∨ (x < 0 ∧ p = k)) := by
    rcases hx with ⟨_, hx⟩ | ⟨hx1, hx2⟩
    · have := hal x hx
      exact ⟨x, if_pos this.1, this, Or.inl ⟨by omega, rfl⟩⟩
    · have hp : 0 ≤ p ∧ p < m 5 1 := a3 (by omega)
      exact ⟨p, if_neg (by omega), hp, Or.inr ⟨by omega, rfl⟩⟩
  have tr := hT k hk2.1 hk2.2
  have k10 : k < 10 := by omega
  have t125 : ∀ j : Int, Y 125 j = m 125 j := fun j => yj 125 j (by decide) (kJ_no (by decide))
  have u0 : Y 125 (5 * k) = m 7 k := (t125 _).trans tr.1.1
  have u1 : Y 125 (5 * k + 1) = m 8 k := (t125 _).trans tr.1.2.1
  have u2 : Y 125 (5 * k + 2) = m 9 k := (t125 _).trans tr.1.2.2.1
  have e0 : kVv m o p b x v = (if v = 16 then m 7 k else if v = 17 then m 8 k else if v = 18 then kLg m (m 5 3) k (m 5 2) else if v = 19 then m 9 k else if v = 26 then (if m 8 k = b then 1 else 0) else if 0 ≤ o ∧ o < m 19 1 then (if v = 20 then (if kQ m o k < 100 then 1 else 0) else if v = 21 then kQ m o k else m (30 + m 7 k) (m 20 o)) else 0) := by
    unfold kVv
    rw [if_neg v15, if_neg v23, hk1]
    unfold kVk
    rw [if_pos hk2]
  subst hv
  refine fin0 (m 8 k) e0 (fun Q => ?_)
  rw [e_X12_nameValue]
  rcases hkx with ⟨xx, rfl⟩ | ⟨xx, rfl⟩ <;> simp (config := { decide := true }) (disch := first | decide | assumption | omega | (simp (config := { decide := true }) only [km_sr_sf, km_sr_of, km_up_of, km_up_o, km_upx_i, km_upx_s, km_fl2_o, ne_eq, not_true_eq_false, not_false_eq_true] <;> omega) | fail) only [g_X12_nameValue, kRo, kR55, kR56, kR57, y55, y57, xx, hk2, u1, ka_lt, ka_le, ka_nlt, ka_nle, ka_ne, ka_eq, Int.add_sub_cancel, true_or, or_true, false_or, or_false, false_and, and_false, if_true, if_false, ka_lo, ka_hi, ka_nn, km_sr_sf, km_sr_of, km_up_of, km_sr_us, km_sr_uo, km_sr_sr, km_sr_fl, km_sr_flo, km_up_up, km_up_lt, km_lay, km_unL, km_up_o, km_upx_i, km_upx_s, km_fl2_o, km_is, Option.some.injEq, Sum.inl.injEq, Sum.inr.injEq, Option.toList_some, Option.toList_none, List.cons_append, List.nil_append, ne_eq, true_and, and_true, and_self, not_true_eq_false, not_false_eq_true, true_implies, false_implies, reduceCtorEq]

theorem md_n18 {x v hh g t hs hm hya : Int} {ν ς σ : Int → Int} {Y : km_Mm} (h : kI0 N m) (hN : N ≤ 1000) (ha : kAt m o p b ln) (hal : ∀ y, y ∈ al → 0 ≤ y ∧ y < m 5 1) (hY : kRy m C o p b Y) (hk : kok ln v hh) (hx : (hh = 1 ∧ x ∈ al) ∨ (hh = 0 ∧ x = -1)) (hv : v = 18) : ∃ Y' : km_Mm, kRy m C o p b Y' ∧ ∀ Q : Option km_V → km_Al → km_Mm → Prop, km_E M_X12_nameValue [.inr (.inr 123), .inl v] (km_A0 q c s) (kmR Y g t 0 x hs hm hya ν ς σ) Q ↔ Q (some (.inr (.inl (kVv m o p b x v)))) (km_A0 q c s) (kmR Y' g t 0 x hs hm hya ν ς σ) := by
  obtain ⟨hb, -, hT, hO, hM, hF, -, -, hS, -⟩ := h
  obtain ⟨a1, a2, a3⟩ := ha
  have h1 := hb.1
  have hYR := @kRy_R m C Y o p b g t 0 x hs hm hya ν ς σ hY
  obtain ⟨yj, yc, y55, y57, y58⟩ := id hY
  obtain ⟨⟨v0, v1⟩, hk⟩ := hk
  have fin : ∀ (f : Int → Int) (e : Int), kVv m o p b x v = e → (∀ Q : Option km_V → km_Al → km_Mm → Prop, km_E M_X12_nameValue [.inr (.inr 123), .inl v] (km_A0 q c s) (kmR Y g t 0 x hs hm hya ν ς σ) Q ↔ Q (some (.inr (.inl e))) (km_A0 q c s) (km_sr (kmR Y g t 0 x hs hm hya ν ς σ) 130 f)) → ∃ Y' : km_Mm, kRy m C o p b Y' ∧ ∀ Q : Option km_V → km_Al → km_Mm → Prop, km_E M_X12_nameValue [.inr (.inr 123), .inl v] (km_A0 q c s) (kmR Y g t 0 x hs hm hya ν ς σ) Q ↔ Q (some (.inr (.inl (kVv m o p b x v)))) (km_A0 q c s) (kmR Y' g t 0 x hs hm hya ν ς σ) := fun f e he hq => ⟨km_sr Y 130 f, kRy_130 hY, fun Q => by rw [he, ← kR_sr]; exact hq Q⟩
  have fin0 : ∀ (e : Int), kVv m o p b x v = e → (∀ Q : Option km_V → km_Al → km_Mm → Prop, km_E M_X12_nameValue [.inr (.inr 123), .inl v] (km_A0 q c s) (kmR Y g t 0 x hs hm hya ν ς σ) Q ↔ Q (some (.inr (.inl e))) (km_A0 q c s) (kmR Y g t 0 x hs hm hya ν ς σ)) → ∃ Y' : km_Mm, kRy m C o p b Y' ∧ ∀ Q : Option km_V → km_Al → km_Mm → Prop, km_E M_X12_nameValue [.inr (.inr 123), .inl v] (km_A0 q c s) (kmR Y g t 0 x hs hm hya ν ς σ) Q ↔ Q (some (.inr (.inl (kVv m o p b x v)))) (km_A0 q c s) (kmR Y' g t 0 x hs hm hya ν ς σ) := fun e he hq => ⟨Y, hY, fun Q => by rw [he]; exact hq Q⟩
  have v15 : ¬ v ≤ 15 := by omega
  have v23 : ¬ (23 ≤ v ∧ v ≤ 25) := by omega
  obtain ⟨k, hk1, hk2, hkx⟩ : ∃ k : Int, (if 0 ≤ x then x else p) = k ∧ (0 ≤ k ∧ k < m 5 1) ∧ ((¬ x < 0 ∧ x = k) ∨ (x < 0 ∧ p = k)) := by
    rcases hx with ⟨_, hx⟩ | ⟨hx1, hx2⟩
    · have := hal x hx
      exact ⟨x, if_pos this.1, this, Or.inl ⟨by omega, rfl⟩⟩
    · have hp : 0 ≤ p ∧ p < m 5 1 := a3 (by omega)
      exact ⟨p, if_neg (by omega), hp, Or.inr ⟨by omega, rfl⟩⟩
  have tr := hT k hk2.1 hk2.2
  have k10 : k < 10 := by omega
  have t125 : ∀ j : Int, Y 125 j = m 125 j := fun j => yj 125 j (by decide) (kJ_no (by decide))
  have u0 : Y 125 (5 * k) = m 7 k := (t125 _).trans tr.1.1
  have u1 : Y 125 (5 * k + 1) = m 8 k := (t125 _).trans tr.1.2.1
  have u2 : Y 125 (5 * k + 2) = m 9 k := (t125 _).trans tr.1.2.2.1
  have e0 : kVv m o p b x v = (if v = 16 then m 7 k else if v = 17 then m 8 k else if v = 18 then kLg m (m 5 3) k (m 5 2) else if v = 19 then m 9 k else if v = 26 then (if m 8 k = b then 1 else 0) else if 0 ≤ o ∧ o < m 19 1 then (if v = 20 then (if kQ m o k < 100 then 1 else 0) else if v = 21 then kQ m o k else m (30 + m 7 k) (m 20 o)) else 0) := by
    unfold kVv
    rw [if_neg v15, if_neg v23, hk1]
    unfold kVk
    rw [if_pos hk2]
  subst hv
  obtain ⟨f, f1, f2⟩ := @md_age q c s m (kmR Y g t 0 x hs hm hya ν ς σ) k hb hYR.1 ⟨hk2.1, k10⟩
  have E11 : Y 123 11 = m 5 2 := (yj 123 11 (by decide) (by unfold kJ; omega)).trans hb.2.1.2.2
  have E5 : Y 123 5 = m 5 3 := (yj 123 5 (by decide) (by unfold kJ; omega)).trans hb.2.2.1.2.2
  have R5 : kmR Y g t 0 x hs hm hya ν ς σ 123 5 = m 5 3 := E5
  have R11 : km_sr (kmR Y g t 0 x hs hm hya ν ς σ) 130 f 123 11 = m 5 2 := by rw [km_sr_o (by decide)]; exact E11
  refine fin f (kLg m (m 5 3) k (m 5 2)) e0 (fun Q => ?_)
  rw [e_X12_nameValue]
  rcases hkx with ⟨xx, rfl⟩ | ⟨xx, rfl⟩
  · simp (config := { decide := true }) (disch := first | decide | assumption | omega | (simp (config := { decide := true }) only [km_sr_sf, km_sr_of, km_up_of, km_up_o, km_upx_i, km_upx_s, km_fl2_o, ne_eq, not_true_eq_false, not_false_eq_true] <;> omega) | fail) only [g_X12_nameValue, kR56, kR57, y55, y57, xx, hk2, R5, E5, f1, kR11, E11, f2, ka_lt, ka_le, ka_nlt, ka_nle, ka_ne, ka_eq, Int.add_sub_cancel, true_or, or_true, false_or, or_false, false_and, and_false, if_true, if_false, ka_lo, ka_hi, ka_nn, km_sr_sf, km_sr_of, km_up_of, km_sr_us, km_sr_uo, km_sr_sr, km_sr_fl, km_sr_flo, km_up_up, km_up_lt, km_lay, km_unL, km_up_o, km_upx_i, km_upx_s, km_fl2_o, km_is, Option.some.injEq, Sum.inl.injEq, Sum.inr.injEq, Option.toList_some, Option.toList_none, List.cons_append, List.nil_append, ne_eq, true_and, and_true, and_self, not_true_eq_false, not_false_eq_true, true_implies, false_implies, reduceCtorEq]
  · simp (config := { decide := true }) (disch := first | decide | assumption | omega | (simp (config := { decide := true }) only [km_sr_sf, km_sr_of, km_up_of, km_up_o, km_upx_i, km_upx_s, km_fl2_o, ne_eq, not_true_eq_false, not_false_eq_true] <;> omega) | fail) only [g_X12_nameValue, kR56, kR57, y55, y57, xx, hk2, R5, E5, f1, kR11, E11, f2, ka_lt, ka_le, ka_nlt, ka_nle, ka_ne, ka_eq, Int.add_sub_cancel, true_or, or_true, false_or, or_false, false_and, and_false, if_true, if_false, ka_lo, ka_hi, ka_nn, km_sr_sf, km_sr_of, km_up_of, km_sr_us, km_sr_uo, km_sr_sr, km_sr_fl, km_sr_flo, km_up_up, km_up_lt, km_lay, km_unL, km_up_o, km_upx_i, km_upx_s, km_fl2_o, km_is, Option.some.injEq, Sum.inl.injEq, Sum.inr.injEq, Option.toList_some, Option.toList_none, List.cons_append, List.nil_append, ne_eq, true_and, and_true, and_self, not_true_eq_false, not_false_eq_true, true_implies, false_implies, reduceCtorEq]

theorem md_n19 {x v hh g t hs hm hya : Int} {ν ς σ : Int → Int} {Y : km_Mm} (h : kI0 N m) (hN : N ≤ 1000) (ha : kAt m o p b ln) (hal : ∀ y, y ∈ al → 0 ≤ y ∧ y < m 5 1) (hY : kRy m C o p b Y) (hk : kok ln v hh) (hx : (hh = 1 ∧ x ∈ al) ∨ (hh = 0 ∧ x = -1)) (hv : v = 19) : ∃ Y' : km_Mm, kRy m C o p b Y' ∧ ∀ Q : Option km_V → km_Al → km_Mm → Prop, km_E M_X12_nameValue [.inr (.inr 123), .inl v] (km_A0 q c s) (kmR Y g t 0 x hs hm hya ν ς σ) Q ↔ Q (some (.inr (.inl (kVv m o p b x v)))) (km_A0 q c s) (kmR Y' g t 0 x hs hm hya ν ς σ) := by
  obtain ⟨hb, -, hT, hO, hM, hF, -, -, hS, -⟩ := h
  obtain ⟨a1, a2, a3⟩ := ha
  have h1 := hb.1
  have hYR := @kRy_R m C Y o p b g t 0 x hs hm hya ν ς σ hY
  obtain ⟨yj, yc, y55, y57, y58⟩ := id hY
  obtain ⟨⟨v0, v1⟩, hk⟩ := hk
  have fin : ∀ (f : Int → Int) (e : Int), kVv m o p b x v = e → (∀ Q : Option km_V → km_Al → km_Mm → Prop, km_E M_X12_nameValue [.inr (.inr 123), .inl v] (km_A0 q c s) (kmR Y g t 0 x hs hm hya ν ς σ) Q ↔ Q (some (.inr (.inl e))) (km_A0 q c s) (km_sr (kmR Y g t 0 x hs hm hya ν ς σ) 130 f)) → ∃ Y' : km_Mm, kRy m C o p b Y' ∧ ∀ Q : Option km_V → km_Al → km_Mm → Prop, km_E M_X12_nameValue [.inr (.inr 123), .inl v] (km_A0 q c s) (kmR Y g t 0 x hs hm hya ν ς σ) Q ↔ Q (some (.inr (.inl (kVv m o p b x v)))) (km_A0 q c s) (kmR Y' g t 0 x hs hm hya ν ς σ) := fun f e he hq => ⟨km_sr Y 130 f, kRy_130 hY, fun Q => by rw [he, ← kR_sr]; exact hq Q⟩
  have fin0 : ∀ (e : Int), kVv m o p b x v = e → (∀ Q : Option km_V → km_Al → km_Mm → Prop, km_E M_X12_nameValue [.inr (.inr 123), .inl v] (km_A0 q c s) (kmR Y g t 0 x hs hm hya ν ς σ) Q ↔ Q (some (.inr (.inl e))) (km_A0 q c s) (kmR Y g t 0 x hs hm hya ν ς σ)) → ∃ Y' : km_Mm, kRy m C o p b Y' ∧ ∀ Q : Option km_V → km_Al → km_Mm → Prop, km_E M_X12_nameValue [.inr (.inr 123), .inl v] (km_A0 q c s) (kmR Y g t 0 x hs hm hya ν ς σ) Q ↔ Q (some (.inr (.inl (kVv m o p b x v)))) (km_A0 q c s) (kmR Y' g t 0 x hs hm hya ν ς σ) := fun e he hq => ⟨Y, hY, fun Q => by rw [he]; exact hq Q⟩
  have v15 : ¬ v ≤ 15 := by omega
  have v23 : ¬ (23 ≤ v ∧ v ≤ 25) := by omega
  obtain ⟨k, hk1, hk2, hkx⟩ : ∃ k : Int, (if 0 ≤ x then x else p) = k ∧ (0 ≤ k ∧ k < m 5 1) ∧ ((¬ x < 0 ∧ x = k) ∨ (x < 0 ∧ p = k)) := by
    rcases hx with ⟨_, hx⟩ | ⟨hx1, hx2⟩
    · have := hal x hx
      exact ⟨x, if_pos this.1, this, Or.inl ⟨by omega, rfl⟩⟩
    · have hp : 0 ≤ p ∧ p < m 5 1 := a3 (by omega)
      exact ⟨p, if_neg (by omega), hp, Or.inr ⟨by omega, rfl⟩⟩
  have tr := hT k hk2.1 hk2.2
  have k10 : k < 10 := by omega
  have t125 : ∀ j : Int, Y 125 j = m 125 j := fun j => yj 125 j (by decide) (kJ_no (by decide))
  have u0 : Y 125 (5 * k) = m 7 k := (t125 _).trans tr.1.1
  have u1 : Y 125 (5 * k + 1) = m 8 k := (t125 _).trans tr.1.2.1
  have u2 : Y 125 (5 * k + 2) = m 9 k := (t125 _).trans tr.1.2.2.1
  have e0 : kVv m o p b x v = (if v = 16 then m 7 k else if v = 17 then m 8 k else if v = 18 then kLg m (m 5 3) k (m 5 2) else if v = 19 then m 9 k else if v = 26 then (if m 8 k = b then 1 else 0) else if 0 ≤ o ∧ o < m 19 1 then (if v = 20 then (if kQ m o k < 100 then 1 else 0) else if v = 21 then kQ m o k else m (30 + m 7 k) (m 20 o)) else 0) := by
    unfold kVv
    rw [if_neg v15, if_neg v23, hk1]
    unfold kVk
    rw [if_pos hk2]
  subst hv
  refine fin0 (m 9 k) e0 (fun Q => ?_)
  rw [e_X12_nameValue]
  rcases hkx with ⟨xx, rfl⟩ | ⟨xx, rfl⟩ <;> simp (config := { decide := true }) (disch := first | decide | assumption | omega | (simp (config := { decide := true }) only [km_sr_sf, km_sr_of, km_up_of, km_up_o, km_upx_i, km_upx_s, km_fl2_o, ne_eq, not_true_eq_false, not_false_eq_true] <;> omega) | fail) only [g_X12_nameValue, kRo, kR55, kR56, kR57, y55, y57, xx, hk2, u2, ka_lt, ka_le, ka_nlt, ka_nle, ka_ne, ka_eq, Int.add_sub_cancel, true_or, or_true, false_or, or_false, false_and, and_false, if_true, if_false, ka_lo, ka_hi, ka_nn, km_sr_sf, km_sr_of, km_up_of, km_sr_us, km_sr_uo, km_sr_sr, km_sr_fl, km_sr_flo, km_up_up, km_up_lt, km_lay, km_unL, km_up_o, km_upx_i, km_upx_s, km_fl2_o, km_is, Option.some.injEq, Sum.inl.injEq, Sum.inr.injEq, Option.toList_some, Option.toList_none, List.cons_append, List.nil_append, ne_eq, true_and, and_true, and_self, not_true_eq_false, not_false_eq_true, true_implies, false_implies, reduceCtorEq]

theorem md_n26 {x v hh g t hs hm hya : Int} {ν ς σ : Int → Int} {Y : km_Mm} (h : kI0 N m) (hN : N ≤ 1000) (ha : kAt m o p b ln) (hal : ∀ y, y ∈ al → 0 ≤ y ∧ y < m 5 1) (hY : kRy m C o p b Y) (hk : kok ln v hh) (hx : (hh = 1 ∧ x ∈ al) ∨ (hh = 0 ∧ x = -1)) (hv : v = 26) : ∃ Y' : km_Mm, kRy m C o p b Y' ∧ ∀ Q : Option km_V → km_Al → km_Mm → Prop, km_E M_X12_nameValue [.inr (.inr 123), .inl v] (km_A0 q c s) (kmR Y g t 0 x hs hm hya ν ς σ) Q ↔ Q (some (.inr (.inl (kVv m o p b x v)))) (km_A0 q c s) (kmR Y' g t 0 x hs hm hya ν ς σ) := by
  obtain ⟨hb, -, hT, hO, hM, hF, -, -, hS, -⟩ := h
  obtain ⟨a1, a2, a3⟩ := ha
  have h1 := hb.1
  have hYR := @kRy_R m C Y o p b g t 0 x hs hm hya ν ς σ hY
  obtain ⟨yj, yc, y55, y57, y58⟩ := id hY
  obtain ⟨⟨v0, v1⟩, hk⟩ := hk
  have fin : ∀ (f : Int → Int) (e : Int), kVv m o p b x v = e → (∀ Q : Option km_V → km_Al → km_Mm → Prop, km_E M_X12_nameValue [.inr (.inr 123), .inl v] (km_A0 q c s) (kmR Y g t 0 x hs hm hya ν ς σ) Q ↔ Q (some (.inr (.inl e))) (km_A0 q c s) (km_sr (kmR Y g t 0 x hs hm hya ν ς σ) 130 f)) → ∃ Y' : km_Mm, kRy m C o p b Y' ∧ ∀ Q : Option km_V → km_Al → km_Mm → Prop, km_E M_X12_nameValue [.inr (.inr 123), .inl v] (km_A0 q c s) (kmR Y g t 0 x hs hm hya ν ς σ) Q ↔ Q (some (.inr (.inl (kVv m o p b x v)))) (km_A0 q c s) (kmR Y' g t 0 x hs hm hya ν ς σ) := fun f e he hq => ⟨km_sr Y 130 f, kRy_130 hY, fun Q => by rw [he, ← kR_sr]; exact hq Q⟩
  have fin0 : ∀ (e : Int), kVv m o p b x v = e → (∀ Q : Option km_V → km_Al → km_Mm → Prop, km_E M_X12_nameValue [.inr (.inr 123), .inl v] (km_A0 q c s) (kmR Y g t 0 x hs hm hya ν ς σ) Q ↔ Q (some (.inr (.inl e))) (km_A0 q c s) (kmR Y g t 0 x hs hm hya ν ς σ)) → ∃ Y' : km_Mm, kRy m C o p b Y' ∧ ∀ Q : Option km_V → km_Al → km_Mm → Prop, km_E M_X12_nameValue [.inr (.inr 123), .inl v] (km_A0 q c s) (kmR Y g t 0 x hs hm hya ν ς σ) Q ↔ Q (some (.inr (.inl (kVv m o p b x v)))) (km_A0 q c s) (kmR Y' g t 0 x hs hm hya ν ς σ) := fun e he hq => ⟨Y, hY, fun Q => by rw [he]; exact hq Q⟩
  have v15 : ¬ v ≤ 15 := by omega
  have v23 : ¬ (23 ≤ v ∧ v ≤ 25) := by omega
  obtain ⟨k, hk1, hk2, hkx⟩ : ∃ k : Int, (if 0 ≤ x then x else p) = k ∧ (0 ≤ k ∧ k < m 5 1) ∧ ((¬ x < 0 ∧ x = k) ∨ (x < 0 ∧ p = k)) := by
    rcases hx with ⟨_, hx⟩ | ⟨hx1, hx2⟩
    · have := hal x hx
      exact ⟨x, if_pos this.1, this, Or.inl ⟨by omega, rfl⟩⟩
    · have hp : 0 ≤ p ∧ p < m 5 1 := a3 (by omega)
      exact ⟨p, if_neg (by omega), hp, Or.inr ⟨by omega, rfl⟩⟩
  have tr := hT k hk2.1 hk2.2
  have k10 : k < 10 := by omega
  have t125 : ∀ j : Int, Y 125 j = m 125 j := fun j => yj 125 j (by decide) (kJ_no (by decide))
  have u0 : Y 125 (5 * k) = m 7 k := (t125 _).trans tr.1.1
  have u1 : Y 125 (5 * k + 1) = m 8 k := (t125 _).trans tr.1.2.1
  have u2 : Y 125 (5 * k + 2) = m 9 k := (t125 _).trans tr.1.2.2.1
  have e0 : kVv m o p b x v = (if v = 16 then m 7 k else if v = 17 then m 8 k else if v = 18 then kLg m (m 5 3) k (m 5 2) else if v = 19 then m 9 k else if v = 26 then (if m 8 k = b then 1 else 0) else if 0 ≤ o ∧ o < m 19 1 then (if v = 20 then (if kQ m o k < 100 then 1 else 0) else if v = 21 then kQ m o k else m (30 + m 7 k) (m 20 o)) else 0) := by
    unfold kVv
    rw [if_neg v15, if_neg v23, hk1]
    unfold kVk
    rw [if_pos hk2]
  subst hv
  refine fin0 (if m 8 k = b then 1 else 0) e0 (fun Q => ?_)
  rw [e_X12_nameValue]
  by_cases zb : m 8 k = b
  · rw [if_pos zb]
    rcases hkx with ⟨xx, rfl⟩ | ⟨xx, rfl⟩ <;> simp (config := { decide := true }) (disch := first | decide | assumption | omega | (simp (config := { decide := true }) only [km_sr_sf, km_sr_of, km_up_of, km_up_o, km_upx_i, km_upx_s, km_fl2_o, ne_eq, not_true_eq_false, not_false_eq_true] <;> omega) | fail) only [g_X12_nameValue, kRo, kR58, kR56, kR57, y58, y57, xx, hk2, u1, zb, d_truth (Or.inr rfl), ka_lt, ka_le, ka_nlt, ka_nle, ka_ne, ka_eq, Int.add_sub_cancel, true_or, or_true, false_or, or_false, false_and, and_false, if_true, if_false, ka_lo, ka_hi, ka_nn, km_sr_sf, km_sr_of, km_up_of, km_sr_us, km_sr_uo, km_sr_sr, km_sr_fl, km_sr_flo, km_up_up, km_up_lt, km_lay, km_unL, km_up_o, km_upx_i, km_upx_s, km_fl2_o, km_is, Option.some.injEq, Sum.inl.injEq, Sum.inr.injEq, Option.toList_some, Option.toList_none, List.cons_append, List.nil_append, ne_eq, true_and, and_true, and_self, not_true_eq_false, not_false_eq_true, true_implies, false_implies, reduceCtorEq]
  · rw [if_neg zb]
    rcases hkx with ⟨xx, rfl⟩ | ⟨xx, rfl⟩ <;> simp (config := { decide := true }) (disch := first | decide | assumption | omega | (simp (config := { decide := true }) only [km_sr_sf, km_sr_of, km_up_of, km_up_o, km_upx_i, km_upx_s, km_fl2_o, ne_eq, not_true_eq_false, not_false_eq_true] <;> omega) | fail) only [g_X12_nameValue, kRo, kR58, kR56, kR57, y58, y57, xx, hk2, u1, zb, d_truth (Or.inl rfl), ka_lt, ka_le, ka_nlt, ka_nle, ka_ne, ka_eq, Int.add_sub_cancel, true_or, or_true, false_or, or_false, false_and, and_false, if_true, if_false, ka_lo, ka_hi, ka_nn, km_sr_sf, km_sr_of, km_up_of, km_sr_us, km_sr_uo, km_sr_sr, km_sr_fl, km_sr_flo, km_up_up, km_up_lt, km_lay, km_unL, km_up_o, km_upx_i, km_upx_s, km_fl2_o, km_is, Option.some.injEq, Sum.inl.injEq, Sum.inr.injEq, Option.toList_some, Option.toList_none, List.cons_append, List.nil_append, ne_eq, true_and, and_true, and_self, not_true_eq_false, not_false_eq_true, true_implies, false_implies, reduceCtorEq]

theorem md_n20 {x v hh g t hs hm hya : Int} {ν ς σ : Int → Int} {Y : km_Mm} (h : kI0 N m) (hN : N ≤ 1000) (ha : kAt m o p b ln) (hal : ∀ y, y ∈ al → 0 ≤ y ∧ y < m 5 1) (hY : kRy m C o p b Y) (hk : kok ln v hh) (hx : (hh = 1 ∧ x ∈ al) ∨ (hh = 0 ∧ x = -1)) (hv : v = 20) : ∃ Y' : km_Mm, kRy m C o p b Y' ∧ ∀ Q : Option km_V → km_Al → km_Mm → Prop, km_E M_X12_nameValue [.inr (.inr 123), .inl v] (km_A0 q c s) (kmR Y g t 0 x hs hm hya ν ς σ) Q ↔ Q (some (.inr (.inl (kVv m o p b x v)))) (km_A0 q c s) (kmR Y' g t 0 x hs hm hya ν ς σ) := by
  obtain ⟨hb, -, hT, hO, hM, hF, -, -, hS, -⟩ := h
  obtain ⟨a1, a2, a3⟩ := ha
  have h1 := hb.1
  have hYR := @kRy_R m C Y o p b g t 0 x hs hm hya ν ς σ hY
  obtain ⟨yj, yc, y55, y57, y58⟩ := id hY
  obtain ⟨⟨v0, v1⟩, hk⟩ := hk
  have fin : ∀ (f : Int → Int) (e : Int), kVv m o p b x v = e → (∀ Q : Option km_V → km_Al → km_Mm → Prop, km_E M_X12_nameValue [.inr (.inr 123), .inl v] (km_A0 q c s) (kmR Y g t 0 x hs hm hya ν ς σ) Q ↔ Q (some (.inr (.inl e))) (km_A0 q c s) (km_sr (kmR Y g t 0 x hs hm hya ν ς σ) 130 f)) → ∃ Y' : km_Mm, kRy m C o p b Y' ∧ ∀ Q : Option km_V → km_Al → km_Mm → Prop, km_E M_X12_nameValue [.inr (.inr 123), .inl v] (km_A0 q c s) (kmR Y g t 0 x hs hm hya ν ς σ) Q ↔ Q (some (.inr (.inl (kVv m o p b x v)))) (km_A0 q c s) (kmR Y' g t 0 x hs hm hya ν ς σ) := fun f e he hq => ⟨km_sr Y 130 f, kRy_130 hY, fun Q => by rw [he, ← kR_sr]; exact hq Q⟩
  have fin0 : ∀ (e : Int), kVv m o p b x v = e → (∀ Q : Option km_V → km_Al → km_Mm → Prop, km_E M_X12_nameValue [.inr (.inr 123), .inl v] (km_A0 q c s) (kmR Y g t 0 x hs hm hya ν ς σ) Q ↔ Q (some (.inr (.inl e))) (km_A0 q c s) (kmR Y g t 0 x hs hm hya ν ς σ)) → ∃ Y' : km_Mm, kRy m C o p b Y' ∧ ∀ Q : Option km_V → km_Al → km_Mm → Prop, km_E M_X12_nameValue [.inr (.inr 123), .inl v] (km_A0 q c s) (kmR Y g t 0 x hs hm hya ν ς σ) Q ↔ Q (some (.inr (.inl (kVv m o p b x v)))) (km_A0 q c s) (kmR Y' g t 0 x hs hm hya ν ς σ) := fun e he hq => ⟨Y, hY, fun Q => by rw [he]; exact hq Q⟩
  have v15 : ¬ v ≤ 15 := by omega
  have v23 : ¬ (23 ≤ v ∧ v ≤ 25) := by omega
  obtain ⟨k, hk1, hk2, hkx⟩ : ∃ k : Int, (if 0 ≤ x then x else p) = k ∧ (0 ≤ k ∧ k < m 5 1) ∧ ((¬ x < 0 ∧ x = k) ∨ (x < 0 ∧ p = k)) := by
    rcases hx with ⟨_, hx⟩ | ⟨hx1, hx2⟩
    · have := hal x hx
      exact ⟨x, if_pos this.1, this, Or.inl ⟨by omega, rfl⟩⟩
    · have hp : 0 ≤ p ∧ p < m 5 1 := a3 (by omega)
      exact ⟨p, if_neg (by omega), hp, Or.inr ⟨by omega, rfl⟩⟩
  have tr := hT k hk2.1 hk2.2
  have k10 : k < 10 := by omega
  have t125 : ∀ j : Int, Y 125 j = m 125 j := fun j => yj 125 j (by decide) (kJ_no (by decide))
  have u0 : Y 125 (5 * k) = m 7 k := (t125 _).trans tr.1.1
  have u1 : Y 125 (5 * k + 1) = m 8 k := (t125 _).trans tr.1.2.1
  have u2 : Y 125 (5 * k + 2) = m 9 k := (t125 _).trans tr.1.2.2.1
  have e0 : kVv m o p b x v = (if v = 16 then m 7 k else if v = 17 then m 8 k else if v = 18 then kLg m (m 5 3) k (m 5 2) else if v = 19 then m 9 k else if v = 26 then (if m 8 k = b then 1 else 0) else if 0 ≤ o ∧ o < m 19 1 then (if v = 20 then (if kQ m o k < 100 then 1 else 0) else if v = 21 then kQ m o k else m (30 + m 7 k) (m 20 o)) else 0) := by
    unfold kVv
    rw [if_neg v15, if_neg v23, hk1]
    unfold kVk
    rw [if_pos hk2]
  have ho : 0 ≤ o ∧ o < m 19 1 := a1 (by omega)
  have o6 := hO.1
  have op := hO.2.1 o ho.1 ho.2
  rw [if_neg (by omega), if_neg (by omega), if_neg (by omega), if_neg (by omega), if_neg (by omega), if_pos ho] at e0
  subst hv
  obtain ⟨f, f1⟩ := @md_canCome q c s m (kmR Y g t 0 x hs hm hya ν ς σ) o k hb hO hYR.1 ho.1 ho.2 hk2.1 hk2.2
  refine fin f (if kQ m o k < 100 then 1 else 0) e0 (fun Q => ?_)
  rw [e_X12_nameValue]
  by_cases zc : kQ m o k < 100
  · rw [if_pos zc]
    have zc' : kC m o k := zc
    simp only [if_pos zc'] at f1
    rcases hkx with ⟨xx, rfl⟩ | ⟨xx, rfl⟩ <;> simp (config := { decide := true }) (disch := first | decide | assumption | omega | (simp (config := { decide := true }) only [km_sr_sf, km_sr_of, km_up_of, km_up_o, km_upx_i, km_upx_s, km_fl2_o, ne_eq, not_true_eq_false, not_false_eq_true] <;> omega) | fail) only [g_X12_nameValue, kRo, kR55, kR56, kR57, y55, y57, xx, hk2, f1, ka_lt, ka_le, ka_nlt, ka_nle, ka_ne, ka_eq, Int.add_sub_cancel, true_or, or_true, false_or, or_false, false_and, and_false, if_true, if_false, ka_lo, ka_hi, ka_nn, km_sr_sf, km_sr_of, km_up_of, km_sr_us, km_sr_uo, km_sr_sr, km_sr_fl, km_sr_flo, km_up_up, km_up_lt, km_lay, km_unL, km_up_o, km_upx_i, km_upx_s, km_fl2_o, km_is, Option.some.injEq, Sum.inl.injEq, Sum.inr.injEq, Option.toList_some, Option.toList_none, List.cons_append, List.nil_append, ne_eq, true_and, and_true, and_self, not_true_eq_false, not_false_eq_true, true_implies, false_implies, reduceCtorEq]
  · rw [if_neg zc]
    have zc' : ¬ kC m o k := zc
    simp only [if_neg zc'] at f1
    rcases hkx with ⟨xx, rfl⟩ | ⟨xx, rfl⟩ <;> simp (config := { decide := true }) (disch := first | decide | assumption | omega | (simp (config := { decide := true }) only [km_sr_sf, km_sr_of, km_up_of, km_up_o, km_upx_i, km_upx_s, km_fl2_o, ne_eq, not_true_eq_false, not_false_eq_true] <;> omega) | fail) only [g_X12_nameValue, kRo, kR55, kR56, kR57, y55, y57, xx, hk2, f1, ka_lt, ka_le, ka_nlt, ka_nle, ka_ne, ka_eq, Int.add_sub_cancel, true_or, or_true, false_or, or_false, false_and, and_false, if_true, if_false, ka_lo, ka_hi, ka_nn, km_sr_sf, km_sr_of, km_up_of, km_sr_us, km_sr_uo, km_sr_sr, km_sr_fl, km_sr_flo, km_up_up, km_up_lt, km_lay, km_unL, km_up_o, km_upx_i, km_upx_s, km_fl2_o, km_is, Option.some.injEq, Sum.inl.injEq, Sum.inr.injEq, Option.toList_some, Option.toList_none, List.cons_append, List.nil_append, ne_eq, true_and, and_true, and_self, not_true_eq_false, not_false_eq_true, true_implies, false_implies, reduceCtorEq]

theorem md_n21 {x v hh g t hs hm hya : Int} {ν ς σ : Int → Int} {Y : km_Mm} (h : kI0 N m) (hN : N ≤ 1000) (ha : kAt m o p b ln) (hal : ∀ y, y ∈ al → 0 ≤ y ∧ y < m 5 1) (hY : kRy m C o p b Y) (hk : kok ln v hh) (hx : (hh = 1 ∧ x ∈ al) ∨ (hh = 0 ∧ x = -1)) (hv : v = 21) : ∃ Y' : km_Mm, kRy m C o p b Y' ∧ ∀ Q : Option km_V → km_Al → km_Mm → Prop, km_E M_X12_nameValue [.inr (.inr 123), .inl v] (km_A0 q c s) (kmR Y g t 0 x hs hm hya ν ς σ) Q ↔ Q (some (.inr (.inl (kVv m o p b x v)))) (km_A0 q c s) (kmR Y' g t 0 x hs hm hya ν ς σ) := by
  obtain ⟨hb, -, hT, hO, hM, hF, -, -, hS, -⟩ := h
  obtain ⟨a1, a2, a3⟩ := ha
  have h1 := hb.1
  have hYR := @kRy_R m C Y o p b g t 0 x hs hm hya ν ς σ hY
  obtain ⟨yj, yc, y55, y57, y58⟩ := id hY
  obtain ⟨⟨v0, v1⟩, hk⟩ := hk
  have fin : ∀ (f : Int → Int) (e : Int), kVv m o p b x v = e → (∀ Q : Option km_V → km_Al → km_Mm → Prop, km_E M_X12_nameValue [.inr (.inr 123), .inl v] (km_A0 q c s) (kmR Y g t 0 x hs hm hya ν ς σ) Q ↔ Q (some (.inr (.inl e))) (km_A0 q c s) (km_sr (kmR Y g t 0 x hs hm hya ν ς σ) 130 f)) → ∃ Y' : km_Mm, kRy m C o p b Y' ∧ ∀ Q : Option km_V → km_Al → km_Mm → Prop, km_E M_X12_nameValue [.inr (.inr 123), .inl v] (km_A0 q c s) (kmR Y g t 0 x hs hm hya ν ς σ) Q ↔ Q (some (.inr (.inl (kVv m o p b x v)))) (km_A0 q c s) (kmR Y' g t 0 x hs hm hya ν ς σ) := fun f e he hq => ⟨km_sr Y 130 f, kRy_130 hY, fun Q => by rw [he, ← kR_sr]; exact hq Q⟩
  have fin0 : ∀ (e : Int), kVv m o p b x v = e → (∀ Q : Option km_V → km_Al → km_Mm → Prop, km_E M_X12_nameValue [.inr (.inr 123), .inl v] (km_A0 q c s) (kmR Y g t 0 x hs hm hya ν ς σ) Q ↔ Q (some (.inr (.inl e))) (km_A0 q c s) (kmR Y g t 0 x hs hm hya ν ς σ)) → ∃ Y' : km_Mm, kRy m C o p b Y' ∧ ∀ Q : Option km_V → km_Al → km_Mm → Prop, km_E M_X12_nameValue [.inr (.inr 123), .inl v] (km_A0 q c s) (kmR Y g t 0 x hs hm hya ν ς σ) Q ↔ Q (some (.inr (.inl (kVv m o p b x v)))) (km_A0 q c s) (kmR Y' g t 0 x hs hm hya ν ς σ) := fun e he hq => ⟨Y, hY, fun Q => by rw [he]; exact hq Q⟩
  have v15 : ¬ v ≤ 15 := by omega
  have v23 : ¬ (23 ≤ v ∧ v ≤ 25) := by omega
  obtain ⟨k, hk1, hk2, hkx⟩ : ∃ k : Int, (if 0 ≤ x then x else p) = k ∧ (0 ≤ k ∧ k < m 5 1) ∧ ((¬ x < 0 ∧ x = k) ∨ (x < 0 ∧ p = k)) := by
    rcases hx with ⟨_, hx⟩ | ⟨hx1, hx2⟩
    · have := hal x hx
      exact ⟨x, if_pos this.1, this, Or.inl ⟨by omega, rfl⟩⟩
    · have hp : 0 ≤ p ∧ p < m 5 1 := a3 (by omega)
      exact ⟨p, if_neg (by omega), hp, Or.inr ⟨by omega, rfl⟩⟩
  have tr := hT k hk2.1 hk2.2
  have k10 : k < 10 := by omega
  have t125 : ∀ j : Int, Y 125 j = m 125 j := fun j => yj 125 j (by decide) (kJ_no (by decide))
  have u0 : Y 125 (5 * k) = m 7 k := (t125 _).trans tr.1.1
  have u1 : Y 125 (5 * k + 1) = m 8 k := (t125 _).trans tr.1.2.1
  have u2 : Y 125 (5 * k + 2) = m 9 k := (t125 _).trans tr.1.2.2.1
  have e0 : kVv m o p b x v = (if v = 16 then m 7 k else if v = 17 then m 8 k else if v = 18 then kLg m (m 5 3) k (m 5 2) else if v = 19 then m 9 k else if v = 26 then (if m 8 k = b then 1 else 0) else if 0 ≤ o ∧ o < m 19 1 then (if v = 20 then (if kQ m o k < 100 then 1 else 0) else if v = 21 then kQ m o k else m (30 + m 7 k) (m 20 o)) else 0) := by
    unfold kVv
    rw [if_neg v15, if_neg v23, hk1]
    unfold kVk
    rw [if_pos hk2]
  have ho : 0 ≤ o ∧ o < m 19 1 := a1 (by omega)
  have o6 := hO.1
  have op := hO.2.1 o ho.1 ho.2
  rw [if_neg (by omega), if_neg (by omega), if_neg (by omega), if_neg (by omega), if_neg (by omega), if_pos ho] at e0
  subst hv
  obtain ⟨f, f1⟩ := @md_regretOf q c s m (kmR Y g t 0 x hs hm hya ν ς σ) o k hb hO hYR.1 ho.1 ho.2 hk2.1 hk2.2
  refine fin f (kQ m o k) e0 (fun Q => ?_)
  rw [e_X12_nameValue]
  rcases hkx with ⟨xx, rfl⟩ | ⟨xx, rfl⟩ <;> simp (config := { decide := true }) (disch := first | decide | assumption | omega | (simp (config := { decide := true }) only [km_sr_sf, km_sr_of, km_up_of, km_up_o, km_upx_i, km_upx_s, km_fl2_o, ne_eq, not_true_eq_false, not_false_eq_true] <;> omega) | fail) only [g_X12_nameValue, kRo, kR55, kR56, kR57, y55, y57, xx, hk2, f1, ka_lt, ka_le, ka_nlt, ka_nle, ka_ne, ka_eq, Int.add_sub_cancel, true_or, or_true, false_or, or_false, false_and, and_false, if_true, if_false, ka_lo, ka_hi, ka_nn, km_sr_sf, km_sr_of, km_up_of, km_sr_us, km_sr_uo, km_sr_sr, km_sr_fl, km_sr_flo, km_up_up, km_up_lt, km_lay, km_unL, km_up_o, km_upx_i, km_upx_s, km_fl2_o, km_is, Option.some.injEq, Sum.inl.injEq, Sum.inr.injEq, Option.toList_some, Option.toList_none, List.cons_append, List.nil_append, ne_eq, true_and, and_true, and_self, not_true_eq_false, not_false_eq_true, true_implies, false_implies, reduceCtorEq]

theorem md_n22 {x v hh g t hs hm hya : Int} {ν ς σ : Int → Int} {Y : km_Mm} (h : kI0 N m) (hN : N ≤ 1000) (ha : kAt m o p b ln) (hal : ∀ y, y ∈ al → 0 ≤ y ∧ y < m 5 1) (hY : kRy m C o p b Y) (hk : kok ln v hh) (hx : (hh = 1 ∧ x ∈ al) ∨ (hh = 0 ∧ x = -1)) (hv : v = 22) : ∃ Y' : km_Mm, kRy m C o p b Y' ∧ ∀ Q : Option km_V → km_Al → km_Mm → Prop, km_E M_X12_nameValue [.inr (.inr 123), .inl v] (km_A0 q c s) (kmR Y g t 0 x hs hm hya ν ς σ) Q ↔ Q (some (.inr (.inl (kVv m o p b x v)))) (km_A0 q c s) (kmR Y' g t 0 x hs hm hya ν ς σ) := by
  obtain ⟨hb, -, hT, hO, hM, hF, -, -, hS, -⟩ := h
  obtain ⟨a1, a2, a3⟩ := ha
  have h1 := hb.1
  have hYR := @kRy_R m C Y o p b g t 0 x hs hm hya ν ς σ hY
  obtain ⟨yj, yc, y55, y57, y58⟩ := id hY
  obtain ⟨⟨v0, v1⟩, hk⟩ := hk
  have fin : ∀ (f : Int → Int) (e : Int), kVv m o p b x v = e → (∀ Q : Option km_V → km_Al → km_Mm → Prop, km_E M_X12_nameValue [.inr (.inr 123), .inl v] (km_A0 q c s) (kmR Y g t 0 x hs hm hya ν ς σ) Q ↔ Q (some (.inr (.inl e))) (km_A0 q c s) (km_sr (kmR Y g t 0 x hs hm hya ν ς σ) 130 f)) → ∃ Y' : km_Mm, kRy m C o p b Y' ∧ ∀ Q : Option km_V → km_Al → km_Mm → Prop, km_E M_X12_nameValue [.inr (.inr 123), .inl v] (km_A0 q c s) (kmR Y g t 0 x hs hm hya ν ς σ) Q ↔ Q (some (.inr (.inl (kVv m o p b x v)))) (km_A0 q c s) (kmR Y' g t 0 x hs hm hya ν ς σ) := fun f e he hq => ⟨km_sr Y 130 f, kRy_130 hY, fun Q => by rw [he, ← kR_sr]; exact hq Q⟩
  have fin0 : ∀ (e : Int), kVv m o p b x v = e → (∀ Q : Option km_V → km_Al → km_Mm → Prop, km_E M_X12_nameValue [.inr (.inr 123), .inl v] (km_A0 q c s) (kmR Y g t 0 x hs hm hya ν ς σ) Q ↔ Q (some (.inr (.inl e))) (km_A0 q c s) (kmR Y g t 0 x hs hm hya ν ς σ)) → ∃ Y' : km_Mm, kRy m C o p b Y' ∧ ∀ Q : Option km_V → km_Al → km_Mm → Prop, km_E M_X12_nameValue [.inr (.inr 123), .inl v] (km_A0 q c s) (kmR Y g t 0 x hs hm hya ν ς σ) Q ↔ Q (some (.inr (.inl (kVv m o p b x v)))) (km_A0 q c s) (kmR Y' g t 0 x hs hm hya ν ς σ) := fun e he hq => ⟨Y, hY, fun Q => by rw [he]; exact hq Q⟩
  have v15 : ¬ v ≤ 15 := by omega
  have v23 : ¬ (23 ≤ v ∧ v ≤ 25) := by omega
  obtain ⟨k, hk1, hk2, hkx⟩ : ∃ k : Int, (if 0 ≤ x then x else p) = k ∧ (0 ≤ k ∧ k < m 5 1) ∧ ((¬ x < 0 ∧ x = k) ∨ (x < 0 ∧ p = k)) := by
    rcases hx with ⟨_, hx⟩ | ⟨hx1, hx2⟩
    · have := hal x hx
      exact ⟨x, if_pos this.1, this, Or.inl ⟨by omega, rfl⟩⟩
    · have hp : 0 ≤ p ∧ p < m 5 1 := a3 (by omega)
      exact ⟨p, if_neg (by omega), hp, Or.inr ⟨by omega, rfl⟩⟩
  have tr := hT k hk2.1 hk2.2
  have k10 : k < 10 := by omega
  have t125 : ∀ j : Int, Y 125 j = m 125 j := fun j => yj 125 j (by decide) (kJ_no (by decide))
  have u0 : Y 125 (5 * k) = m 7 k := (t125 _).trans tr.1.1
  have u1 : Y 125 (5 * k + 1) = m 8 k := (t125 _).trans tr.1.2.1
  have u2 : Y 125 (5 * k + 2) = m 9 k := (t125 _).trans tr.1.2.2.1
  have e0 : kVv m o p b x v = (if v = 16 then m 7 k else if v = 17 then m 8 k else if v = 18 then kLg m (m 5 3) k (m 5 2) else if v = 19 then m 9 k else if v = 26 then (if m 8 k = b then 1 else 0) else if 0 ≤ o ∧ o < m 19 1 then (if v = 20 then (if kQ m o k < 100 then 1 else 0) else if v = 21 then kQ m o k else m (30 + m 7 k) (m 20 o)) else 0) := by
    unfold kVv
    rw [if_neg v15, if_neg v23, hk1]
    unfold kVk
    rw [if_pos hk2]
  have ho : 0 ≤ o ∧ o < m 19 1 := a1 (by omega)
  have o6 := hO.1
  have op := hO.2.1 o ho.1 ho.2
  rw [if_neg (by omega), if_neg (by omega), if_neg (by omega), if_neg (by omega), if_neg (by omega), if_pos ho] at e0
  subst hv
  have y151 : Y 151 o = m 20 o := (yj 151 o (by decide) (kJ_no (by decide))).trans op.1.1
  have mi := hM (m 7 k) (m 20 o) tr.2.1.1 tr.2.1.2 op.2.1.1 op.2.1.2
  have y150 : Y 150 (6 * m 7 k + m 20 o) = m (30 + m 7 k) (m 20 o) := (yj 150 _ (by decide) (kJ_no (by decide))).trans mi.1
  have tb := tr.2.1
  have ob := op.2.1
  refine fin0 (m (30 + m 7 k) (m 20 o)) e0 (fun Q => ?_)
  rw [e_X12_nameValue]
  rcases hkx with ⟨xx, rfl⟩ | ⟨xx, rfl⟩ <;> simp (config := { decide := true }) (disch := first | decide | assumption | omega | (simp (config := { decide := true }) only [km_sr_sf, km_sr_of, km_up_of, km_up_o, km_upx_i, km_upx_s, km_fl2_o, ne_eq, not_true_eq_false, not_false_eq_true] <;> omega) | fail) only [g_X12_nameValue, kRo, kR55, kR56, kR57, y55, y57, xx, hk2, ho, u0, y151, y150, ka_lt, ka_le, ka_nlt, ka_nle, ka_ne, ka_eq, Int.add_sub_cancel, true_or, or_true, false_or, or_false, false_and, and_false, if_true, if_false, ka_lo, ka_hi, ka_nn, km_sr_sf, km_sr_of, km_up_of, km_sr_us, km_sr_uo, km_sr_sr, km_sr_fl, km_sr_flo, km_up_up, km_up_lt, km_lay, km_unL, km_up_o, km_upx_i, km_upx_s, km_fl2_o, km_is, Option.some.injEq, Sum.inl.injEq, Sum.inr.injEq, Option.toList_some, Option.toList_none, List.cons_append, List.nil_append, ne_eq, true_and, and_true, and_self, not_true_eq_false, not_false_eq_true, true_implies, false_implies, reduceCtorEq]
theorem md_names (h : kI0 N m) (hN : N ≤ 1000) (ha : kAt m o p b ln) (hal : ∀ y, y ∈ al → 0 ≤ y ∧ y < m 5 1) : kNr q c s m C o p b (kVv m o p b) al ln := by
  intro x v hh g t hs hm hya ν ς σ Y hY hk hx
  have vv : v = 12 ∨ v = 13 ∨ v = 14 ∨ v = 15 ∨ v = 16 ∨ v = 17 ∨ v = 18 ∨ v = 19 ∨ v = 20 ∨ v = 21 ∨ v = 22 ∨ v = 23 ∨ v = 24 ∨ v = 25 ∨ v = 26 := by have := hk.1; omega
  rcases vv with v1 | v1 | v1 | v1 | v1 | v1 | v1 | v1 | v1 | v1 | v1 | v1 | v1 | v1 | v1
  · exact md_n12 h hN ha hal hY hk hx v1
  · exact md_n13 h hN ha hal hY hk hx v1
  · exact md_n14 h hN ha hal hY hk hx v1
  · exact md_n15 h hN ha hal hY hk hx v1
  · exact md_n16 h hN ha hal hY hk hx v1
  · exact md_n17 h hN ha hal hY hk hx v1
  · exact md_n18 h hN ha hal hY hk hx v1
  · exact md_n19 h hN ha hal hY hk hx v1
  · exact md_n20 h hN ha hal hY hk hx v1
  · exact md_n21 h hN ha hal hY hk hx v1
  · exact md_n22 h hN ha hal hY hk hx v1
  · exact md_n23 h hN ha hal hY hk hx v1
  · exact md_n24 h hN ha hal hY hk hx v1
  · exact md_n25 h hN ha hal hY hk hx v1
  · exact md_n26 h hN ha hal hY hk hx v1
/-- the bits of those alive -/
noncomputable def kAl (m : km_Mm) : Int := kset (kA m) (m 5 1).toNat
theorem kAl_tb (hb : kI_book m) {k : Int} (h0 : 0 ≤ k) : tb (kAl m) k = true ↔ k < m 5 1 ∧ kA m k := by
  have h1 := hb.1
  unfold kAl
  rw [kset_tb _ (by omega) k h0]
  rw [show ((m 5 1).toNat : Int) = m 5 1 by omega]
theorem md_next (hb : kI_book m) : kNx q c s m C o p b (kAl m) (m 5 1) := by
  have h1 := hb.1
  intro x g t er hs hm ha ν ς σ Y hY x0 x1
  have lp : ∀ (n : Nat) (j : Int), 0 ≤ j → j + n = m 5 1 → ∀ Y : km_Mm, kRy m C o p b Y → ∃ Y' : km_Mm, kRy m C o p b Y' ∧ ∀ (Q : Option km_V → km_Al → km_Mm → Prop), km_G M_X12_nextKin 4 [some (.inr (.inr 123)), some (.inl x), some (.inl j)] [] (km_A0 q c s) (kmR Y g t er x hs hm ha ν ς σ) Q ↔ Q (some (.inl (khd (kal (kAl m) n j)))) (km_A0 q c s) (kmR Y' g t er x hs hm ha ν ς σ) := by
    intro n
    induction n with
    | zero =>
      intro j j0 jn Y hY
      have e3 : Y 123 3 = m 5 1 := (hY.1 123 3 (by decide) (by unfold kJ; omega)).trans h1.2.2
      have z : ¬ j < m 5 1 := by omega
      refine ⟨Y, hY, fun Q => ?_⟩
      rw [g_X12_nextKin_4]
      unfold kal khd
      simp (config := { decide := true }) (disch := first | decide | assumption | omega | (simp (config := { decide := true }) only [km_sr_sf, km_sr_of, km_up_of, km_up_o, km_upx_i, km_upx_s, km_fl2_o, ne_eq, not_true_eq_false, not_false_eq_true] <;> omega) | fail) only [g_X12_nextKin, kR3, e3, z, ka_lt, ka_le, ka_nlt, ka_nle, ka_ne, ka_eq, Int.add_sub_cancel, true_or, or_true, false_or, or_false, false_and, and_false, if_true, if_false, ka_lo, ka_hi, ka_nn, km_sr_sf, km_sr_of, km_up_of, km_sr_us, km_sr_uo, km_sr_sr, km_sr_fl, km_sr_flo, km_up_up, km_up_lt, km_lay, km_unL, km_up_o, km_upx_i, km_upx_s, km_fl2_o, km_is, Option.some.injEq, Sum.inl.injEq, Sum.inr.injEq, Option.toList_some, Option.toList_none, List.cons_append, List.nil_append, ne_eq, true_and, and_true, and_self, not_true_eq_false, not_false_eq_true, true_implies, false_implies, reduceCtorEq]
    | succ n ih =>
      intro j j0 jn Y hY
      have e3 : Y 123 3 = m 5 1 := (hY.1 123 3 (by decide) (by unfold kJ; omega)).trans h1.2.2
      have z : j < m 5 1 := by omega
      obtain ⟨f, f1⟩ := @md_livesM q c s m (kmR Y g t er x hs hm ha ν ς σ) j hb (kRy_R hY).1 ⟨j0, by omega⟩
      have tbj := kAl_tb hb j0
      unfold kal
      by_cases a : kA m j
      · rw [if_pos (tbj.mpr ⟨z, a⟩)]
        simp only [if_pos a] at f1
        refine ⟨km_sr Y 130 f, kRy_130 hY, fun Q => ?_⟩
        rw [g_X12_nextKin_4, ← kR_sr]
        unfold khd
        simp (config := { decide := true }) (disch := first | decide | assumption | omega | (simp (config := { decide := true }) only [km_sr_sf, km_sr_of, km_up_of, km_up_o, km_upx_i, km_upx_s, km_fl2_o, ne_eq, not_true_eq_false, not_false_eq_true] <;> omega) | fail) only [g_X12_nextKin, kR3, e3, z, f1, ka_lt, ka_le, ka_nlt, ka_nle, ka_ne, ka_eq, Int.add_sub_cancel, true_or, or_true, false_or, or_false, false_and, and_false, if_true, if_false, ka_lo, ka_hi, ka_nn, km_sr_sf, km_sr_of, km_up_of, km_sr_us, km_sr_uo, km_sr_sr, km_sr_fl, km_sr_flo, km_up_up, km_up_lt, km_lay, km_unL, km_up_o, km_upx_i, km_upx_s, km_fl2_o, km_is, Option.some.injEq, Sum.inl.injEq, Sum.inr.injEq, Option.toList_some, Option.toList_none, List.cons_append, List.nil_append, ne_eq, true_and, and_true, and_self, not_true_eq_false, not_false_eq_true, true_implies, false_implies, reduceCtorEq]
      · rw [if_neg (fun w => a (tbj.mp w).2)]
        simp only [if_neg a] at f1
        obtain ⟨Y', y1, y2⟩ := ih (j + 1) (by omega) (by omega) (km_sr Y 130 f) (kRy_130 hY)
        refine ⟨Y', y1, fun Q => ?_⟩
        rw [← y2 Q, ← kR_sr, g_X12_nextKin_4]
        simp (config := { decide := true }) (disch := first | decide | assumption | omega | (simp (config := { decide := true }) only [km_sr_sf, km_sr_of, km_up_of, km_up_o, km_upx_i, km_upx_s, km_fl2_o, ne_eq, not_true_eq_false, not_false_eq_true] <;> omega) | fail) only [g_X12_nextKin, kR3, e3, z, f1, ka_lt, ka_le, ka_nlt, ka_nle, ka_ne, ka_eq, Int.add_sub_cancel, true_or, or_true, false_or, or_false, false_and, and_false, if_true, if_false, ka_lo, ka_hi, ka_nn, km_sr_sf, km_sr_of, km_up_of, km_sr_us, km_sr_uo, km_sr_sr, km_sr_fl, km_sr_flo, km_up_up, km_up_lt, km_lay, km_unL, km_up_o, km_upx_i, km_upx_s, km_fl2_o, km_is, Option.some.injEq, Sum.inl.injEq, Sum.inr.injEq, Option.toList_some, Option.toList_none, List.cons_append, List.nil_append, ne_eq, true_and, and_true, and_self, not_true_eq_false, not_false_eq_true, true_implies, false_implies, reduceCtorEq]
  obtain ⟨Y', y1, y2⟩ := lp (m 5 1 - (x + 1)).toNat (x + 1) (by omega) (by omega) Y hY
  refine ⟨Y', y1, fun Q => ?_⟩
  rw [← y2 Q, e_X12_nextKin]
  simp (config := { decide := true }) (disch := first | decide | assumption | omega | (simp (config := { decide := true }) only [km_sr_sf, km_sr_of, km_up_of, km_up_o, km_upx_i, km_upx_s, km_fl2_o, ne_eq, not_true_eq_false, not_false_eq_true] <;> omega) | fail) only [g_X12_nextKin, ka_lt, ka_le, ka_nlt, ka_nle, ka_ne, ka_eq, Int.add_sub_cancel, true_or, or_true, false_or, or_false, false_and, and_false, if_true, if_false, ka_lo, ka_hi, ka_nn, km_sr_sf, km_sr_of, km_up_of, km_sr_us, km_sr_uo, km_sr_sr, km_sr_fl, km_sr_flo, km_up_up, km_up_lt, km_lay, km_unL, km_up_o, km_upx_i, km_upx_s, km_fl2_o, km_is, Option.some.injEq, Sum.inl.injEq, Sum.inr.injEq, Option.toList_some, Option.toList_none, List.cons_append, List.nil_append, ne_eq, true_and, and_true, and_self, not_true_eq_false, not_false_eq_true, true_implies, false_implies, reduceCtorEq]
end KN

