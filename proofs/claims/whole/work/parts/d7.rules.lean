/-! ===== rules: the class before and behind its parser, the reference's loops around its lines ===== -/
theorem km_upR_37 {q : Nat × Int × Int × Int × Int} {c s : Nat} {x : Int} : km_upR (km_A0 q c s) 37 1 x = km_A0 (q.1, q.2.1, q.2.2.1, x, q.2.2.2.2) c s := by
  have e : km_up (km_A0 q c s).2.2.2.1 37 1 x = (km_A0 (q.1, q.2.1, q.2.2.1, x, q.2.2.2.2) c s).2.2.2.1 := by
    funext b i
    unfold km_up km_A0
    dsimp only
    by_cases h : b = 37
    · subst h
      by_cases k : i = 1
      · subst k; simp
      · simp [k]
    · simp [h]
  unfold km_upR
  rw [e]; rfl
theorem km_upR_02 {q : Nat × Int × Int × Int × Int} {c s : Nat} {x : Int} : km_upR (km_A0 q c s) 0 2 x = km_A0 (q.1, x, q.2.2.1, q.2.2.2.1, q.2.2.2.2) c s := by
  have e : km_up (km_A0 q c s).2.2.2.1 0 2 x = (km_A0 (q.1, x, q.2.2.1, q.2.2.2.1, q.2.2.2.2) c s).2.2.2.1 := by
    funext b i
    unfold km_up km_A0
    dsimp only
    by_cases h : b = 0
    · subst h
      by_cases k : i = 2
      · subst k; simp
      · simp [k]
    · simp [h]
  unfold km_upR
  rw [e]; rfl
theorem km_upR_03 {q : Nat × Int × Int × Int × Int} {c s : Nat} {x : Int} : km_upR (km_A0 q c s) 0 3 x = km_A0 (q.1, q.2.1, x, q.2.2.2.1, q.2.2.2.2) c s := by
  have e : km_up (km_A0 q c s).2.2.2.1 0 3 x = (km_A0 (q.1, q.2.1, x, q.2.2.2.1, q.2.2.2.2) c s).2.2.2.1 := by
    funext b i
    unfold km_up km_A0
    dsimp only
    by_cases h : b = 0
    · subst h
      by_cases k : i = 3
      · subst k; simp
      · simp [k]
    · simp [h]
  unfold km_upR
  rw [e]; rfl
theorem km_upR_69 {q : Nat × Int × Int × Int × Int} {c s : Nat} {x : Int} : km_upR (km_A0 q c s) 69 6 x = km_A0 (q.1, q.2.1, q.2.2.1, q.2.2.2.1, x) c s := by
  have e : km_up (km_A0 q c s).2.2.2.1 69 6 x = (km_A0 (q.1, q.2.1, q.2.2.1, q.2.2.2.1, x) c s).2.2.2.1 := by
    funext b i
    unfold km_up km_A0
    dsimp only
    by_cases h : b = 69
    · subst h
      by_cases k : i = 6
      · subst k; simp
      · simp [k]
    · simp [h]
  unfold km_upR
  rw [e]; rfl
/-- the parser's cells as it begins -/
def kPc (P : Int) (m : km_Mm) : km_Mm := km_up (km_up (km_up (km_up (km_up (km_fl2 m (P + 5) 0 7 (-1)) P 4 0) P 6 0) P 7 0) P 8 0) P 9 0
def kPa (P n : Int) (m : km_Mm) : km_Mm := km_up (km_up (km_up (km_up (km_up (km_up (km_up (km_up (kPc P m) 3 2 n) 3 3 0) 37 2 0) 37 3 (-1)) 37 4 0) 37 9 0) 37 10 0) 37 13 0
section PC
variable {q q' : Nat × Int × Int × Int × Int} {c s : Nat} {X Y Y' M : km_Mm} {P n : Int} {Q : Option km_V → km_Al → km_Mm → Prop}
theorem r_clear (hP : P = 40 ∨ P = 46) : km_E M_X8_clear [.inr (.inr P)] (km_A0 q c s) X Q ↔ Q none (km_A0 q c s) (kPc P X) := by
  rw [e_X8_clear]
  unfold kPc
  rcases hP with rfl | rfl
  · have f := fun m' Q => @r_fill q c s m' 45 (-1) 7 (by decide) (by simp (config := { decide := true }) only [km_lay, km_unL, km_up_o, km_upx_i, km_upx_s, km_fl2_o, km_is, Option.some.injEq, Sum.inl.injEq, Sum.inr.injEq, Option.toList_some, Option.toList_none, List.cons_append, List.nil_append, ne_eq, true_and, and_true, and_self, not_true_eq_false, not_false_eq_true, true_implies, false_implies, reduceCtorEq]) (by simp (config := { decide := true }) only [km_lay, km_unL, km_up_o, km_upx_i, km_upx_s, km_fl2_o, km_is, Option.some.injEq, Sum.inl.injEq, Sum.inr.injEq, Option.toList_some, Option.toList_none, List.cons_append, List.nil_append, ne_eq, true_and, and_true, and_self, not_true_eq_false, not_false_eq_true, true_implies, false_implies, reduceCtorEq]) (by simp (config := { decide := true }) only [km_lay, km_unL, km_up_o, km_upx_i, km_upx_s, km_fl2_o, km_is, Option.some.injEq, Sum.inl.injEq, Sum.inr.injEq, Option.toList_some, Option.toList_none, List.cons_append, List.nil_append, ne_eq, true_and, and_true, and_self, not_true_eq_false, not_false_eq_true, true_implies, false_implies, reduceCtorEq]) (by decide) Q
    simp only [Int.reduceAdd]
    simp (config := { decide := true }) (disch := first | decide | assumption | omega | (simp (config := { decide := true }) only [km_sr_sf, km_sr_of, km_up_of, km_up_o, km_upx_i, km_upx_s, km_fl2_o, ne_eq, not_true_eq_false, not_false_eq_true] <;> omega) | fail) only [g_X8_clear, f, ka_lt, ka_le, ka_nlt, ka_nle, ka_ne, ka_eq, Int.add_sub_cancel, true_or, or_true, false_or, or_false, false_and, and_false, if_true, if_false, ka_lo, ka_hi, ka_nn, km_sr_sf, km_sr_of, km_up_of, km_sr_us, km_sr_uo, km_sr_sr, km_sr_fl, km_sr_flo, km_up_up, km_up_lt, km_lay, km_unL, km_up_o, km_upx_i, km_upx_s, km_fl2_o, km_is, Option.some.injEq, Sum.inl.injEq, Sum.inr.injEq, Option.toList_some, Option.toList_none, List.cons_append, List.nil_append, ne_eq, true_and, and_true, and_self, not_true_eq_false, not_false_eq_true, true_implies, false_implies, reduceCtorEq]
  · have f := fun m' Q => @r_fill q c s m' 51 (-1) 7 (by decide) (by simp (config := { decide := true }) only [km_lay, km_unL, km_up_o, km_upx_i, km_upx_s, km_fl2_o, km_is, Option.some.injEq, Sum.inl.injEq, Sum.inr.injEq, Option.toList_some, Option.toList_none, List.cons_append, List.nil_append, ne_eq, true_and, and_true, and_self, not_true_eq_false, not_false_eq_true, true_implies, false_implies, reduceCtorEq]) (by simp (config := { decide := true }) only [km_lay, km_unL, km_up_o, km_upx_i, km_upx_s, km_fl2_o, km_is, Option.some.injEq, Sum.inl.injEq, Sum.inr.injEq, Option.toList_some, Option.toList_none, List.cons_append, List.nil_append, ne_eq, true_and, and_true, and_self, not_true_eq_false, not_false_eq_true, true_implies, false_implies, reduceCtorEq]) (by simp (config := { decide := true }) only [km_lay, km_unL, km_up_o, km_upx_i, km_upx_s, km_fl2_o, km_is, Option.some.injEq, Sum.inl.injEq, Sum.inr.injEq, Option.toList_some, Option.toList_none, List.cons_append, List.nil_append, ne_eq, true_and, and_true, and_self, not_true_eq_false, not_false_eq_true, true_implies, false_implies, reduceCtorEq]) (by decide) Q
    simp only [Int.reduceAdd]
    simp (config := { decide := true }) (disch := first | decide | assumption | omega | (simp (config := { decide := true }) only [km_sr_sf, km_sr_of, km_up_of, km_up_o, km_upx_i, km_upx_s, km_fl2_o, ne_eq, not_true_eq_false, not_false_eq_true] <;> omega) | fail) only [g_X8_clear, f, ka_lt, ka_le, ka_nlt, ka_nle, ka_ne, ka_eq, Int.add_sub_cancel, true_or, or_true, false_or, or_false, false_and, and_false, if_true, if_false, ka_lo, ka_hi, ka_nn, km_sr_sf, km_sr_of, km_up_of, km_sr_us, km_sr_uo, km_sr_sr, km_sr_fl, km_sr_flo, km_up_up, km_up_lt, km_lay, km_unL, km_up_o, km_upx_i, km_upx_s, km_fl2_o, km_is, Option.some.injEq, Sum.inl.injEq, Sum.inr.injEq, Option.toList_some, Option.toList_none, List.cons_append, List.nil_append, ne_eq, true_and, and_true, and_self, not_true_eq_false, not_false_eq_true, true_implies, false_implies, reduceCtorEq]
theorem r_begin (h : n ≤ X 3 1) : km_E M_X10_begin [.inr (.inr 3), .inl n] (km_A0 q c s) X Q ↔ Q none (km_A0 q c s) (km_up (km_up X 3 2 n) 3 3 0) := by
  rw [e_X10_begin]
  have z : ¬ X 3 1 < n := by omega
  simp (config := { decide := true }) (disch := first | decide | assumption | omega | (simp (config := { decide := true }) only [km_sr_sf, km_sr_of, km_up_of, km_up_o, km_upx_i, km_upx_s, km_fl2_o, ne_eq, not_true_eq_false, not_false_eq_true] <;> omega) | fail) only [g_X10_begin, z, if_false, ka_lt, ka_le, ka_nlt, ka_nle, ka_ne, ka_eq, Int.add_sub_cancel, true_or, or_true, false_or, or_false, false_and, and_false, if_true, if_false, ka_lo, ka_hi, ka_nn, km_sr_sf, km_sr_of, km_up_of, km_sr_us, km_sr_uo, km_sr_sr, km_sr_fl, km_sr_flo, km_up_up, km_up_lt, km_lay, km_unL, km_up_o, km_upx_i, km_upx_s, km_fl2_o, km_is, Option.some.injEq, Sum.inl.injEq, Sum.inr.injEq, Option.toList_some, Option.toList_none, List.cons_append, List.nil_append, ne_eq, true_and, and_true, and_self, not_true_eq_false, not_false_eq_true, true_implies, false_implies, reduceCtorEq]
theorem cl_parse0 (hP : P = 40 ∨ P = 46) (hq : q' = (q.1, q.2.1, q.2.2.1, P, q.2.2.2.2)) (h : n ≤ X 3 1) : km_E M_X7_parse [.inr (.inr 37), .inl n, .inr (.inr P)] (km_A0 q c s) X Q ↔ km_G M_X7_parse 52 [some (.inr (.inr 37)), some (.inl n), some (.inr (.inr P)), some (.inl 0)] [] (km_A0 q' c s) (kPa P n X) Q := by
  have hq3 : q'.2.2.2.1 = P := by rw [hq]
  have up : km_upR (km_A0 q c s) 37 1 P = km_A0 q' c s := by rw [km_upR_37, hq]
  have cl := fun Q => @r_clear q' c s X P Q hP
  have e31 : kPc P X 3 1 = X 3 1 := by
    unfold kPc
    rw [km_up_ne (by omega), km_up_ne (by omega), km_up_ne (by omega), km_up_ne (by omega), km_up_ne (by omega), km_fl2_o (by omega)]
  have be := fun Q => @r_begin q' c s (kPc P X) n Q (by rw [e31]; exact h)
  rw [e_X7_parse]
  unfold kPa
  rcases hP with rfl | rfl
  · simp (config := { decide := true }) (disch := first | decide | assumption | omega | (simp (config := { decide := true }) only [km_sr_sf, km_sr_of, km_up_of, km_up_o, km_upx_i, km_upx_s, km_fl2_o, ne_eq, not_true_eq_false, not_false_eq_true] <;> omega) | fail) only [g_X7_parse, up, hq3, cl, be, ka_lt, ka_le, ka_nlt, ka_nle, ka_ne, ka_eq, Int.add_sub_cancel, true_or, or_true, false_or, or_false, false_and, and_false, if_true, if_false, ka_lo, ka_hi, ka_nn, km_sr_sf, km_sr_of, km_up_of, km_sr_us, km_sr_uo, km_sr_sr, km_sr_fl, km_sr_flo, km_up_up, km_up_lt, km_lay, km_unL, km_up_o, km_upx_i, km_upx_s, km_fl2_o, km_is, Option.some.injEq, Sum.inl.injEq, Sum.inr.injEq, Option.toList_some, Option.toList_none, List.cons_append, List.nil_append, ne_eq, true_and, and_true, and_self, not_true_eq_false, not_false_eq_true, true_implies, false_implies, reduceCtorEq]
  · simp (config := { decide := true }) (disch := first | decide | assumption | omega | (simp (config := { decide := true }) only [km_sr_sf, km_sr_of, km_up_of, km_up_o, km_upx_i, km_upx_s, km_fl2_o, ne_eq, not_true_eq_false, not_false_eq_true] <;> omega) | fail) only [g_X7_parse, up, hq3, cl, be, ka_lt, ka_le, ka_nlt, ka_nle, ka_ne, ka_eq, Int.add_sub_cancel, true_or, or_true, false_or, or_false, false_and, and_false, if_true, if_false, ka_lo, ka_hi, ka_nn, km_sr_sf, km_sr_of, km_up_of, km_sr_us, km_sr_uo, km_sr_sr, km_sr_fl, km_sr_flo, km_up_up, km_up_lt, km_lay, km_unL, km_up_o, km_upx_i, km_upx_s, km_fl2_o, km_is, Option.some.injEq, Sum.inl.injEq, Sum.inr.injEq, Option.toList_some, Option.toList_none, List.cons_append, List.nil_append, ne_eq, true_and, and_true, and_self, not_true_eq_false, not_false_eq_true, true_implies, false_implies, reduceCtorEq]
theorem kPc_o (hP : P = 40 ∨ P = 46) {b j : Int} (h : ¬ (P ≤ b ∧ b ≤ P + 5)) : kPc P X b j = X b j := by
  unfold kPc
  rw [km_up_ne (by omega), km_up_ne (by omega), km_up_ne (by omega), km_up_ne (by omega), km_up_ne (by omega), km_fl2_o (by omega)]
theorem kPc_v (hP : P = 40 ∨ P = 46) : kPc P X P 4 = 0 ∧ kPc P X P 6 = 0 ∧ kPc P X P 7 = 0 ∧ kPc P X P 8 = 0 ∧ kPc P X P 9 = 0 ∧ ∀ L : Int, 0 ≤ L → L < 7 → kPc P X (P + 5) L = -1 := by
  unfold kPc
  refine ⟨?_, ?_, ?_, ?_, km_upx_s, fun L l0 l1 => ?_⟩
  · rw [km_upx_i (by decide), km_upx_i (by decide), km_upx_i (by decide), km_upx_i (by decide), km_upx_s]
  · rw [km_upx_i (by decide), km_upx_i (by decide), km_upx_i (by decide), km_upx_s]
  · rw [km_upx_i (by decide), km_upx_i (by decide), km_upx_s]
  · rw [km_upx_i (by decide), km_upx_s]
  · rw [km_up_ne (by omega), km_up_ne (by omega), km_up_ne (by omega), km_up_ne (by omega), km_up_ne (by omega)]
    unfold km_fl2
    rw [if_pos ⟨rfl, l0, l1⟩]
theorem kPa_o (hP : P = 40 ∨ P = 46) {b j : Int} (h : ¬ (P ≤ b ∧ b ≤ P + 5)) (h3 : ¬ (b = 3 ∧ (j = 2 ∨ j = 3))) (h37 : ¬ (b = 37 ∧ (j = 2 ∨ j = 3 ∨ j = 4 ∨ j = 9 ∨ j = 10 ∨ j = 13))) : kPa P n X b j = X b j := by
  unfold kPa
  rw [km_up_ne (by omega), km_up_ne (by omega), km_up_ne (by omega), km_up_ne (by omega), km_up_ne (by omega), km_up_ne (by omega), km_up_ne (by omega), km_up_ne (by omega), kPc_o hP h]
theorem kPa_P (hP : P = 40 ∨ P = 46) {b j : Int} (h : P ≤ b ∧ b ≤ P + 5) : kPa P n X b j = kPc P X b j := by
  unfold kPa
  rw [km_up_ne (by omega), km_up_ne (by omega), km_up_ne (by omega), km_up_ne (by omega), km_up_ne (by omega), km_up_ne (by omega), km_up_ne (by omega), km_up_ne (by omega)]
theorem kPa_v : kPa P n X 3 2 = n ∧ kPa P n X 3 3 = 0 ∧ kPa P n X 37 2 = 0 ∧ kPa P n X 37 3 = -1 ∧ kPa P n X 37 4 = 0 ∧ kPa P n X 37 9 = 0 ∧ kPa P n X 37 10 = 0 ∧ kPa P n X 37 13 = 0 := by
  unfold kPa
  refine ⟨?_, ?_, ?_, ?_, ?_, ?_, ?_, km_upx_s⟩
  · rw [km_up_o (by decide), km_up_o (by decide), km_up_o (by decide), km_up_o (by decide), km_up_o (by decide), km_up_o (by decide), km_upx_i (by decide), km_upx_s]
  · rw [km_up_o (by decide), km_up_o (by decide), km_up_o (by decide), km_up_o (by decide), km_up_o (by decide), km_up_o (by decide), km_upx_s]
  · rw [km_upx_i (by decide), km_upx_i (by decide), km_upx_i (by decide), km_upx_i (by decide), km_upx_i (by decide), km_upx_s]
  · rw [km_upx_i (by decide), km_upx_i (by decide), km_upx_i (by decide), km_upx_i (by decide), km_upx_s]
  · rw [km_upx_i (by decide), km_upx_i (by decide), km_upx_i (by decide), km_upx_s]
  · rw [km_upx_i (by decide), km_upx_i (by decide), km_upx_s]
  · rw [km_upx_i (by decide), km_upx_s]
/-! the reference's loops -/
def kRt (Y : km_Mm) (j : Int) : km_Mm := fun b i => if b = 142 ∧ j ≤ i ∧ i < 14 then -1 else Y b i
theorem lp_r43 {w : Int} {o : Option km_V} : ∀ (N j : Nat) (Y : km_Mm), j + N = 14 → (km_G M_X12_rules 43 [some (.inr (.inr 123)), some (.inl n), some (.inl (j : Int)), o] [] (km_A0 q c s) Y Q ↔ km_G M_X12_rules 43 [some (.inr (.inr 123)), some (.inl n), some (.inl 14), o] [] (km_A0 q c s) (kRt Y j) Q) := by
  intro N
  induction N with
  | zero =>
    intro j Y h
    have e : (j : Int) = 14 := by omega
    have k : kRt Y j = Y := by funext b i; unfold kRt; rw [if_neg (by omega)]
    rw [k, e]
  | succ N ih =>
    intro j Y h
    have k : kRt Y j = kRt (km_up Y 142 j (-1)) ((j + 1 : Nat) : Int) := by
      funext b i; unfold kRt
      by_cases z : b = 142 ∧ (j : Int) ≤ i ∧ i < 14
      · rw [if_pos z]
        by_cases y : i = j
        · rw [if_neg (by omega), z.1, y, km_upx_s]
        · rw [if_pos (by omega)]
      · rw [if_neg z, if_neg (by omega), km_up_ne (by omega)]
    rw [k, ← ih (j + 1) (km_up Y 142 j (-1)) (by omega), g_X12_rules_43, show ((j + 1 : Nat) : Int) = (j : Int) + 1 by omega]
    have z : ¬ 14 ≤ (j : Int) := by omega
    simp (config := { decide := true }) (disch := first | decide | assumption | omega | (simp (config := { decide := true }) only [km_sr_sf, km_sr_of, km_up_of, km_up_o, km_upx_i, km_upx_s, km_fl2_o, ne_eq, not_true_eq_false, not_false_eq_true] <;> omega) | fail) only [g_X12_rules, z, ka_lt, ka_le, ka_nlt, ka_nle, ka_ne, ka_eq, Int.add_sub_cancel, true_or, or_true, false_or, or_false, false_and, and_false, if_true, if_false, ka_lo, ka_hi, ka_nn, km_sr_sf, km_sr_of, km_up_of, km_sr_us, km_sr_uo, km_sr_sr, km_sr_fl, km_sr_flo, km_up_up, km_up_lt, km_lay, km_unL, km_up_o, km_upx_i, km_upx_s, km_fl2_o, km_is, Option.some.injEq, Sum.inl.injEq, Sum.inr.injEq, Option.toList_some, Option.toList_none, List.cons_append, List.nil_append, ne_eq, true_and, and_true, and_self, not_true_eq_false, not_false_eq_true, true_implies, false_implies, reduceCtorEq]
def kc (x : Int) : Int := if x < 0 then -1 else x - 120
def kRc (Y : km_Mm) (j : Int) : km_Mm := fun b i => if b = 142 ∧ j ≤ i ∧ i < 7 then kc (Y 142 (7 + i)) else Y b i
theorem lp_r115 {w : Int} : ∀ (N j : Nat) (Y : km_Mm), j + N = 7 → (∀ i : Int, 7 ≤ i → i < 14 → Y 142 i = -1 ∨ (120 ≤ Y 142 i ∧ Y 142 i < 240)) → (km_G M_X12_rules 115 [some (.inr (.inr 123)), some (.inl n), some (.inl w), some (.inl (j : Int))] [] (km_A0 q c s) Y Q ↔ km_G M_X12_rules 163 [some (.inr (.inr 123)), some (.inl n), some (.inl w), some (.inl 0)] [] (km_A0 q c s) (kRc Y j) Q) := by
  intro N
  induction N with
  | zero =>
    intro j Y h hr
    have e : (j : Int) = 7 := by omega
    have k : kRc Y j = Y := by funext b i; unfold kRc; rw [if_neg (by omega)]
    rw [k, e, g_X12_rules_115]
    simp (config := { decide := true }) (disch := first | decide | assumption | omega | (simp (config := { decide := true }) only [km_sr_sf, km_sr_of, km_up_of, km_up_o, km_upx_i, km_upx_s, km_fl2_o, ne_eq, not_true_eq_false, not_false_eq_true] <;> omega) | fail) only [g_X12_rules, ka_lt, ka_le, ka_nlt, ka_nle, ka_ne, ka_eq, Int.add_sub_cancel, true_or, or_true, false_or, or_false, false_and, and_false, if_true, if_false, ka_lo, ka_hi, ka_nn, km_sr_sf, km_sr_of, km_up_of, km_sr_us, km_sr_uo, km_sr_sr, km_sr_fl, km_sr_flo, km_up_up, km_up_lt, km_lay, km_unL, km_up_o, km_upx_i, km_upx_s, km_fl2_o, km_is, Option.some.injEq, Sum.inl.injEq, Sum.inr.injEq, Option.toList_some, Option.toList_none, List.cons_append, List.nil_append, ne_eq, true_and, and_true, and_self, not_true_eq_false, not_false_eq_true, true_implies, false_implies, reduceCtorEq]
  | succ N ih =>
    intro j Y h hr
    have h1 := hr (7 + j) (by omega) (by omega)
    have k : kRc Y j = kRc (km_up Y 142 j (kc (Y 142 (7 + j)))) ((j + 1 : Nat) : Int) := by
      funext b i; unfold kRc
      by_cases z : b = 142 ∧ (j : Int) ≤ i ∧ i < 7
      · rw [if_pos z]
        by_cases y : i = j
        · rw [if_neg (by omega), z.1, y, km_upx_s]
        · rw [if_pos (by omega), km_upx_i (by omega)]
      · rw [if_neg z, if_neg (by omega), km_up_ne (by omega)]
    have hi : ∀ i : Int, 7 ≤ i → i < 14 → km_up Y 142 j (kc (Y 142 (7 + j))) 142 i = -1 ∨ (120 ≤ km_up Y 142 j (kc (Y 142 (7 + j))) 142 i ∧ km_up Y 142 j (kc (Y 142 (7 + j))) 142 i < 240) := fun i i0 i1 => by rw [km_upx_i (by omega)]; exact hr i i0 i1
    rw [k, ← ih (j + 1) _ (by omega) hi, g_X12_rules_115, show ((j + 1 : Nat) : Int) = (j : Int) + 1 by omega]
    have z : ¬ 7 ≤ (j : Int) := by omega
    unfold kc
    by_cases y : Y 142 (7 + j) < 0
    · rw [if_pos y]
      have y2 : ¬ 0 ≤ Y 142 (7 + j) := by omega
      simp (config := { decide := true }) (disch := first | decide | assumption | omega | (simp (config := { decide := true }) only [km_sr_sf, km_sr_of, km_up_of, km_up_o, km_upx_i, km_upx_s, km_fl2_o, ne_eq, not_true_eq_false, not_false_eq_true] <;> omega) | fail) only [g_X12_rules, z, y2, ka_lt, ka_le, ka_nlt, ka_nle, ka_ne, ka_eq, Int.add_sub_cancel, true_or, or_true, false_or, or_false, false_and, and_false, if_true, if_false, ka_lo, ka_hi, ka_nn, km_sr_sf, km_sr_of, km_up_of, km_sr_us, km_sr_uo, km_sr_sr, km_sr_fl, km_sr_flo, km_up_up, km_up_lt, km_lay, km_unL, km_up_o, km_upx_i, km_upx_s, km_fl2_o, km_is, Option.some.injEq, Sum.inl.injEq, Sum.inr.injEq, Option.toList_some, Option.toList_none, List.cons_append, List.nil_append, ne_eq, true_and, and_true, and_self, not_true_eq_false, not_false_eq_true, true_implies, false_implies, reduceCtorEq]
    · rw [if_neg y]
      have y2 : 0 ≤ Y 142 (7 + j) := by omega
      simp (config := { decide := true }) (disch := first | decide | assumption | omega | (simp (config := { decide := true }) only [km_sr_sf, km_sr_of, km_up_of, km_up_o, km_upx_i, km_upx_s, km_fl2_o, ne_eq, not_true_eq_false, not_false_eq_true] <;> omega) | fail) only [g_X12_rules, z, y2, ka_lt, ka_le, ka_nlt, ka_nle, ka_ne, ka_eq, Int.add_sub_cancel, true_or, or_true, false_or, or_false, false_and, and_false, if_true, if_false, ka_lo, ka_hi, ka_nn, km_sr_sf, km_sr_of, km_up_of, km_sr_us, km_sr_uo, km_sr_sr, km_sr_fl, km_sr_flo, km_up_up, km_up_lt, km_lay, km_unL, km_up_o, km_upx_i, km_upx_s, km_fl2_o, km_is, Option.some.injEq, Sum.inl.injEq, Sum.inr.injEq, Option.toList_some, Option.toList_none, List.cons_append, List.nil_append, ne_eq, true_and, and_true, and_self, not_true_eq_false, not_false_eq_true, true_implies, false_implies, reduceCtorEq]
/-- the knots copied from the k-th on -/
def kKc (Y : km_Mm) (k K : Int) : km_Mm := fun b i => if (138 ≤ b ∧ b ≤ 141) ∧ k ≤ i ∧ i < K then (if b = 138 ∨ b = 141 then Y b (120 + i) else kc (Y b (120 + i))) else Y b i
theorem lp_r163 {w K : Int} (hK : K ≤ 120) : ∀ (N : Nat) (j : Nat) (Y : km_Mm), (j : Int) + N = K → Y 123 35 = K → (∀ r x : Int, 139 ≤ r → r ≤ 140 → Y r x < 240) → (km_G M_X12_rules 163 [some (.inr (.inr 123)), some (.inl n), some (.inl w), some (.inl (j : Int))] [] (km_A0 q c s) Y Q ↔ Q (some (.inl w)) (km_A0 q c s) (kKc Y j K)) := by
  intro N
  induction N with
  | zero =>
    intro j Y h h35 hr
    have k : kKc Y j K = Y := by funext b i; unfold kKc; rw [if_neg (by omega)]
    have z : K ≤ (j : Int) := by omega
    rw [k, g_X12_rules_163]
    simp (config := { decide := true }) (disch := first | decide | assumption | omega | (simp (config := { decide := true }) only [km_sr_sf, km_sr_of, km_up_of, km_up_o, km_upx_i, km_upx_s, km_fl2_o, ne_eq, not_true_eq_false, not_false_eq_true] <;> omega) | fail) only [g_X12_rules, h35, z, ka_lt, ka_le, ka_nlt, ka_nle, ka_ne, ka_eq, Int.add_sub_cancel, true_or, or_true, false_or, or_false, false_and, and_false, if_true, if_false, ka_lo, ka_hi, ka_nn, km_sr_sf, km_sr_of, km_up_of, km_sr_us, km_sr_uo, km_sr_sr, km_sr_fl, km_sr_flo, km_up_up, km_up_lt, km_lay, km_unL, km_up_o, km_upx_i, km_upx_s, km_fl2_o, km_is, Option.some.injEq, Sum.inl.injEq, Sum.inr.injEq, Option.toList_some, Option.toList_none, List.cons_append, List.nil_append, ne_eq, true_and, and_true, and_self, not_true_eq_false, not_false_eq_true, true_implies, false_implies, reduceCtorEq]
  | succ N ih =>
    intro j Y h h35 hr
    have l1 := hr 139 (120 + j) (by decide) (by decide)
    have r1 := hr 140 (120 + j) (by decide) (by decide)
    have kb : ∀ y : Int, y < 240 → kc y < 240 := fun y h => by unfold kc; split <;> omega
    have k : kKc Y j K = kKc (km_up (km_up (km_up (km_up Y 138 j (Y 138 (120 + j))) 139 j (kc (Y 139 (120 + j)))) 140 j (kc (Y 140 (120 + j)))) 141 j (Y 141 (120 + j))) ((j + 1 : Nat) : Int) K := by
      funext b i; unfold kKc
      by_cases z : (138 ≤ b ∧ b ≤ 141) ∧ (j : Int) ≤ i ∧ i < K
      · rw [if_pos z]
        by_cases y : i = j
        · rw [if_neg (c := (138 ≤ b ∧ b ≤ 141) ∧ ((j + 1 : Nat) : Int) ≤ i ∧ i < K) (by omega), y]
          have bb : b = 138 ∨ b = 139 ∨ b = 140 ∨ b = 141 := by omega
          rcases bb with rfl | rfl | rfl | rfl
          · rw [if_pos (Or.inl rfl), km_up_o (by decide), km_up_o (by decide), km_up_o (by decide), km_upx_s]
          · rw [if_neg (by decide), km_up_o (by decide), km_up_o (by decide), km_upx_s]
          · rw [if_neg (by decide), km_up_o (by decide), km_upx_s]
          · rw [if_pos (Or.inr rfl), km_upx_s]
        · rw [if_pos (c := (138 ≤ b ∧ b ≤ 141) ∧ ((j + 1 : Nat) : Int) ≤ i ∧ i < K) (by omega), km_up_ne (by omega), km_up_ne (by omega), km_up_ne (by omega), km_up_ne (by omega)]
      · rw [if_neg z, if_neg (by omega), km_up_ne (by omega), km_up_ne (by omega), km_up_ne (by omega), km_up_ne (by omega)]
    have hr' : ∀ r x : Int, 139 ≤ r → r ≤ 140 → km_up (km_up (km_up (km_up Y 138 j (Y 138 (120 + j))) 139 j (kc (Y 139 (120 + j)))) 140 j (kc (Y 140 (120 + j)))) 141 j (Y 141 (120 + j)) r x < 240 := fun r x h1 h2 => by
      rw [km_up_o (by omega)]
      by_cases y : x = j
      · have rr : r = 139 ∨ r = 140 := by omega
        rw [y]
        rcases rr with rfl | rfl
        · rw [km_up_o (by decide), km_upx_s]; exact kb _ l1
        · rw [km_upx_s]; exact kb _ r1
      · rw [km_up_ne (by omega), km_up_ne (by omega), km_up_ne (by omega)]; exact hr r x h1 h2
    rw [k, ← ih (j + 1) _ (by omega) (by rw [km_up_o (by decide), km_up_o (by decide), km_up_o (by decide), km_up_o (by decide)]; exact h35) hr', g_X12_rules_163, show ((j + 1 : Nat) : Int) = (j : Int) + 1 by omega]
    have z : ¬ K ≤ (j : Int) := by omega
    unfold kc
    by_cases y : Y 139 (120 + j) < 0
    · have y2 : ¬ 0 ≤ Y 139 (120 + j) := by omega
      rw [if_pos y]
      by_cases x : Y 140 (120 + j) < 0
      · have x2 : ¬ 0 ≤ Y 140 (120 + j) := by omega
        rw [if_pos x]
        simp (config := { decide := true }) (disch := first | decide | assumption | omega | (simp (config := { decide := true }) only [km_sr_sf, km_sr_of, km_up_of, km_up_o, km_upx_i, km_upx_s, km_fl2_o, ne_eq, not_true_eq_false, not_false_eq_true] <;> omega) | fail) only [g_X12_rules, h35, z, y2, x2, ka_lt, ka_le, ka_nlt, ka_nle, ka_ne, ka_eq, Int.add_sub_cancel, true_or, or_true, false_or, or_false, false_and, and_false, if_true, if_false, ka_lo, ka_hi, ka_nn, km_sr_sf, km_sr_of, km_up_of, km_sr_us, km_sr_uo, km_sr_sr, km_sr_fl, km_sr_flo, km_up_up, km_up_lt, km_lay, km_unL, km_up_o, km_upx_i, km_upx_s, km_fl2_o, km_is, Option.some.injEq, Sum.inl.injEq, Sum.inr.injEq, Option.toList_some, Option.toList_none, List.cons_append, List.nil_append, ne_eq, true_and, and_true, and_self, not_true_eq_false, not_false_eq_true, true_implies, false_implies, reduceCtorEq]
      · have x2 : 0 ≤ Y 140 (120 + j) := by omega
        rw [if_neg x]
        simp (config := { decide := true }) (disch := first | decide | assumption | omega | (simp (config := { decide := true }) only [km_sr_sf, km_sr_of, km_up_of, km_up_o, km_upx_i, km_upx_s, km_fl2_o, ne_eq, not_true_eq_false, not_false_eq_true] <;> omega) | fail) only [g_X12_rules, h35, z, y2, x2, ka_lt, ka_le, ka_nlt, ka_nle, ka_ne, ka_eq, Int.add_sub_cancel, true_or, or_true, false_or, or_false, false_and, and_false, if_true, if_false, ka_lo, ka_hi, ka_nn, km_sr_sf, km_sr_of, km_up_of, km_sr_us, km_sr_uo, km_sr_sr, km_sr_fl, km_sr_flo, km_up_up, km_up_lt, km_lay, km_unL, km_up_o, km_upx_i, km_upx_s, km_fl2_o, km_is, Option.some.injEq, Sum.inl.injEq, Sum.inr.injEq, Option.toList_some, Option.toList_none, List.cons_append, List.nil_append, ne_eq, true_and, and_true, and_self, not_true_eq_false, not_false_eq_true, true_implies, false_implies, reduceCtorEq]
    · have y2 : 0 ≤ Y 139 (120 + j) := by omega
      rw [if_neg y]
      by_cases x : Y 140 (120 + j) < 0
      · have x2 : ¬ 0 ≤ Y 140 (120 + j) := by omega
        rw [if_pos x]
        simp (config := { decide := true }) (disch := first | decide | assumption | omega | (simp (config := { decide := true }) only [km_sr_sf, km_sr_of, km_up_of, km_up_o, km_upx_i, km_upx_s, km_fl2_o, ne_eq, not_true_eq_false, not_false_eq_true] <;> omega) | fail) only [g_X12_rules, h35, z, y2, x2, ka_lt, ka_le, ka_nlt, ka_nle, ka_ne, ka_eq, Int.add_sub_cancel, true_or, or_true, false_or, or_false, false_and, and_false, if_true, if_false, ka_lo, ka_hi, ka_nn, km_sr_sf, km_sr_of, km_up_of, km_sr_us, km_sr_uo, km_sr_sr, km_sr_fl, km_sr_flo, km_up_up, km_up_lt, km_lay, km_unL, km_up_o, km_upx_i, km_upx_s, km_fl2_o, km_is, Option.some.injEq, Sum.inl.injEq, Sum.inr.injEq, Option.toList_some, Option.toList_none, List.cons_append, List.nil_append, ne_eq, true_and, and_true, and_self, not_true_eq_false, not_false_eq_true, true_implies, false_implies, reduceCtorEq]
      · have x2 : 0 ≤ Y 140 (120 + j) := by omega
        rw [if_neg x]
        simp (config := { decide := true }) (disch := first | decide | assumption | omega | (simp (config := { decide := true }) only [km_sr_sf, km_sr_of, km_up_of, km_up_o, km_upx_i, km_upx_s, km_fl2_o, ne_eq, not_true_eq_false, not_false_eq_true] <;> omega) | fail) only [g_X12_rules, h35, z, y2, x2, ka_lt, ka_le, ka_nlt, ka_nle, ka_ne, ka_eq, Int.add_sub_cancel, true_or, or_true, false_or, or_false, false_and, and_false, if_true, if_false, ka_lo, ka_hi, ka_nn, km_sr_sf, km_sr_of, km_up_of, km_sr_us, km_sr_uo, km_sr_sr, km_sr_fl, km_sr_flo, km_up_up, km_up_lt, km_lay, km_unL, km_up_o, km_upx_i, km_upx_s, km_fl2_o, km_is, Option.some.injEq, Sum.inl.injEq, Sum.inr.injEq, Option.toList_some, Option.toList_none, List.cons_append, List.nil_append, ne_eq, true_and, and_true, and_self, not_true_eq_false, not_false_eq_true, true_implies, false_implies, reduceCtorEq]
end PC

