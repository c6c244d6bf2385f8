/-! ===== promise 27: end ===== -/
theorem r_fill101 {q : Nat × Int × Int × Int × Int} {c s : Nat} {m : km_Mm} {v : Int} (Q : Option km_V → km_Al → km_Mm → Prop) : km_E M_J7_fill_53178 [.inr (.inr 101), .inl v] (km_A0 q c s) m Q ↔ Q none (km_A0 q c s) (km_fl2 m 101 0 10 v) := r_fill (by decide) (by simp (config := { decide := true }) only [Int.add_sub_cancel, true_or, or_true, false_or, or_false, false_and, and_false, if_true, if_false, km_sr_sf, km_sr_of, km_up_of, km_sr_us, km_sr_uo, km_sr_sr, km_sr_fl, km_sr_flo, km_up_up, km_up_lt, km_lay, km_unL, km_up_o, km_upx_i, km_upx_s, km_fl2_o, km_is, Option.some.injEq, Sum.inl.injEq, Sum.inr.injEq, Option.toList_some, Option.toList_none, List.cons_append, List.nil_append, ne_eq, true_and, and_true, and_self, not_true_eq_false, not_false_eq_true, true_implies, false_implies, reduceCtorEq]) (by simp (config := { decide := true }) only [Int.add_sub_cancel, true_or, or_true, false_or, or_false, false_and, and_false, if_true, if_false, km_sr_sf, km_sr_of, km_up_of, km_sr_us, km_sr_uo, km_sr_sr, km_sr_fl, km_sr_flo, km_up_up, km_up_lt, km_lay, km_unL, km_up_o, km_upx_i, km_upx_s, km_fl2_o, km_is, Option.some.injEq, Sum.inl.injEq, Sum.inr.injEq, Option.toList_some, Option.toList_none, List.cons_append, List.nil_append, ne_eq, true_and, and_true, and_self, not_true_eq_false, not_false_eq_true, true_implies, false_implies, reduceCtorEq]) (by simp (config := { decide := true }) only [Int.add_sub_cancel, true_or, or_true, false_or, or_false, false_and, and_false, if_true, if_false, km_sr_sf, km_sr_of, km_up_of, km_sr_us, km_sr_uo, km_sr_sr, km_sr_fl, km_sr_flo, km_up_up, km_up_lt, km_lay, km_unL, km_up_o, km_upx_i, km_upx_s, km_fl2_o, km_is, Option.some.injEq, Sum.inl.injEq, Sum.inr.injEq, Option.toList_some, Option.toList_none, List.cons_append, List.nil_append, ne_eq, true_and, and_true, and_self, not_true_eq_false, not_false_eq_true, true_implies, false_implies, reduceCtorEq]) (by decide) Q
theorem r_fill102 {q : Nat × Int × Int × Int × Int} {c s : Nat} {m : km_Mm} {v : Int} (Q : Option km_V → km_Al → km_Mm → Prop) : km_E M_J7_fill_53178 [.inr (.inr 102), .inl v] (km_A0 q c s) m Q ↔ Q none (km_A0 q c s) (km_fl2 m 102 0 10 v) := r_fill (by decide) (by simp (config := { decide := true }) only [Int.add_sub_cancel, true_or, or_true, false_or, or_false, false_and, and_false, if_true, if_false, km_sr_sf, km_sr_of, km_up_of, km_sr_us, km_sr_uo, km_sr_sr, km_sr_fl, km_sr_flo, km_up_up, km_up_lt, km_lay, km_unL, km_up_o, km_upx_i, km_upx_s, km_fl2_o, km_is, Option.some.injEq, Sum.inl.injEq, Sum.inr.injEq, Option.toList_some, Option.toList_none, List.cons_append, List.nil_append, ne_eq, true_and, and_true, and_self, not_true_eq_false, not_false_eq_true, true_implies, false_implies, reduceCtorEq]) (by simp (config := { decide := true }) only [Int.add_sub_cancel, true_or, or_true, false_or, or_false, false_and, and_false, if_true, if_false, km_sr_sf, km_sr_of, km_up_of, km_sr_us, km_sr_uo, km_sr_sr, km_sr_fl, km_sr_flo, km_up_up, km_up_lt, km_lay, km_unL, km_up_o, km_upx_i, km_upx_s, km_fl2_o, km_is, Option.some.injEq, Sum.inl.injEq, Sum.inr.injEq, Option.toList_some, Option.toList_none, List.cons_append, List.nil_append, ne_eq, true_and, and_true, and_self, not_true_eq_false, not_false_eq_true, true_implies, false_implies, reduceCtorEq]) (by simp (config := { decide := true }) only [Int.add_sub_cancel, true_or, or_true, false_or, or_false, false_and, and_false, if_true, if_false, km_sr_sf, km_sr_of, km_up_of, km_sr_us, km_sr_uo, km_sr_sr, km_sr_fl, km_sr_flo, km_up_up, km_up_lt, km_lay, km_unL, km_up_o, km_upx_i, km_upx_s, km_fl2_o, km_is, Option.some.injEq, Sum.inl.injEq, Sum.inr.injEq, Option.toList_some, Option.toList_none, List.cons_append, List.nil_append, ne_eq, true_and, and_true, and_self, not_true_eq_false, not_false_eq_true, true_implies, false_implies, reduceCtorEq]) (by decide) Q
theorem r_fill112 {q : Nat × Int × Int × Int × Int} {c s : Nat} {m : km_Mm} {v : Int} (Q : Option km_V → km_Al → km_Mm → Prop) : km_E M_J7_fill_53178 [.inr (.inr 112), .inl v] (km_A0 q c s) m Q ↔ Q none (km_A0 q c s) (km_fl2 m 112 0 10 v) := r_fill (by decide) (by simp (config := { decide := true }) only [Int.add_sub_cancel, true_or, or_true, false_or, or_false, false_and, and_false, if_true, if_false, km_sr_sf, km_sr_of, km_up_of, km_sr_us, km_sr_uo, km_sr_sr, km_sr_fl, km_sr_flo, km_up_up, km_up_lt, km_lay, km_unL, km_up_o, km_upx_i, km_upx_s, km_fl2_o, km_is, Option.some.injEq, Sum.inl.injEq, Sum.inr.injEq, Option.toList_some, Option.toList_none, List.cons_append, List.nil_append, ne_eq, true_and, and_true, and_self, not_true_eq_false, not_false_eq_true, true_implies, false_implies, reduceCtorEq]) (by simp (config := { decide := true }) only [Int.add_sub_cancel, true_or, or_true, false_or, or_false, false_and, and_false, if_true, if_false, km_sr_sf, km_sr_of, km_up_of, km_sr_us, km_sr_uo, km_sr_sr, km_sr_fl, km_sr_flo, km_up_up, km_up_lt, km_lay, km_unL, km_up_o, km_upx_i, km_upx_s, km_fl2_o, km_is, Option.some.injEq, Sum.inl.injEq, Sum.inr.injEq, Option.toList_some, Option.toList_none, List.cons_append, List.nil_append, ne_eq, true_and, and_true, and_self, not_true_eq_false, not_false_eq_true, true_implies, false_implies, reduceCtorEq]) (by simp (config := { decide := true }) only [Int.add_sub_cancel, true_or, or_true, false_or, or_false, false_and, and_false, if_true, if_false, km_sr_sf, km_sr_of, km_up_of, km_sr_us, km_sr_uo, km_sr_sr, km_sr_fl, km_sr_flo, km_up_up, km_up_lt, km_lay, km_unL, km_up_o, km_upx_i, km_upx_s, km_fl2_o, km_is, Option.some.injEq, Sum.inl.injEq, Sum.inr.injEq, Option.toList_some, Option.toList_none, List.cons_append, List.nil_append, ne_eq, true_and, and_true, and_self, not_true_eq_false, not_false_eq_true, true_implies, false_implies, reduceCtorEq]) (by decide) Q
section FE
variable {q q' : Nat × Int × Int × Int × Int} {c s : Nat} {m C M X Y Z : km_Mm} {N o p b b1 P r k : Int}
def kCl (X : km_Mm) : km_Mm := km_fl2 (km_fl2 (km_fl2 (km_up (km_up (km_up (km_up X 19 1 0) 100 0 (-1)) 100 1 0) 100 4 0) 101 0 10 0) 102 0 10 (-1)) 112 0 10 0
theorem r_close (Q : Option km_V → km_Al → km_Mm → Prop) : km_E M_X5_close [.inr (.inr 100)] (km_A0 q c s) X Q ↔ Q none (km_A0 q c s) (km_fl2 (km_fl2 (km_fl2 (km_up (km_up (km_up X 100 0 (-1)) 100 1 0) 100 4 0) 101 0 10 0) 102 0 10 (-1)) 112 0 10 0) := by
  rw [e_X5_close]
  simp (config := { decide := true }) (disch := first | decide | assumption | omega | (simp (config := { decide := true }) only [km_sr_sf, km_sr_of, km_up_of, km_up_o, km_upx_i, km_upx_s, km_fl2_o, ne_eq, not_true_eq_false, not_false_eq_true] <;> omega) | fail) only [g_X5_close, r_fill101, r_fill102, r_fill112, ka_lt, ka_le, ka_nlt, ka_nle, ka_ne, ka_eq, Int.add_sub_cancel, true_or, or_true, false_or, or_false, false_and, and_false, if_true, if_false, ka_lo, ka_hi, ka_nn, km_sr_sf, km_sr_of, km_up_of, km_sr_us, km_sr_uo, km_sr_sr, km_sr_fl, km_sr_flo, km_up_up, km_up_lt, km_lay, km_unL, km_up_o, km_upx_i, km_upx_s, km_fl2_o, km_is, Option.some.injEq, Sum.inl.injEq, Sum.inr.injEq, Option.toList_some, Option.toList_none, List.cons_append, List.nil_append, ne_eq, true_and, and_true, and_self, not_true_eq_false, not_false_eq_true, true_implies, false_implies, reduceCtorEq]
/-- the class's memory behind an end -/
def kEnC (m X C : km_Mm) (r : Int) : Prop := (∀ d j : Int, ¬ kJ d j → ¬ (d = 1 ∨ d = 2 ∨ d = 101 ∨ d = 102 ∨ d = 112) → ¬ (d = 19 ∧ j = 1) → ¬ (d = 100 ∧ (j = 0 ∨ j = 1 ∨ j = 4)) → C d j = m d j) ∧ C 52 = m 52 ∧ (∀ d j : Int, 123 ≤ d → C d j = X d j) ∧ (C 100 0 = -1 ∧ C 100 1 = 0 ∧ C 100 4 = 0 ∧ C 19 1 = 0) ∧ (∀ k : Int, 0 ≤ k → k < 10 → C 101 k = 0 ∧ C 102 k = -1 ∧ C 112 k = 0) ∧ ∀ x : Int, 0 ≤ x → x < 4 → C 1 x = (if x = r then m 1 x + 1 else m 1 x) ∧ C 2 x = (if x = r then m 5 2 else m 2 x)
theorem kEnC_of {X1 : km_Mm} (hX : km_jk m X) (rX : X 52 = m 52) (e1 : ∀ d j : Int, ¬ (d = 1 ∨ d = 2) → X1 d j = X d j) (e2 : ∀ x : Int, 0 ≤ x → x < 4 → X1 1 x = (if x = r then m 1 x + 1 else m 1 x) ∧ X1 2 x = (if x = r then m 5 2 else m 2 x)) : kEnC m X (kCl X1) r := by
  unfold kCl
  refine ⟨fun d j z1 z2 z3 z4 => ?_, ?_, fun d j z => ?_, ⟨?_, ?_, ?_, ?_⟩, fun k k0 k1 => ⟨?_, ?_, ?_⟩, fun x x0 x1 => ?_⟩
  · simp (disch := omega) only [km_fl2_ne, km_up_ne]
    rw [e1 d j (by omega)]; exact hX d j z1
  · rw [← rX]; funext j
    simp (disch := omega) only [km_fl2_ne, km_up_ne]
    exact e1 52 j (by omega)
  · simp (disch := omega) only [km_fl2_ne, km_up_ne]
    exact e1 d j (by omega)
  · simp (disch := omega) only [km_fl2_ne, km_up_ne, km_upx_s]
  · simp (disch := omega) only [km_fl2_ne, km_up_ne, km_upx_s]
  · simp (disch := omega) only [km_fl2_ne, km_up_ne, km_upx_s]
  · simp (disch := omega) only [km_fl2_ne, km_up_ne, km_upx_s]
  · simp (disch := omega) only [km_fl2_ne, km_fl2_eq]
  · simp (disch := omega) only [km_fl2_ne, km_fl2_eq]
  · simp (disch := omega) only [km_fl2_ne, km_fl2_eq]
  · simp (disch := omega) only [km_fl2_ne, km_up_ne]
    exact e2 x x0 x1
theorem c_end (h : kI0 N m) (hN : N ≤ 1000) (hX : km_jk m X) (rX : X 52 = m 52) (r0 : -1 ≤ r ∧ r < 4) : ∃ C : km_Mm, kEnC m X C r ∧ ∀ Q : Option km_V → km_Al → km_Mm → Prop, km_G M_X11_end 18 [some (.inr (.inr 0)), some (.inl r)] [] (km_A0 q c s) X Q ↔ Q (some (.inl r)) (km_A0 q c s) C := by
  have hS := h.2.2.2.2.2.2.2.2.1
  have X1 : ∀ k : Int, X 1 k = m 1 k := fun k => hX 1 k (by unfold kJ; omega)
  have X2 : ∀ k : Int, X 2 k = m 2 k := fun k => hX 2 k (by unfold kJ; omega)
  have X52 : X 5 2 = m 5 2 := hX 5 2 (by unfold kJ; omega)
  by_cases z : r = -1
  · subst z
    refine ⟨kCl X, kEnC_of hX rX (fun _ _ _ => rfl) (fun x x0 x1 => ?_), fun Q => ?_⟩
    · have : ¬ x = -1 := by omega
      rw [if_neg this, if_neg this]; exact ⟨X1 x, X2 x⟩
    · unfold kCl
      simp (config := { decide := true }) (disch := first | decide | assumption | omega | (simp (config := { decide := true }) only [km_sr_sf, km_sr_of, km_up_of, km_up_o, km_upx_i, km_upx_s, km_fl2_o, ne_eq, not_true_eq_false, not_false_eq_true] <;> omega) | fail) only [g_X11_end, r_close, ka_lt, ka_le, ka_nlt, ka_nle, ka_ne, ka_eq, Int.add_sub_cancel, true_or, or_true, false_or, or_false, false_and, and_false, if_true, if_false, ka_lo, ka_hi, ka_nn, km_sr_sf, km_sr_of, km_up_of, km_sr_us, km_sr_uo, km_sr_sr, km_sr_fl, km_sr_flo, km_up_up, km_up_lt, km_lay, km_unL, km_up_o, km_upx_i, km_upx_s, km_fl2_o, km_is, Option.some.injEq, Sum.inl.injEq, Sum.inr.injEq, Option.toList_some, Option.toList_none, List.cons_append, List.nil_append, ne_eq, true_and, and_true, and_self, not_true_eq_false, not_false_eq_true, true_implies, false_implies, reduceCtorEq]
  · have z0 : 0 ≤ r := by omega
    have z4 : r < 4 := r0.2
    have hb := (hS r z0 z4).1
    refine ⟨kCl (km_up (km_up X 1 r (m 1 r + 1)) 2 r (m 5 2)), kEnC_of hX rX (fun d j w => by rw [km_up_ne (by omega), km_up_ne (by omega)]) (fun x x0 x1 => ?_), fun Q => ?_⟩
    · by_cases w : x = r
      · subst w
        rw [if_pos rfl, if_pos rfl, km_upx_s, km_up_ne (by omega), km_upx_s]; exact ⟨rfl, rfl⟩
      · rw [if_neg w, if_neg w, km_up_ne (by omega), km_up_ne (by omega), km_up_ne (by omega), km_up_ne (by omega)]; exact ⟨X1 x, X2 x⟩
    · unfold kCl
      simp (config := { decide := true }) (disch := first | decide | assumption | omega | (simp (config := { decide := true }) only [km_sr_sf, km_sr_of, km_up_of, km_up_o, km_upx_i, km_upx_s, km_fl2_o, ne_eq, not_true_eq_false, not_false_eq_true] <;> omega) | fail) only [g_X11_end, r_close, z, z0, z4, X1, X52, ka_lt, ka_le, ka_nlt, ka_nle, ka_ne, ka_eq, Int.add_sub_cancel, true_or, or_true, false_or, or_false, false_and, and_false, if_true, if_false, ka_lo, ka_hi, ka_nn, km_sr_sf, km_sr_of, km_up_of, km_sr_us, km_sr_uo, km_sr_sr, km_sr_fl, km_sr_flo, km_up_up, km_up_lt, km_lay, km_unL, km_up_o, km_upx_i, km_upx_s, km_fl2_o, km_is, Option.some.injEq, Sum.inl.injEq, Sum.inr.injEq, Option.toList_some, Option.toList_none, List.cons_append, List.nil_append, ne_eq, true_and, and_true, and_self, not_true_eq_false, not_false_eq_true, true_implies, false_implies, reduceCtorEq]
/-- the reference's -/
def kEnM (m W Z : km_Mm) (r : Int) : Prop := (∀ d j : Int, d < 123 → Z d j = W d j) ∧ (∀ d j : Int, 123 ≤ d → ¬ kJ d j → ¬ (d = 123 ∧ (j = 63 ∨ j = 80 ∨ j = 81 ∨ j = 82 ∨ j = 91)) → ¬ (d = 166 ∨ d = 170 ∨ d = 182 ∨ d = 183) → Z d j = m d j) ∧ (Z 123 63 = 0 ∧ Z 123 80 = 0 ∧ Z 123 81 = -1 ∧ Z 123 82 = 0 ∧ Z 123 91 = 0) ∧ (∀ j : Int, 0 ≤ j → j < 10 → Z 166 j = -1 ∧ Z 170 j = 0) ∧ ∀ x : Int, 0 ≤ x → x < 4 → Z 182 x = (if x = r then m 182 x + 1 else m 182 x) ∧ Z 183 x = (if x = r then m 123 11 else m 183 x)
theorem m_end1 : ∀ (n : Nat) (i : Int) (Y : km_Mm), 0 ≤ i → i + n = 10 → ∃ Z : km_Mm, (∀ d j : Int, ¬ ((d = 166 ∨ d = 170) ∧ i ≤ j ∧ j < 10) → Z d j = Y d j) ∧ (∀ j : Int, i ≤ j → j < 10 → Z 166 j = -1 ∧ Z 170 j = 0) ∧ ∀ Q : Option km_V → km_Al → km_Mm → Prop, km_G M_X12_end 71 [some (.inr (.inr 123)), some (.inl r), some (.inl i)] [] (km_A0 q c s) Y Q ↔ Q (some (.inl r)) (km_A0 q c s) Z := by
  intro n
  induction n with
  | zero =>
    intro i Y i0 hi
    have z : ¬ i < 10 := by omega
    refine ⟨Y, fun _ _ _ => rfl, fun j j0 j1 => absurd j1 (by omega), fun Q => ?_⟩
    rw [g_X12_end_71]
    simp (config := { decide := true }) (disch := first | decide | assumption | omega | (simp (config := { decide := true }) only [km_sr_sf, km_sr_of, km_up_of, km_up_o, km_upx_i, km_upx_s, km_fl2_o, ne_eq, not_true_eq_false, not_false_eq_true] <;> omega) | fail) only [g_X12_end, z, ka_lt, ka_le, ka_nlt, ka_nle, ka_ne, ka_eq, Int.add_sub_cancel, true_or, or_true, false_or, or_false, false_and, and_false, if_true, if_false, ka_lo, ka_hi, ka_nn, km_sr_sf, km_sr_of, km_up_of, km_sr_us, km_sr_uo, km_sr_sr, km_sr_fl, km_sr_flo, km_up_up, km_up_lt, km_lay, km_unL, km_up_o, km_upx_i, km_upx_s, km_fl2_o, km_is, Option.some.injEq, Sum.inl.injEq, Sum.inr.injEq, Option.toList_some, Option.toList_none, List.cons_append, List.nil_append, ne_eq, true_and, and_true, and_self, not_true_eq_false, not_false_eq_true, true_implies, false_implies, reduceCtorEq]
  | succ n ih =>
    intro i Y i0 hi
    have z : i < 10 := by omega
    obtain ⟨Z, z1, z2, z3⟩ := ih (i + 1) (km_up (km_up Y 166 i (-1)) 170 i 0) (by omega) (by omega)
    refine ⟨Z, fun d j w => ?_, fun j j0 j1 => ?_, fun Q => ?_⟩
    · rw [z1 d j (fun v => w (by omega)), km_up_ne (fun v => w (by omega)), km_up_ne (fun v => w (by omega))]
    · by_cases y : j = i
      · subst y
        rw [z1 166 j (by omega), z1 170 j (by omega), km_upx_s, km_up_ne (by omega), km_upx_s]
        exact ⟨rfl, rfl⟩
      · exact z2 j (by omega) j1
    · rw [← z3 Q, g_X12_end_71]
      simp (config := { decide := true }) (disch := first | decide | assumption | omega | (simp (config := { decide := true }) only [km_sr_sf, km_sr_of, km_up_of, km_up_o, km_upx_i, km_upx_s, km_fl2_o, ne_eq, not_true_eq_false, not_false_eq_true] <;> omega) | fail) only [g_X12_end, z, i0, ka_lt, ka_le, ka_nlt, ka_nle, ka_ne, ka_eq, Int.add_sub_cancel, true_or, or_true, false_or, or_false, false_and, and_false, if_true, if_false, ka_lo, ka_hi, ka_nn, km_sr_sf, km_sr_of, km_up_of, km_sr_us, km_sr_uo, km_sr_sr, km_sr_fl, km_sr_flo, km_up_up, km_up_lt, km_lay, km_unL, km_up_o, km_upx_i, km_upx_s, km_fl2_o, km_is, Option.some.injEq, Sum.inl.injEq, Sum.inr.injEq, Option.toList_some, Option.toList_none, List.cons_append, List.nil_append, ne_eq, true_and, and_true, and_self, not_true_eq_false, not_false_eq_true, true_implies, false_implies, reduceCtorEq]
def kCm (W : km_Mm) : km_Mm := km_up (km_up (km_up (km_up (km_up W 123 80 0) 123 81 (-1)) 123 63 0) 123 82 0) 123 91 0
theorem kEnM_of {W1 : km_Mm} (hW : kMj m Y) (e1 : ∀ d j : Int, ¬ (d = 182 ∨ d = 183) → W1 d j = Y d j) (e2 : ∀ x : Int, 0 ≤ x → x < 4 → W1 182 x = (if x = r then m 182 x + 1 else m 182 x) ∧ W1 183 x = (if x = r then m 123 11 else m 183 x)) (z1 : ∀ d j : Int, ¬ ((d = 166 ∨ d = 170) ∧ 0 ≤ j ∧ j < 10) → Z d j = kCm W1 d j) (z2 : ∀ j : Int, 0 ≤ j → j < 10 → Z 166 j = -1 ∧ Z 170 j = 0) : kEnM m Y Z r := by
  have n1 : ∀ d j : Int, ¬ (d = 123 ∧ (j = 63 ∨ j = 80 ∨ j = 81 ∨ j = 82 ∨ j = 91)) → kCm W1 d j = W1 d j := fun d j w => by
    unfold kCm
    simp (disch := omega) only [km_up_ne]
  refine ⟨fun d j z => ?_, fun d j w1 w2 w3 w4 => ?_, ⟨?_, ?_, ?_, ?_, ?_⟩, z2, fun x x0 x1 => ?_⟩
  · rw [z1 d j (by omega), n1 d j (by omega), e1 d j (by omega)]
  · rw [z1 d j (by omega), n1 d j w3, e1 d j (by omega)]; exact hW d j w1 w2
  · rw [z1 _ _ (by omega)]; unfold kCm; simp (disch := omega) only [km_up_ne, km_upx_s]
  · rw [z1 _ _ (by omega)]; unfold kCm; simp (disch := omega) only [km_up_ne, km_upx_s]
  · rw [z1 _ _ (by omega)]; unfold kCm; simp (disch := omega) only [km_up_ne, km_upx_s]
  · rw [z1 _ _ (by omega)]; unfold kCm; simp (disch := omega) only [km_up_ne, km_upx_s]
  · rw [z1 _ _ (by omega)]; unfold kCm; simp (disch := omega) only [km_up_ne, km_upx_s]
  · rw [z1 _ _ (by omega), z1 _ _ (by omega), n1 _ _ (by omega), n1 _ _ (by omega)]; exact e2 x x0 x1
theorem m_end (h : kI0 N m) (hN : N ≤ 1000) (hY : kMj m Y) (r0 : -1 ≤ r ∧ r < 4) : ∃ Z : km_Mm, kEnM m Y Z r ∧ ∀ Q : Option km_V → km_Al → km_Mm → Prop, km_G M_X12_end 20 [some (.inr (.inr 123)), some (.inl r), none] [] (km_A0 q c s) Y Q ↔ Q (some (.inl r)) (km_A0 q c s) Z := by
  have hS := h.2.2.2.2.2.2.2.2.1
  have Y1 : ∀ k : Int, Y 182 k = m 182 k := fun k => hY 182 k (by decide) (by unfold kJ; omega)
  have Y2 : ∀ k : Int, Y 183 k = m 183 k := fun k => hY 183 k (by decide) (by unfold kJ; omega)
  have Y11 : Y 123 11 = m 123 11 := hY 123 11 (by decide) (by unfold kJ; omega)
  by_cases z : r = -1
  · subst z
    obtain ⟨Z, z1, z2, z3⟩ := @m_end1 q c s (-1) 10 0 (kCm Y) (by decide) (by decide)
    refine ⟨Z, kEnM_of hY (fun _ _ _ => rfl) (fun x x0 x1 => ?_) z1 z2, fun Q => ?_⟩
    · have : ¬ x = -1 := by omega
      rw [if_neg this, if_neg this]; exact ⟨Y1 x, Y2 x⟩
    · rw [← z3 Q]
      unfold kCm
      simp (config := { decide := true }) (disch := first | decide | assumption | omega | (simp (config := { decide := true }) only [km_sr_sf, km_sr_of, km_up_of, km_up_o, km_upx_i, km_upx_s, km_fl2_o, ne_eq, not_true_eq_false, not_false_eq_true] <;> omega) | fail) only [g_X12_end, ka_lt, ka_le, ka_nlt, ka_nle, ka_ne, ka_eq, Int.add_sub_cancel, true_or, or_true, false_or, or_false, false_and, and_false, if_true, if_false, ka_lo, ka_hi, ka_nn, km_sr_sf, km_sr_of, km_up_of, km_sr_us, km_sr_uo, km_sr_sr, km_sr_fl, km_sr_flo, km_up_up, km_up_lt, km_lay, km_unL, km_up_o, km_upx_i, km_upx_s, km_fl2_o, km_is, Option.some.injEq, Sum.inl.injEq, Sum.inr.injEq, Option.toList_some, Option.toList_none, List.cons_append, List.nil_append, ne_eq, true_and, and_true, and_self, not_true_eq_false, not_false_eq_true, true_implies, false_implies, reduceCtorEq]
  · have z0 : 0 ≤ r := by omega
    have z4 : r < 4 := r0.2
    have zn : ¬ r < 0 := by omega
    have hb := (hS r z0 z4).1
    have h1 : m 182 r = m 1 r := hb.1
    obtain ⟨Z, z1, z2, z3⟩ := @m_end1 q c s r 10 0 (kCm (km_up (km_up Y 182 r (m 182 r + 1)) 183 r (m 123 11))) (by decide) (by decide)
    refine ⟨Z, kEnM_of hY (fun d j w => by rw [km_up_ne (by omega), km_up_ne (by omega)]) (fun x x0 x1 => ?_) z1 z2, fun Q => ?_⟩
    · by_cases w : x = r
      · subst w
        rw [if_pos rfl, if_pos rfl, km_upx_s, km_up_ne (by omega), km_upx_s]; exact ⟨rfl, rfl⟩
      · rw [if_neg w, if_neg w, km_up_ne (by omega), km_up_ne (by omega), km_up_ne (by omega), km_up_ne (by omega)]; exact ⟨Y1 x, Y2 x⟩
    · rw [← z3 Q]
      unfold kCm
      simp (config := { decide := true }) (disch := first | decide | assumption | omega | (simp (config := { decide := true }) only [km_sr_sf, km_sr_of, km_up_of, km_up_o, km_upx_i, km_upx_s, km_fl2_o, ne_eq, not_true_eq_false, not_false_eq_true] <;> omega) | fail) only [g_X12_end, zn, z0, z4, Y1, Y11, ka_lt, ka_le, ka_nlt, ka_nle, ka_ne, ka_eq, Int.add_sub_cancel, true_or, or_true, false_or, or_false, false_and, and_false, if_true, if_false, ka_lo, ka_hi, ka_nn, km_sr_sf, km_sr_of, km_up_of, km_sr_us, km_sr_uo, km_sr_sr, km_sr_fl, km_sr_flo, km_up_up, km_up_lt, km_lay, km_unL, km_up_o, km_upx_i, km_upx_s, km_fl2_o, km_is, Option.some.injEq, Sum.inl.injEq, Sum.inr.injEq, Option.toList_some, Option.toList_none, List.cons_append, List.nil_append, ne_eq, true_and, and_true, and_self, not_true_eq_false, not_false_eq_true, true_implies, false_implies, reduceCtorEq]
theorem kEn_fin (h : kI0 N m) (r0 : -1 ≤ r ∧ r < 4) (hC : kEnC m X C r) (hY : ∀ d j : Int, d < 123 → Y d j = C d j) (hZ : kEnM m Y Z r) : kI0 (N + 1) Z ∧ kP_eq m Z := by
  obtain ⟨hB, hR, hT, hO, hM, hF, hH, hE, hS, hA⟩ := h
  have f1 := hB.1
  have f2 := hB.2.1
  obtain ⟨c1, c2, c3, ⟨c40, c41, c42, c43⟩, c5, c6⟩ := hC
  obtain ⟨z1, z2, ⟨z30, z31, z32, z33, z34⟩, z4, z5⟩ := hZ
  have low : ∀ d j : Int, d < 123 → Z d j = C d j := fun d j w => (z1 d j w).trans (hY d j w)
  have same : ∀ d j : Int, ¬ kJ d j → ¬ (d = 1 ∨ d = 2 ∨ d = 101 ∨ d = 102 ∨ d = 112) → ¬ (d = 19 ∧ j = 1) → ¬ (d = 100 ∧ (j = 0 ∨ j = 1 ∨ j = 4)) → ¬ (d = 123 ∧ (j = 63 ∨ j = 80 ∨ j = 81 ∨ j = 82 ∨ j = 91)) → ¬ (d = 166 ∨ d = 170 ∨ d = 182 ∨ d = 183) → Z d j = m d j := fun d j w1 w2 w3 w4 w5 w6 => by
    by_cases e : d < 123
    · rw [low d j e]; exact c1 d j w1 w2 w3 w4
    · exact z2 d j (by omega) w1 w5 w6
  have t0 : Z 100 0 = -1 := (low _ _ (by decide)).trans c40
  have t1 : Z 100 1 = 0 := (low _ _ (by decide)).trans c41
  have t4 : Z 100 4 = 0 := (low _ _ (by decide)).trans c42
  have t19 : Z 19 1 = 0 := (low _ _ (by decide)).trans c43
  refine ⟨⟨kB_cg hB (fun d j f => same d j ?_ ?_ ?_ ?_ ?_ ?_), kR_cg hR (fun d j f => by unfold fR at f; rw [low d j (by omega), f.1, c2]), kT_cg hT (fun d j f => same d j ?_ ?_ ?_ ?_ ?_ ?_), ?_, kM_cg hM (fun d j f => same d j ?_ ?_ ?_ ?_ ?_ ?_), kF_cg hF (fun d j f => same d j ?_ ?_ ?_ ?_ ?_ ?_), kH_cg hH (fun d j f => same d j ?_ ?_ ?_ ?_ ?_ ?_), ?_, ?_, kA_cg hA (fun d j f => same d j ?_ ?_ ?_ ?_ ?_ ?_)⟩, ?_⟩
  all_goals first | (unfold fB at f; first | (unfold kJ; omega) | omega) | (unfold fT at f; first | (unfold kJ; omega) | omega) | (unfold fM at f; first | (unfold kJ; omega) | omega) | (unfold fF at f; first | (unfold kJ; omega) | omega) | (unfold fH at f; first | (unfold kJ; omega) | omega) | (unfold fA at f; first | (unfold kJ; omega) | omega) | skip
  · refine ⟨⟨?_, ?_, ?_⟩, fun o o0 o1 => ?_, fun o k o0 o1 => ?_⟩
    · rw [t19]; decide
    · rw [t19]; decide
    · rw [t19]; exact z30
    · rw [t19] at o1; exact absurd o1 (by omega)
    · rw [t19] at o1; exact absurd o1 (by omega)
  · refine ⟨⟨⟨?_, ?_, ?_⟩, ?_⟩, ⟨?_, ?_, ?_⟩, ⟨?_, ?_, ?_⟩, ?_, ?_, ?_, ?_, ?_, ?_⟩
    · rw [t0]; decide
    · rw [t0, t19]; decide
    · rw [t0]; exact z32
    · rw [t0, if_pos rfl]; exact z31
    · rw [t1]; exact z33
    · rw [t1]; exact ten_0
    · intro k k0 k1; rw [t1]; exact tb_zero
    · rw [t4]; decide
    · rw [t4]; decide
    · rw [t4]; exact z34
    · intro k k0 k1
      rw [low 101 k (by decide), (c5 k k0 k1).1]
      exact ⟨⟨by decide, by decide⟩, fun _ => (z4 k k0 k1).2, fun _ => rfl⟩
    · intro _
      refine ⟨t1, t4, fun k k0 k1 => ⟨?_, ?_⟩⟩
      · rw [low 102 k (by decide)]; exact (c5 k k0 k1).2.1
      · rw [low 112 k (by decide)]; exact (c5 k k0 k1).2.2
    · intro k k0 k1
      rw [low 102 k (by decide), (c5 k k0 k1).2.1]
      exact ⟨⟨by decide, by decide⟩, fun w => absurd t0 w, fun _ => rfl⟩
    · intro d k d0 d1; rw [t4] at d1; exact absurd d1 (by omega)
    · intro k k0 k1; rw [low 112 k (by decide), (c5 k k0 k1).2.2]; exact ten_0
    · intro w; exact absurd t0 w
  · intro x x0 x1
    obtain ⟨s1, s2⟩ := hS x x0 x1
    obtain ⟨a1, a2⟩ := c6 x x0 x1
    obtain ⟨b1, b2⟩ := z5 x x0 x1
    rw [low 1 x (by decide), low 2 x (by decide), a1, a2, b1, b2]
    by_cases w : x = r
    · rw [if_pos w, if_pos w, if_pos w, if_pos w]; omega
    · rw [if_neg w, if_neg w, if_neg w, if_neg w]; omega
  · intro d j f w
    unfold kP at f
    exact same d j w (by omega) (by omega) (by omega) (by omega) (by omega)
theorem kI0_up (h : kI0 N m) : kI0 (N + 1) m := by
  obtain ⟨hB, hR, hT, hO, hM, hF, hH, hE, hS, hA⟩ := h
  exact ⟨hB, hR, hT, hO, hM, hF, hH, hE, fun x x0 x1 => by have := hS x x0 x1; omega, hA⟩
theorem kIN_up (h : kIN N q m) : kIN (N + 1) q m := ⟨kI0_up h.1, h.2⟩
theorem fc_end (h : kIN N q m) (hN : N ≤ 1000) : kFq M_X11_end M_X12_end [] N (N + 1) q c s m := by
  intro Q1 Q2
  have hi := h
  obtain ⟨h0, P, hq, hp⟩ := h
  have e1 := h0.2.2.2.2.2.2.2.1.1
  by_cases on : m 100 0 = -1
  · have e80 : m 123 80 = 0 := e1.2.trans (if_pos on)
    refine ⟨.inl (-2), q, m, km_up m 123 2 0, ?_, ?_, rfl, kIN_up (kIN_t hi)⟩
    · rw [e_X11_end]
      simp (config := { decide := true }) (disch := first | decide | assumption | omega | (simp (config := { decide := true }) only [km_sr_sf, km_sr_of, km_up_of, km_up_o, km_upx_i, km_upx_s, km_fl2_o, ne_eq, not_true_eq_false, not_false_eq_true] <;> omega) | fail) only [g_X11_end, r_isOn, on, ka_lt, ka_le, ka_nlt, ka_nle, ka_ne, ka_eq, Int.add_sub_cancel, true_or, or_true, false_or, or_false, false_and, and_false, if_true, if_false, ka_lo, ka_hi, ka_nn, km_sr_sf, km_sr_of, km_up_of, km_sr_us, km_sr_uo, km_sr_sr, km_sr_fl, km_sr_flo, km_up_up, km_up_lt, km_lay, km_unL, km_up_o, km_upx_i, km_upx_s, km_fl2_o, km_is, Option.some.injEq, Sum.inl.injEq, Sum.inr.injEq, Option.toList_some, Option.toList_none, List.cons_append, List.nil_append, ne_eq, true_and, and_true, and_self, not_true_eq_false, not_false_eq_true, true_implies, false_implies, reduceCtorEq]
    · rw [e_X12_end]
      simp (config := { decide := true }) (disch := first | decide | assumption | omega | (simp (config := { decide := true }) only [km_sr_sf, km_sr_of, km_up_of, km_up_o, km_upx_i, km_upx_s, km_fl2_o, ne_eq, not_true_eq_false, not_false_eq_true] <;> omega) | fail) only [g_X12_end, e80, ka_lt, ka_le, ka_nlt, ka_nle, ka_ne, ka_eq, Int.add_sub_cancel, true_or, or_true, false_or, or_false, false_and, and_false, if_true, if_false, ka_lo, ka_hi, ka_nn, km_sr_sf, km_sr_of, km_up_of, km_sr_us, km_sr_uo, km_sr_sr, km_sr_fl, km_sr_flo, km_up_up, km_up_lt, km_lay, km_unL, km_up_o, km_upx_i, km_upx_s, km_fl2_o, km_is, Option.some.injEq, Sum.inl.injEq, Sum.inr.injEq, Option.toList_some, Option.toList_none, List.cons_append, List.nil_append, ne_eq, true_and, and_true, and_self, not_true_eq_false, not_false_eq_true, true_implies, false_implies, reduceCtorEq]
  have e80 : m 123 80 = 1 := e1.2.trans (if_neg on)
  obtain ⟨o, p, q', X, ⟨co, cp⟩, ⟨hq', zX⟩, e2⟩ := @km_pickO (fun Q => km_E M_X11_host [.inr (.inr 0)] (km_A0 q c s) m Q) (fun _ _ q' X' => (kQo q' P ∧ q'.1 = q.1) ∧ kZ m X') (fun o p => some (.inl (kHst m o p))) (fun q' => km_A0 q' c s) (fun o p => by
    obtain ⟨q', X', u1, u2, u3⟩ := @c_host q c s m N o p P h0 hN hp hq
    exact ⟨q', X', ⟨u1, u2⟩, u3⟩)
  have rb := @kHst_b m o p
  obtain ⟨C, hC, e3⟩ := @c_end q' c s m X N (kHst m o p) h0 hN zX.1 zX.2.1 rb
  have y0 : kRy m C o p (C 123 58) (km_up C 123 2 0) := ⟨fun d j h1 h2 => by rw [km_up_ne (fun w => h2 (by unfold kJ; omega)), hC.2.2.1 d j h1]; exact zX.1 d j h2, fun d j hd => km_up_ne (by omega), by rw [km_up_ne (by omega), hC.2.2.1 _ _ (by decide)]; exact co, by rw [km_up_ne (by omega), hC.2.2.1 _ _ (by decide)]; exact cp, km_up_ne (by omega)⟩
  obtain ⟨b2, W, w1, w2⟩ := @m_host q' c s m C (km_up C 123 2 0) N o p (C 123 58) P h0 hN hp y0
  obtain ⟨Z, z1, z2⟩ := @m_end q' c s m W N (kHst m o p) h0 hN w1.1 rb
  have fin := kEn_fin h0 rb hC (fun d j hd => w1.2.1 d j (Or.inl hd)) z1
  have C80 : C 123 80 = 1 := by rw [hC.2.2.1 _ _ (by decide)]; exact (zX.1 123 80 (by unfold kJ; omega)).trans e80
  refine ⟨.inl (kHst m o p), q', C, Z, ?_, ?_, hq'.2, fin.1, P, hq'.1, kIp_eq hq'.1.1 hp fin.2⟩
  · rw [← e3 Q1, e_X11_end]
    generalize kHst m o p = r at *
    by_cases z : r = -1
    · simp (config := { decide := true }) (disch := first | decide | assumption | omega | (simp (config := { decide := true }) only [km_sr_sf, km_sr_of, km_up_of, km_up_o, km_upx_i, km_upx_s, km_fl2_o, ne_eq, not_true_eq_false, not_false_eq_true] <;> omega) | fail) only [g_X11_end, r_isOn, on, e2, r_close, z, ka_lt, ka_le, ka_nlt, ka_nle, ka_ne, ka_eq, Int.add_sub_cancel, true_or, or_true, false_or, or_false, false_and, and_false, if_true, if_false, ka_lo, ka_hi, ka_nn, km_sr_sf, km_sr_of, km_up_of, km_sr_us, km_sr_uo, km_sr_sr, km_sr_fl, km_sr_flo, km_up_up, km_up_lt, km_lay, km_unL, km_up_o, km_upx_i, km_upx_s, km_fl2_o, km_is, Option.some.injEq, Sum.inl.injEq, Sum.inr.injEq, Option.toList_some, Option.toList_none, List.cons_append, List.nil_append, ne_eq, true_and, and_true, and_self, not_true_eq_false, not_false_eq_true, true_implies, false_implies, reduceCtorEq]
    · simp (config := { decide := true }) (disch := first | decide | assumption | omega | (simp (config := { decide := true }) only [km_sr_sf, km_sr_of, km_up_of, km_up_o, km_upx_i, km_upx_s, km_fl2_o, ne_eq, not_true_eq_false, not_false_eq_true] <;> omega) | fail) only [g_X11_end, r_isOn, on, e2, r_close, z, ka_lt, ka_le, ka_nlt, ka_nle, ka_ne, ka_eq, Int.add_sub_cancel, true_or, or_true, false_or, or_false, false_and, and_false, if_true, if_false, ka_lo, ka_hi, ka_nn, km_sr_sf, km_sr_of, km_up_of, km_sr_us, km_sr_uo, km_sr_sr, km_sr_fl, km_sr_flo, km_up_up, km_up_lt, km_lay, km_unL, km_up_o, km_upx_i, km_upx_s, km_fl2_o, km_is, Option.some.injEq, Sum.inl.injEq, Sum.inr.injEq, Option.toList_some, Option.toList_none, List.cons_append, List.nil_append, ne_eq, true_and, and_true, and_self, not_true_eq_false, not_false_eq_true, true_implies, false_implies, reduceCtorEq]
  · rw [← z2 Q2, e_X12_end]
    generalize kHst m o p = r at *
    by_cases z : r < 0
    · simp (config := { decide := true }) (disch := first | decide | assumption | omega | (simp (config := { decide := true }) only [km_sr_sf, km_sr_of, km_up_of, km_up_o, km_upx_i, km_upx_s, km_fl2_o, ne_eq, not_true_eq_false, not_false_eq_true] <;> omega) | fail) only [g_X12_end, C80, w2, z, ka_lt, ka_le, ka_nlt, ka_nle, ka_ne, ka_eq, Int.add_sub_cancel, true_or, or_true, false_or, or_false, false_and, and_false, if_true, if_false, ka_lo, ka_hi, ka_nn, km_sr_sf, km_sr_of, km_up_of, km_sr_us, km_sr_uo, km_sr_sr, km_sr_fl, km_sr_flo, km_up_up, km_up_lt, km_lay, km_unL, km_up_o, km_upx_i, km_upx_s, km_fl2_o, km_is, Option.some.injEq, Sum.inl.injEq, Sum.inr.injEq, Option.toList_some, Option.toList_none, List.cons_append, List.nil_append, ne_eq, true_and, and_true, and_self, not_true_eq_false, not_false_eq_true, true_implies, false_implies, reduceCtorEq]
    · simp (config := { decide := true }) (disch := first | decide | assumption | omega | (simp (config := { decide := true }) only [km_sr_sf, km_sr_of, km_up_of, km_up_o, km_upx_i, km_upx_s, km_fl2_o, ne_eq, not_true_eq_false, not_false_eq_true] <;> omega) | fail) only [g_X12_end, C80, w2, z, ka_lt, ka_le, ka_nlt, ka_nle, ka_ne, ka_eq, Int.add_sub_cancel, true_or, or_true, false_or, or_false, false_and, and_false, if_true, if_false, ka_lo, ka_hi, ka_nn, km_sr_sf, km_sr_of, km_up_of, km_sr_us, km_sr_uo, km_sr_sr, km_sr_fl, km_sr_flo, km_up_up, km_up_lt, km_lay, km_unL, km_up_o, km_upx_i, km_upx_s, km_fl2_o, km_is, Option.some.injEq, Sum.inl.injEq, Sum.inr.injEq, Option.toList_some, Option.toList_none, List.cons_append, List.nil_append, ne_eq, true_and, and_true, and_self, not_true_eq_false, not_false_eq_true, true_implies, false_implies, reduceCtorEq]
end FE

