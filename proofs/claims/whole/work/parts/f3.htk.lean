/-! ===== the reference's HEAP takes one in ===== -/
section KS
variable {q : Nat × Int × Int × Int × Int} {c s : Nat} {Y Y' : km_Mm} {g t kn hs hm ha n : Int} {ν ς σ : Int → Int}
def kTk1 (q : Nat × Int × Int × Int × Int) (c s : Nat) (Y : km_Mm) (n g t kn hs hm ha : Int) (ν ς σ : Int → Int) (sc : Int × Int) : Prop := ∃ hs' hm' : Int, (∀ s' : Int × Int, kac (Y 138 n) sc (σ t) = some s' → khr (Y 138 n) s' hs' hm' 1) ∧ ∀ (Y' : km_Mm) (x : Int), (∀ Q : Option km_V → km_Al → km_Mm → Prop, km_E M_X12_nextKin [.inr (.inr 123), .inl kn] (km_A0 q c s) (kmR Y (g + 1) t (if kac (Y 138 n) sc (σ t) = none then 1 else 0) kn hs' hm' 1 ν ς σ) Q ↔ Q (some (.inl x)) (km_A0 q c s) (kmR Y' (g + 1) t (if kac (Y 138 n) sc (σ t) = none then 1 else 0) kn hs' hm' 1 ν ς σ)) →
  ∀ Q : Option km_V → km_Al → km_Mm → Prop, km_E M_X12_heapGoes [.inr (.inr 123), .inl n, .inl 3] (km_A0 q c s) (kmR Y (g + 1) (t + 1) 0 kn hs hm ha ν ς σ) Q ↔ Q none (km_A0 q c s) (kCn Y' n (Y 138 n) g t (if kac (Y 138 n) sc (σ t) = none then 1 else 0) x hs' hm' 1 ν ς σ)
theorem g_htk2 {sc : Int × Int} (hk : Y 138 n = 2) (hn : 0 ≤ n ∧ n < 240) (h : 0 ≤ g ∧ g < 298) (ht : 0 ≤ t ∧ t < 298) (hr : khr (Y 138 n) sc hs hm ha) (ho : kho (Y 138 n) sc) (h1 : sc.2 ≤ 1000) (h12 : k12 (σ t)) : kTk1 q c s Y n g t kn hs hm ha ν ς σ sc := by
  have bk := fun Q => @d_back q c s Y (g + 1) (t + 1) 0 kn hs hm ha ν ς σ Q (by omega)
  rw [show t + 1 - 1 = t by omega] at bk
  obtain ⟨r1, r2, r3⟩ := hr
  obtain ⟨o0, o1, o2⟩ := ho
  unfold kTk1
  generalize σ t = v at *
  unfold k12 at o1 h12
  have e1 : hs = sc.1 := r1 (Or.inl hk)
  have e : kac (Y 138 n) sc v = (match kbd (sc.1 + v) with | none => none | some y => some (y, sc.2 + 1)) := by unfold kac; rw [if_pos hk]; rfl
  have bd := fun Q => @d_bounded q c s Y (g + 1) t kn hs hm ha (hs + v) ν ς σ Q (by omega)
  refine ⟨if kbd (hs + v) = none then 0 else hs + v, (if ha = 0 then v else if v < hm then v else hm), fun s' hs' => ?_, fun Y' x hnx Q => ?_⟩
  · rw [← e1] at e
    cases hb : kbd (hs + v) with
    | none => rw [hb] at e; rw [e] at hs'; cases hs'
    | some u =>
      rw [hb] at e
      rw [e] at hs'
      cases hs'
      have := (kbd_s hb).1
      exact ⟨fun _ => by rw [if_neg (fun w => by cases w)]; exact this.symm, fun w => by omega, Or.inr rfl⟩
  · rw [← e1] at e
    have c9 := fun o2 o4 o5 o6 => @g_193 q c s Y Y' g t (if kac (Y 138 n) sc v = none then 1 else 0) kn (if kbd (hs + v) = none then 0 else hs + v) (if ha = 0 then v else if v < hm then v else hm) 1 n (Y 138 n) x ν ς σ Q o2 o4 o5 o6 hn h ht hnx
    by_cases z : kbd (hs + v) = none
    · have en : kac (Y 138 n) sc v = none := by rw [e, z]
      simp only [if_pos z] at bd c9 ⊢
      simp only [if_pos en] at c9 ⊢
      have bd := bd
      rw [hk] at c9 ⊢
      rw [e_X12_heapGoes]
      by_cases a0 : ha = 0
      · simp only [if_pos a0] at c9
        subst a0
        simp (config := { decide := true }) (disch := first | decide | assumption | omega | (simp (config := { decide := true }) only [km_sr_sf, km_sr_of, km_up_of, km_up_o, km_upx_i, km_upx_s, km_fl2_o, ne_eq, not_true_eq_false, not_false_eq_true] <;> omega) | fail) only [↓c9, g_X12_heapGoes, kRo, kR51, kR56, kR59, kR60, kR61, kV51, kV56, kV59, kV60, kV61, kV148, Int.add_sub_cancel, hn, h, hk, bk, bd, ka_lt, ka_le, ka_nlt, ka_nle, ka_ne, ka_eq, Int.add_sub_cancel, true_or, or_true, false_or, or_false, false_and, and_false, if_true, if_false, ka_lo, ka_hi, ka_nn, km_sr_sf, km_sr_of, km_up_of, km_sr_us, km_sr_uo, km_sr_sr, km_sr_fl, km_sr_flo, km_up_up, km_up_lt, km_lay, km_unL, km_up_o, km_upx_i, km_upx_s, km_fl2_o, km_is, Option.some.injEq, Sum.inl.injEq, Sum.inr.injEq, Option.toList_some, Option.toList_none, List.cons_append, List.nil_append, ne_eq, true_and, and_true, and_self, not_true_eq_false, not_false_eq_true, true_implies, false_implies, reduceCtorEq]
      · have a1 : ha = 1 := by omega
        simp only [if_neg a0] at c9
        subst a1
        by_cases cm : v < hm
        · simp only [if_pos cm] at c9
          have cm2 : ¬ (hm ≤ v) := by omega
          simp (config := { decide := true }) (disch := first | decide | assumption | omega | (simp (config := { decide := true }) only [km_sr_sf, km_sr_of, km_up_of, km_up_o, km_upx_i, km_upx_s, km_fl2_o, ne_eq, not_true_eq_false, not_false_eq_true] <;> omega) | fail) only [↓c9, g_X12_heapGoes, kRo, kR51, kR56, kR59, kR60, kR61, kV51, kV56, kV59, kV60, kV61, kV148, Int.add_sub_cancel, hn, h, hk, bk, bd, kl_lt, kl_le, kl_gt, kl_ge, cm, cm2, ka_lt, ka_le, ka_nlt, ka_nle, ka_ne, ka_eq, Int.add_sub_cancel, true_or, or_true, false_or, or_false, false_and, and_false, if_true, if_false, ka_lo, ka_hi, ka_nn, km_sr_sf, km_sr_of, km_up_of, km_sr_us, km_sr_uo, km_sr_sr, km_sr_fl, km_sr_flo, km_up_up, km_up_lt, km_lay, km_unL, km_up_o, km_upx_i, km_upx_s, km_fl2_o, km_is, Option.some.injEq, Sum.inl.injEq, Sum.inr.injEq, Option.toList_some, Option.toList_none, List.cons_append, List.nil_append, ne_eq, true_and, and_true, and_self, not_true_eq_false, not_false_eq_true, true_implies, false_implies, reduceCtorEq]
        · simp only [if_neg cm] at c9
          have cm2 : (hm ≤ v) := by omega
          simp (config := { decide := true }) (disch := first | decide | assumption | omega | (simp (config := { decide := true }) only [km_sr_sf, km_sr_of, km_up_of, km_up_o, km_upx_i, km_upx_s, km_fl2_o, ne_eq, not_true_eq_false, not_false_eq_true] <;> omega) | fail) only [↓c9, g_X12_heapGoes, kRo, kR51, kR56, kR59, kR60, kR61, kV51, kV56, kV59, kV60, kV61, kV148, Int.add_sub_cancel, hn, h, hk, bk, bd, kl_lt, kl_le, kl_gt, kl_ge, cm, cm2, ka_lt, ka_le, ka_nlt, ka_nle, ka_ne, ka_eq, Int.add_sub_cancel, true_or, or_true, false_or, or_false, false_and, and_false, if_true, if_false, ka_lo, ka_hi, ka_nn, km_sr_sf, km_sr_of, km_up_of, km_sr_us, km_sr_uo, km_sr_sr, km_sr_fl, km_sr_flo, km_up_up, km_up_lt, km_lay, km_unL, km_up_o, km_upx_i, km_upx_s, km_fl2_o, km_is, Option.some.injEq, Sum.inl.injEq, Sum.inr.injEq, Option.toList_some, Option.toList_none, List.cons_append, List.nil_append, ne_eq, true_and, and_true, and_self, not_true_eq_false, not_false_eq_true, true_implies, false_implies, reduceCtorEq]
    · obtain ⟨u, hu⟩ : ∃ u, kbd (hs + v) = some u := Option.ne_none_iff_exists'.mp z
      have en : ¬ kac (Y 138 n) sc v = none := by rw [e, hu]; exact fun w => by cases w
      simp only [if_neg z] at bd c9 ⊢
      simp only [if_neg en] at c9 ⊢
      rw [hk] at c9 ⊢
      rw [e_X12_heapGoes]
      by_cases a0 : ha = 0
      · simp only [if_pos a0] at c9
        subst a0
        simp (config := { decide := true }) (disch := first | decide | assumption | omega | (simp (config := { decide := true }) only [km_sr_sf, km_sr_of, km_up_of, km_up_o, km_upx_i, km_upx_s, km_fl2_o, ne_eq, not_true_eq_false, not_false_eq_true] <;> omega) | fail) only [↓c9, g_X12_heapGoes, kRo, kR51, kR56, kR59, kR60, kR61, kV51, kV56, kV59, kV60, kV61, kV148, Int.add_sub_cancel, hn, h, hk, bk, bd, ka_lt, ka_le, ka_nlt, ka_nle, ka_ne, ka_eq, Int.add_sub_cancel, true_or, or_true, false_or, or_false, false_and, and_false, if_true, if_false, ka_lo, ka_hi, ka_nn, km_sr_sf, km_sr_of, km_up_of, km_sr_us, km_sr_uo, km_sr_sr, km_sr_fl, km_sr_flo, km_up_up, km_up_lt, km_lay, km_unL, km_up_o, km_upx_i, km_upx_s, km_fl2_o, km_is, Option.some.injEq, Sum.inl.injEq, Sum.inr.injEq, Option.toList_some, Option.toList_none, List.cons_append, List.nil_append, ne_eq, true_and, and_true, and_self, not_true_eq_false, not_false_eq_true, true_implies, false_implies, reduceCtorEq]
      · have a1 : ha = 1 := by omega
        simp only [if_neg a0] at c9
        subst a1
        by_cases cm : v < hm
        · simp only [if_pos cm] at c9
          have cm2 : ¬ (hm ≤ v) := by omega
          simp (config := { decide := true }) (disch := first | decide | assumption | omega | (simp (config := { decide := true }) only [km_sr_sf, km_sr_of, km_up_of, km_up_o, km_upx_i, km_upx_s, km_fl2_o, ne_eq, not_true_eq_false, not_false_eq_true] <;> omega) | fail) only [↓c9, g_X12_heapGoes, kRo, kR51, kR56, kR59, kR60, kR61, kV51, kV56, kV59, kV60, kV61, kV148, Int.add_sub_cancel, hn, h, hk, bk, bd, kl_lt, kl_le, kl_gt, kl_ge, cm, cm2, ka_lt, ka_le, ka_nlt, ka_nle, ka_ne, ka_eq, Int.add_sub_cancel, true_or, or_true, false_or, or_false, false_and, and_false, if_true, if_false, ka_lo, ka_hi, ka_nn, km_sr_sf, km_sr_of, km_up_of, km_sr_us, km_sr_uo, km_sr_sr, km_sr_fl, km_sr_flo, km_up_up, km_up_lt, km_lay, km_unL, km_up_o, km_upx_i, km_upx_s, km_fl2_o, km_is, Option.some.injEq, Sum.inl.injEq, Sum.inr.injEq, Option.toList_some, Option.toList_none, List.cons_append, List.nil_append, ne_eq, true_and, and_true, and_self, not_true_eq_false, not_false_eq_true, true_implies, false_implies, reduceCtorEq]
        · simp only [if_neg cm] at c9
          have cm2 : (hm ≤ v) := by omega
          simp (config := { decide := true }) (disch := first | decide | assumption | omega | (simp (config := { decide := true }) only [km_sr_sf, km_sr_of, km_up_of, km_up_o, km_upx_i, km_upx_s, km_fl2_o, ne_eq, not_true_eq_false, not_false_eq_true] <;> omega) | fail) only [↓c9, g_X12_heapGoes, kRo, kR51, kR56, kR59, kR60, kR61, kV51, kV56, kV59, kV60, kV61, kV148, Int.add_sub_cancel, hn, h, hk, bk, bd, kl_lt, kl_le, kl_gt, kl_ge, cm, cm2, ka_lt, ka_le, ka_nlt, ka_nle, ka_ne, ka_eq, Int.add_sub_cancel, true_or, or_true, false_or, or_false, false_and, and_false, if_true, if_false, ka_lo, ka_hi, ka_nn, km_sr_sf, km_sr_of, km_up_of, km_sr_us, km_sr_uo, km_sr_sr, km_sr_fl, km_sr_flo, km_up_up, km_up_lt, km_lay, km_unL, km_up_o, km_upx_i, km_upx_s, km_fl2_o, km_is, Option.some.injEq, Sum.inl.injEq, Sum.inr.injEq, Option.toList_some, Option.toList_none, List.cons_append, List.nil_append, ne_eq, true_and, and_true, and_self, not_true_eq_false, not_false_eq_true, true_implies, false_implies, reduceCtorEq]
theorem g_htk3 {sc : Int × Int} (hk : Y 138 n = 3) (hn : 0 ≤ n ∧ n < 240) (h : 0 ≤ g ∧ g < 298) (ht : 0 ≤ t ∧ t < 298) (hr : khr (Y 138 n) sc hs hm ha) (ho : kho (Y 138 n) sc) (h1 : sc.2 ≤ 1000) (h12 : k12 (σ t)) : kTk1 q c s Y n g t kn hs hm ha ν ς σ sc := by
  have bk := fun Q => @d_back q c s Y (g + 1) (t + 1) 0 kn hs hm ha ν ς σ Q (by omega)
  rw [show t + 1 - 1 = t by omega] at bk
  obtain ⟨r1, r2, r3⟩ := hr
  obtain ⟨o0, o1, o2⟩ := ho
  unfold kTk1
  generalize σ t = v at *
  unfold k12 at o1 h12
  obtain ⟨e1, e2⟩ := r2 (Or.inl hk)
  have e : kac (Y 138 n) sc v = if sc.2 = 0 then some (v, 1) else some (if sc.1 < v then v else sc.1, sc.2 + 1) := by unfold kac; rw [if_neg (by omega), if_neg (by omega)]; rw [if_pos hk]
  have en : ¬ kac (Y 138 n) sc v = none := by rw [e]; split <;> exact fun w => by cases w
  refine ⟨hs, (if ha = 0 then v else if hm < v then v else hm), fun s' hs' => ?_, fun Y' x hnx Q => ?_⟩
  · rw [e] at hs'
    by_cases c0 : sc.2 = 0
    · rw [if_pos c0] at hs' e2
      cases hs'
      exact ⟨fun w => by omega, fun _ => ⟨by rw [if_pos e2], by show (1 : Int) = if (1 : Int) = 0 then 0 else 1; decide⟩, Or.inr rfl⟩
    · rw [if_neg c0] at hs' e2
      cases hs'
      refine ⟨fun w => by omega, fun _ => ⟨?_, ?_⟩, Or.inr rfl⟩
      · rw [if_neg (by omega), e1]
      · rw [if_neg (by show ¬ sc.2 + 1 = 0; omega)]
  · have c9 := fun o2 o4 o5 o6 => @g_193 q c s Y Y' g t (if kac (Y 138 n) sc v = none then 1 else 0) kn hs (if ha = 0 then v else if hm < v then v else hm) 1 n (Y 138 n) x ν ς σ Q o2 o4 o5 o6 hn h ht hnx
    simp only [if_neg en] at c9 ⊢
    rw [hk] at c9 ⊢
    rw [e_X12_heapGoes]
    by_cases a0 : ha = 0
    · simp only [if_pos a0] at c9
      subst a0
      simp (config := { decide := true }) (disch := first | decide | assumption | omega | (simp (config := { decide := true }) only [km_sr_sf, km_sr_of, km_up_of, km_up_o, km_upx_i, km_upx_s, km_fl2_o, ne_eq, not_true_eq_false, not_false_eq_true] <;> omega) | fail) only [↓c9, g_X12_heapGoes, kRo, kR51, kR56, kR59, kR60, kR61, kV51, kV56, kV59, kV60, kV61, kV148, Int.add_sub_cancel, hn, h, hk, bk, ka_lt, ka_le, ka_nlt, ka_nle, ka_ne, ka_eq, Int.add_sub_cancel, true_or, or_true, false_or, or_false, false_and, and_false, if_true, if_false, ka_lo, ka_hi, ka_nn, km_sr_sf, km_sr_of, km_up_of, km_sr_us, km_sr_uo, km_sr_sr, km_sr_fl, km_sr_flo, km_up_up, km_up_lt, km_lay, km_unL, km_up_o, km_upx_i, km_upx_s, km_fl2_o, km_is, Option.some.injEq, Sum.inl.injEq, Sum.inr.injEq, Option.toList_some, Option.toList_none, List.cons_append, List.nil_append, ne_eq, true_and, and_true, and_self, not_true_eq_false, not_false_eq_true, true_implies, false_implies, reduceCtorEq]
    · have a1 : ha = 1 := by omega
      simp only [if_neg a0] at c9
      subst a1
      by_cases cm : hm < v
      · simp only [if_pos cm] at c9
        have cm2 : ¬ (v ≤ hm) := by omega
        simp (config := { decide := true }) (disch := first | decide | assumption | omega | (simp (config := { decide := true }) only [km_sr_sf, km_sr_of, km_up_of, km_up_o, km_upx_i, km_upx_s, km_fl2_o, ne_eq, not_true_eq_false, not_false_eq_true] <;> omega) | fail) only [↓c9, g_X12_heapGoes, kRo, kR51, kR56, kR59, kR60, kR61, kV51, kV56, kV59, kV60, kV61, kV148, Int.add_sub_cancel, hn, h, hk, bk, kl_lt, kl_le, kl_gt, kl_ge, cm, cm2, ka_lt, ka_le, ka_nlt, ka_nle, ka_ne, ka_eq, Int.add_sub_cancel, true_or, or_true, false_or, or_false, false_and, and_false, if_true, if_false, ka_lo, ka_hi, ka_nn, km_sr_sf, km_sr_of, km_up_of, km_sr_us, km_sr_uo, km_sr_sr, km_sr_fl, km_sr_flo, km_up_up, km_up_lt, km_lay, km_unL, km_up_o, km_upx_i, km_upx_s, km_fl2_o, km_is, Option.some.injEq, Sum.inl.injEq, Sum.inr.injEq, Option.toList_some, Option.toList_none, List.cons_append, List.nil_append, ne_eq, true_and, and_true, and_self, not_true_eq_false, not_false_eq_true, true_implies, false_implies, reduceCtorEq]
      · simp only [if_neg cm] at c9
        have cm2 : (v ≤ hm) := by omega
        simp (config := { decide := true }) (disch := first | decide | assumption | omega | (simp (config := { decide := true }) only [km_sr_sf, km_sr_of, km_up_of, km_up_o, km_upx_i, km_upx_s, km_fl2_o, ne_eq, not_true_eq_false, not_false_eq_true] <;> omega) | fail) only [↓c9, g_X12_heapGoes, kRo, kR51, kR56, kR59, kR60, kR61, kV51, kV56, kV59, kV60, kV61, kV148, Int.add_sub_cancel, hn, h, hk, bk, kl_lt, kl_le, kl_gt, kl_ge, cm, cm2, ka_lt, ka_le, ka_nlt, ka_nle, ka_ne, ka_eq, Int.add_sub_cancel, true_or, or_true, false_or, or_false, false_and, and_false, if_true, if_false, ka_lo, ka_hi, ka_nn, km_sr_sf, km_sr_of, km_up_of, km_sr_us, km_sr_uo, km_sr_sr, km_sr_fl, km_sr_flo, km_up_up, km_up_lt, km_lay, km_unL, km_up_o, km_upx_i, km_upx_s, km_fl2_o, km_is, Option.some.injEq, Sum.inl.injEq, Sum.inr.injEq, Option.toList_some, Option.toList_none, List.cons_append, List.nil_append, ne_eq, true_and, and_true, and_self, not_true_eq_false, not_false_eq_true, true_implies, false_implies, reduceCtorEq]
theorem g_htk4 {sc : Int × Int} (hk : Y 138 n = 4) (hn : 0 ≤ n ∧ n < 240) (h : 0 ≤ g ∧ g < 298) (ht : 0 ≤ t ∧ t < 298) (hr : khr (Y 138 n) sc hs hm ha) (ho : kho (Y 138 n) sc) (h1 : sc.2 ≤ 1000) (h12 : k12 (σ t)) : kTk1 q c s Y n g t kn hs hm ha ν ς σ sc := by
  have bk := fun Q => @d_back q c s Y (g + 1) (t + 1) 0 kn hs hm ha ν ς σ Q (by omega)
  rw [show t + 1 - 1 = t by omega] at bk
  obtain ⟨r1, r2, r3⟩ := hr
  obtain ⟨o0, o1, o2⟩ := ho
  unfold kTk1
  generalize σ t = v at *
  unfold k12 at o1 h12
  obtain ⟨e1, e2⟩ := r2 (Or.inr hk)
  have e : kac (Y 138 n) sc v = if sc.2 = 0 then some (v, 1) else some (if v < sc.1 then v else sc.1, sc.2 + 1) := by unfold kac; rw [if_neg (by omega), if_neg (by omega)]; rw [if_neg (c := Y 138 n = 3) (by omega)]
  have en : ¬ kac (Y 138 n) sc v = none := by rw [e]; split <;> exact fun w => by cases w
  refine ⟨hs, (if ha = 0 then v else if v < hm then v else hm), fun s' hs' => ?_, fun Y' x hnx Q => ?_⟩
  · rw [e] at hs'
    by_cases c0 : sc.2 = 0
    · rw [if_pos c0] at hs' e2
      cases hs'
      exact ⟨fun w => by omega, fun _ => ⟨by rw [if_pos e2], by show (1 : Int) = if (1 : Int) = 0 then 0 else 1; decide⟩, Or.inr rfl⟩
    · rw [if_neg c0] at hs' e2
      cases hs'
      refine ⟨fun w => by omega, fun _ => ⟨?_, ?_⟩, Or.inr rfl⟩
      · rw [if_neg (by omega), e1]
      · rw [if_neg (by show ¬ sc.2 + 1 = 0; omega)]
  · have c9 := fun o2 o4 o5 o6 => @g_193 q c s Y Y' g t (if kac (Y 138 n) sc v = none then 1 else 0) kn hs (if ha = 0 then v else if v < hm then v else hm) 1 n (Y 138 n) x ν ς σ Q o2 o4 o5 o6 hn h ht hnx
    simp only [if_neg en] at c9 ⊢
    rw [hk] at c9 ⊢
    rw [e_X12_heapGoes]
    by_cases a0 : ha = 0
    · simp only [if_pos a0] at c9
      subst a0
      simp (config := { decide := true }) (disch := first | decide | assumption | omega | (simp (config := { decide := true }) only [km_sr_sf, km_sr_of, km_up_of, km_up_o, km_upx_i, km_upx_s, km_fl2_o, ne_eq, not_true_eq_false, not_false_eq_true] <;> omega) | fail) only [↓c9, g_X12_heapGoes, kRo, kR51, kR56, kR59, kR60, kR61, kV51, kV56, kV59, kV60, kV61, kV148, Int.add_sub_cancel, hn, h, hk, bk, ka_lt, ka_le, ka_nlt, ka_nle, ka_ne, ka_eq, Int.add_sub_cancel, true_or, or_true, false_or, or_false, false_and, and_false, if_true, if_false, ka_lo, ka_hi, ka_nn, km_sr_sf, km_sr_of, km_up_of, km_sr_us, km_sr_uo, km_sr_sr, km_sr_fl, km_sr_flo, km_up_up, km_up_lt, km_lay, km_unL, km_up_o, km_upx_i, km_upx_s, km_fl2_o, km_is, Option.some.injEq, Sum.inl.injEq, Sum.inr.injEq, Option.toList_some, Option.toList_none, List.cons_append, List.nil_append, ne_eq, true_and, and_true, and_self, not_true_eq_false, not_false_eq_true, true_implies, false_implies, reduceCtorEq]
    · have a1 : ha = 1 := by omega
      simp only [if_neg a0] at c9
      subst a1
      by_cases cm : v < hm
      · simp only [if_pos cm] at c9
        have cm2 : ¬ (hm ≤ v) := by omega
        simp (config := { decide := true }) (disch := first | decide | assumption | omega | (simp (config := { decide := true }) only [km_sr_sf, km_sr_of, km_up_of, km_up_o, km_upx_i, km_upx_s, km_fl2_o, ne_eq, not_true_eq_false, not_false_eq_true] <;> omega) | fail) only [↓c9, g_X12_heapGoes, kRo, kR51, kR56, kR59, kR60, kR61, kV51, kV56, kV59, kV60, kV61, kV148, Int.add_sub_cancel, hn, h, hk, bk, kl_lt, kl_le, kl_gt, kl_ge, cm, cm2, ka_lt, ka_le, ka_nlt, ka_nle, ka_ne, ka_eq, Int.add_sub_cancel, true_or, or_true, false_or, or_false, false_and, and_false, if_true, if_false, ka_lo, ka_hi, ka_nn, km_sr_sf, km_sr_of, km_up_of, km_sr_us, km_sr_uo, km_sr_sr, km_sr_fl, km_sr_flo, km_up_up, km_up_lt, km_lay, km_unL, km_up_o, km_upx_i, km_upx_s, km_fl2_o, km_is, Option.some.injEq, Sum.inl.injEq, Sum.inr.injEq, Option.toList_some, Option.toList_none, List.cons_append, List.nil_append, ne_eq, true_and, and_true, and_self, not_true_eq_false, not_false_eq_true, true_implies, false_implies, reduceCtorEq]
      · simp only [if_neg cm] at c9
        have cm2 : (hm ≤ v) := by omega
        simp (config := { decide := true }) (disch := first | decide | assumption | omega | (simp (config := { decide := true }) only [km_sr_sf, km_sr_of, km_up_of, km_up_o, km_upx_i, km_upx_s, km_fl2_o, ne_eq, not_true_eq_false, not_false_eq_true] <;> omega) | fail) only [↓c9, g_X12_heapGoes, kRo, kR51, kR56, kR59, kR60, kR61, kV51, kV56, kV59, kV60, kV61, kV148, Int.add_sub_cancel, hn, h, hk, bk, kl_lt, kl_le, kl_gt, kl_ge, cm, cm2, ka_lt, ka_le, ka_nlt, ka_nle, ka_ne, ka_eq, Int.add_sub_cancel, true_or, or_true, false_or, or_false, false_and, and_false, if_true, if_false, ka_lo, ka_hi, ka_nn, km_sr_sf, km_sr_of, km_up_of, km_sr_us, km_sr_uo, km_sr_sr, km_sr_fl, km_sr_flo, km_up_up, km_up_lt, km_lay, km_unL, km_up_o, km_upx_i, km_upx_s, km_fl2_o, km_is, Option.some.injEq, Sum.inl.injEq, Sum.inr.injEq, Option.toList_some, Option.toList_none, List.cons_append, List.nil_append, ne_eq, true_and, and_true, and_self, not_true_eq_false, not_false_eq_true, true_implies, false_implies, reduceCtorEq]
theorem g_htk5 {sc : Int × Int} (hk : Y 138 n = 5) (hn : 0 ≤ n ∧ n < 240) (h : 0 ≤ g ∧ g < 298) (ht : 0 ≤ t ∧ t < 298) (hr : khr (Y 138 n) sc hs hm ha) (ho : kho (Y 138 n) sc) (h1 : sc.2 ≤ 1000) (h12 : k12 (σ t)) : kTk1 q c s Y n g t kn hs hm ha ν ς σ sc := by
  have bk := fun Q => @d_back q c s Y (g + 1) (t + 1) 0 kn hs hm ha ν ς σ Q (by omega)
  rw [show t + 1 - 1 = t by omega] at bk
  obtain ⟨r1, r2, r3⟩ := hr
  obtain ⟨o0, o1, o2⟩ := ho
  unfold kTk1
  generalize σ t = v at *
  unfold k12 at o1 h12
  have e1 : hs = sc.1 := r1 (Or.inr hk)
  have o3 := o2 hk
  have tb := @ktr_b v
  have e : kac (Y 138 n) sc v = some (sc.1 + ktr v, sc.2 + 1) := by unfold kac; rw [if_neg (by omega), if_pos hk]
  have en : ¬ kac (Y 138 n) sc v = none := by rw [e]; exact fun w => by cases w
  have t0 := fun m Q => @d_truth q c s Q 0 (Or.inl rfl) m
  have t1 := fun m Q => @d_truth q c s Q 1 (Or.inr rfl) m
  refine ⟨hs + ktr v, (if ha = 0 then v else if v < hm then v else hm), fun s' hs' => ?_, fun Y' x hnx Q => ?_⟩
  · rw [e] at hs'
    cases hs'
    exact ⟨fun _ => by rw [e1], fun w => by omega, Or.inr rfl⟩
  · have c9 := fun o2 o4 o5 o6 => @g_193 q c s Y Y' g t (if kac (Y 138 n) sc v = none then 1 else 0) kn (hs + ktr v) (if ha = 0 then v else if v < hm then v else hm) 1 n (Y 138 n) x ν ς σ Q o2 o4 o5 o6 hn h ht hnx
    simp only [if_neg en] at c9 ⊢
    unfold ktr at c9 tb ⊢
    by_cases vz : v = 0
    · simp only [if_pos vz] at c9 tb ⊢
      subst vz
      rw [hk] at c9 ⊢
      rw [e_X12_heapGoes]
      by_cases a0 : ha = 0
      · simp only [if_pos a0] at c9
        subst a0
        simp (config := { decide := true }) (disch := first | decide | assumption | omega | (simp (config := { decide := true }) only [km_sr_sf, km_sr_of, km_up_of, km_up_o, km_upx_i, km_upx_s, km_fl2_o, ne_eq, not_true_eq_false, not_false_eq_true] <;> omega) | fail) only [↓c9, g_X12_heapGoes, kRo, kR51, kR56, kR59, kR60, kR61, kV51, kV56, kV59, kV60, kV61, kV148, Int.add_sub_cancel, hn, h, hk, bk, kl_0, t0, t1, ka_lt, ka_le, ka_nlt, ka_nle, ka_ne, ka_eq, Int.add_sub_cancel, true_or, or_true, false_or, or_false, false_and, and_false, if_true, if_false, ka_lo, ka_hi, ka_nn, km_sr_sf, km_sr_of, km_up_of, km_sr_us, km_sr_uo, km_sr_sr, km_sr_fl, km_sr_flo, km_up_up, km_up_lt, km_lay, km_unL, km_up_o, km_upx_i, km_upx_s, km_fl2_o, km_is, Option.some.injEq, Sum.inl.injEq, Sum.inr.injEq, Option.toList_some, Option.toList_none, List.cons_append, List.nil_append, ne_eq, true_and, and_true, and_self, not_true_eq_false, not_false_eq_true, true_implies, false_implies, reduceCtorEq]
      · have a1 : ha = 1 := by omega
        simp only [if_neg a0] at c9
        subst a1
        by_cases cm : 0 < hm
        · simp only [if_pos cm] at c9
          have cm2 : ¬ (hm ≤ 0) := by omega
          simp (config := { decide := true }) (disch := first | decide | assumption | omega | (simp (config := { decide := true }) only [km_sr_sf, km_sr_of, km_up_of, km_up_o, km_upx_i, km_upx_s, km_fl2_o, ne_eq, not_true_eq_false, not_false_eq_true] <;> omega) | fail) only [↓c9, g_X12_heapGoes, kRo, kR51, kR56, kR59, kR60, kR61, kV51, kV56, kV59, kV60, kV61, kV148, Int.add_sub_cancel, hn, h, hk, bk, kl_0, t0, t1, kl_lt, kl_le, kl_gt, kl_ge, cm, cm2, ka_lt, ka_le, ka_nlt, ka_nle, ka_ne, ka_eq, Int.add_sub_cancel, true_or, or_true, false_or, or_false, false_and, and_false, if_true, if_false, ka_lo, ka_hi, ka_nn, km_sr_sf, km_sr_of, km_up_of, km_sr_us, km_sr_uo, km_sr_sr, km_sr_fl, km_sr_flo, km_up_up, km_up_lt, km_lay, km_unL, km_up_o, km_upx_i, km_upx_s, km_fl2_o, km_is, Option.some.injEq, Sum.inl.injEq, Sum.inr.injEq, Option.toList_some, Option.toList_none, List.cons_append, List.nil_append, ne_eq, true_and, and_true, and_self, not_true_eq_false, not_false_eq_true, true_implies, false_implies, reduceCtorEq]
        · simp only [if_neg cm] at c9
          have cm2 : (hm ≤ 0) := by omega
          simp (config := { decide := true }) (disch := first | decide | assumption | omega | (simp (config := { decide := true }) only [km_sr_sf, km_sr_of, km_up_of, km_up_o, km_upx_i, km_upx_s, km_fl2_o, ne_eq, not_true_eq_false, not_false_eq_true] <;> omega) | fail) only [↓c9, g_X12_heapGoes, kRo, kR51, kR56, kR59, kR60, kR61, kV51, kV56, kV59, kV60, kV61, kV148, Int.add_sub_cancel, hn, h, hk, bk, kl_0, t0, t1, kl_lt, kl_le, kl_gt, kl_ge, cm, cm2, ka_lt, ka_le, ka_nlt, ka_nle, ka_ne, ka_eq, Int.add_sub_cancel, true_or, or_true, false_or, or_false, false_and, and_false, if_true, if_false, ka_lo, ka_hi, ka_nn, km_sr_sf, km_sr_of, km_up_of, km_sr_us, km_sr_uo, km_sr_sr, km_sr_fl, km_sr_flo, km_up_up, km_up_lt, km_lay, km_unL, km_up_o, km_upx_i, km_upx_s, km_fl2_o, km_is, Option.some.injEq, Sum.inl.injEq, Sum.inr.injEq, Option.toList_some, Option.toList_none, List.cons_append, List.nil_append, ne_eq, true_and, and_true, and_self, not_true_eq_false, not_false_eq_true, true_implies, false_implies, reduceCtorEq]
    · simp only [if_neg vz] at c9 tb ⊢
      rw [hk] at c9 ⊢
      rw [e_X12_heapGoes]
      by_cases a0 : ha = 0
      · simp only [if_pos a0] at c9
        subst a0
        simp (config := { decide := true }) (disch := first | decide | assumption | omega | (simp (config := { decide := true }) only [km_sr_sf, km_sr_of, km_up_of, km_up_o, km_upx_i, km_upx_s, km_fl2_o, ne_eq, not_true_eq_false, not_false_eq_true] <;> omega) | fail) only [↓c9, g_X12_heapGoes, kRo, kR51, kR56, kR59, kR60, kR61, kV51, kV56, kV59, kV60, kV61, kV148, Int.add_sub_cancel, hn, h, hk, bk, vz, kl_0, t0, t1, ka_lt, ka_le, ka_nlt, ka_nle, ka_ne, ka_eq, Int.add_sub_cancel, true_or, or_true, false_or, or_false, false_and, and_false, if_true, if_false, ka_lo, ka_hi, ka_nn, km_sr_sf, km_sr_of, km_up_of, km_sr_us, km_sr_uo, km_sr_sr, km_sr_fl, km_sr_flo, km_up_up, km_up_lt, km_lay, km_unL, km_up_o, km_upx_i, km_upx_s, km_fl2_o, km_is, Option.some.injEq, Sum.inl.injEq, Sum.inr.injEq, Option.toList_some, Option.toList_none, List.cons_append, List.nil_append, ne_eq, true_and, and_true, and_self, not_true_eq_false, not_false_eq_true, true_implies, false_implies, reduceCtorEq]
      · have a1 : ha = 1 := by omega
        simp only [if_neg a0] at c9
        subst a1
        by_cases cm : v < hm
        · simp only [if_pos cm] at c9
          have cm2 : ¬ (hm ≤ v) := by omega
          simp (config := { decide := true }) (disch := first | decide | assumption | omega | (simp (config := { decide := true }) only [km_sr_sf, km_sr_of, km_up_of, km_up_o, km_upx_i, km_upx_s, km_fl2_o, ne_eq, not_true_eq_false, not_false_eq_true] <;> omega) | fail) only [↓c9, g_X12_heapGoes, kRo, kR51, kR56, kR59, kR60, kR61, kV51, kV56, kV59, kV60, kV61, kV148, Int.add_sub_cancel, hn, h, hk, bk, vz, kl_0, t0, t1, kl_lt, kl_le, kl_gt, kl_ge, cm, cm2, ka_lt, ka_le, ka_nlt, ka_nle, ka_ne, ka_eq, Int.add_sub_cancel, true_or, or_true, false_or, or_false, false_and, and_false, if_true, if_false, ka_lo, ka_hi, ka_nn, km_sr_sf, km_sr_of, km_up_of, km_sr_us, km_sr_uo, km_sr_sr, km_sr_fl, km_sr_flo, km_up_up, km_up_lt, km_lay, km_unL, km_up_o, km_upx_i, km_upx_s, km_fl2_o, km_is, Option.some.injEq, Sum.inl.injEq, Sum.inr.injEq, Option.toList_some, Option.toList_none, List.cons_append, List.nil_append, ne_eq, true_and, and_true, and_self, not_true_eq_false, not_false_eq_true, true_implies, false_implies, reduceCtorEq]
        · simp only [if_neg cm] at c9
          have cm2 : (hm ≤ v) := by omega
          simp (config := { decide := true }) (disch := first | decide | assumption | omega | (simp (config := { decide := true }) only [km_sr_sf, km_sr_of, km_up_of, km_up_o, km_upx_i, km_upx_s, km_fl2_o, ne_eq, not_true_eq_false, not_false_eq_true] <;> omega) | fail) only [↓c9, g_X12_heapGoes, kRo, kR51, kR56, kR59, kR60, kR61, kV51, kV56, kV59, kV60, kV61, kV148, Int.add_sub_cancel, hn, h, hk, bk, vz, kl_0, t0, t1, kl_lt, kl_le, kl_gt, kl_ge, cm, cm2, ka_lt, ka_le, ka_nlt, ka_nle, ka_ne, ka_eq, Int.add_sub_cancel, true_or, or_true, false_or, or_false, false_and, and_false, if_true, if_false, ka_lo, ka_hi, ka_nn, km_sr_sf, km_sr_of, km_up_of, km_sr_us, km_sr_uo, km_sr_sr, km_sr_fl, km_sr_flo, km_up_up, km_up_lt, km_lay, km_unL, km_up_o, km_upx_i, km_upx_s, km_fl2_o, km_is, Option.some.injEq, Sum.inl.injEq, Sum.inr.injEq, Option.toList_some, Option.toList_none, List.cons_append, List.nil_append, ne_eq, true_and, and_true, and_self, not_true_eq_false, not_false_eq_true, true_implies, false_implies, reduceCtorEq]
theorem g_htk {sc : Int × Int} (hk : 2 ≤ Y 138 n ∧ Y 138 n ≤ 5) (hn : 0 ≤ n ∧ n < 240) (h : 0 ≤ g ∧ g < 298) (ht : 0 ≤ t ∧ t < 298) (hr : khr (Y 138 n) sc hs hm ha) (ho : kho (Y 138 n) sc) (h1 : sc.2 ≤ 1000) (h12 : k12 (σ t)) : kTk1 q c s Y n g t kn hs hm ha ν ς σ sc := by
  have kk : Y 138 n = 2 ∨ Y 138 n = 3 ∨ Y 138 n = 4 ∨ Y 138 n = 5 := by omega
  rcases kk with k | k | k | k
  · exact g_htk2 k hn h ht hr ho h1 h12
  · exact g_htk3 k hn h ht hr ho h1 h12
  · exact g_htk4 k hn h ht hr ho h1 h12
  · exact g_htk5 k hn h ht hr ho h1 h12
end KS

