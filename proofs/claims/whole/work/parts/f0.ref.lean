/-! ===== the reference's evaluation: its cells while it works, its small steps ===== -/
/-- its cells at work: how many wait, how many values, an ERROR, the kin at hand, the HEAP's sum, its greatest or least, whether it has any; the knots that wait, their stages; the values -/
def kmR (Y : km_Mm) (g t er kn hs hm ha : Int) (ν ς σ : Int → Int) : km_Mm := fun b j => if b = 123 then (if j = 51 then g else if j = 53 then t else if j = 54 then er else if j = 56 then kn else if j = 59 then hs else if j = 60 then hm else if j = 61 then ha else Y 123 j) else if b = 147 then ν j else if b = 148 then ς j else if b = 149 then σ j else Y b j
section KR
variable {Y : km_Mm} {g t er kn hs hm ha v b j : Int} {ν ς σ : Int → Int}
theorem kR51 : kmR Y g t er kn hs hm ha ν ς σ 123 51 = g := rfl
theorem kR53 : kmR Y g t er kn hs hm ha ν ς σ 123 53 = t := rfl
theorem kR54 : kmR Y g t er kn hs hm ha ν ς σ 123 54 = er := rfl
theorem kR56 : kmR Y g t er kn hs hm ha ν ς σ 123 56 = kn := rfl
theorem kR59 : kmR Y g t er kn hs hm ha ν ς σ 123 59 = hs := rfl
theorem kR60 : kmR Y g t er kn hs hm ha ν ς σ 123 60 = hm := rfl
theorem kR61 : kmR Y g t er kn hs hm ha ν ς σ 123 61 = ha := rfl
theorem kR3 : kmR Y g t er kn hs hm ha ν ς σ 123 3 = Y 123 3 := rfl
theorem kR11 : kmR Y g t er kn hs hm ha ν ς σ 123 11 = Y 123 11 := rfl
theorem kR30 : kmR Y g t er kn hs hm ha ν ς σ 123 30 = Y 123 30 := rfl
theorem kR55 : kmR Y g t er kn hs hm ha ν ς σ 123 55 = Y 123 55 := rfl
theorem kR57 : kmR Y g t er kn hs hm ha ν ς σ 123 57 = Y 123 57 := rfl
theorem kR58 : kmR Y g t er kn hs hm ha ν ς σ 123 58 = Y 123 58 := rfl
theorem kR147 : kmR Y g t er kn hs hm ha ν ς σ 147 j = ν j := rfl
theorem kR148 : kmR Y g t er kn hs hm ha ν ς σ 148 j = ς j := rfl
theorem kR149 : kmR Y g t er kn hs hm ha ν ς σ 149 j = σ j := rfl
theorem kRo (h : b ≠ 123) (h1 : b ≠ 147) (h2 : b ≠ 148) (h3 : b ≠ 149) : kmR Y g t er kn hs hm ha ν ς σ b = Y b := funext fun j => by unfold kmR; rw [if_neg h, if_neg h1, if_neg h2, if_neg h3]
theorem kRU (k : Int) (z : km_Mm) (h : ∀ b j, ¬ (b = 123 ∧ j = k) → kmR Y g t er kn hs hm ha ν ς σ b j = z b j) (hs0 : z 123 k = v) : km_up (kmR Y g t er kn hs hm ha ν ς σ) 123 k v = z := by
  funext b j
  by_cases y : b = 123 ∧ j = k
  · rw [y.1, y.2, km_upx_s, hs0]
  · rw [km_up_ne y]; exact h b j y
theorem kV51 : km_up (kmR Y g t er kn hs hm ha ν ς σ) 123 51 v = kmR Y v t er kn hs hm ha ν ς σ := kRU 51 _ (fun b j z => by unfold kmR; grind) rfl
theorem kV53 : km_up (kmR Y g t er kn hs hm ha ν ς σ) 123 53 v = kmR Y g v er kn hs hm ha ν ς σ := kRU 53 _ (fun b j z => by unfold kmR; grind) rfl
theorem kV54 : km_up (kmR Y g t er kn hs hm ha ν ς σ) 123 54 v = kmR Y g t v kn hs hm ha ν ς σ := kRU 54 _ (fun b j z => by unfold kmR; grind) rfl
theorem kV56 : km_up (kmR Y g t er kn hs hm ha ν ς σ) 123 56 v = kmR Y g t er v hs hm ha ν ς σ := kRU 56 _ (fun b j z => by unfold kmR; grind) rfl
theorem kV59 : km_up (kmR Y g t er kn hs hm ha ν ς σ) 123 59 v = kmR Y g t er kn v hm ha ν ς σ := kRU 59 _ (fun b j z => by unfold kmR; grind) rfl
theorem kV60 : km_up (kmR Y g t er kn hs hm ha ν ς σ) 123 60 v = kmR Y g t er kn hs v ha ν ς σ := kRU 60 _ (fun b j z => by unfold kmR; grind) rfl
theorem kV61 : km_up (kmR Y g t er kn hs hm ha ν ς σ) 123 61 v = kmR Y g t er kn hs hm v ν ς σ := kRU 61 _ (fun b j z => by unfold kmR; grind) rfl
theorem kV147 : km_up (kmR Y g t er kn hs hm ha ν ς σ) 147 j v = kmR Y g t er kn hs hm ha (km_u1 ν j v) ς σ := by
  funext b i
  by_cases z : b = 147 ∧ i = j
  · rw [z.1, z.2, km_upx_s, kR147, km_u1_s]
  · rw [km_up_ne z]
    unfold kmR km_u1
    grind
theorem kV148 : km_up (kmR Y g t er kn hs hm ha ν ς σ) 148 j v = kmR Y g t er kn hs hm ha ν (km_u1 ς j v) σ := by
  funext b i
  by_cases z : b = 148 ∧ i = j
  · rw [z.1, z.2, km_upx_s, kR148, km_u1_s]
  · rw [km_up_ne z]
    unfold kmR km_u1
    grind
theorem kV149 : km_up (kmR Y g t er kn hs hm ha ν ς σ) 149 j v = kmR Y g t er kn hs hm ha ν ς (km_u1 σ j v) := by
  funext b i
  by_cases z : b = 149 ∧ i = j
  · rw [z.1, z.2, km_upx_s, kR149, km_u1_s]
  · rw [km_up_ne z]
    unfold kmR km_u1
    grind
theorem kR_id : kmR Y (Y 123 51) (Y 123 53) (Y 123 54) (Y 123 56) (Y 123 59) (Y 123 60) (Y 123 61) (Y 147) (Y 148) (Y 149) = Y := by
  funext b j
  unfold kmR
  grind
/-- a row of scratch behind it -/
theorem kR_sr {f : Int → Int} : km_sr (kmR Y g t er kn hs hm ha ν ς σ) 130 f = kmR (km_sr Y 130 f) g t er kn hs hm ha ν ς σ := by
  funext b j
  unfold kmR km_sr
  grind
end KR
section KS
variable {q : Nat × Int × Int × Int × Int} {c s : Nat} {Y Y' : km_Mm} {g t er kn hs hm ha v w n k : Int} {ν ς σ : Int → Int} {Q : Option km_V → km_Al → km_Mm → Prop}
theorem d_go (h : 0 ≤ g ∧ g < 300) : km_E M_X12_go [.inr (.inr 123), .inl n] (km_A0 q c s) (kmR Y g t er kn hs hm ha ν ς σ) Q ↔ Q none (km_A0 q c s) (kmR Y (g + 1) t er kn hs hm ha (km_u1 ν g n) (km_u1 ς g 0) σ) := by
  rw [e_X12_go]
  simp (config := { decide := true }) (disch := first | decide | assumption | omega | (simp (config := { decide := true }) only [km_sr_sf, km_sr_of, km_up_of, km_up_o, km_upx_i, km_upx_s, km_fl2_o, ne_eq, not_true_eq_false, not_false_eq_true] <;> omega) | fail) only [g_X12_go, kR51, kV51, kV147, kV148, h, ka_lt, ka_le, ka_nlt, ka_nle, ka_ne, ka_eq, Int.add_sub_cancel, true_or, or_true, false_or, or_false, false_and, and_false, if_true, if_false, ka_lo, ka_hi, ka_nn, km_sr_sf, km_sr_of, km_up_of, km_sr_us, km_sr_uo, km_sr_sr, km_sr_fl, km_sr_flo, km_up_up, km_up_lt, km_lay, km_unL, km_up_o, km_upx_i, km_upx_s, km_fl2_o, km_is, Option.some.injEq, Sum.inl.injEq, Sum.inr.injEq, Option.toList_some, Option.toList_none, List.cons_append, List.nil_append, ne_eq, true_and, and_true, and_self, not_true_eq_false, not_false_eq_true, true_implies, false_implies, reduceCtorEq]
theorem d_give (h : 0 ≤ t ∧ t < 300) : km_E M_X12_give [.inr (.inr 123), .inr (.inl v)] (km_A0 q c s) (kmR Y g t er kn hs hm ha ν ς σ) Q ↔ Q none (km_A0 q c s) (kmR Y g (t + 1) er kn hs hm ha ν ς (km_u1 σ t v)) := by
  rw [e_X12_give]
  simp (config := { decide := true }) (disch := first | decide | assumption | omega | (simp (config := { decide := true }) only [km_sr_sf, km_sr_of, km_up_of, km_up_o, km_upx_i, km_upx_s, km_fl2_o, ne_eq, not_true_eq_false, not_false_eq_true] <;> omega) | fail) only [g_X12_give, kR53, kV53, kV149, h, ka_lt, ka_le, ka_nlt, ka_nle, ka_ne, ka_eq, Int.add_sub_cancel, true_or, or_true, false_or, or_false, false_and, and_false, if_true, if_false, ka_lo, ka_hi, ka_nn, km_sr_sf, km_sr_of, km_up_of, km_sr_us, km_sr_uo, km_sr_sr, km_sr_fl, km_sr_flo, km_up_up, km_up_lt, km_lay, km_unL, km_up_o, km_upx_i, km_upx_s, km_fl2_o, km_is, Option.some.injEq, Sum.inl.injEq, Sum.inr.injEq, Option.toList_some, Option.toList_none, List.cons_append, List.nil_append, ne_eq, true_and, and_true, and_self, not_true_eq_false, not_false_eq_true, true_implies, false_implies, reduceCtorEq]
theorem d_back (h : 1 ≤ t ∧ t ≤ 300) : km_E M_X12_takeBack [.inr (.inr 123)] (km_A0 q c s) (kmR Y g t er kn hs hm ha ν ς σ) Q ↔ Q (some (.inr (.inl (σ (t - 1))))) (km_A0 q c s) (kmR Y g (t - 1) er kn hs hm ha ν ς σ) := by
  rw [e_X12_takeBack]
  simp (config := { decide := true }) (disch := first | decide | assumption | omega | (simp (config := { decide := true }) only [km_sr_sf, km_sr_of, km_up_of, km_up_o, km_upx_i, km_upx_s, km_fl2_o, ne_eq, not_true_eq_false, not_false_eq_true] <;> omega) | fail) only [g_X12_takeBack, kR53, kV53, kR149, h, ka_lt, ka_le, ka_nlt, ka_nle, ka_ne, ka_eq, Int.add_sub_cancel, true_or, or_true, false_or, or_false, false_and, and_false, if_true, if_false, ka_lo, ka_hi, ka_nn, km_sr_sf, km_sr_of, km_up_of, km_sr_us, km_sr_uo, km_sr_sr, km_sr_fl, km_sr_flo, km_up_up, km_up_lt, km_lay, km_unL, km_up_o, km_upx_i, km_upx_s, km_fl2_o, km_is, Option.some.injEq, Sum.inl.injEq, Sum.inr.injEq, Option.toList_some, Option.toList_none, List.cons_append, List.nil_append, ne_eq, true_and, and_true, and_self, not_true_eq_false, not_false_eq_true, true_implies, false_implies, reduceCtorEq]
theorem d_truth {x : Int} (h : x = 0 ∨ x = 1) {m : km_Mm} : km_E M_X12_truth [.inl x] (km_A0 q c s) m Q ↔ Q (some (.inr (.inl x))) (km_A0 q c s) m := by
  rw [es_X12_truth]
  rcases h with rfl | rfl <;> simp (config := { decide := true }) (disch := first | decide | assumption | omega | (simp (config := { decide := true }) only [km_sr_sf, km_sr_of, km_up_of, km_up_o, km_upx_i, km_upx_s, km_fl2_o, ne_eq, not_true_eq_false, not_false_eq_true] <;> omega) | fail) only [g_X12_truth, ka_lt, ka_le, ka_nlt, ka_nle, ka_ne, ka_eq, Int.add_sub_cancel, true_or, or_true, false_or, or_false, false_and, and_false, if_true, if_false, ka_lo, ka_hi, ka_nn, km_sr_sf, km_sr_of, km_up_of, km_sr_us, km_sr_uo, km_sr_sr, km_sr_fl, km_sr_flo, km_up_up, km_up_lt, km_lay, km_unL, km_up_o, km_upx_i, km_upx_s, km_fl2_o, km_is, Option.some.injEq, Sum.inl.injEq, Sum.inr.injEq, Option.toList_some, Option.toList_none, List.cons_append, List.nil_append, ne_eq, true_and, and_true, and_self, not_true_eq_false, not_false_eq_true, true_implies, false_implies, reduceCtorEq]
theorem d_big {m : km_Mm} (h : -9223372036854775807 ≤ v) : km_E M_X12_big [.inr (.inl v)] (km_A0 q c s) m Q ↔ Q (some (.inr (.inl (kab v)))) (km_A0 q c s) m := by
  rw [es_X12_big]
  unfold kab
  by_cases z : v < 0
  · rw [if_neg (by omega)]
    have z2 : ¬ 0 ≤ v := by omega
    simp (config := { decide := true }) (disch := first | decide | assumption | omega | (simp (config := { decide := true }) only [km_sr_sf, km_sr_of, km_up_of, km_up_o, km_upx_i, km_upx_s, km_fl2_o, ne_eq, not_true_eq_false, not_false_eq_true] <;> omega) | fail) only [g_X12_big, kl_lt, kl_ge, z, z2, ka_lt, ka_le, ka_nlt, ka_nle, ka_ne, ka_eq, Int.add_sub_cancel, true_or, or_true, false_or, or_false, false_and, and_false, if_true, if_false, ka_lo, ka_hi, ka_nn, km_sr_sf, km_sr_of, km_up_of, km_sr_us, km_sr_uo, km_sr_sr, km_sr_fl, km_sr_flo, km_up_up, km_up_lt, km_lay, km_unL, km_up_o, km_upx_i, km_upx_s, km_fl2_o, km_is, Option.some.injEq, Sum.inl.injEq, Sum.inr.injEq, Option.toList_some, Option.toList_none, List.cons_append, List.nil_append, ne_eq, true_and, and_true, and_self, not_true_eq_false, not_false_eq_true, true_implies, false_implies, reduceCtorEq]
  · have z2 : 0 ≤ v := by omega
    by_cases y : 0 < v
    · rw [if_pos y]; simp (config := { decide := true }) (disch := first | decide | assumption | omega | (simp (config := { decide := true }) only [km_sr_sf, km_sr_of, km_up_of, km_up_o, km_upx_i, km_upx_s, km_fl2_o, ne_eq, not_true_eq_false, not_false_eq_true] <;> omega) | fail) only [g_X12_big, kl_lt, kl_ge, z, z2, ka_lt, ka_le, ka_nlt, ka_nle, ka_ne, ka_eq, Int.add_sub_cancel, true_or, or_true, false_or, or_false, false_and, and_false, if_true, if_false, ka_lo, ka_hi, ka_nn, km_sr_sf, km_sr_of, km_up_of, km_sr_us, km_sr_uo, km_sr_sr, km_sr_fl, km_sr_flo, km_up_up, km_up_lt, km_lay, km_unL, km_up_o, km_upx_i, km_upx_s, km_fl2_o, km_is, Option.some.injEq, Sum.inl.injEq, Sum.inr.injEq, Option.toList_some, Option.toList_none, List.cons_append, List.nil_append, ne_eq, true_and, and_true, and_self, not_true_eq_false, not_false_eq_true, true_implies, false_implies, reduceCtorEq]
    · have y0 : v = 0 := by omega
      subst y0
      rw [if_neg (by decide)]; simp (config := { decide := true }) (disch := first | decide | assumption | omega | (simp (config := { decide := true }) only [km_sr_sf, km_sr_of, km_up_of, km_up_o, km_upx_i, km_upx_s, km_fl2_o, ne_eq, not_true_eq_false, not_false_eq_true] <;> omega) | fail) only [g_X12_big, kl_lt, kl_ge, Int.neg_zero, ka_lt, ka_le, ka_nlt, ka_nle, ka_ne, ka_eq, Int.add_sub_cancel, true_or, or_true, false_or, or_false, false_and, and_false, if_true, if_false, ka_lo, ka_hi, ka_nn, km_sr_sf, km_sr_of, km_up_of, km_sr_us, km_sr_uo, km_sr_sr, km_sr_fl, km_sr_flo, km_up_up, km_up_lt, km_lay, km_unL, km_up_o, km_upx_i, km_upx_s, km_fl2_o, km_is, Option.some.injEq, Sum.inl.injEq, Sum.inr.injEq, Option.toList_some, Option.toList_none, List.cons_append, List.nil_append, ne_eq, true_and, and_true, and_self, not_true_eq_false, not_false_eq_true, true_implies, false_implies, reduceCtorEq]
theorem d_bounded (hv : -3000000000000 ≤ v ∧ v ≤ 3000000000000) : km_E M_X12_bounded [.inr (.inr 123), .inr (.inl v)] (km_A0 q c s) (kmR Y g t 0 kn hs hm ha ν ς σ) Q ↔ (if kbd v = none then Q (some (.inr (.inl 0))) (km_A0 q c s) (kmR Y g t 1 kn hs hm ha ν ς σ) else Q (some (.inr (.inl v))) (km_A0 q c s) (kmR Y g t 0 kn hs hm ha ν ς σ)) := by
  have bg := fun m Q => @d_big q c s v Q m (by omega)
  have ev : kab v ≤ 1000000000000 ↔ ¬ kbd v = none := by
    unfold kab kbd
    constructor
    · intro h; rw [if_neg (by split at h <;> omega)]; exact fun w => by cases w
    · intro h
      by_cases z : 1000000000000 < v ∨ v < -1000000000000
      · rw [if_pos z] at h; exact absurd rfl h
      · split <;> omega
  rw [e_X12_bounded]
  by_cases z : kbd v = none
  · rw [if_pos z]
    have y : ¬ kab v ≤ 1000000000000 := fun w => ev.mp w z
    have y2 : 1000000000000 < kab v := by omega
    simp (config := { decide := true }) (disch := first | decide | assumption | omega | (simp (config := { decide := true }) only [km_sr_sf, km_sr_of, km_up_of, km_up_o, km_upx_i, km_upx_s, km_fl2_o, ne_eq, not_true_eq_false, not_false_eq_true] <;> omega) | fail) only [g_X12_bounded, kR54, kV54, bg, kl_le, kl_gt, y, y2, ka_lt, ka_le, ka_nlt, ka_nle, ka_ne, ka_eq, Int.add_sub_cancel, true_or, or_true, false_or, or_false, false_and, and_false, if_true, if_false, ka_lo, ka_hi, ka_nn, km_sr_sf, km_sr_of, km_up_of, km_sr_us, km_sr_uo, km_sr_sr, km_sr_fl, km_sr_flo, km_up_up, km_up_lt, km_lay, km_unL, km_up_o, km_upx_i, km_upx_s, km_fl2_o, km_is, Option.some.injEq, Sum.inl.injEq, Sum.inr.injEq, Option.toList_some, Option.toList_none, List.cons_append, List.nil_append, ne_eq, true_and, and_true, and_self, not_true_eq_false, not_false_eq_true, true_implies, false_implies, reduceCtorEq]
  · rw [if_neg z]
    have y := ev.mpr z
    have y2 : ¬ 1000000000000 < kab v := by omega
    simp (config := { decide := true }) (disch := first | decide | assumption | omega | (simp (config := { decide := true }) only [km_sr_sf, km_sr_of, km_up_of, km_up_o, km_upx_i, km_upx_s, km_fl2_o, ne_eq, not_true_eq_false, not_false_eq_true] <;> omega) | fail) only [g_X12_bounded, kR54, kV54, bg, kl_le, kl_gt, y, y2, ka_lt, ka_le, ka_nlt, ka_nle, ka_ne, ka_eq, Int.add_sub_cancel, true_or, or_true, false_or, or_false, false_and, and_false, if_true, if_false, ka_lo, ka_hi, ka_nn, km_sr_sf, km_sr_of, km_up_of, km_sr_us, km_sr_uo, km_sr_sr, km_sr_fl, km_sr_flo, km_up_up, km_up_lt, km_lay, km_unL, km_up_o, km_upx_i, km_upx_s, km_fl2_o, km_is, Option.some.injEq, Sum.inl.injEq, Sum.inr.injEq, Option.toList_some, Option.toList_none, List.cons_append, List.nil_append, ne_eq, true_and, and_true, and_self, not_true_eq_false, not_false_eq_true, true_implies, false_implies, reduceCtorEq]
theorem d_made (hk : 10 ≤ k ∧ k ≤ 20) (ha1 : k12 v) (hb1 : k12 w) : ∃ u : Int, (∀ x : Int, kmd k v w = some x → u = x) ∧ ∀ Q : Option km_V → km_Al → km_Mm → Prop, km_E M_X12_made [.inr (.inr 123), .inl k, .inr (.inl v), .inr (.inl w)] (km_A0 q c s) (kmR Y g t 0 kn hs hm ha ν ς σ) Q ↔ Q (some (.inr (.inl u))) (km_A0 q c s) (kmR Y g t (if kmd k v w = none then 1 else 0) kn hs hm ha ν ς σ) := by
  have hv := ha1
  have hw := hb1
  unfold k12 at hv hw
  have tr : ∀ (x : Int) (h : x = 0 ∨ x = 1) (Q : Option km_V → km_Al → km_Mm → Prop), km_E M_X12_truth [.inl x] (km_A0 q c s) (kmR Y g t 0 kn hs hm ha ν ς σ) Q ↔ Q (some (.inr (.inl x))) (km_A0 q c s) (kmR Y g t 0 kn hs hm ha ν ς σ) := fun x h Q => d_truth h
  have t0 := tr 0 (Or.inl rfl)
  have t1 := tr 1 (Or.inr rfl)
  have fin : ∀ u : Int, kmd k v w = some u → (∀ Q : Option km_V → km_Al → km_Mm → Prop, km_E M_X12_made [.inr (.inr 123), .inl k, .inr (.inl v), .inr (.inl w)] (km_A0 q c s) (kmR Y g t 0 kn hs hm ha ν ς σ) Q ↔ Q (some (.inr (.inl u))) (km_A0 q c s) (kmR Y g t 0 kn hs hm ha ν ς σ)) → ∃ u : Int, (∀ x : Int, kmd k v w = some x → u = x) ∧ ∀ Q : Option km_V → km_Al → km_Mm → Prop, km_E M_X12_made [.inr (.inr 123), .inl k, .inr (.inl v), .inr (.inl w)] (km_A0 q c s) (kmR Y g t 0 kn hs hm ha ν ς σ) Q ↔ Q (some (.inr (.inl u))) (km_A0 q c s) (kmR Y g t (if kmd k v w = none then 1 else 0) kn hs hm ha ν ς σ) := fun u e z => ⟨u, fun x h => by rw [e] at h; cases h; rfl, fun Q => by rw [if_neg (by rw [e]; exact fun w => by cases w)]; exact z Q⟩
  have fno : kmd k v w = none → (∀ Q : Option km_V → km_Al → km_Mm → Prop, km_E M_X12_made [.inr (.inr 123), .inl k, .inr (.inl v), .inr (.inl w)] (km_A0 q c s) (kmR Y g t 0 kn hs hm ha ν ς σ) Q ↔ Q (some (.inr (.inl 0))) (km_A0 q c s) (kmR Y g t 1 kn hs hm ha ν ς σ)) → ∃ u : Int, (∀ x : Int, kmd k v w = some x → u = x) ∧ ∀ Q : Option km_V → km_Al → km_Mm → Prop, km_E M_X12_made [.inr (.inr 123), .inl k, .inr (.inl v), .inr (.inl w)] (km_A0 q c s) (kmR Y g t 0 kn hs hm ha ν ς σ) Q ↔ Q (some (.inr (.inl u))) (km_A0 q c s) (kmR Y g t (if kmd k v w = none then 1 else 0) kn hs hm ha ν ς σ) := fun e z => ⟨0, fun x h => (by rw [e] at h; cases h), fun Q => by rw [if_pos e]; exact z Q⟩
  have kk : k = 10 ∨ k = 11 ∨ k = 12 ∨ k = 13 ∨ k = 14 ∨ k = 15 ∨ k = 16 ∨ k = 17 ∨ k = 18 ∨ k = 19 ∨ k = 20 := by omega
  rcases kk with rfl | rfl | rfl | rfl | rfl | rfl | rfl | rfl | rfl | rfl | rfl
  · by_cases z : v < w
    · have e : kmd 10 v w = some (if v < w then 1 else 0) := rfl
      rw [if_pos z] at e
      refine fin 1 e (fun Q => ?_)
      rw [e_X12_made]
      have z1 := z
      simp (config := { decide := true }) (disch := first | decide | assumption | omega | (simp (config := { decide := true }) only [km_sr_sf, km_sr_of, km_up_of, km_up_o, km_upx_i, km_upx_s, km_fl2_o, ne_eq, not_true_eq_false, not_false_eq_true] <;> omega) | fail) only [g_X12_made, kl_0, kl_lt, kl_le, kl_gt, kl_ge, z, t0, t1, ka_lt, ka_le, ka_nlt, ka_nle, ka_ne, ka_eq, Int.add_sub_cancel, true_or, or_true, false_or, or_false, false_and, and_false, if_true, if_false, ka_lo, ka_hi, ka_nn, km_sr_sf, km_sr_of, km_up_of, km_sr_us, km_sr_uo, km_sr_sr, km_sr_fl, km_sr_flo, km_up_up, km_up_lt, km_lay, km_unL, km_up_o, km_upx_i, km_upx_s, km_fl2_o, km_is, Option.some.injEq, Sum.inl.injEq, Sum.inr.injEq, Option.toList_some, Option.toList_none, List.cons_append, List.nil_append, ne_eq, true_and, and_true, and_self, not_true_eq_false, not_false_eq_true, true_implies, false_implies, reduceCtorEq]
    · have e : kmd 10 v w = some (if v < w then 1 else 0) := rfl
      rw [if_neg z] at e
      refine fin 0 e (fun Q => ?_)
      rw [e_X12_made]
      simp (config := { decide := true }) (disch := first | decide | assumption | omega | (simp (config := { decide := true }) only [km_sr_sf, km_sr_of, km_up_of, km_up_o, km_upx_i, km_upx_s, km_fl2_o, ne_eq, not_true_eq_false, not_false_eq_true] <;> omega) | fail) only [g_X12_made, kl_0, kl_lt, kl_le, kl_gt, kl_ge, z, t0, t1, ka_lt, ka_le, ka_nlt, ka_nle, ka_ne, ka_eq, Int.add_sub_cancel, true_or, or_true, false_or, or_false, false_and, and_false, if_true, if_false, ka_lo, ka_hi, ka_nn, km_sr_sf, km_sr_of, km_up_of, km_sr_us, km_sr_uo, km_sr_sr, km_sr_fl, km_sr_flo, km_up_up, km_up_lt, km_lay, km_unL, km_up_o, km_upx_i, km_upx_s, km_fl2_o, km_is, Option.some.injEq, Sum.inl.injEq, Sum.inr.injEq, Option.toList_some, Option.toList_none, List.cons_append, List.nil_append, ne_eq, true_and, and_true, and_self, not_true_eq_false, not_false_eq_true, true_implies, false_implies, reduceCtorEq]
  · by_cases z : v ≤ w
    · have e : kmd 11 v w = some (if v ≤ w then 1 else 0) := rfl
      rw [if_pos z] at e
      refine fin 1 e (fun Q => ?_)
      rw [e_X12_made]
      have z1 := z
      simp (config := { decide := true }) (disch := first | decide | assumption | omega | (simp (config := { decide := true }) only [km_sr_sf, km_sr_of, km_up_of, km_up_o, km_upx_i, km_upx_s, km_fl2_o, ne_eq, not_true_eq_false, not_false_eq_true] <;> omega) | fail) only [g_X12_made, kl_0, kl_lt, kl_le, kl_gt, kl_ge, z, t0, t1, ka_lt, ka_le, ka_nlt, ka_nle, ka_ne, ka_eq, Int.add_sub_cancel, true_or, or_true, false_or, or_false, false_and, and_false, if_true, if_false, ka_lo, ka_hi, ka_nn, km_sr_sf, km_sr_of, km_up_of, km_sr_us, km_sr_uo, km_sr_sr, km_sr_fl, km_sr_flo, km_up_up, km_up_lt, km_lay, km_unL, km_up_o, km_upx_i, km_upx_s, km_fl2_o, km_is, Option.some.injEq, Sum.inl.injEq, Sum.inr.injEq, Option.toList_some, Option.toList_none, List.cons_append, List.nil_append, ne_eq, true_and, and_true, and_self, not_true_eq_false, not_false_eq_true, true_implies, false_implies, reduceCtorEq]
    · have e : kmd 11 v w = some (if v ≤ w then 1 else 0) := rfl
      rw [if_neg z] at e
      refine fin 0 e (fun Q => ?_)
      rw [e_X12_made]
      simp (config := { decide := true }) (disch := first | decide | assumption | omega | (simp (config := { decide := true }) only [km_sr_sf, km_sr_of, km_up_of, km_up_o, km_upx_i, km_upx_s, km_fl2_o, ne_eq, not_true_eq_false, not_false_eq_true] <;> omega) | fail) only [g_X12_made, kl_0, kl_lt, kl_le, kl_gt, kl_ge, z, t0, t1, ka_lt, ka_le, ka_nlt, ka_nle, ka_ne, ka_eq, Int.add_sub_cancel, true_or, or_true, false_or, or_false, false_and, and_false, if_true, if_false, ka_lo, ka_hi, ka_nn, km_sr_sf, km_sr_of, km_up_of, km_sr_us, km_sr_uo, km_sr_sr, km_sr_fl, km_sr_flo, km_up_up, km_up_lt, km_lay, km_unL, km_up_o, km_upx_i, km_upx_s, km_fl2_o, km_is, Option.some.injEq, Sum.inl.injEq, Sum.inr.injEq, Option.toList_some, Option.toList_none, List.cons_append, List.nil_append, ne_eq, true_and, and_true, and_self, not_true_eq_false, not_false_eq_true, true_implies, false_implies, reduceCtorEq]
  · by_cases z : v = w
    · have e : kmd 12 v w = some (if v = w then 1 else 0) := rfl
      rw [if_pos z] at e
      refine fin 1 e (fun Q => ?_)
      rw [e_X12_made]
      have z1 := z
      simp (config := { decide := true }) (disch := first | decide | assumption | omega | (simp (config := { decide := true }) only [km_sr_sf, km_sr_of, km_up_of, km_up_o, km_upx_i, km_upx_s, km_fl2_o, ne_eq, not_true_eq_false, not_false_eq_true] <;> omega) | fail) only [g_X12_made, kl_0, kl_lt, kl_le, kl_gt, kl_ge, z, t0, t1, ka_lt, ka_le, ka_nlt, ka_nle, ka_ne, ka_eq, Int.add_sub_cancel, true_or, or_true, false_or, or_false, false_and, and_false, if_true, if_false, ka_lo, ka_hi, ka_nn, km_sr_sf, km_sr_of, km_up_of, km_sr_us, km_sr_uo, km_sr_sr, km_sr_fl, km_sr_flo, km_up_up, km_up_lt, km_lay, km_unL, km_up_o, km_upx_i, km_upx_s, km_fl2_o, km_is, Option.some.injEq, Sum.inl.injEq, Sum.inr.injEq, Option.toList_some, Option.toList_none, List.cons_append, List.nil_append, ne_eq, true_and, and_true, and_self, not_true_eq_false, not_false_eq_true, true_implies, false_implies, reduceCtorEq]
    · have e : kmd 12 v w = some (if v = w then 1 else 0) := rfl
      rw [if_neg z] at e
      refine fin 0 e (fun Q => ?_)
      rw [e_X12_made]
      simp (config := { decide := true }) (disch := first | decide | assumption | omega | (simp (config := { decide := true }) only [km_sr_sf, km_sr_of, km_up_of, km_up_o, km_upx_i, km_upx_s, km_fl2_o, ne_eq, not_true_eq_false, not_false_eq_true] <;> omega) | fail) only [g_X12_made, kl_0, kl_lt, kl_le, kl_gt, kl_ge, z, t0, t1, ka_lt, ka_le, ka_nlt, ka_nle, ka_ne, ka_eq, Int.add_sub_cancel, true_or, or_true, false_or, or_false, false_and, and_false, if_true, if_false, ka_lo, ka_hi, ka_nn, km_sr_sf, km_sr_of, km_up_of, km_sr_us, km_sr_uo, km_sr_sr, km_sr_fl, km_sr_flo, km_up_up, km_up_lt, km_lay, km_unL, km_up_o, km_upx_i, km_upx_s, km_fl2_o, km_is, Option.some.injEq, Sum.inl.injEq, Sum.inr.injEq, Option.toList_some, Option.toList_none, List.cons_append, List.nil_append, ne_eq, true_and, and_true, and_self, not_true_eq_false, not_false_eq_true, true_implies, false_implies, reduceCtorEq]
  · by_cases z : v = w
    · have e : kmd 13 v w = some (if v = w then 0 else 1) := rfl
      rw [if_pos z] at e
      refine fin 0 e (fun Q => ?_)
      rw [e_X12_made]
      have z1 := z
      simp (config := { decide := true }) (disch := first | decide | assumption | omega | (simp (config := { decide := true }) only [km_sr_sf, km_sr_of, km_up_of, km_up_o, km_upx_i, km_upx_s, km_fl2_o, ne_eq, not_true_eq_false, not_false_eq_true] <;> omega) | fail) only [g_X12_made, kl_0, kl_lt, kl_le, kl_gt, kl_ge, z, t0, t1, ka_lt, ka_le, ka_nlt, ka_nle, ka_ne, ka_eq, Int.add_sub_cancel, true_or, or_true, false_or, or_false, false_and, and_false, if_true, if_false, ka_lo, ka_hi, ka_nn, km_sr_sf, km_sr_of, km_up_of, km_sr_us, km_sr_uo, km_sr_sr, km_sr_fl, km_sr_flo, km_up_up, km_up_lt, km_lay, km_unL, km_up_o, km_upx_i, km_upx_s, km_fl2_o, km_is, Option.some.injEq, Sum.inl.injEq, Sum.inr.injEq, Option.toList_some, Option.toList_none, List.cons_append, List.nil_append, ne_eq, true_and, and_true, and_self, not_true_eq_false, not_false_eq_true, true_implies, false_implies, reduceCtorEq]
    · have e : kmd 13 v w = some (if v = w then 0 else 1) := rfl
      rw [if_neg z] at e
      refine fin 1 e (fun Q => ?_)
      rw [e_X12_made]
      simp (config := { decide := true }) (disch := first | decide | assumption | omega | (simp (config := { decide := true }) only [km_sr_sf, km_sr_of, km_up_of, km_up_o, km_upx_i, km_upx_s, km_fl2_o, ne_eq, not_true_eq_false, not_false_eq_true] <;> omega) | fail) only [g_X12_made, kl_0, kl_lt, kl_le, kl_gt, kl_ge, z, t0, t1, ka_lt, ka_le, ka_nlt, ka_nle, ka_ne, ka_eq, Int.add_sub_cancel, true_or, or_true, false_or, or_false, false_and, and_false, if_true, if_false, ka_lo, ka_hi, ka_nn, km_sr_sf, km_sr_of, km_up_of, km_sr_us, km_sr_uo, km_sr_sr, km_sr_fl, km_sr_flo, km_up_up, km_up_lt, km_lay, km_unL, km_up_o, km_upx_i, km_upx_s, km_fl2_o, km_is, Option.some.injEq, Sum.inl.injEq, Sum.inr.injEq, Option.toList_some, Option.toList_none, List.cons_append, List.nil_append, ne_eq, true_and, and_true, and_self, not_true_eq_false, not_false_eq_true, true_implies, false_implies, reduceCtorEq]
  · by_cases z : w < v
    · have e : kmd 14 v w = some (if w < v then 1 else 0) := rfl
      rw [if_pos z] at e
      refine fin 1 e (fun Q => ?_)
      rw [e_X12_made]
      have z1 := z
      simp (config := { decide := true }) (disch := first | decide | assumption | omega | (simp (config := { decide := true }) only [km_sr_sf, km_sr_of, km_up_of, km_up_o, km_upx_i, km_upx_s, km_fl2_o, ne_eq, not_true_eq_false, not_false_eq_true] <;> omega) | fail) only [g_X12_made, kl_0, kl_lt, kl_le, kl_gt, kl_ge, z, t0, t1, ka_lt, ka_le, ka_nlt, ka_nle, ka_ne, ka_eq, Int.add_sub_cancel, true_or, or_true, false_or, or_false, false_and, and_false, if_true, if_false, ka_lo, ka_hi, ka_nn, km_sr_sf, km_sr_of, km_up_of, km_sr_us, km_sr_uo, km_sr_sr, km_sr_fl, km_sr_flo, km_up_up, km_up_lt, km_lay, km_unL, km_up_o, km_upx_i, km_upx_s, km_fl2_o, km_is, Option.some.injEq, Sum.inl.injEq, Sum.inr.injEq, Option.toList_some, Option.toList_none, List.cons_append, List.nil_append, ne_eq, true_and, and_true, and_self, not_true_eq_false, not_false_eq_true, true_implies, false_implies, reduceCtorEq]
    · have e : kmd 14 v w = some (if w < v then 1 else 0) := rfl
      rw [if_neg z] at e
      refine fin 0 e (fun Q => ?_)
      rw [e_X12_made]
      simp (config := { decide := true }) (disch := first | decide | assumption | omega | (simp (config := { decide := true }) only [km_sr_sf, km_sr_of, km_up_of, km_up_o, km_upx_i, km_upx_s, km_fl2_o, ne_eq, not_true_eq_false, not_false_eq_true] <;> omega) | fail) only [g_X12_made, kl_0, kl_lt, kl_le, kl_gt, kl_ge, z, t0, t1, ka_lt, ka_le, ka_nlt, ka_nle, ka_ne, ka_eq, Int.add_sub_cancel, true_or, or_true, false_or, or_false, false_and, and_false, if_true, if_false, ka_lo, ka_hi, ka_nn, km_sr_sf, km_sr_of, km_up_of, km_sr_us, km_sr_uo, km_sr_sr, km_sr_fl, km_sr_flo, km_up_up, km_up_lt, km_lay, km_unL, km_up_o, km_upx_i, km_upx_s, km_fl2_o, km_is, Option.some.injEq, Sum.inl.injEq, Sum.inr.injEq, Option.toList_some, Option.toList_none, List.cons_append, List.nil_append, ne_eq, true_and, and_true, and_self, not_true_eq_false, not_false_eq_true, true_implies, false_implies, reduceCtorEq]
  · by_cases z : w ≤ v
    · have e : kmd 15 v w = some (if w ≤ v then 1 else 0) := rfl
      rw [if_pos z] at e
      refine fin 1 e (fun Q => ?_)
      rw [e_X12_made]
      have z1 := z
      simp (config := { decide := true }) (disch := first | decide | assumption | omega | (simp (config := { decide := true }) only [km_sr_sf, km_sr_of, km_up_of, km_up_o, km_upx_i, km_upx_s, km_fl2_o, ne_eq, not_true_eq_false, not_false_eq_true] <;> omega) | fail) only [g_X12_made, kl_0, kl_lt, kl_le, kl_gt, kl_ge, z, t0, t1, ka_lt, ka_le, ka_nlt, ka_nle, ka_ne, ka_eq, Int.add_sub_cancel, true_or, or_true, false_or, or_false, false_and, and_false, if_true, if_false, ka_lo, ka_hi, ka_nn, km_sr_sf, km_sr_of, km_up_of, km_sr_us, km_sr_uo, km_sr_sr, km_sr_fl, km_sr_flo, km_up_up, km_up_lt, km_lay, km_unL, km_up_o, km_upx_i, km_upx_s, km_fl2_o, km_is, Option.some.injEq, Sum.inl.injEq, Sum.inr.injEq, Option.toList_some, Option.toList_none, List.cons_append, List.nil_append, ne_eq, true_and, and_true, and_self, not_true_eq_false, not_false_eq_true, true_implies, false_implies, reduceCtorEq]
    · have e : kmd 15 v w = some (if w ≤ v then 1 else 0) := rfl
      rw [if_neg z] at e
      refine fin 0 e (fun Q => ?_)
      rw [e_X12_made]
      simp (config := { decide := true }) (disch := first | decide | assumption | omega | (simp (config := { decide := true }) only [km_sr_sf, km_sr_of, km_up_of, km_up_o, km_upx_i, km_upx_s, km_fl2_o, ne_eq, not_true_eq_false, not_false_eq_true] <;> omega) | fail) only [g_X12_made, kl_0, kl_lt, kl_le, kl_gt, kl_ge, z, t0, t1, ka_lt, ka_le, ka_nlt, ka_nle, ka_ne, ka_eq, Int.add_sub_cancel, true_or, or_true, false_or, or_false, false_and, and_false, if_true, if_false, ka_lo, ka_hi, ka_nn, km_sr_sf, km_sr_of, km_up_of, km_sr_us, km_sr_uo, km_sr_sr, km_sr_fl, km_sr_flo, km_up_up, km_up_lt, km_lay, km_unL, km_up_o, km_upx_i, km_upx_s, km_fl2_o, km_is, Option.some.injEq, Sum.inl.injEq, Sum.inr.injEq, Option.toList_some, Option.toList_none, List.cons_append, List.nil_append, ne_eq, true_and, and_true, and_self, not_true_eq_false, not_false_eq_true, true_implies, false_implies, reduceCtorEq]
  · have e : kmd 16 v w = kbd (v + w) := rfl
    have bd := fun Q => @d_bounded q c s Y g t kn hs hm ha (v + w) ν ς σ Q (by omega)
    by_cases z : kbd (v + w) = none
    · simp only [if_pos z] at bd
      refine fno (e.trans z) (fun Q => ?_)
      rw [e_X12_made]
      simp (config := { decide := true }) (disch := first | decide | assumption | omega | (simp (config := { decide := true }) only [km_sr_sf, km_sr_of, km_up_of, km_up_o, km_upx_i, km_upx_s, km_fl2_o, ne_eq, not_true_eq_false, not_false_eq_true] <;> omega) | fail) only [g_X12_made, bd, ka_lt, ka_le, ka_nlt, ka_nle, ka_ne, ka_eq, Int.add_sub_cancel, true_or, or_true, false_or, or_false, false_and, and_false, if_true, if_false, ka_lo, ka_hi, ka_nn, km_sr_sf, km_sr_of, km_up_of, km_sr_us, km_sr_uo, km_sr_sr, km_sr_fl, km_sr_flo, km_up_up, km_up_lt, km_lay, km_unL, km_up_o, km_upx_i, km_upx_s, km_fl2_o, km_is, Option.some.injEq, Sum.inl.injEq, Sum.inr.injEq, Option.toList_some, Option.toList_none, List.cons_append, List.nil_append, ne_eq, true_and, and_true, and_self, not_true_eq_false, not_false_eq_true, true_implies, false_implies, reduceCtorEq]
    · simp only [if_neg z] at bd
      obtain ⟨u, hu⟩ : ∃ u, kbd (v + w) = some u := Option.ne_none_iff_exists'.mp z
      have e2 := (kbd_s hu).1
      refine fin u (e.trans hu) (fun Q => ?_)
      rw [e_X12_made, e2]
      simp (config := { decide := true }) (disch := first | decide | assumption | omega | (simp (config := { decide := true }) only [km_sr_sf, km_sr_of, km_up_of, km_up_o, km_upx_i, km_upx_s, km_fl2_o, ne_eq, not_true_eq_false, not_false_eq_true] <;> omega) | fail) only [g_X12_made, bd, ka_lt, ka_le, ka_nlt, ka_nle, ka_ne, ka_eq, Int.add_sub_cancel, true_or, or_true, false_or, or_false, false_and, and_false, if_true, if_false, ka_lo, ka_hi, ka_nn, km_sr_sf, km_sr_of, km_up_of, km_sr_us, km_sr_uo, km_sr_sr, km_sr_fl, km_sr_flo, km_up_up, km_up_lt, km_lay, km_unL, km_up_o, km_upx_i, km_upx_s, km_fl2_o, km_is, Option.some.injEq, Sum.inl.injEq, Sum.inr.injEq, Option.toList_some, Option.toList_none, List.cons_append, List.nil_append, ne_eq, true_and, and_true, and_self, not_true_eq_false, not_false_eq_true, true_implies, false_implies, reduceCtorEq]
  · have e : kmd 17 v w = kbd (v - w) := rfl
    have bd := fun Q => @d_bounded q c s Y g t kn hs hm ha (v - w) ν ς σ Q (by omega)
    by_cases z : kbd (v - w) = none
    · simp only [if_pos z] at bd
      refine fno (e.trans z) (fun Q => ?_)
      rw [e_X12_made]
      simp (config := { decide := true }) (disch := first | decide | assumption | omega | (simp (config := { decide := true }) only [km_sr_sf, km_sr_of, km_up_of, km_up_o, km_upx_i, km_upx_s, km_fl2_o, ne_eq, not_true_eq_false, not_false_eq_true] <;> omega) | fail) only [g_X12_made, bd, ka_lt, ka_le, ka_nlt, ka_nle, ka_ne, ka_eq, Int.add_sub_cancel, true_or, or_true, false_or, or_false, false_and, and_false, if_true, if_false, ka_lo, ka_hi, ka_nn, km_sr_sf, km_sr_of, km_up_of, km_sr_us, km_sr_uo, km_sr_sr, km_sr_fl, km_sr_flo, km_up_up, km_up_lt, km_lay, km_unL, km_up_o, km_upx_i, km_upx_s, km_fl2_o, km_is, Option.some.injEq, Sum.inl.injEq, Sum.inr.injEq, Option.toList_some, Option.toList_none, List.cons_append, List.nil_append, ne_eq, true_and, and_true, and_self, not_true_eq_false, not_false_eq_true, true_implies, false_implies, reduceCtorEq]
    · simp only [if_neg z] at bd
      obtain ⟨u, hu⟩ : ∃ u, kbd (v - w) = some u := Option.ne_none_iff_exists'.mp z
      have e2 := (kbd_s hu).1
      refine fin u (e.trans hu) (fun Q => ?_)
      rw [e_X12_made, e2]
      simp (config := { decide := true }) (disch := first | decide | assumption | omega | (simp (config := { decide := true }) only [km_sr_sf, km_sr_of, km_up_of, km_up_o, km_upx_i, km_upx_s, km_fl2_o, ne_eq, not_true_eq_false, not_false_eq_true] <;> omega) | fail) only [g_X12_made, bd, ka_lt, ka_le, ka_nlt, ka_nle, ka_ne, ka_eq, Int.add_sub_cancel, true_or, or_true, false_or, or_false, false_and, and_false, if_true, if_false, ka_lo, ka_hi, ka_nn, km_sr_sf, km_sr_of, km_up_of, km_sr_us, km_sr_uo, km_sr_sr, km_sr_fl, km_sr_flo, km_up_up, km_up_lt, km_lay, km_unL, km_up_o, km_upx_i, km_upx_s, km_fl2_o, km_is, Option.some.injEq, Sum.inl.injEq, Sum.inr.injEq, Option.toList_some, Option.toList_none, List.cons_append, List.nil_append, ne_eq, true_and, and_true, and_self, not_true_eq_false, not_false_eq_true, true_implies, false_implies, reduceCtorEq]
  · have e : kmd 18 v w = if v ≠ 0 ∧ Int.tdiv 1000000000000 (kab v) < kab w then none else some (v * w) := rfl
    have bv := fun m Q => @d_big q c s v Q m (by omega)
    have bw := fun m Q => @d_big q c s w Q m (by omega)
    have kv := @kab_b v
    have kw := @kab_b w
    by_cases z0 : v = 0
    · have m12 := kmul_12 (a := v) (b := w) (fun u => u.1 z0)
      unfold k12 at m12
      rw [if_neg (fun u => u.1 z0)] at e
      refine fin (v * w) e (fun Q => ?_)
      rw [e_X12_made]
      simp (config := { decide := true }) (disch := first | decide | assumption | omega | (simp (config := { decide := true }) only [km_sr_sf, km_sr_of, km_up_of, km_up_o, km_upx_i, km_upx_s, km_fl2_o, ne_eq, not_true_eq_false, not_false_eq_true] <;> omega) | fail) only [g_X12_made, kR54, kV54, kl_0, kl_lt, kl_le, kl_gt, kl_ge, z0, Int.zero_mul, ka_lt, ka_le, ka_nlt, ka_nle, ka_ne, ka_eq, Int.add_sub_cancel, true_or, or_true, false_or, or_false, false_and, and_false, if_true, if_false, ka_lo, ka_hi, ka_nn, km_sr_sf, km_sr_of, km_up_of, km_sr_us, km_sr_uo, km_sr_sr, km_sr_fl, km_sr_flo, km_up_up, km_up_lt, km_lay, km_unL, km_up_o, km_upx_i, km_upx_s, km_fl2_o, km_is, Option.some.injEq, Sum.inl.injEq, Sum.inr.injEq, Option.toList_some, Option.toList_none, List.cons_append, List.nil_append, ne_eq, true_and, and_true, and_self, not_true_eq_false, not_false_eq_true, true_implies, false_implies, reduceCtorEq]
    · have v1 : 1 ≤ kab v := kv.2.2 z0
      have d0 : 0 ≤ Int.tdiv 1000000000000 (kab v) := Int.tdiv_nonneg (by decide) (by omega)
      have d1 : Int.tdiv 1000000000000 (kab v) ≤ 1000000000000 := by
        rw [Int.tdiv_eq_ediv_of_nonneg (by decide)]
        exact Int.ediv_le_self _ (by decide)
      have kvn : ¬ kab v = 0 := by omega
      by_cases y : Int.tdiv 1000000000000 (kab v) < kab w
      · have y2 : ¬ kab w ≤ Int.tdiv 1000000000000 (kab v) := by omega
        rw [if_pos ⟨z0, y⟩] at e
        refine fno e (fun Q => ?_)
        rw [e_X12_made]
        simp (config := { decide := true }) (disch := first | decide | assumption | omega | (simp (config := { decide := true }) only [km_sr_sf, km_sr_of, km_up_of, km_up_o, km_upx_i, km_upx_s, km_fl2_o, ne_eq, not_true_eq_false, not_false_eq_true] <;> omega) | fail) only [g_X12_made, kR54, kV54, bv, bw, kl_0, kl_lt, kl_le, kl_gt, kl_ge, z0, kvn, y, y2, d0, d1, ka_lt, ka_le, ka_nlt, ka_nle, ka_ne, ka_eq, Int.add_sub_cancel, true_or, or_true, false_or, or_false, false_and, and_false, if_true, if_false, ka_lo, ka_hi, ka_nn, km_sr_sf, km_sr_of, km_up_of, km_sr_us, km_sr_uo, km_sr_sr, km_sr_fl, km_sr_flo, km_up_up, km_up_lt, km_lay, km_unL, km_up_o, km_upx_i, km_upx_s, km_fl2_o, km_is, Option.some.injEq, Sum.inl.injEq, Sum.inr.injEq, Option.toList_some, Option.toList_none, List.cons_append, List.nil_append, ne_eq, true_and, and_true, and_self, not_true_eq_false, not_false_eq_true, true_implies, false_implies, reduceCtorEq]
      · have y2 : kab w ≤ Int.tdiv 1000000000000 (kab v) := by omega
        have m12 := kmul_12 (a := v) (b := w) (fun u => y u.2)
        unfold k12 at m12
        rw [if_neg (fun u => y u.2)] at e
        refine fin (v * w) e (fun Q => ?_)
        rw [e_X12_made]
        simp (config := { decide := true }) (disch := first | decide | assumption | omega | (simp (config := { decide := true }) only [km_sr_sf, km_sr_of, km_up_of, km_up_o, km_upx_i, km_upx_s, km_fl2_o, ne_eq, not_true_eq_false, not_false_eq_true] <;> omega) | fail) only [g_X12_made, kR54, kV54, bv, bw, kl_0, kl_lt, kl_le, kl_gt, kl_ge, z0, kvn, y, y2, d0, d1, m12, ka_lt, ka_le, ka_nlt, ka_nle, ka_ne, ka_eq, Int.add_sub_cancel, true_or, or_true, false_or, or_false, false_and, and_false, if_true, if_false, ka_lo, ka_hi, ka_nn, km_sr_sf, km_sr_of, km_up_of, km_sr_us, km_sr_uo, km_sr_sr, km_sr_fl, km_sr_flo, km_up_up, km_up_lt, km_lay, km_unL, km_up_o, km_upx_i, km_upx_s, km_fl2_o, km_is, Option.some.injEq, Sum.inl.injEq, Sum.inr.injEq, Option.toList_some, Option.toList_none, List.cons_append, List.nil_append, ne_eq, true_and, and_true, and_self, not_true_eq_false, not_false_eq_true, true_implies, false_implies, reduceCtorEq]
  · have e : kmd 19 v w = if w = 0 then none else some (Int.tdiv v w) := rfl
    have d := kdiv_12 (b := w) ha1
    unfold k12 at d
    by_cases z : w = 0
    · rw [if_pos z] at e
      refine fno e (fun Q => ?_)
      rw [e_X12_made]
      simp (config := { decide := true }) (disch := first | decide | assumption | omega | (simp (config := { decide := true }) only [km_sr_sf, km_sr_of, km_up_of, km_up_o, km_upx_i, km_upx_s, km_fl2_o, ne_eq, not_true_eq_false, not_false_eq_true] <;> omega) | fail) only [g_X12_made, kR54, kV54, kl_0, kl_lt, kl_le, kl_gt, kl_ge, z, ka_lt, ka_le, ka_nlt, ka_nle, ka_ne, ka_eq, Int.add_sub_cancel, true_or, or_true, false_or, or_false, false_and, and_false, if_true, if_false, ka_lo, ka_hi, ka_nn, km_sr_sf, km_sr_of, km_up_of, km_sr_us, km_sr_uo, km_sr_sr, km_sr_fl, km_sr_flo, km_up_up, km_up_lt, km_lay, km_unL, km_up_o, km_upx_i, km_upx_s, km_fl2_o, km_is, Option.some.injEq, Sum.inl.injEq, Sum.inr.injEq, Option.toList_some, Option.toList_none, List.cons_append, List.nil_append, ne_eq, true_and, and_true, and_self, not_true_eq_false, not_false_eq_true, true_implies, false_implies, reduceCtorEq]
    · rw [if_neg z] at e
      refine fin (Int.tdiv v w) e (fun Q => ?_)
      rw [e_X12_made]
      simp (config := { decide := true }) (disch := first | decide | assumption | omega | (simp (config := { decide := true }) only [km_sr_sf, km_sr_of, km_up_of, km_up_o, km_upx_i, km_upx_s, km_fl2_o, ne_eq, not_true_eq_false, not_false_eq_true] <;> omega) | fail) only [g_X12_made, kR54, kV54, kl_0, kl_lt, kl_le, kl_gt, kl_ge, z, d, ka_lt, ka_le, ka_nlt, ka_nle, ka_ne, ka_eq, Int.add_sub_cancel, true_or, or_true, false_or, or_false, false_and, and_false, if_true, if_false, ka_lo, ka_hi, ka_nn, km_sr_sf, km_sr_of, km_up_of, km_sr_us, km_sr_uo, km_sr_sr, km_sr_fl, km_sr_flo, km_up_up, km_up_lt, km_lay, km_unL, km_up_o, km_upx_i, km_upx_s, km_fl2_o, km_is, Option.some.injEq, Sum.inl.injEq, Sum.inr.injEq, Option.toList_some, Option.toList_none, List.cons_append, List.nil_append, ne_eq, true_and, and_true, and_self, not_true_eq_false, not_false_eq_true, true_implies, false_implies, reduceCtorEq]
  · have e : kmd 20 v w = if w = 0 then none else some (Int.tmod v w) := rfl
    have d := kmod_12 (b := w) ha1
    unfold k12 at d
    by_cases z : w = 0
    · rw [if_pos z] at e
      refine fno e (fun Q => ?_)
      rw [e_X12_made]
      simp (config := { decide := true }) (disch := first | decide | assumption | omega | (simp (config := { decide := true }) only [km_sr_sf, km_sr_of, km_up_of, km_up_o, km_upx_i, km_upx_s, km_fl2_o, ne_eq, not_true_eq_false, not_false_eq_true] <;> omega) | fail) only [g_X12_made, kR54, kV54, kl_0, kl_lt, kl_le, kl_gt, kl_ge, z, ka_lt, ka_le, ka_nlt, ka_nle, ka_ne, ka_eq, Int.add_sub_cancel, true_or, or_true, false_or, or_false, false_and, and_false, if_true, if_false, ka_lo, ka_hi, ka_nn, km_sr_sf, km_sr_of, km_up_of, km_sr_us, km_sr_uo, km_sr_sr, km_sr_fl, km_sr_flo, km_up_up, km_up_lt, km_lay, km_unL, km_up_o, km_upx_i, km_upx_s, km_fl2_o, km_is, Option.some.injEq, Sum.inl.injEq, Sum.inr.injEq, Option.toList_some, Option.toList_none, List.cons_append, List.nil_append, ne_eq, true_and, and_true, and_self, not_true_eq_false, not_false_eq_true, true_implies, false_implies, reduceCtorEq]
    · rw [if_neg z] at e
      refine fin (Int.tmod v w) e (fun Q => ?_)
      rw [e_X12_made]
      simp (config := { decide := true }) (disch := first | decide | assumption | omega | (simp (config := { decide := true }) only [km_sr_sf, km_sr_of, km_up_of, km_up_o, km_upx_i, km_upx_s, km_fl2_o, ne_eq, not_true_eq_false, not_false_eq_true] <;> omega) | fail) only [g_X12_made, kR54, kV54, kl_0, kl_lt, kl_le, kl_gt, kl_ge, z, d, ka_lt, ka_le, ka_nlt, ka_nle, ka_ne, ka_eq, Int.add_sub_cancel, true_or, or_true, false_or, or_false, false_and, and_false, if_true, if_false, ka_lo, ka_hi, ka_nn, km_sr_sf, km_sr_of, km_up_of, km_sr_us, km_sr_uo, km_sr_sr, km_sr_fl, km_sr_flo, km_up_up, km_up_lt, km_lay, km_unL, km_up_o, km_upx_i, km_upx_s, km_fl2_o, km_is, Option.some.injEq, Sum.inl.injEq, Sum.inr.injEq, Option.toList_some, Option.toList_none, List.cons_append, List.nil_append, ne_eq, true_and, and_true, and_self, not_true_eq_false, not_false_eq_true, true_implies, false_implies, reduceCtorEq]
end KS

