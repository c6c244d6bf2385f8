/-! ===== names: what they are worth, and the reference's reading of them ===== -/
theorem md_age {q : Nat × Int × Int × Int × Int} {c s : Nat} {m mm : km_Mm} {a : Int} (hb : kI_book m) (hj : kMj m mm) (ha : 0 ≤ a ∧ a < 10) :
    ∃ g : Int → Int, (∀ Q : Option km_V → km_Al → km_Mm → Prop, km_E M_X12_know [.inr (.inr 123), .inl (m 5 3)] (km_A0 q c s) mm Q ↔ Q none (km_A0 q c s) (km_sr mm 130 g)) ∧ ∀ Q : Option km_V → km_Al → km_Mm → Prop, km_E M_X12_ageOf [.inr (.inr 123), .inl a, .inl (m 5 2)] (km_A0 q c s) (km_sr mm 130 g) Q ↔ Q (some (.inl (kLg m (m 5 3) a (m 5 2)))) (km_A0 q c s) (km_sr mm 130 g) := by
  obtain ⟨b1, b2, b3, b4, b5, b6⟩ := id hb
  have E11 : mm 123 11 = m 5 2 := (hj 123 11 (by decide) (by unfold kJ; omega)).trans b2.2.2
  have E5 : mm 123 5 = m 5 3 := (hj 123 5 (by decide) (by unfold kJ; omega)).trans b3.2.2
  have e126 : mm 126 = m 126 := funext fun j => hj 126 j (by decide) (kJ_no (by decide))
  have e127 : mm 127 = m 127 := funext fun j => hj 127 j (by decide) (kJ_no (by decide))
  have e128 : mm 128 = m 128 := funext fun j => hj 128 j (by decide) (kJ_no (by decide))
  have e129 : mm 129 = m 129 := funext fun j => hj 129 j (by decide) (kJ_no (by decide))
  have rk := fun Q => @r_know q c s (m 5 3) mm ⟨b3.1, b3.2.1⟩ (by intro i i0 i1; rw [e127]; exact (b5 i i0 i1).1) Q
  obtain ⟨c1, c2⟩ := kI_cnt hb b3.1 (Int.le_refl _) (C := mm 130)
  have fr2 : kI_fresh m (km_sr mm 130 (kq_kn (mm 126) (mm 127) (m 5 3).toNat (kq_k0 (m 5 3) (mm 130) 0))) (m 5 3) := by
    unfold kI_fresh
    simp (config := { decide := true }) only [e126, e127, e128, e129, Int.add_sub_cancel, true_or, or_true, false_or, or_false, false_and, and_false, if_true, if_false, km_sr_sf, km_sr_of, km_up_of, km_sr_us, km_sr_uo, km_sr_sr, km_sr_fl, km_sr_flo, km_up_up, km_up_lt, km_lay, km_unL, km_up_o, km_upx_i, km_upx_s, km_fl2_o, km_is, Option.some.injEq, Sum.inl.injEq, Sum.inr.injEq, Option.toList_some, Option.toList_none, List.cons_append, List.nil_append, ne_eq, true_and, and_true, and_self, not_true_eq_false, not_false_eq_true, true_implies, false_implies, reduceCtorEq]
    exact ⟨⟨b3.1, Int.le_refl _⟩, E5, c1, c2⟩
  have k1 := (kI_al hb fr2 ha b2.1).2.1
  refine ⟨kq_kn (mm 126) (mm 127) (m 5 3).toNat (kq_k0 (m 5 3) (mm 130) 0), rk, fun Q => ?_⟩
  have hnM : km_ntM (km_sr mm 130 (kq_kn (mm 126) (mm 127) (m 5 3).toNat (kq_k0 (m 5 3) (mm 130) 0))) := by
    unfold km_ntM at b5 ⊢
    simp only [km_sr_of (show (126 : Int) ≠ 130 by decide), km_sr_of (show (127 : Int) ≠ 130 by decide), km_sr_of (show (128 : Int) ≠ 130 by decide), km_sr_of (show (129 : Int) ≠ 130 by decide), e126, e127, e128, e129]
    exact b5
  rw [@r_mageOf q c s (km_sr mm 130 (kq_kn (mm 126) (mm 127) (m 5 3).toNat (kq_k0 (m 5 3) (mm 130) 0))) a (m 5 2) (by rw [km_sr_o (by decide)]; omega) ⟨b2.1, b2.2.1⟩ hnM Q, k1]
/-- a name of one of KIN -/
noncomputable def kVk (m : km_Mm) (o b k v : Int) : Int := if 0 ≤ k ∧ k < m 5 1 then (if v = 16 then m 7 k else if v = 17 then m 8 k else if v = 18 then kLg m (m 5 3) k (m 5 2) else if v = 19 then m 9 k else if v = 26 then (if m 8 k = b then 1 else 0) else if 0 ≤ o ∧ o < m 19 1 then (if v = 20 then (if kQ m o k < 100 then 1 else 0) else if v = 21 then kQ m o k else m (30 + m 7 k) (m 20 o)) else 0) else 0
/-- a name -/
noncomputable def kVv (m : km_Mm) (o p b : Int) (x v : Int) : Int :=
  if v ≤ 15 then (if 0 ≤ o ∧ o < m 19 1 then (if v = 12 then m 20 o else if v = 13 then m 21 o else if v = 14 then kFr m o else kcnt (kC m o) (m 5 1).toNat) else 0)
  else if 23 ≤ v ∧ v ≤ 25 then (if 0 ≤ b ∧ b < 4 then (if v = 23 then m 1 b else if v = 24 then m 2 b else kcnt (kPe m b) (m 5 1).toNat) else 0)
  else kVk m o b (if 0 ≤ x then x else p) v
theorem kQ_b {m : km_Mm} {o k : Int} (hO : kI_opt m) (o0 : 0 ≤ o) (o1 : o < m 19 1) (k0 : 0 ≤ k) (k1 : k < 10) : 0 ≤ kQ m o k ∧ kQ m o k ≤ 100 := by
  have := (hO.2.2 o k o0 o1 k0 k1).1
  unfold kQ
  split <;> omega
theorem kLg_b {m : km_Mm} {a : Int} (hb : kI_book m) (ha : 0 ≤ a ∧ a < 10) : -1 ≤ kLg m (m 5 3) a (m 5 2) ∧ kLg m (m 5 3) a (m 5 2) ≤ 1000 := by
  obtain ⟨b1, b2, b3, b4, b5, b6⟩ := id hb
  obtain ⟨c1, c2⟩ := kI_cnt hb b3.1 (Int.le_refl _) (C := m 130)
  have fr2 : kI_fresh m (km_sr m 130 (kq_kn (m 126) (m 127) (m 5 3).toNat (kq_k0 (m 5 3) (m 130) 0))) (m 5 3) := by
    unfold kI_fresh
    simp (config := { decide := true }) only [Int.add_sub_cancel, true_or, or_true, false_or, or_false, false_and, and_false, if_true, if_false, km_sr_sf, km_sr_of, km_up_of, km_sr_us, km_sr_uo, km_sr_sr, km_sr_fl, km_sr_flo, km_up_up, km_up_lt, km_lay, km_unL, km_up_o, km_upx_i, km_upx_s, km_fl2_o, km_is, Option.some.injEq, Sum.inl.injEq, Sum.inr.injEq, Option.toList_some, Option.toList_none, List.cons_append, List.nil_append, ne_eq, true_and, and_true, and_self, not_true_eq_false, not_false_eq_true, true_implies, false_implies, reduceCtorEq]
    exact ⟨⟨b3.1, Int.le_refl _⟩, b3.2.2, c1, c2⟩
  have k1 := (kI_al hb fr2 ha b2.1).2.2
  unfold kLg
  split <;> omega
theorem kV_12 {N : Int} {m : km_Mm} {o p b : Int} (h : kI0 N m) (hN : N ≤ 1000) : ∀ x v : Int, 12 ≤ v → v ≤ 26 → k12 (kVv m o p b x v) := by
  obtain ⟨hb, -, hT, hO, hM, hF, -, -, hS, -⟩ := h
  intro x v v0 v1
  have h1 := hb.1
  have z12 : k12 0 := by unfold k12; omega
  have cb : ∀ P : Int → Prop, k12 (kcnt P (m 5 1).toNat) := fun P => by have := kcnt_b (P := P) (m 5 1).toNat; unfold k12; omega
  unfold kVv
  split
  · split
    · next ho =>
      have op := hO.2.1 o ho.1 ho.2
      split
      · unfold k12; omega
      · split
        · unfold k12; omega
        · split
          · unfold kFr
            have := kTr_12 hb hO hF ho.1 ho.2
            split
            · unfold k12; omega
            · unfold k12; omega
          · exact cb _
    · exact z12
  · split
    · split
      · next hb4 =>
        have hs := hS b hb4.1 hb4.2
        split
        · unfold k12; omega
        · split
          · unfold k12; omega
          · exact cb _
      · exact z12
    · generalize (if 0 ≤ x then x else p) = k
      unfold kVk
      split
      · next hk =>
        have tr := hT k hk.1 hk.2
        have lg := kLg_b hb (a := k) ⟨hk.1, by omega⟩
        split
        · unfold k12; omega
        split
        · unfold k12; omega
        split
        · unfold k12; omega
        split
        · unfold k12; omega
        split
        · split <;> (unfold k12; omega)
        split
        · next ho =>
          have kq := kQ_b hO ho.1 ho.2 hk.1 (by omega)
          split
          · split <;> (unfold k12; omega)
          split
          · unfold k12; omega
          · have op := hO.2.1 o ho.1 ho.2
            have := hM (m 7 k) (m 20 o) (by omega) (by omega) (by omega) (by omega)
            unfold k12; omega
        · exact z12
      · exact z12
theorem kR_eq {M Y : km_Mm} {g t er kn hs hm ha : Int} {ν ς σ : Int → Int} (h : ∀ b j : Int, (b = 123 ∧ (j = 51 ∨ j = 53 ∨ j = 54 ∨ j = 56 ∨ j = 59 ∨ j = 60 ∨ j = 61)) ∨ b = 147 ∨ b = 148 ∨ b = 149 → M b j = kmR Y g t er kn hs hm ha ν ς σ b j) : M = kmR M g t er kn hs hm ha ν ς σ := by
  funext b j
  unfold kmR
  by_cases z : b = 123
  · subst z
    rw [if_pos rfl]
    by_cases y1 : j = 51
    · subst y1; rw [if_pos rfl, h _ _ (by omega)]; rfl
    · rw [if_neg y1]
      by_cases y2 : j = 53
      · subst y2; rw [if_pos rfl, h _ _ (by omega)]; rfl
      · rw [if_neg y2]
        by_cases y3 : j = 54
        · subst y3; rw [if_pos rfl, h _ _ (by omega)]; rfl
        · rw [if_neg y3]
          by_cases y4 : j = 56
          · subst y4; rw [if_pos rfl, h _ _ (by omega)]; rfl
          · rw [if_neg y4]
            by_cases y5 : j = 59
            · subst y5; rw [if_pos rfl, h _ _ (by omega)]; rfl
            · rw [if_neg y5]
              by_cases y6 : j = 60
              · subst y6; rw [if_pos rfl, h _ _ (by omega)]; rfl
              · rw [if_neg y6]
                by_cases y7 : j = 61
                · subst y7; rw [if_pos rfl, h _ _ (by omega)]; rfl
                · rw [if_neg y7]
  · rw [if_neg z]
    by_cases y1 : b = 147
    · subst y1; rw [if_pos rfl, h _ _ (by omega)]; rfl
    · rw [if_neg y1]
      by_cases y2 : b = 148
      · subst y2; rw [if_pos rfl, h _ _ (by omega)]; rfl
      · rw [if_neg y2]
        by_cases y3 : b = 149
        · subst y3; rw [if_pos rfl, h _ _ (by omega)]; rfl
        · rw [if_neg y3]
theorem kRy_130 {m C Y : km_Mm} {o p b : Int} {f : Int → Int} (h : kRy m C o p b Y) : kRy m C o p b (km_sr Y 130 f) := ⟨kMj_sr h.1, fun d j hd => by rw [km_sr_o (by omega)]; exact h.2.1 d j hd, by rw [km_sr_o (by decide)]; exact h.2.2.1, by rw [km_sr_o (by decide)]; exact h.2.2.2.1, by rw [km_sr_o (by decide)]; exact h.2.2.2.2⟩

