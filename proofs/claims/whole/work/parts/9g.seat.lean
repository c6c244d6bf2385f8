/-! ===== the house in the class: seats, diets ===== -/
theorem cl_seat3 {q : Nat × Int × Int × Int × Int} {c s : Nat} {M : km_Mm} {w : Int} :
    ∀ (n i : Nat) (X : km_Mm), i + n = 10 → (∀ b j : Int, b ≠ 90 → X b j = M b j) → (∀ j : Int, 0 ≤ j → j < i → X 90 j = km_and w (km_xor (M 112 j) (-1))) →
    ∃ M' : km_Mm, (∀ b j : Int, b ≠ 90 → M' b j = M b j) ∧ (∀ j : Int, 0 ≤ j → j < 10 → M' 90 j = km_and w (km_xor (M 112 j) (-1))) ∧ ∀ Q : Option km_V → km_Al → km_Mm → Prop, (km_G M_X3_findSeating 3 [some (.inr (.inr 85)), some (.inl w), some (.inr (.inr 5)), some (.inr (.inr 112)), some (.inl (i : Int)), none, none, none] [] (km_A0 q c s) X Q ↔ km_G M_X3_findSeating 3 [some (.inr (.inr 85)), some (.inl w), some (.inr (.inr 5)), some (.inr (.inr 112)), some (.inl 10), none, none, none] [] (km_A0 q c s) M' Q) := by
  intro n
  induction n with
  | zero =>
    intro i X h f1 f2
    have e : i = 10 := by omega
    subst e
    exact ⟨X, f1, f2, fun Q => Iff.rfl⟩
  | succ n ih =>
    intro i X h f1 f2
    have e112 : X 112 = M 112 := funext fun j => f1 112 j (by decide)
    have ei : ((i + 1 : Nat) : Int) = (i : Int) + 1 := by omega
    obtain ⟨M', a1, a2, a3⟩ := ih (i + 1) (km_up X 90 i (km_and w (km_xor (M 112 i) (-1)))) (by omega) (fun b j h => by rw [km_up_ne (fun z => h z.1)]; exact f1 b j h) (fun j j0 j1 => by
      by_cases z : j = i
      · rw [km_up_eq ⟨rfl, z⟩, z]
      · rw [km_up_ne (fun w => z w.2)]; exact f2 j j0 (by omega))
    refine ⟨M', a1, a2, fun Q => ?_⟩
    rw [← a3 Q, g_X3_findSeating_3, ei]
    simp (config := { decide := true }) (disch := first | decide | assumption | omega | (simp (config := { decide := true }) only [km_sr_sf, km_sr_of, km_up_of, km_up_o, km_upx_i, km_upx_s, km_fl2_o, ne_eq, not_true_eq_false, not_false_eq_true] <;> omega) | fail) only [g_X3_findSeating, e112, ka_lt, ka_le, ka_nlt, ka_nle, ka_ne, ka_eq, Int.add_sub_cancel, true_or, or_true, false_or, or_false, false_and, and_false, if_true, if_false, ka_lo, ka_hi, ka_nn, km_sr_sf, km_sr_of, km_up_of, km_sr_us, km_sr_uo, km_sr_sr, km_sr_fl, km_sr_flo, km_up_up, km_up_lt, km_lay, km_unL, km_up_o, km_upx_i, km_upx_s, km_fl2_o, km_is, Option.some.injEq, Sum.inl.injEq, Sum.inr.injEq, Option.toList_some, Option.toList_none, List.cons_append, List.nil_append, ne_eq, true_and, and_true, and_self, not_true_eq_false, not_false_eq_true, true_implies, false_implies, reduceCtorEq]
theorem cl_seat48 {q : Nat × Int × Int × Int × Int} {c s : Nat} {Y : km_Mm} {w : Int} {R : Int → Int → Prop} (hw : ten w) (hF : ∀ a : Int, 0 ≤ a → a < 10 → ten (Y 88 a)) (hP : ∀ a : Int, 0 ≤ a → a < 10 → ten (Y 90 a)) (hR : kPR (Y 90) w R) :
    ∀ (n : Nat) (x i : Int) (o6 o7 : Option km_V) (X : km_Mm), 1023 - x < n → ksb x w → x ≠ 0 → 0 ≤ i → i < x → (∀ b j : Int, b ≠ 92 → X b j = Y b j) → (∀ t : Int, ksb t w → t < x → kSC (Y 88) (fun _ => 0) (kpr R) (X 92 t) t) →
    ∃ (M' : km_Mm) (i' : Int) (p6 p7 : Option km_V), (∀ b j : Int, b ≠ 92 → M' b j = Y b j) ∧ (∀ t : Int, ksb t w → kSC (Y 88) (fun _ => 0) (kpr R) (M' 92 t) t) ∧ ∀ Q : Option km_V → km_Al → km_Mm → Prop, (km_G M_X3_findSeating 48 [some (.inr (.inr 85)), some (.inl w), some (.inr (.inr 5)), some (.inr (.inr 112)), some (.inl x), some (.inl i), o6, o7] [] (km_A0 q c s) X Q ↔ km_G M_X3_findSeating 48 [some (.inr (.inr 85)), some (.inl w), some (.inr (.inr 5)), some (.inr (.inr 112)), some (.inl 0), some (.inl i'), p6, p7] [] (km_A0 q c s) M' Q) := by
  intro n
  have hw' := hw
  unfold ten at hw'
  induction n with
  | zero => intro x i o6 o7 X h hx; have := ksb_le hw hx; omega
  | succ n ih =>
    intro x i o6 o7 X h hx x0 i0 i1 f1 f2
    have lx := ksb_le hw hx
    have tx := ksb_ten hw hx
    have nx := ksb_next hw hx
    obtain ⟨⟨r1, r2, r3⟩, b⟩ := klw_split tx x0
    have l := (klw_p tx x0).1
    have rl := ksb_le tx r2
    have xw : ksb (km_and x (x - 1)) w := ksb_tr tx hw r2 hx
    have ntz := fun (X : km_Mm) Q => @r_ntz q c s X x tx x0 Q
    have e88 : X 88 = Y 88 := funext fun j => f1 88 j (by decide)
    have e90 : X 90 = Y 90 := funext fun j => f1 90 j (by decide)
    have hf := hF _ l.1 l.2.1
    have hp := hP _ l.1 l.2.1
    have ns := fun (X : km_Mm) Q => @r_nextSet q c s X x w lx.1 (by omega) hw.1 (by omega) Q
    have tp : ten (km_and (Y 90 (klw x)) (km_and x (x - 1))) := ten_and hp r1.1
    have bp := fun (X : km_Mm) Q => @sp_bitCount _ tp.1 tp.2 (km_A0 q c s) X Q
    have pp := kPR_pop hw hP hR hx x0
    have ur := f2 _ xw r3
    have B0 := @kpr_b R (km_and x (x - 1))
    have B1 := @kpr_b R x
    have vb := kSC_b (by decide) (by decide) B0.1 (by omega) ur
    have mp := @kpop_b (km_and (Y 90 (klw x)) (km_and x (x - 1)))
    have hB : kpr R x = kpr R (km_and x (x - 1)) + km_pop (km_and (Y 90 (klw x)) (km_and x (x - 1))) := by
      rw [kpr_low tx x0, pp]
    have key := kSC_low (F := Y 88) (A := fun _ => 0) (B := kpr R) (al := 0) hF tx x0 rfl hB (by decide) mp.1 (by decide) B1.1 ur
    have fin : ∀ (v : Int) (p6 p7 : Option km_V), kSC (Y 88) (fun _ => 0) (kpr R) v x → (∀ Q : Option km_V → km_Al → km_Mm → Prop, km_G M_X3_findSeating 48 [some (.inr (.inr 85)), some (.inl w), some (.inr (.inr 5)), some (.inr (.inr 112)), some (.inl x), some (.inl i), o6, o7] [] (km_A0 q c s) X Q ↔ km_G M_X3_findSeating 48 [some (.inr (.inr 85)), some (.inl w), some (.inr (.inr 5)), some (.inr (.inr 112)), some (.inl (km_and (x - w) w)), some (.inl (i + 1)), p6, p7] [] (km_A0 q c s) (km_up X 92 x v) Q) → ∃ (M' : km_Mm) (i' : Int) (p6 p7 : Option km_V), (∀ b j : Int, b ≠ 92 → M' b j = Y b j) ∧ (∀ t : Int, ksb t w → kSC (Y 88) (fun _ => 0) (kpr R) (M' 92 t) t) ∧ ∀ Q : Option km_V → km_Al → km_Mm → Prop, (km_G M_X3_findSeating 48 [some (.inr (.inr 85)), some (.inl w), some (.inr (.inr 5)), some (.inr (.inr 112)), some (.inl x), some (.inl i), o6, o7] [] (km_A0 q c s) X Q ↔ km_G M_X3_findSeating 48 [some (.inr (.inr 85)), some (.inl w), some (.inr (.inr 5)), some (.inr (.inr 112)), some (.inl 0), some (.inl i'), p6, p7] [] (km_A0 q c s) M' Q) := by
      intro v p6 p7 k1 k2
      have st : ∀ (b j : Int), b ≠ 92 → km_up X 92 x v b j = Y b j := fun b j h => by rw [km_up_ne (fun e => h e.1)]; exact f1 b j h
      have sv : ∀ t : Int, ksb t w → t ≤ x → kSC (Y 88) (fun _ => 0) (kpr R) (km_up X 92 x v 92 t) t := by
        intro t ht htx
        by_cases e : t = x
        · rw [km_up_eq ⟨rfl, e⟩, e]; exact k1
        · rw [km_up_ne (fun z => e z.2)]; exact f2 t ht (by omega)
      rcases nx with ⟨a1, a2⟩ | ⟨a1, a2, a3⟩
      · refine ⟨_, i + 1, p6, p7, st, fun t ht => sv t ht (by have := ksb_le hw ht; omega), fun Q => ?_⟩
        rw [k2, a2]
      · have a4 := ksb_le hw a2
        obtain ⟨M', i', z8, z9, d1, d2, d3⟩ := ih (km_and (x - w) w) (i + 1) p6 p7 (km_up X 92 x v) (by omega) a2 (by omega) (by omega) (by omega) st (fun t ht htx => sv t ht (by
          by_cases e : t ≤ x
          · exact e
          · have := a3 t ht (by omega); omega))
        exact ⟨M', i', z8, z9, d1, d2, fun Q => (k2 Q).trans (d3 Q)⟩
    by_cases zf : km_and (Y 88 (klw x)) (km_and x (x - 1)) = 0
    · rw [if_pos zf, Int.add_zero] at key
      refine fin _ (some (.inl (klw x))) (some (.inl (km_and x (x - 1)))) key (fun Q => ?_)
      rw [g_X3_findSeating_48]
      simp (config := { decide := true }) (disch := first | decide | assumption | omega | (simp (config := { decide := true }) only [km_sr_sf, km_sr_of, km_up_of, km_up_o, km_upx_i, km_upx_s, km_fl2_o, ne_eq, not_true_eq_false, not_false_eq_true] <;> omega) | fail) only [g_X3_findSeating, x0, ntz, zf, e88, e90, bp, ns, l, ka_lt, ka_le, ka_nlt, ka_nle, ka_ne, ka_eq, Int.add_sub_cancel, true_or, or_true, false_or, or_false, false_and, and_false, if_true, if_false, ka_lo, ka_hi, ka_nn, km_sr_sf, km_sr_of, km_up_of, km_sr_us, km_sr_uo, km_sr_sr, km_sr_fl, km_sr_flo, km_up_up, km_up_lt, km_lay, km_unL, km_up_o, km_upx_i, km_upx_s, km_fl2_o, km_is, Option.some.injEq, Sum.inl.injEq, Sum.inr.injEq, Option.toList_some, Option.toList_none, List.cons_append, List.nil_append, ne_eq, true_and, and_true, and_self, not_true_eq_false, not_false_eq_true, true_implies, false_implies, reduceCtorEq]
    · rw [if_neg zf] at key
      refine fin _ (some (.inl (klw x))) (some (.inl (km_and x (x - 1)))) key (fun Q => ?_)
      rw [g_X3_findSeating_48]
      simp (config := { decide := true }) (disch := first | decide | assumption | omega | (simp (config := { decide := true }) only [km_sr_sf, km_sr_of, km_up_of, km_up_o, km_upx_i, km_upx_s, km_fl2_o, ne_eq, not_true_eq_false, not_false_eq_true] <;> omega) | fail) only [g_X3_findSeating, x0, ntz, zf, e88, e90, ns, l, ka_lt, ka_le, ka_nlt, ka_nle, ka_ne, ka_eq, Int.add_sub_cancel, true_or, or_true, false_or, or_false, false_and, and_false, if_true, if_false, ka_lo, ka_hi, ka_nn, km_sr_sf, km_sr_of, km_up_of, km_sr_us, km_sr_uo, km_sr_sr, km_sr_fl, km_sr_flo, km_up_up, km_up_lt, km_lay, km_unL, km_up_o, km_upx_i, km_upx_s, km_fl2_o, km_is, Option.some.injEq, Sum.inl.injEq, Sum.inr.injEq, Option.toList_some, Option.toList_none, List.cons_append, List.nil_append, ne_eq, true_and, and_true, and_self, not_true_eq_false, not_false_eq_true, true_implies, false_implies, reduceCtorEq]
/-- how many unlike sets of four are met -/
def kdn (e0 e1 e2 e3 t : Int) : Int := (if km_and t e0 = 0 then 0 else 1) + (if km_and t e1 = 0 then 0 else 1) + (if km_and t e2 = 0 then 0 else 1) + (if km_and t e3 = 0 then 0 else 1)
theorem cl_diet41 {q : Nat × Int × Int × Int × Int} {c s : Nat} {Y : km_Mm} {w e0 e1 e2 e3 : Int} (hw : ten w) :
    ∀ (n : Nat) (x i : Int) (o9 : Option km_V) (X : km_Mm), 1023 - x < n → ksb x w → x ≠ 0 → 0 ≤ i → i < x → (∀ b j : Int, b ≠ 92 → X b j = Y b j) → (∀ t : Int, ksb t w → t < x → X 92 t = if t ≠ 0 ∧ Y 89 3 < kdn e0 e1 e2 e3 t then 1000000 else Y 92 t) → (∀ t : Int, x ≤ t → X 92 t = Y 92 t) →
    ∃ M' : km_Mm, (∀ b j : Int, b ≠ 92 → M' b j = Y b j) ∧ (∀ t : Int, ksb t w → M' 92 t = if t ≠ 0 ∧ Y 89 3 < kdn e0 e1 e2 e3 t then 1000000 else Y 92 t) ∧ ∀ Q : Option km_V → km_Al → km_Mm → Prop, (km_G M_X3_forbidDiets 41 [some (.inr (.inr 85)), some (.inl w), some (.inr (.inr 5)), some (.inl e0), some (.inl e1), some (.inl e2), some (.inl e3), some (.inl x), some (.inl i), o9] [] (km_A0 q c s) X Q ↔ Q none (km_A0 q c s) M') := by
  intro n
  have hw' := hw
  unfold ten at hw'
  induction n with
  | zero => intro x i o9 X h hx; have := ksb_le hw hx; omega
  | succ n ih =>
    intro x i o9 X h hx x0 i0 i1 f1 f2 f3
    have lx := ksb_le hw hx
    have tx := ksb_ten hw hx
    have nx := ksb_next hw hx
    have e89 : X 89 = Y 89 := funext fun j => f1 89 j (by decide)
    have ns := fun (X : km_Mm) Q => @r_nextSet q c s X x w lx.1 (by omega) hw.1 (by omega) Q
    have kd : kdn e0 e1 e2 e3 x = (if km_and x e0 = 0 then 0 else 1) + (if km_and x e1 = 0 then 0 else 1) + (if km_and x e2 = 0 then 0 else 1) + (if km_and x e3 = 0 then 0 else 1) := rfl
    have fin : ∀ (p : Option km_V) (Z : km_Mm), (∀ b j : Int, ¬ (b = 92 ∧ j = x) → Z b j = X b j) → Z 92 x = (if Y 89 3 < kdn e0 e1 e2 e3 x then 1000000 else Y 92 x) → (∀ Q : Option km_V → km_Al → km_Mm → Prop, km_G M_X3_forbidDiets 41 [some (.inr (.inr 85)), some (.inl w), some (.inr (.inr 5)), some (.inl e0), some (.inl e1), some (.inl e2), some (.inl e3), some (.inl x), some (.inl i), o9] [] (km_A0 q c s) X Q ↔ km_G M_X3_forbidDiets 41 [some (.inr (.inr 85)), some (.inl w), some (.inr (.inr 5)), some (.inl e0), some (.inl e1), some (.inl e2), some (.inl e3), some (.inl (km_and (x - w) w)), some (.inl (i + 1)), p] [] (km_A0 q c s) Z Q) → ∃ M' : km_Mm, (∀ b j : Int, b ≠ 92 → M' b j = Y b j) ∧ (∀ t : Int, ksb t w → M' 92 t = if t ≠ 0 ∧ Y 89 3 < kdn e0 e1 e2 e3 t then 1000000 else Y 92 t) ∧ ∀ Q : Option km_V → km_Al → km_Mm → Prop, (km_G M_X3_forbidDiets 41 [some (.inr (.inr 85)), some (.inl w), some (.inr (.inr 5)), some (.inl e0), some (.inl e1), some (.inl e2), some (.inl e3), some (.inl x), some (.inl i), o9] [] (km_A0 q c s) X Q ↔ Q none (km_A0 q c s) M') := by
      intro p Z z1 z2 z3
      have st : ∀ (b j : Int), b ≠ 92 → Z b j = Y b j := fun b j h => (z1 b j (fun e => h e.1)).trans (f1 b j h)
      have sv : ∀ t : Int, ksb t w → t ≤ x → Z 92 t = if t ≠ 0 ∧ Y 89 3 < kdn e0 e1 e2 e3 t then 1000000 else Y 92 t := by
        intro t ht htx
        by_cases e : t = x
        · subst e; rw [z2]
          by_cases y : Y 89 3 < kdn e0 e1 e2 e3 t
          · rw [if_pos y, if_pos ⟨x0, y⟩]
          · rw [if_neg y, if_neg (fun w => y w.2)]
        · rw [z1 92 t (fun z => e z.2)]; exact f2 t ht (by omega)
      rcases nx with ⟨a1, a2⟩ | ⟨a1, a2, a3⟩
      · refine ⟨Z, st, fun t ht => sv t ht (by have := ksb_le hw ht; omega), fun Q => ?_⟩
        rw [z3, a2, g_X3_forbidDiets_41]
        simp (config := { decide := true }) (disch := first | decide | assumption | omega | (simp (config := { decide := true }) only [km_sr_sf, km_sr_of, km_up_of, km_up_o, km_upx_i, km_upx_s, km_fl2_o, ne_eq, not_true_eq_false, not_false_eq_true] <;> omega) | fail) only [g_X3_forbidDiets, Int.add_sub_cancel, true_or, or_true, false_or, or_false, false_and, and_false, if_true, if_false, ka_lo, ka_hi, ka_nn, km_sr_sf, km_sr_of, km_up_of, km_sr_us, km_sr_uo, km_sr_sr, km_sr_fl, km_sr_flo, km_up_up, km_up_lt, km_lay, km_unL, km_up_o, km_upx_i, km_upx_s, km_fl2_o, km_is, Option.some.injEq, Sum.inl.injEq, Sum.inr.injEq, Option.toList_some, Option.toList_none, List.cons_append, List.nil_append, ne_eq, true_and, and_true, and_self, not_true_eq_false, not_false_eq_true, true_implies, false_implies, reduceCtorEq]
      · have a4 := ksb_le hw a2
        obtain ⟨M', d1, d2, d3⟩ := ih (km_and (x - w) w) (i + 1) p Z (by omega) a2 (by omega) (by omega) (by omega) st (fun t ht htx => sv t ht (by
          by_cases e : t ≤ x
          · exact e
          · have := a3 t ht (by omega); omega)) (fun t ht => (z1 92 t (fun e => by omega)).trans (f3 t (by omega)))
        exact ⟨M', d1, d2, fun Q => (z3 Q).trans (d3 Q)⟩
    by_cases y : Y 89 3 < kdn e0 e1 e2 e3 x
    · refine fin (some (.inl (kdn e0 e1 e2 e3 x))) (km_up X 92 x 1000000) (fun b j h => km_up_ne h) (by rw [km_up_eq ⟨rfl, rfl⟩, if_pos y]) (fun Q => ?_)
      rw [g_X3_forbidDiets_41]
      rw [kd] at y ⊢
      by_cases c0 : km_and x e0 = 0 <;> by_cases c1 : km_and x e1 = 0 <;> by_cases c2 : km_and x e2 = 0 <;> by_cases c3 : km_and x e3 = 0 <;> simp only [c0, c1, c2, c3, if_true, if_false] at y ⊢ <;> simp (config := { decide := true }) (disch := first | decide | assumption | omega | (simp (config := { decide := true }) only [km_sr_sf, km_sr_of, km_up_of, km_up_o, km_upx_i, km_upx_s, km_fl2_o, ne_eq, not_true_eq_false, not_false_eq_true] <;> omega) | fail) only [g_X3_forbidDiets, x0, c0, c1, c2, c3, e89, y, ns, Int.reduceAdd, ka_lt, ka_le, ka_nlt, ka_nle, ka_ne, ka_eq, Int.add_sub_cancel, true_or, or_true, false_or, or_false, false_and, and_false, if_true, if_false, ka_lo, ka_hi, ka_nn, km_sr_sf, km_sr_of, km_up_of, km_sr_us, km_sr_uo, km_sr_sr, km_sr_fl, km_sr_flo, km_up_up, km_up_lt, km_lay, km_unL, km_up_o, km_upx_i, km_upx_s, km_fl2_o, km_is, Option.some.injEq, Sum.inl.injEq, Sum.inr.injEq, Option.toList_some, Option.toList_none, List.cons_append, List.nil_append, ne_eq, true_and, and_true, and_self, not_true_eq_false, not_false_eq_true, true_implies, false_implies, reduceCtorEq]
    · refine fin (some (.inl (kdn e0 e1 e2 e3 x))) X (fun b j h => rfl) (by rw [if_neg y]; exact f3 x (Int.le_refl _)) (fun Q => ?_)
      rw [g_X3_forbidDiets_41]
      rw [kd] at y ⊢
      by_cases c0 : km_and x e0 = 0 <;> by_cases c1 : km_and x e1 = 0 <;> by_cases c2 : km_and x e2 = 0 <;> by_cases c3 : km_and x e3 = 0 <;> simp only [c0, c1, c2, c3, if_true, if_false] at y ⊢ <;> simp (config := { decide := true }) (disch := first | decide | assumption | omega | (simp (config := { decide := true }) only [km_sr_sf, km_sr_of, km_up_of, km_up_o, km_upx_i, km_upx_s, km_fl2_o, ne_eq, not_true_eq_false, not_false_eq_true] <;> omega) | fail) only [g_X3_forbidDiets, x0, c0, c1, c2, c3, e89, y, ns, Int.reduceAdd, ka_lt, ka_le, ka_nlt, ka_nle, ka_ne, ka_eq, Int.add_sub_cancel, true_or, or_true, false_or, or_false, false_and, and_false, if_true, if_false, ka_lo, ka_hi, ka_nn, km_sr_sf, km_sr_of, km_up_of, km_sr_us, km_sr_uo, km_sr_sr, km_sr_fl, km_sr_flo, km_up_up, km_up_lt, km_lay, km_unL, km_up_o, km_upx_i, km_upx_s, km_fl2_o, km_is, Option.some.injEq, Sum.inl.injEq, Sum.inr.injEq, Option.toList_some, Option.toList_none, List.cons_append, List.nil_append, ne_eq, true_and, and_true, and_self, not_true_eq_false, not_false_eq_true, true_implies, false_implies, reduceCtorEq]
theorem cl_forbidDiets {q : Nat × Int × Int × Int × Int} {c s : Nat} {Y : km_Mm} {w : Int} (hk : 0 ≤ Y 5 1 ∧ Y 5 1 ≤ 10) (hw : ten w) :
    ∃ (M' : km_Mm), (∀ b j : Int, b ≠ 92 → M' b j = Y b j) ∧ (∀ t : Int, ksb t w → M' 92 t = if t ≠ 0 ∧ Y 89 3 < kdn (km_wt Y 10 0 (Y 5 1).toNat 0 0) (km_wt Y 10 1 (Y 5 1).toNat 0 0) (km_wt Y 10 2 (Y 5 1).toNat 0 0) (km_wt Y 10 3 (Y 5 1).toNat 0 0) t then 1000000 else Y 92 t) ∧ ∀ Q : Option km_V → km_Al → km_Mm → Prop, (km_E M_X3_forbidDiets [.inr (.inr 85), .inl w, .inr (.inr 5)] (km_A0 q c s) Y Q ↔ Q none (km_A0 q c s) M') := by
  have wt := fun v Q => @r_withTrait q c s 3 v (by decide) Y hk Q
  have w7 : (7 : Int) + 3 = 10 := rfl
  have hw' := hw
  unfold ten at hw'
  have ns := fun (X : km_Mm) Q => @r_nextSet q c s X 0 w (by decide) (by decide) hw.1 (by omega) Q
  rcases ksb_next hw (ksb_0 (w := w)) with ⟨a1, a2⟩ | ⟨a1, a2, a3⟩
  · refine ⟨Y, fun _ _ _ => rfl, fun t ht => ?_, fun Q => ?_⟩
    · have := ksb_le hw ht
      rw [if_neg (fun z => z.1 (by omega))]
    · rw [e_X3_forbidDiets]
      simp (config := { decide := true }) (disch := first | decide | assumption | omega | (simp (config := { decide := true }) only [km_sr_sf, km_sr_of, km_up_of, km_up_o, km_upx_i, km_upx_s, km_fl2_o, ne_eq, not_true_eq_false, not_false_eq_true] <;> omega) | fail) only [g_X3_forbidDiets, wt, w7, ns, a2, Int.add_sub_cancel, true_or, or_true, false_or, or_false, false_and, and_false, if_true, if_false, ka_lo, ka_hi, ka_nn, km_sr_sf, km_sr_of, km_up_of, km_sr_us, km_sr_uo, km_sr_sr, km_sr_fl, km_sr_flo, km_up_up, km_up_lt, km_lay, km_unL, km_up_o, km_upx_i, km_upx_s, km_fl2_o, km_is, Option.some.injEq, Sum.inl.injEq, Sum.inr.injEq, Option.toList_some, Option.toList_none, List.cons_append, List.nil_append, ne_eq, true_and, and_true, and_self, not_true_eq_false, not_false_eq_true, true_implies, false_implies, reduceCtorEq]
      rw [g_X3_forbidDiets_41]
      simp (config := { decide := true }) (disch := first | decide | assumption | omega | (simp (config := { decide := true }) only [km_sr_sf, km_sr_of, km_up_of, km_up_o, km_upx_i, km_upx_s, km_fl2_o, ne_eq, not_true_eq_false, not_false_eq_true] <;> omega) | fail) only [g_X3_forbidDiets, Int.add_sub_cancel, true_or, or_true, false_or, or_false, false_and, and_false, if_true, if_false, ka_lo, ka_hi, ka_nn, km_sr_sf, km_sr_of, km_up_of, km_sr_us, km_sr_uo, km_sr_sr, km_sr_fl, km_sr_flo, km_up_up, km_up_lt, km_lay, km_unL, km_up_o, km_upx_i, km_upx_s, km_fl2_o, km_is, Option.some.injEq, Sum.inl.injEq, Sum.inr.injEq, Option.toList_some, Option.toList_none, List.cons_append, List.nil_append, ne_eq, true_and, and_true, and_self, not_true_eq_false, not_false_eq_true, true_implies, false_implies, reduceCtorEq]
  · have a4 := ksb_le hw a2
    obtain ⟨M', d1, d2, d3⟩ := @cl_diet41 q c s Y w (km_wt Y 10 0 (Y 5 1).toNat 0 0) (km_wt Y 10 1 (Y 5 1).toNat 0 0) (km_wt Y 10 2 (Y 5 1).toNat 0 0) (km_wt Y 10 3 (Y 5 1).toNat 0 0) hw 1024 (km_and (0 - w) w) 0 none Y (by omega) a2 (by omega) (by omega) a1 (fun _ _ _ => rfl) (fun t ht htx => by
      by_cases z : t = 0
      · rw [if_neg (fun w => w.1 z)]
      · have := a3 t ht (by have := ht.1; omega); omega) (fun _ _ => rfl)
    refine ⟨M', d1, d2, fun Q => ?_⟩
    rw [e_X3_forbidDiets]
    simp (config := { decide := true }) (disch := first | decide | assumption | omega | (simp (config := { decide := true }) only [km_sr_sf, km_sr_of, km_up_of, km_up_o, km_upx_i, km_upx_s, km_fl2_o, ne_eq, not_true_eq_false, not_false_eq_true] <;> omega) | fail) only [g_X3_forbidDiets, wt, w7, ns, d3, Int.add_sub_cancel, true_or, or_true, false_or, or_false, false_and, and_false, if_true, if_false, ka_lo, ka_hi, ka_nn, km_sr_sf, km_sr_of, km_up_of, km_sr_us, km_sr_uo, km_sr_sr, km_sr_fl, km_sr_flo, km_up_up, km_up_lt, km_lay, km_unL, km_up_o, km_upx_i, km_upx_s, km_fl2_o, km_is, Option.some.injEq, Sum.inl.injEq, Sum.inr.injEq, Option.toList_some, Option.toList_none, List.cons_append, List.nil_append, ne_eq, true_and, and_true, and_self, not_true_eq_false, not_false_eq_true, true_implies, false_implies, reduceCtorEq]

