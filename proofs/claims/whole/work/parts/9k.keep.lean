/-! ===== the class keeps beds and meals ===== -/
theorem cl_place15 {q : Nat × Int × Int × Int × Int} {c s : Nat} {Z : km_Mm} {bb p n S : Int} {f0 : Int → Int} (hS : Z 99 p = S) (tS : ten S) (p0 : 0 ≤ p) (p1 : p < 4) (b0 : 0 ≤ bb) (b1 : bb < 185) (b9 : bb ≠ 99) (bk : km_kd (km_A0 q c s) bb = 0) (bl : km_ln (km_A0 q c s) bb = 10) (Q : Option km_V → km_Al → km_Mm → Prop) :
    ∀ (N i : Nat) (f : Int → Int), i + N = 10 → (∀ j : Int, f j = if 0 ≤ j ∧ j < i ∧ tb S j = true then p else f0 j) → (km_G M_X5_place 15 [some (.inr (.inr 99)), some (.inl n), some (.inr (.inr bb)), some (.inl p), some (.inl (i : Int))] [] (km_A0 q c s) (km_sr Z bb f) Q ↔ km_G M_X5_place 7 [some (.inr (.inr 99)), some (.inl n), some (.inr (.inr bb)), some (.inl (p + 1)), some (.inl 10)] [] (km_A0 q c s) (km_sr Z bb (fun j => if 0 ≤ j ∧ j < 10 ∧ tb S j = true then p else f0 j)) Q) := by
  intro N
  have S2 : S < 2147483648 := by unfold ten at tS; omega
  have nn : ¬ bb = -1 := by omega
  have n9 : ¬ (99 : Int) = bb := fun e => b9 e.symm
  induction N with
  | zero =>
    intro i f h hf
    have e : i = 10 := by omega
    subst e
    have ef : f = (fun j => if 0 ≤ j ∧ j < 10 ∧ tb S j = true then p else f0 j) := funext fun j => hf j
    rw [g_X5_place_15, ef, show ((10 : Nat) : Int) = 10 from rfl]
    simp (config := { decide := true }) (disch := first | decide | assumption | omega | (simp (config := { decide := true }) only [km_sr_sf, km_sr_of, km_up_of, km_up_o, km_upx_i, km_upx_s, km_fl2_o, ne_eq, not_true_eq_false, not_false_eq_true] <;> omega) | fail) only [g_X5_place, ka_lt, ka_le, ka_nlt, ka_nle, ka_ne, ka_eq, Int.add_sub_cancel, true_or, or_true, false_or, or_false, false_and, and_false, if_true, if_false, ka_lo, ka_hi, ka_nn, km_sr_sf, km_sr_of, km_up_of, km_sr_us, km_sr_uo, km_sr_sr, km_sr_fl, km_sr_flo, km_up_up, km_up_lt, km_lay, km_unL, km_up_o, km_upx_i, km_upx_s, km_fl2_o, km_is, Option.some.injEq, Sum.inl.injEq, Sum.inr.injEq, Option.toList_some, Option.toList_none, List.cons_append, List.nil_append, ne_eq, true_and, and_true, and_self, not_true_eq_false, not_false_eq_true, true_implies, false_implies, reduceCtorEq]
  | succ N ih =>
    intro i f h hf
    have ei : ((i + 1 : Nat) : Int) = (i : Int) + 1 := by omega
    have bi := ks_bit (x := S) (k := i) tS.1 S2 (by omega) (by omega)
    by_cases z : tb S i = true
    · rw [if_pos z] at bi
      have i1 := ih (i + 1) (km_u1 f i p) (by omega) (fun j => by
        unfold km_u1
        rw [hf j, ei]
        by_cases e : j = i
        · rw [if_pos e, if_pos ⟨by omega, by omega, by rw [e]; exact z⟩]
        · rw [if_neg e]
          by_cases y : 0 ≤ j ∧ j < i ∧ tb S j = true
          · rw [if_pos y, if_pos ⟨y.1, by omega, y.2.2⟩]
          · rw [if_neg y, if_neg (fun w => y ⟨w.1, by omega, w.2.2⟩)])
      rw [← i1, g_X5_place_15, ei]
      simp (config := { decide := true }) (disch := first | decide | assumption | omega | (simp (config := { decide := true }) only [km_sr_sf, km_sr_of, km_up_of, km_up_o, km_upx_i, km_upx_s, km_fl2_o, ne_eq, not_true_eq_false, not_false_eq_true] <;> omega) | fail) only [g_X5_place, nn, n9, hS, bi, bk, bl, ka_lt, ka_le, ka_nlt, ka_nle, ka_ne, ka_eq, Int.add_sub_cancel, true_or, or_true, false_or, or_false, false_and, and_false, if_true, if_false, ka_lo, ka_hi, ka_nn, km_sr_sf, km_sr_of, km_up_of, km_sr_us, km_sr_uo, km_sr_sr, km_sr_fl, km_sr_flo, km_up_up, km_up_lt, km_lay, km_unL, km_up_o, km_upx_i, km_upx_s, km_fl2_o, km_is, Option.some.injEq, Sum.inl.injEq, Sum.inr.injEq, Option.toList_some, Option.toList_none, List.cons_append, List.nil_append, ne_eq, true_and, and_true, and_self, not_true_eq_false, not_false_eq_true, true_implies, false_implies, reduceCtorEq]
    · rw [if_neg z] at bi
      have i1 := ih (i + 1) f (by omega) (fun j => by
        rw [hf j, ei]
        by_cases e : j = i
        · subst e; rw [if_neg (fun w => z w.2.2), if_neg (fun w => z w.2.2)]
        · by_cases y : 0 ≤ j ∧ j < i ∧ tb S j = true
          · rw [if_pos y, if_pos ⟨y.1, by omega, y.2.2⟩]
          · rw [if_neg y, if_neg (fun w => y ⟨w.1, by omega, w.2.2⟩)])
      rw [← i1, g_X5_place_15, ei]
      simp (config := { decide := true }) (disch := first | decide | assumption | omega | (simp (config := { decide := true }) only [km_sr_sf, km_sr_of, km_up_of, km_up_o, km_upx_i, km_upx_s, km_fl2_o, ne_eq, not_true_eq_false, not_false_eq_true] <;> omega) | fail) only [g_X5_place, nn, n9, hS, bi, bk, bl, ka_lt, ka_le, ka_nlt, ka_nle, ka_ne, ka_eq, Int.add_sub_cancel, true_or, or_true, false_or, or_false, false_and, and_false, if_true, if_false, ka_lo, ka_hi, ka_nn, km_sr_sf, km_sr_of, km_up_of, km_sr_us, km_sr_uo, km_sr_sr, km_sr_fl, km_sr_flo, km_up_up, km_up_lt, km_lay, km_unL, km_up_o, km_upx_i, km_upx_s, km_fl2_o, km_is, Option.some.injEq, Sum.inl.injEq, Sum.inr.injEq, Option.toList_some, Option.toList_none, List.cons_append, List.nil_append, ne_eq, true_and, and_true, and_self, not_true_eq_false, not_false_eq_true, true_implies, false_implies, reduceCtorEq]
theorem cl_place7 {q : Nat × Int × Int × Int × Int} {c s : Nat} {Z : km_Mm} {bb : Int} {n : Nat} (n4 : n ≤ 4) (tS : ∀ p : Int, 0 ≤ p → p < n → ten (Z 99 p)) (b0 : 0 ≤ bb) (b1 : bb < 185) (b9 : bb ≠ 99) (bk : km_kd (km_A0 q c s) bb = 0) (bl : km_ln (km_A0 q c s) bb = 10) (Q : Option km_V → km_Al → km_Mm → Prop) :
    ∀ (N p : Nat) (o : Option km_V), p + N = n → (km_G M_X5_place 7 [some (.inr (.inr 99)), some (.inl (n : Int)), some (.inr (.inr bb)), some (.inl (p : Int)), o] [] (km_A0 q c s) (km_sr Z bb (fun j => if 0 ≤ j ∧ j < 10 then kdP (Z 99) p j else Z bb j)) Q ↔ Q none (km_A0 q c s) (km_sr Z bb (fun j => if 0 ≤ j ∧ j < 10 then kdP (Z 99) n j else Z bb j))) := by
  intro N
  induction N with
  | zero =>
    intro p o h
    have e : p = n := by omega
    subst e
    rw [g_X5_place_7]
    simp (config := { decide := true }) (disch := first | decide | assumption | omega | (simp (config := { decide := true }) only [km_sr_sf, km_sr_of, km_up_of, km_up_o, km_upx_i, km_upx_s, km_fl2_o, ne_eq, not_true_eq_false, not_false_eq_true] <;> omega) | fail) only [g_X5_place, Int.le_refl, ka_lt, ka_le, ka_nlt, ka_nle, ka_ne, ka_eq, Int.add_sub_cancel, true_or, or_true, false_or, or_false, false_and, and_false, if_true, if_false, ka_lo, ka_hi, ka_nn, km_sr_sf, km_sr_of, km_up_of, km_sr_us, km_sr_uo, km_sr_sr, km_sr_fl, km_sr_flo, km_up_up, km_up_lt, km_lay, km_unL, km_up_o, km_upx_i, km_upx_s, km_fl2_o, km_is, Option.some.injEq, Sum.inl.injEq, Sum.inr.injEq, Option.toList_some, Option.toList_none, List.cons_append, List.nil_append, ne_eq, true_and, and_true, and_self, not_true_eq_false, not_false_eq_true, true_implies, false_implies, reduceCtorEq]
  | succ N ih =>
    intro p o h
    have ep : ((p + 1 : Nat) : Int) = (p : Int) + 1 := by omega
    have i1 := ih (p + 1) (some (.inl 10)) (by omega)
    have k := @cl_place15 q c s Z bb p n (Z 99 p) (fun j => if 0 ≤ j ∧ j < 10 then kdP (Z 99) p j else Z bb j) rfl (tS p (by omega) (by omega)) (by omega) (by omega) b0 b1 b9 bk bl Q 10 0 (fun j => if 0 ≤ j ∧ j < 10 then kdP (Z 99) p j else Z bb j) (by omega) (fun j => by rw [if_neg (fun w : 0 ≤ j ∧ j < ((0 : Nat) : Int) ∧ tb (Z 99 p) j = true => by omega)])
    have ef : (fun j => if 0 ≤ j ∧ j < 10 ∧ tb (Z 99 p) j = true then (p : Int) else (fun j => if 0 ≤ j ∧ j < 10 then kdP (Z 99) p j else Z bb j) j) = (fun j => if 0 ≤ j ∧ j < 10 then kdP (Z 99) (p + 1) j else Z bb j) := funext fun j => by
      show (if 0 ≤ j ∧ j < 10 ∧ tb (Z 99 p) j = true then (p : Int) else (if 0 ≤ j ∧ j < 10 then kdP (Z 99) p j else Z bb j)) = if 0 ≤ j ∧ j < 10 then (if tb (Z 99 p) j = true then (p : Int) else kdP (Z 99) p j) else Z bb j
      by_cases y : 0 ≤ j ∧ j < 10
      · rw [if_pos y, if_pos y]
        by_cases z : tb (Z 99 p) j = true
        · rw [if_pos z, if_pos ⟨y.1, y.2, z⟩]
        · rw [if_neg z, if_neg (fun w => z w.2.2)]
      · rw [if_neg y, if_neg y, if_neg (fun w => y ⟨w.1, w.2.1⟩)]
    rw [ef, show ((0 : Nat) : Int) = 0 from rfl] at k
    rw [← i1, g_X5_place_7, ep]
    simp (config := { decide := true }) (disch := first | decide | assumption | omega | (simp (config := { decide := true }) only [km_sr_sf, km_sr_of, km_up_of, km_up_o, km_upx_i, km_upx_s, km_fl2_o, ne_eq, not_true_eq_false, not_false_eq_true] <;> omega) | fail) only [g_X5_place, k, ka_lt, ka_le, ka_nlt, ka_nle, ka_ne, ka_eq, Int.add_sub_cancel, true_or, or_true, false_or, or_false, false_and, and_false, if_true, if_false, ka_lo, ka_hi, ka_nn, km_sr_sf, km_sr_of, km_up_of, km_sr_us, km_sr_uo, km_sr_sr, km_sr_fl, km_sr_flo, km_up_up, km_up_lt, km_lay, km_unL, km_up_o, km_upx_i, km_upx_s, km_fl2_o, km_is, Option.some.injEq, Sum.inl.injEq, Sum.inr.injEq, Option.toList_some, Option.toList_none, List.cons_append, List.nil_append, ne_eq, true_and, and_true, and_self, not_true_eq_false, not_false_eq_true, true_implies, false_implies, reduceCtorEq]
theorem cl_place {q : Nat × Int × Int × Int × Int} {c s : Nat} {Z : km_Mm} {bb nn : Int} (n0 : 0 ≤ nn) (n4 : nn ≤ 4) (tS : ∀ p : Int, 0 ≤ p → p < nn → ten (Z 99 p)) (b0 : 0 ≤ bb) (b1 : bb < 185) (b9 : bb ≠ 99) (bk : km_kd (km_A0 q c s) bb = 0) (bl : km_ln (km_A0 q c s) bb = 10) (Q : Option km_V → km_Al → km_Mm → Prop) :
    km_E M_X5_place [.inr (.inr 99), .inl nn, .inr (.inr bb)] (km_A0 q c s) Z Q ↔ Q none (km_A0 q c s) (km_sr Z bb (fun j => if 0 ≤ j ∧ j < 10 then kdP (Z 99) nn.toNat j else Z bb j)) := by
  have en : ((nn.toNat : Nat) : Int) = nn := by omega
  have k := @cl_place7 q c s Z bb nn.toNat (by omega) (by rw [en]; exact tS) b0 b1 b9 bk bl Q nn.toNat 0 none (by omega)
  have fi := fun Q => @r_fill q c s Z bb (-1) 10 b0 (by simp (config := { decide := true }) only [km_lay, km_unL, km_up_o, km_upx_i, km_upx_s, km_fl2_o, km_is, Option.some.injEq, Sum.inl.injEq, Sum.inr.injEq, Option.toList_some, Option.toList_none, List.cons_append, List.nil_append, ne_eq, true_and, and_true, and_self, not_true_eq_false, not_false_eq_true, true_implies, false_implies, reduceCtorEq]; exact b1) bk bl (by decide) Q
  have ef : (fun j => if 0 ≤ j ∧ j < 10 then kdP (Z 99) 0 j else Z bb j) = (fun j => if 0 ≤ j ∧ j < 10 then -1 else Z bb j) := rfl
  rw [en, ef, show ((0 : Nat) : Int) = 0 from rfl] at k
  have nb : ¬ bb = -1 := by omega
  rw [es_X5_place]
  simp (config := { decide := true }) (disch := first | decide | assumption | omega | (simp (config := { decide := true }) only [km_sr_sf, km_sr_of, km_up_of, km_up_o, km_upx_i, km_upx_s, km_fl2_o, ne_eq, not_true_eq_false, not_false_eq_true] <;> omega) | fail) only [g_X5_place, nb, fi, km_fl_sr, k, Int.add_sub_cancel, true_or, or_true, false_or, or_false, false_and, and_false, if_true, if_false, ka_lo, ka_hi, ka_nn, km_sr_sf, km_sr_of, km_up_of, km_sr_us, km_sr_uo, km_sr_sr, km_sr_fl, km_sr_flo, km_up_up, km_up_lt, km_lay, km_unL, km_up_o, km_upx_i, km_upx_s, km_fl2_o, km_is, Option.some.injEq, Sum.inl.injEq, Sum.inr.injEq, Option.toList_some, Option.toList_none, List.cons_append, List.nil_append, ne_eq, true_and, and_true, and_self, not_true_eq_false, not_false_eq_true, true_implies, false_implies, reduceCtorEq]
theorem cl_keepBedding {q : Nat × Int × Int × Int × Int} {c s : Nat} {Z : km_Mm} {nn : Int} (n0 : 0 ≤ nn) (n4 : nn ≤ 4) (tS : ∀ p : Int, 0 ≤ p → p < nn → ten (Z 99 p)) (Q : Option km_V → km_Al → km_Mm → Prop) :
    km_E M_X5_keepBedding [.inr (.inr 100), .inr (.inr 99), .inl nn] (km_A0 q c s) Z Q ↔ Q none (km_A0 q c s) (km_sr Z 102 (fun j => if 0 ≤ j ∧ j < 10 then kdP (Z 99) nn.toNat j else Z 102 j)) := by
  have k := fun Q => @cl_place q c s Z 102 nn n0 n4 tS (by decide) (by decide) (by decide) (by simp (config := { decide := true }) only [km_lay, km_unL, km_up_o, km_upx_i, km_upx_s, km_fl2_o, km_is, Option.some.injEq, Sum.inl.injEq, Sum.inr.injEq, Option.toList_some, Option.toList_none, List.cons_append, List.nil_append, ne_eq, true_and, and_true, and_self, not_true_eq_false, not_false_eq_true, true_implies, false_implies, reduceCtorEq]) (by simp (config := { decide := true }) only [km_lay, km_unL, km_up_o, km_upx_i, km_upx_s, km_fl2_o, km_is, Option.some.injEq, Sum.inl.injEq, Sum.inr.injEq, Option.toList_some, Option.toList_none, List.cons_append, List.nil_append, ne_eq, true_and, and_true, and_self, not_true_eq_false, not_false_eq_true, true_implies, false_implies, reduceCtorEq]) Q
  rw [e_X5_keepBedding]
  simp (config := { decide := true }) (disch := first | decide | assumption | omega | (simp (config := { decide := true }) only [km_sr_sf, km_sr_of, km_up_of, km_up_o, km_upx_i, km_upx_s, km_fl2_o, ne_eq, not_true_eq_false, not_false_eq_true] <;> omega) | fail) only [g_X5_keepBedding, k, Int.add_sub_cancel, true_or, or_true, false_or, or_false, false_and, and_false, if_true, if_false, ka_lo, ka_hi, ka_nn, km_sr_sf, km_sr_of, km_up_of, km_sr_us, km_sr_uo, km_sr_sr, km_sr_fl, km_sr_flo, km_up_up, km_up_lt, km_lay, km_unL, km_up_o, km_upx_i, km_upx_s, km_fl2_o, km_is, Option.some.injEq, Sum.inl.injEq, Sum.inr.injEq, Option.toList_some, Option.toList_none, List.cons_append, List.nil_append, ne_eq, true_and, and_true, and_self, not_true_eq_false, not_false_eq_true, true_implies, false_implies, reduceCtorEq]
/-- who sat with whom, behind a MEAL -/
def kst (Z : km_Mm) (r : Int → Int) (j : Int) : Int := if r j = -1 then Z 112 j else km_or (Z 112 j) (Z 99 (r j))
theorem cl_meal16 {q : Nat × Int × Int × Int × Int} {c s : Nat} {Z : km_Mm} {d n : Int} (d0 : 0 ≤ d) (d1 : d < 8) (hd : Z 100 4 = d) (hr : ∀ j : Int, 0 ≤ j → j < 10 → -1 ≤ Z (104 + d) j ∧ Z (104 + d) j < 4) (Q : Option km_V → km_Al → km_Mm → Prop) :
    ∀ (N i : Nat) (f : Int → Int), i + N = 10 → (∀ j : Int, f j = if 0 ≤ j ∧ j < i then kst Z (Z (104 + d)) j else Z 112 j) → (km_G M_X5_keepMeal 16 [some (.inr (.inr 100)), some (.inr (.inr 99)), some (.inl n), some (.inl (i : Int))] [] (km_A0 q c s) (km_sr Z 112 f) Q ↔ Q none (km_A0 q c s) (km_up (km_sr Z 112 (fun j => if 0 ≤ j ∧ j < 10 then kst Z (Z (104 + d)) j else Z 112 j)) 100 4 (d + 1))) := by
  intro N
  have r103 := km_row103 q c s
  have rc := @km_rowc103 q c s d d0 d1
  have e104 : 103 + 1 + d = 104 + d := rfl
  rw [e104] at rc
  have nn : ¬ (104 + d = -1) := by omega
  have n112 : ¬ (104 + d = 112) := by omega
  induction N with
  | zero =>
    intro i f h hf
    have e : i = 10 := by omega
    subst e
    have ef : f = (fun j => if 0 ≤ j ∧ j < 10 then kst Z (Z (104 + d)) j else Z 112 j) := funext fun j => hf j
    rw [g_X5_keepMeal_16, ef, show ((10 : Nat) : Int) = 10 from rfl]
    simp (config := { decide := true }) (disch := first | decide | assumption | omega | (simp (config := { decide := true }) only [km_sr_sf, km_sr_of, km_up_of, km_up_o, km_upx_i, km_upx_s, km_fl2_o, ne_eq, not_true_eq_false, not_false_eq_true] <;> omega) | fail) only [g_X5_keepMeal, hd, ka_lt, ka_le, ka_nlt, ka_nle, ka_ne, ka_eq, Int.add_sub_cancel, true_or, or_true, false_or, or_false, false_and, and_false, if_true, if_false, ka_lo, ka_hi, ka_nn, km_sr_sf, km_sr_of, km_up_of, km_sr_us, km_sr_uo, km_sr_sr, km_sr_fl, km_sr_flo, km_up_up, km_up_lt, km_lay, km_unL, km_up_o, km_upx_i, km_upx_s, km_fl2_o, km_is, Option.some.injEq, Sum.inl.injEq, Sum.inr.injEq, Option.toList_some, Option.toList_none, List.cons_append, List.nil_append, ne_eq, true_and, and_true, and_self, not_true_eq_false, not_false_eq_true, true_implies, false_implies, reduceCtorEq]
  | succ N ih =>
    intro i f h hf
    have ei : ((i + 1 : Nat) : Int) = (i : Int) + 1 := by omega
    have hri := hr i (by omega) (by omega)
    have fi : f i = Z 112 i := by rw [hf i, if_neg (by omega)]
    by_cases z : Z (104 + d) i = -1
    · have i1 := ih (i + 1) f (by omega) (fun j => by
        rw [hf j, ei]
        by_cases e : j = i
        · subst e; rw [if_neg (by omega), if_pos (by omega)]; unfold kst; rw [if_pos z]
        · by_cases y : 0 ≤ j ∧ j < i
          · rw [if_pos y, if_pos ⟨y.1, by omega⟩]
          · rw [if_neg y, if_neg (fun w => y ⟨w.1, by omega⟩)])
      rw [← i1, g_X5_keepMeal_16, ei]
      simp (config := { decide := true }) (disch := first | decide | assumption | omega | (simp (config := { decide := true }) only [km_sr_sf, km_sr_of, km_up_of, km_up_o, km_upx_i, km_upx_s, km_fl2_o, ne_eq, not_true_eq_false, not_false_eq_true] <;> omega) | fail) only [g_X5_keepMeal, hd, r103, e104, rc.1, rc.2, nn, n112, z, ka_lt, ka_le, ka_nlt, ka_nle, ka_ne, ka_eq, Int.add_sub_cancel, true_or, or_true, false_or, or_false, false_and, and_false, if_true, if_false, ka_lo, ka_hi, ka_nn, km_sr_sf, km_sr_of, km_up_of, km_sr_us, km_sr_uo, km_sr_sr, km_sr_fl, km_sr_flo, km_up_up, km_up_lt, km_lay, km_unL, km_up_o, km_upx_i, km_upx_s, km_fl2_o, km_is, Option.some.injEq, Sum.inl.injEq, Sum.inr.injEq, Option.toList_some, Option.toList_none, List.cons_append, List.nil_append, ne_eq, true_and, and_true, and_self, not_true_eq_false, not_false_eq_true, true_implies, false_implies, reduceCtorEq]
    · have i1 := ih (i + 1) (km_u1 f i (km_or (Z 112 i) (Z 99 (Z (104 + d) i)))) (by omega) (fun j => by
        unfold km_u1
        rw [hf j, ei]
        by_cases e : j = i
        · rw [if_pos e, if_pos ⟨by omega, by omega⟩]; unfold kst; rw [e, if_neg z]
        · rw [if_neg e]
          by_cases y : 0 ≤ j ∧ j < i
          · rw [if_pos y, if_pos ⟨y.1, by omega⟩]
          · rw [if_neg y, if_neg (fun w => y ⟨w.1, by omega⟩)])
      rw [← i1, g_X5_keepMeal_16, ei]
      simp (config := { decide := true }) (disch := first | decide | assumption | omega | (simp (config := { decide := true }) only [km_sr_sf, km_sr_of, km_up_of, km_up_o, km_upx_i, km_upx_s, km_fl2_o, ne_eq, not_true_eq_false, not_false_eq_true] <;> omega) | fail) only [g_X5_keepMeal, hd, r103, e104, rc.1, rc.2, nn, n112, z, fi, ka_lt, ka_le, ka_nlt, ka_nle, ka_ne, ka_eq, Int.add_sub_cancel, true_or, or_true, false_or, or_false, false_and, and_false, if_true, if_false, ka_lo, ka_hi, ka_nn, km_sr_sf, km_sr_of, km_up_of, km_sr_us, km_sr_uo, km_sr_sr, km_sr_fl, km_sr_flo, km_up_up, km_up_lt, km_lay, km_unL, km_up_o, km_upx_i, km_upx_s, km_fl2_o, km_is, Option.some.injEq, Sum.inl.injEq, Sum.inr.injEq, Option.toList_some, Option.toList_none, List.cons_append, List.nil_append, ne_eq, true_and, and_true, and_self, not_true_eq_false, not_false_eq_true, true_implies, false_implies, reduceCtorEq]
theorem cl_keepMeal {q : Nat × Int × Int × Int × Int} {c s : Nat} {Z : km_Mm} {nn d : Int} (n0 : 0 ≤ nn) (n4 : nn ≤ 4) (tS : ∀ p : Int, 0 ≤ p → p < nn → ten (Z 99 p)) (d0 : 0 ≤ d) (d1 : d < 8) (hd : Z 100 4 = d) :
    ∃ M' : km_Mm, (∀ b j : Int, b ≠ 104 + d → b ≠ 112 → ¬ (b = 100 ∧ j = 4) → M' b j = Z b j) ∧ (∀ j : Int, 0 ≤ j → j < 10 → M' (104 + d) j = kdP (Z 99) nn.toNat j) ∧ (∀ j : Int, 0 ≤ j → j < 10 → M' 112 j = kst Z (kdP (Z 99) nn.toNat) j) ∧ M' 100 4 = d + 1 ∧ ∀ Q : Option km_V → km_Al → km_Mm → Prop, (km_E M_X5_keepMeal [.inr (.inr 100), .inr (.inr 99), .inl nn] (km_A0 q c s) Z Q ↔ Q none (km_A0 q c s) M') := by
  have r103 := km_row103 q c s
  have rc := @km_rowc103 q c s d d0 d1
  have e104 : 103 + 1 + d = 104 + d := rfl
  rw [e104] at rc
  have nk : ¬ (104 + d = -1) := by omega
  have k := fun Q => @cl_place q c s Z (104 + d) nn n0 n4 tS (by omega) (by omega) (by omega) rc.1 rc.2 Q
  have kb : ∀ (n : Nat) (j : Int), -1 ≤ kdP (Z 99) n j ∧ kdP (Z 99) n j < n := by
    intro n j
    induction n with
    | zero => show -1 ≤ (-1 : Int) ∧ (-1 : Int) < _; omega
    | succ n ih => unfold kdP; split <;> omega
  obtain ⟨T, hT⟩ : ∃ T : km_Mm, T = km_sr Z (104 + d) (fun j => if 0 ≤ j ∧ j < 10 then kdP (Z 99) nn.toNat j else Z (104 + d) j) := ⟨_, rfl⟩
  rw [← hT] at k
  have To : ∀ b j : Int, b ≠ 104 + d → T b j = Z b j := fun b j h => by rw [hT, km_sr_o h]
  have Ts : ∀ j : Int, 0 ≤ j → j < 10 → T (104 + d) j = kdP (Z 99) nn.toNat j := fun j j0 j1 => by rw [hT, km_sr_s, if_pos ⟨j0, j1⟩]
  have l := fun Q => @cl_meal16 q c s T d nn d0 d1 ((To _ _ (by omega)).trans hd) (fun j j0 j1 => by rw [Ts j j0 j1]; have := kb nn.toNat j; omega) Q 10 0 (T 112) (by omega) (fun j => by rw [if_neg (by omega)])
  rw [show ((0 : Nat) : Int) = 0 from rfl, km_sr_id] at l
  have T4 : T 100 4 = d := (To _ _ (by omega)).trans hd
  refine ⟨km_up (km_sr T 112 (fun j => if 0 ≤ j ∧ j < 10 then kst T (T (104 + d)) j else T 112 j)) 100 4 (d + 1), ?_, ?_, ?_, ?_, fun Q => ?_⟩
  · intro b j h1 h2 h3
    rw [km_up_ne h3, km_sr_o h2, To b j h1]
  · intro j j0 j1
    rw [km_up_ne (by omega), km_sr_o (by omega), Ts j j0 j1]
  · intro j j0 j1
    rw [km_up_ne (by omega), km_sr_s, if_pos ⟨j0, j1⟩]
    unfold kst
    rw [Ts j j0 j1, To 112 j (by omega), To 99 _ (by omega)]
  · rw [km_up_eq ⟨rfl, rfl⟩]
  · rw [e_X5_keepMeal]
    simp (config := { decide := true }) (disch := first | decide | assumption | omega | (simp (config := { decide := true }) only [km_sr_sf, km_sr_of, km_up_of, km_up_o, km_upx_i, km_upx_s, km_fl2_o, ne_eq, not_true_eq_false, not_false_eq_true] <;> omega) | fail) only [g_X5_keepMeal, hd, r103, e104, rc.1, rc.2, nk, k, l, ka_lt, ka_le, ka_nlt, ka_nle, ka_ne, ka_eq, Int.add_sub_cancel, true_or, or_true, false_or, or_false, false_and, and_false, if_true, if_false, ka_lo, ka_hi, ka_nn, km_sr_sf, km_sr_of, km_up_of, km_sr_us, km_sr_uo, km_sr_sr, km_sr_fl, km_sr_flo, km_up_up, km_up_lt, km_lay, km_unL, km_up_o, km_upx_i, km_upx_s, km_fl2_o, km_is, Option.some.injEq, Sum.inl.injEq, Sum.inr.injEq, Option.toList_some, Option.toList_none, List.cons_append, List.nil_append, ne_eq, true_and, and_true, and_self, not_true_eq_false, not_false_eq_true, true_implies, false_implies, reduceCtorEq]

