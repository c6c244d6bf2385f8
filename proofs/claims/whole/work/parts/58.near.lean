/-! ===== near ===== -/
/-- the cells that a call may leave as it likes -/
def kJ (b j : Int) : Prop := (b = 3 ∧ 2 ≤ j) ∨ (b = 5 ∧ (j = 8 ∨ j = 12)) ∨ (16 ≤ b ∧ b ≤ 18) ∨ b = 36 ∨ (b = 37 ∧ j ≠ 2 ∧ j ≠ 3) ∨ b = 38 ∨ b = 39 ∨ (52 ≤ b ∧ b ≤ 58) ∨ (b = 59 ∧ j ≠ 0) ∨ (65 ≤ b ∧ b ≤ 84) ∨ (90 ≤ b ∧ b ≤ 99) ∨ (113 ≤ b ∧ b ≤ 122) ∨
  (b = 123 ∧ (j = 2 ∨ j = 14 ∨ (19 ≤ j ∧ j ≤ 21) ∨ (25 ≤ j ∧ j ≤ 29) ∨ (36 ≤ j ∧ j ≤ 61) ∨ (77 ≤ j ∧ j ≤ 79) ∨ j = 101)) ∨ (130 ≤ b ∧ b ≤ 136) ∨ (b = 142 ∧ 7 ≤ j) ∨ (143 ≤ b ∧ b ≤ 149) ∨ (159 ≤ b ∧ b ≤ 162) ∨ (171 ≤ b ∧ b ≤ 181) ∨ b = 184
def km_jk (m m' : km_Mm) : Prop := ∀ b j : Int, ¬ kJ b j → m' b j = m b j
theorem km_jk_rf {m : km_Mm} : km_jk m m := fun _ _ _ => rfl
theorem km_jk.tr {m m' m'' : km_Mm} (h : km_jk m m') (k : km_jk m' m'') : km_jk m m'' := fun b j q => (k b j q).trans (h b j q)
/-- what must stay small though it is never looked at -/
def kI_scr (m : km_Mm) : Prop := (0 ≤ m 52 7 ∧ m 52 7 ≤ 20) ∧ (0 ≤ m 52 8 ∧ m 52 8 ≤ 20)
theorem kJ_no {b j : Int} (h : b ≠ 3 ∧ b ≠ 5 ∧ ¬ (16 ≤ b ∧ b ≤ 18) ∧ ¬ (36 ≤ b ∧ b ≤ 39) ∧ ¬ (52 ≤ b ∧ b ≤ 59) ∧ ¬ (65 ≤ b ∧ b ≤ 84) ∧ ¬ (90 ≤ b ∧ b ≤ 99) ∧ ¬ (113 ≤ b ∧ b ≤ 123) ∧ ¬ (130 ≤ b ∧ b ≤ 136) ∧ ¬ (138 ≤ b ∧ b ≤ 149) ∧ ¬ (159 ≤ b ∧ b ≤ 162) ∧ ¬ (171 ≤ b ∧ b ≤ 181) ∧ b ≠ 184) : ¬ kJ b j := by unfold kJ; omega
theorem kI_book_jk {m m' : km_Mm} (h : kI_book m) (k : km_jk m m') : kI_book m' := by
  have r : ∀ b : Int, (12 ≤ b ∧ b ≤ 15) ∨ (126 ≤ b ∧ b ≤ 129) → ∀ j : Int, m' b j = m b j := fun b hb j => k b j (kJ_no (by omega))
  have f : ∀ j : Int, 1 ≤ j → j ≤ 3 → m' 5 j = m 5 j := fun j a b => k 5 j (by unfold kJ; omega)
  have g : ∀ j : Int, j = 3 ∨ j = 5 ∨ j = 11 → m' 123 j = m 123 j := fun j a => k 123 j (by unfold kJ; omega)
  unfold kI_book kI_note km_nt km_ntM at *
  rw [f 1 (by decide) (by decide), f 2 (by decide) (by decide), f 3 (by decide) (by decide), g 3 (by decide), g 5 (by decide), g 11 (by decide)]
  simp only [r 12 (by decide), r 13 (by decide), r 14 (by decide), r 15 (by decide), r 126 (by decide), r 127 (by decide), r 128 (by decide), r 129 (by decide)]
  exact h
/-- the answer of near, out of what the class reads -/
noncomputable def kn_ans (m : km_Mm) (n a b what : Int) : Int :=
  if what ≤ 2 then kn_sn (kn_T (kn_m3 (km_read n m) 53) (kn_m3 (km_read n m) 54) (kn_m3 (km_read n m) 55) (kn_m3 (km_read n m) 52 3) a b) what
  else kn_an (kn_ow (kn_W (kn_m3 (km_read n m) 53) (kn_m3 (km_read n m) 54) (kn_m3 (km_read n m) 55) (kn_m3 (km_read n m) 52 3)) (kn_T (kn_m3 (km_read n m) 53) (kn_m3 (km_read n m) 54) (kn_m3 (km_read n m) 55) (kn_m3 (km_read n m) 52 3) a b) (km_shl 1 (kn_m3 (km_read n m) 52 3)).toNat 0 (0, 0, -1)) what
theorem kj_A_jk {m m' : km_Mm} (h : kj_A m m') : km_jk m m' := fun b j q => h b j (fun e => q (by unfold kJ; omega)) (fun e => q (by unfold kJ; omega)) (fun e => q (by unfold kJ; omega)) (fun e => q (by unfold kJ; omega))
theorem km_read_jk {m : km_Mm} {n : Int} : km_jk m (kn_m3 (km_read n m)) := fun b j q => by
  have q' : b ≠ 53 ∧ b ≠ 54 ∧ b ≠ 55 ∧ b ≠ 52 ∧ b ≠ 16 ∧ b ≠ 17 ∧ b ≠ 18 ∧ ¬ (b = 5 ∧ j = 8) := by unfold kJ at q; omega
  unfold kn_m3 kn_m1
  rw [km_sr_o q'.2.2.1, km_sr_o q'.2.1, km_up_o q'.2.2.2.1, km_sr_o q'.1, km_up_o q'.2.2.2.1, km_read_at q'.2.2.2.2.1 q'.2.2.2.2.2.1 q'.2.2.2.2.2.2.1 q'.2.2.2.2.2.2.2]
theorem cl_near {q : Nat × Int × Int × Int × Int} {c s : Nat} {m : km_Mm} {n a b what : Int} (hb : kI_book m) (hs : kI_scr m) (Q : Option km_V → km_Al → km_Mm → Prop) :
    ∃ m' : km_Mm, km_jk m m' ∧ kI_scr m' ∧ (km_E M_X11_near [.inr (.inr 0), .inl n, .inl a, .inl b, .inl what] (km_A0 q c s) m Q ↔ Q (some (.inl (if (0 ≤ n ∧ n ≤ m 5 3) ∧ (0 ≤ a ∧ a < m 5 1) ∧ (0 ≤ b ∧ b < m 5 1) ∧ 0 ≤ what ∧ what ≤ 5 then kn_ans m n a b what else -2))) (km_A0 q c s) m') := by
  by_cases v : (0 ≤ n ∧ n ≤ m 5 3) ∧ (0 ≤ a ∧ a < m 5 1) ∧ (0 ≤ b ∧ b < m 5 1) ∧ 0 ≤ what ∧ what ≤ 5
  · obtain ⟨v1, v2, v3, v4, v5⟩ := v
    obtain ⟨b1, -, b3, b4, -, -⟩ := id hb
    obtain ⟨w1, w2⟩ := kI_sure hb v1.1 v1.2
    have rd := fun Q => @r_read q c s m n v1.1 ⟨b3.1, b3.2.1⟩ b4 Q
    have hmin : (if m 5 3 < n then m 5 3 else n) = n := if_neg (by omega)
    rw [hmin] at rd
    have ra := fun Q => @r_aread q c s (km_read n m) (by rw [km_read_8]; omega) (fun i i0 i1 => by
      rw [km_read_at (by decide) (by decide) (by decide) (by omega), km_read_at (by decide) (by decide) (by decide) (by omega), km_read_at (by decide) (by decide) (by decide) (by omega), km_read_at (by decide) (by decide) (by decide) (by omega)]
      exact b4 i i0 i1) Q
    have hu : kn_m3 (km_read n m) 52 7 = m 52 7 := by unfold kn_m3 kn_m1; simp (config := { decide := true }) only [Int.add_sub_cancel, true_or, or_true, false_or, or_false, false_and, and_false, if_true, if_false, km_sr_sf, km_sr_of, km_up_of, km_sr_us, km_sr_uo, km_sr_sr, km_sr_fl, km_sr_flo, km_up_up, km_up_lt, km_lay, km_unL, km_up_o, km_upx_i, km_upx_s, km_fl2_o, km_is, Option.some.injEq, Sum.inl.injEq, Sum.inr.injEq, Option.toList_some, Option.toList_none, List.cons_append, List.nil_append, ne_eq, true_and, and_true, and_self, not_true_eq_false, not_false_eq_true, true_implies, false_implies, reduceCtorEq]; exact km_read_at (by decide) (by decide) (by decide) (by omega)
    have hd : kn_m3 (km_read n m) 52 8 = m 52 8 := by unfold kn_m3 kn_m1; simp (config := { decide := true }) only [Int.add_sub_cancel, true_or, or_true, false_or, or_false, false_and, and_false, if_true, if_false, km_sr_sf, km_sr_of, km_up_of, km_sr_us, km_sr_uo, km_sr_sr, km_sr_fl, km_sr_flo, km_up_up, km_up_lt, km_lay, km_unL, km_up_o, km_upx_i, km_upx_s, km_fl2_o, km_is, Option.some.injEq, Sum.inl.injEq, Sum.inr.injEq, Option.toList_some, Option.toList_none, List.cons_append, List.nil_append, ne_eq, true_and, and_true, and_self, not_true_eq_false, not_false_eq_true, true_implies, false_implies, reduceCtorEq]; exact km_read_at (by decide) (by decide) (by decide) (by omega)
    have x1 : ¬ what < 0 := by omega
    have x2 : what ≤ 5 := v5
    by_cases y : what ≤ 2
    · have y2 : ¬ 2 < what := by omega
      obtain ⟨m', j1, j2, j3, hE⟩ := @cl_sure q c s (kn_m3 (km_read n m)) a b what w1 w2 ⟨v2.1, by omega⟩ ⟨v3.1, by omega⟩ (by rw [hu]; exact hs.1) (by rw [hd]; exact hs.2) (fun v A m => km_G M_X11_near 97 [some (.inr (.inr 0)), some (.inl n), some (.inl a), some (.inl b), some (.inl what)] (v.toList ++ []) A m Q)
      refine ⟨m', km_read_jk.tr (kj_A_jk j1), ⟨j2, j3⟩, ?_⟩
      rw [if_pos ⟨v1, v2, v3, v4, v5⟩, kn_ans, if_pos y, km_E.of (by decide)]
      show km_G M_X11_near 0 [some (.inr (.inr 0)), some (.inl n), some (.inl a), some (.inl b), some (.inl what)] [] (km_A0 q c s) m _ ↔ _
      simp (config := { decide := true }) only [g_X11_near, r_isKnown, r_isKin, v1, v2, v3, x1, x2, rd, ra, y2, hE, Int.add_sub_cancel, true_or, or_true, false_or, or_false, false_and, and_false, if_true, if_false, km_sr_sf, km_sr_of, km_up_of, km_sr_us, km_sr_uo, km_sr_sr, km_sr_fl, km_sr_flo, km_up_up, km_up_lt, km_lay, km_unL, km_up_o, km_upx_i, km_upx_s, km_fl2_o, km_is, Option.some.injEq, Sum.inl.injEq, Sum.inr.injEq, Option.toList_some, Option.toList_none, List.cons_append, List.nil_append, ne_eq, true_and, and_true, and_self, not_true_eq_false, not_false_eq_true, true_implies, false_implies, reduceCtorEq]
    · have y2 : 2 < what := by omega
      obtain ⟨m', j1, j2, j3, hE⟩ := @cl_worlds q c s (kn_m3 (km_read n m)) a b what w1 w2 ⟨v2.1, by omega⟩ ⟨v3.1, by omega⟩ (by rw [hu]; exact hs.1) (by rw [hd]; exact hs.2) (fun v A m => km_G M_X11_near 97 [some (.inr (.inr 0)), some (.inl n), some (.inl a), some (.inl b), some (.inl what)] (v.toList ++ []) A m Q)
      refine ⟨m', km_read_jk.tr (kj_A_jk j1), ⟨j2, j3⟩, ?_⟩
      rw [if_pos ⟨v1, v2, v3, v4, v5⟩, kn_ans, if_neg y, km_E.of (by decide)]
      show km_G M_X11_near 0 [some (.inr (.inr 0)), some (.inl n), some (.inl a), some (.inl b), some (.inl what)] [] (km_A0 q c s) m _ ↔ _
      simp (config := { decide := true }) only [g_X11_near, r_isKnown, r_isKin, v1, v2, v3, x1, x2, rd, ra, y2, hE, Int.add_sub_cancel, true_or, or_true, false_or, or_false, false_and, and_false, if_true, if_false, km_sr_sf, km_sr_of, km_up_of, km_sr_us, km_sr_uo, km_sr_sr, km_sr_fl, km_sr_flo, km_up_up, km_up_lt, km_lay, km_unL, km_up_o, km_upx_i, km_upx_s, km_fl2_o, km_is, Option.some.injEq, Sum.inl.injEq, Sum.inr.injEq, Option.toList_some, Option.toList_none, List.cons_append, List.nil_append, ne_eq, true_and, and_true, and_self, not_true_eq_false, not_false_eq_true, true_implies, false_implies, reduceCtorEq]
  · refine ⟨m, km_jk_rf, hs, ?_⟩
    rw [if_neg v, km_E.of (by decide)]
    show km_G M_X11_near 0 [some (.inr (.inr 0)), some (.inl n), some (.inl a), some (.inl b), some (.inl what)] [] (km_A0 q c s) m _ ↔ _
    by_cases v1 : 0 ≤ n ∧ n ≤ m 5 3 <;> by_cases v2 : 0 ≤ a ∧ a < m 5 1 <;> by_cases v3 : 0 ≤ b ∧ b < m 5 1 <;> by_cases v4 : what < 0 <;> by_cases v5 : what ≤ 5 <;> simp (config := { decide := true }) only [g_X11_near, r_isKnown, r_isKin, v1, v2, v3, v4, v5, Int.add_sub_cancel, true_or, or_true, false_or, or_false, false_and, and_false, if_true, if_false, km_sr_sf, km_sr_of, km_up_of, km_sr_us, km_sr_uo, km_sr_sr, km_sr_fl, km_sr_flo, km_up_up, km_up_lt, km_lay, km_unL, km_up_o, km_upx_i, km_upx_s, km_fl2_o, km_is, Option.some.injEq, Sum.inl.injEq, Sum.inr.injEq, Option.toList_some, Option.toList_none, List.cons_append, List.nil_append, ne_eq, true_and, and_true, and_self, not_true_eq_false, not_false_eq_true, true_implies, false_implies, reduceCtorEq]
    exact absurd ⟨v1, v2, v3, by omega, v5⟩ v

