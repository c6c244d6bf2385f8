/-! ===== told: class and reference ===== -/
noncomputable def kT_ans (m : km_Mm) (n y a b what : Int) : Int := if what = 0 then @ite Int (kL m n a y) (Classical.propDecidable _) 1 0 else if what = 1 then kLg m n a y else if what = 2 then @ite Int (kLc m n a b y) (Classical.propDecidable _) 1 0 else km_pop (kn_m3 (km_read n m) 53 a)
def kT_ok (m : km_Mm) (n y a b what : Int) : Prop := (0 ≤ n ∧ n ≤ m 5 3) ∧ (0 ≤ a ∧ a < m 5 1) ∧ (0 ≤ what ∧ what ≤ 3) ∧ (what = 3 ∨ (0 ≤ y ∧ y ≤ 999)) ∧ (what ≠ 2 ∨ (0 ≤ b ∧ b < m 5 1))
theorem km_ite_iff {p r : Prop} {dp : Decidable p} {dr : Decidable r} {x y : Int} (h : p ↔ r) : @ite Int p dp x y = @ite Int r dr x y := by
  by_cases z : p
  · rw [if_pos z, if_pos (h.mp z)]
  · rw [if_neg z, if_neg (fun w => z (h.mpr w))]
theorem cl_told {q : Nat × Int × Int × Int × Int} {c s : Nat} {m : km_Mm} {n y a b what : Int} (hb : kI_book m) (Q : Option km_V → km_Al → km_Mm → Prop) :
    ∃ m' : km_Mm, km_jk m m' ∧ (∀ j : Int, j ≠ 3 → m' 52 j = m 52 j) ∧ (km_E M_X11_told [.inr (.inr 0), .inl n, .inl y, .inl a, .inl b, .inl what] (km_A0 q c s) m Q ↔ Q (some (.inl (@ite Int (kT_ok m n y a b what) (Classical.propDecidable _) (kT_ans m n y a b what) (-2)))) (km_A0 q c s) m') := by
  by_cases v : kT_ok m n y a b what
  · obtain ⟨v1, v2, v3, v4, v5⟩ := id v
    obtain ⟨b1, -, b3, b4, -, -⟩ := id hb
    obtain ⟨w1, w2⟩ := kI_sure hb v1.1 v1.2
    have rd := fun Q => @r_read q c s m n v1.1 ⟨b3.1, b3.2.1⟩ b4 Q
    have hmin : (if m 5 3 < n then m 5 3 else n) = n := if_neg (by omega)
    rw [hmin] at rd
    have ra := fun Q => @r_aread q c s (km_read n m) (by rw [km_read_8]; omega) (fun i i0 i1 => by
      rw [km_read_at (by decide) (by decide) (by decide) (by omega), km_read_at (by decide) (by decide) (by decide) (by omega), km_read_at (by decide) (by decide) (by decide) (by omega), km_read_at (by decide) (by decide) (by decide) (by omega)]
      exact b4 i i0 i1) Q
    have fr := kI_fresh_m1 hb km_jk_rf v1.1 v1.2
    have a10 : a < 10 := by omega
    have jr : km_jk m (km_read n m) := fun b j h => km_read_at (fun e => h (by unfold kJ; omega)) (fun e => h (by unfold kJ; omega)) (fun e => h (by unfold kJ; omega)) (fun e => h (by unfold kJ; omega))
    have j52 : ∀ j : Int, km_read n m 52 j = m 52 j := fun j => km_read_at (by decide) (by decide) (by decide) (by omega)
    have x1 : ¬ what < 0 := by omega
    have x2 : what ≤ 3 := by omega
    have e5 : (0 ≤ y ∧ y ≤ 999) → (0 ≤ y ∧ y ≤ 999) := id
    have l1 := fun Q => @r_livesIn q c s (km_read n m) a y v2.1 a10 Q
    have l3 := fun Q => @r_coupleIn q c s a b y (km_read n m) (by rw [km_read_8]; omega) Q
    by_cases y0 : what = 0
    · refine ⟨km_read n m, jr, fun j _ => j52 j, ?_⟩
      have u4 := v4.resolve_left (by omega)
      subst y0
      rw [if_pos v, kT_ans, if_pos rfl, km_E.of (by decide)]
      show km_G M_X11_told 0 [some (.inr (.inr 0)), some (.inl n), some (.inl y), some (.inl a), some (.inl b), some (.inl 0), none] [] (km_A0 q c s) m _ ↔ _
      simp (config := { decide := true }) only [g_X11_told, r_isKnown, r_isKin, r_isYear, v1, v2, u4, rd, l1, true_or, or_true, false_or, or_false, false_and, and_false, if_true, if_false, km_sr_sf, km_sr_of, km_up_of, km_sr_us, km_sr_uo, km_sr_sr, km_sr_fl, km_sr_flo, km_up_up, km_up_lt, km_lay, km_unL, km_up_o, km_upx_i, km_upx_s, km_fl2_o, km_is, Option.some.injEq, Sum.inl.injEq, Sum.inr.injEq, Option.toList_some, Option.toList_none, List.cons_append, List.nil_append, ne_eq, true_and, and_true, and_self, not_true_eq_false, not_false_eq_true, true_implies, false_implies, reduceCtorEq]
      by_cases z : kL m n a y
      · rw [if_pos z]; unfold kL at z; simp (config := { decide := true }) only [z, true_or, or_true, false_or, or_false, false_and, and_false, if_true, if_false, km_sr_sf, km_sr_of, km_up_of, km_sr_us, km_sr_uo, km_sr_sr, km_sr_fl, km_sr_flo, km_up_up, km_up_lt, km_lay, km_unL, km_up_o, km_upx_i, km_upx_s, km_fl2_o, km_is, Option.some.injEq, Sum.inl.injEq, Sum.inr.injEq, Option.toList_some, Option.toList_none, List.cons_append, List.nil_append, ne_eq, true_and, and_true, and_self, not_true_eq_false, not_false_eq_true, true_implies, false_implies, reduceCtorEq]
      · rw [if_neg z]; unfold kL at z; simp (config := { decide := true }) only [z, true_or, or_true, false_or, or_false, false_and, and_false, if_true, if_false, km_sr_sf, km_sr_of, km_up_of, km_sr_us, km_sr_uo, km_sr_sr, km_sr_fl, km_sr_flo, km_up_up, km_up_lt, km_lay, km_unL, km_up_o, km_upx_i, km_upx_s, km_fl2_o, km_is, Option.some.injEq, Sum.inl.injEq, Sum.inr.injEq, Option.toList_some, Option.toList_none, List.cons_append, List.nil_append, ne_eq, true_and, and_true, and_self, not_true_eq_false, not_false_eq_true, true_implies, false_implies, reduceCtorEq]
    by_cases y1 : what = 1
    · refine ⟨km_read n m, jr, fun j _ => j52 j, ?_⟩
      have u4 := v4.resolve_left (by omega)
      have l2 := fun Q => @r_ageIn q c s (km_read n m) a y v2.1 a10 u4.1 u4.2 (kI_al hb fr ⟨v2.1, a10⟩ u4.1).2.2 Q
      subst y1
      rw [if_pos v, kT_ans, if_neg (by decide), if_pos rfl, kLg, km_E.of (by decide)]
      show km_G M_X11_told 0 [some (.inr (.inr 0)), some (.inl n), some (.inl y), some (.inl a), some (.inl b), some (.inl 1), none] [] (km_A0 q c s) m _ ↔ _
      simp (config := { decide := true }) only [g_X11_told, r_isKnown, r_isKin, r_isYear, v1, v2, u4, rd, l2, true_or, or_true, false_or, or_false, false_and, and_false, if_true, if_false, km_sr_sf, km_sr_of, km_up_of, km_sr_us, km_sr_uo, km_sr_sr, km_sr_fl, km_sr_flo, km_up_up, km_up_lt, km_lay, km_unL, km_up_o, km_upx_i, km_upx_s, km_fl2_o, km_is, Option.some.injEq, Sum.inl.injEq, Sum.inr.injEq, Option.toList_some, Option.toList_none, List.cons_append, List.nil_append, ne_eq, true_and, and_true, and_self, not_true_eq_false, not_false_eq_true, true_implies, false_implies, reduceCtorEq]
    by_cases y2 : what = 2
    · refine ⟨km_read n m, jr, fun j _ => j52 j, ?_⟩
      have u4 := v4.resolve_left (by omega)
      have u5 := v5.resolve_left (by omega)
      subst y2
      rw [if_pos v, kT_ans, if_neg (by decide), if_neg (by decide), if_pos rfl, km_E.of (by decide)]
      show km_G M_X11_told 0 [some (.inr (.inr 0)), some (.inl n), some (.inl y), some (.inl a), some (.inl b), some (.inl 2), none] [] (km_A0 q c s) m _ ↔ _
      have r12 : km_read n m 12 = m 12 := funext fun j => km_read_at (by decide) (by decide) (by decide) (by omega)
      simp (config := { decide := true }) only [g_X11_told, r_isKnown, r_isKin, r_isYear, v1, v2, u4, u5, rd, l3, km_read_8, r12, true_or, or_true, false_or, or_false, false_and, and_false, if_true, if_false, km_sr_sf, km_sr_of, km_up_of, km_sr_us, km_sr_uo, km_sr_sr, km_sr_fl, km_sr_flo, km_up_up, km_up_lt, km_lay, km_unL, km_up_o, km_upx_i, km_upx_s, km_fl2_o, km_is, Option.some.injEq, Sum.inl.injEq, Sum.inr.injEq, Option.toList_some, Option.toList_none, List.cons_append, List.nil_append, ne_eq, true_and, and_true, and_self, not_true_eq_false, not_false_eq_true, true_implies, false_implies, reduceCtorEq]
      by_cases z : kLc m n a b y
      · rw [if_pos z]; unfold kLc at z; simp (config := { decide := true }) only [z, true_or, or_true, false_or, or_false, false_and, and_false, if_true, if_false, km_sr_sf, km_sr_of, km_up_of, km_sr_us, km_sr_uo, km_sr_sr, km_sr_fl, km_sr_flo, km_up_up, km_up_lt, km_lay, km_unL, km_up_o, km_upx_i, km_upx_s, km_fl2_o, km_is, Option.some.injEq, Sum.inl.injEq, Sum.inr.injEq, Option.toList_some, Option.toList_none, List.cons_append, List.nil_append, ne_eq, true_and, and_true, and_self, not_true_eq_false, not_false_eq_true, true_implies, false_implies, reduceCtorEq]
      · rw [if_neg z]; unfold kLc at z; simp (config := { decide := true }) only [z, true_or, or_true, false_or, or_false, false_and, and_false, if_true, if_false, km_sr_sf, km_sr_of, km_up_of, km_sr_us, km_sr_uo, km_sr_sr, km_sr_fl, km_sr_flo, km_up_up, km_up_lt, km_lay, km_unL, km_up_o, km_upx_i, km_upx_s, km_fl2_o, km_is, Option.some.injEq, Sum.inl.injEq, Sum.inr.injEq, Option.toList_some, Option.toList_none, List.cons_append, List.nil_append, ne_eq, true_and, and_true, and_self, not_true_eq_false, not_false_eq_true, true_implies, false_implies, reduceCtorEq]
    have y3 : what = 3 := by omega
    refine ⟨kn_m3 (km_read n m), km_read_jk, fun j h => ?_, ?_⟩
    · unfold kn_m3 kn_m1; simp (config := { decide := true }) only [true_or, or_true, false_or, or_false, false_and, and_false, if_true, if_false, km_sr_sf, km_sr_of, km_up_of, km_sr_us, km_sr_uo, km_sr_sr, km_sr_fl, km_sr_flo, km_up_up, km_up_lt, km_lay, km_unL, km_up_o, km_upx_i, km_upx_s, km_fl2_o, km_is, Option.some.injEq, Sum.inl.injEq, Sum.inr.injEq, Option.toList_some, Option.toList_none, List.cons_append, List.nil_append, ne_eq, true_and, and_true, and_self, not_true_eq_false, not_false_eq_true, true_implies, false_implies, reduceCtorEq]; rw [km_upx_i h]; exact j52 j
    have t1 := (w1 a v2.1 a10).1
    have bc := fun Q => @sp_bitCount _ t1.1 t1.2 (km_A0 q c s) (kn_m3 (km_read n m)) Q
    subst y3
    rw [if_pos v, kT_ans, if_neg (by decide), if_neg (by decide), if_neg (by decide), km_E.of (by decide)]
    show km_G M_X11_told 0 [some (.inr (.inr 0)), some (.inl n), some (.inl y), some (.inl a), some (.inl b), some (.inl 3), none] [] (km_A0 q c s) m _ ↔ _
    simp (config := { decide := true }) only [g_X11_told, r_isKnown, r_isKin, r_isYear, v1, v2, rd, ra, bc, a10, true_or, or_true, false_or, or_false, false_and, and_false, if_true, if_false, km_sr_sf, km_sr_of, km_up_of, km_sr_us, km_sr_uo, km_sr_sr, km_sr_fl, km_sr_flo, km_up_up, km_up_lt, km_lay, km_unL, km_up_o, km_upx_i, km_upx_s, km_fl2_o, km_is, Option.some.injEq, Sum.inl.injEq, Sum.inr.injEq, Option.toList_some, Option.toList_none, List.cons_append, List.nil_append, ne_eq, true_and, and_true, and_self, not_true_eq_false, not_false_eq_true, true_implies, false_implies, reduceCtorEq]
  · refine ⟨m, km_jk_rf, fun j _ => rfl, ?_⟩
    rw [if_neg v, km_E.of (by decide)]
    show km_G M_X11_told 0 [some (.inr (.inr 0)), some (.inl n), some (.inl y), some (.inl a), some (.inl b), some (.inl what), none] [] (km_A0 q c s) m _ ↔ _
    unfold kT_ok at v
    by_cases v1 : 0 ≤ n ∧ n ≤ m 5 3 <;> by_cases v2 : 0 ≤ a ∧ a < m 5 1 <;> by_cases v3 : what < 0 <;> by_cases v4 : 3 < what <;> simp (config := { decide := true }) only [g_X11_told, r_isKnown, r_isKin, r_isYear, v1, v2, v3, v4, true_or, or_true, false_or, or_false, false_and, and_false, if_true, if_false, km_sr_sf, km_sr_of, km_up_of, km_sr_us, km_sr_uo, km_sr_sr, km_sr_fl, km_sr_flo, km_up_up, km_up_lt, km_lay, km_unL, km_up_o, km_upx_i, km_upx_s, km_fl2_o, km_is, Option.some.injEq, Sum.inl.injEq, Sum.inr.injEq, Option.toList_some, Option.toList_none, List.cons_append, List.nil_append, ne_eq, true_and, and_true, and_self, not_true_eq_false, not_false_eq_true, true_implies, false_implies, reduceCtorEq]
    by_cases v5 : what = 3 <;> by_cases v6 : 0 ≤ y ∧ y ≤ 999 <;> by_cases v7 : what = 2 <;> by_cases v8 : 0 ≤ b ∧ b < m 5 1 <;> simp (config := { decide := true }) only [v5, v6, v7, v8, true_or, or_true, false_or, or_false, false_and, and_false, if_true, if_false, km_sr_sf, km_sr_of, km_up_of, km_sr_us, km_sr_uo, km_sr_sr, km_sr_fl, km_sr_flo, km_up_up, km_up_lt, km_lay, km_unL, km_up_o, km_upx_i, km_upx_s, km_fl2_o, km_is, Option.some.injEq, Sum.inl.injEq, Sum.inr.injEq, Option.toList_some, Option.toList_none, List.cons_append, List.nil_append, ne_eq, true_and, and_true, and_self, not_true_eq_false, not_false_eq_true, true_implies, false_implies, reduceCtorEq]
    all_goals (exfalso; apply v; omega)

