/-! ===== promise 24: settle: the class's sets ===== -/
theorem klw_one_all : ∀ n : Fin 1024, n.val ≠ 0 → km_and (n.val : Int) (-(n.val : Int)) = km_shl 1 (klw (n.val : Int)) := by decide +kernel
theorem klw_one {x : Int} (h : ten x) (h0 : x ≠ 0) : km_and x (-x) = km_shl 1 (klw x) := by
  have h1 := h.1
  have h2 := h.2
  have := klw_one_all ⟨x.toNat, by omega⟩ (by show x.toNat ≠ 0; omega)
  have e : ((x.toNat : Nat) : Int) = x := by omega
  simp only [e] at this
  exact this
theorem kor_one {S u : Int} (hS : ten S) (nz : S ≠ 0) (hu : ksb u (S - km_shl 1 (klw S))) : km_or (km_shl 1 (klw S)) u = km_shl 1 (klw S) + u ∧ ksb (km_shl 1 (klw S) + u) S ∧ tb (km_shl 1 (klw S) + u) (klw S) = true := by
  obtain ⟨⟨l0, l1, l2⟩, l3, l4⟩ := klw_p hS nz
  have o := ksb_one hS l0 l1 l2
  have d := ksb_diff hS o.1
  have t1 := ten_one l0 l1
  have tu := ksb_ten d.1 hu
  have tg := ten_or t1 tu
  have bb : ∀ j : Int, 0 ≤ j → tb (km_or (km_shl 1 (klw S)) u) j = (tb (km_shl 1 (klw S)) j || tb u j) := fun j _ => tb_or t1.1 (by have := t1.2; omega) tu.1 (by have := tu.2; omega)
  have us := ((ksb_tb d.1).mp hu).2
  have og : ksb (km_shl 1 (klw S)) (km_or (km_shl 1 (klw S)) u) := (ksb_tb tg).mpr ⟨t1, fun j j0 e => by rw [bb j j0, e]; rfl⟩
  have dg := ksb_diff tg og
  have e : km_or (km_shl 1 (klw S)) u - km_shl 1 (klw S) = u := ten_ext dg.1 tu (fun j j0 j1 => by
    rw [dg.2 j j0, bb j j0]
    cases e1 : tb (km_shl 1 (klw S)) j with
    | false => simp
    | true =>
      cases e2 : tb u j with
      | false => rfl
      | true => have := us j j0 e2; rw [d.2 j j0, e1] at this; simp at this)
  have e2 : km_or (km_shl 1 (klw S)) u = km_shl 1 (klw S) + u := by omega
  refine ⟨e2, ?_, ?_⟩
  · rw [← e2]
    refine (ksb_tb hS).mpr ⟨tg, fun j j0 e => ?_⟩
    rw [bb j j0] at e
    cases e1 : tb (km_shl 1 (klw S)) j with
    | true => exact ((ksb_tb hS).mp o.1).2 j j0 e1
    | false =>
      rw [e1] at e
      have e : tb u j = true := by simpa using e
      exact ((ksb_tb hS).mp (ksb_tr d.1 hS hu (ksb_dsub hS o.1))).2 j j0 e
  · rw [← e2, bb _ l0, tb_one l0 (by omega) l0]
    simp
/-- the greatest of what one less leaves -/
def kmx (f : Int → Int) (S : Int) : Nat → Int
  | 0 => 0
  | n + 1 => if tb S n = true then (if kmx f S n < f (S - km_shl 1 n) then f (S - km_shl 1 n) else kmx f S n) else kmx f S n
theorem kmx_p {f : Int → Int} {S : Int} : ∀ (n : Nat), 0 ≤ kmx f S n ∧ (∀ k : Int, 0 ≤ k → k < n → tb S k = true → f (S - km_shl 1 k) ≤ kmx f S n) ∧ (kmx f S n = 0 ∨ ∃ k : Int, 0 ≤ k ∧ k < n ∧ tb S k = true ∧ kmx f S n = f (S - km_shl 1 k)) := by
  intro n
  induction n with
  | zero => exact ⟨Int.le_refl _, fun k k0 k1 => absurd k1 (by omega), Or.inl rfl⟩
  | succ n ih =>
    obtain ⟨a1, a2, a3⟩ := ih
    rw [kmx]
    by_cases t : tb S n = true
    · rw [if_pos t]
      by_cases l : kmx f S n < f (S - km_shl 1 n)
      · rw [if_pos l]
        refine ⟨by omega, fun k k0 k1 h => ?_, Or.inr ⟨n, by omega, by omega, t, rfl⟩⟩
        by_cases e : k = n
        · rw [e]; omega
        · have := a2 k k0 (by omega) h; omega
      · rw [if_neg l]
        refine ⟨a1, fun k k0 k1 h => ?_, ?_⟩
        · by_cases e : k = n
          · rw [e]; omega
          · exact a2 k k0 (by omega) h
        · rcases a3 with z | ⟨k, k0, k1, k2, k3⟩
          · exact Or.inl z
          · exact Or.inr ⟨k, k0, by omega, k2, k3⟩
    · rw [if_neg t]
      refine ⟨a1, fun k k0 k1 h => ?_, ?_⟩
      · by_cases e : k = n
        · rw [e] at h; exact absurd h t
        · exact a2 k k0 (by omega) h
      · rcases a3 with z | ⟨k, k0, k1, k2, k3⟩
        · exact Or.inl z
        · exact Or.inr ⟨k, k0, by omega, k2, k3⟩
theorem kbs_low {b : Int → Int} {S : Int} (hS : ten S) (nz : S ≠ 0) : kbs b S = kbs b (km_and S (S - 1)) + b (klw S) ∧ ksb (km_and S (S - 1)) S ∧ km_and S (S - 1) < S := by
  obtain ⟨⟨a1, a2, a3⟩, a4⟩ := klw_split hS nz
  obtain ⟨⟨l0, l1, l2⟩, -⟩ := klw_p hS nz
  refine ⟨?_, a2, a3⟩
  have e1 : b (klw S) = ksm (fun k => if k = klw S then b (klw S) else 0) 10 := by
    rw [ksm_one l0, if_pos (by omega)]
  unfold kbs
  rw [e1, ← ksm_add]
  refine ksm_cong 10 fun k k0 k1 => ?_
  obtain ⟨c1, c2, c3⟩ := a4 k k0
  by_cases t : tb S k = true
  · rw [if_pos t]
    by_cases e : k = klw S
    · subst e
      rw [if_neg (fun w => c2 ⟨w, rfl⟩), if_pos rfl, Int.zero_add]
    · rw [if_pos ((c1.mp t).resolve_right e), if_neg e, Int.add_zero]
  · rw [if_neg t]
    by_cases e : k = klw S
    · exact absurd (c1.mpr (Or.inr e)) t
    · rw [if_neg (fun w => t (c1.mpr (Or.inl w))), if_neg e]; rfl
theorem kbs_b {b : Int → Int} {S B : Int} (hb : ∀ k : Int, 0 ≤ k → k < 10 → -B ≤ b k ∧ b k ≤ B) (hB : 0 ≤ B) : -(B * 10) ≤ kbs b S ∧ kbs b S ≤ B * 10 := by
  have : ∀ n : Nat, n ≤ 10 → -(B * n) ≤ ksm (fun k => if tb S k = true then b k else 0) n ∧ ksm (fun k => if tb S k = true then b k else 0) n ≤ B * n := by
    intro n
    induction n with
    | zero => intro _; unfold ksm; omega
    | succ n ih =>
      intro hn
      have i := ih (by omega)
      have h := hb n (by omega) (by omega)
      have e : B * ((n + 1 : Nat) : Int) = B * n + B := by rw [show ((n + 1 : Nat) : Int) = (n : Int) + 1 by omega, Int.mul_add, Int.mul_one]
      rw [ksm, e]
      split <;> omega
  exact this 10 (by decide)
section CG
variable {q q' : Nat × Int × Int × Int × Int} {c s : Nat} {X : km_Mm} {b : Int → Int} {w g S : Int}
/-- those who owe or get -/
theorem c_mem (hg : ten g) : ∀ (n i : Nat) (X : km_Mm), i + n = 10 → (∀ j : Int, 0 ≤ j → j < 10 → X 116 j = b j) → (∀ j : Int, 0 ≤ j → j < i → X 119 j = b j) → ∃ X' : km_Mm, (∀ d j : Int, d ≠ 119 → X' d j = X d j) ∧ (∀ j : Int, 0 ≤ j → j < 10 → X' 119 j = b j) ∧ ∀ Q : Option km_V → km_Al → km_Mm → Prop, km_G M_X9_settleAll 4 [some (.inr (.inr 113)), some (.inl g), some (.inl (kset (fun k => tb g k = true ∧ b k ≠ 0) i)), some (.inl (i : Int)), none] [] (km_A0 q c s) X Q ↔ km_G M_X9_settleAll 51 [some (.inr (.inr 113)), some (.inl g), some (.inl (kset (fun k => tb g k = true ∧ b k ≠ 0) 10)), some (.inl 10), none] [] (km_A0 q c s) X' Q := by
  intro n
  induction n with
  | zero =>
    intro i X hi hX ho
    have e : i = 10 := by omega
    subst e
    refine ⟨X, fun _ _ _ => rfl, ho, fun Q => ?_⟩
    rw [g_X9_settleAll_4]
    simp (config := { decide := true }) (disch := first | decide | assumption | omega | (simp (config := { decide := true }) only [km_sr_sf, km_sr_of, km_up_of, km_up_o, km_upx_i, km_upx_s, km_fl2_o, ne_eq, not_true_eq_false, not_false_eq_true] <;> omega) | fail) only [g_X9_settleAll, ka_lt, ka_le, ka_nlt, ka_nle, ka_ne, ka_eq, Int.add_sub_cancel, true_or, or_true, false_or, or_false, false_and, and_false, if_true, if_false, ka_lo, ka_hi, ka_nn, km_sr_sf, km_sr_of, km_up_of, km_sr_us, km_sr_uo, km_sr_sr, km_sr_fl, km_sr_flo, km_up_up, km_up_lt, km_lay, km_unL, km_up_o, km_upx_i, km_upx_s, km_fl2_o, km_is, Option.some.injEq, Sum.inl.injEq, Sum.inr.injEq, Option.toList_some, Option.toList_none, List.cons_append, List.nil_append, ne_eq, true_and, and_true, and_self, not_true_eq_false, not_false_eq_true, true_implies, false_implies, reduceCtorEq]
  | succ n ih =>
    intro i X hi hX ho
    have z : (i : Int) < 10 := by omega
    have i0 : (0 : Int) ≤ i := by omega
    have e1 : ((i + 1 : Nat) : Int) = (i : Int) + 1 := by omega
    have xi := hX i i0 z
    have bt := ks_bit0 (x := g) (k := (i : Int)) hg.1 (by have := hg.2; omega) i0 (by omega)
    obtain ⟨X1, d1⟩ : ∃ X1 : km_Mm, X1 = km_up X 119 i (b i) := ⟨_, rfl⟩
    obtain ⟨X', w1, w2, w3⟩ := ih (i + 1) X1 (by omega) (fun j j0 j1 => by rw [d1, km_up_ne (by omega)]; exact hX j j0 j1) (fun j j0 j1 => by
      by_cases y : j = i
      · subst y; rw [d1, km_upx_s]
      · rw [d1, km_up_ne (by omega)]; exact ho j j0 (by omega))
    refine ⟨X', fun d j u => by rw [w1 d j u, d1, km_up_ne (by omega)], w2, fun Q => ?_⟩
    rw [← w3 Q, g_X9_settleAll_4, e1, d1]
    by_cases t : tb g i = true
    · have bn : ¬ km_and (km_shr g i) 1 = 0 := fun v => by rw [bt.mp v] at t; cases t
      by_cases y : b i = 0
      · rw [kset_no (fun v => v.2 y)]
        simp (config := { decide := true }) (disch := first | decide | assumption | omega | (simp (config := { decide := true }) only [km_sr_sf, km_sr_of, km_up_of, km_up_o, km_upx_i, km_upx_s, km_fl2_o, ne_eq, not_true_eq_false, not_false_eq_true] <;> omega) | fail) only [g_X9_settleAll, z, i0, bn, xi, y, ka_lt, ka_le, ka_nlt, ka_nle, ka_ne, ka_eq, Int.add_sub_cancel, true_or, or_true, false_or, or_false, false_and, and_false, if_true, if_false, ka_lo, ka_hi, ka_nn, km_sr_sf, km_sr_of, km_up_of, km_sr_us, km_sr_uo, km_sr_sr, km_sr_fl, km_sr_flo, km_up_up, km_up_lt, km_lay, km_unL, km_up_o, km_upx_i, km_upx_s, km_fl2_o, km_is, Option.some.injEq, Sum.inl.injEq, Sum.inr.injEq, Option.toList_some, Option.toList_none, List.cons_append, List.nil_append, ne_eq, true_and, and_true, and_self, not_true_eq_false, not_false_eq_true, true_implies, false_implies, reduceCtorEq]
      · rw [kset_yes ⟨t, y⟩]
        simp (config := { decide := true }) (disch := first | decide | assumption | omega | (simp (config := { decide := true }) only [km_sr_sf, km_sr_of, km_up_of, km_up_o, km_upx_i, km_upx_s, km_fl2_o, ne_eq, not_true_eq_false, not_false_eq_true] <;> omega) | fail) only [g_X9_settleAll, z, i0, bn, xi, y, ka_lt, ka_le, ka_nlt, ka_nle, ka_ne, ka_eq, Int.add_sub_cancel, true_or, or_true, false_or, or_false, false_and, and_false, if_true, if_false, ka_lo, ka_hi, ka_nn, km_sr_sf, km_sr_of, km_up_of, km_sr_us, km_sr_uo, km_sr_sr, km_sr_fl, km_sr_flo, km_up_up, km_up_lt, km_lay, km_unL, km_up_o, km_upx_i, km_upx_s, km_fl2_o, km_is, Option.some.injEq, Sum.inl.injEq, Sum.inr.injEq, Option.toList_some, Option.toList_none, List.cons_append, List.nil_append, ne_eq, true_and, and_true, and_self, not_true_eq_false, not_false_eq_true, true_implies, false_implies, reduceCtorEq]
    · have bn : km_and (km_shr g i) 1 = 0 := bt.mpr (by simpa using t)
      rw [kset_no (fun v => t v.1)]
      simp (config := { decide := true }) (disch := first | decide | assumption | omega | (simp (config := { decide := true }) only [km_sr_sf, km_sr_of, km_up_of, km_up_o, km_upx_i, km_upx_s, km_fl2_o, ne_eq, not_true_eq_false, not_false_eq_true] <;> omega) | fail) only [g_X9_settleAll, z, i0, bn, xi, ka_lt, ka_le, ka_nlt, ka_nle, ka_ne, ka_eq, Int.add_sub_cancel, true_or, or_true, false_or, or_false, false_and, and_false, if_true, if_false, ka_lo, ka_hi, ka_nn, km_sr_sf, km_sr_of, km_up_of, km_sr_us, km_sr_uo, km_sr_sr, km_sr_fl, km_sr_flo, km_up_up, km_up_lt, km_lay, km_unL, km_up_o, km_upx_i, km_upx_s, km_fl2_o, km_is, Option.some.injEq, Sum.inl.injEq, Sum.inr.injEq, Option.toList_some, Option.toList_none, List.cons_append, List.nil_append, ne_eq, true_and, and_true, and_self, not_true_eq_false, not_false_eq_true, true_implies, false_implies, reduceCtorEq]
/-- the most groups that one less leaves -/
theorem c_most (hS : ten S) (hf : ∀ k : Int, 0 ≤ k → k < 10 → tb S k = true → 0 ≤ X 118 (S - km_shl 1 k) ∧ X 118 (S - km_shl 1 k) ≤ 10) (i r : Int) (Q : Option km_V → km_Al → km_Mm → Prop) : ∀ (n k : Nat), k + n = 10 → (km_G M_X9_countGroups 68 [some (.inr (.inr 113)), some (.inl w), some (.inl S), some (.inl i), some (.inl r), some (.inl (kmx (X 118) S k)), some (.inl (k : Int))] [] (km_A0 q c s) X Q ↔ km_G M_X9_countGroups 108 [some (.inr (.inr 113)), some (.inl w), some (.inl S), some (.inl i), some (.inl r), some (.inl (kmx (X 118) S 10)), some (.inl 10)] [] (km_A0 q c s) X Q) := by
  intro n
  induction n with
  | zero =>
    intro k hk
    have e : k = 10 := by omega
    subst e
    rw [show ((10 : Nat) : Int) = 10 from rfl, g_X9_countGroups_68]
    simp (config := { decide := true }) (disch := first | decide | assumption | omega | (simp (config := { decide := true }) only [km_sr_sf, km_sr_of, km_up_of, km_up_o, km_upx_i, km_upx_s, km_fl2_o, ne_eq, not_true_eq_false, not_false_eq_true] <;> omega) | fail) only [g_X9_countGroups, ka_lt, ka_le, ka_nlt, ka_nle, ka_ne, ka_eq, Int.add_sub_cancel, true_or, or_true, false_or, or_false, false_and, and_false, if_true, if_false, ka_lo, ka_hi, ka_nn, km_sr_sf, km_sr_of, km_up_of, km_sr_us, km_sr_uo, km_sr_sr, km_sr_fl, km_sr_flo, km_up_up, km_up_lt, km_lay, km_unL, km_up_o, km_upx_i, km_upx_s, km_fl2_o, km_is, Option.some.injEq, Sum.inl.injEq, Sum.inr.injEq, Option.toList_some, Option.toList_none, List.cons_append, List.nil_append, ne_eq, true_and, and_true, and_self, not_true_eq_false, not_false_eq_true, true_implies, false_implies, reduceCtorEq]
  | succ n ih =>
    intro k hk
    have z : (k : Int) < 10 := by omega
    have k0 : (0 : Int) ≤ k := by omega
    have e1 : ((k + 1 : Nat) : Int) = (k : Int) + 1 := by omega
    have bt := ks_bit0 (x := S) (k := (k : Int)) hS.1 (by have := hS.2; omega) k0 (by omega)
    rw [← ih (k + 1) (by omega), g_X9_countGroups_68, e1, kmx]
    by_cases t : tb S k = true
    · have bn : ¬ km_and (km_shr S k) 1 = 0 := fun v => by rw [bt.mp v] at t; cases t
      have o := ksb_one hS k0 z t
      have d := ksb_diff hS o.1
      have dx := ksb_xor hS o.1
      have l0 := d.1.1
      have l1 := d.1.2
      rw [if_pos t]
      simp (config := { decide := true }) (disch := first | decide | assumption | omega | (simp (config := { decide := true }) only [km_sr_sf, km_sr_of, km_up_of, km_up_o, km_upx_i, km_upx_s, km_fl2_o, ne_eq, not_true_eq_false, not_false_eq_true] <;> omega) | fail) only [g_X9_countGroups, z, k0, bn, dx, l0, l1, ka_lt, ka_le, ka_nlt, ka_nle, ka_ne, ka_eq, Int.add_sub_cancel, true_or, or_true, false_or, or_false, false_and, and_false, if_true, if_false, ka_lo, ka_hi, ka_nn, km_sr_sf, km_sr_of, km_up_of, km_sr_us, km_sr_uo, km_sr_sr, km_sr_fl, km_sr_flo, km_up_up, km_up_lt, km_lay, km_unL, km_up_o, km_upx_i, km_upx_s, km_fl2_o, km_is, Option.some.injEq, Sum.inl.injEq, Sum.inr.injEq, Option.toList_some, Option.toList_none, List.cons_append, List.nil_append, ne_eq, true_and, and_true, and_self, not_true_eq_false, not_false_eq_true, true_implies, false_implies, reduceCtorEq]
    · have bn : km_and (km_shr S k) 1 = 0 := bt.mpr (by simpa using t)
      rw [if_neg t]
      simp (config := { decide := true }) (disch := first | decide | assumption | omega | (simp (config := { decide := true }) only [km_sr_sf, km_sr_of, km_up_of, km_up_o, km_upx_i, km_upx_s, km_fl2_o, ne_eq, not_true_eq_false, not_false_eq_true] <;> omega) | fail) only [g_X9_countGroups, z, k0, bn, ka_lt, ka_le, ka_nlt, ka_nle, ka_ne, ka_eq, Int.add_sub_cancel, true_or, or_true, false_or, or_false, false_and, and_false, if_true, if_false, ka_lo, ka_hi, ka_nn, km_sr_sf, km_sr_of, km_up_of, km_sr_us, km_sr_uo, km_sr_sr, km_sr_fl, km_sr_flo, km_up_up, km_up_lt, km_lay, km_unL, km_up_o, km_upx_i, km_upx_s, km_fl2_o, km_is, Option.some.injEq, Sum.inl.injEq, Sum.inr.injEq, Option.toList_some, Option.toList_none, List.cons_append, List.nil_append, ne_eq, true_and, and_true, and_self, not_true_eq_false, not_false_eq_true, true_implies, false_implies, reduceCtorEq]
/-- what is known of the sets below B -/
def kGI (b : Int → Int) (w B : Int) (X : km_Mm) : Prop := (X 118 0 = 0 ∧ X 117 0 = 0) ∧ ∀ T : Int, ksb T w → T ≠ 0 → T < B → X 117 T = kbs b T ∧ (0 ≤ X 118 T ∧ X 118 T ≤ km_pop T) ∧ (∃ k : Int, 0 ≤ k ∧ k < 10 ∧ tb T k = true ∧ X 118 T = X 118 (T - km_shl 1 k) + kz0 b T) ∧ ∀ k : Int, 0 ≤ k → k < 10 → tb T k = true → X 118 (T - km_shl 1 k) + kz0 b T ≤ X 118 T
theorem kpop_one {k : Int} (hS : ten S) (k0 : 0 ≤ k) (k1 : k < 10) (t : tb S k = true) : km_pop S = km_pop (S - km_shl 1 k) + 1 := by
  have o := ksb_one hS k0 k1 t
  have p := ksb_pop hS o.1
  have e : km_pop (km_shl 1 k) = 1 := by
    rw [km_pop_cnt, kcnt_cong (R := fun j => j = k) 10 (fun j j0 j1 => by rw [tb_one k0 (by omega) j0]; simp), kcnt_one k0, if_pos (by omega)]
  omega
theorem c_count1 (hw : ten w) (hb : ∀ k : Int, 0 ≤ k → k < 10 → -9999991 ≤ b k ∧ b k ≤ 9999991) (hs : ksb S w) (nz : S ≠ 0) (hX : ∀ j : Int, 0 ≤ j → j < 10 → X 116 j = b j) (hI : kGI b w S X) (i : Int) (i0 : 0 ≤ i) (i1 : i < 1024) (o4 o5 o6 : Option km_V) : ∃ (X' : km_Mm) (p4 p5 p6 : Option km_V), (∀ d j : Int, d ≠ 117 → d ≠ 118 → X' d j = X d j) ∧ kGI b w (S + 1) X' ∧ ∀ Q : Option km_V → km_Al → km_Mm → Prop, km_G M_X9_countGroups 21 [some (.inr (.inr 113)), some (.inl w), some (.inl S), some (.inl i), o4, o5, o6] [] (km_A0 q c s) X Q ↔ km_G M_X9_countGroups 21 [some (.inr (.inr 113)), some (.inl w), some (.inl (km_and (S - w) w)), some (.inl (i + 1)), p4, p5, p6] [] (km_A0 q c s) X' Q := by
  have hS := ksb_ten hw hs
  obtain ⟨z1, z2, z3⟩ := kbs_low (b := b) hS nz
  have s0 := hS.1
  have s1 := hS.2
  have w1 := hw.2
  have w0 := hw.1
  have hr := ksb_ten hS z2
  have r0 := hr.1
  have r1 := hr.2
  have xr : X 117 (km_and S (S - 1)) = kbs b (km_and S (S - 1)) := by
    by_cases e : km_and S (S - 1) = 0
    · rw [e, kbs_0]; exact hI.1.2
    · exact (hI.2 _ (ksb_tr hS hw z2 hs) e z3).1
  obtain ⟨⟨l0, l1, l2⟩, -⟩ := klw_p hS nz
  have xl := hX _ l0 l1
  have bl := hb _ l0 l1
  have br := kbs_b (S := km_and S (S - 1)) (B := 9999991) hb (by decide)
  have bS := kbs_b (S := S) (B := 9999991) hb (by decide)
  obtain ⟨Y, dY⟩ : ∃ Y : km_Mm, Y = km_up X 117 S (kbs b S) := ⟨_, rfl⟩
  have f : ∀ k : Int, 0 ≤ k → k < 10 → tb S k = true → 0 ≤ X 118 (S - km_shl 1 k) ∧ X 118 (S - km_shl 1 k) ≤ km_pop (S - km_shl 1 k) := fun k k0 k1 t => by
    have o := ksb_one hS k0 k1 t
    by_cases e : S - km_shl 1 k = 0
    · rw [e, hI.1.1]; exact ⟨by decide, by decide⟩
    · exact (hI.2 _ (ksb_tr hS hw (ksb_dsub hS o.1) hs) e (by omega)).2.1
  have Y118 : ∀ j : Int, Y 118 j = X 118 j := fun j => by rw [dY, km_up_ne (by omega)]
  have cm := fun (i r : Int) Q => @c_most q c s Y w S hS (fun k k0 k1 t => by
    rw [Y118]; have := f k k0 k1 t; have := @kpop_b (S - km_shl 1 k); omega) i r Q 10 0 (by decide)
  obtain ⟨m1, m2, m3⟩ := kmx_p (f := Y 118) (S := S) 10
  have e118 : Y 118 = X 118 := funext Y118
  rw [e118] at m1 m2 m3 cm
  obtain ⟨M, dM⟩ : ∃ M : Int, M = kmx (X 118) S 10 := ⟨_, rfl⟩
  rw [← dM] at m1 m2 m3 cm
  have mex : ∃ k : Int, 0 ≤ k ∧ k < 10 ∧ tb S k = true ∧ M = X 118 (S - km_shl 1 k) := by
    rcases m3 with z | ⟨k, k0, k1, k2, k3⟩
    · have a := m2 _ l0 l1 l2
      have c1 := f _ l0 l1 l2
      exact ⟨klw S, l0, l1, l2, by omega⟩
    · exact ⟨k, k0, k1, k2, k3⟩
  have mp : M + 1 ≤ km_pop S := by
    obtain ⟨k, k0, k1, k2, k3⟩ := mex
    have := f k k0 k1 k2
    have := kpop_one hS k0 k1 k2
    omega
  have zb := kz0_b (b := b) (S := S)
  have pb := @kpop_b S
  obtain ⟨V, dV⟩ : ∃ V : Int, V = M + kz0 b S := ⟨_, rfl⟩
  obtain ⟨X', dX⟩ : ∃ X' : km_Mm, X' = km_up Y 118 S V := ⟨_, rfl⟩
  have X117 : ∀ j : Int, X' 117 j = if j = S then kbs b S else X 117 j := fun j => by
    rw [dX, km_up_ne (by omega), dY]
    by_cases e : j = S
    · rw [e, km_upx_s, if_pos rfl]
    · rw [km_up_ne (by omega), if_neg e]
  have X118 : ∀ j : Int, X' 118 j = if j = S then V else X 118 j := fun j => by
    rw [dX]
    by_cases e : j = S
    · rw [e, km_upx_s, if_pos rfl]
    · rw [km_up_ne (by omega), if_neg e, Y118]
  have less : ∀ T k : Int, ten T → T ≤ S → 0 ≤ k → k < 10 → tb T k = true → X' 118 (T - km_shl 1 k) = X 118 (T - km_shl 1 k) := fun T k hT le k0 k1 t => by
    have o := ksb_one hT k0 k1 t
    rw [X118, if_neg (by omega)]
  refine ⟨X', some (.inl (km_and S (S - 1))), some (.inl M), some (.inl 10), fun d j u1 u2 => by rw [dX, km_up_ne (by omega), dY, km_up_ne (by omega)], ⟨⟨by rw [X118, if_neg (by omega)]; exact hI.1.1, by rw [X117, if_neg (by omega)]; exact hI.1.2⟩, fun T h1 h2 h3 => ?_⟩, fun Q => ?_⟩
  · have hT := ksb_ten hw h1
    by_cases e : T = S
    · subst e
      rw [X117, X118, if_pos rfl, if_pos rfl]
      refine ⟨rfl, by omega, ?_, fun k k0 k1 t => ?_⟩
      · obtain ⟨k, k0, k1, k2, k3⟩ := mex
        exact ⟨k, k0, k1, k2, by rw [less T k hT (by omega) k0 k1 k2, ← k3]; exact dV⟩
      · rw [less T k hT (by omega) k0 k1 t]
        have := m2 k k0 k1 t
        omega
    · obtain ⟨a1, a2, a3, a4⟩ := hI.2 T h1 h2 (by omega)
      rw [X117, X118, if_neg e, if_neg e]
      refine ⟨a1, a2, ?_, fun k k0 k1 t => ?_⟩
      · obtain ⟨k, k0, k1, k2, k3⟩ := a3
        exact ⟨k, k0, k1, k2, by rw [less T k hT (by omega) k0 k1 k2]; exact k3⟩
      · rw [less T k hT (by omega) k0 k1 t]; exact a4 k k0 k1 t
  · have nt := fun mm Q => @r_ntz q c s mm S hS nz Q
    have cm := cm i (km_and S (S - 1)) Q
    have k0e : kmx (X 118) S 0 = 0 := rfl
    have k0i : ((0 : Nat) : Int) = 0 := rfl
    rw [k0e, k0i] at cm
    have zs : kbs b (km_and S (S - 1)) + b (klw S) = kbs b S := z1.symm
    have Y117S : Y 117 S = kbs b S := by rw [dY, km_upx_s]
    have g1 : km_G M_X9_countGroups 21 [some (.inr (.inr 113)), some (.inl w), some (.inl S), some (.inl i), o4, o5, o6] [] (km_A0 q c s) X Q ↔ km_G M_X9_countGroups 68 [some (.inr (.inr 113)), some (.inl w), some (.inl S), some (.inl i), some (.inl (km_and S (S - 1))), some (.inl 0), some (.inl 0)] [] (km_A0 q c s) Y Q := by
      rw [g_X9_countGroups_21, dY]
      simp (config := { decide := true }) (disch := first | decide | assumption | omega | (simp (config := { decide := true }) only [km_sr_sf, km_sr_of, km_up_of, km_up_o, km_upx_i, km_upx_s, km_fl2_o, ne_eq, not_true_eq_false, not_false_eq_true] <;> omega) | fail) only [g_X9_countGroups, nz, i0, i1, s0, s1, r0, r1, xr, nt, xl, l0, l1, zs, ka_lt, ka_le, ka_nlt, ka_nle, ka_ne, ka_eq, Int.add_sub_cancel, true_or, or_true, false_or, or_false, false_and, and_false, if_true, if_false, ka_lo, ka_hi, ka_nn, km_sr_sf, km_sr_of, km_up_of, km_sr_us, km_sr_uo, km_sr_sr, km_sr_fl, km_sr_flo, km_up_up, km_up_lt, km_lay, km_unL, km_up_o, km_upx_i, km_upx_s, km_fl2_o, km_is, Option.some.injEq, Sum.inl.injEq, Sum.inr.injEq, Option.toList_some, Option.toList_none, List.cons_append, List.nil_append, ne_eq, true_and, and_true, and_self, not_true_eq_false, not_false_eq_true, true_implies, false_implies, reduceCtorEq]
    rw [g1, cm]
    by_cases y : kbs b S = 0
    · have eV : V = M + 1 := by rw [dV]; unfold kz0; rw [if_pos y]
      rw [dX, eV]
      simp (config := { decide := true }) (disch := first | decide | assumption | omega | (simp (config := { decide := true }) only [km_sr_sf, km_sr_of, km_up_of, km_up_o, km_upx_i, km_upx_s, km_fl2_o, ne_eq, not_true_eq_false, not_false_eq_true] <;> omega) | fail) only [g_X9_countGroups, Y117S, y, s0, s1, ka_lt, ka_le, ka_nlt, ka_nle, ka_ne, ka_eq, Int.add_sub_cancel, true_or, or_true, false_or, or_false, false_and, and_false, if_true, if_false, ka_lo, ka_hi, ka_nn, km_sr_sf, km_sr_of, km_up_of, km_sr_us, km_sr_uo, km_sr_sr, km_sr_fl, km_sr_flo, km_up_up, km_up_lt, km_lay, km_unL, km_up_o, km_upx_i, km_upx_s, km_fl2_o, km_is, Option.some.injEq, Sum.inl.injEq, Sum.inr.injEq, Option.toList_some, Option.toList_none, List.cons_append, List.nil_append, ne_eq, true_and, and_true, and_self, not_true_eq_false, not_false_eq_true, true_implies, false_implies, reduceCtorEq]
    · have eV : V = M := by rw [dV]; unfold kz0; rw [if_neg y, Int.add_zero]
      rw [dX, eV]
      simp (config := { decide := true }) (disch := first | decide | assumption | omega | (simp (config := { decide := true }) only [km_sr_sf, km_sr_of, km_up_of, km_up_o, km_upx_i, km_upx_s, km_fl2_o, ne_eq, not_true_eq_false, not_false_eq_true] <;> omega) | fail) only [g_X9_countGroups, Y117S, y, s0, s1, ka_lt, ka_le, ka_nlt, ka_nle, ka_ne, ka_eq, Int.add_sub_cancel, true_or, or_true, false_or, or_false, false_and, and_false, if_true, if_false, ka_lo, ka_hi, ka_nn, km_sr_sf, km_sr_of, km_up_of, km_sr_us, km_sr_uo, km_sr_sr, km_sr_fl, km_sr_flo, km_up_up, km_up_lt, km_lay, km_unL, km_up_o, km_upx_i, km_upx_s, km_fl2_o, km_is, Option.some.injEq, Sum.inl.injEq, Sum.inr.injEq, Option.toList_some, Option.toList_none, List.cons_append, List.nil_append, ne_eq, true_and, and_true, and_self, not_true_eq_false, not_false_eq_true, true_implies, false_implies, reduceCtorEq]
theorem kGI_B {B B' : Int} (h : kGI b w B X) (k : ∀ T : Int, ksb T w → T ≠ 0 → T < B' → T < B) : kGI b w B' X := ⟨h.1, fun T h1 h2 h3 => h.2 T h1 h2 (k T h1 h2 h3)⟩
theorem c_countL (hw : ten w) (hb : ∀ k : Int, 0 ≤ k → k < 10 → -9999991 ≤ b k ∧ b k ≤ 9999991) : ∀ (n : Nat) (S i : Int) (X : km_Mm) (o4 o5 o6 : Option km_V), w - S < n → ksb S w → S ≠ 0 → 0 ≤ i → i < S → (∀ j : Int, 0 ≤ j → j < 10 → X 116 j = b j) → kGI b w S X → ∃ X' : km_Mm, (∀ d j : Int, d ≠ 117 → d ≠ 118 → X' d j = X d j) ∧ kGI b w (w + 1) X' ∧ ∀ Q : Option km_V → km_Al → km_Mm → Prop, km_G M_X9_countGroups 21 [some (.inr (.inr 113)), some (.inl w), some (.inl S), some (.inl i), o4, o5, o6] [] (km_A0 q c s) X Q ↔ Q none (km_A0 q c s) X' := by
  intro n
  induction n with
  | zero =>
    intro S i X o4 o5 o6 hn hs
    have := (ksb_le hw hs).2
    exact absurd hn (by omega)
  | succ n ih =>
    intro S i X o4 o5 o6 hn hs nz i0 i1 hX hI
    have sl := ksb_le hw hs
    have w1 := hw.2
    obtain ⟨X1, p4, p5, p6, v1, v2, v3⟩ := @c_count1 q c s X b w S hw hb hs nz hX hI i i0 (by omega) o4 o5 o6
    rcases ksb_next hw hs with ⟨e1, e2⟩ | ⟨e1, e2, e3⟩
    · refine ⟨X1, v1, by rw [e1] at v2; exact v2, fun Q => ?_⟩
      rw [v3, e2, g_X9_countGroups_21]
      simp (config := { decide := true }) (disch := first | decide | assumption | omega | (simp (config := { decide := true }) only [km_sr_sf, km_sr_of, km_up_of, km_up_o, km_upx_i, km_upx_s, km_fl2_o, ne_eq, not_true_eq_false, not_false_eq_true] <;> omega) | fail) only [g_X9_countGroups, ka_lt, ka_le, ka_nlt, ka_nle, ka_ne, ka_eq, Int.add_sub_cancel, true_or, or_true, false_or, or_false, false_and, and_false, if_true, if_false, ka_lo, ka_hi, ka_nn, km_sr_sf, km_sr_of, km_up_of, km_sr_us, km_sr_uo, km_sr_sr, km_sr_fl, km_sr_flo, km_up_up, km_up_lt, km_lay, km_unL, km_up_o, km_upx_i, km_upx_s, km_fl2_o, km_is, Option.some.injEq, Sum.inl.injEq, Sum.inr.injEq, Option.toList_some, Option.toList_none, List.cons_append, List.nil_append, ne_eq, true_and, and_true, and_self, not_true_eq_false, not_false_eq_true, true_implies, false_implies, reduceCtorEq]
    · obtain ⟨X', u1, u2, u3⟩ := ih (km_and (S - w) w) (i + 1) X1 p4 p5 p6 (by omega) e2 (by omega) (by omega) (by omega) (fun j j0 j1 => by rw [v1 _ _ (by decide) (by decide)]; exact hX j j0 j1) (kGI_B v2 (fun T t1 t2 t3 => by
        refine Classical.byContradiction fun no => ?_
        have := e3 T t1 (by omega)
        omega))
      exact ⟨X', fun d j h1 h2 => (u1 d j h1 h2).trans (v1 d j h1 h2), u2, fun Q => (v3 Q).trans (u3 Q)⟩
/-- all sets are counted -/
theorem c_countGroups (hw : ten w) (hb : ∀ k : Int, 0 ≤ k → k < 10 → -9999991 ≤ b k ∧ b k ≤ 9999991) (hX : ∀ j : Int, 0 ≤ j → j < 10 → X 116 j = b j) : ∃ X' : km_Mm, (∀ d j : Int, d ≠ 117 → d ≠ 118 → X' d j = X d j) ∧ kGI b w (w + 1) X' ∧ ∀ Q : Option km_V → km_Al → km_Mm → Prop, km_E M_X9_countGroups [.inr (.inr 113), .inl w] (km_A0 q c s) X Q ↔ Q none (km_A0 q c s) X' := by
  obtain ⟨Y, dY⟩ : ∃ Y : km_Mm, Y = km_up (km_up X 117 0 0) 118 0 0 := ⟨_, rfl⟩
  have w0 := hw.1
  have w1 := hw.2
  have y0 : Y 118 0 = 0 ∧ Y 117 0 = 0 := by
    rw [dY]
    exact ⟨km_upx_s, by rw [km_up_ne (by omega), km_upx_s]⟩
  have g : ∀ Q : Option km_V → km_Al → km_Mm → Prop, km_E M_X9_countGroups [.inr (.inr 113), .inl w] (km_A0 q c s) X Q ↔ km_G M_X9_countGroups 21 [some (.inr (.inr 113)), some (.inl w), some (.inl (km_and (0 - w) w)), some (.inl 0), none, none, none] [] (km_A0 q c s) Y Q := fun Q => by
    rw [e_X9_countGroups, dY, Int.zero_sub]
    simp (config := { decide := true }) (disch := first | decide | assumption | omega | (simp (config := { decide := true }) only [km_sr_sf, km_sr_of, km_up_of, km_up_o, km_upx_i, km_upx_s, km_fl2_o, ne_eq, not_true_eq_false, not_false_eq_true] <;> omega) | fail) only [g_X9_countGroups, w0, w1, ka_lt, ka_le, ka_nlt, ka_nle, ka_ne, ka_eq, Int.add_sub_cancel, true_or, or_true, false_or, or_false, false_and, and_false, if_true, if_false, ka_lo, ka_hi, ka_nn, km_sr_sf, km_sr_of, km_up_of, km_sr_us, km_sr_uo, km_sr_sr, km_sr_fl, km_sr_flo, km_up_up, km_up_lt, km_lay, km_unL, km_up_o, km_upx_i, km_upx_s, km_fl2_o, km_is, Option.some.injEq, Sum.inl.injEq, Sum.inr.injEq, Option.toList_some, Option.toList_none, List.cons_append, List.nil_append, ne_eq, true_and, and_true, and_self, not_true_eq_false, not_false_eq_true, true_implies, false_implies, reduceCtorEq]
  rcases ksb_next hw (ksb_0 (w := w)) with ⟨e1, e2⟩ | ⟨e1, e2, e3⟩
  · refine ⟨Y, fun d j h1 h2 => by rw [dY, km_up_ne (by omega), km_up_ne (by omega)], ⟨y0, fun T h1 h2 h3 => ?_⟩, fun Q => ?_⟩
    · have := ksb_le hw h1
      omega
    · rw [g, e2, g_X9_countGroups_21]
      simp (config := { decide := true }) (disch := first | decide | assumption | omega | (simp (config := { decide := true }) only [km_sr_sf, km_sr_of, km_up_of, km_up_o, km_upx_i, km_upx_s, km_fl2_o, ne_eq, not_true_eq_false, not_false_eq_true] <;> omega) | fail) only [g_X9_countGroups, ka_lt, ka_le, ka_nlt, ka_nle, ka_ne, ka_eq, Int.add_sub_cancel, true_or, or_true, false_or, or_false, false_and, and_false, if_true, if_false, ka_lo, ka_hi, ka_nn, km_sr_sf, km_sr_of, km_up_of, km_sr_us, km_sr_uo, km_sr_sr, km_sr_fl, km_sr_flo, km_up_up, km_up_lt, km_lay, km_unL, km_up_o, km_upx_i, km_upx_s, km_fl2_o, km_is, Option.some.injEq, Sum.inl.injEq, Sum.inr.injEq, Option.toList_some, Option.toList_none, List.cons_append, List.nil_append, ne_eq, true_and, and_true, and_self, not_true_eq_false, not_false_eq_true, true_implies, false_implies, reduceCtorEq]
  · obtain ⟨X', u1, u2, u3⟩ := @c_countL q c s b w hw hb (w + 1).toNat (km_and (0 - w) w) 0 Y none none none (by omega) e2 (by omega) (by omega) e1 (fun j j0 j1 => by rw [dY, km_up_ne (by omega), km_up_ne (by omega)]; exact hX j j0 j1) ⟨y0, fun T h1 h2 h3 => by
      have := ksb_le hw h1
      have := e3 T h1 (by omega)
      omega⟩
    exact ⟨X', fun d j h1 h2 => by rw [u1 d j h1 h2, dY, km_up_ne (by omega), km_up_ne (by omega)], u2, fun Q => (g Q).trans (u3 Q)⟩
theorem kGI_G (h : kGI b w (w + 1) X) (hw : ten w) : kgG b (X 118) w := ⟨h.1.1, fun S h1 h2 => (h.2 S h1 h2 (by have := ksb_le hw h1; omega)).2.2⟩
/-- the first group -/
theorem c_firstGroup {R O : Int → Int} (hw : ten w) (hI : kGI b w (w + 1) X) (hR : kgR b R O w) (hs : ksb S w) (z : kbs b S = 0) (nz : S ≠ 0) (Q : Option km_V → km_Al → km_Mm → Prop) : km_E M_X9_firstGroup [.inr (.inr 113), .inl S] (km_A0 q c s) X Q ↔ Q (some (.inl (O S))) (km_A0 q c s) X := by
  have hS := ksb_ten hw hs
  have s0 := hS.1
  have s1 := hS.2
  obtain ⟨⟨f1, f2, f3, f4, f5⟩, f6⟩ := kgF hw (kGI_G hI hw) hR hs z nz
  obtain ⟨⟨l0, l1, l2⟩, -⟩ := klw_p hS nz
  have on := ksb_one hS l0 l1 l2
  have dn := ksb_diff hS on.1
  have k1 := klw_one hS nz
  have k2 := ksb_xor hS on.1
  have d0 := dn.1.1
  have d1 := dn.1.2
  obtain ⟨e, de⟩ : ∃ e : Int, e = km_shl 1 (klw S) := ⟨_, rfl⟩
  have kor := fun u (hu : ksb u (S - km_shl 1 (klw S))) => @kor_one S u hS nz hu
  have bs := fun t (h1 : ksb t S) (h2 : tb t (klw S) = true) => (hI.2 t (ksb_tr hS hw h1 hs) (fun y => by rw [y, tb_zero] at h2; cases h2) (by have := ksb_le hw (ksb_tr hS hw h1 hs); omega)).1
  have gS : -1 ≤ X 118 S - 1 ∧ X 118 S ≤ 10 := by
    have := (hI.2 S hs nz (by have := ksb_le hw hs; omega)).2.1
    have := @kpop_b S
    omega
  have u0 : ksb (O S - km_shl 1 (klw S)) (S - km_shl 1 (klw S)) := by
    have hO := ksb_ten hS f1
    have o2 := ksb_one hO l0 l1 f2
    have d2 := ksb_diff hO o2.1
    refine (ksb_tb dn.1).mpr ⟨d2.1, fun j j0 h => ?_⟩
    rw [d2.2 j j0] at h
    rw [dn.2 j j0]
    cases e1 : tb (O S) j with
    | false => rw [e1] at h; simp at h
    | true =>
      rw [e1] at h
      rw [((ksb_tb hS).mp f1).2 j j0 e1]
      exact h
  rw [← de] at on dn k1 k2 d0 d1 kor u0
  have lp : ∀ (n : Nat) (u i : Int) (o6 : Option km_V), O S - e - u < n → u ≤ O S - e → ksb u (S - e) → 0 ≤ i → i ≤ u → (km_G M_X9_firstGroup 15 [some (.inr (.inr 113)), some (.inl S), some (.inl e), some (.inl (S - e)), some (.inl u), some (.inl i), o6] [] (km_A0 q c s) X Q ↔ Q (some (.inl (O S))) (km_A0 q c s) X) := by
    intro n
    induction n with
    | zero => intro u i o6 h1 h2; exact absurd h1 (by omega)
    | succ n ih =>
      intro u i o6 h1 h2 hu i0 i1
      obtain ⟨g1, g2, g3⟩ := kor u hu
      have hg := ksb_ten hS g2
      have hg0 := hg.1
      have hg1 := hg.2
      have ul := ksb_le dn.1 hu
      have i2 : i < 1024 := by omega
      have xs := ksb_xor hS g2
      have dg := (ksb_diff hS g2).1
      have dg0 := dg.1
      have dg1 := dg.2
      have b1 := bs _ g2 g3
      by_cases y : u = O S - e
      · have eg : e + u = O S := by omega
        rw [eg] at g1 hg0 hg1 xs dg0 dg1 b1
        rw [f3] at b1
        rw [g_X9_firstGroup_15]
        simp (config := { decide := true }) (disch := first | decide | assumption | omega | (simp (config := { decide := true }) only [km_sr_sf, km_sr_of, km_up_of, km_up_o, km_upx_i, km_upx_s, km_fl2_o, ne_eq, not_true_eq_false, not_false_eq_true] <;> omega) | fail) only [g_X9_firstGroup, i2, g1, hg0, hg1, b1, xs, dg0, dg1, s0, s1, f4, ka_lt, ka_le, ka_nlt, ka_nle, ka_ne, ka_eq, Int.add_sub_cancel, true_or, or_true, false_or, or_false, false_and, and_false, if_true, if_false, ka_lo, ka_hi, ka_nn, km_sr_sf, km_sr_of, km_up_of, km_sr_us, km_sr_uo, km_sr_sr, km_sr_fl, km_sr_flo, km_up_up, km_up_lt, km_lay, km_unL, km_up_o, km_upx_i, km_upx_s, km_fl2_o, km_is, Option.some.injEq, Sum.inl.injEq, Sum.inr.injEq, Option.toList_some, Option.toList_none, List.cons_append, List.nil_append, ne_eq, true_and, and_true, and_self, not_true_eq_false, not_false_eq_true, true_implies, false_implies, reduceCtorEq]
      · have no := f6 (e + u) (by omega) g2 g3
        have nx := (ksb_next dn.1 hu).resolve_left (fun h => by
          have := ksb_le dn.1 u0
          omega)
        have := nx.2.2 _ u0 (by omega)
        rw [← ih (km_and (u - (S - e)) (S - e)) (i + 1) (some (.inl (e + u))) (by omega) this nx.2.1 (by omega) (by omega), g_X9_firstGroup_15]
        by_cases t : kbs b (e + u) = 0
        · have t2 : ¬ X 118 (S - (e + u)) = X 118 S - 1 := fun h => no ⟨t, h⟩
          rw [t] at b1
          simp (config := { decide := true }) (disch := first | decide | assumption | omega | (simp (config := { decide := true }) only [km_sr_sf, km_sr_of, km_up_of, km_up_o, km_upx_i, km_upx_s, km_fl2_o, ne_eq, not_true_eq_false, not_false_eq_true] <;> omega) | fail) only [g_X9_firstGroup, i2, g1, hg0, hg1, b1, xs, dg0, dg1, s0, s1, t2, ka_lt, ka_le, ka_nlt, ka_nle, ka_ne, ka_eq, Int.add_sub_cancel, true_or, or_true, false_or, or_false, false_and, and_false, if_true, if_false, ka_lo, ka_hi, ka_nn, km_sr_sf, km_sr_of, km_up_of, km_sr_us, km_sr_uo, km_sr_sr, km_sr_fl, km_sr_flo, km_up_up, km_up_lt, km_lay, km_unL, km_up_o, km_upx_i, km_upx_s, km_fl2_o, km_is, Option.some.injEq, Sum.inl.injEq, Sum.inr.injEq, Option.toList_some, Option.toList_none, List.cons_append, List.nil_append, ne_eq, true_and, and_true, and_self, not_true_eq_false, not_false_eq_true, true_implies, false_implies, reduceCtorEq]
        · simp (config := { decide := true }) (disch := first | decide | assumption | omega | (simp (config := { decide := true }) only [km_sr_sf, km_sr_of, km_up_of, km_up_o, km_upx_i, km_upx_s, km_fl2_o, ne_eq, not_true_eq_false, not_false_eq_true] <;> omega) | fail) only [g_X9_firstGroup, i2, g1, hg0, hg1, b1, t, xs, dg0, dg1, s0, s1, ka_lt, ka_le, ka_nlt, ka_nle, ka_ne, ka_eq, Int.add_sub_cancel, true_or, or_true, false_or, or_false, false_and, and_false, if_true, if_false, ka_lo, ka_hi, ka_nn, km_sr_sf, km_sr_of, km_up_of, km_sr_us, km_sr_uo, km_sr_sr, km_sr_fl, km_sr_flo, km_up_up, km_up_lt, km_lay, km_unL, km_up_o, km_upx_i, km_upx_s, km_fl2_o, km_is, Option.some.injEq, Sum.inl.injEq, Sum.inr.injEq, Option.toList_some, Option.toList_none, List.cons_append, List.nil_append, ne_eq, true_and, and_true, and_self, not_true_eq_false, not_false_eq_true, true_implies, false_implies, reduceCtorEq]
  have l := lp (O S - e + 1).toNat 0 0 none (by omega) (ksb_le dn.1 u0).1 ksb_0 (by decide) (by decide)
  rw [← l, e_X9_firstGroup]
  simp (config := { decide := true }) (disch := first | decide | assumption | omega | (simp (config := { decide := true }) only [km_sr_sf, km_sr_of, km_up_of, km_up_o, km_upx_i, km_upx_s, km_fl2_o, ne_eq, not_true_eq_false, not_false_eq_true] <;> omega) | fail) only [g_X9_firstGroup, k1, k2, ka_lt, ka_le, ka_nlt, ka_nle, ka_ne, ka_eq, Int.add_sub_cancel, true_or, or_true, false_or, or_false, false_and, and_false, if_true, if_false, ka_lo, ka_hi, ka_nn, km_sr_sf, km_sr_of, km_up_of, km_sr_us, km_sr_uo, km_sr_sr, km_sr_fl, km_sr_flo, km_up_up, km_up_lt, km_lay, km_unL, km_up_o, km_upx_i, km_upx_s, km_fl2_o, km_is, Option.some.injEq, Sum.inl.injEq, Sum.inr.injEq, Option.toList_some, Option.toList_none, List.cons_append, List.nil_append, ne_eq, true_and, and_true, and_self, not_true_eq_false, not_false_eq_true, true_implies, false_implies, reduceCtorEq]
end CG

