/-! ===== the house: sets of guests, the class's walks ===== -/
theorem sp_nextSet {q : Nat × Int × Int × Int × Int} {c s : Nat} {m : km_Mm} {x w : Int} (h0 : 0 ≤ x) (h1 : x < 2048) (h2 : 0 ≤ w) (h3 : w < 2048) : km_E M_X3_nextSet [.inl x, .inl w] (km_A0 q c s) m (km_is (some (.inl (km_and (x - w) w))) (km_A0 q c s) (m)) := by
  rw [km_E.of (by decide)]
  show km_G M_X3_nextSet 0 [some (.inl x), some (.inl w)] [] (km_A0 q c s) m _
  simp (config := { decide := true }) (disch := first | decide | assumption | omega | (simp (config := { decide := true }) only [km_sr_sf, km_sr_of, km_up_of, km_up_o, km_upx_i, km_upx_s, km_fl2_o, ne_eq, not_true_eq_false, not_false_eq_true] <;> omega) | fail) only [g_X3_nextSet, Int.add_sub_cancel, true_or, or_true, false_or, or_false, false_and, and_false, if_true, if_false, ka_lo, ka_hi, ka_nn, km_sr_sf, km_sr_of, km_up_of, km_sr_us, km_sr_uo, km_sr_sr, km_sr_fl, km_sr_flo, km_up_up, km_up_lt, km_lay, km_unL, km_up_o, km_upx_i, km_upx_s, km_fl2_o, km_is, Option.some.injEq, Sum.inl.injEq, Sum.inr.injEq, Option.toList_some, Option.toList_none, List.cons_append, List.nil_append, ne_eq, true_and, and_true, and_self, not_true_eq_false, not_false_eq_true, true_implies, false_implies, reduceCtorEq]
  all_goals grind
theorem r_nextSet {q : Nat × Int × Int × Int × Int} {c s : Nat} {m : km_Mm} {x w : Int} (h0 : 0 ≤ x) (h1 : x < 2048) (h2 : 0 ≤ w) (h3 : w < 2048) (Q : Option km_V → km_Al → km_Mm → Prop) : km_E M_X3_nextSet [.inl x, .inl w] (km_A0 q c s) m Q ↔ Q (some (.inl (km_and (x - w) w))) (km_A0 q c s) (m) := km_E.rule (sp_nextSet h0 h1 h2 h3) Q
theorem klw_m : ∀ n : Fin 1024, n.val ≠ 0 → km_and (km_xor (n.val : Int) (-1)) ((n.val : Int) - 1) = km_shl 1 (klw (n.val : Int)) - 1 := by decide +kernel
theorem r_ntz {q : Nat × Int × Int × Int × Int} {c s : Nat} {m : km_Mm} {x : Int} (h : ten x) (h0 : x ≠ 0) (Q : Option km_V → km_Al → km_Mm → Prop) : km_E M_J6_numberOfTrailingZeros_0f7a4 [.inl x] (km_A0 q c s) m Q ↔ Q (some (.inl (klw x))) (km_A0 q c s) m := by
  have e := klw_m ⟨x.toNat, by unfold ten at h; omega⟩ (by show x.toNat ≠ 0; unfold ten at h; omega)
  have ex : ((x.toNat : Nat) : Int) = x := by unfold ten at h; omega
  simp only [ex] at e
  have l := (klw_p h h0).1
  unfold ten at h
  rw [km_E.of (by decide)]
  show km_G M_J6_numberOfTrailingZeros_0f7a4 0 [some (.inl x), none] [] (km_A0 q c s) m _ ↔ _
  have u1 : km_ushr 1 1 = 0 := by decide
  have u2 : km_ushr 3 1 = 1 := by decide
  have u3 : km_ushr 7 2 = 1 := by decide
  have u4 : km_ushr 15 2 = 3 := by decide
  have u5 : km_ushr 31 4 = 1 := by decide
  have u6 : km_ushr 63 4 = 3 := by decide
  have u7 : km_ushr 127 4 = 7 := by decide
  have u8 : km_ushr 255 4 = 15 := by decide
  have u9 : km_ushr 511 8 = 1 := by decide
  have u0 : km_and 0 32 = 0 := by decide
  have cs : klw x = 0 ∨ klw x = 1 ∨ klw x = 2 ∨ klw x = 3 ∨ klw x = 4 ∨ klw x = 5 ∨ klw x = 6 ∨ klw x = 7 ∨ klw x = 8 ∨ klw x = 9 := by omega
  have s0 : km_shl 1 0 - 1 = 0 := by decide
  have s1 : km_shl 1 1 - 1 = 1 := by decide
  have s2 : km_shl 1 2 - 1 = 3 := by decide
  have s3 : km_shl 1 3 - 1 = 7 := by decide
  have s4 : km_shl 1 4 - 1 = 15 := by decide
  have s5 : km_shl 1 5 - 1 = 31 := by decide
  have s6 : km_shl 1 6 - 1 = 63 := by decide
  have s7 : km_shl 1 7 - 1 = 127 := by decide
  have s8 : km_shl 1 8 - 1 = 255 := by decide
  have s9 : km_shl 1 9 - 1 = 511 := by decide
  rcases cs with z | z | z | z | z | z | z | z | z | z
  all_goals (rw [z] at e ⊢; simp only [s0, s1, s2, s3, s4, s5, s6, s7, s8, s9] at e)
  all_goals simp (config := { decide := true }) (disch := first | decide | assumption | omega | (simp (config := { decide := true }) only [km_sr_sf, km_sr_of, km_up_of, km_up_o, km_upx_i, km_upx_s, km_fl2_o, ne_eq, not_true_eq_false, not_false_eq_true] <;> omega) | fail) only [g_J6_numberOfTrailingZeros_0f7a4, e, u0, u1, u2, u3, u4, u5, u6, u7, u8, u9, Int.reduceLT, Int.reduceLE, Int.reduceAdd, Int.add_sub_cancel, true_or, or_true, false_or, or_false, false_and, and_false, if_true, if_false, ka_lo, ka_hi, ka_nn, km_sr_sf, km_sr_of, km_up_of, km_sr_us, km_sr_uo, km_sr_sr, km_sr_fl, km_sr_flo, km_up_up, km_up_lt, km_lay, km_unL, km_up_o, km_upx_i, km_upx_s, km_fl2_o, km_is, Option.some.injEq, Sum.inl.injEq, Sum.inr.injEq, Option.toList_some, Option.toList_none, List.cons_append, List.nil_append, ne_eq, true_and, and_true, and_self, not_true_eq_false, not_false_eq_true, true_implies, false_implies, reduceCtorEq]
theorem cl_least9 {q : Nat × Int × Int × Int × Int} {c s : Nat} {M : km_Mm} {w b : Int} (hw : ten w) (b0 : 0 ≤ b) (b1 : b < 185) (bk : km_kd (km_A0 q c s) b = 0) (bl : km_ln (km_A0 q c s) b = 1024) (hr : ∀ t : Int, ksb t w → -1000000000 ≤ M 93 t + M b (w - t) ∧ M 93 t + M b (w - t) ≤ 1000000000) :
    ∀ (n : Nat) (x i v : Int) (o : Option km_V), 1023 - x < n → ksb x w → 0 ≤ i → i ≤ x → v ≤ 1000000 → (∀ t : Int, ksb t w → t < x → v ≤ M 93 t + M b (w - t)) → (v = 1000000 ∨ ∃ t : Int, ksb t w ∧ v = M 93 t + M b (w - t)) →
    ∃ v' : Int, kdmn w 1000000 v' (fun t => M 93 t + M b (w - t)) ∧ ∀ Q : Option km_V → km_Al → km_Mm → Prop, (km_G M_X3_leastFrom 9 [some (.inl w), some (.inr (.inr 93)), some (.inr (.inr b)), some (.inl v), some (.inl x), some (.inl i), o] [] (km_A0 q c s) M Q ↔ Q (some (.inl v')) (km_A0 q c s) M) := by
  intro n
  have hw' := hw
  unfold ten at hw'
  induction n with
  | zero => intro x i v o h hx; have := ksb_le hw hx; omega
  | succ n ih =>
    intro x i v o h hx i0 i1 v1 v2 v3
    have lx := ksb_le hw hx
    have hrx := hr x hx
    have xo := ksb_xor hw hx
    have nx := ksb_next hw hx
    have lt : ∀ z : Int, z ≤ v → z ≤ M 93 x + M b (w - x) → ∀ t : Int, ksb t w → t ≤ x → z ≤ M 93 t + M b (w - t) := by
      intro z z1 z2 t ht htx
      by_cases e : t = x
      · subst e; exact z2
      · have := v2 t ht (by omega); omega
    have bn : b ≠ -1 := by omega
    by_cases y : M 93 x + M b (w - x) < v
    · rcases nx with ⟨e1, e2⟩ | ⟨a1, a2, a3⟩
      · refine ⟨M 93 x + M b (w - x), ⟨by omega, fun t ht => lt _ (by omega) (by omega) t ht (by have := ksb_le hw ht; omega), Or.inr ⟨x, hx, rfl⟩⟩, fun Q => ?_⟩
        rw [g_X3_leastFrom_9]
        simp (config := { decide := true }) (disch := first | decide | assumption | omega | (simp (config := { decide := true }) only [km_sr_sf, km_sr_of, km_up_of, km_up_o, km_upx_i, km_upx_s, km_fl2_o, ne_eq, not_true_eq_false, not_false_eq_true] <;> omega) | fail) only [g_X3_leastFrom, xo, b0, b1, bn, bk, bl, y, e2, ka_lt, ka_le, ka_nlt, ka_nle, ka_ne, ka_eq, Int.add_sub_cancel, true_or, or_true, false_or, or_false, false_and, and_false, if_true, if_false, ka_lo, ka_hi, ka_nn, km_sr_sf, km_sr_of, km_up_of, km_sr_us, km_sr_uo, km_sr_sr, km_sr_fl, km_sr_flo, km_up_up, km_up_lt, km_lay, km_unL, km_up_o, km_upx_i, km_upx_s, km_fl2_o, km_is, Option.some.injEq, Sum.inl.injEq, Sum.inr.injEq, Option.toList_some, Option.toList_none, List.cons_append, List.nil_append, ne_eq, true_and, and_true, and_self, not_true_eq_false, not_false_eq_true, true_implies, false_implies, reduceCtorEq]
      · have a4 := ksb_le hw a2
        obtain ⟨v', c1, c2⟩ := ih (km_and (x - w) w) (i + 1) (M 93 x + M b (w - x)) (some (.inl (M 93 x + M b (w - x)))) (by omega) a2 (by omega) (by omega) (by omega) (fun t ht htx => lt _ (by omega) (by omega) t ht (by
          by_cases e : t ≤ x
          · exact e
          · have := a3 t ht (by omega); omega)) (Or.inr ⟨x, hx, rfl⟩)
        refine ⟨v', c1, fun Q => ?_⟩
        have ne : ¬ km_and (x - w) w = 0 := by omega
        rw [g_X3_leastFrom_9]
        simp (config := { decide := true }) (disch := first | decide | assumption | omega | (simp (config := { decide := true }) only [km_sr_sf, km_sr_of, km_up_of, km_up_o, km_upx_i, km_upx_s, km_fl2_o, ne_eq, not_true_eq_false, not_false_eq_true] <;> omega) | fail) only [g_X3_leastFrom, xo, b0, b1, bn, bk, bl, y, ne, c2, ka_lt, ka_le, ka_nlt, ka_nle, ka_ne, ka_eq, Int.add_sub_cancel, true_or, or_true, false_or, or_false, false_and, and_false, if_true, if_false, ka_lo, ka_hi, ka_nn, km_sr_sf, km_sr_of, km_up_of, km_sr_us, km_sr_uo, km_sr_sr, km_sr_fl, km_sr_flo, km_up_up, km_up_lt, km_lay, km_unL, km_up_o, km_upx_i, km_upx_s, km_fl2_o, km_is, Option.some.injEq, Sum.inl.injEq, Sum.inr.injEq, Option.toList_some, Option.toList_none, List.cons_append, List.nil_append, ne_eq, true_and, and_true, and_self, not_true_eq_false, not_false_eq_true, true_implies, false_implies, reduceCtorEq]
    · rcases nx with ⟨e1, e2⟩ | ⟨a1, a2, a3⟩
      · refine ⟨v, ⟨v1, fun t ht => lt _ (by omega) (by omega) t ht (by have := ksb_le hw ht; omega), v3⟩, fun Q => ?_⟩
        rw [g_X3_leastFrom_9]
        simp (config := { decide := true }) (disch := first | decide | assumption | omega | (simp (config := { decide := true }) only [km_sr_sf, km_sr_of, km_up_of, km_up_o, km_upx_i, km_upx_s, km_fl2_o, ne_eq, not_true_eq_false, not_false_eq_true] <;> omega) | fail) only [g_X3_leastFrom, xo, b0, b1, bn, bk, bl, y, e2, ka_lt, ka_le, ka_nlt, ka_nle, ka_ne, ka_eq, Int.add_sub_cancel, true_or, or_true, false_or, or_false, false_and, and_false, if_true, if_false, ka_lo, ka_hi, ka_nn, km_sr_sf, km_sr_of, km_up_of, km_sr_us, km_sr_uo, km_sr_sr, km_sr_fl, km_sr_flo, km_up_up, km_up_lt, km_lay, km_unL, km_up_o, km_upx_i, km_upx_s, km_fl2_o, km_is, Option.some.injEq, Sum.inl.injEq, Sum.inr.injEq, Option.toList_some, Option.toList_none, List.cons_append, List.nil_append, ne_eq, true_and, and_true, and_self, not_true_eq_false, not_false_eq_true, true_implies, false_implies, reduceCtorEq]
      · have a4 := ksb_le hw a2
        obtain ⟨v', c1, c2⟩ := ih (km_and (x - w) w) (i + 1) v (some (.inl (M 93 x + M b (w - x)))) (by omega) a2 (by omega) (by omega) (by omega) (fun t ht htx => lt _ (by omega) (by omega) t ht (by
          by_cases e : t ≤ x
          · exact e
          · have := a3 t ht (by omega); omega)) v3
        refine ⟨v', c1, fun Q => ?_⟩
        have ne : ¬ km_and (x - w) w = 0 := by omega
        rw [g_X3_leastFrom_9]
        simp (config := { decide := true }) (disch := first | decide | assumption | omega | (simp (config := { decide := true }) only [km_sr_sf, km_sr_of, km_up_of, km_up_o, km_upx_i, km_upx_s, km_fl2_o, ne_eq, not_true_eq_false, not_false_eq_true] <;> omega) | fail) only [g_X3_leastFrom, xo, b0, b1, bn, bk, bl, y, ne, c2, ka_lt, ka_le, ka_nlt, ka_nle, ka_ne, ka_eq, Int.add_sub_cancel, true_or, or_true, false_or, or_false, false_and, and_false, if_true, if_false, ka_lo, ka_hi, ka_nn, km_sr_sf, km_sr_of, km_up_of, km_sr_us, km_sr_uo, km_sr_sr, km_sr_fl, km_sr_flo, km_up_up, km_up_lt, km_lay, km_unL, km_up_o, km_upx_i, km_upx_s, km_fl2_o, km_is, Option.some.injEq, Sum.inl.injEq, Sum.inr.injEq, Option.toList_some, Option.toList_none, List.cons_append, List.nil_append, ne_eq, true_and, and_true, and_self, not_true_eq_false, not_false_eq_true, true_implies, false_implies, reduceCtorEq]
theorem cl_leastFrom {q : Nat × Int × Int × Int × Int} {c s : Nat} {M : km_Mm} {w b : Int} (hw : ten w) (b0 : 0 ≤ b) (b1 : b < 185) (bk : km_kd (km_A0 q c s) b = 0) (bl : km_ln (km_A0 q c s) b = 1024) (hr : ∀ t : Int, ksb t w → -1000000000 ≤ M 93 t + M b (w - t) ∧ M 93 t + M b (w - t) ≤ 1000000000) :
    ∃ v' : Int, kdmn w 1000000 v' (fun t => M 93 t + M b (w - t)) ∧ ∀ Q : Option km_V → km_Al → km_Mm → Prop, (km_E M_X3_leastFrom [.inl w, .inr (.inr 93), .inr (.inr b)] (km_A0 q c s) M Q ↔ Q (some (.inl v')) (km_A0 q c s) M) := by
  obtain ⟨v', c1, c2⟩ := @cl_least9 q c s M w b hw b0 b1 bk bl hr 1024 0 0 1000000 none (by omega) ksb_0 (by omega) (by omega) (by omega) (fun t ht h => by have := ht.1; omega) (Or.inl rfl)
  refine ⟨v', c1, fun Q => ?_⟩
  rw [es_X3_leastFrom]
  simp (config := { decide := true }) (disch := first | decide | assumption | omega | (simp (config := { decide := true }) only [km_sr_sf, km_sr_of, km_up_of, km_up_o, km_upx_i, km_upx_s, km_fl2_o, ne_eq, not_true_eq_false, not_false_eq_true] <;> omega) | fail) only [g_X3_leastFrom, c2, Int.add_sub_cancel, true_or, or_true, false_or, or_false, false_and, and_false, if_true, if_false, ka_lo, ka_hi, ka_nn, km_sr_sf, km_sr_of, km_up_of, km_sr_us, km_sr_uo, km_sr_sr, km_sr_fl, km_sr_flo, km_up_up, km_up_lt, km_lay, km_unL, km_up_o, km_upx_i, km_upx_s, km_fl2_o, km_is, Option.some.injEq, Sum.inl.injEq, Sum.inr.injEq, Option.toList_some, Option.toList_none, List.cons_append, List.nil_append, ne_eq, true_and, and_true, and_self, not_true_eq_false, not_false_eq_true, true_implies, false_implies, reduceCtorEq]
theorem kmul_b {a b A B : Int} (a0 : 0 ≤ a) (a1 : a ≤ A) (b0 : 0 ≤ b) (b1 : b ≤ B) : 0 ≤ a * b ∧ a * b ≤ A * B :=
  ⟨Int.mul_nonneg a0 b0, Int.mul_le_mul a1 b1 b0 (by omega)⟩
theorem kpop_b {x : Int} : 0 ≤ km_pop x ∧ km_pop x ≤ 10 := by rw [km_pop_cnt]; exact kcnt_b 10
/-- what a set costs at a place -/
def kpc (M : km_Mm) (p cap t : Int) : Int := if cap < km_pop t then 1000000 else M 92 t + M 89 2 * km_pop (km_and t (M 91 p))
theorem cl_price6 {q : Nat × Int × Int × Int × Int} {c s : Nat} {M : km_Mm} {w p cap : Int} (hw : ten w) (p0 : 0 ≤ p) (p1 : p < 4) (hm : 0 ≤ M 91 p ∧ M 91 p < 1024) (h2 : 0 ≤ M 89 2 ∧ M 89 2 ≤ 99) (hr : ∀ t : Int, ksb t w → -2000000 ≤ M 92 t ∧ M 92 t ≤ 2000000) :
    ∀ (n : Nat) (x i : Int) (X : km_Mm), 1023 - x < n → ksb x w → 0 ≤ i → i ≤ x → (∀ b j : Int, b ≠ 93 → X b j = M b j) → (∀ t : Int, ksb t w → t < x → X 93 t = kpc M p cap t) →
    ∃ M' : km_Mm, (∀ b j : Int, b ≠ 93 → M' b j = M b j) ∧ (∀ t : Int, ksb t w → M' 93 t = kpc M p cap t) ∧ ∀ Q : Option km_V → km_Al → km_Mm → Prop, (km_G M_X3_pricePlace 6 [some (.inr (.inr 85)), some (.inl w), some (.inl p), some (.inl cap), some (.inl x), some (.inl i)] [] (km_A0 q c s) X Q ↔ Q none (km_A0 q c s) M') := by
  intro n
  have hw' := hw
  unfold ten at hw'
  induction n with
  | zero => intro x i X h hx; have := ksb_le hw hx; omega
  | succ n ih =>
    intro x i X h hx i0 i1 f1 f2
    have lx := ksb_le hw hx
    have tx := ksb_ten hw hx
    have nx := ksb_next hw hx
    have hrx := hr x hx
    have tm : ten (km_and x (M 91 p)) := ten_and tx hm.1
    have bc := fun (X : km_Mm) Q => @sp_bitCount x tx.1 tx.2 (km_A0 q c s) X Q
    have bd := fun (X : km_Mm) Q => @sp_bitCount _ tm.1 tm.2 (km_A0 q c s) X Q
    have ns := fun (X : km_Mm) Q => @r_nextSet q c s X x w lx.1 (by omega) hw.1 (by omega) Q
    have mb := kmul_b h2.1 h2.2 (kpop_b (x := km_and x (M 91 p))).1 kpop_b.2
    have e1 : X 91 = M 91 := funext fun j => f1 91 j (by decide)
    have e2 : X 89 = M 89 := funext fun j => f1 89 j (by decide)
    have e3 : X 92 = M 92 := funext fun j => f1 92 j (by decide)
    have p91 : (0 ≤ p ∧ p < 4) := ⟨p0, p1⟩
    have st : ∀ (b j : Int), b ≠ 93 → km_up X 93 x (kpc M p cap x) b j = M b j := fun b j h => by rw [km_up_ne (fun e => h e.1)]; exact f1 b j h
    have sv : ∀ t : Int, ksb t w → t ≤ x → km_up X 93 x (kpc M p cap x) 93 t = kpc M p cap t := by
      intro t ht htx
      by_cases e : t = x
      · rw [km_up_eq ⟨rfl, e⟩, e]
      · rw [km_up_ne (fun z => e z.2)]; exact f2 t ht (by omega)
    have pv : kpc M p cap x = if cap < km_pop x then 1000000 else M 92 x + M 89 2 * km_pop (km_and x (M 91 p)) := rfl
    rcases nx with ⟨a1, a2⟩ | ⟨a1, a2, a3⟩
    · refine ⟨km_up X 93 x (kpc M p cap x), st, fun t ht => sv t ht (by have := ksb_le hw ht; omega), fun Q => ?_⟩
      rw [g_X3_pricePlace_6]
      by_cases z : cap < km_pop x
      · rw [if_pos z] at pv
        simp (config := { decide := true }) (disch := first | decide | assumption | omega | (simp (config := { decide := true }) only [km_sr_sf, km_sr_of, km_up_of, km_up_o, km_upx_i, km_upx_s, km_fl2_o, ne_eq, not_true_eq_false, not_false_eq_true] <;> omega) | fail) only [g_X3_pricePlace, bc, ns, a2, pv, ka_lt, ka_le, ka_nlt, ka_nle, ka_ne, ka_eq, Int.add_sub_cancel, true_or, or_true, false_or, or_false, false_and, and_false, if_true, if_false, ka_lo, ka_hi, ka_nn, km_sr_sf, km_sr_of, km_up_of, km_sr_us, km_sr_uo, km_sr_sr, km_sr_fl, km_sr_flo, km_up_up, km_up_lt, km_lay, km_unL, km_up_o, km_upx_i, km_upx_s, km_fl2_o, km_is, Option.some.injEq, Sum.inl.injEq, Sum.inr.injEq, Option.toList_some, Option.toList_none, List.cons_append, List.nil_append, ne_eq, true_and, and_true, and_self, not_true_eq_false, not_false_eq_true, true_implies, false_implies, reduceCtorEq]
      · rw [if_neg z] at pv
        simp (config := { decide := true }) (disch := first | decide | assumption | omega | (simp (config := { decide := true }) only [km_sr_sf, km_sr_of, km_up_of, km_up_o, km_upx_i, km_upx_s, km_fl2_o, ne_eq, not_true_eq_false, not_false_eq_true] <;> omega) | fail) only [g_X3_pricePlace, bc, bd, ns, e1, e2, e3, p0, p1, a2, pv, ka_lt, ka_le, ka_nlt, ka_nle, ka_ne, ka_eq, Int.add_sub_cancel, true_or, or_true, false_or, or_false, false_and, and_false, if_true, if_false, ka_lo, ka_hi, ka_nn, km_sr_sf, km_sr_of, km_up_of, km_sr_us, km_sr_uo, km_sr_sr, km_sr_fl, km_sr_flo, km_up_up, km_up_lt, km_lay, km_unL, km_up_o, km_upx_i, km_upx_s, km_fl2_o, km_is, Option.some.injEq, Sum.inl.injEq, Sum.inr.injEq, Option.toList_some, Option.toList_none, List.cons_append, List.nil_append, ne_eq, true_and, and_true, and_self, not_true_eq_false, not_false_eq_true, true_implies, false_implies, reduceCtorEq]
    · have a4 := ksb_le hw a2
      obtain ⟨M', b1, b2, b3⟩ := ih (km_and (x - w) w) (i + 1) (km_up X 93 x (kpc M p cap x)) (by omega) a2 (by omega) (by omega) st (fun t ht htx => sv t ht (by
          by_cases e : t ≤ x
          · exact e
          · have := a3 t ht (by omega); omega))
      refine ⟨M', b1, b2, fun Q => ?_⟩
      rw [← b3 Q, g_X3_pricePlace_6]
      have ne : ¬ km_and (x - w) w = 0 := by omega
      by_cases z : cap < km_pop x
      · rw [if_pos z] at pv
        simp (config := { decide := true }) (disch := first | decide | assumption | omega | (simp (config := { decide := true }) only [km_sr_sf, km_sr_of, km_up_of, km_up_o, km_upx_i, km_upx_s, km_fl2_o, ne_eq, not_true_eq_false, not_false_eq_true] <;> omega) | fail) only [g_X3_pricePlace, bc, ns, ne, pv, ka_lt, ka_le, ka_nlt, ka_nle, ka_ne, ka_eq, Int.add_sub_cancel, true_or, or_true, false_or, or_false, false_and, and_false, if_true, if_false, ka_lo, ka_hi, ka_nn, km_sr_sf, km_sr_of, km_up_of, km_sr_us, km_sr_uo, km_sr_sr, km_sr_fl, km_sr_flo, km_up_up, km_up_lt, km_lay, km_unL, km_up_o, km_upx_i, km_upx_s, km_fl2_o, km_is, Option.some.injEq, Sum.inl.injEq, Sum.inr.injEq, Option.toList_some, Option.toList_none, List.cons_append, List.nil_append, ne_eq, true_and, and_true, and_self, not_true_eq_false, not_false_eq_true, true_implies, false_implies, reduceCtorEq]
      · rw [if_neg z] at pv
        simp (config := { decide := true }) (disch := first | decide | assumption | omega | (simp (config := { decide := true }) only [km_sr_sf, km_sr_of, km_up_of, km_up_o, km_upx_i, km_upx_s, km_fl2_o, ne_eq, not_true_eq_false, not_false_eq_true] <;> omega) | fail) only [g_X3_pricePlace, bc, bd, ns, e1, e2, e3, p0, p1, ne, pv, ka_lt, ka_le, ka_nlt, ka_nle, ka_ne, ka_eq, Int.add_sub_cancel, true_or, or_true, false_or, or_false, false_and, and_false, if_true, if_false, ka_lo, ka_hi, ka_nn, km_sr_sf, km_sr_of, km_up_of, km_sr_us, km_sr_uo, km_sr_sr, km_sr_fl, km_sr_flo, km_up_up, km_up_lt, km_lay, km_unL, km_up_o, km_upx_i, km_upx_s, km_fl2_o, km_is, Option.some.injEq, Sum.inl.injEq, Sum.inr.injEq, Option.toList_some, Option.toList_none, List.cons_append, List.nil_append, ne_eq, true_and, and_true, and_self, not_true_eq_false, not_false_eq_true, true_implies, false_implies, reduceCtorEq]
theorem cl_pricePlace {q : Nat × Int × Int × Int × Int} {c s : Nat} {M : km_Mm} {w p cap : Int} (hw : ten w) (p0 : 0 ≤ p) (p1 : p < 4) (hm : 0 ≤ M 91 p ∧ M 91 p < 1024) (h2 : 0 ≤ M 89 2 ∧ M 89 2 ≤ 99) (hr : ∀ t : Int, ksb t w → -2000000 ≤ M 92 t ∧ M 92 t ≤ 2000000) :
    ∃ M' : km_Mm, (∀ b j : Int, b ≠ 93 → M' b j = M b j) ∧ (∀ t : Int, ksb t w → M' 93 t = kpc M p cap t) ∧ ∀ Q : Option km_V → km_Al → km_Mm → Prop, (km_E M_X3_pricePlace [.inr (.inr 85), .inl w, .inl p, .inl cap] (km_A0 q c s) M Q ↔ Q none (km_A0 q c s) M') := by
  obtain ⟨M', c1, c2, c3⟩ := @cl_price6 q c s M w p cap hw p0 p1 hm h2 hr 1024 0 0 M (by omega) ksb_0 (by omega) (by omega) (fun _ _ _ => rfl) (fun t ht h => by have := ht.1; omega)
  refine ⟨M', c1, c2, fun Q => ?_⟩
  rw [e_X3_pricePlace]
  simp (config := { decide := true }) (disch := first | decide | assumption | omega | (simp (config := { decide := true }) only [km_sr_sf, km_sr_of, km_up_of, km_up_o, km_upx_i, km_upx_s, km_fl2_o, ne_eq, not_true_eq_false, not_false_eq_true] <;> omega) | fail) only [g_X3_pricePlace, c3, Int.add_sub_cancel, true_or, or_true, false_or, or_false, false_and, and_false, if_true, if_false, ka_lo, ka_hi, ka_nn, km_sr_sf, km_sr_of, km_up_of, km_sr_us, km_sr_uo, km_sr_sr, km_sr_fl, km_sr_flo, km_up_up, km_up_lt, km_lay, km_unL, km_up_o, km_upx_i, km_upx_s, km_fl2_o, km_is, Option.some.injEq, Sum.inl.injEq, Sum.inr.injEq, Option.toList_some, Option.toList_none, List.cons_append, List.nil_append, ne_eq, true_and, and_true, and_self, not_true_eq_false, not_false_eq_true, true_implies, false_implies, reduceCtorEq]

