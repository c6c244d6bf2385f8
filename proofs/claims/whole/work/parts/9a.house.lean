/-! ===== the house: fillLeast, firstFor ===== -/
/-- what fillLeast leaves for the set t -/
def kfl (M : km_Mm) (w p sp bf : Int) (r : Int → Int) (t : Int) : Prop := (km_pop t ≤ sp ∧ km_pop (w - t) ≤ bf → kdmn t 1000000 (r t) (fun u => M 93 u + M (94 + 1 + (p + 1)) (t - u))) ∧ (¬ (km_pop t ≤ sp ∧ km_pop (w - t) ≤ bf) → r t = 1000000)
theorem cl_fill6 {q : Nat × Int × Int × Int × Int} {c s : Nat} {M : km_Mm} {w p sp bf : Int} (hw : ten w) (p0 : 0 ≤ p) (p1 : p < 3) (hr : ∀ t u : Int, ksb t w → ksb u w → -1000000000 ≤ M 93 t + M (94 + 1 + (p + 1)) u ∧ M 93 t + M (94 + 1 + (p + 1)) u ≤ 1000000000) :
    ∀ (n : Nat) (x i : Int) (o : Option km_V) (X : km_Mm), 1023 - x < n → ksb x w → 0 ≤ i → i ≤ x → (∀ b j : Int, b ≠ 94 + 1 + p → X b j = M b j) → (∀ t : Int, ksb t w → t < x → kfl M w p sp bf (X (94 + 1 + p)) t) →
    ∃ M' : km_Mm, (∀ b j : Int, b ≠ 94 + 1 + p → M' b j = M b j) ∧ (∀ t : Int, ksb t w → kfl M w p sp bf (M' (94 + 1 + p)) t) ∧ ∀ Q : Option km_V → km_Al → km_Mm → Prop, (km_G M_X3_fillLeast 6 [some (.inr (.inr 85)), some (.inl w), some (.inl p), some (.inl sp), some (.inl bf), some (.inl x), some (.inl i), o] [] (km_A0 q c s) X Q ↔ Q none (km_A0 q c s) M') := by
  intro n
  have hw' := hw
  unfold ten at hw'
  have r94 := km_row94 q c s
  have ra := @km_rowc94 q c s p p0 (by omega)
  have rb := @km_rowc94 q c s (p + 1) (by omega) (by omega)
  have nn : ¬ (94 + 1 + p = -1) := by omega
  have nn2 : ¬ (94 + 1 + (p + 1) = -1) := by omega
  induction n with
  | zero => intro x i o X h hx; have := ksb_le hw hx; omega
  | succ n ih =>
    intro x i o X h hx i0 i1 f1 f2
    have lx := ksb_le hw hx
    have tx := ksb_ten hw hx
    have nx := ksb_next hw hx
    have xo := ksb_xor hw hx
    have hd := (ksb_diff hw hx).1
    have bc := fun (X : km_Mm) Q => @sp_bitCount x tx.1 tx.2 (km_A0 q c s) X Q
    have bd := fun (X : km_Mm) Q => @sp_bitCount (w - x) hd.1 hd.2 (km_A0 q c s) X Q
    have ns := fun (X : km_Mm) Q => @r_nextSet q c s X x w lx.1 (by omega) hw.1 (by omega) Q
    have e1 : X 93 = M 93 := funext fun j => f1 93 j (by omega)
    have e2 : X (94 + 1 + (p + 1)) = M (94 + 1 + (p + 1)) := funext fun j => f1 _ j (by omega)
    obtain ⟨v, v1, v2⟩ := @cl_leastFrom q c s X x (94 + 1 + (p + 1)) tx (by omega) (by omega) rb.1 rb.2 (fun t ht => by
      rw [e1, e2]
      have d := ksb_dsub tx ht
      exact hr t (x - t) (ksb_tr tx hw ht hx) (ksb_tr tx hw d hx))
    rw [e1, e2] at v1
    have go : ∀ v : Int, kfl M w p sp bf (fun _ => v) x → 
      (∀ b j : Int, b ≠ 94 + 1 + p → km_up X (94 + 1 + p) x v b j = M b j) ∧ (∀ t : Int, ksb t w → t ≤ x → kfl M w p sp bf (km_up X (94 + 1 + p) x v (94 + 1 + p)) t) := by
      intro v hv
      refine ⟨fun b j h => by rw [km_up_ne (fun e => h e.1)]; exact f1 b j h, fun t ht htx => ?_⟩
      by_cases e : t = x
      · subst e; unfold kfl at *; rw [km_up_eq ⟨rfl, rfl⟩]; exact hv
      · have := f2 t ht (by omega); unfold kfl at *; rw [km_up_ne (fun z => e z.2)]; exact this
    have fin : ∀ v : Int, (∀ Q : Option km_V → km_Al → km_Mm → Prop, km_G M_X3_fillLeast 6 [some (.inr (.inr 85)), some (.inl w), some (.inl p), some (.inl sp), some (.inl bf), some (.inl x), some (.inl i), o] [] (km_A0 q c s) X Q ↔ km_G M_X3_fillLeast 78 [some (.inr (.inr 85)), some (.inl w), some (.inl p), some (.inl sp), some (.inl bf), some (.inl x), some (.inl i), some (.inl (if km_pop x ≤ sp ∧ km_pop (w - x) ≤ bf then 1 else 0))] [] (km_A0 q c s) (km_up X (94 + 1 + p) x v) Q) → kfl M w p sp bf (fun _ => v) x → ∃ M' : km_Mm, (∀ b j : Int, b ≠ 94 + 1 + p → M' b j = M b j) ∧ (∀ t : Int, ksb t w → kfl M w p sp bf (M' (94 + 1 + p)) t) ∧ ∀ Q : Option km_V → km_Al → km_Mm → Prop, (km_G M_X3_fillLeast 6 [some (.inr (.inr 85)), some (.inl w), some (.inl p), some (.inl sp), some (.inl bf), some (.inl x), some (.inl i), o] [] (km_A0 q c s) X Q ↔ Q none (km_A0 q c s) M') := by
      intro v g1 g2
      obtain ⟨k1, k2⟩ := go v g2
      rcases nx with ⟨a1, a2⟩ | ⟨a1, a2, a3⟩
      · refine ⟨km_up X (94 + 1 + p) x v, k1, fun t ht => k2 t ht (by have := ksb_le hw ht; omega), fun Q => ?_⟩
        rw [g1]
        simp (config := { decide := true }) (disch := first | decide | assumption | omega | (simp (config := { decide := true }) only [km_sr_sf, km_sr_of, km_up_of, km_up_o, km_upx_i, km_upx_s, km_fl2_o, ne_eq, not_true_eq_false, not_false_eq_true] <;> omega) | fail) only [g_X3_fillLeast, ns, a2, ka_lt, ka_le, ka_nlt, ka_nle, ka_ne, ka_eq, Int.add_sub_cancel, true_or, or_true, false_or, or_false, false_and, and_false, if_true, if_false, ka_lo, ka_hi, ka_nn, km_sr_sf, km_sr_of, km_up_of, km_sr_us, km_sr_uo, km_sr_sr, km_sr_fl, km_sr_flo, km_up_up, km_up_lt, km_lay, km_unL, km_up_o, km_upx_i, km_upx_s, km_fl2_o, km_is, Option.some.injEq, Sum.inl.injEq, Sum.inr.injEq, Option.toList_some, Option.toList_none, List.cons_append, List.nil_append, ne_eq, true_and, and_true, and_self, not_true_eq_false, not_false_eq_true, true_implies, false_implies, reduceCtorEq]
      · have a4 := ksb_le hw a2
        obtain ⟨M', b1, b2, b3⟩ := ih (km_and (x - w) w) (i + 1) (some (.inl (if km_pop x ≤ sp ∧ km_pop (w - x) ≤ bf then 1 else 0))) (km_up X (94 + 1 + p) x v) (by omega) a2 (by omega) (by omega) k1 (fun t ht htx => k2 t ht (by
          by_cases e : t ≤ x
          · exact e
          · have := a3 t ht (by omega); omega))
        have ne : ¬ km_and (x - w) w = 0 := by omega
        refine ⟨M', b1, b2, fun Q => ?_⟩
        rw [← b3 Q, g1]
        simp (config := { decide := true }) (disch := first | decide | assumption | omega | (simp (config := { decide := true }) only [km_sr_sf, km_sr_of, km_up_of, km_up_o, km_upx_i, km_upx_s, km_fl2_o, ne_eq, not_true_eq_false, not_false_eq_true] <;> omega) | fail) only [g_X3_fillLeast, ns, ne, ka_lt, ka_le, ka_nlt, ka_nle, ka_ne, ka_eq, Int.add_sub_cancel, true_or, or_true, false_or, or_false, false_and, and_false, if_true, if_false, ka_lo, ka_hi, ka_nn, km_sr_sf, km_sr_of, km_up_of, km_sr_us, km_sr_uo, km_sr_sr, km_sr_fl, km_sr_flo, km_up_up, km_up_lt, km_lay, km_unL, km_up_o, km_upx_i, km_upx_s, km_fl2_o, km_is, Option.some.injEq, Sum.inl.injEq, Sum.inr.injEq, Option.toList_some, Option.toList_none, List.cons_append, List.nil_append, ne_eq, true_and, and_true, and_self, not_true_eq_false, not_false_eq_true, true_implies, false_implies, reduceCtorEq]
    by_cases z1 : km_pop x ≤ sp
    · by_cases z2 : km_pop (w - x) ≤ bf
      · refine fin v (fun Q => ?_) ⟨fun _ => v1, fun h => absurd ⟨z1, z2⟩ h⟩
        rw [if_pos ⟨z1, z2⟩, g_X3_fillLeast_6]
        simp (config := { decide := true }) (disch := first | decide | assumption | omega | (simp (config := { decide := true }) only [km_sr_sf, km_sr_of, km_up_of, km_up_o, km_upx_i, km_upx_s, km_fl2_o, ne_eq, not_true_eq_false, not_false_eq_true] <;> omega) | fail) only [g_X3_fillLeast, bc, bd, xo, z1, z2, r94, ra.1, ra.2, nn, nn2, v2, ka_lt, ka_le, ka_nlt, ka_nle, ka_ne, ka_eq, Int.add_sub_cancel, true_or, or_true, false_or, or_false, false_and, and_false, if_true, if_false, ka_lo, ka_hi, ka_nn, km_sr_sf, km_sr_of, km_up_of, km_sr_us, km_sr_uo, km_sr_sr, km_sr_fl, km_sr_flo, km_up_up, km_up_lt, km_lay, km_unL, km_up_o, km_upx_i, km_upx_s, km_fl2_o, km_is, Option.some.injEq, Sum.inl.injEq, Sum.inr.injEq, Option.toList_some, Option.toList_none, List.cons_append, List.nil_append, ne_eq, true_and, and_true, and_self, not_true_eq_false, not_false_eq_true, true_implies, false_implies, reduceCtorEq]
      · refine fin 1000000 (fun Q => ?_) ⟨fun h => absurd h.2 z2, fun _ => rfl⟩
        rw [if_neg (fun h => z2 h.2), g_X3_fillLeast_6]
        simp (config := { decide := true }) (disch := first | decide | assumption | omega | (simp (config := { decide := true }) only [km_sr_sf, km_sr_of, km_up_of, km_up_o, km_upx_i, km_upx_s, km_fl2_o, ne_eq, not_true_eq_false, not_false_eq_true] <;> omega) | fail) only [g_X3_fillLeast, bc, bd, xo, z1, z2, r94, ra.1, ra.2, nn, nn2, ka_lt, ka_le, ka_nlt, ka_nle, ka_ne, ka_eq, Int.add_sub_cancel, true_or, or_true, false_or, or_false, false_and, and_false, if_true, if_false, ka_lo, ka_hi, ka_nn, km_sr_sf, km_sr_of, km_up_of, km_sr_us, km_sr_uo, km_sr_sr, km_sr_fl, km_sr_flo, km_up_up, km_up_lt, km_lay, km_unL, km_up_o, km_upx_i, km_upx_s, km_fl2_o, km_is, Option.some.injEq, Sum.inl.injEq, Sum.inr.injEq, Option.toList_some, Option.toList_none, List.cons_append, List.nil_append, ne_eq, true_and, and_true, and_self, not_true_eq_false, not_false_eq_true, true_implies, false_implies, reduceCtorEq]
    · refine fin 1000000 (fun Q => ?_) ⟨fun h => absurd h.1 z1, fun _ => rfl⟩
      rw [if_neg (fun h => z1 h.1), g_X3_fillLeast_6]
      simp (config := { decide := true }) (disch := first | decide | assumption | omega | (simp (config := { decide := true }) only [km_sr_sf, km_sr_of, km_up_of, km_up_o, km_upx_i, km_upx_s, km_fl2_o, ne_eq, not_true_eq_false, not_false_eq_true] <;> omega) | fail) only [g_X3_fillLeast, bc, bd, xo, z1, r94, ra.1, ra.2, nn, nn2, ka_lt, ka_le, ka_nlt, ka_nle, ka_ne, ka_eq, Int.add_sub_cancel, true_or, or_true, false_or, or_false, false_and, and_false, if_true, if_false, ka_lo, ka_hi, ka_nn, km_sr_sf, km_sr_of, km_up_of, km_sr_us, km_sr_uo, km_sr_sr, km_sr_fl, km_sr_flo, km_up_up, km_up_lt, km_lay, km_unL, km_up_o, km_upx_i, km_upx_s, km_fl2_o, km_is, Option.some.injEq, Sum.inl.injEq, Sum.inr.injEq, Option.toList_some, Option.toList_none, List.cons_append, List.nil_append, ne_eq, true_and, and_true, and_self, not_true_eq_false, not_false_eq_true, true_implies, false_implies, reduceCtorEq]
theorem cl_fillLeast {q : Nat × Int × Int × Int × Int} {c s : Nat} {M : km_Mm} {w p sp bf : Int} (hw : ten w) (p0 : 0 ≤ p) (p1 : p < 3) (hr : ∀ t u : Int, ksb t w → ksb u w → -1000000000 ≤ M 93 t + M (94 + 1 + (p + 1)) u ∧ M 93 t + M (94 + 1 + (p + 1)) u ≤ 1000000000) :
    ∃ M' : km_Mm, (∀ b j : Int, b ≠ 94 + 1 + p → M' b j = M b j) ∧ (∀ t : Int, ksb t w → kfl M w p sp bf (M' (94 + 1 + p)) t) ∧ ∀ Q : Option km_V → km_Al → km_Mm → Prop, (km_E M_X3_fillLeast [.inr (.inr 85), .inl w, .inl p, .inl sp, .inl bf] (km_A0 q c s) M Q ↔ Q none (km_A0 q c s) M') := by
  obtain ⟨M', c1, c2, c3⟩ := @cl_fill6 q c s M w p sp bf hw p0 p1 hr 1024 0 0 none M (by omega) ksb_0 (by omega) (by omega) (fun _ _ _ => rfl) (fun t ht h => by have := ht.1; omega)
  refine ⟨M', c1, c2, fun Q => ?_⟩
  rw [e_X3_fillLeast]
  simp (config := { decide := true }) (disch := first | decide | assumption | omega | (simp (config := { decide := true }) only [km_sr_sf, km_sr_of, km_up_of, km_up_o, km_upx_i, km_upx_s, km_fl2_o, ne_eq, not_true_eq_false, not_false_eq_true] <;> omega) | fail) only [g_X3_fillLeast, c3, Int.add_sub_cancel, true_or, or_true, false_or, or_false, false_and, and_false, if_true, if_false, ka_lo, ka_hi, ka_nn, km_sr_sf, km_sr_of, km_up_of, km_sr_us, km_sr_uo, km_sr_sr, km_sr_fl, km_sr_flo, km_up_up, km_up_lt, km_lay, km_unL, km_up_o, km_upx_i, km_upx_s, km_fl2_o, km_is, Option.some.injEq, Sum.inl.injEq, Sum.inr.injEq, Option.toList_some, Option.toList_none, List.cons_append, List.nil_append, ne_eq, true_and, and_true, and_self, not_true_eq_false, not_false_eq_true, true_implies, false_implies, reduceCtorEq]
theorem cl_first6 {q : Nat × Int × Int × Int × Int} {c s : Nat} {M : km_Mm} {w v p : Int} (hw : ten w) (p0 : 0 ≤ p) (p1 : p < 4) (hr : ∀ t : Int, ksb t w → -1000000000 ≤ M 93 t + M (94 + 1 + p) (w - t) ∧ M 93 t + M (94 + 1 + p) (w - t) ≤ 1000000000) (ex : ∃ t : Int, ksb t w ∧ M 93 t + M (94 + 1 + p) (w - t) = v) :
    ∀ (n : Nat) (x i : Int), 1023 - x < n → ksb x w → 0 ≤ i → i ≤ x → (∀ t : Int, ksb t w → t < x → M 93 t + M (94 + 1 + p) (w - t) ≠ v) →
    ∃ t : Int, (ksb t w ∧ M 93 t + M (94 + 1 + p) (w - t) = v ∧ ∀ t' : Int, ksb t' w → t' < t → M 93 t' + M (94 + 1 + p) (w - t') ≠ v) ∧ ∀ Q : Option km_V → km_Al → km_Mm → Prop, (km_G M_X3_firstFor 6 [some (.inr (.inr 85)), some (.inl v), some (.inl w), some (.inr (.inr (94 + 1 + p))), some (.inl x), some (.inl i)] [] (km_A0 q c s) M Q ↔ Q (some (.inl t)) (km_A0 q c s) M) := by
  intro n
  have hw' := hw
  unfold ten at hw'
  have ra := @km_rowc94 q c s p p0 p1
  have nn : ¬ (94 + 1 + p = -1) := by omega
  induction n with
  | zero => intro x i h hx; have := ksb_le hw hx; omega
  | succ n ih =>
    intro x i h hx i0 i1 f2
    have lx := ksb_le hw hx
    have xo := ksb_xor hw hx
    have nx := ksb_next hw hx
    have hrx := hr x hx
    have ns := fun (X : km_Mm) Q => @r_nextSet q c s X x w lx.1 (by omega) hw.1 (by omega) Q
    by_cases z : M 93 x + M (94 + 1 + p) (w - x) = v
    · refine ⟨x, ⟨hx, z, f2⟩, fun Q => ?_⟩
      rw [g_X3_firstFor_6]
      simp (config := { decide := true }) (disch := first | decide | assumption | omega | (simp (config := { decide := true }) only [km_sr_sf, km_sr_of, km_up_of, km_up_o, km_upx_i, km_upx_s, km_fl2_o, ne_eq, not_true_eq_false, not_false_eq_true] <;> omega) | fail) only [g_X3_firstFor, xo, z, ra.1, ra.2, nn, ka_lt, ka_le, ka_nlt, ka_nle, ka_ne, ka_eq, Int.add_sub_cancel, true_or, or_true, false_or, or_false, false_and, and_false, if_true, if_false, ka_lo, ka_hi, ka_nn, km_sr_sf, km_sr_of, km_up_of, km_sr_us, km_sr_uo, km_sr_sr, km_sr_fl, km_sr_flo, km_up_up, km_up_lt, km_lay, km_unL, km_up_o, km_upx_i, km_upx_s, km_fl2_o, km_is, Option.some.injEq, Sum.inl.injEq, Sum.inr.injEq, Option.toList_some, Option.toList_none, List.cons_append, List.nil_append, ne_eq, true_and, and_true, and_self, not_true_eq_false, not_false_eq_true, true_implies, false_implies, reduceCtorEq]
    · rcases nx with ⟨e1, e2⟩ | ⟨a1, a2, a3⟩
      · exfalso
        obtain ⟨t, t1, t2⟩ := ex
        have lt := ksb_le hw t1
        by_cases e : t = x
        · subst e; exact z t2
        · exact f2 t t1 (by omega) t2
      · have a4 := ksb_le hw a2
        obtain ⟨t, b1, b2⟩ := ih (km_and (x - w) w) (i + 1) (by omega) a2 (by omega) (by omega) (fun t ht htx => by
          by_cases e : t = x
          · subst e; exact z
          · refine f2 t ht ?_
            by_cases e2 : t ≤ x
            · omega
            · have := a3 t ht (by omega); omega)
        refine ⟨t, b1, fun Q => ?_⟩
        rw [← b2 Q, g_X3_firstFor_6]
        simp (config := { decide := true }) (disch := first | decide | assumption | omega | (simp (config := { decide := true }) only [km_sr_sf, km_sr_of, km_up_of, km_up_o, km_upx_i, km_upx_s, km_fl2_o, ne_eq, not_true_eq_false, not_false_eq_true] <;> omega) | fail) only [g_X3_firstFor, xo, z, ra.1, ra.2, nn, ns, ka_lt, ka_le, ka_nlt, ka_nle, ka_ne, ka_eq, Int.add_sub_cancel, true_or, or_true, false_or, or_false, false_and, and_false, if_true, if_false, ka_lo, ka_hi, ka_nn, km_sr_sf, km_sr_of, km_up_of, km_sr_us, km_sr_uo, km_sr_sr, km_sr_fl, km_sr_flo, km_up_up, km_up_lt, km_lay, km_unL, km_up_o, km_upx_i, km_upx_s, km_fl2_o, km_is, Option.some.injEq, Sum.inl.injEq, Sum.inr.injEq, Option.toList_some, Option.toList_none, List.cons_append, List.nil_append, ne_eq, true_and, and_true, and_self, not_true_eq_false, not_false_eq_true, true_implies, false_implies, reduceCtorEq]
theorem cl_firstFor {q : Nat × Int × Int × Int × Int} {c s : Nat} {M : km_Mm} {w v p : Int} (hw : ten w) (p0 : 0 ≤ p) (p1 : p < 4) (hr : ∀ t : Int, ksb t w → -1000000000 ≤ M 93 t + M (94 + 1 + p) (w - t) ∧ M 93 t + M (94 + 1 + p) (w - t) ≤ 1000000000) (ex : ∃ t : Int, ksb t w ∧ M 93 t + M (94 + 1 + p) (w - t) = v) :
    ∃ t : Int, (ksb t w ∧ M 93 t + M (94 + 1 + p) (w - t) = v ∧ ∀ t' : Int, ksb t' w → t' < t → M 93 t' + M (94 + 1 + p) (w - t') ≠ v) ∧ ∀ Q : Option km_V → km_Al → km_Mm → Prop, (km_E M_X3_firstFor [.inr (.inr 85), .inl v, .inl w, .inr (.inr (94 + 1 + p))] (km_A0 q c s) M Q ↔ Q (some (.inl t)) (km_A0 q c s) M) := by
  obtain ⟨t, c1, c2⟩ := @cl_first6 q c s M w v p hw p0 p1 hr ex 1024 0 0 (by omega) ksb_0 (by omega) (by omega) (fun t ht h => by have := ht.1; omega)
  refine ⟨t, c1, fun Q => ?_⟩
  rw [e_X3_firstFor]
  simp (config := { decide := true }) (disch := first | decide | assumption | omega | (simp (config := { decide := true }) only [km_sr_sf, km_sr_of, km_up_of, km_up_o, km_upx_i, km_upx_s, km_fl2_o, ne_eq, not_true_eq_false, not_false_eq_true] <;> omega) | fail) only [g_X3_firstFor, c2, Int.add_sub_cancel, true_or, or_true, false_or, or_false, false_and, and_false, if_true, if_false, ka_lo, ka_hi, ka_nn, km_sr_sf, km_sr_of, km_up_of, km_sr_us, km_sr_uo, km_sr_sr, km_sr_fl, km_sr_flo, km_up_up, km_up_lt, km_lay, km_unL, km_up_o, km_upx_i, km_upx_s, km_fl2_o, km_is, Option.some.injEq, Sum.inl.injEq, Sum.inr.injEq, Option.toList_some, Option.toList_none, List.cons_append, List.nil_append, ne_eq, true_and, and_true, and_self, not_true_eq_false, not_false_eq_true, true_implies, false_implies, reduceCtorEq]

