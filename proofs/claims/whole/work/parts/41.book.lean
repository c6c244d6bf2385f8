/-! ===== Book: readNow ===== -/
/-- who is alive, n of the kin from the i-th on -/
def km_alv : Nat → Int → km_Mm → km_Mm
  | 0, _, m => m
  | n + 1, i, m => km_alv n (i + 1) (if m 17 i ≤ m 5 2 ∧ (m 18 i = -1 ∨ m 5 2 < m 18 i) then km_up m 5 12 (km_or (m 5 12) (km_shl 1 i)) else m)
theorem lp_readNow_15 {q : Nat × Int × Int × Int × Int} {c s : Nat} {Q : Option km_V → km_Al → km_Mm → Prop} : ∀ (n : Nat) (i : Int) (m : km_Mm), 0 ≤ i → i + n = m 5 1 → m 5 1 ≤ 10 →
    (km_G M_X1_readNow 15 [some (.inr (.inr 5)), some (.inl i)] [] (km_A0 q c s) m Q ↔ Q none (km_A0 q c s) (km_alv n i m)) := by
  intro n
  induction n with
  | zero =>
    intro i m h0 h1 h2
    have e : m 5 1 ≤ i := by omega
    rw [g_X1_readNow_15]
    simp (config := { decide := true }) only [g_X1_readNow, e, km_alv, km_lay, km_unL, km_up_o, km_upx_i, km_upx_s, km_fl2_o, km_is, Option.some.injEq, Sum.inl.injEq, Sum.inr.injEq, Option.toList_some, Option.toList_none, List.cons_append, List.nil_append, ne_eq, true_and, and_true, and_self, not_true_eq_false, not_false_eq_true, true_implies, false_implies, reduceCtorEq]
  | succ n ih =>
    intro i m h0 h1 h2
    have e : ¬ m 5 1 ≤ i := by omega
    have e1 : i < 10 := by omega
    have e2 : (-2147483648 ≤ i + 1) := by omega
    have e3 : (i + 1 ≤ 2147483647) := by omega
    have i1 := ih (i + 1) m (by omega) (by omega) h2
    have i2 := ih (i + 1) (km_up m 5 12 (km_or (m 5 12) (km_shl 1 i))) (by omega) (by show i + 1 + (n : Int) = m 5 1; omega) h2
    have i4 := fun m Q => @r_livesIn q c s m i (m 5 2) h0 e1 Q
    rw [g_X1_readNow_15]
    simp (config := { decide := true }) only [g_X1_readNow, e, e1, e2, e3, h0, i1, i2, i4, km_alv, km_lay, km_unL, km_up_o, km_upx_i, km_upx_s, km_fl2_o, km_is, Option.some.injEq, Sum.inl.injEq, Sum.inr.injEq, Option.toList_some, Option.toList_none, List.cons_append, List.nil_append, ne_eq, true_and, and_true, and_self, not_true_eq_false, not_false_eq_true, true_implies, false_implies, reduceCtorEq]
    by_cases cc0 : m 17 i ≤ m 5 2 <;> by_cases cc1 : m 18 i = -1 <;> by_cases cc2 : m 5 2 < m 18 i <;> simp (config := { decide := true }) only [cc0, cc1, cc2, i1, i2, km_lay, km_unL, km_up_o, km_upx_i, km_upx_s, km_fl2_o, km_is, Option.some.injEq, Sum.inl.injEq, Sum.inr.injEq, Option.toList_some, Option.toList_none, List.cons_append, List.nil_append, ne_eq, true_and, and_true, and_self, not_true_eq_false, not_false_eq_true, true_implies, false_implies, reduceCtorEq] <;> grind
theorem sp_readNow {q : Nat × Int × Int × Int × Int} {c s : Nat} {m : km_Mm} (h0 : 0 ≤ m 5 1 ∧ m 5 1 ≤ 10) (h1 : 0 ≤ m 5 3 ∧ m 5 3 ≤ 100) (h2 : km_nt m) : km_E M_X1_readNow [.inr (.inr 5)] (km_A0 q c s) m (km_is none (km_A0 q c s) (km_alv (m 5 1).toNat 0 (km_up (km_read (m 5 3) m) 5 12 0))) := by
  rw [km_E.of (by decide)]
  show km_G M_X1_readNow 0 [some (.inr (.inr 5)), none] [] (km_A0 q c s) m _
  have h := fun Q => @r_read q c s m (m 5 3) h1.1 h1 h2 Q
  have e : km_up (km_read (m 5 3) m) 5 12 0 5 1 = m 5 1 := by
    rw [km_up_i (by decide)]; unfold km_read
    rw [km_bd_at (by decide) (by decide), km_fl2_at (by decide), km_fl2_at (by decide), km_cnt_at (by decide), km_up_i (by decide)]
  have k := fun Q => @lp_readNow_15 q c s Q (m 5 1).toNat 0 (km_up (km_read (m 5 3) m) 5 12 0) (by omega) (by rw [e]; omega) (by rw [e]; omega)
  simp (config := { decide := true }) only [g_X1_readNow, h, Int.lt_irrefl, if_false, k, km_lay, km_unL, km_up_o, km_upx_i, km_upx_s, km_fl2_o, km_is, Option.some.injEq, Sum.inl.injEq, Sum.inr.injEq, Option.toList_some, Option.toList_none, List.cons_append, List.nil_append, ne_eq, true_and, and_true, and_self, not_true_eq_false, not_false_eq_true, true_implies, false_implies, reduceCtorEq]
theorem r_readNow {q : Nat × Int × Int × Int × Int} {c s : Nat} {m : km_Mm} (h0 : 0 ≤ m 5 1 ∧ m 5 1 ≤ 10) (h1 : 0 ≤ m 5 3 ∧ m 5 3 ≤ 100) (h2 : km_nt m) (Q : Option km_V → km_Al → km_Mm → Prop) : km_E M_X1_readNow [.inr (.inr 5)] (km_A0 q c s) m Q ↔ Q none (km_A0 q c s) (km_alv (m 5 1).toNat 0 (km_up (km_read (m 5 3) m) 5 12 0)) := km_E.rule (sp_readNow h0 h1 h2) Q

