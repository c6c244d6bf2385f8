/-! ===== Ancestry: a world, the climb, near ===== -/
/-- the parents in the world w, n maybes from the i-th on; false: one has too many -/
def kn_ent (w : Int) (A B : Int → Int) : Nat → Int → (Int → Int) → Bool × (Int → Int)
  | 0, _, P => (true, P)
  | n + 1, i, P => if km_and (km_shr w i) 1 = 0 then kn_ent w A B n (i + 1) P else
    if 2 < km_pop (km_or (P (A i)) (km_shl 1 (B i))) then (false, km_u1 P (A i) (km_or (P (A i)) (km_shl 1 (B i)))) else kn_ent w A B n (i + 1) (km_u1 P (A i) (km_or (P (A i)) (km_shl 1 (B i))))
theorem lp_enter_17 {q : Nat × Int × Int × Int × Int} {c s : Nat} {w : Int} {m : km_Mm} (hk : 0 ≤ m 52 3 ∧ m 52 3 ≤ 6) (hA : ∀ i : Int, 0 ≤ i → i < m 52 3 → (0 ≤ m 54 i ∧ m 54 i < 10) ∧ 0 ≤ m 55 i ∧ m 55 i < 10) {Q : Option km_V → km_Al → km_Mm → Prop} : ∀ (n : Nat) (i : Int) (P : Int → Int), 0 ≤ i → i + n = m 52 3 → (∀ a : Int, 0 ≤ a → a < 10 → ten (P a)) → (km_G M_X0_enter 17 [some (.inr (.inr 52)), some (.inl w), some (.inl i)] [] (km_A0 q c s) (km_sr m 56 P) Q ↔ Q (some (.inl ((if (kn_ent w (m 54) (m 55) n i P).1 = true then 1 else 0)))) (km_A0 q c s) (km_sr m 56 (kn_ent w (m 54) (m 55) n i P).2)) := by
  intro n
  induction n with
  | zero =>
    intro i P h0 h1 h2
    have e : m 52 3 ≤ i := by omega
    rw [g_X0_enter_17]
    simp (config := { decide := true }) (disch := first | decide | assumption | omega | (simp (config := { decide := true }) only [km_sr_sf, km_sr_of, km_up_of, km_up_o, km_upx_i, km_upx_s, km_fl2_o, ne_eq, not_true_eq_false, not_false_eq_true] <;> omega) | fail) only [g_X0_enter, e, kn_ent, if_true, h0, ka_lo, ka_hi, ka_nn, km_sr_sf, km_sr_of, km_up_of, km_sr_us, km_sr_uo, km_sr_sr, km_sr_fl, km_sr_flo, km_up_up, km_up_lt, km_lay, km_unL, km_up_o, km_upx_i, km_upx_s, km_fl2_o, km_is, Option.some.injEq, Sum.inl.injEq, Sum.inr.injEq, Option.toList_some, Option.toList_none, List.cons_append, List.nil_append, ne_eq, true_and, and_true, and_self, not_true_eq_false, not_false_eq_true, true_implies, false_implies, reduceCtorEq]
    all_goals grind
  | succ n ih =>
    intro i P h0 h1 h2
    have e : ¬ m 52 3 ≤ i := by omega
    have e2 : i < 6 := by omega
    have e3 : i < m 52 3 := by omega
    have e4 := hA i h0 e3
    have e5 := ten_or (h2 _ e4.1.1 e4.1.2) (ten_one e4.2.1 e4.2.2)
    have i1 := ih (i + 1) P (by omega) (by omega) h2
    have i2 := ih (i + 1) (km_u1 P (m 54 i) (km_or (P (m 54 i)) (km_shl 1 (m 55 i)))) (by omega) (by omega) (by intro a a0 a1; unfold km_u1; split; exact e5; exact h2 a a0 a1)
    clear ih
    have ih := i1
    rw [g_X0_enter_17]
    simp (config := { decide := true }) (disch := first | decide | assumption | omega | (simp (config := { decide := true }) only [km_sr_sf, km_sr_of, km_up_of, km_up_o, km_upx_i, km_upx_s, km_fl2_o, ne_eq, not_true_eq_false, not_false_eq_true] <;> omega) | fail) only [g_X0_enter, ih, kn_ent, e, e2, i2, e4.1.1, e4.1.2, km_u1_s, sp_bitCount e5.1 e5.2, h0, ka_lo, ka_hi, ka_nn, km_sr_sf, km_sr_of, km_up_of, km_sr_us, km_sr_uo, km_sr_sr, km_sr_fl, km_sr_flo, km_up_up, km_up_lt, km_lay, km_unL, km_up_o, km_upx_i, km_upx_s, km_fl2_o, km_is, Option.some.injEq, Sum.inl.injEq, Sum.inr.injEq, Option.toList_some, Option.toList_none, List.cons_append, List.nil_append, ne_eq, true_and, and_true, and_self, not_true_eq_false, not_false_eq_true, true_implies, false_implies, reduceCtorEq]
    by_cases cc0 : km_and (km_shr w i) 1 = 0 <;> by_cases cc1 : 2 < km_pop (km_or (P (m 54 i)) (km_shl 1 (m 55 i))) <;> simp (config := { decide := true }) (disch := first | decide | assumption | omega | (simp (config := { decide := true }) only [km_sr_sf, km_sr_of, km_up_of, km_up_o, km_upx_i, km_upx_s, km_fl2_o, ne_eq, not_true_eq_false, not_false_eq_true] <;> omega) | fail) only [cc0, cc1, ih, kn_ent, e, e2, i2, e4.1.1, e4.1.2, km_u1_s, sp_bitCount e5.1 e5.2, reduceCtorEq, if_true, if_false, h0, ka_lo, ka_hi, ka_nn, km_sr_sf, km_sr_of, km_up_of, km_sr_us, km_sr_uo, km_sr_sr, km_sr_fl, km_sr_flo, km_up_up, km_up_lt, km_lay, km_unL, km_up_o, km_upx_i, km_upx_s, km_fl2_o, km_is, Option.some.injEq, Sum.inl.injEq, Sum.inr.injEq, Option.toList_some, Option.toList_none, List.cons_append, List.nil_append, ne_eq, true_and, and_true, and_self, not_true_eq_false, not_false_eq_true, true_implies, false_implies, reduceCtorEq] <;> grind
theorem sp_enter {q : Nat × Int × Int × Int × Int} {c s : Nat} {w : Int} {m : km_Mm} (hk : 0 ≤ m 52 3 ∧ m 52 3 ≤ 6) (hA : ∀ i : Int, 0 ≤ i → i < m 52 3 → (0 ≤ m 54 i ∧ m 54 i < 10) ∧ 0 ≤ m 55 i ∧ m 55 i < 10) (hP : ∀ a : Int, 0 ≤ a → a < 10 → ten (m 53 a)) (Q : Option km_V → km_Al → km_Mm → Prop) : km_E M_X0_enter [.inr (.inr 52), .inl w] (km_A0 q c s) m Q ↔ Q (some (.inl (if (kn_ent w (m 54) (m 55) (m 52 3).toNat 0 (fun j => if 0 ≤ j ∧ j < 10 then m 53 j else m 56 j)).1 = true then 1 else 0))) (km_A0 q c s) (km_sr m 56 (kn_ent w (m 54) (m 55) (m 52 3).toNat 0 (fun j => if 0 ≤ j ∧ j < 10 then m 53 j else m 56 j)).2) := by
  rw [km_E.of (by decide)]
  show km_G M_X0_enter 0 [some (.inr (.inr 52)), some (.inl w), none] [] (km_A0 q c s) m _ ↔ _
  have e : (fun c k => if c = 56 ∧ (0 : Int) ≤ k ∧ k < 0 + 10 then m 53 (k - 0 + 0) else m c k) = km_sr m 56 (fun j => if 0 ≤ j ∧ j < 10 then m 53 j else m 56 j) := by
    funext c k
    unfold km_sr
    by_cases hc : c = 56
    · subst hc; simp
    · simp [hc]
  have h := @lp_enter_17 q c s w m hk hA Q (m 52 3).toNat 0 (fun j => if 0 ≤ j ∧ j < 10 then m 53 j else m 56 j) (by omega) (by omega) (fun a a0 a1 => by rw [if_pos ⟨a0, a1⟩]; exact hP a a0 a1)
  simp (config := { decide := true }) only [g_X0_enter, e, h, km_lay, km_unL, km_up_o, km_upx_i, km_upx_s, km_fl2_o, km_is, Option.some.injEq, Sum.inl.injEq, Sum.inr.injEq, Option.toList_some, Option.toList_none, List.cons_append, List.nil_append, ne_eq, true_and, and_true, and_self, not_true_eq_false, not_false_eq_true, true_implies, false_implies, reduceCtorEq]
def kn_cl1 (P : Int → Int) (lv nn : Int) : Nat → Int → Int → (Int → Int) → Int × (Int → Int)
  | 0, _, ab, f => (ab, f)
  | n + 1, k, ab, f => if km_and (km_shr lv k) 1 = 0 then kn_cl1 P lv nn n (k + 1) ab f else kn_cl1 P lv nn n (k + 1) (km_or ab (P k)) (if f k = -1 then km_u1 f k nn else f)
def kn_cl2 (P : Int → Int) : Nat → Int → Int → (Int → Int) → (Int → Int)
  | 0, _, _, f => f
  | n + 1, nn, lv, f => kn_cl2 P n (nn + 1) (kn_cl1 P lv nn 10 0 0 f).1 (kn_cl1 P lv nn 10 0 0 f).2
theorem lp_climb_25_57 {q : Nat × Int × Int × Int × Int} {c s : Nat} {fr lv nn : Int} {m : km_Mm} (hnn : 0 ≤ nn ∧ nn < 10) {Q : Option km_V → km_Al → km_Mm → Prop} : ∀ (n : Nat) (k ab : Int) (f : Int → Int), 0 ≤ k → k + n = 10 → (km_G M_X0_climb 25 [some (.inr (.inr 52)), some (.inl fr), some (.inr (.inr 57)), some (.inl lv), some (.inl nn), some (.inl ab), some (.inl k)] [] (km_A0 q c s) (km_sr m 57 f) Q ↔ km_G M_X0_climb 12 [some (.inr (.inr 52)), some (.inl fr), some (.inr (.inr 57)), some (.inl ((kn_cl1 (m 56) lv nn n k ab f).1)), some (.inl (nn + 1)), some (.inl ((kn_cl1 (m 56) lv nn n k ab f).1)), some (.inl 10)] [] (km_A0 q c s) (km_sr m 57 (kn_cl1 (m 56) lv nn n k ab f).2) Q) := by
  intro n
  induction n with
  | zero =>
    intro k ab f h0 h1
    have e : (10 : Int) ≤ k := by omega
    have e2 : k = 10 := by omega
    subst e2
    rw [g_X0_climb_25]
    simp (config := { decide := true }) (disch := first | decide | assumption | omega | (simp (config := { decide := true }) only [km_sr_sf, km_sr_of, km_up_of, km_up_o, km_upx_i, km_upx_s, km_fl2_o, ne_eq, not_true_eq_false, not_false_eq_true] <;> omega) | fail) only [g_X0_climb, kn_cl1, Int.le_refl, h0, ka_lo, ka_hi, ka_nn, km_sr_sf, km_sr_of, km_up_of, km_sr_us, km_sr_uo, km_sr_sr, km_sr_fl, km_sr_flo, km_up_up, km_up_lt, km_lay, km_unL, km_up_o, km_upx_i, km_upx_s, km_fl2_o, km_is, Option.some.injEq, Sum.inl.injEq, Sum.inr.injEq, Option.toList_some, Option.toList_none, List.cons_append, List.nil_append, ne_eq, true_and, and_true, and_self, not_true_eq_false, not_false_eq_true, true_implies, false_implies, reduceCtorEq]
    all_goals grind
  | succ n ih =>
    intro k ab f h0 h1
    have e : ¬ (10 : Int) ≤ k := by omega
    have e2 : k < 10 := by omega
    rw [g_X0_climb_25]
    simp (config := { decide := true }) (disch := first | decide | assumption | omega | (simp (config := { decide := true }) only [km_sr_sf, km_sr_of, km_up_of, km_up_o, km_upx_i, km_upx_s, km_fl2_o, ne_eq, not_true_eq_false, not_false_eq_true] <;> omega) | fail) only [g_X0_climb, ih, kn_cl1, e, e2, h0, ka_lo, ka_hi, ka_nn, km_sr_sf, km_sr_of, km_up_of, km_sr_us, km_sr_uo, km_sr_sr, km_sr_fl, km_sr_flo, km_up_up, km_up_lt, km_lay, km_unL, km_up_o, km_upx_i, km_upx_s, km_fl2_o, km_is, Option.some.injEq, Sum.inl.injEq, Sum.inr.injEq, Option.toList_some, Option.toList_none, List.cons_append, List.nil_append, ne_eq, true_and, and_true, and_self, not_true_eq_false, not_false_eq_true, true_implies, false_implies, reduceCtorEq]
    by_cases cc0 : km_and (km_shr lv k) 1 = 0 <;> by_cases cc1 : f k = -1 <;> simp (config := { decide := true }) (disch := first | decide | assumption | omega | (simp (config := { decide := true }) only [km_sr_sf, km_sr_of, km_up_of, km_up_o, km_upx_i, km_upx_s, km_fl2_o, ne_eq, not_true_eq_false, not_false_eq_true] <;> omega) | fail) only [cc0, cc1, ih, kn_cl1, e, e2, if_true, if_false, h0, ka_lo, ka_hi, ka_nn, km_sr_sf, km_sr_of, km_up_of, km_sr_us, km_sr_uo, km_sr_sr, km_sr_fl, km_sr_flo, km_up_up, km_up_lt, km_lay, km_unL, km_up_o, km_upx_i, km_upx_s, km_fl2_o, km_is, Option.some.injEq, Sum.inl.injEq, Sum.inr.injEq, Option.toList_some, Option.toList_none, List.cons_append, List.nil_append, ne_eq, true_and, and_true, and_self, not_true_eq_false, not_false_eq_true, true_implies, false_implies, reduceCtorEq] <;> grind
theorem lp_climb_12_57 {q : Nat × Int × Int × Int × Int} {c s : Nat} {fr : Int} {m : km_Mm} {Q : Option km_V → km_Al → km_Mm → Prop} : ∀ (n : Nat) (nn lv : Int) (o5 o6 : Option km_V) (f : Int → Int), 0 ≤ nn → nn + n = 10 → (km_G M_X0_climb 12 [some (.inr (.inr 52)), some (.inl fr), some (.inr (.inr 57)), some (.inl lv), some (.inl nn), o5, o6] [] (km_A0 q c s) (km_sr m 57 f) Q ↔ Q none (km_A0 q c s) (km_sr m 57 (kn_cl2 (m 56) n nn lv f))) := by
  intro n
  induction n with
  | zero =>
    intro nn lv o5 o6 f h0 h1
    have e : (10 : Int) ≤ nn := by omega
    rw [g_X0_climb_12]
    simp (config := { decide := true }) (disch := first | decide | assumption | omega | (simp (config := { decide := true }) only [km_sr_sf, km_sr_of, km_up_of, km_up_o, km_upx_i, km_upx_s, km_fl2_o, ne_eq, not_true_eq_false, not_false_eq_true] <;> omega) | fail) only [g_X0_climb, kn_cl2, e, h0, ka_lo, ka_hi, ka_nn, km_sr_sf, km_sr_of, km_up_of, km_sr_us, km_sr_uo, km_sr_sr, km_sr_fl, km_sr_flo, km_up_up, km_up_lt, km_lay, km_unL, km_up_o, km_upx_i, km_upx_s, km_fl2_o, km_is, Option.some.injEq, Sum.inl.injEq, Sum.inr.injEq, Option.toList_some, Option.toList_none, List.cons_append, List.nil_append, ne_eq, true_and, and_true, and_self, not_true_eq_false, not_false_eq_true, true_implies, false_implies, reduceCtorEq]
    all_goals grind
  | succ n ih =>
    intro nn lv o5 o6 f h0 h1
    have e : ¬ (10 : Int) ≤ nn := by omega
    have e2 := @lp_climb_25_57 q c s fr lv nn m ⟨h0, by omega⟩ Q 10 0 0 f (by omega) (by omega)
    rw [g_X0_climb_12]
    simp (config := { decide := true }) (disch := first | decide | assumption | omega | (simp (config := { decide := true }) only [km_sr_sf, km_sr_of, km_up_of, km_up_o, km_upx_i, km_upx_s, km_fl2_o, ne_eq, not_true_eq_false, not_false_eq_true] <;> omega) | fail) only [g_X0_climb, ih, kn_cl2, e, e2, h0, ka_lo, ka_hi, ka_nn, km_sr_sf, km_sr_of, km_up_of, km_sr_us, km_sr_uo, km_sr_sr, km_sr_fl, km_sr_flo, km_up_up, km_up_lt, km_lay, km_unL, km_up_o, km_upx_i, km_upx_s, km_fl2_o, km_is, Option.some.injEq, Sum.inl.injEq, Sum.inr.injEq, Option.toList_some, Option.toList_none, List.cons_append, List.nil_append, ne_eq, true_and, and_true, and_self, not_true_eq_false, not_false_eq_true, true_implies, false_implies, reduceCtorEq]
    all_goals grind
theorem r_climb_57 {q : Nat × Int × Int × Int × Int} {c s : Nat} {fr : Int} {m : km_Mm} (Q : Option km_V → km_Al → km_Mm → Prop) : km_E M_X0_climb [.inr (.inr 52), .inl fr, .inr (.inr 57)] (km_A0 q c s) m Q ↔ Q none (km_A0 q c s) (km_sr m 57 (kn_cl2 (m 56) 10 0 (km_shl 1 fr) (fun j => if 0 ≤ j ∧ j < 10 then -1 else m 57 j))) := by
  rw [km_E.of (by decide)]
  show km_G M_X0_climb 0 [some (.inr (.inr 52)), some (.inl fr), some (.inr (.inr 57)), none, none, none, none] [] (km_A0 q c s) m _ ↔ _
  have f := fun Q => @r_fill q c s m 57 (-1) 10 (by decide) (by simp (config := { decide := true }) only [km_lay, km_unL, km_up_o, km_upx_i, km_upx_s, km_fl2_o, km_is, Option.some.injEq, Sum.inl.injEq, Sum.inr.injEq, Option.toList_some, Option.toList_none, List.cons_append, List.nil_append, ne_eq, true_and, and_true, and_self, not_true_eq_false, not_false_eq_true, true_implies, false_implies, reduceCtorEq]) (by simp (config := { decide := true }) only [km_lay, km_unL, km_up_o, km_upx_i, km_upx_s, km_fl2_o, km_is, Option.some.injEq, Sum.inl.injEq, Sum.inr.injEq, Option.toList_some, Option.toList_none, List.cons_append, List.nil_append, ne_eq, true_and, and_true, and_self, not_true_eq_false, not_false_eq_true, true_implies, false_implies, reduceCtorEq]) (by simp (config := { decide := true }) only [km_lay, km_unL, km_up_o, km_upx_i, km_upx_s, km_fl2_o, km_is, Option.some.injEq, Sum.inl.injEq, Sum.inr.injEq, Option.toList_some, Option.toList_none, List.cons_append, List.nil_append, ne_eq, true_and, and_true, and_self, not_true_eq_false, not_false_eq_true, true_implies, false_implies, reduceCtorEq]) (by decide) Q
  have h := @lp_climb_12_57 q c s fr m Q 10 0 (km_shl 1 fr) none none (fun j => if 0 ≤ j ∧ j < 10 then -1 else m 57 j) (by omega) (by omega)
  rw [← km_fl_sr] at h
  simp (config := { decide := true }) only [g_X0_climb, f, h, km_lay, km_unL, km_up_o, km_upx_i, km_upx_s, km_fl2_o, km_is, Option.some.injEq, Sum.inl.injEq, Sum.inr.injEq, Option.toList_some, Option.toList_none, List.cons_append, List.nil_append, ne_eq, true_and, and_true, and_self, not_true_eq_false, not_false_eq_true, true_implies, false_implies, reduceCtorEq]
theorem lp_climb_25_58 {q : Nat × Int × Int × Int × Int} {c s : Nat} {fr lv nn : Int} {m : km_Mm} (hnn : 0 ≤ nn ∧ nn < 10) {Q : Option km_V → km_Al → km_Mm → Prop} : ∀ (n : Nat) (k ab : Int) (f : Int → Int), 0 ≤ k → k + n = 10 → (km_G M_X0_climb 25 [some (.inr (.inr 52)), some (.inl fr), some (.inr (.inr 58)), some (.inl lv), some (.inl nn), some (.inl ab), some (.inl k)] [] (km_A0 q c s) (km_sr m 58 f) Q ↔ km_G M_X0_climb 12 [some (.inr (.inr 52)), some (.inl fr), some (.inr (.inr 58)), some (.inl ((kn_cl1 (m 56) lv nn n k ab f).1)), some (.inl (nn + 1)), some (.inl ((kn_cl1 (m 56) lv nn n k ab f).1)), some (.inl 10)] [] (km_A0 q c s) (km_sr m 58 (kn_cl1 (m 56) lv nn n k ab f).2) Q) := by
  intro n
  induction n with
  | zero =>
    intro k ab f h0 h1
    have e : (10 : Int) ≤ k := by omega
    have e2 : k = 10 := by omega
    subst e2
    rw [g_X0_climb_25]
    simp (config := { decide := true }) (disch := first | decide | assumption | omega | (simp (config := { decide := true }) only [km_sr_sf, km_sr_of, km_up_of, km_up_o, km_upx_i, km_upx_s, km_fl2_o, ne_eq, not_true_eq_false, not_false_eq_true] <;> omega) | fail) only [g_X0_climb, kn_cl1, Int.le_refl, h0, ka_lo, ka_hi, ka_nn, km_sr_sf, km_sr_of, km_up_of, km_sr_us, km_sr_uo, km_sr_sr, km_sr_fl, km_sr_flo, km_up_up, km_up_lt, km_lay, km_unL, km_up_o, km_upx_i, km_upx_s, km_fl2_o, km_is, Option.some.injEq, Sum.inl.injEq, Sum.inr.injEq, Option.toList_some, Option.toList_none, List.cons_append, List.nil_append, ne_eq, true_and, and_true, and_self, not_true_eq_false, not_false_eq_true, true_implies, false_implies, reduceCtorEq]
    all_goals grind
  | succ n ih =>
    intro k ab f h0 h1
    have e : ¬ (10 : Int) ≤ k := by omega
    have e2 : k < 10 := by omega
    rw [g_X0_climb_25]
    simp (config := { decide := true }) (disch := first | decide | assumption | omega | (simp (config := { decide := true }) only [km_sr_sf, km_sr_of, km_up_of, km_up_o, km_upx_i, km_upx_s, km_fl2_o, ne_eq, not_true_eq_false, not_false_eq_true] <;> omega) | fail) only [g_X0_climb, ih, kn_cl1, e, e2, h0, ka_lo, ka_hi, ka_nn, km_sr_sf, km_sr_of, km_up_of, km_sr_us, km_sr_uo, km_sr_sr, km_sr_fl, km_sr_flo, km_up_up, km_up_lt, km_lay, km_unL, km_up_o, km_upx_i, km_upx_s, km_fl2_o, km_is, Option.some.injEq, Sum.inl.injEq, Sum.inr.injEq, Option.toList_some, Option.toList_none, List.cons_append, List.nil_append, ne_eq, true_and, and_true, and_self, not_true_eq_false, not_false_eq_true, true_implies, false_implies, reduceCtorEq]
    by_cases cc0 : km_and (km_shr lv k) 1 = 0 <;> by_cases cc1 : f k = -1 <;> simp (config := { decide := true }) (disch := first | decide | assumption | omega | (simp (config := { decide := true }) only [km_sr_sf, km_sr_of, km_up_of, km_up_o, km_upx_i, km_upx_s, km_fl2_o, ne_eq, not_true_eq_false, not_false_eq_true] <;> omega) | fail) only [cc0, cc1, ih, kn_cl1, e, e2, if_true, if_false, h0, ka_lo, ka_hi, ka_nn, km_sr_sf, km_sr_of, km_up_of, km_sr_us, km_sr_uo, km_sr_sr, km_sr_fl, km_sr_flo, km_up_up, km_up_lt, km_lay, km_unL, km_up_o, km_upx_i, km_upx_s, km_fl2_o, km_is, Option.some.injEq, Sum.inl.injEq, Sum.inr.injEq, Option.toList_some, Option.toList_none, List.cons_append, List.nil_append, ne_eq, true_and, and_true, and_self, not_true_eq_false, not_false_eq_true, true_implies, false_implies, reduceCtorEq] <;> grind
theorem lp_climb_12_58 {q : Nat × Int × Int × Int × Int} {c s : Nat} {fr : Int} {m : km_Mm} {Q : Option km_V → km_Al → km_Mm → Prop} : ∀ (n : Nat) (nn lv : Int) (o5 o6 : Option km_V) (f : Int → Int), 0 ≤ nn → nn + n = 10 → (km_G M_X0_climb 12 [some (.inr (.inr 52)), some (.inl fr), some (.inr (.inr 58)), some (.inl lv), some (.inl nn), o5, o6] [] (km_A0 q c s) (km_sr m 58 f) Q ↔ Q none (km_A0 q c s) (km_sr m 58 (kn_cl2 (m 56) n nn lv f))) := by
  intro n
  induction n with
  | zero =>
    intro nn lv o5 o6 f h0 h1
    have e : (10 : Int) ≤ nn := by omega
    rw [g_X0_climb_12]
    simp (config := { decide := true }) (disch := first | decide | assumption | omega | (simp (config := { decide := true }) only [km_sr_sf, km_sr_of, km_up_of, km_up_o, km_upx_i, km_upx_s, km_fl2_o, ne_eq, not_true_eq_false, not_false_eq_true] <;> omega) | fail) only [g_X0_climb, kn_cl2, e, h0, ka_lo, ka_hi, ka_nn, km_sr_sf, km_sr_of, km_up_of, km_sr_us, km_sr_uo, km_sr_sr, km_sr_fl, km_sr_flo, km_up_up, km_up_lt, km_lay, km_unL, km_up_o, km_upx_i, km_upx_s, km_fl2_o, km_is, Option.some.injEq, Sum.inl.injEq, Sum.inr.injEq, Option.toList_some, Option.toList_none, List.cons_append, List.nil_append, ne_eq, true_and, and_true, and_self, not_true_eq_false, not_false_eq_true, true_implies, false_implies, reduceCtorEq]
    all_goals grind
  | succ n ih =>
    intro nn lv o5 o6 f h0 h1
    have e : ¬ (10 : Int) ≤ nn := by omega
    have e2 := @lp_climb_25_58 q c s fr lv nn m ⟨h0, by omega⟩ Q 10 0 0 f (by omega) (by omega)
    rw [g_X0_climb_12]
    simp (config := { decide := true }) (disch := first | decide | assumption | omega | (simp (config := { decide := true }) only [km_sr_sf, km_sr_of, km_up_of, km_up_o, km_upx_i, km_upx_s, km_fl2_o, ne_eq, not_true_eq_false, not_false_eq_true] <;> omega) | fail) only [g_X0_climb, ih, kn_cl2, e, e2, h0, ka_lo, ka_hi, ka_nn, km_sr_sf, km_sr_of, km_up_of, km_sr_us, km_sr_uo, km_sr_sr, km_sr_fl, km_sr_flo, km_up_up, km_up_lt, km_lay, km_unL, km_up_o, km_upx_i, km_upx_s, km_fl2_o, km_is, Option.some.injEq, Sum.inl.injEq, Sum.inr.injEq, Option.toList_some, Option.toList_none, List.cons_append, List.nil_append, ne_eq, true_and, and_true, and_self, not_true_eq_false, not_false_eq_true, true_implies, false_implies, reduceCtorEq]
    all_goals grind
theorem r_climb_58 {q : Nat × Int × Int × Int × Int} {c s : Nat} {fr : Int} {m : km_Mm} (Q : Option km_V → km_Al → km_Mm → Prop) : km_E M_X0_climb [.inr (.inr 52), .inl fr, .inr (.inr 58)] (km_A0 q c s) m Q ↔ Q none (km_A0 q c s) (km_sr m 58 (kn_cl2 (m 56) 10 0 (km_shl 1 fr) (fun j => if 0 ≤ j ∧ j < 10 then -1 else m 58 j))) := by
  rw [km_E.of (by decide)]
  show km_G M_X0_climb 0 [some (.inr (.inr 52)), some (.inl fr), some (.inr (.inr 58)), none, none, none, none] [] (km_A0 q c s) m _ ↔ _
  have f := fun Q => @r_fill q c s m 58 (-1) 10 (by decide) (by simp (config := { decide := true }) only [km_lay, km_unL, km_up_o, km_upx_i, km_upx_s, km_fl2_o, km_is, Option.some.injEq, Sum.inl.injEq, Sum.inr.injEq, Option.toList_some, Option.toList_none, List.cons_append, List.nil_append, ne_eq, true_and, and_true, and_self, not_true_eq_false, not_false_eq_true, true_implies, false_implies, reduceCtorEq]) (by simp (config := { decide := true }) only [km_lay, km_unL, km_up_o, km_upx_i, km_upx_s, km_fl2_o, km_is, Option.some.injEq, Sum.inl.injEq, Sum.inr.injEq, Option.toList_some, Option.toList_none, List.cons_append, List.nil_append, ne_eq, true_and, and_true, and_self, not_true_eq_false, not_false_eq_true, true_implies, false_implies, reduceCtorEq]) (by simp (config := { decide := true }) only [km_lay, km_unL, km_up_o, km_upx_i, km_upx_s, km_fl2_o, km_is, Option.some.injEq, Sum.inl.injEq, Sum.inr.injEq, Option.toList_some, Option.toList_none, List.cons_append, List.nil_append, ne_eq, true_and, and_true, and_self, not_true_eq_false, not_false_eq_true, true_implies, false_implies, reduceCtorEq]) (by decide) Q
  have h := @lp_climb_12_58 q c s fr m Q 10 0 (km_shl 1 fr) none none (fun j => if 0 ≤ j ∧ j < 10 then -1 else m 58 j) (by omega) (by omega)
  rw [← km_fl_sr] at h
  simp (config := { decide := true }) only [g_X0_climb, f, h, km_lay, km_unL, km_up_o, km_upx_i, km_upx_s, km_fl2_o, km_is, Option.some.injEq, Sum.inl.injEq, Sum.inr.injEq, Option.toList_some, Option.toList_none, List.cons_append, List.nil_append, ne_eq, true_and, and_true, and_self, not_true_eq_false, not_false_eq_true, true_implies, false_implies, reduceCtorEq]
theorem sp_weigh {q : Nat × Int × Int × Int × Int} {c s : Nat} {m : km_Mm} {u d : Int} (h0 : 0 ≤ u ∧ u ≤ 20) (h1 : 0 ≤ d ∧ d ≤ 20) (h2 : 0 ≤ m 52 7 ∧ m 52 7 ≤ 20) (h3 : 0 ≤ m 52 8 ∧ m 52 8 ≤ 20) (h4 : 0 ≤ m 52 9 ∧ m 52 9 ≤ 20) : km_E M_X0_weigh [.inr (.inr 52), .inl u, .inl d] (km_A0 q c s) m (km_is (none) (km_A0 q c s) (if m 52 9 = 0 ∨ u + d - m 52 7 - m 52 8 < 0 ∨ (u + d - m 52 7 - m 52 8 = 0 ∧ u < m 52 7) then km_up (km_up (km_up m 52 7 u) 52 8 d) 52 9 1 else if u = m 52 7 ∧ d = m 52 8 then km_up m 52 9 (m 52 9 + 1) else m)) := by
  rw [km_E.of (by decide)]
  show km_G M_X0_weigh 0 [some (.inr (.inr 52)), some (.inl u), some (.inl d), none] [] (km_A0 q c s) m _
  simp (config := { decide := true }) only [g_X0_weigh, km_lay, km_unL, km_up_o, km_upx_i, km_upx_s, km_fl2_o, km_is, Option.some.injEq, Sum.inl.injEq, Sum.inr.injEq, Option.toList_some, Option.toList_none, List.cons_append, List.nil_append, ne_eq, true_and, and_true, and_self, not_true_eq_false, not_false_eq_true, true_implies, false_implies, reduceCtorEq]
  by_cases cc0 : m 52 9 = 0 <;> by_cases cc1 : u + d - m 52 7 - m 52 8 < 0 <;> by_cases cc2 : u + d - m 52 7 - m 52 8 = 0 <;> by_cases cc3 : u < m 52 7 <;> by_cases cc4 : u = m 52 7 <;> by_cases cc5 : d = m 52 8 <;> simp (config := { decide := true }) (disch := first | decide | assumption | omega | (simp (config := { decide := true }) only [km_sr_sf, km_sr_of, km_up_of, km_up_o, km_upx_i, km_upx_s, km_fl2_o, ne_eq, not_true_eq_false, not_false_eq_true] <;> omega) | fail) only [cc0, cc1, cc2, cc3, cc4, cc5, true_or, or_true, false_or, or_false, false_and, if_true, if_false, ka_lo, ka_hi, ka_nn, km_sr_sf, km_sr_of, km_up_of, km_sr_us, km_sr_uo, km_sr_sr, km_sr_fl, km_sr_flo, km_up_up, km_up_lt, km_lay, km_unL, km_up_o, km_upx_i, km_upx_s, km_fl2_o, km_is, Option.some.injEq, Sum.inl.injEq, Sum.inr.injEq, Option.toList_some, Option.toList_none, List.cons_append, List.nil_append, ne_eq, true_and, and_true, and_self, not_true_eq_false, not_false_eq_true, true_implies, false_implies, reduceCtorEq] <;> grind
theorem r_weigh {q : Nat × Int × Int × Int × Int} {c s : Nat} {m : km_Mm} {u d : Int} (h0 : 0 ≤ u ∧ u ≤ 20) (h1 : 0 ≤ d ∧ d ≤ 20) (h2 : 0 ≤ m 52 7 ∧ m 52 7 ≤ 20) (h3 : 0 ≤ m 52 8 ∧ m 52 8 ≤ 20) (h4 : 0 ≤ m 52 9 ∧ m 52 9 ≤ 20) (Q : Option km_V → km_Al → km_Mm → Prop) : km_E M_X0_weigh [.inr (.inr 52), .inl u, .inl d] (km_A0 q c s) m Q ↔ Q (none) (km_A0 q c s) (if m 52 9 = 0 ∨ u + d - m 52 7 - m 52 8 < 0 ∨ (u + d - m 52 7 - m 52 8 = 0 ∧ u < m 52 7) then km_up (km_up (km_up m 52 7 u) 52 8 d) 52 9 1 else if u = m 52 7 ∧ d = m 52 8 then km_up m 52 9 (m 52 9 + 1) else m) := km_E.rule (sp_weigh h0 h1 h2 h3 h4) Q
/-- the nearest above both, n from the x-th on: up, down, alike -/
def kn_fn (U D : Int → Int) : Nat → Int → Int × Int × Int → Int × Int × Int
  | 0, _, t => t
  | n + 1, x, t => kn_fn U D n (x + 1) (if U x = -1 ∨ D x = -1 then t else if t.2.2 = 0 ∨ U x + D x - t.1 - t.2.1 < 0 ∨ (U x + D x - t.1 - t.2.1 = 0 ∧ U x < t.1) then (U x, D x, 1) else if U x = t.1 ∧ D x = t.2.1 then (t.1, t.2.1, t.2.2 + 1) else t)
theorem lp_findNear_25 {q : Nat × Int × Int × Int × Int} {c s : Nat} {a b : Int} {m : km_Mm} (hU : ∀ x : Int, 0 ≤ x → x < 10 → -1 ≤ m 57 x ∧ m 57 x ≤ 20) (hD : ∀ x : Int, 0 ≤ x → x < 10 → -1 ≤ m 58 x ∧ m 58 x ≤ 20) {Q : Option km_V → km_Al → km_Mm → Prop} : ∀ (n : Nat) (x u d k : Int), 0 ≤ x → x + n = 10 → 0 ≤ u ∧ u ≤ 20 → 0 ≤ d ∧ d ≤ 20 → 0 ≤ k ∧ k ≤ x → (km_G M_X0_findNear 25 [some (.inr (.inr 52)), some (.inl a), some (.inl b), some (.inl x)] [] (km_A0 q c s) (km_up (km_up (km_up m 52 7 u) 52 8 d) 52 9 k) Q ↔ Q none (km_A0 q c s) (km_up (km_up (km_up m 52 7 (kn_fn (m 57) (m 58) n x (u, d, k)).1) 52 8 (kn_fn (m 57) (m 58) n x (u, d, k)).2.1) 52 9 (kn_fn (m 57) (m 58) n x (u, d, k)).2.2)) := by
  intro n
  induction n with
  | zero =>
    intro x u d k h0 h1 h2 h3 h4
    have e : (10 : Int) ≤ x := by omega
    rw [g_X0_findNear_25]
    simp (config := { decide := true }) (disch := first | decide | assumption | omega | (simp (config := { decide := true }) only [km_sr_sf, km_sr_of, km_up_of, km_up_o, km_upx_i, km_upx_s, km_fl2_o, ne_eq, not_true_eq_false, not_false_eq_true] <;> omega) | fail) only [g_X0_findNear, kn_fn, e, h0, h2, h3, h4, ka_lo, ka_hi, ka_nn, km_sr_sf, km_sr_of, km_up_of, km_sr_us, km_sr_uo, km_sr_sr, km_sr_fl, km_sr_flo, km_up_up, km_up_lt, km_lay, km_unL, km_up_o, km_upx_i, km_upx_s, km_fl2_o, km_is, Option.some.injEq, Sum.inl.injEq, Sum.inr.injEq, Option.toList_some, Option.toList_none, List.cons_append, List.nil_append, ne_eq, true_and, and_true, and_self, not_true_eq_false, not_false_eq_true, true_implies, false_implies, reduceCtorEq]
    all_goals grind
  | succ n ih =>
    intro x u d k h0 h1 h2 h3 h4
    have e : ¬ (10 : Int) ≤ x := by omega
    have e2 : x < 10 := by omega
    have e3 := hU x h0 e2
    have e4 := hD x h0 e2
    by_cases z : m 57 x = -1
    · rw [g_X0_findNear_25]
      simp (config := { decide := true }) (disch := first | decide | assumption | omega | (simp (config := { decide := true }) only [km_sr_sf, km_sr_of, km_up_of, km_up_o, km_upx_i, km_upx_s, km_fl2_o, ne_eq, not_true_eq_false, not_false_eq_true] <;> omega) | fail) only [g_X0_findNear, kn_fn, ih, e, e2, z, true_or, if_true, ka_lo, ka_hi, ka_nn, km_sr_sf, km_sr_of, km_up_of, km_sr_us, km_sr_uo, km_sr_sr, km_sr_fl, km_sr_flo, km_up_up, km_up_lt, km_lay, km_unL, km_up_o, km_upx_i, km_upx_s, km_fl2_o, km_is, Option.some.injEq, Sum.inl.injEq, Sum.inr.injEq, Option.toList_some, Option.toList_none, List.cons_append, List.nil_append, ne_eq, true_and, and_true, and_self, not_true_eq_false, not_false_eq_true, true_implies, false_implies, reduceCtorEq]
      done
    by_cases z1 : m 58 x = -1
    · rw [g_X0_findNear_25]
      simp (config := { decide := true }) (disch := first | decide | assumption | omega | (simp (config := { decide := true }) only [km_sr_sf, km_sr_of, km_up_of, km_up_o, km_upx_i, km_upx_s, km_fl2_o, ne_eq, not_true_eq_false, not_false_eq_true] <;> omega) | fail) only [g_X0_findNear, kn_fn, ih, e, e2, z, z1, or_true, if_true, ka_lo, ka_hi, ka_nn, km_sr_sf, km_sr_of, km_up_of, km_sr_us, km_sr_uo, km_sr_sr, km_sr_fl, km_sr_flo, km_up_up, km_up_lt, km_lay, km_unL, km_up_o, km_upx_i, km_upx_s, km_fl2_o, km_is, Option.some.injEq, Sum.inl.injEq, Sum.inr.injEq, Option.toList_some, Option.toList_none, List.cons_append, List.nil_append, ne_eq, true_and, and_true, and_self, not_true_eq_false, not_false_eq_true, true_implies, false_implies, reduceCtorEq]
      done
    have w := fun Q => @r_weigh q c s (km_up (km_up (km_up m 52 7 u) 52 8 d) 52 9 k) (m 57 x) (m 58 x) (by omega) (by omega) (by simp (config := { decide := true }) only [km_lay, km_unL, km_up_o, km_upx_i, km_upx_s, km_fl2_o, km_is, Option.some.injEq, Sum.inl.injEq, Sum.inr.injEq, Option.toList_some, Option.toList_none, List.cons_append, List.nil_append, ne_eq, true_and, and_true, and_self, not_true_eq_false, not_false_eq_true, true_implies, false_implies, reduceCtorEq]; omega) (by simp (config := { decide := true }) only [km_lay, km_unL, km_up_o, km_upx_i, km_upx_s, km_fl2_o, km_is, Option.some.injEq, Sum.inl.injEq, Sum.inr.injEq, Option.toList_some, Option.toList_none, List.cons_append, List.nil_append, ne_eq, true_and, and_true, and_self, not_true_eq_false, not_false_eq_true, true_implies, false_implies, reduceCtorEq]; omega) (by simp (config := { decide := true }) only [km_lay, km_unL, km_up_o, km_upx_i, km_upx_s, km_fl2_o, km_is, Option.some.injEq, Sum.inl.injEq, Sum.inr.injEq, Option.toList_some, Option.toList_none, List.cons_append, List.nil_append, ne_eq, true_and, and_true, and_self, not_true_eq_false, not_false_eq_true, true_implies, false_implies, reduceCtorEq]; omega) Q
    simp (config := { decide := true }) only [km_sr_sf, km_sr_of, km_up_of, km_sr_us, km_sr_uo, km_sr_sr, km_sr_fl, km_sr_flo, km_up_up, km_up_lt, km_lay, km_unL, km_up_o, km_upx_i, km_upx_s, km_fl2_o, km_is, Option.some.injEq, Sum.inl.injEq, Sum.inr.injEq, Option.toList_some, Option.toList_none, List.cons_append, List.nil_append, ne_eq, true_and, and_true, and_self, not_true_eq_false, not_false_eq_true, true_implies, false_implies, reduceCtorEq] at w
    rw [g_X0_findNear_25]
    simp (config := { decide := true }) (disch := first | decide | assumption | omega | (simp (config := { decide := true }) only [km_sr_sf, km_sr_of, km_up_of, km_up_o, km_upx_i, km_upx_s, km_fl2_o, ne_eq, not_true_eq_false, not_false_eq_true] <;> omega) | fail) only [g_X0_findNear, kn_fn, e, e2, z, z1, w, or_self, if_false, ka_lo, ka_hi, ka_nn, km_sr_sf, km_sr_of, km_up_of, km_sr_us, km_sr_uo, km_sr_sr, km_sr_fl, km_sr_flo, km_up_up, km_up_lt, km_lay, km_unL, km_up_o, km_upx_i, km_upx_s, km_fl2_o, km_is, Option.some.injEq, Sum.inl.injEq, Sum.inr.injEq, Option.toList_some, Option.toList_none, List.cons_append, List.nil_append, ne_eq, true_and, and_true, and_self, not_true_eq_false, not_false_eq_true, true_implies, false_implies, reduceCtorEq]
    by_cases z2 : k = 0 ∨ m 57 x + m 58 x - u - d < 0 ∨ m 57 x + m 58 x - u - d = 0 ∧ m 57 x < u
    · rw [if_pos z2, if_pos z2]
      simp (config := { decide := true }) (disch := first | decide | assumption | omega | (simp (config := { decide := true }) only [km_sr_sf, km_sr_of, km_up_of, km_up_o, km_upx_i, km_upx_s, km_fl2_o, ne_eq, not_true_eq_false, not_false_eq_true] <;> omega) | fail) only [ih, ka_lo, ka_hi, ka_nn, km_sr_sf, km_sr_of, km_up_of, km_sr_us, km_sr_uo, km_sr_sr, km_sr_fl, km_sr_flo, km_up_up, km_up_lt, km_lay, km_unL, km_up_o, km_upx_i, km_upx_s, km_fl2_o, km_is, Option.some.injEq, Sum.inl.injEq, Sum.inr.injEq, Option.toList_some, Option.toList_none, List.cons_append, List.nil_append, ne_eq, true_and, and_true, and_self, not_true_eq_false, not_false_eq_true, true_implies, false_implies, reduceCtorEq]
    · rw [if_neg z2, if_neg z2]
      by_cases z3 : m 57 x = u ∧ m 58 x = d
      · rw [if_pos z3, if_pos z3]
        simp (config := { decide := true }) (disch := first | decide | assumption | omega | (simp (config := { decide := true }) only [km_sr_sf, km_sr_of, km_up_of, km_up_o, km_upx_i, km_upx_s, km_fl2_o, ne_eq, not_true_eq_false, not_false_eq_true] <;> omega) | fail) only [ih, ka_lo, ka_hi, ka_nn, km_sr_sf, km_sr_of, km_up_of, km_sr_us, km_sr_uo, km_sr_sr, km_sr_fl, km_sr_flo, km_up_up, km_up_lt, km_lay, km_unL, km_up_o, km_upx_i, km_upx_s, km_fl2_o, km_is, Option.some.injEq, Sum.inl.injEq, Sum.inr.injEq, Option.toList_some, Option.toList_none, List.cons_append, List.nil_append, ne_eq, true_and, and_true, and_self, not_true_eq_false, not_false_eq_true, true_implies, false_implies, reduceCtorEq]
      · rw [if_neg z3, if_neg z3]
        simp (config := { decide := true }) (disch := first | decide | assumption | omega | (simp (config := { decide := true }) only [km_sr_sf, km_sr_of, km_up_of, km_up_o, km_upx_i, km_upx_s, km_fl2_o, ne_eq, not_true_eq_false, not_false_eq_true] <;> omega) | fail) only [ih, ka_lo, ka_hi, ka_nn, km_sr_sf, km_sr_of, km_up_of, km_sr_us, km_sr_uo, km_sr_sr, km_sr_fl, km_sr_flo, km_up_up, km_up_lt, km_lay, km_unL, km_up_o, km_upx_i, km_upx_s, km_fl2_o, km_is, Option.some.injEq, Sum.inl.injEq, Sum.inr.injEq, Option.toList_some, Option.toList_none, List.cons_append, List.nil_append, ne_eq, true_and, and_true, and_self, not_true_eq_false, not_false_eq_true, true_implies, false_implies, reduceCtorEq]
theorem sp_findNear {q : Nat × Int × Int × Int × Int} {c s : Nat} {a b : Int} {m : km_Mm} (u0 : 0 ≤ m 52 7 ∧ m 52 7 ≤ 20) (d0 : 0 ≤ m 52 8 ∧ m 52 8 ≤ 20) {U D : Int → Int} (eU : U = kn_cl2 (m 56) 10 0 (km_shl 1 a) (fun j => if 0 ≤ j ∧ j < 10 then -1 else m 57 j)) (eD : D = kn_cl2 (m 56) 10 0 (km_shl 1 b) (fun j => if 0 ≤ j ∧ j < 10 then -1 else m 58 j))
    (hU : ∀ x : Int, 0 ≤ x → x < 10 → -1 ≤ U x ∧ U x ≤ 20) (hD : ∀ x : Int, 0 ≤ x → x < 10 → -1 ≤ D x ∧ D x ≤ 20) (Q : Option km_V → km_Al → km_Mm → Prop) :
    km_E M_X0_findNear [.inr (.inr 52), .inl a, .inl b] (km_A0 q c s) m Q ↔ Q none (km_A0 q c s) (km_up (km_up (km_up (km_sr (km_sr m 57 U) 58 D) 52 7 (kn_fn U D 10 0 (m 52 7, m 52 8, 0)).1) 52 8 (kn_fn U D 10 0 (m 52 7, m 52 8, 0)).2.1) 52 9 (kn_fn U D 10 0 (m 52 7, m 52 8, 0)).2.2) := by
  rw [km_E.of (by decide)]
  show km_G M_X0_findNear 0 [some (.inr (.inr 52)), some (.inl a), some (.inl b), none] [] (km_A0 q c s) m _ ↔ _
  have h := @lp_findNear_25 q c s a b (km_sr (km_sr m 57 U) 58 D) (by simp (config := { decide := true }) only [km_sr_sf, km_sr_of, km_up_of, km_sr_us, km_sr_uo, km_sr_sr, km_sr_fl, km_sr_flo, km_up_up, km_up_lt, km_lay, km_unL, km_up_o, km_upx_i, km_upx_s, km_fl2_o, km_is, Option.some.injEq, Sum.inl.injEq, Sum.inr.injEq, Option.toList_some, Option.toList_none, List.cons_append, List.nil_append, ne_eq, true_and, and_true, and_self, not_true_eq_false, not_false_eq_true, true_implies, false_implies, reduceCtorEq]; exact hU) (by simp (config := { decide := true }) only [km_sr_sf, km_sr_of, km_up_of, km_sr_us, km_sr_uo, km_sr_sr, km_sr_fl, km_sr_flo, km_up_up, km_up_lt, km_lay, km_unL, km_up_o, km_upx_i, km_upx_s, km_fl2_o, km_is, Option.some.injEq, Sum.inl.injEq, Sum.inr.injEq, Option.toList_some, Option.toList_none, List.cons_append, List.nil_append, ne_eq, true_and, and_true, and_self, not_true_eq_false, not_false_eq_true, true_implies, false_implies, reduceCtorEq]; exact hD) Q 10 0 (m 52 7) (m 52 8) 0 (by omega) (by omega) u0 d0 (by omega)
  have e : km_up (km_up (km_up (km_sr (km_sr m 57 U) 58 D) 52 7 (m 52 7)) 52 8 (m 52 8)) 52 9 0 = km_sr (km_sr (km_up m 52 9 0) 57 U) 58 D := by
    funext x j; unfold km_up km_sr; grind
  rw [e] at h
  simp (config := { decide := true }) only [km_sr_sf, km_sr_of, km_up_of, km_sr_us, km_sr_uo, km_sr_sr, km_sr_fl, km_sr_flo, km_up_up, km_up_lt, km_lay, km_unL, km_up_o, km_upx_i, km_upx_s, km_fl2_o, km_is, Option.some.injEq, Sum.inl.injEq, Sum.inr.injEq, Option.toList_some, Option.toList_none, List.cons_append, List.nil_append, ne_eq, true_and, and_true, and_self, not_true_eq_false, not_false_eq_true, true_implies, false_implies, reduceCtorEq] at h
  subst eU; subst eD
  simp (config := { decide := true }) only [g_X0_findNear, r_climb_57, r_climb_58, h, km_sr_sf, km_sr_of, km_up_of, km_sr_us, km_sr_uo, km_sr_sr, km_sr_fl, km_sr_flo, km_up_up, km_up_lt, km_lay, km_unL, km_up_o, km_upx_i, km_upx_s, km_fl2_o, km_is, Option.some.injEq, Sum.inl.injEq, Sum.inr.injEq, Option.toList_some, Option.toList_none, List.cons_append, List.nil_append, ne_eq, true_and, and_true, and_self, not_true_eq_false, not_false_eq_true, true_implies, false_implies, reduceCtorEq]

