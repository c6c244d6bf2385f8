/-! ===== promise 24: settle: the reference's sets ===== -/
theorem kand_one {S j : Int} (hS : ten S) (j0 : 0 ≤ j) (j1 : j < 10) : km_and S (km_shl 1 j) = 0 ↔ tb S j = false := by
  have t1 := ten_one j0 j1
  have ta := ten_and hS t1.1
  have bb : ∀ k : Int, tb (km_and S (km_shl 1 j)) k = (tb S k && tb (km_shl 1 j) k) := fun k => tb_and hS.1 (by have := hS.2; omega) t1.1
  rw [tb_eq0 ta]
  constructor
  · intro h
    have := h j j0 j1
    rw [bb, tb_one j0 (by omega) j0] at this
    simpa using this
  · intro h k k0 k1
    rw [bb, tb_one j0 (by omega) k0]
    by_cases e : k = j
    · rw [e, h]; rfl
    · simp [e]
theorem kshl_2 {j : Int} (j0 : 0 ≤ j) (j1 : j < 10) : km_shl 1 j * 2 = km_shl 1 (j + 1) := by
  have : j = 0 ∨ j = 1 ∨ j = 2 ∨ j = 3 ∨ j = 4 ∨ j = 5 ∨ j = 6 ∨ j = 7 ∨ j = 8 ∨ j = 9 := by omega
  rcases this with rfl | rfl | rfl | rfl | rfl | rfl | rfl | rfl | rfl | rfl <;> decide
theorem kor_0 {x : Int} (h : ten x) : km_or x 0 = x := by
  rw [ks_or h.1 (by have := h.2; omega) (by decide) (by decide)]
  have := h.1
  simp
  omega
section MG
variable {q q' : Nat × Int × Int × Int × Int} {c s : Nat} {Y : km_Mm} {b : Int → Int} {w g S kn : Int}
theorem m_together (hS : ten S) (k0 : 0 ≤ kn) (k1 : kn ≤ 10) (h3 : Y 123 3 = kn) (hY : ∀ j : Int, 0 ≤ j → j < kn → Y 176 j = b j) (hz : ∀ j : Int, kn ≤ j → j < 10 → b j = 0) (hb : ∀ k : Int, 0 ≤ k → k < 10 → -9999991 ≤ b k ∧ b k ≤ 9999991) (Q : Option km_V → km_Al → km_Mm → Prop) : km_E M_X12_together [.inr (.inr 123), .inl S] (km_A0 q c s) Y Q ↔ Q (some (.inr (.inl (kbs b S)))) (km_A0 q c s) Y := by
  have bnd : ∀ n : Nat, n ≤ 10 → -(9999991 * (n : Int)) ≤ ksm (fun k => if tb S k = true then b k else 0) n ∧ ksm (fun k => if tb S k = true then b k else 0) n ≤ 9999991 * n := by
    intro n
    induction n with
    | zero => intro _; unfold ksm; omega
    | succ n ih =>
      intro hn
      have i := ih (by omega)
      have h := hb n (by omega) (by omega)
      rw [ksm]
      split <;> omega
  have up : ∀ n : Nat, kn.toNat + n ≤ 10 → ksm (fun k => if tb S k = true then b k else 0) (kn.toNat + n) = ksm (fun k => if tb S k = true then b k else 0) kn.toNat := by
    intro n
    induction n with
    | zero => intro _; rfl
    | succ n ih =>
      intro hn
      rw [← Nat.add_assoc, ksm, ih (by omega), hz _ (by omega) (by omega)]
      split <;> omega
  have e10 : ksm (fun k => if tb S k = true then b k else 0) kn.toNat = kbs b S := by
    have := up (10 - kn.toNat) (by omega)
    rw [show kn.toNat + (10 - kn.toNat) = 10 by omega] at this
    exact this.symm
  have lp : ∀ (n i : Nat), (i : Int) + n = kn → (km_G M_X12_together 5 [some (.inr (.inr 123)), some (.inl S), some (.inr (.inl (ksm (fun k => if tb S k = true then b k else 0) i))), none, some (.inl (i : Int))] [] (km_A0 q c s) Y Q ↔ Q (some (.inr (.inl (kbs b S)))) (km_A0 q c s) Y) := by
    intro n
    induction n with
    | zero =>
      intro i hi
      have e : i = kn.toNat := by omega
      have e2 : (i : Int) = kn := by omega
      rw [← e10, ← e, e2, g_X12_together_5]
      simp (config := { decide := true }) (disch := first | decide | assumption | omega | (simp (config := { decide := true }) only [km_sr_sf, km_sr_of, km_up_of, km_up_o, km_upx_i, km_upx_s, km_fl2_o, ne_eq, not_true_eq_false, not_false_eq_true] <;> omega) | fail) only [g_X12_together, h3, ka_lt, ka_le, ka_nlt, ka_nle, ka_ne, ka_eq, Int.add_sub_cancel, true_or, or_true, false_or, or_false, false_and, and_false, if_true, if_false, ka_lo, ka_hi, ka_nn, km_sr_sf, km_sr_of, km_up_of, km_sr_us, km_sr_uo, km_sr_sr, km_sr_fl, km_sr_flo, km_up_up, km_up_lt, km_lay, km_unL, km_up_o, km_upx_i, km_upx_s, km_fl2_o, km_is, Option.some.injEq, Sum.inl.injEq, Sum.inr.injEq, Option.toList_some, Option.toList_none, List.cons_append, List.nil_append, ne_eq, true_and, and_true, and_self, not_true_eq_false, not_false_eq_true, true_implies, false_implies, reduceCtorEq]
    | succ n ih =>
      intro i hi
      have z : (i : Int) < kn := by omega
      have i0 : (0 : Int) ≤ i := by omega
      have i10 : (i : Int) < 10 := by omega
      have e1 : ((i + 1 : Nat) : Int) = (i : Int) + 1 := by omega
      have bi := bnd i (by omega)
      have hbi := hb i i0 i10
      have yi := hY i i0 z
      have bt := ks_bit (x := S) (k := (i : Int)) hS.1 (by have := hS.2; omega) i0 (by omega)
      rw [← ih (i + 1) (by omega), e1, g_X12_together_5, ksm]
      by_cases t : tb S i = true
      · rw [if_pos t] at bt ⊢
        simp (config := { decide := true }) (disch := first | decide | assumption | omega | (simp (config := { decide := true }) only [km_sr_sf, km_sr_of, km_up_of, km_up_o, km_upx_i, km_upx_s, km_fl2_o, ne_eq, not_true_eq_false, not_false_eq_true] <;> omega) | fail) only [g_X12_together, h3, z, i0, i10, bt, yi, ka_lt, ka_le, ka_nlt, ka_nle, ka_ne, ka_eq, Int.add_sub_cancel, true_or, or_true, false_or, or_false, false_and, and_false, if_true, if_false, ka_lo, ka_hi, ka_nn, km_sr_sf, km_sr_of, km_up_of, km_sr_us, km_sr_uo, km_sr_sr, km_sr_fl, km_sr_flo, km_up_up, km_up_lt, km_lay, km_unL, km_up_o, km_upx_i, km_upx_s, km_fl2_o, km_is, Option.some.injEq, Sum.inl.injEq, Sum.inr.injEq, Option.toList_some, Option.toList_none, List.cons_append, List.nil_append, ne_eq, true_and, and_true, and_self, not_true_eq_false, not_false_eq_true, true_implies, false_implies, reduceCtorEq]
      · rw [if_neg t] at bt ⊢
        simp (config := { decide := true }) (disch := first | decide | assumption | omega | (simp (config := { decide := true }) only [km_sr_sf, km_sr_of, km_up_of, km_up_o, km_upx_i, km_upx_s, km_fl2_o, ne_eq, not_true_eq_false, not_false_eq_true] <;> omega) | fail) only [g_X12_together, h3, z, i0, i10, bt, yi, ka_lt, ka_le, ka_nlt, ka_nle, ka_ne, ka_eq, Int.add_sub_cancel, true_or, or_true, false_or, or_false, false_and, and_false, if_true, if_false, ka_lo, ka_hi, ka_nn, km_sr_sf, km_sr_of, km_up_of, km_sr_us, km_sr_uo, km_sr_sr, km_sr_fl, km_sr_flo, km_up_up, km_up_lt, km_lay, km_unL, km_up_o, km_upx_i, km_upx_s, km_fl2_o, km_is, Option.some.injEq, Sum.inl.injEq, Sum.inr.injEq, Option.toList_some, Option.toList_none, List.cons_append, List.nil_append, ne_eq, true_and, and_true, and_self, not_true_eq_false, not_false_eq_true, true_implies, false_implies, reduceCtorEq]
  have l := lp kn.toNat 0 (by omega)
  have k00 : ((0 : Nat) : Int) = 0 := rfl
  have k01 : ksm (fun k => if tb S k = true then b k else 0) 0 = 0 := rfl
  rw [k00, k01] at l
  rw [← l, e_X12_together]
  simp (config := { decide := true }) (disch := first | decide | assumption | omega | (simp (config := { decide := true }) only [km_sr_sf, km_sr_of, km_up_of, km_up_o, km_upx_i, km_upx_s, km_fl2_o, ne_eq, not_true_eq_false, not_false_eq_true] <;> omega) | fail) only [g_X12_together, ka_lt, ka_le, ka_nlt, ka_nle, ka_ne, ka_eq, Int.add_sub_cancel, true_or, or_true, false_or, or_false, false_and, and_false, if_true, if_false, ka_lo, ka_hi, ka_nn, km_sr_sf, km_sr_of, km_up_of, km_sr_us, km_sr_uo, km_sr_sr, km_sr_fl, km_sr_flo, km_up_up, km_up_lt, km_lay, km_unL, km_up_o, km_upx_i, km_upx_s, km_fl2_o, km_is, Option.some.injEq, Sum.inl.injEq, Sum.inr.injEq, Option.toList_some, Option.toList_none, List.cons_append, List.nil_append, ne_eq, true_and, and_true, and_self, not_true_eq_false, not_false_eq_true, true_implies, false_implies, reduceCtorEq]
/-- all with a balance -/
theorem m_all (k0 : 0 ≤ kn) (k1 : kn ≤ 10) (h3 : Y 123 3 = kn) (hY : ∀ j : Int, 0 ≤ j → j < kn → Y 176 j = b j) (o3 o4 : Option km_V) (Q : Option km_V → km_Al → km_Mm → Prop) : ∀ (n i : Nat), (i : Int) + n = kn → (km_G M_X12_settles 13 [some (.inr (.inr 123)), some (.inl (kset (fun k => b k ≠ 0) i)), some (.inl (i : Int)), o3, o4] [] (km_A0 q c s) Y Q ↔ km_G M_X12_settles 48 [some (.inr (.inr 123)), some (.inl (kset (fun k => b k ≠ 0) kn.toNat)), some (.inl kn), o3, o4] [] (km_A0 q c s) Y Q) := by
  intro n
  induction n with
  | zero =>
    intro i hi
    have e : i = kn.toNat := by omega
    have e2 : (i : Int) = kn := by omega
    rw [← e, e2, g_X12_settles_13]
    simp (config := { decide := true }) (disch := first | decide | assumption | omega | (simp (config := { decide := true }) only [km_sr_sf, km_sr_of, km_up_of, km_up_o, km_upx_i, km_upx_s, km_fl2_o, ne_eq, not_true_eq_false, not_false_eq_true] <;> omega) | fail) only [g_X12_settles, h3, ka_lt, ka_le, ka_nlt, ka_nle, ka_ne, ka_eq, Int.add_sub_cancel, true_or, or_true, false_or, or_false, false_and, and_false, if_true, if_false, ka_lo, ka_hi, ka_nn, km_sr_sf, km_sr_of, km_up_of, km_sr_us, km_sr_uo, km_sr_sr, km_sr_fl, km_sr_flo, km_up_up, km_up_lt, km_lay, km_unL, km_up_o, km_upx_i, km_upx_s, km_fl2_o, km_is, Option.some.injEq, Sum.inl.injEq, Sum.inr.injEq, Option.toList_some, Option.toList_none, List.cons_append, List.nil_append, ne_eq, true_and, and_true, and_self, not_true_eq_false, not_false_eq_true, true_implies, false_implies, reduceCtorEq]
  | succ n ih =>
    intro i hi
    have z : (i : Int) < kn := by omega
    have i0 : (0 : Int) ≤ i := by omega
    have i10 : (i : Int) < 10 := by omega
    have e1 : ((i + 1 : Nat) : Int) = (i : Int) + 1 := by omega
    have yi := hY i i0 z
    have ko := kor_0 (kset_ten (P := fun k => b k ≠ 0) i (by omega))
    rw [← ih (i + 1) (by omega), e1, g_X12_settles_13]
    by_cases y : b i = 0
    · rw [kset_no (fun v => v y)]
      simp (config := { decide := true }) (disch := first | decide | assumption | omega | (simp (config := { decide := true }) only [km_sr_sf, km_sr_of, km_up_of, km_up_o, km_upx_i, km_upx_s, km_fl2_o, ne_eq, not_true_eq_false, not_false_eq_true] <;> omega) | fail) only [g_X12_settles, h3, z, i0, i10, yi, y, kl_0, ko, ka_lt, ka_le, ka_nlt, ka_nle, ka_ne, ka_eq, Int.add_sub_cancel, true_or, or_true, false_or, or_false, false_and, and_false, if_true, if_false, ka_lo, ka_hi, ka_nn, km_sr_sf, km_sr_of, km_up_of, km_sr_us, km_sr_uo, km_sr_sr, km_sr_fl, km_sr_flo, km_up_up, km_up_lt, km_lay, km_unL, km_up_o, km_upx_i, km_upx_s, km_fl2_o, km_is, Option.some.injEq, Sum.inl.injEq, Sum.inr.injEq, Option.toList_some, Option.toList_none, List.cons_append, List.nil_append, ne_eq, true_and, and_true, and_self, not_true_eq_false, not_false_eq_true, true_implies, false_implies, reduceCtorEq]
    · rw [kset_yes y]
      simp (config := { decide := true }) (disch := first | decide | assumption | omega | (simp (config := { decide := true }) only [km_sr_sf, km_sr_of, km_up_of, km_up_o, km_upx_i, km_upx_s, km_fl2_o, ne_eq, not_true_eq_false, not_false_eq_true] <;> omega) | fail) only [g_X12_settles, h3, z, i0, i10, yi, y, kl_0, ka_lt, ka_le, ka_nlt, ka_nle, ka_ne, ka_eq, Int.add_sub_cancel, true_or, or_true, false_or, or_false, false_and, and_false, if_true, if_false, ka_lo, ka_hi, ka_nn, km_sr_sf, km_sr_of, km_up_of, km_sr_us, km_sr_uo, km_sr_sr, km_sr_fl, km_sr_flo, km_up_up, km_up_lt, km_lay, km_unL, km_up_o, km_upx_i, km_upx_s, km_fl2_o, km_is, Option.some.injEq, Sum.inl.injEq, Sum.inr.injEq, Option.toList_some, Option.toList_none, List.cons_append, List.nil_append, ne_eq, true_and, and_true, and_self, not_true_eq_false, not_false_eq_true, true_implies, false_implies, reduceCtorEq]
/-- the lowest of a set -/
theorem m_low (hS : ten S) (nz : S ≠ 0) (o4 : Option km_V) (Q : Option km_V → km_Al → km_Mm → Prop) : ∀ (n : Nat) (j : Int), 0 ≤ j → j + n = klw S → (km_G M_X12_settles 82 [some (.inr (.inr 123)), some (.inl w), some (.inl S), some (.inl (km_shl 1 j)), o4] [] (km_A0 q c s) Y Q ↔ km_G M_X12_settles 95 [some (.inr (.inr 123)), some (.inl w), some (.inl S), some (.inl (km_shl 1 (klw S))), o4] [] (km_A0 q c s) Y Q) := by
  obtain ⟨⟨l0, l1, l2⟩, l3, -⟩ := klw_p hS nz
  intro n
  induction n with
  | zero =>
    intro j j0 hj
    have e : j = klw S := by omega
    have ka : ¬ km_and S (km_shl 1 (klw S)) = 0 := fun h => by rw [(kand_one hS l0 l1).mp h] at l2; cases l2
    rw [e, g_X12_settles_82]
    simp (config := { decide := true }) (disch := first | decide | assumption | omega | (simp (config := { decide := true }) only [km_sr_sf, km_sr_of, km_up_of, km_up_o, km_upx_i, km_upx_s, km_fl2_o, ne_eq, not_true_eq_false, not_false_eq_true] <;> omega) | fail) only [g_X12_settles, ka, ka_lt, ka_le, ka_nlt, ka_nle, ka_ne, ka_eq, Int.add_sub_cancel, true_or, or_true, false_or, or_false, false_and, and_false, if_true, if_false, ka_lo, ka_hi, ka_nn, km_sr_sf, km_sr_of, km_up_of, km_sr_us, km_sr_uo, km_sr_sr, km_sr_fl, km_sr_flo, km_up_up, km_up_lt, km_lay, km_unL, km_up_o, km_upx_i, km_upx_s, km_fl2_o, km_is, Option.some.injEq, Sum.inl.injEq, Sum.inr.injEq, Option.toList_some, Option.toList_none, List.cons_append, List.nil_append, ne_eq, true_and, and_true, and_self, not_true_eq_false, not_false_eq_true, true_implies, false_implies, reduceCtorEq]
  | succ n ih =>
    intro j j0 hj
    have ka : km_and S (km_shl 1 j) = 0 := (kand_one hS j0 (by omega)).mpr (l3 j j0 (by omega))
    have t1 := ten_one j0 (by omega : j < 10)
    have k2 := kshl_2 j0 (by omega)
    have t0 := t1.1
    have t2 := t1.2
    rw [← ih (j + 1) (by omega) (by omega), ← k2, g_X12_settles_82]
    simp (config := { decide := true }) (disch := first | decide | assumption | omega | (simp (config := { decide := true }) only [km_sr_sf, km_sr_of, km_up_of, km_up_o, km_upx_i, km_upx_s, km_fl2_o, ne_eq, not_true_eq_false, not_false_eq_true] <;> omega) | fail) only [g_X12_settles, ka, ka_lt, ka_le, ka_nlt, ka_nle, ka_ne, ka_eq, Int.add_sub_cancel, true_or, or_true, false_or, or_false, false_and, and_false, if_true, if_false, ka_lo, ka_hi, ka_nn, km_sr_sf, km_sr_of, km_up_of, km_sr_us, km_sr_uo, km_sr_sr, km_sr_fl, km_sr_flo, km_up_up, km_up_lt, km_lay, km_unL, km_up_o, km_upx_i, km_upx_s, km_fl2_o, km_is, Option.some.injEq, Sum.inl.injEq, Sum.inr.injEq, Option.toList_some, Option.toList_none, List.cons_append, List.nil_append, ne_eq, true_and, and_true, and_self, not_true_eq_false, not_false_eq_true, true_implies, false_implies, reduceCtorEq]
/-- what is known of the reference's sets below B -/
def kRI (b : Int → Int) (w B : Int) (Y : km_Mm) : Prop := Y 180 0 = 0 ∧ ∀ T : Int, ksb T w → T ≠ 0 → T < B → (-1 ≤ Y 180 T ∧ Y 180 T ≤ km_pop T) ∧ (∀ t : Int, kO1 b (Y 180) T t → Y 180 (T - t) + 1 ≤ Y 180 T) ∧ (Y 180 T = -1 ∨ (kO1 b (Y 180) T (Y 181 T) ∧ Y 180 T = Y 180 (T - Y 181 T) + 1 ∧ ∀ t : Int, t < Y 181 T → kO1 b (Y 180) T t → Y 180 (T - t) + 1 < Y 180 T))
theorem kRI_R (h : kRI b w (w + 1) Y) (hw : ten w) : kgR b (Y 180) (Y 181) w := ⟨h.1, fun S h1 h2 => (h.2 S h1 h2 (by have := ksb_le hw h1; omega)).2⟩
theorem kO1_cg {R R' : Int → Int} {T t : Int} (hT : ten T) (nz : T ≠ 0) (h : ∀ j : Int, j < T → R' j = R j) : kO1 b R' T t ↔ kO1 b R T t := by
  constructor
  · intro hh
    have l := kO1_lt hT nz hh
    obtain ⟨a1, a2, a3, a4⟩ := hh
    exact ⟨a1, a2, a3, by rw [← h _ (by omega)]; exact a4⟩
  · intro hh
    have l := kO1_lt hT nz hh
    obtain ⟨a1, a2, a3, a4⟩ := hh
    exact ⟨a1, a2, a3, by rw [h _ (by omega)]; exact a4⟩
theorem kRI_low {Y' : km_Mm} {B : Int} (hw : ten w) (h : kRI b w B Y) (B0 : 0 < B) (k : ∀ j : Int, j < B → Y' 180 j = Y 180 j ∧ Y' 181 j = Y 181 j) : kRI b w B Y' := by
  refine ⟨(k 0 B0).1.trans h.1, fun T h1 h2 h3 => ?_⟩
  have hT := ksb_ten hw h1
  obtain ⟨a1, a2, a3⟩ := h.2 T h1 h2 h3
  have cg := fun t => kO1_cg (b := b) (t := t) hT h2 (R := Y 180) (R' := Y' 180) (fun j hj => (k j (by omega)).1)
  have e0 := (k T h3).1
  have e1 := (k T h3).2
  rw [e0, e1]
  refine ⟨a1, fun t ht => ?_, ?_⟩
  · have o := (cg t).mp ht
    have l := kO1_lt hT h2 o
    rw [(k (T - t) (by omega)).1]
    exact a2 t o
  · rcases a3 with z | ⟨b1, b2, b3⟩
    · exact Or.inl z
    · have l := kO1_lt hT h2 b1
      refine Or.inr ⟨(cg _).mpr b1, by rw [(k _ (by omega)).1]; exact b2, fun t ht hO => ?_⟩
      have o := (cg t).mp hO
      have l2 := kO1_lt hT h2 o
      rw [(k (T - t) (by omega)).1]
      exact b3 t ht o
/-- what is known while parts of S below t were looked at -/
def kRJ (b : Int → Int) (S t : Int) (Y : km_Mm) : Prop := (-1 ≤ Y 180 S ∧ Y 180 S ≤ km_pop S) ∧ (∀ u : Int, u < t → kO1 b (Y 180) S u → Y 180 (S - u) + 1 ≤ Y 180 S) ∧ (Y 180 S = -1 ∨ (kO1 b (Y 180) S (Y 181 S) ∧ Y 180 S = Y 180 (S - Y 181 S) + 1 ∧ ∀ u : Int, u < Y 181 S → kO1 b (Y 180) S u → Y 180 (S - u) + 1 < Y 180 S))
theorem kRJ_skip {t : Int} (h : kRJ b S t Y) (no : kO1 b (Y 180) S t → Y 180 (S - t) + 1 ≤ Y 180 S) : kRJ b S (t + 1) Y := by
  refine ⟨h.1, fun u h1 h2 => ?_, h.2.2⟩
  by_cases e : u = t
  · subst e; exact no h2
  · exact h.2.1 u (by omega) h2
theorem kRJ_take {t : Int} {Y' : km_Mm} (hS : ten S) (nz : S ≠ 0) (h : kRJ b S t Y) (o : kO1 b (Y 180) S t) (gt : ¬ Y 180 (S - t) + 1 ≤ Y 180 S) (bd : Y 180 (S - t) + 1 ≤ km_pop S) (k : ∀ j : Int, Y' 180 j = if j = S then Y 180 (S - t) + 1 else Y 180 j) (k1 : Y' 181 S = t) : kRJ b S (t + 1) Y' := by
  have cg := fun u => kO1_cg (b := b) (t := u) hS nz (R := Y 180) (R' := Y' 180) (fun j hj => by rw [k, if_neg (by omega)])
  have l := kO1_lt hS nz o
  have eS : Y' 180 S = Y 180 (S - t) + 1 := by rw [k, if_pos rfl]
  have es : ∀ u : Int, 0 < u → Y' 180 (S - u) = Y 180 (S - u) := fun u hu => by rw [k, if_neg (by omega)]
  have o4 := o.2.2.2
  refine ⟨by omega, fun u h1 h2 => ?_, Or.inr ⟨?_, ?_, fun u h1 h2 => ?_⟩⟩
  · have p := (cg u).mp h2
    have lu := kO1_lt hS nz p
    rw [eS, es u lu.1]
    by_cases e : u = t
    · rw [e]; omega
    · have := h.2.1 u (by omega) p
      omega
  · rw [k1]; exact (cg t).mpr o
  · rw [k1, eS, es t l.1]
  · rw [k1] at h1
    have p := (cg u).mp h2
    have lu := kO1_lt hS nz p
    have := h.2.1 u h1 p
    rw [eS, es u lu.1]
    omega
theorem kpop_less {t : Int} (hS : ten S) (h : ksb t S) (t0 : t ≠ 0) : km_pop (S - t) + 1 ≤ km_pop S := by
  have p := ksb_pop hS h
  have ht := ksb_ten hS h
  obtain ⟨⟨l0, l1, l2⟩, -⟩ := klw_p ht t0
  have := km_pop_pos l0 l1 l2
  omega
theorem m_subs (hw : ten w) (hs : ksb S w) (nz : S ≠ 0) (k0 : 0 ≤ kn) (k1 : kn ≤ 10) (hz : ∀ j : Int, kn ≤ j → j < 10 → b j = 0) (hb : ∀ k : Int, 0 ≤ k → k < 10 → -9999991 ≤ b k ∧ b k ≤ 9999991) : ∀ (n : Nat) (t : Int) (Y : km_Mm), S + 1 - t = n → 0 < t → Y 123 3 = kn → (∀ j : Int, 0 ≤ j → j < kn → Y 176 j = b j) → kRI b w S Y → kRJ b S t Y → ∃ Y' : km_Mm, (∀ d j : Int, d ≠ 180 → d ≠ 181 → Y' d j = Y d j) ∧ kRI b w S Y' ∧ kRJ b S (S + 1) Y' ∧ ∀ Q : Option km_V → km_Al → km_Mm → Prop, km_G M_X12_settles 98 [some (.inr (.inr 123)), some (.inl w), some (.inl S), some (.inl (km_shl 1 (klw S))), some (.inl t)] [] (km_A0 q c s) Y Q ↔ km_G M_X12_settles 206 [some (.inr (.inr 123)), some (.inl w), some (.inl S), some (.inl (km_shl 1 (klw S))), some (.inl (S + 1))] [] (km_A0 q c s) Y' Q := by
  have hS := ksb_ten hw hs
  have s0 := hS.1
  have s1 := hS.2
  obtain ⟨⟨l0, l1, l2⟩, -⟩ := klw_p hS nz
  intro n
  induction n with
  | zero =>
    intro t Y hn t0 h3 hY hI hJ
    have e : t = S + 1 := by omega
    subst e
    refine ⟨Y, fun _ _ _ _ => rfl, hI, hJ, fun Q => ?_⟩
    rw [g_X12_settles_98]
    simp (config := { decide := true }) (disch := first | decide | assumption | omega | (simp (config := { decide := true }) only [km_sr_sf, km_sr_of, km_up_of, km_up_o, km_upx_i, km_upx_s, km_fl2_o, ne_eq, not_true_eq_false, not_false_eq_true] <;> omega) | fail) only [g_X12_settles, ka_lt, ka_le, ka_nlt, ka_nle, ka_ne, ka_eq, Int.add_sub_cancel, true_or, or_true, false_or, or_false, false_and, and_false, if_true, if_false, ka_lo, ka_hi, ka_nn, km_sr_sf, km_sr_of, km_up_of, km_sr_us, km_sr_uo, km_sr_sr, km_sr_fl, km_sr_flo, km_up_up, km_up_lt, km_lay, km_unL, km_up_o, km_upx_i, km_upx_s, km_fl2_o, km_is, Option.some.injEq, Sum.inl.injEq, Sum.inr.injEq, Option.toList_some, Option.toList_none, List.cons_append, List.nil_append, ne_eq, true_and, and_true, and_self, not_true_eq_false, not_false_eq_true, true_implies, false_implies, reduceCtorEq]
  | succ n ih =>
    intro t Y hn t0 h3 hY hI hJ
    have tS : t ≤ S := by omega
    have ht : ten t := ⟨by omega, by omega⟩
    have tg : ¬ S < t := by omega
    have skip : ∀ (hh : kO1 b (Y 180) S t → Y 180 (S - t) + 1 ≤ Y 180 S), ∃ Y' : km_Mm, (∀ d j : Int, d ≠ 180 → d ≠ 181 → Y' d j = Y d j) ∧ kRI b w S Y' ∧ kRJ b S (S + 1) Y' ∧ ∀ Q : Option km_V → km_Al → km_Mm → Prop, km_G M_X12_settles 98 [some (.inr (.inr 123)), some (.inl w), some (.inl S), some (.inl (km_shl 1 (klw S))), some (.inl (t + 1))] [] (km_A0 q c s) Y Q ↔ km_G M_X12_settles 206 [some (.inr (.inr 123)), some (.inl w), some (.inl S), some (.inl (km_shl 1 (klw S))), some (.inl (S + 1))] [] (km_A0 q c s) Y' Q := fun hh => ih (t + 1) Y (by omega) (by omega) h3 hY hI (kRJ_skip hJ hh)
    by_cases y1 : ksb t S
    case neg =>
      have a1 : ¬ km_and t (km_xor S (-1)) = 0 := fun h => y1 ((ksb_n0 ht hS).mp h)
      obtain ⟨Y', u1, u2, u3, u4⟩ := skip (fun h => absurd h.1 y1)
      refine ⟨Y', u1, u2, u3, fun Q => ?_⟩
      rw [← u4 Q, g_X12_settles_98]
      simp (config := { decide := true }) (disch := first | decide | assumption | omega | (simp (config := { decide := true }) only [km_sr_sf, km_sr_of, km_up_of, km_up_o, km_upx_i, km_upx_s, km_fl2_o, ne_eq, not_true_eq_false, not_false_eq_true] <;> omega) | fail) only [g_X12_settles, tg, a1, ka_lt, ka_le, ka_nlt, ka_nle, ka_ne, ka_eq, Int.add_sub_cancel, true_or, or_true, false_or, or_false, false_and, and_false, if_true, if_false, ka_lo, ka_hi, ka_nn, km_sr_sf, km_sr_of, km_up_of, km_sr_us, km_sr_uo, km_sr_sr, km_sr_fl, km_sr_flo, km_up_up, km_up_lt, km_lay, km_unL, km_up_o, km_upx_i, km_upx_s, km_fl2_o, km_is, Option.some.injEq, Sum.inl.injEq, Sum.inr.injEq, Option.toList_some, Option.toList_none, List.cons_append, List.nil_append, ne_eq, true_and, and_true, and_self, not_true_eq_false, not_false_eq_true, true_implies, false_implies, reduceCtorEq]
    have a1 : km_and t (km_xor S (-1)) = 0 := (ksb_n0 ht hS).mpr y1
    by_cases y2 : tb t (klw S) = true
    case neg =>
      have a2 : km_and t (km_shl 1 (klw S)) = 0 := (kand_one ht l0 l1).mpr (by simpa using y2)
      obtain ⟨Y', u1, u2, u3, u4⟩ := skip (fun h => absurd h.2.1 y2)
      refine ⟨Y', u1, u2, u3, fun Q => ?_⟩
      rw [← u4 Q, g_X12_settles_98]
      simp (config := { decide := true }) (disch := first | decide | assumption | omega | (simp (config := { decide := true }) only [km_sr_sf, km_sr_of, km_up_of, km_up_o, km_upx_i, km_upx_s, km_fl2_o, ne_eq, not_true_eq_false, not_false_eq_true] <;> omega) | fail) only [g_X12_settles, tg, a1, a2, ka_lt, ka_le, ka_nlt, ka_nle, ka_ne, ka_eq, Int.add_sub_cancel, true_or, or_true, false_or, or_false, false_and, and_false, if_true, if_false, ka_lo, ka_hi, ka_nn, km_sr_sf, km_sr_of, km_up_of, km_sr_us, km_sr_uo, km_sr_sr, km_sr_fl, km_sr_flo, km_up_up, km_up_lt, km_lay, km_unL, km_up_o, km_upx_i, km_upx_s, km_fl2_o, km_is, Option.some.injEq, Sum.inl.injEq, Sum.inr.injEq, Option.toList_some, Option.toList_none, List.cons_append, List.nil_append, ne_eq, true_and, and_true, and_self, not_true_eq_false, not_false_eq_true, true_implies, false_implies, reduceCtorEq]
    have a2 : ¬ km_and t (km_shl 1 (klw S)) = 0 := fun h => by rw [(kand_one ht l0 l1).mp h] at y2; cases y2
    have an := ksb_andn hS y1
    have dd := (ksb_diff hS y1).1
    have d0 := dd.1
    have d1 := dd.2
    by_cases y3 : Y 180 (S - t) < 0
    · obtain ⟨Y', u1, u2, u3, u4⟩ := skip (fun h => absurd h.2.2.2 (by omega))
      refine ⟨Y', u1, u2, u3, fun Q => ?_⟩
      rw [← u4 Q, g_X12_settles_98]
      simp (config := { decide := true }) (disch := first | decide | assumption | omega | (simp (config := { decide := true }) only [km_sr_sf, km_sr_of, km_up_of, km_up_o, km_upx_i, km_upx_s, km_fl2_o, ne_eq, not_true_eq_false, not_false_eq_true] <;> omega) | fail) only [g_X12_settles, tg, a1, a2, an, d0, d1, y3, ka_lt, ka_le, ka_nlt, ka_nle, ka_ne, ka_eq, Int.add_sub_cancel, true_or, or_true, false_or, or_false, false_and, and_false, if_true, if_false, ka_lo, ka_hi, ka_nn, km_sr_sf, km_sr_of, km_up_of, km_sr_us, km_sr_uo, km_sr_sr, km_sr_fl, km_sr_flo, km_up_up, km_up_lt, km_lay, km_unL, km_up_o, km_upx_i, km_upx_s, km_fl2_o, km_is, Option.some.injEq, Sum.inl.injEq, Sum.inr.injEq, Option.toList_some, Option.toList_none, List.cons_append, List.nil_append, ne_eq, true_and, and_true, and_self, not_true_eq_false, not_false_eq_true, true_implies, false_implies, reduceCtorEq]
    have tog := fun Q => @m_together q c s Y b t kn ht k0 k1 h3 hY hz hb Q
    by_cases y4 : kbs b t = 0
    case neg =>
      obtain ⟨Y', u1, u2, u3, u4⟩ := skip (fun h => absurd h.2.2.1 y4)
      refine ⟨Y', u1, u2, u3, fun Q => ?_⟩
      rw [← u4 Q, g_X12_settles_98]
      simp (config := { decide := true }) (disch := first | decide | assumption | omega | (simp (config := { decide := true }) only [km_sr_sf, km_sr_of, km_up_of, km_up_o, km_upx_i, km_upx_s, km_fl2_o, ne_eq, not_true_eq_false, not_false_eq_true] <;> omega) | fail) only [g_X12_settles, tg, a1, a2, an, d0, d1, y3, tog, kl_0, y4, ka_lt, ka_le, ka_nlt, ka_nle, ka_ne, ka_eq, Int.add_sub_cancel, true_or, or_true, false_or, or_false, false_and, and_false, if_true, if_false, ka_lo, ka_hi, ka_nn, km_sr_sf, km_sr_of, km_up_of, km_sr_us, km_sr_uo, km_sr_sr, km_sr_fl, km_sr_flo, km_up_up, km_up_lt, km_lay, km_unL, km_up_o, km_upx_i, km_upx_s, km_fl2_o, km_is, Option.some.injEq, Sum.inl.injEq, Sum.inr.injEq, Option.toList_some, Option.toList_none, List.cons_append, List.nil_append, ne_eq, true_and, and_true, and_self, not_true_eq_false, not_false_eq_true, true_implies, false_implies, reduceCtorEq]
    have o : kO1 b (Y 180) S t := ⟨y1, y2, y4, by omega⟩
    have pb := @kpop_b S
    have pl := kpop_less hS y1 (by omega)
    have rb : Y 180 (S - t) ≤ km_pop (S - t) := by
      by_cases e : S - t = 0
      · rw [e, hI.1]; decide
      · exact (hI.2 (S - t) (ksb_tr hS hw (ksb_dsub hS y1) hs) e (by omega)).1.2
    have jb := hJ.1
    by_cases y5 : Y 180 (S - t) + 1 ≤ Y 180 S
    · have y6 : ¬ Y 180 S < Y 180 (S - t) + 1 := by omega
      obtain ⟨Y', u1, u2, u3, u4⟩ := skip (fun _ => y5)
      refine ⟨Y', u1, u2, u3, fun Q => ?_⟩
      rw [← u4 Q, g_X12_settles_98]
      simp (config := { decide := true }) (disch := first | decide | assumption | omega | (simp (config := { decide := true }) only [km_sr_sf, km_sr_of, km_up_of, km_up_o, km_upx_i, km_upx_s, km_fl2_o, ne_eq, not_true_eq_false, not_false_eq_true] <;> omega) | fail) only [g_X12_settles, tg, a1, a2, an, d0, d1, s0, s1, y3, tog, kl_0, y4, y5, y6, ka_lt, ka_le, ka_nlt, ka_nle, ka_ne, ka_eq, Int.add_sub_cancel, true_or, or_true, false_or, or_false, false_and, and_false, if_true, if_false, ka_lo, ka_hi, ka_nn, km_sr_sf, km_sr_of, km_up_of, km_sr_us, km_sr_uo, km_sr_sr, km_sr_fl, km_sr_flo, km_up_up, km_up_lt, km_lay, km_unL, km_up_o, km_upx_i, km_upx_s, km_fl2_o, km_is, Option.some.injEq, Sum.inl.injEq, Sum.inr.injEq, Option.toList_some, Option.toList_none, List.cons_append, List.nil_append, ne_eq, true_and, and_true, and_self, not_true_eq_false, not_false_eq_true, true_implies, false_implies, reduceCtorEq]
    · have y6 : Y 180 S < Y 180 (S - t) + 1 := by omega
      have ne : ¬ S - t = S := by omega
      obtain ⟨Y1, dY⟩ : ∃ Y1 : km_Mm, Y1 = km_up (km_up Y 180 S (Y 180 (S - t) + 1)) 181 S t := ⟨_, rfl⟩
      have e180 : ∀ j : Int, Y1 180 j = if j = S then Y 180 (S - t) + 1 else Y 180 j := fun j => by
        rw [dY, km_up_ne (by omega)]
        by_cases e : j = S
        · rw [e, km_upx_s, if_pos rfl]
        · rw [km_up_ne (by omega), if_neg e]
      have oth : ∀ d j : Int, d ≠ 180 → d ≠ 181 → Y1 d j = Y d j := fun d j h1 h2 => by rw [dY, km_up_ne (by omega), km_up_ne (by omega)]
      have i1 : kRI b w S Y1 := kRI_low hw hI (by omega) (fun j hj => ⟨by rw [e180, if_neg (by omega)], by rw [dY, km_up_ne (by omega), km_up_ne (by omega)]⟩)
      obtain ⟨Y', u1, u2, u3, u4⟩ := ih (t + 1) Y1 (by omega) (by omega) ((oth _ _ (by decide) (by decide)).trans h3) (fun j j0 j1 => (oth _ _ (by decide) (by decide)).trans (hY j j0 j1)) i1 (kRJ_take hS nz hJ o y5 (by omega) e180 (by rw [dY, km_upx_s]))
      refine ⟨Y', fun d j h1 h2 => (u1 d j h1 h2).trans (oth d j h1 h2), u2, u3, fun Q => ?_⟩
      rw [← u4 Q, g_X12_settles_98, dY]
      simp (config := { decide := true }) (disch := first | decide | assumption | omega | (simp (config := { decide := true }) only [km_sr_sf, km_sr_of, km_up_of, km_up_o, km_upx_i, km_upx_s, km_fl2_o, ne_eq, not_true_eq_false, not_false_eq_true] <;> omega) | fail) only [g_X12_settles, tg, a1, a2, an, d0, d1, s0, s1, y3, tog, kl_0, y4, y5, y6, ne, ka_lt, ka_le, ka_nlt, ka_nle, ka_ne, ka_eq, Int.add_sub_cancel, true_or, or_true, false_or, or_false, false_and, and_false, if_true, if_false, ka_lo, ka_hi, ka_nn, km_sr_sf, km_sr_of, km_up_of, km_sr_us, km_sr_uo, km_sr_sr, km_sr_fl, km_sr_flo, km_up_up, km_up_lt, km_lay, km_unL, km_up_o, km_upx_i, km_upx_s, km_fl2_o, km_is, Option.some.injEq, Sum.inl.injEq, Sum.inr.injEq, Option.toList_some, Option.toList_none, List.cons_append, List.nil_append, ne_eq, true_and, and_true, and_self, not_true_eq_false, not_false_eq_true, true_implies, false_implies, reduceCtorEq]
theorem m_sets (hw : ten w) (k0 : 0 ≤ kn) (k1 : kn ≤ 10) (hz : ∀ j : Int, kn ≤ j → j < 10 → b j = 0) (hb : ∀ k : Int, 0 ≤ k → k < 10 → -9999991 ≤ b k ∧ b k ≤ 9999991) : ∀ (n : Nat) (S : Int) (Y : km_Mm) (o3 o4 : Option km_V), w + 1 - S = n → 0 < S → Y 123 3 = kn → (∀ j : Int, 0 ≤ j → j < kn → Y 176 j = b j) → kRI b w S Y → ∃ (Y' : km_Mm) (p3 p4 : Option km_V), (∀ d j : Int, d ≠ 180 → d ≠ 181 → Y' d j = Y d j) ∧ kRI b w (w + 1) Y' ∧ ∀ Q : Option km_V → km_Al → km_Mm → Prop, km_G M_X12_settles 57 [some (.inr (.inr 123)), some (.inl w), some (.inl S), o3, o4] [] (km_A0 q c s) Y Q ↔ km_G M_X12_settles 214 [some (.inr (.inr 123)), some (.inl w), some (.inl w), p3, p4] [] (km_A0 q c s) Y' Q := by
  have w0 := hw.1
  have w1 := hw.2
  intro n
  induction n with
  | zero =>
    intro S Y o3 o4 hn S0 h3 hY hI
    have e : S = w + 1 := by omega
    subst e
    refine ⟨Y, o3, o4, fun _ _ _ _ => rfl, hI, fun Q => ?_⟩
    rw [g_X12_settles_57]
    simp (config := { decide := true }) (disch := first | decide | assumption | omega | (simp (config := { decide := true }) only [km_sr_sf, km_sr_of, km_up_of, km_up_o, km_upx_i, km_upx_s, km_fl2_o, ne_eq, not_true_eq_false, not_false_eq_true] <;> omega) | fail) only [g_X12_settles, ka_lt, ka_le, ka_nlt, ka_nle, ka_ne, ka_eq, Int.add_sub_cancel, true_or, or_true, false_or, or_false, false_and, and_false, if_true, if_false, ka_lo, ka_hi, ka_nn, km_sr_sf, km_sr_of, km_up_of, km_sr_us, km_sr_uo, km_sr_sr, km_sr_fl, km_sr_flo, km_up_up, km_up_lt, km_lay, km_unL, km_up_o, km_upx_i, km_upx_s, km_fl2_o, km_is, Option.some.injEq, Sum.inl.injEq, Sum.inr.injEq, Option.toList_some, Option.toList_none, List.cons_append, List.nil_append, ne_eq, true_and, and_true, and_self, not_true_eq_false, not_false_eq_true, true_implies, false_implies, reduceCtorEq]
  | succ n ih =>
    intro S Y o3 o4 hn S0 h3 hY hI
    have hS : ten S := ⟨by omega, by omega⟩
    have s0 := hS.1
    have s1 := hS.2
    have tg : ¬ w < S := by omega
    obtain ⟨Y1, dY⟩ : ∃ Y1 : km_Mm, Y1 = km_up Y 180 S (-1) := ⟨_, rfl⟩
    have oth : ∀ d j : Int, d ≠ 180 → d ≠ 181 → Y1 d j = Y d j := fun d j h1 h2 => by rw [dY, km_up_ne (by omega)]
    have i1 : kRI b w S Y1 := kRI_low hw hI S0 (fun j hj => ⟨by rw [dY, km_up_ne (by omega)], by rw [dY, km_up_ne (by omega)]⟩)
    by_cases y : ksb S w
    · have a1 : km_and S (km_xor w (-1)) = 0 := (ksb_n0 hS hw).mpr y
      have nz : S ≠ 0 := by omega
      obtain ⟨⟨l0, l1, l2⟩, -⟩ := klw_p hS nz
      have o := ksb_one hS l0 l1 l2
      have ol := ksb_le hS o.1
      have pb := @kpop_b S
      have YS : Y1 180 S = -1 := by rw [dY, km_upx_s]
      obtain ⟨Y2, v1, v2, v3, v4⟩ := @m_subs q c s b w S kn hw y nz k0 k1 hz hb (S + 1 - km_shl 1 (klw S)).toNat (km_shl 1 (klw S)) Y1 (by omega) o.2 ((oth _ _ (by decide) (by decide)).trans h3) (fun j j0 j1 => (oth _ _ (by decide) (by decide)).trans (hY j j0 j1)) i1 ⟨by omega, fun u h1 h2 => by
        have := (ksb_le (ksb_ten hS h2.1) (ksb_one (ksb_ten hS h2.1) l0 l1 h2.2.1).1).2
        omega, Or.inl YS⟩
      have i2 : kRI b w (S + 1) Y2 := ⟨v2.1, fun T h1 h2 h3 => by
        by_cases e : T = S
        · subst e
          refine ⟨v3.1, fun t ht => ?_, v3.2.2⟩
          have := kO1_lt hS nz ht
          exact v3.2.1 t (by omega) ht
        · exact v2.2 T h1 h2 (by omega)⟩
      obtain ⟨Y', p3, p4, u1, u2, u3⟩ := ih (S + 1) Y2 (some (.inl (km_shl 1 (klw S)))) (some (.inl (S + 1))) (by omega) (by omega) ((v1 _ _ (by decide) (by decide)).trans ((oth _ _ (by decide) (by decide)).trans h3)) (fun j j0 j1 => (v1 _ _ (by decide) (by decide)).trans ((oth _ _ (by decide) (by decide)).trans (hY j j0 j1))) i2
      refine ⟨Y', p3, p4, fun d j h1 h2 => (u1 d j h1 h2).trans ((v1 d j h1 h2).trans (oth d j h1 h2)), u2, fun Q => ?_⟩
      have ml := @m_low q c s Y1 w S hS nz o4 Q (klw S).toNat 0 (by decide) (by omega)
      have sh : km_shl 1 0 = 1 := by decide
      rw [sh] at ml
      have g1 : km_G M_X12_settles 57 [some (.inr (.inr 123)), some (.inl w), some (.inl S), o3, o4] [] (km_A0 q c s) Y Q ↔ km_G M_X12_settles 82 [some (.inr (.inr 123)), some (.inl w), some (.inl S), some (.inl 1), o4] [] (km_A0 q c s) Y1 Q := by
        rw [g_X12_settles_57, dY]
        simp (config := { decide := true }) (disch := first | decide | assumption | omega | (simp (config := { decide := true }) only [km_sr_sf, km_sr_of, km_up_of, km_up_o, km_upx_i, km_upx_s, km_fl2_o, ne_eq, not_true_eq_false, not_false_eq_true] <;> omega) | fail) only [g_X12_settles, tg, s0, s1, a1, ka_lt, ka_le, ka_nlt, ka_nle, ka_ne, ka_eq, Int.add_sub_cancel, true_or, or_true, false_or, or_false, false_and, and_false, if_true, if_false, ka_lo, ka_hi, ka_nn, km_sr_sf, km_sr_of, km_up_of, km_sr_us, km_sr_uo, km_sr_sr, km_sr_fl, km_sr_flo, km_up_up, km_up_lt, km_lay, km_unL, km_up_o, km_upx_i, km_upx_s, km_fl2_o, km_is, Option.some.injEq, Sum.inl.injEq, Sum.inr.injEq, Option.toList_some, Option.toList_none, List.cons_append, List.nil_append, ne_eq, true_and, and_true, and_self, not_true_eq_false, not_false_eq_true, true_implies, false_implies, reduceCtorEq]
      have g2 : km_G M_X12_settles 95 [some (.inr (.inr 123)), some (.inl w), some (.inl S), some (.inl (km_shl 1 (klw S))), o4] [] (km_A0 q c s) Y1 Q ↔ km_G M_X12_settles 98 [some (.inr (.inr 123)), some (.inl w), some (.inl S), some (.inl (km_shl 1 (klw S))), some (.inl (km_shl 1 (klw S)))] [] (km_A0 q c s) Y1 Q := by
        simp (config := { decide := true }) (disch := first | decide | assumption | omega | (simp (config := { decide := true }) only [km_sr_sf, km_sr_of, km_up_of, km_up_o, km_upx_i, km_upx_s, km_fl2_o, ne_eq, not_true_eq_false, not_false_eq_true] <;> omega) | fail) only [g_X12_settles, ka_lt, ka_le, ka_nlt, ka_nle, ka_ne, ka_eq, Int.add_sub_cancel, true_or, or_true, false_or, or_false, false_and, and_false, if_true, if_false, ka_lo, ka_hi, ka_nn, km_sr_sf, km_sr_of, km_up_of, km_sr_us, km_sr_uo, km_sr_sr, km_sr_fl, km_sr_flo, km_up_up, km_up_lt, km_lay, km_unL, km_up_o, km_upx_i, km_upx_s, km_fl2_o, km_is, Option.some.injEq, Sum.inl.injEq, Sum.inr.injEq, Option.toList_some, Option.toList_none, List.cons_append, List.nil_append, ne_eq, true_and, and_true, and_self, not_true_eq_false, not_false_eq_true, true_implies, false_implies, reduceCtorEq]
      rw [g1, ml, g2, v4, ← u3 Q]
      simp (config := { decide := true }) (disch := first | decide | assumption | omega | (simp (config := { decide := true }) only [km_sr_sf, km_sr_of, km_up_of, km_up_o, km_upx_i, km_upx_s, km_fl2_o, ne_eq, not_true_eq_false, not_false_eq_true] <;> omega) | fail) only [g_X12_settles, ka_lt, ka_le, ka_nlt, ka_nle, ka_ne, ka_eq, Int.add_sub_cancel, true_or, or_true, false_or, or_false, false_and, and_false, if_true, if_false, ka_lo, ka_hi, ka_nn, km_sr_sf, km_sr_of, km_up_of, km_sr_us, km_sr_uo, km_sr_sr, km_sr_fl, km_sr_flo, km_up_up, km_up_lt, km_lay, km_unL, km_up_o, km_upx_i, km_upx_s, km_fl2_o, km_is, Option.some.injEq, Sum.inl.injEq, Sum.inr.injEq, Option.toList_some, Option.toList_none, List.cons_append, List.nil_append, ne_eq, true_and, and_true, and_self, not_true_eq_false, not_false_eq_true, true_implies, false_implies, reduceCtorEq]
    · have a1 : ¬ km_and S (km_xor w (-1)) = 0 := fun h => y ((ksb_n0 hS hw).mp h)
      obtain ⟨Y', p3, p4, u1, u2, u3⟩ := ih (S + 1) Y1 o3 o4 (by omega) (by omega) ((oth _ _ (by decide) (by decide)).trans h3) (fun j j0 j1 => (oth _ _ (by decide) (by decide)).trans (hY j j0 j1)) ⟨i1.1, fun T h1 h2 h3 => by
        by_cases e : T = S
        · rw [e] at h1; exact absurd h1 y
        · exact i1.2 T h1 h2 (by omega)⟩
      refine ⟨Y', p3, p4, fun d j h1 h2 => (u1 d j h1 h2).trans (oth d j h1 h2), u2, fun Q => ?_⟩
      rw [← u3 Q, g_X12_settles_57, dY]
      simp (config := { decide := true }) (disch := first | decide | assumption | omega | (simp (config := { decide := true }) only [km_sr_sf, km_sr_of, km_up_of, km_up_o, km_upx_i, km_upx_s, km_fl2_o, ne_eq, not_true_eq_false, not_false_eq_true] <;> omega) | fail) only [g_X12_settles, tg, s0, s1, a1, ka_lt, ka_le, ka_nlt, ka_nle, ka_ne, ka_eq, Int.add_sub_cancel, true_or, or_true, false_or, or_false, false_and, and_false, if_true, if_false, ka_lo, ka_hi, ka_nn, km_sr_sf, km_sr_of, km_up_of, km_sr_us, km_sr_uo, km_sr_sr, km_sr_fl, km_sr_flo, km_up_up, km_up_lt, km_lay, km_unL, km_up_o, km_upx_i, km_upx_s, km_fl2_o, km_is, Option.some.injEq, Sum.inl.injEq, Sum.inr.injEq, Option.toList_some, Option.toList_none, List.cons_append, List.nil_append, ne_eq, true_and, and_true, and_self, not_true_eq_false, not_false_eq_true, true_implies, false_implies, reduceCtorEq]
end MG

