/-! ===== near: class and reference answer alike ===== -/
theorem kn_T_b {f A B : Int → Int} {k a b w : Int} (hf : ∀ a : Int, 0 ≤ a → a < 10 → ten (f a) ∧ ∀ x : Int, 0 ≤ x → tb (f a) x = true → x < a) (hg : kf_good f A B k) (hw : 0 ≤ w ∧ w < 2147483648) (hW : kn_W f A B k w = true) (ha : 0 ≤ a ∧ a < 10) (hb : 0 ≤ b ∧ b < 10) : (0 ≤ (kn_T f A B k a b w).1 ∧ (kn_T f A B k a b w).1 ≤ 20) ∧ 0 ≤ (kn_T f A B k a b w).2.1 ∧ (kn_T f A B k a b w).2.1 ≤ 20 := by
  have hlt : ∀ y x, kr_P (kn_ent w A B k.toNat 0 f).2 y x → 0 ≤ x ∧ x < y := by
    rintro y x q
    obtain ⟨p, r, t⟩ := q
    refine ⟨r.1, ?_⟩
    rcases (kn_ent_bits (w := w) (A := A) (B := B) (k := k) hw.1 hw.2 hg.1.2 hg.2.1 k.toNat 0 f (by have := hg.1; omega) (by have := hg.1; omega) (fun a p r => (hf a p r).1) hW y x p.1 p.2 r.1 r.2).mp t with t | ⟨j, j0, j1, -, j2, j3⟩
    · exact (hf y p.1 p.2).2 x r.1 t
    · have := hg.2.2.2.2 j j0 j1; omega
  exact kn_fn_b (fun x _ _ => kr_U_b ha hlt) (fun x _ _ => kr_U_b hb hlt) 10 0 (0, 0, 0) (by omega) (by omega) (by dsimp only; omega) (by dsimp only; omega)
theorem kn_may_K {m : km_Mm} {K : Int} (hn : ∀ i : Int, 0 ≤ i → i < m 5 8 → m 12 i = 0 → m 13 i < K) : ∀ (n : Nat) (i : Int) (t : (Int → Int) × (Int → Int) × Int), 0 ≤ i → i + n = m 5 8 → (∀ j : Int, 0 ≤ j → j < t.2.2 → t.1 j < K) → ∀ j : Int, 0 ≤ j → j < (kn_may m n i t).2.2 → (kn_may m n i t).1 j < K := by
  intro n
  induction n with
  | zero => intro i t h0 h1 h2; exact h2
  | succ n ih =>
    intro i t h0 h1 h2
    unfold kn_may
    refine ih (i + 1) _ (by omega) (by omega) ?_
    split
    · next z =>
      intro j j0 j1
      dsimp only at j1 ⊢
      unfold km_u1
      split
      · exact hn i h0 (by omega) z.1.2.1
      · exact h2 j j0 (by omega)
    · exact h2
/-- the reference's memory after know n -/
def kq_m1 (mm : km_Mm) (n : Int) : km_Mm := km_sr (km_up mm 123 2 0) 130 (kq_kn (mm 126) (mm 127) n.toNat (kq_k0 n (mm 130) 0))
/-- .. and after family -/
def kq_m2 (m : km_Mm) : km_Mm := km_sr (km_sr (km_sr (km_sr (km_up m 123 14 (kf_f2 m).2.2) 131 (kf_f1 m).2) 132 (kf_f1 m).1) 133 (kf_f2 m).1) 134 (kf_f2 m).2.1
theorem kI_fam {m mm : km_Mm} {n : Int} (hb : kI_book m) (e126 : mm 126 = m 126) (e127 : mm 127 = m 127) (e128 : mm 128 = m 128) (e129 : mm 129 = m 129) (e3 : mm 123 3 = m 123 3) (e5 : mm 123 5 = m 123 5) (n0 : 0 ≤ n) (n1 : n ≤ m 5 3) :
    kf_same (kn_m3 (km_read n m) 53) (kn_m3 (km_read n m) 54) (kn_m3 (km_read n m) 55) (kn_m3 (km_read n m) 52 3) (kq_m2 (kq_m1 mm n)) := by
  obtain ⟨b1, -, b3, b4, b5, b6⟩ := id hb
  obtain ⟨c1, c2⟩ := kI_cnt hb n0 n1 (C := mm 130)
  obtain ⟨w1, w2⟩ := kI_sure hb n0 n1
  generalize hr : km_read n m = r at *
  have r8 : r 5 8 = n := by rw [← hr]; exact km_read_8
  have rr : ∀ b : Int, 12 ≤ b → b ≤ 15 → r b = m b := fun b b0 b1 => by funext j; rw [← hr]; exact km_read_at (by omega) (by omega) (by omega) (by omega)
  have e53 : kn_m3 r 53 = kn_sure r n.toNat 0 (fun j => if 0 ≤ j ∧ j < 10 then 0 else r 53 j) := by unfold kn_m3 kn_m1; rw [r8]; simp (config := { decide := true }) only [true_or, or_true, false_or, or_false, false_and, and_false, if_true, if_false, km_sr_sf, km_sr_of, km_up_of, km_sr_us, km_sr_uo, km_sr_sr, km_sr_fl, km_sr_flo, km_up_up, km_up_lt, km_lay, km_unL, km_up_o, km_upx_i, km_upx_s, km_fl2_o, km_is, Option.some.injEq, Sum.inl.injEq, Sum.inr.injEq, Option.toList_some, Option.toList_none, List.cons_append, List.nil_append, ne_eq, true_and, and_true, and_self, not_true_eq_false, not_false_eq_true, true_implies, false_implies, reduceCtorEq]
  have e53' : kn_m1 r 53 = kn_m3 r 53 := by unfold kn_m3; simp (config := { decide := true }) only [true_or, or_true, false_or, or_false, false_and, and_false, if_true, if_false, km_sr_sf, km_sr_of, km_up_of, km_sr_us, km_sr_uo, km_sr_sr, km_sr_fl, km_sr_flo, km_up_up, km_up_lt, km_lay, km_unL, km_up_o, km_upx_i, km_upx_s, km_fl2_o, km_is, Option.some.injEq, Sum.inl.injEq, Sum.inr.injEq, Option.toList_some, Option.toList_none, List.cons_append, List.nil_append, ne_eq, true_and, and_true, and_self, not_true_eq_false, not_false_eq_true, true_implies, false_implies, reduceCtorEq]
  have e54 : kn_m3 r 54 = (kn_m2 r).1 := by unfold kn_m3; simp (config := { decide := true }) only [true_or, or_true, false_or, or_false, false_and, and_false, if_true, if_false, km_sr_sf, km_sr_of, km_up_of, km_sr_us, km_sr_uo, km_sr_sr, km_sr_fl, km_sr_flo, km_up_up, km_up_lt, km_lay, km_unL, km_up_o, km_upx_i, km_upx_s, km_fl2_o, km_is, Option.some.injEq, Sum.inl.injEq, Sum.inr.injEq, Option.toList_some, Option.toList_none, List.cons_append, List.nil_append, ne_eq, true_and, and_true, and_self, not_true_eq_false, not_false_eq_true, true_implies, false_implies, reduceCtorEq]
  have e55 : kn_m3 r 55 = (kn_m2 r).2.1 := by unfold kn_m3; simp (config := { decide := true }) only [true_or, or_true, false_or, or_false, false_and, and_false, if_true, if_false, km_sr_sf, km_sr_of, km_up_of, km_sr_us, km_sr_uo, km_sr_sr, km_sr_fl, km_sr_flo, km_up_up, km_up_lt, km_lay, km_unL, km_up_o, km_upx_i, km_upx_s, km_fl2_o, km_is, Option.some.injEq, Sum.inl.injEq, Sum.inr.injEq, Option.toList_some, Option.toList_none, List.cons_append, List.nil_append, ne_eq, true_and, and_true, and_self, not_true_eq_false, not_false_eq_true, true_implies, false_implies, reduceCtorEq]
  have e523 : kn_m3 r 52 3 = (kn_m2 r).2.2 := by unfold kn_m3; simp (config := { decide := true }) only [true_or, or_true, false_or, or_false, false_and, and_false, if_true, if_false, km_sr_sf, km_sr_of, km_up_of, km_sr_us, km_sr_uo, km_sr_sr, km_sr_fl, km_sr_flo, km_up_up, km_up_lt, km_lay, km_unL, km_up_o, km_upx_i, km_upx_s, km_fl2_o, km_is, Option.some.injEq, Sum.inl.injEq, Sum.inr.injEq, Option.toList_some, Option.toList_none, List.cons_append, List.nil_append, ne_eq, true_and, and_true, and_self, not_true_eq_false, not_false_eq_true, true_implies, false_implies, reduceCtorEq]
  generalize hM : kq_m1 mm n = M
  have M130 : M 130 = kq_kn (m 126) (m 127) n.toNat (kq_k0 n (mm 130) 0) := by rw [← hM]; unfold kq_m1; simp (config := { decide := true }) only [e126, e127, true_or, or_true, false_or, or_false, false_and, and_false, if_true, if_false, km_sr_sf, km_sr_of, km_up_of, km_sr_us, km_sr_uo, km_sr_sr, km_sr_fl, km_sr_flo, km_up_up, km_up_lt, km_lay, km_unL, km_up_o, km_upx_i, km_upx_s, km_fl2_o, km_is, Option.some.injEq, Sum.inl.injEq, Sum.inr.injEq, Option.toList_some, Option.toList_none, List.cons_append, List.nil_append, ne_eq, true_and, and_true, and_self, not_true_eq_false, not_false_eq_true, true_implies, false_implies, reduceCtorEq]
  have M126 : M 126 = m 126 := by rw [← hM]; unfold kq_m1; simp (config := { decide := true }) only [e126, true_or, or_true, false_or, or_false, false_and, and_false, if_true, if_false, km_sr_sf, km_sr_of, km_up_of, km_sr_us, km_sr_uo, km_sr_sr, km_sr_fl, km_sr_flo, km_up_up, km_up_lt, km_lay, km_unL, km_up_o, km_upx_i, km_upx_s, km_fl2_o, km_is, Option.some.injEq, Sum.inl.injEq, Sum.inr.injEq, Option.toList_some, Option.toList_none, List.cons_append, List.nil_append, ne_eq, true_and, and_true, and_self, not_true_eq_false, not_false_eq_true, true_implies, false_implies, reduceCtorEq]
  have M127 : M 127 = m 127 := by rw [← hM]; unfold kq_m1; simp (config := { decide := true }) only [e127, true_or, or_true, false_or, or_false, false_and, and_false, if_true, if_false, km_sr_sf, km_sr_of, km_up_of, km_sr_us, km_sr_uo, km_sr_sr, km_sr_fl, km_sr_flo, km_up_up, km_up_lt, km_lay, km_unL, km_up_o, km_upx_i, km_upx_s, km_fl2_o, km_is, Option.some.injEq, Sum.inl.injEq, Sum.inr.injEq, Option.toList_some, Option.toList_none, List.cons_append, List.nil_append, ne_eq, true_and, and_true, and_self, not_true_eq_false, not_false_eq_true, true_implies, false_implies, reduceCtorEq]
  have M128 : M 128 = m 128 := by rw [← hM]; unfold kq_m1; simp (config := { decide := true }) only [e128, true_or, or_true, false_or, or_false, false_and, and_false, if_true, if_false, km_sr_sf, km_sr_of, km_up_of, km_sr_us, km_sr_uo, km_sr_sr, km_sr_fl, km_sr_flo, km_up_up, km_up_lt, km_lay, km_unL, km_up_o, km_upx_i, km_upx_s, km_fl2_o, km_is, Option.some.injEq, Sum.inl.injEq, Sum.inr.injEq, Option.toList_some, Option.toList_none, List.cons_append, List.nil_append, ne_eq, true_and, and_true, and_self, not_true_eq_false, not_false_eq_true, true_implies, false_implies, reduceCtorEq]
  have M129 : M 129 = m 129 := by rw [← hM]; unfold kq_m1; simp (config := { decide := true }) only [e129, true_or, or_true, false_or, or_false, false_and, and_false, if_true, if_false, km_sr_sf, km_sr_of, km_up_of, km_sr_us, km_sr_uo, km_sr_sr, km_sr_fl, km_sr_flo, km_up_up, km_up_lt, km_lay, km_unL, km_up_o, km_upx_i, km_upx_s, km_fl2_o, km_is, Option.some.injEq, Sum.inl.injEq, Sum.inr.injEq, Option.toList_some, Option.toList_none, List.cons_append, List.nil_append, ne_eq, true_and, and_true, and_self, not_true_eq_false, not_false_eq_true, true_implies, false_implies, reduceCtorEq]
  have M5 : M 123 5 = m 5 3 := by rw [← hM]; unfold kq_m1; simp (config := { decide := true }) only [true_or, or_true, false_or, or_false, false_and, and_false, if_true, if_false, km_sr_sf, km_sr_of, km_up_of, km_sr_us, km_sr_uo, km_sr_sr, km_sr_fl, km_sr_flo, km_up_up, km_up_lt, km_lay, km_unL, km_up_o, km_upx_i, km_upx_s, km_fl2_o, km_is, Option.some.injEq, Sum.inl.injEq, Sum.inr.injEq, Option.toList_some, Option.toList_none, List.cons_append, List.nil_append, ne_eq, true_and, and_true, and_self, not_true_eq_false, not_false_eq_true, true_implies, false_implies, reduceCtorEq]; omega
  have M3 : M 123 3 = m 5 1 := by rw [← hM]; unfold kq_m1; simp (config := { decide := true }) only [true_or, or_true, false_or, or_false, false_and, and_false, if_true, if_false, km_sr_sf, km_sr_of, km_up_of, km_sr_us, km_sr_uo, km_sr_sr, km_sr_fl, km_sr_flo, km_up_up, km_up_lt, km_lay, km_unL, km_up_o, km_upx_i, km_upx_s, km_fl2_o, km_is, Option.some.injEq, Sum.inl.injEq, Sum.inr.injEq, Option.toList_some, Option.toList_none, List.cons_append, List.nil_append, ne_eq, true_and, and_true, and_self, not_true_eq_false, not_false_eq_true, true_implies, false_implies, reduceCtorEq]; omega
  have cp : ∀ j : Int, 0 ≤ j → j < 0 + (n.toNat : Int) → ((r 16 j ≠ 0 ∧ r 12 j = 0) ↔ (M 130 j ≠ 0 ∧ M 126 j = 0)) ∧ (r 16 j ≠ 0 → r 12 j = 0 → M 127 j = r 13 j ∧ M 128 j = r 14 j ∧ M 129 j = r 15 j) := by
    intro j j0 j1
    have g := c1 j j0 (by omega)
    have k := b6 j j0 (by omega)
    unfold kI_note at k
    rw [M130, M126, M127, M128, M129, rr 12 (by decide) (by decide), rr 13 (by decide) (by decide), rr 14 (by decide) (by decide), rr 15 (by decide) (by decide)]
    constructor
    · constructor
      · rintro ⟨p1, p2⟩; exact ⟨g.mp p1, by omega⟩
      · rintro ⟨p1, p2⟩; exact ⟨g.mpr p1, by omega⟩
    · intro p1 p2; omega
  have hn : ∀ i : Int, 0 ≤ i → i < 100 → r 16 i ≠ 0 → r 12 i = 0 → (0 ≤ r 13 i ∧ r 13 i < 10) ∧ 0 ≤ r 14 i ∧ r 14 i < 10 := by
    intro i i0 i1 _ i3
    rw [rr 12 (by decide) (by decide)] at i3
    rw [rr 13 (by decide) (by decide), rr 14 (by decide) (by decide)]
    have := b4 i i0 i1
    omega
  have dead : ∀ j : Int, 0 + (n.toNat : Int) ≤ j → j < 0 + (n.toNat : Int) + (((m 5 3).toNat - n.toNat : Nat) : Int) → M 130 j = 0 := fun j j0 j1 => by rw [M130]; exact c2 j (by omega) (by omega)
  have enn : (m 5 3).toNat = n.toNat + ((m 5 3).toNat - n.toNat) := by omega
  have f1 : kf_f1 M = kf_1 (M 130) (M 126) (M 127) (M 128) (M 129) n.toNat 0 (kv_fl (M 132) 0 10 0, M 131) := by
    unfold kf_f1
    rw [M5, enn, kf_1_add, kf_1_skip _ _ _ dead]
  have pop0 : km_pop 0 = 0 := by decide
  have ok := @kf_1_ok r (M 130) (M 126) (M 127) (M 128) (M 129) hn n.toNat 0 (fun j => if 0 ≤ j ∧ j < 10 then 0 else r 53 j) (kv_fl (M 132) 0 10 0, M 131) (by omega) (by omega) cp (fun a a0 a1 => by
    have e : kv_fl (M 132) 0 10 0 a = 0 := by unfold kv_fl; rw [if_pos ⟨a0, a1⟩]
    dsimp only
    rw [if_pos ⟨a0, a1⟩, e]
    refine ⟨ten_0, pop0.symm, by decide, fun x x0 x1 => ?_⟩
    rw [tb_zero]
    unfold kf_is
    rw [e]
    simp)
  rw [← f1, ← e53] at ok
  have rng := @kf_1_rng (M 130) (M 126) (M 127) (M 128) (M 129) (fun i i0 i1 i2 i3 => by
    rw [M126] at i3
    rw [M127, M128]
    have := b5 i i0 i1
    omega) n.toNat 0 (kv_fl (M 132) 0 10 0, M 131) (by omega) (by omega) (fun y y0 y1 => by
    have e : kv_fl (M 132) 0 10 0 y = 0 := by unfold kv_fl; rw [if_pos ⟨y0, y1⟩]
    dsimp only
    rw [e]
    exact ⟨by omega, fun j j0 j1 => by omega⟩)
  rw [← f1] at rng
  have q16 : ∀ b : Int, 12 ≤ b → b ≤ 16 → kn_m1 r b = r b := fun b b0 b1 => by unfold kn_m1; rw [km_sr_of (by omega), km_up_of (by omega)]
  have eq2 := @kf_2_eq (kn_m1 r) (M 130) (M 126) (M 127) (M 128) (M 129) (kf_f1 M).1 (kf_f1 M).2 (by rw [q16 12 (by decide) (by decide), q16 13 (by decide) (by decide), q16 14 (by decide) (by decide), q16 16 (by decide) (by decide)]; exact hn) (by rw [e53']; exact ok) n.toNat 0 (r 54, r 55, 0) (by omega) (by omega) (by rw [q16 12 (by decide) (by decide), q16 13 (by decide) (by decide), q16 14 (by decide) (by decide), q16 15 (by decide) (by decide), q16 16 (by decide) (by decide)]; exact cp)
  have f2 : kf_f2 M = kf_2 (M 130) (M 126) (M 127) (M 128) (M 129) (kf_f1 M).1 (kf_f1 M).2 n.toNat 0 (M 133, M 134, 0) := by
    unfold kf_f2
    rw [M5, enn, kf_2_add, kf_2_skip _ _ _ dead]
  have em2 : kn_m2 r = kf_2 (M 130) (M 126) (M 127) (M 128) (M 129) (kf_f1 M).1 (kf_f1 M).2 n.toNat 0 (r 54, r 55, 0) := by rw [← eq2]; unfold kn_m2; rw [r8]
  have sm := @kf_2_cong (M 130) (M 126) (M 127) (M 128) (M 129) (kf_f1 M).1 (kf_f1 M).2 n.toNat 0 (r 54, r 55, 0) (M 133, M 134, 0) (by dsimp only; omega) ⟨rfl, fun i i0 i1 => by dsimp only at i1; omega⟩
  rw [← f2, ← em2] at sm
  rw [e54, e55, e523] at *
  unfold kq_m2 kf_same
  simp (config := { decide := true }) only [true_or, or_true, false_or, or_false, false_and, and_false, if_true, if_false, km_sr_sf, km_sr_of, km_up_of, km_sr_us, km_sr_uo, km_sr_sr, km_sr_fl, km_sr_flo, km_up_up, km_up_lt, km_lay, km_unL, km_up_o, km_upx_i, km_upx_s, km_fl2_o, km_is, Option.some.injEq, Sum.inl.injEq, Sum.inr.injEq, Option.toList_some, Option.toList_none, List.cons_append, List.nil_append, ne_eq, true_and, and_true, and_self, not_true_eq_false, not_false_eq_true, true_implies, false_implies, reduceCtorEq]
  refine ⟨ok, sm.1.symm, fun i i0 i1 => ?_, rng⟩
  have := sm.2 i i0 i1
  refine ⟨this.1.symm, this.2.symm, ?_⟩
  rw [M3]
  have q8 : kn_m1 r 5 8 = n := by unfold kn_m1; simp (config := { decide := true }) only [r8, true_or, or_true, false_or, or_false, false_and, and_false, if_true, if_false, km_sr_sf, km_sr_of, km_up_of, km_sr_us, km_sr_uo, km_sr_sr, km_sr_fl, km_sr_flo, km_up_up, km_up_lt, km_lay, km_unL, km_up_o, km_upx_i, km_upx_s, km_fl2_o, km_is, Option.some.injEq, Sum.inl.injEq, Sum.inr.injEq, Option.toList_some, Option.toList_none, List.cons_append, List.nil_append, ne_eq, true_and, and_true, and_self, not_true_eq_false, not_false_eq_true, true_implies, false_implies, reduceCtorEq]
  refine @kn_may_K (kn_m1 r) (m 5 1) (fun i i0 i1 i2 => ?_) (r 5 8).toNat 0 (r 54, r 55, 0) (by omega) (by omega) (fun j j0 j1 => by dsimp only at j1; omega) i i0 i1
  rw [q16 12 (by decide) (by decide), rr 12 (by decide) (by decide)] at i2
  rw [q16 13 (by decide) (by decide), rr 13 (by decide) (by decide)]
  have := b6 i i0 (by omega)
  unfold kI_note at this
  omega
theorem sp_misKin {q : Nat × Int × Int × Int × Int} {c s : Nat} {m : km_Mm} {k : Int} : km_E M_X12_isKin [.inr (.inr 123), .inl k] (km_A0 q c s) m (km_is (some (.inl (if 0 ≤ k ∧ k < m 123 3 then 1 else 0))) (km_A0 q c s) (m)) := by
  rw [km_E.of (by decide)]
  show km_G M_X12_isKin 0 [some (.inr (.inr 123)), some (.inl k)] [] (km_A0 q c s) m _
  simp (config := { decide := true }) only [g_X12_isKin, km_lay, km_unL, km_up_o, km_upx_i, km_upx_s, km_fl2_o, km_is, Option.some.injEq, Sum.inl.injEq, Sum.inr.injEq, Option.toList_some, Option.toList_none, List.cons_append, List.nil_append, ne_eq, true_and, and_true, and_self, not_true_eq_false, not_false_eq_true, true_implies, false_implies, reduceCtorEq]
  grind
theorem r_misKin {q : Nat × Int × Int × Int × Int} {c s : Nat} {m : km_Mm} {k : Int} (Q : Option km_V → km_Al → km_Mm → Prop) : km_E M_X12_isKin [.inr (.inr 123), .inl k] (km_A0 q c s) m Q ↔ Q (some (.inl (if 0 ≤ k ∧ k < m 123 3 then 1 else 0))) (km_A0 q c s) (m) := km_E.rule (sp_misKin ) Q
theorem sp_misYear {q : Nat × Int × Int × Int × Int} {c s : Nat} {m : km_Mm} {y : Int} : km_E M_X12_isYear [.inl y] (km_A0 q c s) m (km_is (some (.inl (if 0 ≤ y ∧ y ≤ 999 then 1 else 0))) (km_A0 q c s) (m)) := by
  rw [km_E.of (by decide)]
  show km_G M_X12_isYear 0 [some (.inl y)] [] (km_A0 q c s) m _
  simp (config := { decide := true }) only [g_X12_isYear, km_lay, km_unL, km_up_o, km_upx_i, km_upx_s, km_fl2_o, km_is, Option.some.injEq, Sum.inl.injEq, Sum.inr.injEq, Option.toList_some, Option.toList_none, List.cons_append, List.nil_append, ne_eq, true_and, and_true, and_self, not_true_eq_false, not_false_eq_true, true_implies, false_implies, reduceCtorEq]
  grind
theorem r_misYear {q : Nat × Int × Int × Int × Int} {c s : Nat} {m : km_Mm} {y : Int} (Q : Option km_V → km_Al → km_Mm → Prop) : km_E M_X12_isYear [.inl y] (km_A0 q c s) m Q ↔ Q (some (.inl (if 0 ≤ y ∧ y ≤ 999 then 1 else 0))) (km_A0 q c s) (m) := km_E.rule (sp_misYear ) Q
theorem md_near {q : Nat × Int × Int × Int × Int} {c s : Nat} {m mm : km_Mm} {n a b what : Int} (hb : kI_book m) (hbm : kI_book mm) (hj : km_jk m mm) (Q : Option km_V → km_Al → km_Mm → Prop) :
    ∃ m' : km_Mm, km_jk mm m' ∧ (m' 52 = mm 52) ∧ (km_E M_X12_near [.inr (.inr 123), .inl n, .inl a, .inl b, .inl what] (km_A0 q c s) mm Q ↔ Q (some (.inl (if (0 ≤ n ∧ n ≤ m 5 3) ∧ (0 ≤ a ∧ a < m 5 1) ∧ (0 ≤ b ∧ b < m 5 1) ∧ 0 ≤ what ∧ what ≤ 5 then kn_ans m n a b what else -2))) (km_A0 q c s) m') := by
  have e3 : mm 123 3 = m 123 3 := hj 123 3 (by unfold kJ; omega)
  have e5 : mm 123 5 = m 123 5 := hj 123 5 (by unfold kJ; omega)
  have e126 : mm 126 = m 126 := funext fun j => hj 126 j (kJ_no (by decide))
  have e127 : mm 127 = m 127 := funext fun j => hj 127 j (kJ_no (by decide))
  have e128 : mm 128 = m 128 := funext fun j => hj 128 j (kJ_no (by decide))
  have e129 : mm 129 = m 129 := funext fun j => hj 129 j (kJ_no (by decide))
  obtain ⟨b1, -, b3, b4, b5, -⟩ := id hb
  obtain ⟨-, -, -, -, bm5, -⟩ := id hbm
  have E3 : mm 123 3 = m 5 1 := e3.trans b1.2.2
  have E5 : mm 123 5 = m 5 3 := e5.trans b3.2.2
  by_cases v : (0 ≤ n ∧ n ≤ m 5 3) ∧ (0 ≤ a ∧ a < m 5 1) ∧ (0 ≤ b ∧ b < m 5 1) ∧ 0 ≤ what ∧ what ≤ 5
  · obtain ⟨v1, v2, v3, v4, v5⟩ := id v
    obtain ⟨w1, w2⟩ := kI_sure hb v1.1 v1.2
    have sm := kI_fam hb e126 e127 e128 e129 e3 e5 v1.1 v1.2
    have rk := fun Q => @r_know q c s n (km_up mm 123 2 0) ⟨v1.1, by omega⟩ (by intro i i0 i1; simp (config := { decide := true }) only [true_or, or_true, false_or, or_false, false_and, and_false, if_true, if_false, km_sr_sf, km_sr_of, km_up_of, km_sr_us, km_sr_uo, km_sr_sr, km_sr_fl, km_sr_flo, km_up_up, km_up_lt, km_lay, km_unL, km_up_o, km_upx_i, km_upx_s, km_fl2_o, km_is, Option.some.injEq, Sum.inl.injEq, Sum.inr.injEq, Option.toList_some, Option.toList_none, List.cons_append, List.nil_append, ne_eq, true_and, and_true, and_self, not_true_eq_false, not_false_eq_true, true_implies, false_implies, reduceCtorEq]; exact (bm5 i i0 i1).1) Q
    have ek : km_sr (km_up mm 123 2 0) 130 (kq_kn (km_up mm 123 2 0 126) (km_up mm 123 2 0 127) n.toNat (kq_k0 n (km_up mm 123 2 0 130) 0)) = kq_m1 mm n := by unfold kq_m1; simp (config := { decide := true }) only [true_or, or_true, false_or, or_false, false_and, and_false, if_true, if_false, km_sr_sf, km_sr_of, km_up_of, km_sr_us, km_sr_uo, km_sr_sr, km_sr_fl, km_sr_flo, km_up_up, km_up_lt, km_lay, km_unL, km_up_o, km_upx_i, km_upx_s, km_fl2_o, km_is, Option.some.injEq, Sum.inl.injEq, Sum.inr.injEq, Option.toList_some, Option.toList_none, List.cons_append, List.nil_append, ne_eq, true_and, and_true, and_self, not_true_eq_false, not_false_eq_true, true_implies, false_implies, reduceCtorEq]
    rw [ek] at rk
    have rf := fun Q => @r_family q c s (kq_m1 mm n) (by unfold kq_m1; simp (config := { decide := true }) only [true_or, or_true, false_or, or_false, false_and, and_false, if_true, if_false, km_sr_sf, km_sr_of, km_up_of, km_sr_us, km_sr_uo, km_sr_sr, km_sr_fl, km_sr_flo, km_up_up, km_up_lt, km_lay, km_unL, km_up_o, km_upx_i, km_upx_s, km_fl2_o, km_is, Option.some.injEq, Sum.inl.injEq, Sum.inr.injEq, Option.toList_some, Option.toList_none, List.cons_append, List.nil_append, ne_eq, true_and, and_true, and_self, not_true_eq_false, not_false_eq_true, true_implies, false_implies, reduceCtorEq]; omega) (by intro i i0 i1; unfold kq_m1; simp (config := { decide := true }) only [true_or, or_true, false_or, or_false, false_and, and_false, if_true, if_false, km_sr_sf, km_sr_of, km_up_of, km_sr_us, km_sr_uo, km_sr_sr, km_sr_fl, km_sr_flo, km_up_up, km_up_lt, km_lay, km_unL, km_up_o, km_upx_i, km_upx_s, km_fl2_o, km_is, Option.some.injEq, Sum.inl.injEq, Sum.inr.injEq, Option.toList_some, Option.toList_none, List.cons_append, List.nil_append, ne_eq, true_and, and_true, and_self, not_true_eq_false, not_false_eq_true, true_implies, false_implies, reduceCtorEq]; exact bm5 i i0 i1) Q
    have ef : km_sr (km_sr (km_sr (km_sr (km_up (kq_m1 mm n) 123 14 (kf_f2 (kq_m1 mm n)).2.2) 131 (kf_f1 (kq_m1 mm n)).2) 132 (kf_f1 (kq_m1 mm n)).1) 133 (kf_f2 (kq_m1 mm n)).1) 134 (kf_f2 (kq_m1 mm n)).2.1 = kq_m2 (kq_m1 mm n) := rfl
    rw [ef] at rf
    have j0 : ∀ b j : Int, ¬ kJ b j → kq_m2 (kq_m1 mm n) b j = mm b j := fun b j h => by
      have : b ≠ 134 ∧ b ≠ 133 ∧ b ≠ 132 ∧ b ≠ 131 ∧ ¬ (b = 123 ∧ j = 14) ∧ b ≠ 130 ∧ ¬ (b = 123 ∧ j = 2) := by unfold kJ at h; omega
      unfold kq_m2 kq_m1
      rw [km_sr_o this.1, km_sr_o this.2.1, km_sr_o this.2.2.1, km_sr_o this.2.2.2.1]
      unfold km_up km_sr
      grind
    have r52 : kq_m2 (kq_m1 mm n) 52 = mm 52 := by unfold kq_m2 kq_m1; simp (config := { decide := true }) only [true_or, or_true, false_or, or_false, false_and, and_false, if_true, if_false, km_sr_sf, km_sr_of, km_up_of, km_sr_us, km_sr_uo, km_sr_sr, km_sr_fl, km_sr_flo, km_up_up, km_up_lt, km_lay, km_unL, km_up_o, km_upx_i, km_upx_s, km_fl2_o, km_is, Option.some.injEq, Sum.inl.injEq, Sum.inr.injEq, Option.toList_some, Option.toList_none, List.cons_append, List.nil_append, ne_eq, true_and, and_true, and_self, not_true_eq_false, not_false_eq_true, true_implies, false_implies, reduceCtorEq]
    have jM : ∀ m' : km_Mm, kj_M (kq_m2 (kq_m1 mm n)) m' → km_jk mm m' := fun m' h b j g => (h b j (fun e => g (by unfold kJ; omega)) (fun e => g (by unfold kJ; omega)) (fun e => g (by unfold kJ; omega))).trans (j0 b j g)
    have M3 : kq_m2 (kq_m1 mm n) 123 3 = m 5 1 := (j0 123 3 (by unfold kJ; omega)).trans E3
    have x1 : ¬ n < 0 := by omega
    have x2 : n ≤ m 5 3 := v1.2
    have x3 : ¬ what < 0 := by omega
    have x4 : what ≤ 5 := v5
    have x5 : ¬ m 5 3 < n := by omega
    by_cases y : what ≤ 2
    · have y2 : what < 3 := by omega
      have y3 : ¬ 3 ≤ what := by omega
      have hW : kn_W (kn_m3 (km_read n m) 53) (kn_m3 (km_read n m) 54) (kn_m3 (km_read n m) 55) (kn_m3 (km_read n m) 52 3) 0 = true := by unfold kn_W; rw [kn_ent_0 _ _ _ (by omega) (by have := w2.1; omega)]
      obtain ⟨m', j1, t2, hF⟩ := @md_find q c s (kq_m2 (kq_m1 mm n)) (kq_m2 (kq_m1 mm n)) _ _ _ _ 0 a b (by omega) w1 w2 sm (by omega) hW (by omega) (by omega) (fun _ _ _ _ _ => rfl)
      obtain ⟨t3, t4, t5⟩ := t2
      dsimp only at t3 t4 t5
      refine ⟨m', jM m' j1, (kj_M_row j1 (by decide) (by decide) (by decide)).trans r52, ?_⟩
      rw [if_pos v, kn_ans, if_pos y, km_E.of (by decide)]
      show km_G M_X12_near 0 [some (.inr (.inr 123)), some (.inl n), some (.inl a), some (.inl b), some (.inl what), none, none, none, none] [] (km_A0 q c s) mm _ ↔ _
      simp (config := { decide := true }) only [g_X12_near, r_misKin, E3, E5, v2, v3, x1, x3, x4, x5, rk, rf, y3, hF, kn_sn, true_or, or_true, false_or, or_false, false_and, and_false, if_true, if_false, km_sr_sf, km_sr_of, km_up_of, km_sr_us, km_sr_uo, km_sr_sr, km_sr_fl, km_sr_flo, km_up_up, km_up_lt, km_lay, km_unL, km_up_o, km_upx_i, km_upx_s, km_fl2_o, km_is, Option.some.injEq, Sum.inl.injEq, Sum.inr.injEq, Option.toList_some, Option.toList_none, List.cons_append, List.nil_append, ne_eq, true_and, and_true, and_self, not_true_eq_false, not_false_eq_true, true_implies, false_implies, reduceCtorEq]
      by_cases c0 : what = 2
      · simp (config := { decide := true }) only [c0, t4, true_or, or_true, false_or, or_false, false_and, and_false, if_true, if_false, km_sr_sf, km_sr_of, km_up_of, km_sr_us, km_sr_uo, km_sr_sr, km_sr_fl, km_sr_flo, km_up_up, km_up_lt, km_lay, km_unL, km_up_o, km_upx_i, km_upx_s, km_fl2_o, km_is, Option.some.injEq, Sum.inl.injEq, Sum.inr.injEq, Option.toList_some, Option.toList_none, List.cons_append, List.nil_append, ne_eq, true_and, and_true, and_self, not_true_eq_false, not_false_eq_true, true_implies, false_implies, reduceCtorEq]
      · by_cases c1 : (kn_T (kn_m3 (km_read n m) 53) (kn_m3 (km_read n m) 54) (kn_m3 (km_read n m) 55) (kn_m3 (km_read n m) 52 3) a b 0).2.2 = 0
        · have c3 : ¬ 0 < m' 123 21 := by omega
          simp (config := { decide := true }) only [c0, c1, c3, true_or, or_true, false_or, or_false, false_and, and_false, if_true, if_false, km_sr_sf, km_sr_of, km_up_of, km_sr_us, km_sr_uo, km_sr_sr, km_sr_fl, km_sr_flo, km_up_up, km_up_lt, km_lay, km_unL, km_up_o, km_upx_i, km_upx_s, km_fl2_o, km_is, Option.some.injEq, Sum.inl.injEq, Sum.inr.injEq, Option.toList_some, Option.toList_none, List.cons_append, List.nil_append, ne_eq, true_and, and_true, and_self, not_true_eq_false, not_false_eq_true, true_implies, false_implies, reduceCtorEq]
        · obtain ⟨t6, t7⟩ := t5 c1
          have c3 : 0 < m' 123 21 := by omega
          by_cases c2 : what = 0 <;> simp (config := { decide := true }) only [c0, c1, c2, c3, t6, t7, Int.reduceEq, true_or, or_true, false_or, or_false, false_and, and_false, if_true, if_false, km_sr_sf, km_sr_of, km_up_of, km_sr_us, km_sr_uo, km_sr_sr, km_sr_fl, km_sr_flo, km_up_up, km_up_lt, km_lay, km_unL, km_up_o, km_upx_i, km_upx_s, km_fl2_o, km_is, Option.some.injEq, Sum.inl.injEq, Sum.inr.injEq, Option.toList_some, Option.toList_none, List.cons_append, List.nil_append, ne_eq, true_and, and_true, and_self, not_true_eq_false, not_false_eq_true, true_implies, false_implies, reduceCtorEq]
    · have y3 : 3 ≤ what := by omega
      obtain ⟨m', j1, hF⟩ := @md_over q c s (kq_m2 (kq_m1 mm n)) _ _ _ _ n a b what (by omega) w1 w2 sm (fun w hw hW => kn_T_b w1 w2 hw hW ⟨v2.1, by omega⟩ ⟨v3.1, by omega⟩) (by omega) (by omega) Q (km_shl 1 (kn_m3 (km_read n m) 52 3)).toNat 0 (0, 0, -1) (kq_m2 (kq_m1 mm n)) (by omega) (by
        have : 0 < 2 ^ (kn_m3 (km_read n m) 52 3).toNat := Nat.two_pow_pos _
        rw [ks_one w2.1.1 (by have := w2.1; omega)]; omega) (fun _ _ _ _ _ => rfl) (by
        have h2 : 2 ^ (kn_m3 (km_read n m) 52 3).toNat ≤ 2 ^ 6 := Nat.pow_le_pow_right (by decide) (by have := w2.1; omega)
        rw [ks_one w2.1.1 (by have := w2.1; omega)]; dsimp only; omega) (by
        have h2 : 2 ^ (kn_m3 (km_read n m) 52 3).toNat ≤ 2 ^ 6 := Nat.pow_le_pow_right (by decide) (by have := w2.1; omega)
        rw [ks_one w2.1.1 (by have := w2.1; omega)]; dsimp only; omega) (by dsimp only; omega)
      · refine ⟨m', jM m' j1, (kj_M_row j1 (by decide) (by decide) (by decide)).trans r52, ?_⟩
        rw [if_pos v, kn_ans, if_neg y, km_E.of (by decide)]
        show km_G M_X12_near 0 [some (.inr (.inr 123)), some (.inl n), some (.inl a), some (.inl b), some (.inl what), none, none, none, none] [] (km_A0 q c s) mm _ ↔ _
        simp (config := { decide := true }) only [g_X12_near, r_misKin, E3, E5, v2, v3, x1, x3, x4, x5, rk, rf, y3, hF, true_or, or_true, false_or, or_false, false_and, and_false, if_true, if_false, km_sr_sf, km_sr_of, km_up_of, km_sr_us, km_sr_uo, km_sr_sr, km_sr_fl, km_sr_flo, km_up_up, km_up_lt, km_lay, km_unL, km_up_o, km_upx_i, km_upx_s, km_fl2_o, km_is, Option.some.injEq, Sum.inl.injEq, Sum.inr.injEq, Option.toList_some, Option.toList_none, List.cons_append, List.nil_append, ne_eq, true_and, and_true, and_self, not_true_eq_false, not_false_eq_true, true_implies, false_implies, reduceCtorEq]
  · refine ⟨km_up mm 123 2 0, fun b j h => ?_, by simp (config := { decide := true }) only [true_or, or_true, false_or, or_false, false_and, and_false, if_true, if_false, km_sr_sf, km_sr_of, km_up_of, km_sr_us, km_sr_uo, km_sr_sr, km_sr_fl, km_sr_flo, km_up_up, km_up_lt, km_lay, km_unL, km_up_o, km_upx_i, km_upx_s, km_fl2_o, km_is, Option.some.injEq, Sum.inl.injEq, Sum.inr.injEq, Option.toList_some, Option.toList_none, List.cons_append, List.nil_append, ne_eq, true_and, and_true, and_self, not_true_eq_false, not_false_eq_true, true_implies, false_implies, reduceCtorEq], ?_⟩
    · unfold km_up; unfold kJ at h; grind
    · rw [if_neg v, km_E.of (by decide)]
      show km_G M_X12_near 0 [some (.inr (.inr 123)), some (.inl n), some (.inl a), some (.inl b), some (.inl what), none, none, none, none] [] (km_A0 q c s) mm _ ↔ _
      by_cases v1 : n < 0 <;> by_cases v2 : m 5 3 < n <;> by_cases v3 : 0 ≤ a ∧ a < m 5 1 <;> by_cases v4 : 0 ≤ b ∧ b < m 5 1 <;> by_cases v5 : what < 0 <;> by_cases v6 : what ≤ 5 <;> simp (config := { decide := true }) only [g_X12_near, r_misKin, E3, E5, v1, v2, v3, v4, v5, v6, true_or, or_true, false_or, or_false, false_and, and_false, if_true, if_false, km_sr_sf, km_sr_of, km_up_of, km_sr_us, km_sr_uo, km_sr_sr, km_sr_fl, km_sr_flo, km_up_up, km_up_lt, km_lay, km_unL, km_up_o, km_upx_i, km_upx_s, km_fl2_o, km_is, Option.some.injEq, Sum.inl.injEq, Sum.inr.injEq, Option.toList_some, Option.toList_none, List.cons_append, List.nil_append, ne_eq, true_and, and_true, and_self, not_true_eq_false, not_false_eq_true, true_implies, false_implies, reduceCtorEq]
      exact absurd ⟨by omega, v3, v4, by omega, v6⟩ v

