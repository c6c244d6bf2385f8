/-! ===== Ancestry: near for sure and over all worlds ===== -/
/-- m' is m but for what Ancestry scratches in a world -/
def kj_A (m m' : km_Mm) : Prop := ∀ b j : Int, b ≠ 56 → b ≠ 57 → b ≠ 58 → ¬ (b = 52 ∧ 7 ≤ j ∧ j ≤ 9) → m' b j = m b j
theorem kj_A_row {m m' : km_Mm} (h : kj_A m m') {b : Int} (h1 : b ≠ 56) (h2 : b ≠ 57) (h3 : b ≠ 58) (h4 : b ≠ 52) : m' b = m b := by funext j; exact h b j h1 h2 h3 (fun q => h4 q.1)
theorem cl_enter {q : Nat × Int × Int × Int × Int} {c s : Nat} {m m' : km_Mm} {w : Int} (hg : kf_good (m 53) (m 54) (m 55) (m 52 3)) (hs : ∀ a : Int, 0 ≤ a → a < 10 → ten (m 53 a)) (hj : kj_A m m') (Q : Option km_V → km_Al → km_Mm → Prop) :
    ∃ P : Int → Int, (∀ a : Int, 0 ≤ a → a < 10 → P a = (kn_ent w (m 54) (m 55) (m 52 3).toNat 0 (m 53)).2 a) ∧ (km_E M_X0_enter [.inr (.inr 52), .inl w] (km_A0 q c s) m' Q ↔ Q (some (.inl (if kn_W (m 53) (m 54) (m 55) (m 52 3) w = true then 1 else 0))) (km_A0 q c s) (km_sr m' 56 P)) := by
  have e3 : m' 52 3 = m 52 3 := hj 52 3 (by decide) (by decide) (by decide) (by omega)
  have e53 := kj_A_row hj (b := 53) (by decide) (by decide) (by decide) (by decide)
  have e54 := kj_A_row hj (b := 54) (by decide) (by decide) (by decide) (by decide)
  have e55 := kj_A_row hj (b := 55) (by decide) (by decide) (by decide) (by decide)
  obtain ⟨g0, g1, -, -, -⟩ := hg
  have h := @sp_enter q c s w m' (by rw [e3]; exact g0) (by rw [e3, e54, e55]; exact g1) (by rw [e53]; exact hs) Q
  rw [e3, e53, e54, e55] at h
  obtain ⟨k1, k2⟩ := kn_ent_cong (w := w) (A := m 54) (B := m 55) (k := m 52 3) (fun i a b => (g1 i a b).1) (m 52 3).toNat 0 (fun j => if 0 ≤ j ∧ j < 10 then m 53 j else m' 56 j) (m 53) (by omega) (by omega) (fun a a0 a1 => by rw [if_pos ⟨a0, a1⟩])
  refine ⟨_, k2, ?_⟩
  rw [h, k1]
  exact Iff.rfl
theorem cl_find {q : Nat × Int × Int × Int × Int} {c s : Nat} {m m' : km_Mm} {w a b : Int} {P : Int → Int} (hf : ∀ a : Int, 0 ≤ a → a < 10 → ten (m 53 a) ∧ ∀ x : Int, 0 ≤ x → tb (m 53 a) x = true → x < a) (hg : kf_good (m 53) (m 54) (m 55) (m 52 3)) (hw : 0 ≤ w ∧ w < 2147483648) (hW : kn_W (m 53) (m 54) (m 55) (m 52 3) w = true) (ha : 0 ≤ a ∧ a < 10) (hb : 0 ≤ b ∧ b < 10)
    (hP : ∀ a : Int, 0 ≤ a → a < 10 → P a = (kn_ent w (m 54) (m 55) (m 52 3).toNat 0 (m 53)).2 a) (hj : kj_A m m') (hu : 0 ≤ m' 52 7 ∧ m' 52 7 ≤ 20) (hd : 0 ≤ m' 52 8 ∧ m' 52 8 ≤ 20) :
    ∃ m'' : km_Mm, kj_A m m'' ∧ (0 ≤ m'' 52 7 ∧ m'' 52 7 ≤ 20) ∧ (0 ≤ m'' 52 8 ∧ m'' 52 8 ≤ 20) ∧ kn_eq (m'' 52 7, m'' 52 8, m'' 52 9) (kn_T (m 53) (m 54) (m 55) (m 52 3) a b w) ∧
      ∀ Q : Option km_V → km_Al → km_Mm → Prop, (km_E M_X0_findNear [.inr (.inr 52), .inl a, .inl b] (km_A0 q c s) (km_sr m' 56 P) Q ↔ Q none (km_A0 q c s) m'') := by
  obtain ⟨s1, s2, s3⟩ := kn_T_spec (u := m' 52 7) (d := m' 52 8) (P := P) (g := fun j => if 0 ≤ j ∧ j < 10 then -1 else m' 57 j) (h := fun j => if 0 ≤ j ∧ j < 10 then -1 else m' 58 j) hf hg hw hW ha hb hu hd hP (fun x p r => by rw [if_pos ⟨p, r⟩]) (fun x p r => by rw [if_pos ⟨p, r⟩])
  have h := @sp_findNear q c s a b (km_sr m' 56 P) (by simp (config := { decide := true }) only [true_or, or_true, false_or, or_false, false_and, and_false, if_true, if_false, km_sr_sf, km_sr_of, km_up_of, km_sr_us, km_sr_uo, km_sr_sr, km_sr_fl, km_sr_flo, km_up_up, km_up_lt, km_lay, km_unL, km_up_o, km_upx_i, km_upx_s, km_fl2_o, km_is, Option.some.injEq, Sum.inl.injEq, Sum.inr.injEq, Option.toList_some, Option.toList_none, List.cons_append, List.nil_append, ne_eq, true_and, and_true, and_self, not_true_eq_false, not_false_eq_true, true_implies, false_implies, reduceCtorEq]; exact hu) (by simp (config := { decide := true }) only [true_or, or_true, false_or, or_false, false_and, and_false, if_true, if_false, km_sr_sf, km_sr_of, km_up_of, km_sr_us, km_sr_uo, km_sr_sr, km_sr_fl, km_sr_flo, km_up_up, km_up_lt, km_lay, km_unL, km_up_o, km_upx_i, km_upx_s, km_fl2_o, km_is, Option.some.injEq, Sum.inl.injEq, Sum.inr.injEq, Option.toList_some, Option.toList_none, List.cons_append, List.nil_append, ne_eq, true_and, and_true, and_self, not_true_eq_false, not_false_eq_true, true_implies, false_implies, reduceCtorEq]; exact hd) _ _ rfl rfl (by simp (config := { decide := true }) only [true_or, or_true, false_or, or_false, false_and, and_false, if_true, if_false, km_sr_sf, km_sr_of, km_up_of, km_sr_us, km_sr_uo, km_sr_sr, km_sr_fl, km_sr_flo, km_up_up, km_up_lt, km_lay, km_unL, km_up_o, km_upx_i, km_upx_s, km_fl2_o, km_is, Option.some.injEq, Sum.inl.injEq, Sum.inr.injEq, Option.toList_some, Option.toList_none, List.cons_append, List.nil_append, ne_eq, true_and, and_true, and_self, not_true_eq_false, not_false_eq_true, true_implies, false_implies, reduceCtorEq]; exact s1) (by simp (config := { decide := true }) only [true_or, or_true, false_or, or_false, false_and, and_false, if_true, if_false, km_sr_sf, km_sr_of, km_up_of, km_sr_us, km_sr_uo, km_sr_sr, km_sr_fl, km_sr_flo, km_up_up, km_up_lt, km_lay, km_unL, km_up_o, km_upx_i, km_upx_s, km_fl2_o, km_is, Option.some.injEq, Sum.inl.injEq, Sum.inr.injEq, Option.toList_some, Option.toList_none, List.cons_append, List.nil_append, ne_eq, true_and, and_true, and_self, not_true_eq_false, not_false_eq_true, true_implies, false_implies, reduceCtorEq]; exact s2)
  simp (config := { decide := true }) only [true_or, or_true, false_or, or_false, false_and, and_false, if_true, if_false, km_sr_sf, km_sr_of, km_up_of, km_sr_us, km_sr_uo, km_sr_sr, km_sr_fl, km_sr_flo, km_up_up, km_up_lt, km_lay, km_unL, km_up_o, km_upx_i, km_upx_s, km_fl2_o, km_is, Option.some.injEq, Sum.inl.injEq, Sum.inr.injEq, Option.toList_some, Option.toList_none, List.cons_append, List.nil_append, ne_eq, true_and, and_true, and_self, not_true_eq_false, not_false_eq_true, true_implies, false_implies, reduceCtorEq] at h
  generalize hU : kn_cl2 P 10 0 (km_shl 1 a) (fun j => if 0 ≤ j ∧ j < 10 then -1 else m' 57 j) = U at *
  generalize hD : kn_cl2 P 10 0 (km_shl 1 b) (fun j => if 0 ≤ j ∧ j < 10 then -1 else m' 58 j) = D at *
  have hb := kn_fn_b s1 s2 10 0 (m' 52 7, m' 52 8, 0) (by omega) (by omega) hu hd
  generalize hT : kn_fn U D 10 0 (m' 52 7, m' 52 8, 0) = t at *
  refine ⟨_, ?_, ?_, ?_, ?_, h⟩
  · intro b j b1 b2 b3 b4
    rw [km_sr_o b3, km_sr_o b2, km_sr_o b1]
    have : ∀ i v : Int, 7 ≤ i → i ≤ 9 → ∀ mm : km_Mm, km_up mm 52 i v b j = mm b j := fun i v i0 i1 mm => by unfold km_up; by_cases e : b = 52; rw [if_pos e, if_neg (fun q => b4 ⟨e, by omega, by omega⟩)]; rw [if_neg e]
    rw [this 9 _ (by decide) (by decide), this 8 _ (by decide) (by decide), this 7 _ (by decide) (by decide)]
    exact hj b j b1 b2 b3 b4
  · simp (config := { decide := true }) only [true_or, or_true, false_or, or_false, false_and, and_false, if_true, if_false, km_sr_sf, km_sr_of, km_up_of, km_sr_us, km_sr_uo, km_sr_sr, km_sr_fl, km_sr_flo, km_up_up, km_up_lt, km_lay, km_unL, km_up_o, km_upx_i, km_upx_s, km_fl2_o, km_is, Option.some.injEq, Sum.inl.injEq, Sum.inr.injEq, Option.toList_some, Option.toList_none, List.cons_append, List.nil_append, ne_eq, true_and, and_true, and_self, not_true_eq_false, not_false_eq_true, true_implies, false_implies, reduceCtorEq]; exact hb.1
  · simp (config := { decide := true }) only [true_or, or_true, false_or, or_false, false_and, and_false, if_true, if_false, km_sr_sf, km_sr_of, km_up_of, km_sr_us, km_sr_uo, km_sr_sr, km_sr_fl, km_sr_flo, km_up_up, km_up_lt, km_lay, km_unL, km_up_o, km_upx_i, km_upx_s, km_fl2_o, km_is, Option.some.injEq, Sum.inl.injEq, Sum.inr.injEq, Option.toList_some, Option.toList_none, List.cons_append, List.nil_append, ne_eq, true_and, and_true, and_self, not_true_eq_false, not_false_eq_true, true_implies, false_implies, reduceCtorEq]; exact hb.2
  · simp (config := { decide := true }) only [true_or, or_true, false_or, or_false, false_and, and_false, if_true, if_false, km_sr_sf, km_sr_of, km_up_of, km_sr_us, km_sr_uo, km_sr_sr, km_sr_fl, km_sr_flo, km_up_up, km_up_lt, km_lay, km_unL, km_up_o, km_upx_i, km_upx_s, km_fl2_o, km_is, Option.some.injEq, Sum.inl.injEq, Sum.inr.injEq, Option.toList_some, Option.toList_none, List.cons_append, List.nil_append, ne_eq, true_and, and_true, and_self, not_true_eq_false, not_false_eq_true, true_implies, false_implies, reduceCtorEq]; exact s3
theorem cl_over {q : Nat × Int × Int × Int × Int} {c s : Nat} {m : km_Mm} {a b what : Int} (hf : ∀ a : Int, 0 ≤ a → a < 10 → ten (m 53 a) ∧ ∀ x : Int, 0 ≤ x → tb (m 53 a) x = true → x < a) (hg : kf_good (m 53) (m 54) (m 55) (m 52 3)) (ha : 0 ≤ a ∧ a < 10) (hb : 0 ≤ b ∧ b < 10) (Q : Option km_V → km_Al → km_Mm → Prop) :
    ∀ (n : Nat) (w : Int) (r : Int × Int × Int) (m' : km_Mm), 0 ≤ w → w + n = km_shl 1 (m 52 3) → kj_A m m' → (0 ≤ m' 52 7 ∧ m' 52 7 ≤ 20) → (0 ≤ m' 52 8 ∧ m' 52 8 ≤ 20) → (0 ≤ r.1 ∧ r.1 + n ≤ 100) → (0 ≤ r.2.1 ∧ r.2.1 + n ≤ 100) → (-1 ≤ r.2.2 ∧ r.2.2 ≤ 40) →
    ∃ m'' : km_Mm, kj_A m m'' ∧ (0 ≤ m'' 52 7 ∧ m'' 52 7 ≤ 20) ∧ (0 ≤ m'' 52 8 ∧ m'' 52 8 ≤ 20) ∧
      (km_G M_X0_overWorlds 12 [some (.inr (.inr 52)), some (.inl a), some (.inl b), some (.inl what), some (.inl r.1), some (.inl r.2.1), some (.inl r.2.2), some (.inl w)] [] (km_A0 q c s) m' Q ↔
        Q (some (.inl (kn_an (kn_ow (kn_W (m 53) (m 54) (m 55) (m 52 3)) (kn_T (m 53) (m 54) (m 55) (m 52 3) a b) n w r) what))) (km_A0 q c s) m'') := by
  have hk := hg.1
  have hks : 1 ≤ km_shl 1 (m 52 3) ∧ km_shl 1 (m 52 3) ≤ 64 := by
    rw [ks_one hk.1 (by omega)]
    have h1 : 0 < 2 ^ (m 52 3).toNat := Nat.two_pow_pos _
    have h2 : 2 ^ (m 52 3).toNat ≤ 2 ^ 6 := Nat.pow_le_pow_right (by decide) (by omega)
    generalize 2 ^ (m 52 3).toNat = z at *
    omega
  intro n
  induction n with
  | zero =>
    intro w r m' h0 h1 hj hu hd r1 r2 r3
    refine ⟨m', hj, hu, hd, ?_⟩
    have e3 : m' 52 3 = m 52 3 := hj 52 3 (by decide) (by decide) (by decide) (by omega)
    have e : km_shl 1 (m 52 3) ≤ w := by omega
    rw [g_X0_overWorlds_12]
    simp (config := { decide := true }) only [g_X0_overWorlds, e3, e, kn_ow, kn_an, true_or, or_true, false_or, or_false, false_and, and_false, if_true, if_false, km_sr_sf, km_sr_of, km_up_of, km_sr_us, km_sr_uo, km_sr_sr, km_sr_fl, km_sr_flo, km_up_up, km_up_lt, km_lay, km_unL, km_up_o, km_upx_i, km_upx_s, km_fl2_o, km_is, Option.some.injEq, Sum.inl.injEq, Sum.inr.injEq, Option.toList_some, Option.toList_none, List.cons_append, List.nil_append, ne_eq, true_and, and_true, and_self, not_true_eq_false, not_false_eq_true, true_implies, false_implies, reduceCtorEq]
    by_cases c0 : what = 3 <;> by_cases c1 : what = 4 <;> simp (config := { decide := true }) only [c0, c1, true_or, or_true, false_or, or_false, false_and, and_false, if_true, if_false, km_sr_sf, km_sr_of, km_up_of, km_sr_us, km_sr_uo, km_sr_sr, km_sr_fl, km_sr_flo, km_up_up, km_up_lt, km_lay, km_unL, km_up_o, km_upx_i, km_upx_s, km_fl2_o, km_is, Option.some.injEq, Sum.inl.injEq, Sum.inr.injEq, Option.toList_some, Option.toList_none, List.cons_append, List.nil_append, ne_eq, true_and, and_true, and_self, not_true_eq_false, not_false_eq_true, true_implies, false_implies, reduceCtorEq]
  | succ n ih =>
    intro w r m' h0 h1 hj hu hd r1 r2 r3
    have e3 : m' 52 3 = m 52 3 := hj 52 3 (by decide) (by decide) (by decide) (by omega)
    have e : ¬ km_shl 1 (m 52 3) ≤ w := by omega
    have hw : 0 ≤ w ∧ w < 2147483648 := by omega
    have wl : -2147483648 ≤ w + 1 ∧ w + 1 ≤ 2147483647 := by omega
    have rl : -2147483648 ≤ r.1 + 1 ∧ r.1 + 1 ≤ 2147483647 := by omega
    have rl2 : -2147483648 ≤ r.2.1 + 1 ∧ r.2.1 + 1 ≤ 2147483647 := by omega
    unfold kn_ow
    by_cases hW : kn_W (m 53) (m 54) (m 55) (m 52 3) w = true
    · obtain ⟨P, hP, hE⟩ := @cl_enter q c s m m' w hg (fun a p r => (hf a p r).1) hj (fun v A' m'' => km_G M_X0_overWorlds 29 [some (.inr (.inr 52)), some (.inl a), some (.inl b), some (.inl what), some (.inl r.1), some (.inl r.2.1), some (.inl r.2.2), some (.inl w)] (v.toList ++ []) A' m'' Q)
      obtain ⟨m2, j2, u2, d2, t2, hF⟩ := @cl_find q c s m m' w a b P hf hg hw hW ha hb hP hj hu hd
      obtain ⟨t3, t4, t5⟩ := t2
      dsimp only at t3 t4 t5
      by_cases y : 0 < (kn_T (m 53) (m 54) (m 55) (m 52 3) a b w).2.2
      · obtain ⟨t6, t7⟩ := t5 (by omega)
        rw [if_pos hW, if_pos y]
        have y1 : ¬ m2 52 9 ≤ 0 := by omega
        by_cases z : r.2.2 = -1
        · rw [if_pos z, ← t6, ← t7]
          obtain ⟨m3, j3, u3, d3, k3⟩ := ih (w + 1) (r.1 + 1, r.2.1 + 1, m2 52 7 + m2 52 8) m2 (by omega) (by omega) j2 u2 d2 (by dsimp only; omega) (by dsimp only; omega) (by dsimp only; omega)
          refine ⟨m3, j3, u3, d3, ?_⟩
          rw [← k3, g_X0_overWorlds_12]
          have sl : -2147483648 ≤ m2 52 7 + m2 52 8 ∧ m2 52 7 + m2 52 8 ≤ 2147483647 := by omega
          simp (config := { decide := true }) only [g_X0_overWorlds, e3, e, hE, hW, hF, y1, wl, rl, rl2, sl, true_or, or_true, false_or, or_false, false_and, and_false, if_true, if_false, km_sr_sf, km_sr_of, km_up_of, km_sr_us, km_sr_uo, km_sr_sr, km_sr_fl, km_sr_flo, km_up_up, km_up_lt, km_lay, km_unL, km_up_o, km_upx_i, km_upx_s, km_fl2_o, km_is, Option.some.injEq, Sum.inl.injEq, Sum.inr.injEq, Option.toList_some, Option.toList_none, List.cons_append, List.nil_append, ne_eq, true_and, and_true, and_self, not_true_eq_false, not_false_eq_true, true_implies, false_implies, reduceCtorEq]
          simp (config := { decide := true }) only [z, true_or, or_true, false_or, or_false, false_and, and_false, if_true, if_false, km_sr_sf, km_sr_of, km_up_of, km_sr_us, km_sr_uo, km_sr_sr, km_sr_fl, km_sr_flo, km_up_up, km_up_lt, km_lay, km_unL, km_up_o, km_upx_i, km_upx_s, km_fl2_o, km_is, Option.some.injEq, Sum.inl.injEq, Sum.inr.injEq, Option.toList_some, Option.toList_none, List.cons_append, List.nil_append, ne_eq, true_and, and_true, and_self, not_true_eq_false, not_false_eq_true, true_implies, false_implies, reduceCtorEq]
        · rw [if_neg z, ← t6, ← t7]
          obtain ⟨m3, j3, u3, d3, k3⟩ := ih (w + 1) (r.1 + 1, r.2.1 + 1, if m2 52 7 + m2 52 8 < r.2.2 then m2 52 7 + m2 52 8 else r.2.2) m2 (by omega) (by omega) j2 u2 d2 (by dsimp only; omega) (by dsimp only; omega) (by dsimp only; split <;> omega)
          refine ⟨m3, j3, u3, d3, ?_⟩
          rw [← k3, g_X0_overWorlds_12]
          have sl : -2147483648 ≤ m2 52 7 + m2 52 8 ∧ m2 52 7 + m2 52 8 ≤ 2147483647 := by omega
          simp (config := { decide := true }) only [g_X0_overWorlds, e3, e, hE, hW, hF, y1, z, wl, rl, rl2, sl, true_or, or_true, false_or, or_false, false_and, and_false, if_true, if_false, km_sr_sf, km_sr_of, km_up_of, km_sr_us, km_sr_uo, km_sr_sr, km_sr_fl, km_sr_flo, km_up_up, km_up_lt, km_lay, km_unL, km_up_o, km_upx_i, km_upx_s, km_fl2_o, km_is, Option.some.injEq, Sum.inl.injEq, Sum.inr.injEq, Option.toList_some, Option.toList_none, List.cons_append, List.nil_append, ne_eq, true_and, and_true, and_self, not_true_eq_false, not_false_eq_true, true_implies, false_implies, reduceCtorEq]
      · rw [if_pos hW, if_neg y]
        obtain ⟨m3, j3, u3, d3, k3⟩ := ih (w + 1) (r.1 + 1, r.2.1, r.2.2) m2 (by omega) (by omega) j2 u2 d2 (by dsimp only; omega) (by dsimp only; omega) r3
        refine ⟨m3, j3, u3, d3, ?_⟩
        have y1 : m2 52 9 ≤ 0 := by omega
        rw [← k3, g_X0_overWorlds_12]
        simp (config := { decide := true }) only [g_X0_overWorlds, e3, e, hE, hW, hF, y1, wl, rl, true_or, or_true, false_or, or_false, false_and, and_false, if_true, if_false, km_sr_sf, km_sr_of, km_up_of, km_sr_us, km_sr_uo, km_sr_sr, km_sr_fl, km_sr_flo, km_up_up, km_up_lt, km_lay, km_unL, km_up_o, km_upx_i, km_upx_s, km_fl2_o, km_is, Option.some.injEq, Sum.inl.injEq, Sum.inr.injEq, Option.toList_some, Option.toList_none, List.cons_append, List.nil_append, ne_eq, true_and, and_true, and_self, not_true_eq_false, not_false_eq_true, true_implies, false_implies, reduceCtorEq]
    · rw [if_neg hW]
      obtain ⟨P, hP, hE⟩ := @cl_enter q c s m m' w hg (fun a p r => (hf a p r).1) hj (fun v A' m'' => km_G M_X0_overWorlds 29 [some (.inr (.inr 52)), some (.inl a), some (.inl b), some (.inl what), some (.inl r.1), some (.inl r.2.1), some (.inl r.2.2), some (.inl w)] (v.toList ++ []) A' m'' Q)
      have j2 : kj_A m (km_sr m' 56 P) := fun b j b1 b2 b3 b4 => by rw [km_sr_o b1]; exact hj b j b1 b2 b3 b4
      obtain ⟨m3, j3, u3, d3, k3⟩ := ih (w + 1) r (km_sr m' 56 P) (by omega) (by omega) j2 (by simp (config := { decide := true }) only [true_or, or_true, false_or, or_false, false_and, and_false, if_true, if_false, km_sr_sf, km_sr_of, km_up_of, km_sr_us, km_sr_uo, km_sr_sr, km_sr_fl, km_sr_flo, km_up_up, km_up_lt, km_lay, km_unL, km_up_o, km_upx_i, km_upx_s, km_fl2_o, km_is, Option.some.injEq, Sum.inl.injEq, Sum.inr.injEq, Option.toList_some, Option.toList_none, List.cons_append, List.nil_append, ne_eq, true_and, and_true, and_self, not_true_eq_false, not_false_eq_true, true_implies, false_implies, reduceCtorEq]; exact hu) (by simp (config := { decide := true }) only [true_or, or_true, false_or, or_false, false_and, and_false, if_true, if_false, km_sr_sf, km_sr_of, km_up_of, km_sr_us, km_sr_uo, km_sr_sr, km_sr_fl, km_sr_flo, km_up_up, km_up_lt, km_lay, km_unL, km_up_o, km_upx_i, km_upx_s, km_fl2_o, km_is, Option.some.injEq, Sum.inl.injEq, Sum.inr.injEq, Option.toList_some, Option.toList_none, List.cons_append, List.nil_append, ne_eq, true_and, and_true, and_self, not_true_eq_false, not_false_eq_true, true_implies, false_implies, reduceCtorEq]; exact hd) (by omega) (by omega) r3
      refine ⟨m3, j3, u3, d3, ?_⟩
      rw [← k3, g_X0_overWorlds_12]
      simp (config := { decide := true }) only [g_X0_overWorlds, e3, e, hE, hW, wl, true_or, or_true, false_or, or_false, false_and, and_false, if_true, if_false, km_sr_sf, km_sr_of, km_up_of, km_sr_us, km_sr_uo, km_sr_sr, km_sr_fl, km_sr_flo, km_up_up, km_up_lt, km_lay, km_unL, km_up_o, km_upx_i, km_upx_s, km_fl2_o, km_is, Option.some.injEq, Sum.inl.injEq, Sum.inr.injEq, Option.toList_some, Option.toList_none, List.cons_append, List.nil_append, ne_eq, true_and, and_true, and_self, not_true_eq_false, not_false_eq_true, true_implies, false_implies, reduceCtorEq]
theorem cl_sure {q : Nat × Int × Int × Int × Int} {c s : Nat} {m : km_Mm} {a b what : Int} (hf : ∀ a : Int, 0 ≤ a → a < 10 → ten (m 53 a) ∧ ∀ x : Int, 0 ≤ x → tb (m 53 a) x = true → x < a) (hg : kf_good (m 53) (m 54) (m 55) (m 52 3)) (ha : 0 ≤ a ∧ a < 10) (hb : 0 ≤ b ∧ b < 10) (hu : 0 ≤ m 52 7 ∧ m 52 7 ≤ 20) (hd : 0 ≤ m 52 8 ∧ m 52 8 ≤ 20) (Q : Option km_V → km_Al → km_Mm → Prop) :
    ∃ m'' : km_Mm, kj_A m m'' ∧ (0 ≤ m'' 52 7 ∧ m'' 52 7 ≤ 20) ∧ (0 ≤ m'' 52 8 ∧ m'' 52 8 ≤ 20) ∧
      (km_E M_X0_sureNear [.inr (.inr 52), .inl a, .inl b, .inl what] (km_A0 q c s) m Q ↔ Q (some (.inl (kn_sn (kn_T (m 53) (m 54) (m 55) (m 52 3) a b) what))) (km_A0 q c s) m'') := by
  have hW : kn_W (m 53) (m 54) (m 55) (m 52 3) 0 = true := by unfold kn_W; rw [kn_ent_0 _ _ _ (by omega) (by have := hg.1; omega)]
  have hj : kj_A m m := fun _ _ _ _ _ _ => rfl
  obtain ⟨P, hP, hE⟩ := @cl_enter q c s m m 0 hg (fun a p r => (hf a p r).1) hj (fun v A' m'' => km_G M_X0_sureNear 5 [some (.inr (.inr 52)), some (.inl a), some (.inl b), some (.inl what)] (v.toList ++ []) A' m'' Q)
  obtain ⟨m2, j2, u2, d2, t2, hF⟩ := @cl_find q c s m m 0 a b P hf hg (by omega) hW ha hb hP hj hu hd
  obtain ⟨t3, t4, t5⟩ := t2
  dsimp only at t3 t4 t5
  refine ⟨m2, j2, u2, d2, ?_⟩
  rw [km_E.of (by decide)]
  show km_G M_X0_sureNear 0 [some (.inr (.inr 52)), some (.inl a), some (.inl b), some (.inl what)] [] (km_A0 q c s) m _ ↔ _
  simp (config := { decide := true }) only [g_X0_sureNear, hE, hF, kn_sn, true_or, or_true, false_or, or_false, false_and, and_false, if_true, if_false, km_sr_sf, km_sr_of, km_up_of, km_sr_us, km_sr_uo, km_sr_sr, km_sr_fl, km_sr_flo, km_up_up, km_up_lt, km_lay, km_unL, km_up_o, km_upx_i, km_upx_s, km_fl2_o, km_is, Option.some.injEq, Sum.inl.injEq, Sum.inr.injEq, Option.toList_some, Option.toList_none, List.cons_append, List.nil_append, ne_eq, true_and, and_true, and_self, not_true_eq_false, not_false_eq_true, true_implies, false_implies, reduceCtorEq]
  by_cases c0 : what = 2
  · simp (config := { decide := true }) only [c0, t4, true_or, or_true, false_or, or_false, false_and, and_false, if_true, if_false, km_sr_sf, km_sr_of, km_up_of, km_sr_us, km_sr_uo, km_sr_sr, km_sr_fl, km_sr_flo, km_up_up, km_up_lt, km_lay, km_unL, km_up_o, km_upx_i, km_upx_s, km_fl2_o, km_is, Option.some.injEq, Sum.inl.injEq, Sum.inr.injEq, Option.toList_some, Option.toList_none, List.cons_append, List.nil_append, ne_eq, true_and, and_true, and_self, not_true_eq_false, not_false_eq_true, true_implies, false_implies, reduceCtorEq]
  · by_cases c1 : m2 52 9 = 0
    · simp (config := { decide := true }) only [c0, c1, ← t4, true_or, or_true, false_or, or_false, false_and, and_false, if_true, if_false, km_sr_sf, km_sr_of, km_up_of, km_sr_us, km_sr_uo, km_sr_sr, km_sr_fl, km_sr_flo, km_up_up, km_up_lt, km_lay, km_unL, km_up_o, km_upx_i, km_upx_s, km_fl2_o, km_is, Option.some.injEq, Sum.inl.injEq, Sum.inr.injEq, Option.toList_some, Option.toList_none, List.cons_append, List.nil_append, ne_eq, true_and, and_true, and_self, not_true_eq_false, not_false_eq_true, true_implies, false_implies, reduceCtorEq]
    · obtain ⟨t6, t7⟩ := t5 c1
      by_cases c2 : what = 0 <;> simp (config := { decide := true }) only [c0, c1, c2, ← t4, ← t6, ← t7, true_or, or_true, false_or, or_false, false_and, and_false, if_true, if_false, km_sr_sf, km_sr_of, km_up_of, km_sr_us, km_sr_uo, km_sr_sr, km_sr_fl, km_sr_flo, km_up_up, km_up_lt, km_lay, km_unL, km_up_o, km_upx_i, km_upx_s, km_fl2_o, km_is, Option.some.injEq, Sum.inl.injEq, Sum.inr.injEq, Option.toList_some, Option.toList_none, List.cons_append, List.nil_append, ne_eq, true_and, and_true, and_self, not_true_eq_false, not_false_eq_true, true_implies, false_implies, reduceCtorEq]
theorem cl_worlds {q : Nat × Int × Int × Int × Int} {c s : Nat} {m : km_Mm} {a b what : Int} (hf : ∀ a : Int, 0 ≤ a → a < 10 → ten (m 53 a) ∧ ∀ x : Int, 0 ≤ x → tb (m 53 a) x = true → x < a) (hg : kf_good (m 53) (m 54) (m 55) (m 52 3)) (ha : 0 ≤ a ∧ a < 10) (hb : 0 ≤ b ∧ b < 10) (hu : 0 ≤ m 52 7 ∧ m 52 7 ≤ 20) (hd : 0 ≤ m 52 8 ∧ m 52 8 ≤ 20) (Q : Option km_V → km_Al → km_Mm → Prop) :
    ∃ m'' : km_Mm, kj_A m m'' ∧ (0 ≤ m'' 52 7 ∧ m'' 52 7 ≤ 20) ∧ (0 ≤ m'' 52 8 ∧ m'' 52 8 ≤ 20) ∧
      (km_E M_X0_overWorlds [.inr (.inr 52), .inl a, .inl b, .inl what] (km_A0 q c s) m Q ↔ Q (some (.inl (kn_an (kn_ow (kn_W (m 53) (m 54) (m 55) (m 52 3)) (kn_T (m 53) (m 54) (m 55) (m 52 3) a b) (km_shl 1 (m 52 3)).toNat 0 (0, 0, -1)) what))) (km_A0 q c s) m'') := by
  have hk := hg.1
  have hks : 1 ≤ km_shl 1 (m 52 3) ∧ km_shl 1 (m 52 3) ≤ 64 := by
    rw [ks_one hk.1 (by omega)]
    have h1 : 0 < 2 ^ (m 52 3).toNat := Nat.two_pow_pos _
    have h2 : 2 ^ (m 52 3).toNat ≤ 2 ^ 6 := Nat.pow_le_pow_right (by decide) (by omega)
    generalize 2 ^ (m 52 3).toNat = z at *
    omega
  obtain ⟨m2, j2, u2, d2, h⟩ := @cl_over q c s m a b what hf hg ha hb Q (km_shl 1 (m 52 3)).toNat 0 (0, 0, -1) m (by omega) (by omega) (fun _ _ _ _ _ _ => rfl) hu hd (by dsimp only; omega) (by dsimp only; omega) (by dsimp only; omega)
  refine ⟨m2, j2, u2, d2, ?_⟩
  rw [km_E.of (by decide)]
  show km_G M_X0_overWorlds 0 [some (.inr (.inr 52)), some (.inl a), some (.inl b), some (.inl what), none, none, none, none] [] (km_A0 q c s) m _ ↔ _
  simp (config := { decide := true }) only [g_X0_overWorlds, h, true_or, or_true, false_or, or_false, false_and, and_false, if_true, if_false, km_sr_sf, km_sr_of, km_up_of, km_sr_us, km_sr_uo, km_sr_sr, km_sr_fl, km_sr_flo, km_up_up, km_up_lt, km_lay, km_unL, km_up_o, km_upx_i, km_upx_s, km_fl2_o, km_is, Option.some.injEq, Sum.inl.injEq, Sum.inr.injEq, Option.toList_some, Option.toList_none, List.cons_append, List.nil_append, ne_eq, true_and, and_true, and_self, not_true_eq_false, not_false_eq_true, true_implies, false_implies, reduceCtorEq]

