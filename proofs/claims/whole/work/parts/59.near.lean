/-! ===== near in the reference ===== -/
theorem kq_c_r {w : Int} {pn pr A B : Int → Int} {mb : Int} : ∀ (n : Nat) (f : Int → Int), (n : Int) ≤ 10 → kb_r f → kb_r (kq_c w pn pr A B mb n f) := by
  intro n
  induction n with
  | zero => intro f _ h; exact h
  | succ n ih =>
    intro f h0 h
    unfold kq_c
    refine ih _ (by omega) ?_
    split
    · exact h
    · exact kq_b_r ⟨by omega, by omega⟩ _ _ _ (kq_a_r ⟨by omega, by omega⟩ _ _ _ h)
theorem kq_i_r135 {fr : Int} {f : Int → Int} : kb_r (kq_i_135 fr f 0) := by intro x x0 x1; unfold kq_i_135; rw [if_pos ⟨x0, x1⟩]; split <;> omega
theorem kq_i_r136 {fr : Int} {f : Int → Int} : kb_r (kq_i_136 fr f 0) := by intro x x0 x1; unfold kq_i_136; rw [if_pos ⟨x0, x1⟩]; split <;> omega
theorem r_nearest {q : Nat × Int × Int × Int × Int} {c s : Nat} {a b w : Int} {m : km_Mm} {U D : Int → Int} (h10 : 0 ≤ m 123 3 ∧ m 123 3 ≤ 10) (ha : 0 ≤ a ∧ a < 10) (hb : 0 ≤ b ∧ b < 10) (hk : 0 ≤ m 123 14 ∧ m 123 14 ≤ 6) (hB : ∀ i : Int, 0 ≤ i → i < m 123 14 → 0 ≤ m 134 i ∧ m 134 i < 10) (hp : ∀ y : Int, 0 ≤ y → y < 10 → (0 ≤ m 132 y ∧ m 132 y ≤ 2) ∧ ∀ i : Int, 0 ≤ i → i < m 132 y → 0 ≤ m 131 (2 * y + i) ∧ m 131 (2 * y + i) < 10)
    (eU : U = kq_c w (m 132) (m 131) (m 133) (m 134) (m 123 14) (a + 1).toNat (kq_i_135 a (m 135) 0)) (eD : D = kq_c w (m 132) (m 131) (m 133) (m 134) (m 123 14) (b + 1).toNat (kq_i_136 b (m 136) 0)) (Q : Option km_V → km_Al → km_Mm → Prop) :
    km_E M_X12_nearest [.inr (.inr 123), .inl a, .inl b, .inl w] (km_A0 q c s) m Q ↔ Q (some (.inl (if 0 < (kq_fn U D (m 123 3).toNat 0 (1000000, 1000000, 0)).2.2 then 1 else 0))) (km_A0 q c s) (km_up (km_up (km_up (km_sr (km_sr m 135 U) 136 D) 123 19 (kq_fn U D (m 123 3).toNat 0 (1000000, 1000000, 0)).1) 123 20 (kq_fn U D (m 123 3).toNat 0 (1000000, 1000000, 0)).2.1) 123 21 (kq_fn U D (m 123 3).toNat 0 (1000000, 1000000, 0)).2.2) := by
  have rU : kb_r U := by rw [eU]; exact kq_c_r _ _ (by omega) kq_i_r135
  have rD : kb_r D := by rw [eD]; exact kq_c_r _ _ (by omega) kq_i_r136
  rw [km_E.of (by decide)]
  show km_G M_X12_nearest 0 [some (.inr (.inr 123)), some (.inl a), some (.inl b), some (.inl w), none, none, none] [] (km_A0 q c s) m _ ↔ _
  have h := @lp_nearest_40 q c s a b w (km_sr (km_sr m 135 U) 136 D) (by simp (config := { decide := true }) only [true_or, or_true, false_or, or_false, false_and, and_false, if_true, if_false, km_sr_sf, km_sr_of, km_up_of, km_sr_us, km_sr_uo, km_sr_sr, km_sr_fl, km_sr_flo, km_up_up, km_up_lt, km_lay, km_unL, km_up_o, km_upx_i, km_upx_s, km_fl2_o, km_is, Option.some.injEq, Sum.inl.injEq, Sum.inr.injEq, Option.toList_some, Option.toList_none, List.cons_append, List.nil_append, ne_eq, true_and, and_true, and_self, not_true_eq_false, not_false_eq_true, true_implies, false_implies, reduceCtorEq]; exact h10.2) (by simp (config := { decide := true }) only [true_or, or_true, false_or, or_false, false_and, and_false, if_true, if_false, km_sr_sf, km_sr_of, km_up_of, km_sr_us, km_sr_uo, km_sr_sr, km_sr_fl, km_sr_flo, km_up_up, km_up_lt, km_lay, km_unL, km_up_o, km_upx_i, km_upx_s, km_fl2_o, km_is, Option.some.injEq, Sum.inl.injEq, Sum.inr.injEq, Option.toList_some, Option.toList_none, List.cons_append, List.nil_append, ne_eq, true_and, and_true, and_self, not_true_eq_false, not_false_eq_true, true_implies, false_implies, reduceCtorEq]; exact rU) (by simp (config := { decide := true }) only [true_or, or_true, false_or, or_false, false_and, and_false, if_true, if_false, km_sr_sf, km_sr_of, km_up_of, km_sr_us, km_sr_uo, km_sr_sr, km_sr_fl, km_sr_flo, km_up_up, km_up_lt, km_lay, km_unL, km_up_o, km_upx_i, km_upx_s, km_fl2_o, km_is, Option.some.injEq, Sum.inl.injEq, Sum.inr.injEq, Option.toList_some, Option.toList_none, List.cons_append, List.nil_append, ne_eq, true_and, and_true, and_self, not_true_eq_false, not_false_eq_true, true_implies, false_implies, reduceCtorEq]; exact rD) Q (m 123 3).toNat 0 1000000 1000000 0 none none (by omega) (by simp (config := { decide := true }) only [true_or, or_true, false_or, or_false, false_and, and_false, if_true, if_false, km_sr_sf, km_sr_of, km_up_of, km_sr_us, km_sr_uo, km_sr_sr, km_sr_fl, km_sr_flo, km_up_up, km_up_lt, km_lay, km_unL, km_up_o, km_upx_i, km_upx_s, km_fl2_o, km_is, Option.some.injEq, Sum.inl.injEq, Sum.inr.injEq, Option.toList_some, Option.toList_none, List.cons_append, List.nil_append, ne_eq, true_and, and_true, and_self, not_true_eq_false, not_false_eq_true, true_implies, false_implies, reduceCtorEq]; omega) (by omega) (by omega) (by omega)
  simp (config := { decide := true }) only [true_or, or_true, false_or, or_false, false_and, and_false, if_true, if_false, km_sr_sf, km_sr_of, km_up_of, km_sr_us, km_sr_uo, km_sr_sr, km_sr_fl, km_sr_flo, km_up_up, km_up_lt, km_lay, km_unL, km_up_o, km_upx_i, km_upx_s, km_fl2_o, km_is, Option.some.injEq, Sum.inl.injEq, Sum.inr.injEq, Option.toList_some, Option.toList_none, List.cons_append, List.nil_append, ne_eq, true_and, and_true, and_self, not_true_eq_false, not_false_eq_true, true_implies, false_implies, reduceCtorEq] at h
  have c1 := fun Q => @r_climbs_135 q c s a w m ha hk hB hp Q
  rw [← eU] at c1
  have c2 := fun Q => @r_climbs_136 q c s b w (km_sr m 135 U) hb (by simp (config := { decide := true }) only [true_or, or_true, false_or, or_false, false_and, and_false, if_true, if_false, km_sr_sf, km_sr_of, km_up_of, km_sr_us, km_sr_uo, km_sr_sr, km_sr_fl, km_sr_flo, km_up_up, km_up_lt, km_lay, km_unL, km_up_o, km_upx_i, km_upx_s, km_fl2_o, km_is, Option.some.injEq, Sum.inl.injEq, Sum.inr.injEq, Option.toList_some, Option.toList_none, List.cons_append, List.nil_append, ne_eq, true_and, and_true, and_self, not_true_eq_false, not_false_eq_true, true_implies, false_implies, reduceCtorEq]; exact hk) (by simp (config := { decide := true }) only [true_or, or_true, false_or, or_false, false_and, and_false, if_true, if_false, km_sr_sf, km_sr_of, km_up_of, km_sr_us, km_sr_uo, km_sr_sr, km_sr_fl, km_sr_flo, km_up_up, km_up_lt, km_lay, km_unL, km_up_o, km_upx_i, km_upx_s, km_fl2_o, km_is, Option.some.injEq, Sum.inl.injEq, Sum.inr.injEq, Option.toList_some, Option.toList_none, List.cons_append, List.nil_append, ne_eq, true_and, and_true, and_self, not_true_eq_false, not_false_eq_true, true_implies, false_implies, reduceCtorEq]; exact hB) (by simp (config := { decide := true }) only [true_or, or_true, false_or, or_false, false_and, and_false, if_true, if_false, km_sr_sf, km_sr_of, km_up_of, km_sr_us, km_sr_uo, km_sr_sr, km_sr_fl, km_sr_flo, km_up_up, km_up_lt, km_lay, km_unL, km_up_o, km_upx_i, km_upx_s, km_fl2_o, km_is, Option.some.injEq, Sum.inl.injEq, Sum.inr.injEq, Option.toList_some, Option.toList_none, List.cons_append, List.nil_append, ne_eq, true_and, and_true, and_self, not_true_eq_false, not_false_eq_true, true_implies, false_implies, reduceCtorEq]; exact hp) Q
  simp (config := { decide := true }) only [true_or, or_true, false_or, or_false, false_and, and_false, if_true, if_false, km_sr_sf, km_sr_of, km_up_of, km_sr_us, km_sr_uo, km_sr_sr, km_sr_fl, km_sr_flo, km_up_up, km_up_lt, km_lay, km_unL, km_up_o, km_upx_i, km_upx_s, km_fl2_o, km_is, Option.some.injEq, Sum.inl.injEq, Sum.inr.injEq, Option.toList_some, Option.toList_none, List.cons_append, List.nil_append, ne_eq, true_and, and_true, and_self, not_true_eq_false, not_false_eq_true, true_implies, false_implies, reduceCtorEq] at c2
  rw [← eD] at c2
  simp (config := { decide := true }) only [g_X12_nearest, c1, c2, h, true_or, or_true, false_or, or_false, false_and, and_false, if_true, if_false, km_sr_sf, km_sr_of, km_up_of, km_sr_us, km_sr_uo, km_sr_sr, km_sr_fl, km_sr_flo, km_up_up, km_up_lt, km_lay, km_unL, km_up_o, km_upx_i, km_upx_s, km_fl2_o, km_is, Option.some.injEq, Sum.inl.injEq, Sum.inr.injEq, Option.toList_some, Option.toList_none, List.cons_append, List.nil_append, ne_eq, true_and, and_true, and_self, not_true_eq_false, not_false_eq_true, true_implies, false_implies, reduceCtorEq]
/-- m' is m but for what the reference scratches in a world -/
def kj_M (m m' : km_Mm) : Prop := ∀ b j : Int, b ≠ 135 → b ≠ 136 → ¬ (b = 123 ∧ 19 ≤ j ∧ j ≤ 21) → m' b j = m b j
theorem kj_M_row {m m' : km_Mm} (h : kj_M m m') {b : Int} (h1 : b ≠ 135) (h2 : b ≠ 136) (h4 : b ≠ 123) : m' b = m b := by funext j; exact h b j h1 h2 (fun q => h4 q.1)
/-- the class's family f A B k is the reference's of the memory m -/
def kf_same (f A B : Int → Int) (k : Int) (m : km_Mm) : Prop := kf_ok f (m 132, m 131) ∧ m 123 14 = k ∧ (∀ i : Int, 0 ≤ i → i < k → m 133 i = A i ∧ m 134 i = B i ∧ A i < m 123 3) ∧ (∀ y : Int, 0 ≤ y → y < 10 → (0 ≤ m 132 y ∧ m 132 y ≤ 2) ∧ ∀ j : Int, 0 ≤ j → j < m 132 y → 0 ≤ m 131 (2 * y + j) ∧ m 131 (2 * y + j) < 10)
theorem md_find {q : Nat × Int × Int × Int × Int} {c s : Nat} {m m' : km_Mm} {f A B : Int → Int} {k w a b : Int} (h10 : 0 ≤ m 123 3 ∧ m 123 3 ≤ 10) (hf : ∀ a : Int, 0 ≤ a → a < 10 → ten (f a) ∧ ∀ x : Int, 0 ≤ x → tb (f a) x = true → x < a) (hg : kf_good f A B k) (hs : kf_same f A B k m) (hw : 0 ≤ w ∧ w < 2147483648) (hW : kn_W f A B k w = true) (ha : 0 ≤ a ∧ a < m 123 3) (hb : 0 ≤ b ∧ b < m 123 3) (hj : kj_M m m') :
    ∃ m'' : km_Mm, kj_M m m'' ∧ kn_eq (kn_T f A B k a b w) (m'' 123 19, m'' 123 20, m'' 123 21) ∧ ∀ Q : Option km_V → km_Al → km_Mm → Prop, (km_E M_X12_nearest [.inr (.inr 123), .inl a, .inl b, .inl w] (km_A0 q c s) m' Q ↔ Q (some (.inl (if 0 < m'' 123 21 then 1 else 0))) (km_A0 q c s) m'') := by
  obtain ⟨s1, s2, s3, s4⟩ := hs
  have e3 : m' 123 3 = m 123 3 := hj 123 3 (by decide) (by decide) (by omega)
  have e14 : m' 123 14 = m 123 14 := hj 123 14 (by decide) (by decide) (by omega)
  have e131 := kj_M_row hj (b := 131) (by decide) (by decide) (by decide)
  have e132 := kj_M_row hj (b := 132) (by decide) (by decide) (by decide)
  have e133 := kj_M_row hj (b := 133) (by decide) (by decide) (by decide)
  have e134 := kj_M_row hj (b := 134) (by decide) (by decide) (by decide)
  have g0 := hg.1
  have rn := @r_nearest q c s a b w m' _ _ (by omega) ⟨ha.1, by omega⟩ ⟨hb.1, by omega⟩ (by omega) (fun i i0 i1 => by rw [e134]; rw [e14, s2] at i1; rw [(s3 i i0 i1).2.1]; exact (hg.2.1 i i0 i1).2) (by rw [e132, e131]; exact s4) rfl rfl
  rw [e3, e14, e131, e132, e133, e134, s2] at rn
  have key := @kq_T_eq f A B (m 133) (m 134) (m 132) (m 131) _ _ k w a b (m 123 3) h10 hw hf hg s1 s4 (fun i i0 i1 => ⟨(s3 i i0 i1).1, (s3 i i0 i1).2.1⟩) hW ha hb (kq_i_135 a (m' 135) 0) (kq_i_136 b (m' 136) 0) (fun x x0 x1 => by unfold kq_i_135; rw [if_pos ⟨x0, x1⟩]) (fun x x0 x1 => by unfold kq_i_136; rw [if_pos ⟨x0, x1⟩]) rfl rfl (fun x x0 x1 => (kq_c_r _ _ (by omega) kq_i_r135 x x0 x1).1) (fun x x0 x1 => (kq_c_r _ _ (by omega) kq_i_r136 x x0 x1).1)
  generalize kq_c w (m 132) (m 131) (m 133) (m 134) k (a + 1).toNat (kq_i_135 a (m' 135) 0) = U at *
  generalize kq_c w (m 132) (m 131) (m 133) (m 134) k (b + 1).toNat (kq_i_136 b (m' 136) 0) = D at *
  generalize kq_fn U D (m 123 3).toNat 0 (1000000, 1000000, 0) = t at *
  refine ⟨km_up (km_up (km_up (km_sr (km_sr m' 135 U) 136 D) 123 19 t.1) 123 20 t.2.1) 123 21 t.2.2, ?_, ?_, fun Q => ?_⟩
  · intro b j b1 b2 b4
    have : ∀ i v : Int, 19 ≤ i → i ≤ 21 → ∀ mm : km_Mm, km_up mm 123 i v b j = mm b j := fun i v i0 i1 mm => by unfold km_up; by_cases e : b = 123; rw [if_pos e, if_neg (fun q => b4 ⟨e, by omega, by omega⟩)]; rw [if_neg e]
    rw [this 21 _ (by decide) (by decide), this 20 _ (by decide) (by decide), this 19 _ (by decide) (by decide), km_sr_o b2, km_sr_o b1]
    exact hj b j b1 b2 b4
  · simp (config := { decide := true }) only [true_or, or_true, false_or, or_false, false_and, and_false, if_true, if_false, km_sr_sf, km_sr_of, km_up_of, km_sr_us, km_sr_uo, km_sr_sr, km_sr_fl, km_sr_flo, km_up_up, km_up_lt, km_lay, km_unL, km_up_o, km_upx_i, km_upx_s, km_fl2_o, km_is, Option.some.injEq, Sum.inl.injEq, Sum.inr.injEq, Option.toList_some, Option.toList_none, List.cons_append, List.nil_append, ne_eq, true_and, and_true, and_self, not_true_eq_false, not_false_eq_true, true_implies, false_implies, reduceCtorEq]; exact key
  · rw [rn]; simp (config := { decide := true }) only [true_or, or_true, false_or, or_false, false_and, and_false, if_true, if_false, km_sr_sf, km_sr_of, km_up_of, km_sr_us, km_sr_uo, km_sr_sr, km_sr_fl, km_sr_flo, km_up_up, km_up_lt, km_lay, km_unL, km_up_o, km_upx_i, km_upx_s, km_fl2_o, km_is, Option.some.injEq, Sum.inl.injEq, Sum.inr.injEq, Option.toList_some, Option.toList_none, List.cons_append, List.nil_append, ne_eq, true_and, and_true, and_self, not_true_eq_false, not_false_eq_true, true_implies, false_implies, reduceCtorEq]
theorem md_isWorld {q : Nat × Int × Int × Int × Int} {c s : Nat} {m m' : km_Mm} {f A B : Int → Int} {k w : Int} (h10 : 0 ≤ m 123 3 ∧ m 123 3 ≤ 10) (hg : kf_good f A B k) (hs : kf_same f A B k m) (hw : 0 ≤ w ∧ w < 2147483648) (hj : kj_M m m') (Q : Option km_V → km_Al → km_Mm → Prop) :
    km_E M_X12_isWorld [.inr (.inr 123), .inl w] (km_A0 q c s) m' Q ↔ Q (some (.inl (if kn_W f A B k w = true then 1 else 0))) (km_A0 q c s) m' := by
  obtain ⟨s1, s2, s3, s4⟩ := hs
  have e3 : m' 123 3 = m 123 3 := hj 123 3 (by decide) (by decide) (by omega)
  have e14 : m' 123 14 = m 123 14 := hj 123 14 (by decide) (by decide) (by omega)
  have e132 := kj_M_row hj (b := 132) (by decide) (by decide) (by decide)
  have e133 := kj_M_row hj (b := 133) (by decide) (by decide) (by decide)
  have g0 := hg.1
  rw [@r_isWorld q c s w m' (by omega) (by rw [e132]; exact fun a a0 a1 => (s4 a a0 a1).1) (by omega) Q, e3, e14, e132, e133, s2, kn_W_eq h10 hw hg s1 (fun i i0 i1 => ⟨(s3 i i0 i1).1, (s3 i i0 i1).2.2⟩)]
theorem md_over {q : Nat × Int × Int × Int × Int} {c s : Nat} {m : km_Mm} {f A B : Int → Int} {k nn a b what : Int} (h10 : 0 ≤ m 123 3 ∧ m 123 3 ≤ 10) (hf : ∀ a : Int, 0 ≤ a → a < 10 → ten (f a) ∧ ∀ x : Int, 0 ≤ x → tb (f a) x = true → x < a) (hg : kf_good f A B k) (hs : kf_same f A B k m) (hT : ∀ w : Int, 0 ≤ w ∧ w < 2147483648 → kn_W f A B k w = true → (0 ≤ (kn_T f A B k a b w).1 ∧ (kn_T f A B k a b w).1 ≤ 20) ∧ 0 ≤ (kn_T f A B k a b w).2.1 ∧ (kn_T f A B k a b w).2.1 ≤ 20) (ha : 0 ≤ a ∧ a < m 123 3) (hb : 0 ≤ b ∧ b < m 123 3) (Q : Option km_V → km_Al → km_Mm → Prop) :
    ∀ (n : Nat) (w : Int) (r : Int × Int × Int) (m' : km_Mm), 0 ≤ w → w + n = km_shl 1 k → kj_M m m' → (0 ≤ r.1 ∧ r.1 + n ≤ 100) → (0 ≤ r.2.1 ∧ r.2.1 + n ≤ 100) → (-1 ≤ r.2.2 ∧ r.2.2 ≤ 40) →
    ∃ m'' : km_Mm, kj_M m m'' ∧
      (km_G M_X12_near 122 [some (.inr (.inr 123)), some (.inl nn), some (.inl a), some (.inl b), some (.inl what), some (.inl r.1), some (.inl r.2.1), some (.inl r.2.2), some (.inl w)] [] (km_A0 q c s) m' Q ↔
        Q (some (.inl (kn_an (kn_ow (kn_W f A B k) (kn_T f A B k a b) n w r) what))) (km_A0 q c s) m'') := by
  have hk := hg.1
  have hks : 1 ≤ km_shl 1 k ∧ km_shl 1 k ≤ 64 := by
    rw [ks_one hk.1 (by omega)]
    have h1 : 0 < 2 ^ k.toNat := Nat.two_pow_pos _
    have h2 : 2 ^ k.toNat ≤ 2 ^ 6 := Nat.pow_le_pow_right (by decide) (by omega)
    generalize 2 ^ k.toNat = z at *
    omega
  intro n
  induction n with
  | zero =>
    intro w r m' h0 h1 hj r1 r2 r3
    refine ⟨m', hj, ?_⟩
    have e14 : m' 123 14 = k := (hj 123 14 (by decide) (by decide) (by omega)).trans hs.2.1
    have e : km_shl 1 k ≤ w := by omega
    rw [g_X12_near_122]
    simp (config := { decide := true }) only [g_X12_near, e14, e, kn_ow, kn_an, true_or, or_true, false_or, or_false, false_and, and_false, if_true, if_false, km_sr_sf, km_sr_of, km_up_of, km_sr_us, km_sr_uo, km_sr_sr, km_sr_fl, km_sr_flo, km_up_up, km_up_lt, km_lay, km_unL, km_up_o, km_upx_i, km_upx_s, km_fl2_o, km_is, Option.some.injEq, Sum.inl.injEq, Sum.inr.injEq, Option.toList_some, Option.toList_none, List.cons_append, List.nil_append, ne_eq, true_and, and_true, and_self, not_true_eq_false, not_false_eq_true, true_implies, false_implies, reduceCtorEq]
    by_cases c0 : what = 3 <;> by_cases c1 : what = 4 <;> simp (config := { decide := true }) only [c0, c1, true_or, or_true, false_or, or_false, false_and, and_false, if_true, if_false, km_sr_sf, km_sr_of, km_up_of, km_sr_us, km_sr_uo, km_sr_sr, km_sr_fl, km_sr_flo, km_up_up, km_up_lt, km_lay, km_unL, km_up_o, km_upx_i, km_upx_s, km_fl2_o, km_is, Option.some.injEq, Sum.inl.injEq, Sum.inr.injEq, Option.toList_some, Option.toList_none, List.cons_append, List.nil_append, ne_eq, true_and, and_true, and_self, not_true_eq_false, not_false_eq_true, true_implies, false_implies, reduceCtorEq]
  | succ n ih =>
    intro w r m' h0 h1 hj r1 r2 r3
    have e14 : m' 123 14 = k := (hj 123 14 (by decide) (by decide) (by omega)).trans hs.2.1
    have e : ¬ km_shl 1 k ≤ w := by omega
    have hw : 0 ≤ w ∧ w < 2147483648 := by omega
    have wl : -2147483648 ≤ w + 1 ∧ w + 1 ≤ 2147483647 := by omega
    have rl : -2147483648 ≤ r.1 + 1 ∧ r.1 + 1 ≤ 2147483647 := by omega
    have rl2 : -2147483648 ≤ r.2.1 + 1 ∧ r.2.1 + 1 ≤ 2147483647 := by omega
    have hE := fun Q => @md_isWorld q c s m m' f A B k w h10 hg hs hw hj Q
    unfold kn_ow
    by_cases hW : kn_W f A B k w = true
    · obtain ⟨m2, j2, t2, hF⟩ := @md_find q c s m m' f A B k w a b h10 hf hg hs hw hW ha hb hj
      have hb := hT w hw hW
      obtain ⟨t3, t4, t5⟩ := t2
      dsimp only at t3 t4 t5
      by_cases y : 0 < (kn_T f A B k a b w).2.2
      · obtain ⟨t6, t7⟩ := t5 (by omega)
        rw [if_pos hW, if_pos y]
        have y1 : 0 < m2 123 21 := by omega
        rw [t6, t7] at hb
        have sl : -2147483648 ≤ m2 123 19 + m2 123 20 ∧ m2 123 19 + m2 123 20 ≤ 2147483647 := by omega
        by_cases z : r.2.2 = -1
        · rw [if_pos z, t6, t7]
          obtain ⟨m3, j3, k3⟩ := ih (w + 1) (r.1 + 1, r.2.1 + 1, m2 123 19 + m2 123 20) m2 (by omega) (by omega) j2 (by dsimp only; omega) (by dsimp only; omega) (by dsimp only; omega)
          refine ⟨m3, j3, ?_⟩
          have z2 : r.2.2 < 0 := by omega
          rw [← k3, g_X12_near_122]
          simp (config := { decide := true }) only [g_X12_near, e14, e, hE, hW, hF, y1, z2, wl, rl, rl2, sl, true_or, or_true, false_or, or_false, false_and, and_false, if_true, if_false, km_sr_sf, km_sr_of, km_up_of, km_sr_us, km_sr_uo, km_sr_sr, km_sr_fl, km_sr_flo, km_up_up, km_up_lt, km_lay, km_unL, km_up_o, km_upx_i, km_upx_s, km_fl2_o, km_is, Option.some.injEq, Sum.inl.injEq, Sum.inr.injEq, Option.toList_some, Option.toList_none, List.cons_append, List.nil_append, ne_eq, true_and, and_true, and_self, not_true_eq_false, not_false_eq_true, true_implies, false_implies, reduceCtorEq]
        · have z2 : ¬ r.2.2 < 0 := by omega
          rw [if_neg z, t6, t7]
          obtain ⟨m3, j3, k3⟩ := ih (w + 1) (r.1 + 1, r.2.1 + 1, if m2 123 19 + m2 123 20 < r.2.2 then m2 123 19 + m2 123 20 else r.2.2) m2 (by omega) (by omega) j2 (by dsimp only; omega) (by dsimp only; omega) (by dsimp only; split <;> omega)
          refine ⟨m3, j3, ?_⟩
          rw [← k3, g_X12_near_122]
          by_cases z3 : m2 123 19 + m2 123 20 < r.2.2
          · have z4 : ¬ r.2.2 ≤ m2 123 19 + m2 123 20 := by omega
            simp (config := { decide := true }) only [g_X12_near, e14, e, hE, hW, hF, y1, z2, wl, rl, rl2, sl, z3, z4, true_or, or_true, false_or, or_false, false_and, and_false, if_true, if_false, km_sr_sf, km_sr_of, km_up_of, km_sr_us, km_sr_uo, km_sr_sr, km_sr_fl, km_sr_flo, km_up_up, km_up_lt, km_lay, km_unL, km_up_o, km_upx_i, km_upx_s, km_fl2_o, km_is, Option.some.injEq, Sum.inl.injEq, Sum.inr.injEq, Option.toList_some, Option.toList_none, List.cons_append, List.nil_append, ne_eq, true_and, and_true, and_self, not_true_eq_false, not_false_eq_true, true_implies, false_implies, reduceCtorEq]
          · have z4 : r.2.2 ≤ m2 123 19 + m2 123 20 := by omega
            simp (config := { decide := true }) only [g_X12_near, e14, e, hE, hW, hF, y1, z2, wl, rl, rl2, sl, z3, z4, true_or, or_true, false_or, or_false, false_and, and_false, if_true, if_false, km_sr_sf, km_sr_of, km_up_of, km_sr_us, km_sr_uo, km_sr_sr, km_sr_fl, km_sr_flo, km_up_up, km_up_lt, km_lay, km_unL, km_up_o, km_upx_i, km_upx_s, km_fl2_o, km_is, Option.some.injEq, Sum.inl.injEq, Sum.inr.injEq, Option.toList_some, Option.toList_none, List.cons_append, List.nil_append, ne_eq, true_and, and_true, and_self, not_true_eq_false, not_false_eq_true, true_implies, false_implies, reduceCtorEq]
      · rw [if_pos hW, if_neg y]
        obtain ⟨m3, j3, k3⟩ := ih (w + 1) (r.1 + 1, r.2.1, r.2.2) m2 (by omega) (by omega) j2 (by dsimp only; omega) (by dsimp only; omega) r3
        refine ⟨m3, j3, ?_⟩
        have y1 : ¬ 0 < m2 123 21 := by omega
        rw [← k3, g_X12_near_122]
        simp (config := { decide := true }) only [g_X12_near, e14, e, hE, hW, hF, y1, wl, rl, true_or, or_true, false_or, or_false, false_and, and_false, if_true, if_false, km_sr_sf, km_sr_of, km_up_of, km_sr_us, km_sr_uo, km_sr_sr, km_sr_fl, km_sr_flo, km_up_up, km_up_lt, km_lay, km_unL, km_up_o, km_upx_i, km_upx_s, km_fl2_o, km_is, Option.some.injEq, Sum.inl.injEq, Sum.inr.injEq, Option.toList_some, Option.toList_none, List.cons_append, List.nil_append, ne_eq, true_and, and_true, and_self, not_true_eq_false, not_false_eq_true, true_implies, false_implies, reduceCtorEq]
    · rw [if_neg hW]
      obtain ⟨m3, j3, k3⟩ := ih (w + 1) r m' (by omega) (by omega) hj (by omega) (by omega) r3
      refine ⟨m3, j3, ?_⟩
      rw [← k3, g_X12_near_122]
      simp (config := { decide := true }) only [g_X12_near, e14, e, hE, hW, wl, true_or, or_true, false_or, or_false, false_and, and_false, if_true, if_false, km_sr_sf, km_sr_of, km_up_of, km_sr_us, km_sr_uo, km_sr_sr, km_sr_fl, km_sr_flo, km_up_up, km_up_lt, km_lay, km_unL, km_up_o, km_upx_i, km_upx_s, km_fl2_o, km_is, Option.some.injEq, Sum.inl.injEq, Sum.inr.injEq, Option.toList_some, Option.toList_none, List.cons_append, List.nil_append, ne_eq, true_and, and_true, and_self, not_true_eq_false, not_false_eq_true, true_implies, false_implies, reduceCtorEq]

