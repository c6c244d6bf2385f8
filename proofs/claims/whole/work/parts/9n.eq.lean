/-! ===== class and reference choose the same sets ===== -/
theorem kdD_ch2 {x y : Int → Int → Int} {f g : Int → Int → Prop} {V : Int → Int} {N w : Int} (hw : ten w) (hV : ∀ S t : Int, ksb S w → ksb t S → V S = V t + V (S - t)) (hV0 : V 0 = 0) (h : ∀ p t : Int, 0 ≤ p → p < N → ksb t w → (f p t ↔ g p t) ∧ (f p t → y p t = x p t + V t)) : ∀ (n : Nat) (p S v : Int), 0 ≤ p → p + n ≤ N → ksb S w → (kdD x f n p S v ↔ kdD y g n p S (v + V S)) := by
  intro n
  induction n with
  | zero =>
    intro p S v p0 pn hS
    constructor
    · rintro ⟨a, b⟩; subst a; exact ⟨rfl, by omega⟩
    · rintro ⟨a, b⟩; subst a; exact ⟨rfl, by omega⟩
  | succ n ih =>
    intro p S v p0 pn hS
    have tS := ksb_ten hw hS
    have sd : ∀ t : Int, ksb t S → ksb (S - t) w ∧ ksb t w := fun t ht => ⟨ksb_tr tS hw (ksb_dsub tS ht) hS, ksb_tr tS hw ht hS⟩
    constructor
    · rintro ⟨⟨t, u, a1, a2, a3, a4⟩, a5⟩
      obtain ⟨s1, s2⟩ := sd t a1
      obtain ⟨h1, h2⟩ := h p t p0 (by omega) s2
      refine ⟨⟨t, u + V (S - t), a1, h1.mp a2, (ih _ _ _ (by omega) (by omega) s1).mp a3, ?_⟩, fun t u b1 b2 b3 => ?_⟩
      · have := hV S t hS a1; have := h2 a2; omega
      · obtain ⟨s1, s2⟩ := sd t b1
        obtain ⟨h1, h2⟩ := h p t p0 (by omega) s2
        have := a5 t (u - V (S - t)) b1 (h1.mpr b2) ((ih _ _ _ (by omega) (by omega) s1).mpr (by rw [Int.sub_add_cancel]; exact b3))
        have := hV S t hS b1; have := h2 (h1.mpr b2); omega
    · rintro ⟨⟨t, u, a1, a2, a3, a4⟩, a5⟩
      obtain ⟨s1, s2⟩ := sd t a1
      obtain ⟨h1, h2⟩ := h p t p0 (by omega) s2
      refine ⟨⟨t, u - V (S - t), a1, h1.mpr a2, (ih _ _ _ (by omega) (by omega) s1).mpr (by rw [Int.sub_add_cancel]; exact a3), ?_⟩, fun t u b1 b2 b3 => ?_⟩
      · have := hV S t hS a1; have := h2 (h1.mpr a2); omega
      · obtain ⟨s1, s2⟩ := sd t b1
        obtain ⟨h1, h2⟩ := h p t p0 (by omega) s2
        have := a5 t (u + V (S - t)) b1 (h1.mp b2) ((ih _ _ _ (by omega) (by omega) s1).mp b3)
        have := hV S t hS b1; have := h2 b2; omega
theorem kdO_ch2 {x y : Int → Int → Int} {f g : Int → Int → Prop} {V : Int → Int} {N w : Int} (hw : ten w) (hV : ∀ S t : Int, ksb S w → ksb t S → V S = V t + V (S - t)) (hV0 : V 0 = 0) (h : ∀ p t : Int, 0 ≤ p → p < N → ksb t w → (f p t ↔ g p t) ∧ (f p t → y p t = x p t + V t)) {n : Nat} {p S t : Int} (p0 : 0 ≤ p) (pn : p + n + 1 ≤ N) (hS : ksb S w) : kdO x f n p S t ↔ kdO y g n p S t := by
  have tS := ksb_ten hw hS
  unfold kdO
  constructor
  · rintro ⟨a1, a2, u, a3, a4⟩
    have s1 := ksb_tr tS hw (ksb_dsub tS a1) hS
    have s2 := ksb_tr tS hw a1 hS
    obtain ⟨h1, h2⟩ := h p t p0 (by omega) s2
    have c1 := (kdD_ch2 hw hV hV0 h n (p + 1) (S - t) u (by omega) (by omega) s1).mp a3
    have c2 := (kdD_ch2 hw hV hV0 h (n + 1) p S (x p t + u) p0 (by omega) hS).mp a4
    refine ⟨a1, h1.mp a2, _, c1, ?_⟩
    have e : y p t + (u + V (S - t)) = x p t + u + V S := by have := hV S t hS a1; have := h2 a2; omega
    rw [e]; exact c2
  · rintro ⟨a1, a2, u, a3, a4⟩
    have s1 := ksb_tr tS hw (ksb_dsub tS a1) hS
    have s2 := ksb_tr tS hw a1 hS
    obtain ⟨h1, h2⟩ := h p t p0 (by omega) s2
    have c1 := (kdD_ch2 hw hV hV0 h n (p + 1) (S - t) (u - V (S - t)) (by omega) (by omega) s1).mpr (by rw [Int.sub_add_cancel]; exact a3)
    have e : y p t + u = x p t + (u - V (S - t)) + V S := by have := hV S t hS a1; have := h2 (h1.mpr a2); omega
    rw [e] at a4
    have c2 := (kdD_ch2 hw hV hV0 h (n + 1) p S (x p t + (u - V (S - t))) p0 (by omega) hS).mpr a4
    exact ⟨a1, h1.mpr a2, _, c1, c2⟩
theorem kdS_ch2 {x y : Int → Int → Int} {f g : Int → Int → Prop} {V : Int → Int} {N w : Int} {cc : Int → Int} (hw : ten w) (hV : ∀ S t : Int, ksb S w → ksb t S → V S = V t + V (S - t)) (hV0 : V 0 = 0) (h : ∀ p t : Int, 0 ≤ p → p < N → ksb t w → (f p t ↔ g p t) ∧ (f p t → y p t = x p t + V t)) : ∀ (n : Nat) (p S : Int), 0 ≤ p → p + n ≤ N → ksb S w → kdS x f cc n p S → kdS y g cc n p S := by
  intro n
  induction n with
  | zero => intro p S _ _ _ _; trivial
  | succ n ih =>
    intro p S p0 pn hS k
    obtain ⟨⟨k1, k2⟩, k3⟩ := k
    have tS := ksb_ten hw hS
    have e : ∀ t, kdO x f n p S t ↔ kdO y g n p S t := fun t => kdO_ch2 hw hV hV0 h p0 (by omega) hS
    have s1 := k1.1
    exact ⟨⟨(e _).mp k1, fun t' ht' w => k2 t' ht' ((e _).mpr w)⟩, ih _ _ (by omega) (by omega) (ksb_tr tS hw (ksb_dsub tS s1) hS) k3⟩
/-- the sets lie in the whole, apart -/
theorem kdS_in {x : Int → Int → Int} {f : Int → Int → Prop} {cc : Int → Int} : ∀ (n : Nat) (p S : Int), ten S → kdS x f cc n p S → ∀ j : Int, p ≤ j → j < p + n → ksb (cc j) S := by
  intro n
  induction n with
  | zero => intro p S _ _ j j0 j1; omega
  | succ n ih =>
    intro p S tS k j j0 j1
    obtain ⟨k1, k2⟩ := k
    have s1 := k1.1.1
    by_cases e : j = p
    · subst e; exact s1
    · have d := ksb_dsub tS s1
      exact ksb_tr (ksb_ten tS d) tS (ih (p + 1) (S - cc p) (ksb_diff tS s1).1 k2 j (by omega) (by omega)) d
theorem kdS_ap {x : Int → Int → Int} {f : Int → Int → Prop} {cc : Int → Int} : ∀ (n : Nat) (p S : Int), ten S → kdS x f cc n p S → ∀ i j k : Int, p ≤ i → i < j → j < p + n → 0 ≤ k → ¬ (tb (cc i) k = true ∧ tb (cc j) k = true) := by
  intro n
  induction n with
  | zero => intro p S _ _ i j k j0 j1; omega
  | succ n ih =>
    intro p S tS h i j k i0 ij jn k0
    obtain ⟨k1, k2⟩ := h
    have s1 := k1.1.1
    have td := (ksb_diff tS s1).1
    by_cases e : i = p
    · subst e
      rintro ⟨w1, w2⟩
      have := kdS_in n (i + 1) (S - cc i) td k2 j (by omega) (by omega)
      have := ((ksb_tb td).mp this).2 k k0 w2
      rw [(ksb_diff tS s1).2 k k0, w1] at this
      simp at this
    · exact ih (p + 1) (S - cc p) td k2 i j k (by omega) ij (by omega) k0
theorem kdP_b {cc : Int → Int} {j : Int} : ∀ (n : Nat), (-1 ≤ kdP cc n j ∧ kdP cc n j < n) ∧ (kdP cc n j ≠ -1 → tb (cc (kdP cc n j)) j = true) := by
  intro n
  induction n with
  | zero => exact ⟨⟨by show -1 ≤ (-1 : Int); omega, by show (-1 : Int) < _; omega⟩, fun h => absurd rfl h⟩
  | succ n ih =>
    unfold kdP
    by_cases z : tb (cc n) j = true
    · rw [if_pos z]; exact ⟨by omega, fun _ => z⟩
    · rw [if_neg z]; exact ⟨by omega, ih.2⟩
theorem kdP_no {cc : Int → Int} {j : Int} : ∀ (n : Nat), (∀ p : Int, 0 ≤ p → p < n → tb (cc p) j = false) → kdP cc n j = -1 := by
  intro n
  induction n with
  | zero => intro _; rfl
  | succ n ih =>
    intro h
    unfold kdP
    rw [h n (by omega) (by omega)]
    exact ih (fun p p0 p1 => h p p0 (by omega))
theorem kdP_yes {cc : Int → Int} {j i : Int} : ∀ (n : Nat), 0 ≤ i → i < n → tb (cc i) j = true → (∀ p : Int, 0 ≤ p → p < n → p ≠ i → ¬ tb (cc p) j = true) → kdP cc n j = i := by
  intro n
  induction n with
  | zero => intro a b; omega
  | succ n ih =>
    intro i0 i1 h1 h2
    unfold kdP
    by_cases e : (n : Int) = i
    · rw [e, if_pos h1]
    · rw [if_neg (h2 n (by omega) (by omega) e)]
      exact ih i0 (by omega) h1 (fun p p0 p1 pe => h2 p p0 (by omega) pe)
/-- couples of which one at least is in the set, by the lesser -/
noncomputable def kVC (m : km_Mm) (t : Int) : Int := ksm (fun k => if tb t k = true then kcnt (fun i => k < i ∧ tb (m 100 1) i = true ∧ kbR m k i) 10 else 0) 10
theorem kVC_add {m : km_Mm} {S t : Int} (hS : ten S) (ht : ksb t S) : kVC m S = kVC m t + kVC m (S - t) := by
  unfold kVC
  rw [← ksm_add]
  refine ksm_cong 10 (fun k k0 _ => ?_)
  show _ = _ + _
  rw [(ksb_diff hS ht).2 k k0]
  have := ((ksb_tb hS).mp ht).2 k k0
  cases e : tb t k
  · cases e2 : tb S k <;> simp
  · rw [this e]; simp
theorem kVC_0 {m : km_Mm} : kVC m 0 = 0 := by
  unfold kVC
  rw [ksm_cong (h := fun _ => 0) 10 (fun k _ _ => by rw [tb_zero, if_neg (by decide)]), ksm_zero]
theorem kVC_nn {m : km_Mm} {t : Int} : 0 ≤ kVC m t := by
  unfold kVC
  refine (ksm_b (b := 10) 10 (fun k k0 k1 => ?_)).1
  split
  · have := @kcnt_b (fun i => k < i ∧ tb (m 100 1) i = true ∧ kbR m k i) 10; omega
  · omega
theorem kVC_w {m : km_Mm} : kVC m (m 100 1) = kpr (kbR m) (m 100 1) := rfl
theorem kVC_b {m : km_Mm} {t : Int} (hw : ten (m 100 1)) (ht : ksb t (m 100 1)) : 0 ≤ kVC m t ∧ kVC m t ≤ 45 := by
  have a := kVC_add (m := m) hw ht
  have b := @kVC_nn m t
  have d := @kVC_nn m (m 100 1 - t)
  have e := @kpr_b (kbR m) (m 100 1)
  rw [kVC_w] at a
  omega
theorem ksm_up {g : Int → Int} (n : Nat) : ∀ (e : Nat), (∀ k : Int, (n : Int) ≤ k → k < n + e → g k = 0) → ksm g (n + e) = ksm g n := by
  intro e
  induction e with
  | zero => intro _; rfl
  | succ e ih =>
    intro h
    show ksm g (n + e) + g ((n + e : Nat) : Int) = _
    rw [ih (fun k k0 k1 => h k k0 (by omega)), h _ (by omega) (by omega)]; omega
theorem kVC_cc {m : km_Mm} (hk : 0 ≤ m 5 1 ∧ m 5 1 ≤ 10) (hg : ∀ k : Int, m 5 1 ≤ k → k < 10 → tb (m 100 1) k = false) : kVC m (m 100 1) = ksm (fun a => kcnt (kbD m a) a.toNat) (m 5 1).toNat := by
  rw [kVC_w, kpr_hi]
  have e := ksm_up (g := fun a => if tb (m 100 1) a = true then kcnt (fun b => tb (m 100 1) b = true ∧ kbR m b a) a.toNat else 0) (m 5 1).toNat (10 - (m 5 1).toNat) (fun k k0 k1 => by show (if _ then _ else _) = _; rw [hg k (by omega) (by omega), if_neg (by decide)])
  rw [show (m 5 1).toNat + (10 - (m 5 1).toNat) = 10 by omega] at e
  rw [e]
  refine ksm_cong _ (fun a a0 a1 => ?_)
  show (if _ then _ else _) = kcnt (kbD m a) a.toNat
  by_cases z : tb (m 100 1) a = true
  · rw [if_pos z]
    refine kcnt_cong _ (fun b _ _ => ?_)
    unfold kbD kbR
    exact ⟨fun w => ⟨z, w⟩, fun w => w.2⟩
  · rw [if_neg z]
    exact (kcnt_none _ (fun b _ _ w => z w.1)).symm
/-- what the reference counts for a set in a ROOM is the class's cost, the couples of its own added -/
theorem kbed_val {m Y : km_Mm} {r t : Int} (hb : kI_book m) (hT : kI_trait m) (hE : kI_meet m) (on : m 100 0 ≠ -1) (ht : ksb t (m 100 1)) (e125 : Y 125 = m 125) (e165 : ∀ i : Int, 0 ≤ i → i < 3 → Y 165 i = m 89 i) (e166 : ∀ k : Int, 0 ≤ k → k < m 5 1 → Y 166 k = m 102 k) (e173 : ∀ x y : Int, 0 ≤ x → 0 ≤ y → y < 10 → x < 10 → Y 173 (10 * x + y) = kVc m x y) :
    (∀ k : Int, 0 ≤ k → k < 10 → 0 ≤ kgl Y t k ∧ kgl Y t k ≤ 1) ∧ ksm (kgs Y r t) 10 + Y 165 0 * ksm (kgl Y t) 10 * (km_pop t - ksm (kgl Y t) 10) = kbX m r t + m 89 1 * kVC m t ∧ ((∀ i : Int, 0 ≤ i → i < 3 → 0 ≤ m 89 i ∧ m 89 i ≤ 99) → 0 ≤ kbX m r t + m 89 1 * kVC m t ∧ kbX m r t + m 89 1 * kVC m t ≤ 8000) := by
  have b1 := hb.1
  obtain ⟨-, ⟨-, hw, hg⟩, -⟩ := hE
  have tt := ksb_ten hw ht
  have sub := ((ksb_tb hw).mp ht).2
  have t2 : t < 2147483648 := by unfold ten at tt; omega
  have inw : ∀ k : Int, 0 ≤ k → k < 10 → tb t k = true → k < m 5 1 := fun k k0 k1 hk => by
    by_cases z : k < m 5 1
    · exact z
    · have := sub k k0 hk; rw [hg k (by omega) k1] at this; cases this
  have ws := (km_wt_b (m := m) (a := 11) (v := 1) (m 5 1).toNat 0 0 (by decide) (by omega) ten_0)
  have mv := kset_ten (P := fun i => m 102 i ≠ -1 ∧ m 102 i ≠ r) 10 (by decide)
  have gl : ∀ k : Int, 0 ≤ k → k < 10 → kgl Y t k = @ite Int (tb (km_and t (km_wt m 11 1 (m 5 1).toNat 0 0)) k = true) (Classical.propDecidable _) 1 0 := fun k k0 k1 => by
    unfold kgl
    rw [e125]
    have ta := tb_and (k := k) tt.1 t2 ws.1.1
    by_cases z : tb t k = true
    · have km := inw k k0 k1 z
      have T := hT k k0 km
      rw [if_pos z, T.1.2.2.2.2]
      have w := ws.2 k k0
      rw [tb_zero] at w
      by_cases y : m 11 k = 1
      · rw [if_pos (by rw [ta, z, w.mpr (Or.inr ⟨by omega, by omega, y⟩)]; rfl), y]
      · rw [if_neg (by rw [ta, z]; intro u; rw [Bool.true_and] at u; exact (w.mp u).elim (fun v => by cases v) (fun v => y v.2.2))]
        have := T.2.2.2.2.2; omega
    · rw [if_neg z, if_neg (by rw [ta, Bool.and_eq_true]; exact fun w => z w.1)]
  have sl : ksm (kgl Y t) 10 = km_pop (km_and t (km_wt m 11 1 (m 5 1).toNat 0 0)) := by
    rw [ksm_cong 10 gl, ksm_kcnt, ← km_pop_cnt]
  have gs : ∀ k : Int, 0 ≤ k → k < 10 → kgs Y r t k = m 89 2 * (@ite Int (tb (km_and t (kset (fun i => m 102 i ≠ -1 ∧ m 102 i ≠ r) 10)) k = true) (Classical.propDecidable _) 1 0) + m 89 1 * (if tb t k = true then kcnt (fun i => k < i ∧ (tb (m 100 1) i = true ∧ kbR m k i) ∧ ¬ tb t i = true) 10 else 0) := fun k k0 k1 => by
    unfold kgs
    have ta := tb_and (k := k) tt.1 t2 mv.1
    by_cases z : tb t k = true
    · have km := inw k k0 k1 z
      rw [if_pos z, if_pos z, e166 k k0 km, e165 1 (by decide) (by decide), e165 2 (by decide) (by decide)]
      have gp : kgp Y t k = kcnt (fun i => k < i ∧ (tb (m 100 1) i = true ∧ kbR m k i) ∧ ¬ tb t i = true) 10 := by
        unfold kgp
        refine kcnt_cong 10 (fun i i0 i1 => ?_)
        rw [e173 k i k0 i0 i1 k1]
        unfold kVc kbR
        have := sub k k0 z
        by_cases y : k < i ∧ tb (m 100 1) i = true ∧ kLc m (m 5 3) i k (m 5 2)
        · rw [if_pos ⟨by omega, this, y.2.1, kLc_sym.mp y.2.2⟩]
          exact ⟨fun w => ⟨w.1, y.2, w.2.2⟩, fun w => ⟨w.1, by decide, w.2.2⟩⟩
        · constructor
          · rintro ⟨w1, w2, w3⟩
            rw [if_neg (fun u => y ⟨w1, u.2.2.1, kLc_sym.mp u.2.2.2⟩)] at w2
            exact absurd rfl w2
          · rintro ⟨w1, w2, w3⟩; exact absurd ⟨w1, w2⟩ y
      rw [gp]
      congr 1
      by_cases y : m 102 k ≠ -1 ∧ m 102 k ≠ r
      · rw [if_pos y, if_pos (by rw [ta, z, (kset_tb 10 (by decide) k k0).mpr ⟨by omega, y⟩]; rfl), Int.mul_one]
      · rw [if_neg y, if_neg (by rw [ta, z]; intro u; rw [Bool.true_and] at u; exact y ((kset_tb 10 (by decide) k k0).mp u).2), Int.mul_zero]
    · rw [if_neg z, if_neg z, if_neg (by rw [ta, Bool.and_eq_true]; exact fun w => z w.1)]; omega
  have ss : ksm (kgs Y r t) 10 = m 89 2 * km_pop (km_and t (kset (fun i => m 102 i ≠ -1 ∧ m 102 i ≠ r) 10)) + m 89 1 * ksm (fun k => if tb t k = true then kcnt (fun i => k < i ∧ (tb (m 100 1) i = true ∧ kbR m k i) ∧ ¬ tb t i = true) 10 else 0) 10 := by
    rw [ksm_cong 10 gs, ksm_add, ksm_mul, ksm_mul, ksm_kcnt, ← km_pop_cnt]
  have cut : ksm (fun k => if tb t k = true then kcnt (fun i => k < i ∧ (tb (m 100 1) i = true ∧ kbR m k i) ∧ ¬ tb t i = true) 10 else 0) 10 + kpr (kbR m) t = kVC m t := by
    unfold kpr kVC
    rw [← ksm_add]
    refine ksm_cong 10 (fun k k0 k1 => ?_)
    show _ + _ = _
    by_cases z : tb t k = true
    · rw [if_pos z, if_pos z, if_pos z]
      refine (kcnt_add 10 (fun i i0 i1 => ?_)).symm
      constructor
      · constructor
        · rintro ⟨w1, w2, w3⟩
          by_cases y : tb t i = true
          · exact Or.inr ⟨w1, y, w3⟩
          · exact Or.inl ⟨w1, ⟨w2, w3⟩, y⟩
        · rintro (⟨w1, w2, w3⟩ | ⟨w1, w2, w3⟩)
          · exact ⟨w1, w2⟩
          · exact ⟨w1, sub i i0 w2, w3⟩
      · rintro ⟨w1, w2⟩; exact w1.2.2 w2.2.1
    · rw [if_neg z, if_neg z, if_neg z]; rfl
  have val : ksm (kgs Y r t) 10 + Y 165 0 * ksm (kgl Y t) 10 * (km_pop t - ksm (kgl Y t) 10) = kbX m r t + m 89 1 * kVC m t := by
    rw [ss, sl, e165 0 (by decide) (by decide), ← cut, Int.mul_add]
    unfold kbX kbA
    rw [Int.mul_assoc]
    omega
  refine ⟨fun k k0 k1 => by rw [gl k k0 k1]; split <;> omega, val, fun hp => ?_⟩
  have h0 := hp 0 (by decide) (by decide)
  have h1 := hp 1 (by decide) (by decide)
  have h2 := hp 2 (by decide) (by decide)
  rw [← val, ss, sl, e165 0 (by decide) (by decide)]
  have vb := kVC_b hw ht
  have pr := @kpr_b (kbR m) t
  have A := kbA_b h0 tt ws.1.1
  unfold kbA at A
  rw [← Int.mul_assoc] at A
  have pb := @kpop_b (km_and t (kset (fun i => m 102 i ≠ -1 ∧ m 102 i ≠ r) 10))
  have c1 := kmul_b h2.1 h2.2 pb.1 pb.2
  have cn : 0 ≤ ksm (fun k => if tb t k = true then kcnt (fun i => k < i ∧ (tb (m 100 1) i = true ∧ kbR m k i) ∧ ¬ tb t i = true) 10 else 0) 10 := (ksm_b (b := 10) 10 (fun k k0 k1 => by
    split
    · have := @kcnt_b (fun i => k < i ∧ (tb (m 100 1) i = true ∧ kbR m k i) ∧ ¬ tb t i = true) 10; omega
    · omega)).1
  have c2 := kmul_b h1.1 h1.2 cn (show _ ≤ (45 : Int) by omega)
  omega

