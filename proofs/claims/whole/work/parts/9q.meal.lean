/-! ===== meal ===== -/
theorem kmeal_val {m Y : km_Mm} {t : Int} (hb : kI_book m) (hT : kI_trait m) (hE : kI_meet m) (on : m 100 0 ≠ -1) (ht : ksb t (m 100 1)) (e125 : Y 125 = m 125) (e169 : Y 169 = m 169) :
    (∀ k : Int, 0 ≤ k → tb (m 100 1) k = true → 0 ≤ Y 125 (5 * k + 3) ∧ Y 125 (5 * k + 3) < 4) ∧ km_pop (kor Y t 10) = ksU m t ∧ ksm (kgf Y t) 10 = kpr (ksR m) t := by
  have b1 := hb.1
  obtain ⟨-, ⟨-, hw, hg⟩, -, -, -, -, -, -, e10⟩ := hE
  have tt := ksb_ten hw ht
  have t2 : t < 2147483648 := by unfold ten at tt; omega
  have sub := ((ksb_tb hw).mp ht).2
  have inw : ∀ k : Int, 0 ≤ k → tb (m 100 1) k = true → k < m 5 1 := fun k k0 hk => by
    by_cases z : k < m 5 1
    · exact z
    · by_cases y : k < 10
      · rw [hg k (by omega) y] at hk; cases hk
      · rw [tb_big hw (by omega)] at hk; cases hk
  have di : ∀ k : Int, 0 ≤ k → tb (m 100 1) k = true → Y 125 (5 * k + 3) = m 10 k ∧ 0 ≤ m 10 k ∧ m 10 k < 4 := fun k k0 hk => by
    have T := hT k k0 (inw k k0 hk)
    rw [e125]
    exact ⟨T.1.2.2.2.1, T.2.2.2.2.1⟩
  have hd : ∀ k : Int, 0 ≤ k → tb (m 100 1) k = true → 0 ≤ Y 125 (5 * k + 3) ∧ Y 125 (5 * k + 3) < 4 := fun k k0 hk => by
    have := di k k0 hk; omega
  obtain ⟨k1, k2⟩ := @kor_b Y t (fun k k0 hk => hd k k0 (sub k k0 hk)) 10
  refine ⟨hd, ?_, ?_⟩
  · have one : ∀ d : Int, 0 ≤ d → (tb (kor Y t 10) d = true ↔ ¬ km_and t (km_wt m 10 d (m 5 1).toNat 0 0) = 0) := fun d d0 => by
      have ws := (km_wt_b (m := m) (a := 10) (v := d) (m 5 1).toNat 0 0 (by decide) (by omega) ten_0)
      rw [k2 d d0, tb_eq0 (ten_and tt ws.1.1)]
      have bit : ∀ k : Int, 0 ≤ k → (tb (km_and t (km_wt m 10 d (m 5 1).toNat 0 0)) k = true ↔ tb t k = true ∧ m 10 k = d) := fun k k0 => by
        rw [tb_and tt.1 t2 ws.1.1, Bool.and_eq_true, ws.2 k k0, tb_zero]
        constructor
        · rintro ⟨w1, w2 | w2⟩
          · cases w2
          · exact ⟨w1, w2.2.2⟩
        · rintro ⟨w1, w2⟩
          have := inw k k0 (sub k k0 w1)
          exact ⟨w1, Or.inr ⟨k0, by omega, w2⟩⟩
      constructor
      · rintro ⟨k, k0, k10, w1, w2⟩ w
        have := w k k0 (by omega)
        rw [(di k k0 (sub k k0 w1)).1] at w2
        rw [(bit k k0).mpr ⟨w1, w2⟩] at this; cases this
      · intro w
        refine Classical.byContradiction fun n => w (fun k k0 k10 => ?_)
        cases z : tb (km_and t (km_wt m 10 d (m 5 1).toNat 0 0)) k
        · rfl
        · have b := (bit k k0).mp z
          exact absurd ⟨k, k0, by omega, b.1, by rw [(di k k0 (sub k k0 b.1)).1]; exact b.2⟩ n
    have i1 : ∀ d : Int, 0 ≤ d → @ite Int (tb (kor Y t 10) d = true) (Classical.propDecidable _) 1 0 = (if km_and t (km_wt m 10 d (m 5 1).toNat 0 0) = 0 then 0 else 1) := fun d d0 => by
      by_cases z : km_and t (km_wt m 10 d (m 5 1).toNat 0 0) = 0
      · rw [if_pos z, if_neg (fun w => (one d d0).mp w z)]
      · rw [if_neg z, if_pos ((one d d0).mpr z)]
    have e := kcnt_up (P := fun d => tb (kor Y t 10) d = true) 4 6 (fun d d0 _ w => by
      obtain ⟨k, k0, k10, w1, w2⟩ := (k2 d (by omega)).mp w
      have := hd k k0 (sub k k0 w1); omega)
    rw [km_pop_cnt]
    show kcnt (fun d => tb (kor Y t 10) d = true) (4 + 6) = _
    rw [e]
    show (((0 + @ite Int (tb (kor Y t 10) 0 = true) (Classical.propDecidable _) 1 0) + @ite Int (tb (kor Y t 10) 1 = true) (Classical.propDecidable _) 1 0) + @ite Int (tb (kor Y t 10) 2 = true) (Classical.propDecidable _) 1 0) + @ite Int (tb (kor Y t 10) 3 = true) (Classical.propDecidable _) 1 0 = _
    rw [i1 0 (by decide), i1 1 (by decide), i1 2 (by decide), i1 3 (by decide), Int.zero_add]
    rfl
  · rw [kpr_hi]
    refine ksm_cong 10 (fun a a0 a1 => ?_)
    unfold kgf
    by_cases z : tb t a = true
    · rw [if_pos z, if_pos z]
      refine kcnt_cong _ (fun b b0 b1 => ?_)
      rw [e169, e10 on a b b0 (by omega) (by omega)]
      unfold ksR
      by_cases y : tb (m 112 b) a = true
      · rw [if_pos y]
        exact ⟨fun w => absurd w.2 (by decide), fun w => absurd y w.2⟩
      · rw [if_neg y]
        exact ⟨fun w => ⟨w.1, y⟩, fun w => ⟨w.1, rfl⟩⟩
    · rw [if_neg z, if_neg z]
theorem md_meal {q : Nat × Int × Int × Int × Int} {c s : Nat} {m mm : km_Mm} (hb : kI_book m) (hT : kI_trait m) (hH : kI_house m) (hE : kI_meet m) (on : m 100 0 ≠ -1) (m8 : m 100 4 < 8) (hj : kMj m mm) :
    (∀ v : Int, kdD (ksX m) (ksF m) (m 85 2).toNat 0 (m 100 1) v → ∀ cc : Int → Int, kdS (ksX m) (ksF m) cc (m 85 2).toNat 0 (m 100 1) → ∃ M' : km_Mm, (∀ b j : Int, ¬ (b = 168 ∧ 10 * m 100 4 ≤ j ∧ j < 10 * m 100 4 + 10) → b ≠ 169 → ¬ (b = 123 ∧ j = 91) → ¬ (b = 123 ∧ j = 2) → ¬ (171 ≤ b ∧ b ≤ 172) → M' b j = mm b j) ∧ (∀ j : Int, 0 ≤ j → j < 10 → M' 168 (10 * m 100 4 + j) = kdP cc (m 85 2).toNat j) ∧ (∀ x y : Int, 0 ≤ y → y < x → x < 10 → M' 169 (10 * x + y) = kNV m cc (m 85 2).toNat x y) ∧ M' 123 91 = m 100 4 + 1 ∧ 0 ≤ -v ∧ ∀ Q : Option km_V → km_Al → km_Mm → Prop, (km_E M_X12_meal [.inr (.inr 123)] (km_A0 q c s) mm Q ↔ Q (some (.inl (-v))) (km_A0 q c s) M')) ∧
    ((¬ ∃ v : Int, kdD (ksX m) (ksF m) (m 85 2).toNat 0 (m 100 1) v) → ∃ M' : km_Mm, (∀ b j : Int, ¬ (b = 123 ∧ j = 2) → ¬ (171 ≤ b ∧ b ≤ 172) → M' b j = mm b j) ∧ ∀ Q : Option km_V → km_Al → km_Mm → Prop, (km_E M_X12_meal [.inr (.inr 123)] (km_A0 q c s) mm Q ↔ Q (some (.inl (-1))) (km_A0 q c s) M')) := by
  obtain ⟨h1, h2, h3, h4, h5, h6, h7⟩ := hH
  obtain ⟨⟨e1a, e1b⟩, ⟨e2, hw, e3⟩, e4, e5, e6, e7, e8⟩ := id hE
  have nn : (((m 85 2).toNat : Nat) : Int) = m 85 2 := by omega
  have r123 : ∀ b : Int, 123 < b → (∀ j, ¬ kJ b j) → mm b = m b := fun b hb k => funext fun j => hj b j (by omega) (k j)
  have kj : ∀ b j : Int, (124 ≤ b ∧ b ≤ 129) ∨ (163 ≤ b ∧ b ≤ 170) → ¬ kJ b j := fun b j h => kJ_no (by omega)
  have E80 : mm 123 80 = 1 := by rw [hj 123 80 (by decide) (by unfold kJ; omega), e1b, if_neg on]
  have E82 : mm 123 82 = m 100 1 := (hj 123 82 (by decide) (by unfold kJ; omega)).trans e2
  have E89 : mm 123 89 = m 85 2 := (hj 123 89 (by decide) (by unfold kJ; omega)).trans h3.2.2
  have E91 : mm 123 91 = m 100 4 := (hj 123 91 (by decide) (by unfold kJ; omega)).trans e4.2.2
  have E87 : mm 123 87 = m 89 3 := (hj 123 87 (by decide) (by unfold kJ; omega)).trans h7.1
  have e125 : mm 125 = m 125 := r123 125 (by decide) (fun j => kj _ _ (by omega))
  have e164 : mm 164 = m 164 := r123 164 (by decide) (fun j => kj _ _ (by omega))
  have e167 : mm 167 = m 167 := r123 167 (by decide) (fun j => kj _ _ (by omega))
  have e169 : mm 169 = m 169 := r123 169 (by decide) (fun j => kj _ _ (by omega))
  obtain ⟨Y1, hY1⟩ : ∃ Y : km_Mm, Y = km_up mm 123 2 0 := ⟨_, rfl⟩
  have f1 : ∀ b j : Int, ¬ (b = 123 ∧ j = 2) → Y1 b j = mm b j := fun b j z1 => by rw [hY1, km_up_ne z1]
  have f1' : ∀ b : Int, b ≠ 123 → Y1 b = mm b := fun b z1 => funext fun j => f1 b j (fun w => z1 w.1)
  have Y189 : Y1 123 89 = m 85 2 := (f1 _ _ (by omega)).trans E89
  have Y125 : Y1 125 = m 125 := (f1' 125 (by decide)).trans e125
  have Y169 : Y1 169 = m 169 := (f1' 169 (by decide)).trans e169
  have val := fun (t : Int) (ht : ksb t (m 100 1)) => @kmeal_val m Y1 t hb hT hE on ht Y125 Y169
  obtain ⟨Y2, p2, a1, a2, a3⟩ := @lp_meal25 q c s Y1 (m 88) (m 100 1) (fun r t => @ite Int (ksb t (m 100 1)) (Classical.propDecidable _) (@ite Int (Y1 167 r < km_pop t ∨ kfd (m 88) t ∨ Y1 123 87 < km_pop (kor Y1 t 10)) (Classical.propDecidable _) (-1) (ksm (kgf Y1 t) 10)) (-1)) hw ((f1 _ _ (by omega)).trans E82) (by rw [Y189]; omega) (fun a b a0 a1 b0 b1 => ((h5 a a0 a1).2 b b0 b1).2.1) (fun a b b0 ba a1 => by rw [f1' 164 (by decide), e164]; exact ((h5 a (by omega) a1).2 b b0 (by omega)).1) (val 0 ksb_0).1 (fun r t _ _ _ => rfl) (m 85 2).toNat 0 none Y1 (by rw [Y189]; omega) (by decide) (fun _ _ _ => rfl) (fun x t' x0 ht' xr => by omega)
  rw [Y189] at a2 a3
  have W : ∀ p t : Int, 0 ≤ p → p < m 85 2 → ksb t (m 100 1) → Y2 171 (1024 * p + t) = @ite Int (m 87 p < km_pop t ∨ kfd (m 88) t ∨ m 89 3 < ksU m t) (Classical.propDecidable _) (-1) (kpr (ksR m) t) := fun p t p0 p1 ht => by
    obtain ⟨-, v2, v3⟩ := val t ht
    rw [a2 p t p0 (ksb_ten hw ht) p1, if_pos ht, v2, v3, f1' 167 (by decide), e167, (h4 p p0 p1).1, f1 123 87 (by omega), E87]
  have Wb : ∀ r t : Int, 0 ≤ r → r < (((m 85 2).toNat : Nat) : Int) → ten t → Y2 171 (1024 * r + t) ≤ 8000 ∧ -1 ≤ Y2 171 (1024 * r + t) := fun r t r0 r1 tt => by
    rw [nn] at r1
    by_cases z : ksb t (m 100 1)
    · have kb := @kpr_b (ksR m) t
      rw [W r t r0 r1 z]
      split <;> omega
    · rw [a2 r t r0 tt r1, if_neg z]; omega
  have rel : ∀ p t : Int, 0 ≤ p → p < m 85 2 → ksb t (m 100 1) → (ksF m p t ↔ klF (Y2 171) p t) ∧ (ksF m p t → klX (Y2 171) (-1) p t = ksX m p t + (fun _ => 0) t) := fun p t p0 p1 ht => by
    have kb := @kpr_b (ksR m) t
    have w := W p t p0 p1 ht
    unfold ksF klF klX ksX
    by_cases z : m 87 p < km_pop t ∨ kfd (m 88) t ∨ m 89 3 < ksU m t
    · rw [if_pos z] at w
      rw [w]
      have no : ¬ (ksb t (m 100 1) ∧ km_pop t ≤ m 87 p ∧ ¬ kfd (m 88) t ∧ ksU m t ≤ m 89 3) := by
        rintro ⟨_, u1, u2, u3⟩
        rcases z with z | z | z
        · omega
        · exact u2 z
        · omega
      exact ⟨⟨fun u => absurd u no, fun u => by omega⟩, fun u => absurd u no⟩
    · rw [if_neg z] at w
      rw [w]
      refine ⟨⟨fun u => by omega, fun u => ⟨ht, ?_, fun y => z (Or.inr (Or.inl y)), ?_⟩⟩, fun u => by show -1 * kpr (ksR m) t = -kpr (ksR m) t + 0; omega⟩
      · by_cases y : m 87 p < km_pop t
        · exact absurd (Or.inl y) z
        · omega
      · by_cases y : m 89 3 < ksU m t
        · exact absurd (Or.inr (Or.inr y)) z
        · omega
  have hV : ∀ S t : Int, ksb S (m 100 1) → ksb t S → (fun _ => (0 : Int)) S = (fun _ => 0) t + (fun _ => 0) (S - t) := fun S t hS ht => rfl
  have Y282 : Y2 123 82 = m 100 1 := (a1 _ _ (by decide)).trans ((f1 _ _ (by omega)).trans E82)
  have Y291 : Y2 123 91 = m 100 4 := (a1 _ _ (by decide)).trans ((f1 _ _ (by omega)).trans E91)
  have Y289 : Y2 123 89 = m 85 2 := (a1 _ _ (by decide)).trans Y189
  obtain ⟨Y3, d1, d2, d3⟩ := @md_laid q c s Y2 1 (-1) (-1) (m 85 2).toNat (Or.inr ⟨rfl, rfl, rfl⟩) (by omega) (by rw [Y282]; exact hw) Wb
  rw [nn, Y282] at d3
  have f3 : ∀ b j : Int, ¬ (b = 123 ∧ j = 2) → ¬ (171 ≤ b ∧ b ≤ 172) → Y3 b j = mm b j := fun b j z1 z2 => (d1 b j (by omega)).trans ((a1 b j (by omega)).trans (f1 b j z1))
  have Y382 : Y3 123 82 = m 100 1 := (d1 _ _ (by decide)).trans Y282
  have Y391 : Y3 123 91 = m 100 4 := (d1 _ _ (by decide)).trans Y291
  have Y389 : Y3 123 89 = m 85 2 := (d1 _ _ (by decide)).trans Y289
  have top := d2 0 (Nat.zero_le _) (m 100 1) hw
  rw [Nat.sub_zero, show 1024 * ((0 : Nat) : Int) + m 100 1 = m 100 1 by omega] at top
  have ch := fun v => kdD_ch2 (x := ksX m) (y := klX (Y2 171) (-1)) (f := ksF m) (g := klF (Y2 171)) (V := fun _ => 0) (N := m 85 2) hw hV rfl rel (m 85 2).toNat 0 (m 100 1) v (by decide) (by omega) (ksb_rf hw)
  have n8 : ¬ m 100 4 = 8 := by omega
  have Y180 : Y1 123 80 = 1 := (f1 _ _ (by omega)).trans E80
  have Y191 : Y1 123 91 = m 100 4 := (f1 _ _ (by omega)).trans E91
  constructor
  · intro v hv cc hc
    have hy := (ch v).mp hv
    rw [show v + (fun _ => (0 : Int)) (m 100 1) = v from Int.add_zero v] at hy
    have kb := klD_b (mo := 1) (no := -1) (Or.inr ⟨rfl, rfl, rfl⟩) hy
    have vt : Y3 172 (m 100 1) = -v := by
      rcases top with ⟨v', t1, t2⟩ | ⟨t1, t2⟩
      · have := kdD_un (show kdD (klX (Y2 171) (-1)) (klF (Y2 171)) (m 85 2).toNat 0 (m 100 1) v' from t1) hy
        rw [t2, this]; omega
      · exact absurd ⟨_, hy⟩ t1
    have hc2 := kdS_ch2 (x := ksX m) (y := klX (Y2 171) (-1)) (f := ksF m) (g := klF (Y2 171)) (V := fun _ => 0) (N := m 85 2) hw hV rfl rel (m 85 2).toNat 0 (m 100 1) (by decide) (by omega) (ksb_rf hw) hc
    obtain ⟨Y4, i1, i2, i3⟩ := @lp_meal110 q c s Y3 (-v) (m 100 1) (m 100 4) e4.1 m8 Y391 10 0 Y3 (by omega) (by decide) (fun _ _ _ => rfl) (fun j j0 j1 => by omega)
    have old : ∀ x y : Int, 0 ≤ y → y < x → x < 10 → Y3 169 (10 * x + y) = kNV Y3 cc 0 x y := fun x y y0 yx x1 => by
      have e : Y3 169 = m 169 := (funext fun j => (f3 169 j (by omega) (by omega))).trans e169
      unfold kNV
      rw [e, e8.2.2 on x y y0 yx x1]
      have no : ¬ kss cc 0 x y := fun ⟨p, h1, h2, _⟩ => by omega
      by_cases z : tb (m 112 y) x = true
      · rw [if_pos z, if_pos (Or.inl (by decide))]
      · rw [if_neg z, if_neg (fun w => w.elim (fun u => u rfl) no)]
    obtain ⟨Y5, k1, k2, k3, k4, k5⟩ := @lp_meal139 q c s Y3 (Y2 171) cc (-v) (m 100 1) (m 100 4) (m 85 2).toNat (by omega) (Y389.trans nn.symm) e4.1 m8 Y391 hw (funext fun j => d1 171 j (by decide)) Wb d2 (m 85 2).toNat 0 (m 100 1) none none none Y4 (by omega) hw hc2 (fun b j z1 z2 => i1 b j z1) i2 (fun x y y0 yx x1 => by rw [i1 169 _ (by omega)]; exact old x y y0 yx x1)
    rw [show ((0 : Nat) : Int) = 0 from rfl] at k5
    have lt : ¬ -v < 0 := by omega
    refine ⟨Y5, fun b j z1 z2 z3 z4 z5 => (k1 b j z1 z2 z3).trans (f3 b j z4 z5), k2, fun x y y0 yx x1 => ?_, k4, by omega, fun Q => ?_⟩
    · rw [k3 x y y0 yx x1]
      unfold kNV
      rw [show Y3 169 = m 169 from (funext fun j => (f3 169 j (by omega) (by omega))).trans e169]
    · rw [e_X12_meal]
      simp (config := { decide := true }) (disch := first | decide | assumption | omega | (simp (config := { decide := true }) only [km_sr_sf, km_sr_of, km_up_of, km_up_o, km_upx_i, km_upx_s, km_fl2_o, ne_eq, not_true_eq_false, not_false_eq_true] <;> omega) | fail) only [g_X12_meal, Y180, Y191, n8, ← hY1, a3, ka_lt, ka_le, ka_nlt, ka_nle, ka_ne, ka_eq, Int.add_sub_cancel, true_or, or_true, false_or, or_false, false_and, and_false, if_true, if_false, ka_lo, ka_hi, ka_nn, km_sr_sf, km_sr_of, km_up_of, km_sr_us, km_sr_uo, km_sr_sr, km_sr_fl, km_sr_flo, km_up_up, km_up_lt, km_lay, km_unL, km_up_o, km_upx_i, km_upx_s, km_fl2_o, km_is, Option.some.injEq, Sum.inl.injEq, Sum.inr.injEq, Option.toList_some, Option.toList_none, List.cons_append, List.nil_append, ne_eq, true_and, and_true, and_self, not_true_eq_false, not_false_eq_true, true_implies, false_implies, reduceCtorEq]
      rw [g_X12_meal_25]
      simp (config := { decide := true }) (disch := first | decide | assumption | omega | (simp (config := { decide := true }) only [km_sr_sf, km_sr_of, km_up_of, km_up_o, km_upx_i, km_upx_s, km_fl2_o, ne_eq, not_true_eq_false, not_false_eq_true] <;> omega) | fail) only [g_X12_meal, Y289, Int.lt_irrefl, d3, vt, lt, Y382, i3, k5, ka_lt, ka_le, ka_nlt, ka_nle, ka_ne, ka_eq, Int.add_sub_cancel, true_or, or_true, false_or, or_false, false_and, and_false, if_true, if_false, ka_lo, ka_hi, ka_nn, km_sr_sf, km_sr_of, km_up_of, km_sr_us, km_sr_uo, km_sr_sr, km_sr_fl, km_sr_flo, km_up_up, km_up_lt, km_lay, km_unL, km_up_o, km_upx_i, km_upx_s, km_fl2_o, km_is, Option.some.injEq, Sum.inl.injEq, Sum.inr.injEq, Option.toList_some, Option.toList_none, List.cons_append, List.nil_append, ne_eq, true_and, and_true, and_self, not_true_eq_false, not_false_eq_true, true_implies, false_implies, reduceCtorEq]
  · intro hv
    have hy : ¬ ∃ v, kdD (klX (Y2 171) (-1)) (klF (Y2 171)) (m 85 2).toNat 0 (m 100 1) v := fun ⟨v, w⟩ => hv ⟨v, (ch _).mpr (by show kdD _ _ _ _ _ (v + 0); rw [Int.add_zero]; exact w)⟩
    have vt : Y3 172 (m 100 1) = -1 := by
      rcases top with ⟨v', t1, t2⟩ | ⟨t1, t2⟩
      · exact absurd ⟨_, t1⟩ hy
      · exact t2
    refine ⟨Y3, f3, fun Q => ?_⟩
    rw [e_X12_meal]
    simp (config := { decide := true }) (disch := first | decide | assumption | omega | (simp (config := { decide := true }) only [km_sr_sf, km_sr_of, km_up_of, km_up_o, km_upx_i, km_upx_s, km_fl2_o, ne_eq, not_true_eq_false, not_false_eq_true] <;> omega) | fail) only [g_X12_meal, Y180, Y191, n8, ← hY1, a3, ka_lt, ka_le, ka_nlt, ka_nle, ka_ne, ka_eq, Int.add_sub_cancel, true_or, or_true, false_or, or_false, false_and, and_false, if_true, if_false, ka_lo, ka_hi, ka_nn, km_sr_sf, km_sr_of, km_up_of, km_sr_us, km_sr_uo, km_sr_sr, km_sr_fl, km_sr_flo, km_up_up, km_up_lt, km_lay, km_unL, km_up_o, km_upx_i, km_upx_s, km_fl2_o, km_is, Option.some.injEq, Sum.inl.injEq, Sum.inr.injEq, Option.toList_some, Option.toList_none, List.cons_append, List.nil_append, ne_eq, true_and, and_true, and_self, not_true_eq_false, not_false_eq_true, true_implies, false_implies, reduceCtorEq]
    rw [g_X12_meal_25]
    simp (config := { decide := true }) (disch := first | decide | assumption | omega | (simp (config := { decide := true }) only [km_sr_sf, km_sr_of, km_up_of, km_up_o, km_upx_i, km_upx_s, km_fl2_o, ne_eq, not_true_eq_false, not_false_eq_true] <;> omega) | fail) only [g_X12_meal, Y289, Int.lt_irrefl, d3, vt, ka_lt, ka_le, ka_nlt, ka_nle, ka_ne, ka_eq, Int.add_sub_cancel, true_or, or_true, false_or, or_false, false_and, and_false, if_true, if_false, ka_lo, ka_hi, ka_nn, km_sr_sf, km_sr_of, km_up_of, km_sr_us, km_sr_uo, km_sr_sr, km_sr_fl, km_sr_flo, km_up_up, km_up_lt, km_lay, km_unL, km_up_o, km_upx_i, km_upx_s, km_fl2_o, km_is, Option.some.injEq, Sum.inl.injEq, Sum.inr.injEq, Option.toList_some, Option.toList_none, List.cons_append, List.nil_append, ne_eq, true_and, and_true, and_self, not_true_eq_false, not_false_eq_true, true_implies, false_implies, reduceCtorEq]
theorem fc_meal {N : Int} {q : Nat × Int × Int × Int × Int} {c s : Nat} {m : km_Mm} (h : kI0 N m) : kF M_X11_meal M_X12_meal [] N q c s m := by
  intro Q1 Q2
  have hi := h
  obtain ⟨hB, hR, hT, hO, hM, hF, hH, hE, hS, hA⟩ := h
  obtain ⟨⟨e1a, e1b⟩, ⟨e2, hw, e3⟩, e4, e5, e6, e7, e8, e9, e10⟩ := id hE
  by_cases on : m 100 0 = -1
  · refine ⟨.inl (-1), m, km_up m 123 2 0, ?_, ?_, kI0_t hi, kP_t⟩
    · rw [e_X11_meal]
      simp (config := { decide := true }) (disch := first | decide | assumption | omega | (simp (config := { decide := true }) only [km_sr_sf, km_sr_of, km_up_of, km_up_o, km_upx_i, km_upx_s, km_fl2_o, ne_eq, not_true_eq_false, not_false_eq_true] <;> omega) | fail) only [g_X11_meal, r_isOn, on, Int.add_sub_cancel, true_or, or_true, false_or, or_false, false_and, and_false, if_true, if_false, ka_lo, ka_hi, ka_nn, km_sr_sf, km_sr_of, km_up_of, km_sr_us, km_sr_uo, km_sr_sr, km_sr_fl, km_sr_flo, km_up_up, km_up_lt, km_lay, km_unL, km_up_o, km_upx_i, km_upx_s, km_fl2_o, km_is, Option.some.injEq, Sum.inl.injEq, Sum.inr.injEq, Option.toList_some, Option.toList_none, List.cons_append, List.nil_append, ne_eq, true_and, and_true, and_self, not_true_eq_false, not_false_eq_true, true_implies, false_implies, reduceCtorEq]
    · rw [if_pos on] at e1b
      rw [e_X12_meal]
      simp (config := { decide := true }) (disch := first | decide | assumption | omega | (simp (config := { decide := true }) only [km_sr_sf, km_sr_of, km_up_of, km_up_o, km_upx_i, km_upx_s, km_fl2_o, ne_eq, not_true_eq_false, not_false_eq_true] <;> omega) | fail) only [g_X12_meal, e1b, Int.add_sub_cancel, true_or, or_true, false_or, or_false, false_and, and_false, if_true, if_false, ka_lo, ka_hi, ka_nn, km_sr_sf, km_sr_of, km_up_of, km_sr_us, km_sr_uo, km_sr_sr, km_sr_fl, km_sr_flo, km_up_up, km_up_lt, km_lay, km_unL, km_up_o, km_upx_i, km_upx_s, km_fl2_o, km_is, Option.some.injEq, Sum.inl.injEq, Sum.inr.injEq, Option.toList_some, Option.toList_none, List.cons_append, List.nil_append, ne_eq, true_and, and_true, and_self, not_true_eq_false, not_false_eq_true, true_implies, false_implies, reduceCtorEq]
  by_cases m8 : m 100 4 < 8
  case neg =>
    have m8' : m 100 4 = 8 := by omega
    refine ⟨.inl (-1), m, km_up m 123 2 0, ?_, ?_, kI0_t hi, kP_t⟩
    · rw [e_X11_meal]
      simp (config := { decide := true }) (disch := first | decide | assumption | omega | (simp (config := { decide := true }) only [km_sr_sf, km_sr_of, km_up_of, km_up_o, km_upx_i, km_upx_s, km_fl2_o, ne_eq, not_true_eq_false, not_false_eq_true] <;> omega) | fail) only [g_X11_meal, r_isOn, on, m8', Int.add_sub_cancel, true_or, or_true, false_or, or_false, false_and, and_false, if_true, if_false, ka_lo, ka_hi, ka_nn, km_sr_sf, km_sr_of, km_up_of, km_sr_us, km_sr_uo, km_sr_sr, km_sr_fl, km_sr_flo, km_up_up, km_up_lt, km_lay, km_unL, km_up_o, km_upx_i, km_upx_s, km_fl2_o, km_is, Option.some.injEq, Sum.inl.injEq, Sum.inr.injEq, Option.toList_some, Option.toList_none, List.cons_append, List.nil_append, ne_eq, true_and, and_true, and_self, not_true_eq_false, not_false_eq_true, true_implies, false_implies, reduceCtorEq]
    · rw [if_neg on] at e1b
      have E91 : m 123 91 = 8 := by omega
      rw [e_X12_meal]
      simp (config := { decide := true }) (disch := first | decide | assumption | omega | (simp (config := { decide := true }) only [km_sr_sf, km_sr_of, km_up_of, km_up_o, km_upx_i, km_upx_s, km_fl2_o, ne_eq, not_true_eq_false, not_false_eq_true] <;> omega) | fail) only [g_X12_meal, e1b, E91, Int.add_sub_cancel, true_or, or_true, false_or, or_false, false_and, and_false, if_true, if_false, ka_lo, ka_hi, ka_nn, km_sr_sf, km_sr_of, km_up_of, km_sr_us, km_sr_uo, km_sr_sr, km_sr_fl, km_sr_flo, km_up_up, km_up_lt, km_lay, km_unL, km_up_o, km_upx_i, km_upx_s, km_fl2_o, km_is, Option.some.injEq, Sum.inl.injEq, Sum.inr.injEq, Option.toList_some, Option.toList_none, List.cons_append, List.nil_append, ne_eq, true_and, and_true, and_self, not_true_eq_false, not_false_eq_true, true_implies, false_implies, reduceCtorEq]
  obtain ⟨v, M5, a1, a2, a3, a4⟩ := @cl_findSeating q c s m m hB hH hE km_jk_rf
  have f1 := hB.1
  have f4 : 0 ≤ m 85 2 ∧ m 85 2 ≤ 3 := ⟨hH.2.2.1.1, hH.2.2.1.2.1⟩
  have nn : (((m 85 2).toNat : Nat) : Int) = m 85 2 := by omega
  have M852 : M5 85 2 = m 85 2 := a1 85 2 (by decide) (by decide)
  have xb := fun (p t : Int) (w : ksF m p t) => show -5445 ≤ ksX m p t ∧ ksX m p t ≤ 5445 from by have := @kpr_b (ksR m) t; unfold ksX; omega
  have mj : ∀ X : km_Mm, (∀ b j : Int, 123 ≤ b → X b j = m b j) → kMj m X := fun X hX b j hb z => hX b j hb
  by_cases ex : ∃ v', kdD (ksX m) (ksF m) (m 85 2).toNat 0 (m 100 1) v'
  · have hv : kdD (ksX m) (ksF m) (m 85 2).toNat 0 (m 100 1) v := by
      rcases a2 with w | w
      · exact w
      · exact absurd ex w.1
    have hS5 := a3 hv
    have vb := kdD_b xb _ _ _ _ hv
    have v5 : ¬ 500000 < v := by omega
    have tS : ∀ p : Int, 0 ≤ p → p < m 85 2 → ksb (M5 99 p) (m 100 1) := fun p p0 p1 => kdS_in _ 0 _ hw hS5 p p0 (by omega)
    have ap : ∀ i j k : Int, 0 ≤ i → i < j → j < m 85 2 → 0 ≤ k → ¬ (tb (M5 99 i) k = true ∧ tb (M5 99 j) k = true) := fun i j k i0 ij jn k0 => kdS_ap _ 0 _ hw hS5 i j k i0 ij (by omega) k0
    obtain ⟨m1, c1, c2, c3, c4, c5⟩ := @cl_keepMeal q c s M5 (m 85 2) (m 100 4) f4.1 (by omega) (fun p p0 p1 => ksb_ten hw (tS p p0 p1)) e4.1 m8 (a1 100 4 (by decide) (by decide))
    obtain ⟨m2, i1, i2, i3, i4, i5, i6⟩ := (@md_meal q c s m m1 hB hT hH hE on m8 (mj m1 (fun b j hb => (c1 b j (by omega) (by omega) (by omega)).trans (a1 b j (by omega) (by omega))))).1 v hv (M5 99) hS5
    have ne : ¬ -v = -1 := by omega
    refine ⟨.inl (-v), m1, m2, ?_, i6 Q2, ?_⟩
    · rw [if_neg v5] at a4
      have nm : ¬ 8 ≤ m 100 4 := by omega
      rw [e_X11_meal]
      simp (config := { decide := true }) (disch := first | decide | assumption | omega | (simp (config := { decide := true }) only [km_sr_sf, km_sr_of, km_up_of, km_up_o, km_upx_i, km_upx_s, km_fl2_o, ne_eq, not_true_eq_false, not_false_eq_true] <;> omega) | fail) only [g_X11_meal, r_isOn, on, m8, a4, ne, M852, c5, Int.add_sub_cancel, true_or, or_true, false_or, or_false, false_and, and_false, if_true, if_false, ka_lo, ka_hi, ka_nn, km_sr_sf, km_sr_of, km_up_of, km_sr_us, km_sr_uo, km_sr_sr, km_sr_fl, km_sr_flo, km_up_up, km_up_lt, km_lay, km_unL, km_up_o, km_upx_i, km_upx_s, km_fl2_o, km_is, Option.some.injEq, Sum.inl.injEq, Sum.inr.injEq, Option.toList_some, Option.toList_none, List.cons_append, List.nil_append, ne_eq, true_and, and_true, and_self, not_true_eq_false, not_false_eq_true, true_implies, false_implies, reduceCtorEq]
    · have fr : ∀ b j : Int, ¬ kJ b j → ¬ (b = 100 ∧ j = 4) → ¬ (101 ≤ b ∧ b ≤ 112) → ¬ (b = 123 ∧ j = 91) → ¬ (b = 166 ∨ b = 168 ∨ b = 169 ∨ b = 170) → m2 b j = m b j := fun b j z1 z2 z3 z4 z5 => by
        rw [i1 b j (by omega) (by omega) z4 (by unfold kJ at z1; omega) (by unfold kJ at z1; omega), c1 b j (by omega) (by omega) z2]
        exact a1 b j (by unfold kJ at z1; omega) (by unfold kJ at z1; omega)
      refine kI0_mt hi fr (funext fun j => by rw [i1 52 j (by omega) (by omega) (by omega) (by omega) (by omega), c1 52 j (by omega) (by omega) (by omega), a1 52 j (by omega) (by omega)]) ?_
      have r : ∀ b j : Int, (100 ≤ b ∧ b ≤ 111) ∨ b = 166 ∨ b = 170 → b ≠ 104 + m 100 4 → ¬ (b = 100 ∧ j = 4) → m2 b j = m b j := fun b j hb z1 z2 => by
        rw [i1 b j (by omega) (by omega) (by omega) (by omega) (by omega), c1 b j (by omega) (by omega) z2]
        exact a1 b j (by omega) (by omega)
      have t : ∀ j : Int, j = 80 ∨ j = 81 ∨ j = 82 → m2 123 j = m 123 j := fun j hj => fr 123 j (by unfold kJ; omega) (by omega) (by omega) (by omega) (by omega)
      have r5 : m2 5 1 = m 5 1 := fr 5 1 (by unfold kJ; omega) (by decide) (by decide) (by decide) (by decide)
      have r19 : m2 19 1 = m 19 1 := fr 19 1 (kJ_no (by decide)) (by decide) (by decide) (by decide) (by decide)
      have up4 : m2 100 4 = m 100 4 + 1 := by rw [i1 100 4 (by omega) (by omega) (by omega) (by omega) (by omega)]; exact c4
      have up104 : ∀ j : Int, 0 ≤ j → j < 10 → m2 (104 + m 100 4) j = kdP (M5 99) (m 85 2).toNat j := fun j j0 j1 => by rw [i1 _ j (by omega) (by omega) (by omega) (by omega) (by omega)]; exact c2 j j0 j1
      have up112 : ∀ j : Int, 0 ≤ j → j < 10 → m2 112 j = kst M5 (kdP (M5 99) (m 85 2).toNat) j := fun j j0 j1 => by rw [i1 _ j (by omega) (by omega) (by omega) (by omega) (by omega)]; exact c3 j j0 j1
      have M5112 : ∀ j, M5 112 j = m 112 j := fun j => a1 112 j (by decide) (by decide)
      have r101 : ∀ j, m2 101 j = m 101 j := fun j => r 101 j (by decide) (by omega) (by omega)
      have r102 : ∀ j, m2 102 j = m 102 j := fun j => r 102 j (by decide) (by omega) (by omega)
      have r166 : ∀ j, m2 166 j = m 166 j := fun j => r 166 j (by decide) (by omega) (by omega)
      have r170 : ∀ j, m2 170 j = m 170 j := fun j => r 170 j (by decide) (by omega) (by omega)
      unfold kI_meet
      rw [r5, r19, t 80 (by decide), t 81 (by decide), t 82 (by decide), i4, up4, r 100 0 (by decide) (by omega) (by decide), r 100 1 (by decide) (by omega) (by decide)]
      simp only [r101, r170, r102, r166]
      refine ⟨⟨e1a, e1b⟩, ⟨e2, hw, e3⟩, ⟨by omega, by omega, trivial⟩, e5, fun w => absurd w on, e7, fun d k d0 d1 k0 k1 => ?_, fun a a0 a1 => ?_, fun _ a b b0 ba a1 => ?_⟩
      · by_cases ed : d = m 100 4
        · subst ed
          rw [up104 k k0 k1, i2 k k0 k1]
          have pb := (kdP_b (cc := M5 99) (j := k) (m 85 2).toNat).1
          refine ⟨by omega, fun _ => rfl, fun hk => ?_⟩
          refine kdP_no _ (fun p p0 p1 => ?_)
          cases z : tb (M5 99 p) k
          · rfl
          · have := ((ksb_tb hw).mp (tS p p0 (by omega))).2 k k0 z
            rw [e3 k hk k1] at this; cases this
        · rw [r (104 + d) k (by omega) (by omega) (by omega), i1 168 _ (by omega) (by omega) (by omega) (by omega) (by omega), c1 168 _ (by omega) (by omega) (by omega), a1 168 _ (by omega) (by omega)]
          exact e8 d k d0 (by omega) k0 k1
      · rw [up112 a a0 a1]
        unfold kst
        have pb := (kdP_b (cc := M5 99) (j := a) (m 85 2).toNat).1
        by_cases z : kdP (M5 99) (m 85 2).toNat a = -1
        · rw [if_pos z, M5112]; exact e9 a a0 a1
        · rw [if_neg z, M5112]
          exact ten_or (e9 a a0 a1) (ksb_ten hw (tS _ (by omega) (by omega)))
      · rw [i3 a b b0 ba a1, up112 b b0 (by omega)]
        unfold kNV
        have old := e10 on a b b0 ba a1
        obtain ⟨pb, py⟩ := kdP_b (cc := M5 99) (j := b) (m 85 2).toNat
        have t9 := e9 b b0 (by omega)
        have iff : (m 169 (10 * a + b) ≠ 0 ∨ kss (M5 99) (((m 85 2).toNat : Nat) : Int) a b) ↔ tb (kst M5 (kdP (M5 99) (m 85 2).toNat) b) a = true := by
          rw [old]
          unfold kst
          by_cases z : kdP (M5 99) (m 85 2).toNat b = -1
          · rw [if_pos z, M5112]
            constructor
            · rintro (w | ⟨p, p0, p1, w1, w2⟩)
              · by_cases y : tb (m 112 b) a = true
                · exact y
                · rw [if_neg y] at w; exact absurd rfl w
              · exfalso
                have := @kdP_yes (M5 99) b p (m 85 2).toNat p0 p1 w2 (fun p' q0 q1 qn w => by
                  rcases Int.lt_or_gt_of_ne qn with l | l
                  · exact ap p' p b q0 l (by omega) b0 ⟨w, w2⟩
                  · exact ap p p' b p0 l (by omega) b0 ⟨w2, w⟩)
                omega
            · intro w; left; rw [if_pos w]; decide
          · have tp := tS (kdP (M5 99) (m 85 2).toNat b) (by omega) (by omega)
            have tt := ksb_ten hw tp
            have yb := py z
            rw [if_neg z, M5112, tb_or t9.1 (by unfold ten at t9; omega) tt.1 (by unfold ten at tt; omega), Bool.or_eq_true]
            constructor
            · rintro (w | ⟨p, p0, p1, w1, w2⟩)
              · by_cases y : tb (m 112 b) a = true
                · exact Or.inl y
                · rw [if_neg y] at w; exact absurd rfl w
              · right
                have e : p = kdP (M5 99) (m 85 2).toNat b := by
                  refine Classical.byContradiction fun qn => ?_
                  rcases Int.lt_or_gt_of_ne qn with l | l
                  · exact ap p _ b p0 l (by omega) b0 ⟨w2, yb⟩
                  · exact ap _ p b (by omega) l (by omega) b0 ⟨yb, w2⟩
                rw [← e]; exact w1
            · rintro (w | w)
              · left; rw [if_pos w]; decide
              · exact Or.inr ⟨_, by omega, by omega, w, yb⟩
        by_cases z : tb (kst M5 (kdP (M5 99) (m 85 2).toNat) b) a = true
        · rw [if_pos z, if_pos (iff.mpr z)]
        · rw [if_neg z, if_neg (fun w => z (iff.mp w))]
  · have v5 : 500000 < v := by
      rcases a2 with w | w
      · exact absurd ⟨_, w⟩ ex
      · omega
    rw [if_pos v5] at a4
    obtain ⟨m2, i1, i2⟩ := (@md_meal q c s m M5 hB hT hH hE on m8 (mj M5 (fun b j hb => a1 b j (by omega) (by omega)))).2 ex
    have nm : ¬ 8 ≤ m 100 4 := by omega
    have e : ∀ b j : Int, ¬ kJ b j → m2 b j = m b j := fun b j z1 => by
      rw [i1 b j (by unfold kJ at z1; omega) (by unfold kJ at z1; omega)]
      exact a1 b j (by unfold kJ at z1; omega) (by unfold kJ at z1; omega)
    refine ⟨.inl (-1), M5, m2, ?_, i2 Q2, kI0_jk hi e ?_, kP_jk e⟩
    · rw [e_X11_meal]
      simp (config := { decide := true }) (disch := first | decide | assumption | omega | (simp (config := { decide := true }) only [km_sr_sf, km_sr_of, km_up_of, km_up_o, km_upx_i, km_upx_s, km_fl2_o, ne_eq, not_true_eq_false, not_false_eq_true] <;> omega) | fail) only [g_X11_meal, r_isOn, on, m8, a4, Int.add_sub_cancel, true_or, or_true, false_or, or_false, false_and, and_false, if_true, if_false, ka_lo, ka_hi, ka_nn, km_sr_sf, km_sr_of, km_up_of, km_sr_us, km_sr_uo, km_sr_sr, km_sr_fl, km_sr_flo, km_up_up, km_up_lt, km_lay, km_unL, km_up_o, km_upx_i, km_upx_s, km_fl2_o, km_is, Option.some.injEq, Sum.inl.injEq, Sum.inr.injEq, Option.toList_some, Option.toList_none, List.cons_append, List.nil_append, ne_eq, true_and, and_true, and_self, not_true_eq_false, not_false_eq_true, true_implies, false_implies, reduceCtorEq]
    · unfold kI_scr
      rw [i1 52 7 (by omega) (by omega), i1 52 8 (by omega) (by omega), a1 52 7 (by omega) (by omega), a1 52 8 (by omega) (by omega)]
      exact hR

