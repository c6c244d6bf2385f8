/-! ===== the class's machine works out an expression: joins, signs, HEAPS ===== -/
section KC
variable {q q' : Nat × Int × Int × Int × Int} {c s : Nat} {X W : km_Mm} {P ln h n a b t x top hp hv ht i : Int} {N : Int → Prop} {V : Int → Int → Int} {al : List Int} {f : Nat} {σ : Int → Int} {Q : Option km_V → km_Al → km_Mm → Prop}
/-- and, or -/
theorem sc_join {m t1 t2 o : Int} {r1 : Option Int} {r2 : Option Int} (hq : q.2.2.2.2 = P) (hP : P = 40 ∨ P = 46) (h4 : X P 4 ≤ 367) (hb : 0 ≤ a ∧ a < m ∧ m + 1 < b - 1 ∧ b ≤ X P 4) (ht0 : 0 ≤ top ∧ top + (t1 + t2 + 1) ≤ 121 ∧ 1 ≤ t1 ∧ 1 ≤ t2) (hi : 0 ≤ i ∧ i + kTm h (b - a) ≤ 99999) (k1 : kcR q c s X P ln h x a m i (kTm h (m - a)) top hp hv ht σ r1) (ho : o = 24 ∨ o = 25) (x1 : X (P + 1) m = o) (x2 : X (P + 2) m = b)
    (k2 : ∀ (i hp hv ht : Int) (σ : Int → Int), 0 ≤ i → i + kTm h (b - 1 - (m + 1)) ≤ 99999 → kcR q c s X P ln h x (m + 1) (b - 1) i (kTm h (b - 1 - (m + 1))) top hp hv ht σ r2) (h12 : ∀ v, r2 = some v → k12 v) (x3 : X (P + 1) (b - 1) = 51) :
    kcR q c s X P ln h x a b i (kTm h (b - a)) top hp hv ht σ (kjn o r1 r2) := by
  have T1 := @kTm_e h (b - a)
  have T2 := @kTm_e h (m - a)
  have T3 := @kTm_e h (b - 1 - (m + 1))
  cases r1 with
  | none => exact sc_none k1 rfl
  | some v =>
    obtain ⟨i1, hp1, hv1, ht1, σ1, b1, b2, b3, b4, b5⟩ := k1.2 v rfl
    have jn := fun Q => @t4_join q c s X m (top + 1) hp1 x hv1 ht1 b σ1 Q o (by omega) (by omega) ho
    rw [show top + 1 - 1 = top by omega, b4] at jn
    show kcR q c s X P ln h x a b i (kTm h (b - a)) top hp hv ht σ (if (v = 0) = (o = 25) then some (if o = 25 then 0 else 1) else kmt r2)
    by_cases z : (v = 0) = (o = 25)
    · rw [if_pos z]
      simp only [if_pos z] at jn
      refine ⟨fun w => (by cases w), fun w hw => ⟨i1 + 1, hp1, hv1, ht1, km_u1 σ1 top w, by omega, b2, fun j hj => by rw [km_u1_o (by omega)]; exact b3 j hj, km_u1_s, fun Q => ?_⟩⟩
      cases hw
      rw [b5 Q, c4_it hq hP (by omega) (by omega) h4 x1 x2 jn]
    · rw [if_neg z]
      simp only [if_neg z] at jn
      have e1 : ∀ Q : Option km_V → km_Al → km_Mm → Prop, km_G M_X4_value 37 [some (.inr (.inr 69)), some (.inr (.inr P)), some (.inl ln), some (.inl i)] [] (km_A0 q c s) (kmM X a top 0 0 hp x hv ht σ) Q ↔ km_G M_X4_value 37 [some (.inr (.inr 69)), some (.inr (.inr P)), some (.inl ln), some (.inl (i1 + 1))] [] (km_A0 q c s) (kmM X (m + 1) top 0 0 hp1 x hv1 ht1 σ1) Q := fun Q => by
        rw [b5 Q, c4_it hq hP (by omega) (by omega) h4 x1 x2 jn]
      refine sc_then (T1 := kTm h (m - a) + 1) (T2 := kTm h (b - 1 - (m + 1)) + 1) e1 b2 b3 (by omega) (by omega) ?_
      have kk := k2 (i1 + 1) hp1 hv1 ht1 σ1 (by omega) (by omega)
      cases r2 with
      | none => exact sc_none kk rfl
      | some u =>
        obtain ⟨i2, hp2, hv2, ht2, σ2, d1, d2, d3, d4, d5⟩ := kk.2 u rfl
        have u12 := h12 u rfl
        refine ⟨fun w => (by cases w), fun w hw => ⟨i2 + 1, hp2, hv2, ht2, km_u1 σ2 top w, by omega, d2, fun j hj => by rw [km_u1_o (by omega)]; exact d3 j hj, km_u1_s, fun Q => ?_⟩⟩
        cases hw
        rw [d5 Q, c4_it hq hP (by omega) (by omega) h4 x3 rfl (fun Q => t4_one (u := ktr u) (by omega) (by omega) (by rw [show top + 1 - 1 = top by omega, d4]; exact u12) (by
          rw [show top + 1 - 1 = top by omega, d4]; exact Or.inr (Or.inr ⟨rfl, rfl⟩)))]
        rw [show b - 1 + 1 = b by omega, show top + 1 - 1 = top by omega]
/-- a sign between -/
theorem sc_sign {m t1 t2 k : Int} {r1 r2 : Option Int} (hq : q.2.2.2.2 = P) (hP : P = 40 ∨ P = 46) (h4 : X P 4 ≤ 367) (hb : 0 ≤ a ∧ a < m ∧ m < b - 1 ∧ b ≤ X P 4) (ht0 : 0 ≤ top ∧ top + (t1 + t2 + 1) ≤ 121 ∧ 1 ≤ t1 ∧ 1 ≤ t2) (hi : 0 ≤ i ∧ i + kTm h (b - a) ≤ 99999) (hk : 10 ≤ k ∧ k ≤ 20) (k1 : kcR q c s X P ln h x a m i (kTm h (m - a)) top hp hv ht σ r1) (h11 : ∀ v, r1 = some v → k12 v)
    (k2 : ∀ (i hp hv ht : Int) (σ : Int → Int), 0 ≤ i → i + kTm h (b - 1 - m) ≤ 99999 → kcR q c s X P ln h x m (b - 1) i (kTm h (b - 1 - m)) (top + 1) hp hv ht σ r2) (h12 : ∀ v, r2 = some v → k12 v) (x3 : X (P + 1) (b - 1) = ksg k) :
    kcR q c s X P ln h x a b i (kTm h (b - a)) top hp hv ht σ (ksn k r1 r2) := by
  have T1 := @kTm_e h (b - a)
  have T2 := @kTm_e h (m - a)
  have T3 := @kTm_e h (b - 1 - m)
  cases r1 with
  | none => exact sc_none k1 rfl
  | some v =>
    obtain ⟨i1, hp1, hv1, ht1, σ1, b1, b2, b3, b4, b5⟩ := k1.2 v rfl
    have kk := k2 i1 hp1 hv1 ht1 σ1 (by omega) (by omega)
    have v12 := h11 v rfl
    cases r2 with
    | none =>
      obtain ⟨a1, a2, a3, a4, a5, a6, a7, a8, a9⟩ := kk.1 rfl
      exact ⟨fun _ => ⟨a1, a2, a3, a4, a5, a6, a7, a8, fun Q => (b5 Q).trans (a9 Q)⟩, fun w hw => (by cases hw)⟩
    | some u =>
      obtain ⟨i2, hp2, hv2, ht2, σ2, d1, d2, d3, d4, d5⟩ := kk.2 u rfl
      have u12 := h12 u rfl
      have s0 : σ2 top = v := (d3 top (by omega)).trans b4
      obtain ⟨σ', g1, g2, g3⟩ := @c4_sign q c s X (b - 1 + 1) (top + 1 + 1) 0 hp2 x hv2 ht2 σ2 k hk (by omega) (by rw [show top + 1 + 1 - 1 - 1 = top by omega, s0]; exact v12) (by rw [show top + 1 + 1 - 1 = top + 1 by omega, d4]; exact u12)
      rw [show top + 1 + 1 - 1 - 1 = top by omega] at g1 g2
      rw [show top + 1 + 1 - 1 = top + 1 by omega, d4, s0] at g2
      have e1 : ∀ Q : Option km_V → km_Al → km_Mm → Prop, km_G M_X4_value 37 [some (.inr (.inr 69)), some (.inr (.inr P)), some (.inl ln), some (.inl i)] [] (km_A0 q c s) (kmM X a top 0 0 hp x hv ht σ) Q ↔ km_G M_X4_value 37 [some (.inr (.inr 69)), some (.inr (.inr P)), some (.inl ln), some (.inl (i2 + 1))] [] (km_A0 q c s) (kmM X (b - 1 + 1) (top + 1) (if kmd k v u = none then 1 else 0) 0 hp2 x hv2 ht2 σ') Q := fun Q => by
        rw [b5 Q, d5 Q, c4_it hq hP (by omega) (by omega) h4 x3 rfl (fun Q => t4_sign (by omega) hk (fun Q => by
          have g := g3 Q
          rw [show top + 1 + 1 - 1 - 1 = top by omega, show top + 1 + 1 - 1 = top + 1 by omega, d4, s0] at g
          exact g))]
      refine ⟨fun w => ?_, fun w hw => ⟨i2 + 1, hp2, hv2, ht2, σ', by omega, fun hh => by have := b2 hh; have := d2 hh; omega, fun j hj => by rw [g1 j (by omega), d3 j (by omega)]; exact b3 j hj, g2 w hw, fun Q => ?_⟩⟩
      · refine ⟨b - 1 + 1, top + 1, 0, hp2, x, hv2, ht2, σ', fun Q => ?_⟩
        have w : kmd k v u = none := w
        rw [e1 Q, if_pos w, c4_fail (by omega)]
      · have hw : kmd k v u = some w := hw
        rw [e1 Q, if_neg (by rw [hw]; exact fun w => by cases w), show b - 1 + 1 = b by omega]
/-- what is worked out of one in a HEAP -/
def kLst (D : Int) : List Int → Int
  | [] => 0
  | _ :: l => D + kLst D l
theorem kLst_l {D : Int} (h : 0 ≤ D) : ∀ (l : List Int), l.length ≤ 10 → 0 ≤ kLst D l ∧ kLst D l ≤ 10 * D := by
  have g : ∀ (l : List Int) (n : Nat), l.length ≤ n → n ≤ 10 → 0 ≤ kLst D l ∧ kLst D l ≤ n * D := by
    intro l
    induction l with
    | nil => intro n _ _; exact ⟨Int.le_refl _, Int.mul_nonneg (by omega) h⟩
    | cons x l ih =>
      intro n hn h10
      rw [List.length_cons] at hn
      have := ih (n - 1) (by omega) (by omega)
      have e : ((n : Nat) : Int) = ((n - 1 : Nat) : Int) + 1 := by omega
      unfold kLst
      rw [e, Int.add_mul, Int.one_mul]
      omega
  intro l hl
  exact g l 10 hl (by omega)
end KC

