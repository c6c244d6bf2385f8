/-! ===== the class's machine works out a HEAP ===== -/
def kHr (q : Nat × Int × Int × Int × Int) (c s : Nat) (X : km_Mm) (P ln a b top i T : Int) (σ : Int → Int) (st : km_Mm) (r : Option (Int × Int)) : Prop :=
  (r = none → ∃ (a1 t1 s1 p1 k1 v1 c1 : Int) (σ1 : Int → Int), ∀ Q : Option km_V → km_Al → km_Mm → Prop, km_G M_X4_value 37 [some (.inr (.inr 69)), some (.inr (.inr P)), some (.inl ln), some (.inl i)] [] (km_A0 q c s) st Q ↔ Q (some (.inr (.inl (-9223372036854775808)))) (km_A0 q c s) (kmM X a1 t1 1 s1 p1 k1 v1 c1 σ1)) ∧
  (∀ s' : Int × Int, r = some s' → ∃ (i' hv' ht' : Int) (σ' : Int → Int), (i ≤ i' ∧ i' ≤ i + T) ∧ (∀ j : Int, j < top → σ' j = σ j) ∧ σ' top = s'.1 ∧ ∀ Q : Option km_V → km_Al → km_Mm → Prop, km_G M_X4_value 37 [some (.inr (.inr 69)), some (.inr (.inr P)), some (.inl ln), some (.inl i)] [] (km_A0 q c s) st Q ↔ km_G M_X4_value 37 [some (.inr (.inr 69)), some (.inr (.inr P)), some (.inl ln), some (.inl i')] [] (km_A0 q c s) (kmM X b (top + 1) 0 0 a (-1) hv' ht' σ') Q)
section KH
variable {q : Nat × Int × Int × Int × Int} {c s : Nat} {X W : km_Mm} {P ln n a b t x top hp hv ht i k D : Int} {V : Int → Int → Int} {σ : Int → Int} {T B : Int → Option Int}
theorem kHr_then {i1 T1 T2 T0 : Int} {σ1 : Int → Int} {st st1 : km_Mm} {r : Option (Int × Int)} (e : ∀ Q : Option km_V → km_Al → km_Mm → Prop, km_G M_X4_value 37 [some (.inr (.inr 69)), some (.inr (.inr P)), some (.inl ln), some (.inl i)] [] (km_A0 q c s) st Q ↔ km_G M_X4_value 37 [some (.inr (.inr 69)), some (.inr (.inr P)), some (.inl ln), some (.inl i1)] [] (km_A0 q c s) st1 Q) (hs : ∀ j : Int, j < top → σ1 j = σ j) (hi : i ≤ i1 ∧ i1 ≤ i + T1) (hT : T1 + T2 ≤ T0) (h : kHr q c s X P ln a b top i1 T2 σ1 st1 r) : kHr q c s X P ln a b top i T0 σ st r := by
  refine ⟨fun z => ?_, fun v z => ?_⟩
  · obtain ⟨b1, b2, b3, b4, b5, b6, b7, b8, b9⟩ := h.1 z
    exact ⟨b1, b2, b3, b4, b5, b6, b7, b8, fun Q => (e Q).trans (b9 Q)⟩
  · obtain ⟨i', hv', ht', σ', b1, b2, b3, b4⟩ := h.2 v z
    exact ⟨i', hv', ht', σ', by omega, fun j hj => (b2 j hj).trans (hs j hj), b3, fun Q => (e Q).trans (b4 Q)⟩
/-- the rest of a HEAP -/
def kHl (q : Nat × Int × Int × Int × Int) (c s : Nat) (X : km_Mm) (P ln a b top k D : Int) (T B : Int → Option Int) (l : List Int) : Prop := ∀ (j z cN i at0 : Int) (σ : Int → Int), l = kal (X 5 12) (X 5 1 - j).toNat j → 0 ≤ j → j ≤ X 5 1 → kho k (z, cN) → cN ≤ j → 0 ≤ i → i + kLst D l ≤ 99999 → kHr q c s X P ln a b top i (kLst D l) σ (kGo X P at0 top 0 a z cN σ l) (khp k T B l (z, cN))
/-- one is taken in -/
theorem sc_take {p y z cN : Int} {l : List Int} (hq : q.2.2.2.2 = P) (hP : P = 40 ∨ P = 46) (h4 : X P 4 ≤ 367) (hk5 : 0 ≤ X 5 1 ∧ X 5 1 ≤ 10) (hal : ten (X 5 12)) (hp1 : 0 ≤ p ∧ p < X P 4) (ha : 0 ≤ a ∧ a < X P 4) (h0 : 0 ≤ top ∧ top < 121) (hk : 2 ≤ k ∧ k ≤ 5) (hx : X (P + 2) a = k + 26) (x1 : X (P + 1) p = 54) (hy : 0 ≤ y ∧ y < X 5 1) (ho : kho k (z, cN)) (hc : cN ≤ y) (h12 : k12 (σ top)) (hl : l = kal (X 5 12) (X 5 1 - (y + 1)).toNat (y + 1)) (hi : 0 ≤ i ∧ i + (1 + kLst D l) ≤ 99999) (hD : 0 ≤ kLst D l) (ih : kHl q c s X P ln a b top k D T B l) :
    kHr q c s X P ln a b top i (1 + kLst D l) σ (kmM X p (top + 1) 0 0 a y z cN σ) (kno k (z, cN) (some (σ top)) (khp k T B l)) := by
  obtain ⟨hv', ht', g1, g2⟩ := @c4_take q c s X P (p + 1) top 0 a y z cN (σ top) σ k hq hP (by omega) hk hx ho (by omega) h12
  have tt := top
  have st := fun Q => @t4_take q c s X P p (top + 1) (if kac k (z, cN) (σ top) = none then 1 else 0) a y z cN (X (P + 2) p) σ Q hv' ht' hq hP (by omega) (by omega) (by omega) hk5.2 hal (by omega) (by rw [show top + 1 - 1 = top by omega]; exact g2)
  rw [show top + 1 - 1 = top by omega, ← hl] at st
  have e1 : ∀ Q : Option km_V → km_Al → km_Mm → Prop, km_G M_X4_value 37 [some (.inr (.inr 69)), some (.inr (.inr P)), some (.inl ln), some (.inl i)] [] (km_A0 q c s) (kmM X p (top + 1) 0 0 a y z cN σ) Q ↔ km_G M_X4_value 37 [some (.inr (.inr 69)), some (.inr (.inr P)), some (.inl ln), some (.inl (i + 1))] [] (km_A0 q c s) (kGo X P (p + 1) top (if kac k (z, cN) (σ top) = none then 1 else 0) a hv' ht' σ l) Q := fun Q => c4_it hq hP (by omega) hp1 h4 x1 rfl st
  cases hr : kac k (z, cN) (σ top) with
  | none =>
    have en : kno k (z, cN) (some (σ top)) (khp k T B l) = none := by unfold kno; dsimp only; rw [hr]
    rw [en]
    refine ⟨fun _ => ?_, fun s' w => (by cases w)⟩
    rw [if_pos hr] at e1
    cases l with
    | nil => exact ⟨X (P + 4) a, top + 1, 0, a, -1, hv', ht', km_u1 σ top hv', fun Q => by rw [e1 Q]; exact c4_fail (by omega)⟩
    | cons y2 l2 => exact ⟨if X (P + 3) a = -1 then a + 1 else X (P + 3) a, top, 0, a, y2, hv', ht', σ, fun Q => by rw [e1 Q]; exact c4_fail (by omega)⟩
  | some s' =>
    have e := g1 s' hr
    subst e
    have en : kno k (z, cN) (some (σ top)) (khp k T B l) = khp k T B l (hv', ht') := by unfold kno; dsimp only; rw [hr]
    rw [en]
    rw [if_neg (by rw [hr]; exact fun w => by cases w)] at e1
    obtain ⟨o1, o2⟩ := kac_o hk ho (by show cN ≤ 1000; omega) h12 hr
    have o2 : ht' = cN + 1 := o2
    exact kHr_then (T1 := 1) (T2 := kLst D l) e1 (fun _ _ => rfl) (by omega) (by omega) (ih (y + 1) hv' ht' (i + 1) (p + 1) σ hl (by omega) (by omega) o1 (by omega) (by omega) (by omega))
/-- the HEAP goes over its kin -/
theorem sc_over {m lr : Int} {f : Nat} {N : Int → Prop} {al : List Int} (hq : q.2.2.2.2 = P) (hP : P = 40 ∨ P = 46) (h4 : X P 4 ≤ 367) (hk5 : 0 ≤ X 5 1 ∧ X 5 1 ≤ 10) (hal : ten (X 5 12)) (ha : 0 ≤ a ∧ a + 1 < b ∧ b ≤ X P 4) (h0 : 0 ≤ top ∧ top < 121) (hk : 2 ≤ k ∧ k ≤ 5) (hx : X (P + 2) a = k + 26) (hx4 : X (P + 4) a = b) (hD : D = b - a - 1) (hV : ∀ x v : Int, 12 ≤ v → v ≤ 26 → k12 (V x v)) (hal10 : al.length ≤ 10) (IH : kcS q c s X W P lr ln N V al f)
    (hT : T = fun y => if W 140 n < 0 then some 1 else kev W V al f y (W 140 n)) (hB : B = fun y => kev W V al f y (W 139 n))
    (hcase : (W 140 n = -1 ∧ X (P + 3) a = -1 ∧ X (P + 1) (b - 1) = 54 ∧ kcd X W P lr N f 1 (W 139 n) (a + 1) (b - 1) (t - 1) ∧ top + t ≤ 121) ∨ (0 ≤ W 140 n ∧ X (P + 1) (b - 1) = 55 ∧ ∃ c1 t1 t2 : Int, t = t1 + t2 + 1 ∧ kcd X W P lr N f 1 (W 139 n) (a + 1) c1 t1 ∧ X (P + 1) c1 = 54 ∧ X (P + 3) a = c1 + 1 ∧ kcd X W P lr N f 1 (W 140 n) (c1 + 1) (b - 1) t2 ∧ top + t ≤ 121)) : ∀ l : List Int, kHl q c s X P ln a b top k D T B l := by
  intro l
  induction l with
  | nil =>
    intro j z cN i at0 σ hl j0 j1 ho hc i0 hi
    refine ⟨fun w => (by cases w), fun s' w => ⟨i, z, cN, km_u1 σ top z, by have : kLst D [] = 0 := rfl; omega, fun j hj => km_u1_o (by omega), ?_, fun Q => ?_⟩⟩
    · cases w; exact km_u1_s
    · show km_G _ _ _ _ _ (kmM X (X (P + 4) a) (top + 1) 0 0 a (-1) z cN (km_u1 σ top z)) Q ↔ _
      rw [hx4]
  | cons y l ihl =>
    intro j z cN i at0 σ hl j0 j1 ho hc i0 hi
    obtain ⟨hy, hl'⟩ := kal_c _ j rfl j1 hl.symm
    have eL : kLst D (y :: l) = D + kLst D l := rfl
    have lb : 0 ≤ kLst D l := by
      have := (kLst_l (D := D) (by omega) l (by have := kal_l (a := X 5 12) (X 5 1 - (y + 1)).toNat (y + 1); rw [← hl'] at this; omega)).1
      exact this
    rw [eL] at hi ⊢
    have one : ∀ (p m0 : Int) (tb : Int), kcd X W P lr N f 1 (W 139 n) (a + 1) p tb → X (P + 1) p = 54 → p < b → top + tb ≤ 120 → ∀ (i1 : Int) (σ1 : Int → Int), i ≤ i1 → i1 + (p - a) + kLst D l ≤ 99999 → kHr q c s X P ln a b top i1 (p - a + kLst D l) σ1 (kmM X (a + 1) top 0 0 a y z cN σ1) (kno k (z, cN) (B y) (khp k T B l)) := by
      intro p m0 tb kb x54 pb htb i1 σ1 hi1 hi2
      have bd := kcd_b _ _ _ _ _ _ kb
      have ev := IH 1 (W 139 n) (a + 1) p tb kb y top a z cN i1 σ1 (by omega) (by omega) (Or.inl ⟨rfl, by omega, by omega⟩) h0.1 (by omega) (by omega) (by have := @kTm_e 1 (p - (a + 1)); omega)
      have tm := @kTm_e 1 (p - (a + 1))
      have eb : B y = kev W V al f y (W 139 n) := by rw [hB]
      rw [eb]
      have v12 := kev_12 (X := X) (Y := W) (P := P) (ln := lr) (N := N) hV hal10 f 1 (W 139 n) (a + 1) p tb kb y
      cases hr : kev W V al f y (W 139 n) with
      | none =>
        refine ⟨fun _ => ?_, fun s' w => (by cases w)⟩
        exact ev.1 hr
      | some v =>
        obtain ⟨i2, hp2, hv2, ht2, σ2, d1, d2, d3, d4, d5⟩ := ev.2 v hr
        obtain ⟨rfl, rfl, rfl⟩ := d2 rfl
        have tk := @sc_take q c s X P ln hp2 b top i2 k D σ2 T B p y hv2 ht2 l hq hP h4 hk5 hal (by omega) (by omega) h0 hk hx x54 (by omega) ho (by omega) (by rw [d4]; exact v12 v hr) hl' (by omega) lb ihl
        rw [d4] at tk
        exact kHr_then (T1 := p - (hp2 + 1)) (T2 := 1 + kLst D l) d5 d3 (by omega) (by omega) tk
    show kHr q c s X P ln a b top i (D + kLst D l) σ (kmM X (if X (P + 3) a = -1 then a + 1 else X (P + 3) a) top 0 0 a y z cN σ) (match T y with | none => none | some w => if w = 0 then khp k T B l (z, cN) else kno k (z, cN) (B y) (khp k T B l))
    rcases hcase with ⟨w1, w2, w3, w4, w5⟩ | ⟨w1, w3, c1, t1, t2, w4, w5, w6, w7, w8, w9⟩
    · have eT : T y = some 1 := by rw [hT]; show (if W 140 n < 0 then some 1 else kev W V al f y (W 140 n)) = some 1; rw [if_pos (by omega)]
      rw [eT, if_pos w2]
      show kHr q c s X P ln a b top i (D + kLst D l) σ (kmM X (a + 1) top 0 0 a y z cN σ) (if (1 : Int) = 0 then khp k T B l (z, cN) else kno k (z, cN) (B y) (khp k T B l))
      rw [if_neg (by decide), show D + kLst D l = b - 1 - a + kLst D l by omega]
      exact one (b - 1) 0 (t - 1) w4 w3 (by omega) (by omega) i σ (Int.le_refl _) (by omega)
    · have b1 := kcd_b _ _ _ _ _ _ w5
      have b2 := kcd_b _ _ _ _ _ _ w8
      have eT : T y = kev W V al f y (W 140 n) := by rw [hT]; show (if W 140 n < 0 then some 1 else kev W V al f y (W 140 n)) = _; rw [if_neg (by omega)]
      rw [eT, if_neg (by omega), w7]
      have ev := IH 1 (W 140 n) (c1 + 1) (b - 1) t2 w8 y top a z cN i σ (by omega) (by omega) (Or.inl ⟨rfl, by omega, by omega⟩) h0.1 (by omega) (by omega) (by have := @kTm_e 1 (b - 1 - (c1 + 1)); omega)
      have tm := @kTm_e 1 (b - 1 - (c1 + 1))
      cases hr : kev W V al f y (W 140 n) with
      | none =>
        refine ⟨fun _ => ?_, fun s' w => (by cases w)⟩
        exact ev.1 hr
      | some w =>
        obtain ⟨i2, hp2, hv2, ht2, σ2, d1, d2, d3, d4, d5⟩ := ev.2 w hr
        obtain ⟨rfl, rfl, rfl⟩ := d2 rfl
        have ts := fun Q => @t4_test q c s X P (b - 1) (top + 1) hp2 y hv2 ht2 (X (P + 2) (b - 1)) σ2 Q hq hP (by omega) (by omega) (by omega) hk5.2 hal (by omega)
        rw [show top + 1 - 1 = top by omega, d4, ← hl'] at ts
        show kHr q c s X P ln hp2 b top i (D + kLst D l) σ (kmM X (c1 + 1) top 0 0 hp2 y hv2 ht2 σ) (if w = 0 then khp k T B l (hv2, ht2) else kno k (hv2, ht2) (B y) (khp k T B l))
        by_cases z0 : w = 0
        · simp only [if_pos z0] at ts
          rw [if_pos z0]
          have e1 : ∀ Q : Option km_V → km_Al → km_Mm → Prop, km_G M_X4_value 37 [some (.inr (.inr 69)), some (.inr (.inr P)), some (.inl ln), some (.inl i)] [] (km_A0 q c s) (kmM X (c1 + 1) top 0 0 hp2 y hv2 ht2 σ) Q ↔ km_G M_X4_value 37 [some (.inr (.inr 69)), some (.inr (.inr P)), some (.inl ln), some (.inl (i2 + 1))] [] (km_A0 q c s) (kGo X P (b - 1 + 1) top 0 hp2 hv2 ht2 σ2 l) Q := fun Q => by
            rw [d5 Q, c4_it hq hP (by omega) (by omega) h4 w3 rfl ts]
          exact kHr_then (T1 := D) (T2 := kLst D l) e1 d3 (by omega) (by omega) (ihl (y + 1) hv2 ht2 (i2 + 1) (b - 1 + 1) σ2 hl' (by omega) (by omega) ho (by omega) (by omega) (by omega))
        · simp only [if_neg z0] at ts
          rw [if_neg z0]
          have e1 : ∀ Q : Option km_V → km_Al → km_Mm → Prop, km_G M_X4_value 37 [some (.inr (.inr 69)), some (.inr (.inr P)), some (.inl ln), some (.inl i)] [] (km_A0 q c s) (kmM X (c1 + 1) top 0 0 hp2 y hv2 ht2 σ) Q ↔ km_G M_X4_value 37 [some (.inr (.inr 69)), some (.inr (.inr P)), some (.inl ln), some (.inl (i2 + 1))] [] (km_A0 q c s) (kmM X (hp2 + 1) top 0 0 hp2 y hv2 ht2 σ2) Q := fun Q => by
            rw [d5 Q, c4_it hq hP (by omega) (by omega) h4 w3 rfl ts]
          exact kHr_then (T1 := b - 1 - c1) (T2 := c1 - hp2 + kLst D l) e1 d3 (by omega) (by omega) (one c1 0 t1 w5 w6 (by omega) (by omega) (i2 + 1) σ2 (by omega) (by omega))
end KH

