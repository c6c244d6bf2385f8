/-! ===== the class's machine works out a LINE ===== -/
section KE
variable {q q' : Nat × Int × Int × Int × Int} {c s : Nat} {X W : km_Mm} {P lr ln : Int} {N : Int → Prop} {V : Int → Int → Int} {al : List Int}
theorem sc_ev (hq : q.2.2.2.2 = P) (hP : P = 40 ∨ P = 46) (h4 : X P 4 ≤ 367) (hk5 : 0 ≤ X 5 1 ∧ X 5 1 ≤ 10) (hal : ten (X 5 12)) (hV : ∀ x v : Int, 12 ≤ v → v ≤ 26 → k12 (V x v)) (hl : al = kal (X 5 12) (X 5 1).toNat 0) (hN : kNa q c s X P V lr) : ∀ f : Nat, kcS q c s X W P lr ln N V al f := by
  intro f
  have l10 : al.length ≤ 10 := by
    have := kal_l (a := X 5 12) (X 5 1).toNat 0
    rw [hl]; omega
  induction f with
  | zero => intro h n a b t k; exact k.elim
  | succ f ih =>
    intro h n a b t k x top hp hv ht i σ a0 bP hx t0 t121 i0 iT
    have kb := kcd_b _ _ _ _ _ _ k
    have T1 := @kTm_e h (b - a)
    have v12 : ∀ (h n a b t x v : Int), kcd X W P lr N f h n a b t → kev W V al f x n = some v → k12 v := fun h n a b t x v k e => kev_12 hV l10 f h n a b t k x v e
    obtain ⟨kN, k⟩ := k
    unfold kev
    rcases k with ⟨k0, k1, k2, k3, k4, k5, k6⟩ | ⟨k0, k1, k2, k3, k4, k5, k6⟩ | ⟨k0, k1⟩ | ⟨c0, t1, t2, k0, k1, k2, k3, k4, k5⟩ | ⟨k0, k1, c0, t1, t2, k2, k3, k4⟩ | ⟨k0, k1, k2, k3, k4, k⟩
    · rw [if_pos k0]
      exact sc_one hq hP h4 ⟨a0, by omega, bP⟩ ⟨i0, iT⟩ k3 k4 (fun Q => t4_num (by omega) (by omega))
    · rw [if_neg (by omega), if_pos k0]
      exact sc_one hq hP h4 ⟨a0, by omega, bP⟩ ⟨i0, iT⟩ k3 k4 (fun Q => t4_name (by omega) (by omega) (hN x _ h _ _ _ _ _ _ k5 k6 hx))
    · have kb1 := kcd_b _ _ _ _ _ _ k1
      have T2 := @kTm_e h (b - 1 - a)
      rw [if_neg (by omega), if_neg (by omega)]
      have r := ih h (W 139 n) a (b - 1) (t - 1) k1 x top hp hv ht i σ a0 (by omega) hx t0 (by omega) i0 (by omega)
      by_cases z : W 138 n = 6
      · rw [if_pos z]
        exact sc_ahead (t := t) (g := fun v => if v = 0 then 1 else 0) hq hP h4 ⟨a0, by omega, bP⟩ ⟨t0, t121, by omega⟩ ⟨i0, iT⟩ r (fun v e => v12 _ _ _ _ _ _ _ k1 e) rfl (Or.inr ⟨by omega, fun _ => rfl⟩)
      · rw [if_neg z, if_pos (by omega)]
        exact sc_ahead (t := t) (g := fun v => -v) hq hP h4 ⟨a0, by omega, bP⟩ ⟨t0, t121, by omega⟩ ⟨i0, iT⟩ r (fun v e => v12 _ _ _ _ _ _ _ k1 e) rfl (Or.inl ⟨by omega, fun _ => rfl⟩)
    · have kb1 := kcd_b _ _ _ _ _ _ k2
      have kb2 := kcd_b _ _ _ _ _ _ k4
      have T2 := @kTm_e h (c0 - a)
      rw [if_neg (by omega), if_neg (by omega), if_neg (by omega), if_neg (by omega)]
      have r1 := ih h (W 139 n) a c0 t1 k2 x top hp hv ht i σ a0 (by omega) hx t0 (by omega) i0 (by omega)
      have r2 := fun (i hp hv ht : Int) (σ : Int → Int) (i0 : 0 ≤ i) (iT : i + kTm h (b - 1 - (c0 + 1)) ≤ 99999) => ih h (W 140 n) (c0 + 1) (b - 1) t2 k4 x top hp hv ht i σ (by omega) (by omega) hx t0 (by omega) i0 iT
      by_cases z : W 138 n = 8
      · rw [if_pos z]
        have g := sc_join (o := 24) (t1 := t1) (t2 := t2) hq hP h4 ⟨a0, kb1.1, kb2.1, bP⟩ ⟨t0, by omega, by omega, by omega⟩ ⟨i0, iT⟩ r1 (Or.inl rfl) (by omega) k3 r2 (fun v e => v12 _ _ _ _ _ _ _ k4 e) k5
        cases h1 : kev W V al f x (W 139 n) with
        | none => rw [h1] at g; exact g
        | some v =>
          rw [h1] at g
          show kcR q c s X P ln h x a b i (kTm h (b - a)) top hp hv ht σ (if v = 0 then (kmt (kev W V al f x (W 140 n))) else some 1)
          have g : kcR q c s X P ln h x a b i (kTm h (b - a)) top hp hv ht σ (if (v = 0) = ((24 : Int) = 25) then some (if (24 : Int) = 25 then 0 else 1) else (kmt (kev W V al f x (W 140 n)))) := g
          by_cases y : v = 0
          · rw [if_neg (by rw [eq_true y]; decide)] at g
            rw [if_pos y]; exact g
          · rw [if_pos (by rw [eq_false y]; decide), if_neg (by decide)] at g
            rw [if_neg y]; exact g
      · rw [if_neg z, if_pos (by omega)]
        have g := sc_join (o := 25) (t1 := t1) (t2 := t2) hq hP h4 ⟨a0, kb1.1, kb2.1, bP⟩ ⟨t0, by omega, by omega, by omega⟩ ⟨i0, iT⟩ r1 (Or.inr rfl) (by omega) k3 r2 (fun v e => v12 _ _ _ _ _ _ _ k4 e) k5
        cases h1 : kev W V al f x (W 139 n) with
        | none => rw [h1] at g; exact g
        | some v =>
          rw [h1] at g
          show kcR q c s X P ln h x a b i (kTm h (b - a)) top hp hv ht σ (if v = 0 then some 0 else (kmt (kev W V al f x (W 140 n))))
          have g : kcR q c s X P ln h x a b i (kTm h (b - a)) top hp hv ht σ (if (v = 0) = ((25 : Int) = 25) then some (if (25 : Int) = 25 then 0 else 1) else (kmt (kev W V al f x (W 140 n)))) := g
          by_cases y : v = 0
          · rw [if_pos (by rw [eq_true y]; decide), if_pos (by decide)] at g
            rw [if_pos y]; exact g
          · rw [if_neg (by rw [eq_false y]; decide)] at g
            rw [if_neg y]; exact g
    · have kb1 := kcd_b _ _ _ _ _ _ k3
      have kb2 := kcd_b _ _ _ _ _ _ k4
      have T2 := @kTm_e h (c0 - a)
      rw [if_neg (by omega), if_neg (by omega), if_neg (by omega), if_neg (by omega), if_neg (by omega), if_neg (by omega), if_pos k0.1]
      have r1 := ih h (W 139 n) a c0 t1 k3 x top hp hv ht i σ a0 (by omega) hx t0 (by omega) i0 (by omega)
      have r2 := fun (i hp hv ht : Int) (σ : Int → Int) (i0 : 0 ≤ i) (iT : i + kTm h (b - 1 - c0) ≤ 99999) => ih h (W 140 n) c0 (b - 1) t2 k4 x (top + 1) hp hv ht i σ (by omega) (by omega) hx (by omega) (by omega) i0 iT
      exact sc_sign (t1 := t1) (t2 := t2) hq hP h4 ⟨a0, kb1.1, kb2.1, bP⟩ ⟨t0, by omega, by omega, by omega⟩ ⟨i0, iT⟩ k0 r1 (fun v e => v12 _ _ _ _ _ _ _ k3 e) r2 (fun v e => v12 _ _ _ _ _ _ _ k4 e) k1
    · have hx0 : h = 0 ∧ x = -1 := by clear k; omega
      rw [if_neg (by omega), if_neg (by omega), if_neg (by omega), if_neg (by omega), if_neg (by omega), if_neg (by omega), if_neg (by omega)]
      have tb : 2 ≤ t ∧ a + 1 < b := by
        rcases k with ⟨_, _, _, k8⟩ | ⟨_, _, _, c1, t1, t2, k8, k9, _, _, kd⟩
        · have := kcd_b _ _ _ _ _ _ k8; omega
        · have := kcd_b _ _ _ _ _ _ k9; have := kcd_b _ _ _ _ _ _ kd; omega
      have ov := @sc_over q c s X W P ln n a b t top (W 138 n) (b - a - 1) V (fun y => if W 140 n < 0 then some 1 else kev W V al f y (W 140 n)) (fun y => kev W V al f y (W 139 n)) 0 lr f N al hq hP h4 hk5 hal ⟨a0, tb.2, bP⟩ ⟨t0, by omega⟩ k0 k3 k4 rfl hV l10 ih rfl rfl (by
        rcases k with ⟨k5, k6, k7, k8⟩ | ⟨k5, k6, k7, c1, t1, t2, k8, k9, ka, kb2, kd⟩
        · exact Or.inl ⟨k5, k6, k7, k8, t121⟩
        · exact Or.inr ⟨k6, k7, c1, t1, t2, k8, k9, ka, kb2, kd, t121⟩) al
      have lb := kLst_l (D := b - a - 1) (by omega) al l10
      have hr := ov 0 0 0 (i + 1) (a + 1) σ (by rw [hl, show X 5 1 - 0 = X 5 1 by omega]) (Int.le_refl _) hk5.1 kho_0 (Int.le_refl _) (by omega) (by omega)
      have e1 : ∀ Q : Option km_V → km_Al → km_Mm → Prop, km_G M_X4_value 37 [some (.inr (.inr 69)), some (.inr (.inr P)), some (.inl ln), some (.inl i)] [] (km_A0 q c s) (kmM X a top 0 0 hp x hv ht σ) Q ↔ km_G M_X4_value 37 [some (.inr (.inr 69)), some (.inr (.inr P)), some (.inl ln), some (.inl (i + 1))] [] (km_A0 q c s) (kGo X P (a + 1) top 0 a 0 0 σ al) Q := fun Q => by
        rw [hl]
        exact c4_it hq hP (by omega) (by omega) h4 k2 rfl (fun Q => t4_heap hq hP (by omega) (by omega) hk5 hal)
      refine ⟨fun z => ?_, fun v z => ?_⟩
      · have z2 : khp (W 138 n) (fun y => if W 140 n < 0 then some 1 else kev W V al f y (W 140 n)) (fun y => kev W V al f y (W 139 n)) al (0, 0) = none := by
          cases hh : khp (W 138 n) (fun y => if W 140 n < 0 then some 1 else kev W V al f y (W 140 n)) (fun y => kev W V al f y (W 139 n)) al (0, 0) with
          | none => rfl
          | some s' => rw [hh] at z; cases z
        obtain ⟨a1, a2, a3, a4, a5, a6, a7, a8, a9⟩ := hr.1 z2
        exact ⟨a1, a2, a3, a4, a5, a6, a7, a8, fun Q => (e1 Q).trans (a9 Q)⟩
      · cases hh : khp (W 138 n) (fun y => if W 140 n < 0 then some 1 else kev W V al f y (W 140 n)) (fun y => kev W V al f y (W 139 n)) al (0, 0) with
        | none => rw [hh] at z; cases z
        | some s' =>
          rw [hh] at z
          have z : some s'.1 = some v := z
          cases z
          obtain ⟨i', hv', ht', σ', b1, b2, b3, b4⟩ := hr.2 s' hh
          rw [hx0.2]
          refine ⟨i', a, hv', ht', σ', by omega, fun w => by omega, b2, b3, fun Q => ?_⟩
          have e2 := e1 Q
          rw [hx0.2] at e2
          exact e2.trans (b4 Q)
/-- the value of a LINE, the class's number for an ERROR -/
def kvl (r : Option Int) : Int := match r with | none => -9223372036854775808 | some v => v
theorem c4_line {L n a e t : Int} {f : Nat} {at0 top fl st hp kn hv ht : Int} {σ : Int → Int} (hq : q'.2.2.2.2 = P) (up : km_upR (km_A0 q c s) 69 6 P = km_A0 q' c s) (hP : P = 40 ∨ P = 46) (h4 : X P 4 ≤ 367) (hk5 : 0 ≤ X 5 1 ∧ X 5 1 ≤ 10) (hal : ten (X 5 12)) (hV : ∀ x v : Int, 12 ≤ v → v ≤ 26 → k12 (V x v)) (hl : al = kal (X 5 12) (X 5 1).toNat 0) (hN : kNa q' c s X P V lr) (hL : 0 ≤ L ∧ L < 7) (hs : X (P + 5) L = a) (a0 : 0 ≤ a) (k : kcd X W P lr N f 0 n a e t) (he : X (P + 1) e = 0) (e4 : e < X P 4) (t120 : t ≤ 120) :
    ∃ (a1 t1 f1 s1 p1 k1 v1 c1 : Int) (σ1 : Int → Int), ∀ Q : Option km_V → km_Al → km_Mm → Prop, km_E M_X4_value [.inr (.inr 69), .inr (.inr P), .inl L] (km_A0 q c s) (kmM X at0 top fl st hp kn hv ht σ) Q ↔ Q (some (.inr (.inl (kvl (kev W V al f (-1) n))))) (km_A0 q' c s) (kmM X a1 t1 f1 s1 p1 k1 v1 c1 σ1) := by
  have kb := kcd_b _ _ _ _ _ _ k
  have T := @kTm_e 0 (e - a)
  have r := @sc_ev q' c s X W P lr L N V al hq hP h4 hk5 hal hV hl hN f 0 n a e t k (-1) 0 hp hv ht 0 σ a0 (by omega) (Or.inr ⟨rfl, rfl⟩) (Int.le_refl _) (by omega) (Int.le_refl _) (by omega)
  cases hr : kev W V al f (-1) n with
  | none =>
    obtain ⟨a1, a2, a3, a4, a5, a6, a7, a8⟩ := r.1 hr
    obtain ⟨a8, a9⟩ := a8
    refine ⟨a1, a2, 1, a3, a4, a5, a6, a7, a8, fun Q => ?_⟩
    rw [c4_begin hP hL up, hs, a9 Q]
    exact Iff.rfl
  | some v =>
    obtain ⟨i', hp', hv', ht', σ', b1, b2, b3, b4, b5⟩ := r.2 v hr
    refine ⟨e + 1, 1, 0, 1, hp', -1, hv', ht', σ', fun Q => ?_⟩
    rw [c4_begin hP hL up, hs, b5 Q, c4_it hq hP (by omega) (by omega) h4 he rfl (fun Q => t4_stop (by omega))]
    rw [show (0 : Int) + 1 = 1 by decide, c4_done (by omega), b4]
    exact Iff.rfl
end KE

