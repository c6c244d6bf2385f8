/-! ===== the house in the reference: laid, firstOf ===== -/
def klX (W : Int → Int) (sg r t : Int) : Int := sg * W (1024 * r + t)
def klF (W : Int → Int) (r t : Int) : Prop := 0 ≤ W (1024 * r + t) ∧ W (1024 * r + t) ≤ 8000
/-- what best holds for a set -/
def klB (W : Int → Int) (sg no : Int) (n : Nat) (r S val : Int) : Prop := (∃ v : Int, kdD (klX W sg) (klF W) n r S v ∧ val = sg * v) ∨ ((¬ ∃ v : Int, kdD (klX W sg) (klF W) n r S v) ∧ val = no)
def kmo (mo no sg : Int) : Prop := (mo = 0 ∧ no = 1000000 ∧ sg = 1) ∨ (mo = 1 ∧ no = -1 ∧ sg = -1)
theorem kdD_lo {x : Int → Int → Int} {f : Int → Int → Prop} (hx : ∀ p t : Int, f p t → 0 ≤ x p t) : ∀ (n : Nat) (p S v : Int), kdD x f n p S v → 0 ≤ v := by
  intro n
  induction n with
  | zero => intro p S v h; obtain ⟨_, a⟩ := h; omega
  | succ n ih =>
    intro p S v h
    obtain ⟨⟨t, u, a1, a2, a3, a4⟩, a5⟩ := h
    have := ih _ _ _ a3
    have := hx p t a2
    omega
theorem kdD_hi {x : Int → Int → Int} {f : Int → Int → Prop} (hx : ∀ p t : Int, f p t → x p t ≤ 0) : ∀ (n : Nat) (p S v : Int), kdD x f n p S v → v ≤ 0 := by
  intro n
  induction n with
  | zero => intro p S v h; obtain ⟨_, a⟩ := h; omega
  | succ n ih =>
    intro p S v h
    obtain ⟨⟨t, u, a1, a2, a3, a4⟩, a5⟩ := h
    have := ih _ _ _ a3
    have := hx p t a2
    omega
theorem kdD_b8 {x : Int → Int → Int} {f : Int → Int → Prop} (hx : ∀ p t : Int, f p t → -8000 ≤ x p t ∧ x p t ≤ 8000) : ∀ (n : Nat) (p S v : Int), kdD x f n p S v → -8000 * (n : Int) ≤ v ∧ v ≤ 8000 * (n : Int) := by
  intro n
  induction n with
  | zero => intro p S v h; obtain ⟨_, a⟩ := h; omega
  | succ n ih =>
    intro p S v h
    obtain ⟨⟨t, u, a1, a2, a3, a4⟩, a5⟩ := h
    have := ih _ _ _ a3
    have := hx p t a2
    omega
theorem klD_b {W : Int → Int} {mo no sg : Int} (hm : kmo mo no sg) {n : Nat} {r S v : Int} (h : kdD (klX W sg) (klF W) n r S v) : 0 ≤ sg * v ∧ sg * v ≤ 8000 * (n : Int) := by
  have b := kdD_b8 (x := klX W sg) (f := klF W) (fun p t h => by
    unfold klF at h; unfold klX
    rcases hm with ⟨_, _, rfl⟩ | ⟨_, _, rfl⟩ <;> omega) n r S v h
  rcases hm with ⟨_, _, rfl⟩ | ⟨_, _, rfl⟩
  · have := kdD_lo (x := klX W 1) (f := klF W) (fun p t h => by unfold klF at h; unfold klX; omega) n r S v h
    omega
  · have := kdD_hi (x := klX W (-1)) (f := klF W) (fun p t h => by unfold klF at h; unfold klX; omega) n r S v h
    omega
/-- the least of what the parts of S above sub give -/
def klP (W : Int → Int) (sg : Int) (n : Nat) (r S sub v : Int) : Prop := ∃ t u : Int, ksb t S ∧ sub < t ∧ klF W r t ∧ kdD (klX W sg) (klF W) n (r + 1) (S - t) u ∧ v = klX W sg r t + u
def klA (W : Int → Int) (sg no : Int) (n : Nat) (r S sub a : Int) : Prop := (a = no ∧ ¬ ∃ v, klP W sg n r S sub v) ∨ ∃ v : Int, klP W sg n r S sub v ∧ a = sg * v ∧ ∀ v' : Int, klP W sg n r S sub v' → v ≤ v'
theorem klA_end {W : Int → Int} {sg no : Int} {n : Nat} {r S a : Int} (h : klA W sg no n r S (-1) a) : klB W sg no (n + 1) r S a := by
  rcases h with ⟨h1, h2⟩ | ⟨v, ⟨t, u, a1, a2, a3, a4, a5⟩, h2, h3⟩
  · right
    refine ⟨?_, h1⟩
    rintro ⟨v, ⟨t, u, a1, a2, a3, a4⟩, _⟩
    exact h2 ⟨v, t, u, a1, by have := a1.1; omega, a2, a3, a4⟩
  · left
    refine ⟨v, ⟨⟨t, u, a1, a3, a4, a5⟩, fun t' u' b1 b2 b3 => h3 _ ⟨t', u', b1, by have := b1.1; omega, b2, b3, rfl⟩⟩, h2⟩
theorem klA_cg {W : Int → Int} {sg no : Int} {n : Nat} {r S s1 s2 a : Int} (h : ∀ t : Int, ksb t S → (s1 < t ↔ s2 < t)) (k : klA W sg no n r S s1 a) : klA W sg no n r S s2 a := by
  have e : ∀ v, klP W sg n r S s1 v ↔ klP W sg n r S s2 v := fun v => by
    constructor
    · rintro ⟨t, u, a1, a2, a3⟩; exact ⟨t, u, a1, (h t a1).mp a2, a3⟩
    · rintro ⟨t, u, a1, a2, a3⟩; exact ⟨t, u, a1, (h t a1).mpr a2, a3⟩
  unfold klA at *
  simp only [e] at k
  exact k
/-- the part sub gives nothing -/
theorem klA_no {W : Int → Int} {sg no : Int} {n : Nat} {r S sub a : Int} (d : ¬ (klF W r sub ∧ ∃ u, kdD (klX W sg) (klF W) n (r + 1) (S - sub) u)) (k : klA W sg no n r S sub a) : klA W sg no n r S (sub - 1) a := by
  have e : ∀ v, klP W sg n r S sub v ↔ klP W sg n r S (sub - 1) v := fun v => by
    constructor
    · rintro ⟨t, u, a1, a2, a3⟩; exact ⟨t, u, a1, by omega, a3⟩
    · rintro ⟨t, u, a1, a2, a3, a4, a5⟩
      refine ⟨t, u, a1, ?_, a3, a4, a5⟩
      by_cases z : t = sub
      · subst z; exact absurd ⟨a3, u, a4⟩ d
      · omega
  unfold klA at *
  simp only [e] at k
  exact k
theorem klA_yes {W : Int → Int} {mo sg no : Int} (hm : kmo mo no sg) {n : Nat} (n3 : n ≤ 3) {r S sub a u : Int} (hs : ksb sub S) (f : klF W r sub) (hu : kdD (klX W sg) (klF W) n (r + 1) (S - sub) u) (k : klA W sg no n r S sub a) : klA W sg no n r S (sub - 1) (if a = no then W (1024 * r + sub) + sg * u else if mo = 0 then (if W (1024 * r + sub) + sg * u < a then W (1024 * r + sub) + sg * u else a) else (if a < W (1024 * r + sub) + sg * u then W (1024 * r + sub) + sg * u else a)) ∧ (a = no ∨ (0 ≤ a ∧ a ≤ 32000)) := by
  have nw : klP W sg n r S (sub - 1) (klX W sg r sub + u) := ⟨sub, u, hs, by omega, f, hu, rfl⟩
  have e : ∀ v, klP W sg n r S (sub - 1) v ↔ klP W sg n r S sub v ∨ v = klX W sg r sub + u := fun v => by
    constructor
    · rintro ⟨t, u', a1, a2, a3, a4, a5⟩
      by_cases z : t = sub
      · subst z; right; rw [a5, kdD_un a4 hu]
      · exact Or.inl ⟨t, u', a1, by omega, a3, a4, a5⟩
    · rintro (⟨t, u, a1, a2, a3⟩ | z)
      · exact ⟨t, u, a1, by omega, a3⟩
      · rw [z]; exact nw
  have x : W (1024 * r + sub) + sg * u = sg * (klX W sg r sub + u) := by
    unfold klX
    rcases hm with ⟨_, _, rfl⟩ | ⟨_, _, rfl⟩ <;> omega
  have bu := klD_b hm hu
  have bf := f
  unfold klF at bf
  rcases k with ⟨h1, h2⟩ | ⟨v, h1, h2, h3⟩
  · rw [if_pos h1]
    refine ⟨Or.inr ⟨_, nw, x, fun v' w => ?_⟩, Or.inl h1⟩
    rcases (e v').mp w with w | w
    · exact absurd ⟨v', w⟩ h2
    · omega
  · have va : 0 ≤ a ∧ a ≤ 32000 := by
      obtain ⟨t, u', a1, a2, a3, a4, a5⟩ := h1
      have b4 := klD_b hm a4
      unfold klF at a3
      unfold klX at a5
      rcases hm with ⟨_, rfl, rfl⟩ | ⟨_, rfl, rfl⟩ <;> omega
    have vn : a ≠ no := by rcases hm with ⟨_, rfl, rfl⟩ | ⟨_, rfl, rfl⟩ <;> omega
    rw [if_neg vn]
    refine ⟨Or.inr ?_, Or.inr va⟩
    have old : ∀ v' : Int, klP W sg n r S (sub - 1) v' → v ≤ v' ∨ v' = klX W sg r sub + u := fun v' w => ((e v').mp w).imp (h3 v') id
    have ov : klP W sg n r S (sub - 1) v := (e v).mpr (Or.inl h1)
    rcases hm with ⟨rfl, rfl, rfl⟩ | ⟨rfl, rfl, rfl⟩
    · rw [if_pos rfl]
      by_cases y : W (1024 * r + sub) + 1 * u < a
      · rw [if_pos y]
        exact ⟨_, nw, x, fun v' w => by rcases old v' w with z | z <;> omega⟩
      · rw [if_neg y]
        exact ⟨v, ov, h2, fun v' w => by rcases old v' w with z | z <;> omega⟩
    · rw [if_neg (by decide)]
      by_cases y : a < W (1024 * r + sub) + -1 * u
      · rw [if_pos y]
        exact ⟨_, nw, x, fun v' w => by rcases old v' w with z | z <;> omega⟩
      · rw [if_neg y]
        exact ⟨v, ov, h2, fun v' w => by rcases old v' w with z | z <;> omega⟩
theorem lp_laid79 {q : Nat × Int × Int × Int × Int} {c s : Nat} {X : km_Mm} {W : Int → Int} {many mo no sg r S : Int} {n : Nat} (hm : kmo mo no sg) (n3 : n ≤ 3) (hW : X 171 = W) (r0 : 0 ≤ r) (r1 : r < 4) (hS : ten S) (hw : ∀ t : Int, ten t → W (1024 * r + t) ≤ 8000 ∧ -1 ≤ W (1024 * r + t)) (hl : ∀ t : Int, ksb t S → klB W sg no n (r + 1) (S - t) (X 172 (1024 * r + 1024 + (S - t)))) :
    ∀ (N : Nat) (sub a : Int) (o8 o9 : Option km_V), sub < N → ksb sub S → klA W sg no n r S sub a → ∃ (a' : Int) (p8 p9 : Option km_V), klA W sg no n r S (-1) a' ∧ ∀ Q : Option km_V → km_Al → km_Mm → Prop, (km_G M_X12_laid 79 [some (.inr (.inr 123)), some (.inl many), some (.inl mo), some (.inl no), some (.inl r), some (.inl S), some (.inl a), some (.inl sub), o8, o9] [] (km_A0 q c s) X Q ↔ km_G M_X12_laid 79 [some (.inr (.inr 123)), some (.inl many), some (.inl mo), some (.inl no), some (.inl r), some (.inl S), some (.inl a'), some (.inl (-1)), p8, p9] [] (km_A0 q c s) X Q) := by
  intro N
  induction N with
  | zero => intro sub a o8 o9 h hs; have := hs.1; omega
  | succ N ih =>
    intro sub a o8 o9 h hs k
    have ls := ksb_le hS hs
    have ts := ksb_ten hS hs
    have hSt := hS
    unfold ten at hSt
    have an := ksb_andn hS hs
    have hws := hw sub ts
    have hb := hl sub hs
    have rb : X 172 (1024 * r + 1024 + (S - sub)) = no ∨ (0 ≤ X 172 (1024 * r + 1024 + (S - sub)) ∧ X 172 (1024 * r + 1024 + (S - sub)) ≤ 24000) := by
      rcases hb with ⟨v, b1, b2⟩ | ⟨b1, b2⟩
      · have := klD_b hm b1; omega
      · exact Or.inl b2
    have nob : -1 ≤ no ∧ no ≤ 1000000 := by rcases hm with ⟨_, rfl, _⟩ | ⟨_, rfl, _⟩ <;> omega
    have fin : ∀ (a1 : Int) (p8 p9 : Option km_V), klA W sg no n r S (sub - 1) a1 → (∀ Q : Option km_V → km_Al → km_Mm → Prop, km_G M_X12_laid 79 [some (.inr (.inr 123)), some (.inl many), some (.inl mo), some (.inl no), some (.inl r), some (.inl S), some (.inl a), some (.inl sub), o8, o9] [] (km_A0 q c s) X Q ↔ km_G M_X12_laid 79 [some (.inr (.inr 123)), some (.inl many), some (.inl mo), some (.inl no), some (.inl r), some (.inl S), some (.inl a1), some (.inl (if sub = 0 then -1 else km_and (sub - 1) S)), p8, p9] [] (km_A0 q c s) X Q) → ∃ (a' : Int) (p8 p9 : Option km_V), klA W sg no n r S (-1) a' ∧ ∀ Q : Option km_V → km_Al → km_Mm → Prop, (km_G M_X12_laid 79 [some (.inr (.inr 123)), some (.inl many), some (.inl mo), some (.inl no), some (.inl r), some (.inl S), some (.inl a), some (.inl sub), o8, o9] [] (km_A0 q c s) X Q ↔ km_G M_X12_laid 79 [some (.inr (.inr 123)), some (.inl many), some (.inl mo), some (.inl no), some (.inl r), some (.inl S), some (.inl a'), some (.inl (-1)), p8, p9] [] (km_A0 q c s) X Q) := by
      intro a1 p8 p9 ka g
      by_cases z : sub = 0
      · subst z
        refine ⟨a1, p8, p9, ka, fun Q => ?_⟩
        rw [g, if_pos rfl]
      · obtain ⟨b1, b2, b3, b4⟩ := ksb_prev hS hs (by omega)
        obtain ⟨a', z8, z9, k1, k2⟩ := ih (km_and (sub - 1) S) a1 p8 p9 (by omega) b3 (klA_cg (fun t ht => by
          constructor
          · intro w; omega
          · intro w
            by_cases y : t < sub
            · have := b4 t ht y; omega
            · omega) ka)
        refine ⟨a', z8, z9, k1, fun Q => ?_⟩
        rw [g, if_neg z, k2]
    by_cases w0 : X 171 (1024 * r + sub) < 0
    · have w0' := w0
      rw [hW] at w0'
      refine fin a (some (.inl (X 172 (1024 * r + 1024 + (S - sub))))) o9 (klA_no (fun d => by have := d.1; unfold klF at this; omega) k) (fun Q => ?_)
      rw [g_X12_laid_79]
      by_cases z : sub = 0
      · subst z
        rw [if_pos rfl]
        simp (config := { decide := true }) (disch := first | decide | assumption | omega | (simp (config := { decide := true }) only [km_sr_sf, km_sr_of, km_up_of, km_up_o, km_upx_i, km_upx_s, km_fl2_o, ne_eq, not_true_eq_false, not_false_eq_true] <;> omega) | fail) only [g_X12_laid, an, w0, ka_lt, ka_le, ka_nlt, ka_nle, ka_ne, ka_eq, Int.add_sub_cancel, true_or, or_true, false_or, or_false, false_and, and_false, if_true, if_false, ka_lo, ka_hi, ka_nn, km_sr_sf, km_sr_of, km_up_of, km_sr_us, km_sr_uo, km_sr_sr, km_sr_fl, km_sr_flo, km_up_up, km_up_lt, km_lay, km_unL, km_up_o, km_upx_i, km_upx_s, km_fl2_o, km_is, Option.some.injEq, Sum.inl.injEq, Sum.inr.injEq, Option.toList_some, Option.toList_none, List.cons_append, List.nil_append, ne_eq, true_and, and_true, and_self, not_true_eq_false, not_false_eq_true, true_implies, false_implies, reduceCtorEq]
      · rw [if_neg z]
        simp (config := { decide := true }) (disch := first | decide | assumption | omega | (simp (config := { decide := true }) only [km_sr_sf, km_sr_of, km_up_of, km_up_o, km_upx_i, km_upx_s, km_fl2_o, ne_eq, not_true_eq_false, not_false_eq_true] <;> omega) | fail) only [g_X12_laid, an, w0, z, ka_lt, ka_le, ka_nlt, ka_nle, ka_ne, ka_eq, Int.add_sub_cancel, true_or, or_true, false_or, or_false, false_and, and_false, if_true, if_false, ka_lo, ka_hi, ka_nn, km_sr_sf, km_sr_of, km_up_of, km_sr_us, km_sr_uo, km_sr_sr, km_sr_fl, km_sr_flo, km_up_up, km_up_lt, km_lay, km_unL, km_up_o, km_upx_i, km_upx_s, km_fl2_o, km_is, Option.some.injEq, Sum.inl.injEq, Sum.inr.injEq, Option.toList_some, Option.toList_none, List.cons_append, List.nil_append, ne_eq, true_and, and_true, and_self, not_true_eq_false, not_false_eq_true, true_implies, false_implies, reduceCtorEq]
    · have w0' := w0
      rw [hW] at w0'
      by_cases w1 : X 172 (1024 * r + 1024 + (S - sub)) = no
      · refine fin a (some (.inl no)) o9 (klA_no (fun d => ?_) k) (fun Q => ?_)
        · obtain ⟨_, u, hu⟩ := d
          rcases hb with ⟨v, b1, b2⟩ | ⟨b1, b2⟩
          · have := klD_b hm b1
            rcases hm with ⟨_, rfl, _⟩ | ⟨_, rfl, _⟩ <;> omega
          · exact b1 ⟨u, hu⟩
        · rw [g_X12_laid_79]
          by_cases z : sub = 0
          · subst z
            rw [if_pos rfl]
            simp (config := { decide := true }) (disch := first | decide | assumption | omega | (simp (config := { decide := true }) only [km_sr_sf, km_sr_of, km_up_of, km_up_o, km_upx_i, km_upx_s, km_fl2_o, ne_eq, not_true_eq_false, not_false_eq_true] <;> omega) | fail) only [g_X12_laid, an, w0, w1, ka_lt, ka_le, ka_nlt, ka_nle, ka_ne, ka_eq, Int.add_sub_cancel, true_or, or_true, false_or, or_false, false_and, and_false, if_true, if_false, ka_lo, ka_hi, ka_nn, km_sr_sf, km_sr_of, km_up_of, km_sr_us, km_sr_uo, km_sr_sr, km_sr_fl, km_sr_flo, km_up_up, km_up_lt, km_lay, km_unL, km_up_o, km_upx_i, km_upx_s, km_fl2_o, km_is, Option.some.injEq, Sum.inl.injEq, Sum.inr.injEq, Option.toList_some, Option.toList_none, List.cons_append, List.nil_append, ne_eq, true_and, and_true, and_self, not_true_eq_false, not_false_eq_true, true_implies, false_implies, reduceCtorEq]
          · rw [if_neg z]
            simp (config := { decide := true }) (disch := first | decide | assumption | omega | (simp (config := { decide := true }) only [km_sr_sf, km_sr_of, km_up_of, km_up_o, km_upx_i, km_upx_s, km_fl2_o, ne_eq, not_true_eq_false, not_false_eq_true] <;> omega) | fail) only [g_X12_laid, an, w0, w1, z, ka_lt, ka_le, ka_nlt, ka_nle, ka_ne, ka_eq, Int.add_sub_cancel, true_or, or_true, false_or, or_false, false_and, and_false, if_true, if_false, ka_lo, ka_hi, ka_nn, km_sr_sf, km_sr_of, km_up_of, km_sr_us, km_sr_uo, km_sr_sr, km_sr_fl, km_sr_flo, km_up_up, km_up_lt, km_lay, km_unL, km_up_o, km_upx_i, km_upx_s, km_fl2_o, km_is, Option.some.injEq, Sum.inl.injEq, Sum.inr.injEq, Option.toList_some, Option.toList_none, List.cons_append, List.nil_append, ne_eq, true_and, and_true, and_self, not_true_eq_false, not_false_eq_true, true_implies, false_implies, reduceCtorEq]
      · rcases hb with ⟨u, hu, b2⟩ | ⟨b1, b2⟩
        · obtain ⟨ky, ab⟩ := klA_yes hm n3 hs ⟨by omega, hws.1⟩ hu k
          have hWs := congrFun hW (1024 * r + sub)
          rw [← b2, ← hWs] at ky
          have wb : 0 ≤ X 171 (1024 * r + sub) ∧ X 171 (1024 * r + sub) ≤ 8000 := by rw [hW]; omega
          refine fin _ (some (.inl (X 172 (1024 * r + 1024 + (S - sub))))) (some (.inl (X 171 (1024 * r + sub) + X 172 (1024 * r + 1024 + (S - sub))))) ky (fun Q => ?_)
          rw [g_X12_laid_79]
          by_cases y : a = no
          · rw [if_pos y]
            by_cases z : sub = 0
            · rw [if_pos z]
              have zt : (sub = 0) = True := eq_true z
              simp (config := { decide := true }) (disch := first | decide | assumption | omega | (simp (config := { decide := true }) only [km_sr_sf, km_sr_of, km_up_of, km_up_o, km_upx_i, km_upx_s, km_fl2_o, ne_eq, not_true_eq_false, not_false_eq_true] <;> omega) | fail) only [g_X12_laid, an, w0, w1, y, zt, ka_lt, ka_le, ka_nlt, ka_nle, ka_ne, ka_eq, Int.add_sub_cancel, true_or, or_true, false_or, or_false, false_and, and_false, if_true, if_false, ka_lo, ka_hi, ka_nn, km_sr_sf, km_sr_of, km_up_of, km_sr_us, km_sr_uo, km_sr_sr, km_sr_fl, km_sr_flo, km_up_up, km_up_lt, km_lay, km_unL, km_up_o, km_upx_i, km_upx_s, km_fl2_o, km_is, Option.some.injEq, Sum.inl.injEq, Sum.inr.injEq, Option.toList_some, Option.toList_none, List.cons_append, List.nil_append, ne_eq, true_and, and_true, and_self, not_true_eq_false, not_false_eq_true, true_implies, false_implies, reduceCtorEq]
            · rw [if_neg z]
              simp (config := { decide := true }) (disch := first | decide | assumption | omega | (simp (config := { decide := true }) only [km_sr_sf, km_sr_of, km_up_of, km_up_o, km_upx_i, km_upx_s, km_fl2_o, ne_eq, not_true_eq_false, not_false_eq_true] <;> omega) | fail) only [g_X12_laid, an, w0, w1, y, z, ka_lt, ka_le, ka_nlt, ka_nle, ka_ne, ka_eq, Int.add_sub_cancel, true_or, or_true, false_or, or_false, false_and, and_false, if_true, if_false, ka_lo, ka_hi, ka_nn, km_sr_sf, km_sr_of, km_up_of, km_sr_us, km_sr_uo, km_sr_sr, km_sr_fl, km_sr_flo, km_up_up, km_up_lt, km_lay, km_unL, km_up_o, km_upx_i, km_upx_s, km_fl2_o, km_is, Option.some.injEq, Sum.inl.injEq, Sum.inr.injEq, Option.toList_some, Option.toList_none, List.cons_append, List.nil_append, ne_eq, true_and, and_true, and_self, not_true_eq_false, not_false_eq_true, true_implies, false_implies, reduceCtorEq]
          · rw [if_neg y]
            by_cases e : mo = 0
            · rw [if_pos e]
              by_cases l : X 171 (1024 * r + sub) + X 172 (1024 * r + 1024 + (S - sub)) < a
              · rw [if_pos l]
                by_cases z : sub = 0
                · rw [if_pos z]
                  have zt : (sub = 0) = True := eq_true z
                  simp (config := { decide := true }) (disch := first | decide | assumption | omega | (simp (config := { decide := true }) only [km_sr_sf, km_sr_of, km_up_of, km_up_o, km_upx_i, km_upx_s, km_fl2_o, ne_eq, not_true_eq_false, not_false_eq_true] <;> omega) | fail) only [g_X12_laid, an, w0, w1, y, e, l, zt, ka_lt, ka_le, ka_nlt, ka_nle, ka_ne, ka_eq, Int.add_sub_cancel, true_or, or_true, false_or, or_false, false_and, and_false, if_true, if_false, ka_lo, ka_hi, ka_nn, km_sr_sf, km_sr_of, km_up_of, km_sr_us, km_sr_uo, km_sr_sr, km_sr_fl, km_sr_flo, km_up_up, km_up_lt, km_lay, km_unL, km_up_o, km_upx_i, km_upx_s, km_fl2_o, km_is, Option.some.injEq, Sum.inl.injEq, Sum.inr.injEq, Option.toList_some, Option.toList_none, List.cons_append, List.nil_append, ne_eq, true_and, and_true, and_self, not_true_eq_false, not_false_eq_true, true_implies, false_implies, reduceCtorEq]
                · rw [if_neg z]
                  simp (config := { decide := true }) (disch := first | decide | assumption | omega | (simp (config := { decide := true }) only [km_sr_sf, km_sr_of, km_up_of, km_up_o, km_upx_i, km_upx_s, km_fl2_o, ne_eq, not_true_eq_false, not_false_eq_true] <;> omega) | fail) only [g_X12_laid, an, w0, w1, y, e, l, z, ka_lt, ka_le, ka_nlt, ka_nle, ka_ne, ka_eq, Int.add_sub_cancel, true_or, or_true, false_or, or_false, false_and, and_false, if_true, if_false, ka_lo, ka_hi, ka_nn, km_sr_sf, km_sr_of, km_up_of, km_sr_us, km_sr_uo, km_sr_sr, km_sr_fl, km_sr_flo, km_up_up, km_up_lt, km_lay, km_unL, km_up_o, km_upx_i, km_upx_s, km_fl2_o, km_is, Option.some.injEq, Sum.inl.injEq, Sum.inr.injEq, Option.toList_some, Option.toList_none, List.cons_append, List.nil_append, ne_eq, true_and, and_true, and_self, not_true_eq_false, not_false_eq_true, true_implies, false_implies, reduceCtorEq]
              · rw [if_neg l]
                by_cases z : sub = 0
                · rw [if_pos z]
                  have zt : (sub = 0) = True := eq_true z
                  simp (config := { decide := true }) (disch := first | decide | assumption | omega | (simp (config := { decide := true }) only [km_sr_sf, km_sr_of, km_up_of, km_up_o, km_upx_i, km_upx_s, km_fl2_o, ne_eq, not_true_eq_false, not_false_eq_true] <;> omega) | fail) only [g_X12_laid, an, w0, w1, y, e, l, zt, ka_lt, ka_le, ka_nlt, ka_nle, ka_ne, ka_eq, Int.add_sub_cancel, true_or, or_true, false_or, or_false, false_and, and_false, if_true, if_false, ka_lo, ka_hi, ka_nn, km_sr_sf, km_sr_of, km_up_of, km_sr_us, km_sr_uo, km_sr_sr, km_sr_fl, km_sr_flo, km_up_up, km_up_lt, km_lay, km_unL, km_up_o, km_upx_i, km_upx_s, km_fl2_o, km_is, Option.some.injEq, Sum.inl.injEq, Sum.inr.injEq, Option.toList_some, Option.toList_none, List.cons_append, List.nil_append, ne_eq, true_and, and_true, and_self, not_true_eq_false, not_false_eq_true, true_implies, false_implies, reduceCtorEq]
                · rw [if_neg z]
                  simp (config := { decide := true }) (disch := first | decide | assumption | omega | (simp (config := { decide := true }) only [km_sr_sf, km_sr_of, km_up_of, km_up_o, km_upx_i, km_upx_s, km_fl2_o, ne_eq, not_true_eq_false, not_false_eq_true] <;> omega) | fail) only [g_X12_laid, an, w0, w1, y, e, l, z, ka_lt, ka_le, ka_nlt, ka_nle, ka_ne, ka_eq, Int.add_sub_cancel, true_or, or_true, false_or, or_false, false_and, and_false, if_true, if_false, ka_lo, ka_hi, ka_nn, km_sr_sf, km_sr_of, km_up_of, km_sr_us, km_sr_uo, km_sr_sr, km_sr_fl, km_sr_flo, km_up_up, km_up_lt, km_lay, km_unL, km_up_o, km_upx_i, km_upx_s, km_fl2_o, km_is, Option.some.injEq, Sum.inl.injEq, Sum.inr.injEq, Option.toList_some, Option.toList_none, List.cons_append, List.nil_append, ne_eq, true_and, and_true, and_self, not_true_eq_false, not_false_eq_true, true_implies, false_implies, reduceCtorEq]
            · rw [if_neg e]
              by_cases l : a < X 171 (1024 * r + sub) + X 172 (1024 * r + 1024 + (S - sub))
              · rw [if_pos l]
                by_cases z : sub = 0
                · rw [if_pos z]
                  have zt : (sub = 0) = True := eq_true z
                  simp (config := { decide := true }) (disch := first | decide | assumption | omega | (simp (config := { decide := true }) only [km_sr_sf, km_sr_of, km_up_of, km_up_o, km_upx_i, km_upx_s, km_fl2_o, ne_eq, not_true_eq_false, not_false_eq_true] <;> omega) | fail) only [g_X12_laid, an, w0, w1, y, e, l, zt, ka_lt, ka_le, ka_nlt, ka_nle, ka_ne, ka_eq, Int.add_sub_cancel, true_or, or_true, false_or, or_false, false_and, and_false, if_true, if_false, ka_lo, ka_hi, ka_nn, km_sr_sf, km_sr_of, km_up_of, km_sr_us, km_sr_uo, km_sr_sr, km_sr_fl, km_sr_flo, km_up_up, km_up_lt, km_lay, km_unL, km_up_o, km_upx_i, km_upx_s, km_fl2_o, km_is, Option.some.injEq, Sum.inl.injEq, Sum.inr.injEq, Option.toList_some, Option.toList_none, List.cons_append, List.nil_append, ne_eq, true_and, and_true, and_self, not_true_eq_false, not_false_eq_true, true_implies, false_implies, reduceCtorEq]
                · rw [if_neg z]
                  simp (config := { decide := true }) (disch := first | decide | assumption | omega | (simp (config := { decide := true }) only [km_sr_sf, km_sr_of, km_up_of, km_up_o, km_upx_i, km_upx_s, km_fl2_o, ne_eq, not_true_eq_false, not_false_eq_true] <;> omega) | fail) only [g_X12_laid, an, w0, w1, y, e, l, z, ka_lt, ka_le, ka_nlt, ka_nle, ka_ne, ka_eq, Int.add_sub_cancel, true_or, or_true, false_or, or_false, false_and, and_false, if_true, if_false, ka_lo, ka_hi, ka_nn, km_sr_sf, km_sr_of, km_up_of, km_sr_us, km_sr_uo, km_sr_sr, km_sr_fl, km_sr_flo, km_up_up, km_up_lt, km_lay, km_unL, km_up_o, km_upx_i, km_upx_s, km_fl2_o, km_is, Option.some.injEq, Sum.inl.injEq, Sum.inr.injEq, Option.toList_some, Option.toList_none, List.cons_append, List.nil_append, ne_eq, true_and, and_true, and_self, not_true_eq_false, not_false_eq_true, true_implies, false_implies, reduceCtorEq]
              · rw [if_neg l]
                by_cases z : sub = 0
                · rw [if_pos z]
                  have zt : (sub = 0) = True := eq_true z
                  simp (config := { decide := true }) (disch := first | decide | assumption | omega | (simp (config := { decide := true }) only [km_sr_sf, km_sr_of, km_up_of, km_up_o, km_upx_i, km_upx_s, km_fl2_o, ne_eq, not_true_eq_false, not_false_eq_true] <;> omega) | fail) only [g_X12_laid, an, w0, w1, y, e, l, zt, ka_lt, ka_le, ka_nlt, ka_nle, ka_ne, ka_eq, Int.add_sub_cancel, true_or, or_true, false_or, or_false, false_and, and_false, if_true, if_false, ka_lo, ka_hi, ka_nn, km_sr_sf, km_sr_of, km_up_of, km_sr_us, km_sr_uo, km_sr_sr, km_sr_fl, km_sr_flo, km_up_up, km_up_lt, km_lay, km_unL, km_up_o, km_upx_i, km_upx_s, km_fl2_o, km_is, Option.some.injEq, Sum.inl.injEq, Sum.inr.injEq, Option.toList_some, Option.toList_none, List.cons_append, List.nil_append, ne_eq, true_and, and_true, and_self, not_true_eq_false, not_false_eq_true, true_implies, false_implies, reduceCtorEq]
                · rw [if_neg z]
                  simp (config := { decide := true }) (disch := first | decide | assumption | omega | (simp (config := { decide := true }) only [km_sr_sf, km_sr_of, km_up_of, km_up_o, km_upx_i, km_upx_s, km_fl2_o, ne_eq, not_true_eq_false, not_false_eq_true] <;> omega) | fail) only [g_X12_laid, an, w0, w1, y, e, l, z, ka_lt, ka_le, ka_nlt, ka_nle, ka_ne, ka_eq, Int.add_sub_cancel, true_or, or_true, false_or, or_false, false_and, and_false, if_true, if_false, ka_lo, ka_hi, ka_nn, km_sr_sf, km_sr_of, km_up_of, km_sr_us, km_sr_uo, km_sr_sr, km_sr_fl, km_sr_flo, km_up_up, km_up_lt, km_lay, km_unL, km_up_o, km_upx_i, km_upx_s, km_fl2_o, km_is, Option.some.injEq, Sum.inl.injEq, Sum.inr.injEq, Option.toList_some, Option.toList_none, List.cons_append, List.nil_append, ne_eq, true_and, and_true, and_self, not_true_eq_false, not_false_eq_true, true_implies, false_implies, reduceCtorEq]
        · exact absurd b2 w1
theorem lp_laid64 {q : Nat × Int × Int × Int × Int} {c s : Nat} {Y : km_Mm} {W : Int → Int} {many mo no sg r : Int} {n : Nat} (hm : kmo mo no sg) (n3 : n ≤ 3) (hW : Y 171 = W) (r0 : 0 ≤ r) (r1 : r < 4) (hw : ∀ t : Int, ten t → W (1024 * r + t) ≤ 8000 ∧ -1 ≤ W (1024 * r + t)) (hl : ∀ S : Int, ten S → klB W sg no n (r + 1) S (Y 172 (1024 * r + 1024 + S))) :
    ∀ (N : Nat) (S : Int) (o6 o7 o8 o9 : Option km_V) (X : km_Mm), S + N = 1024 → 0 ≤ S → (∀ b j : Int, ¬ (b = 172 ∧ 1024 * r ≤ j ∧ j < 1024 * r + 1024) → X b j = Y b j) → (∀ T : Int, 0 ≤ T → T < S → klB W sg no (n + 1) r T (X 172 (1024 * r + T))) →
    ∃ (M' : km_Mm) (p6 p7 p8 p9 : Option km_V), (∀ b j : Int, ¬ (b = 172 ∧ 1024 * r ≤ j ∧ j < 1024 * r + 1024) → M' b j = Y b j) ∧ (∀ T : Int, ten T → klB W sg no (n + 1) r T (M' 172 (1024 * r + T))) ∧ ∀ Q : Option km_V → km_Al → km_Mm → Prop, (km_G M_X12_laid 64 [some (.inr (.inr 123)), some (.inl many), some (.inl mo), some (.inl no), some (.inl r), some (.inl S), o6, o7, o8, o9] [] (km_A0 q c s) X Q ↔ km_G M_X12_laid 56 [some (.inr (.inr 123)), some (.inl many), some (.inl mo), some (.inl no), some (.inl (r - 1)), some (.inl 1024), p6, p7, p8, p9] [] (km_A0 q c s) M' Q) := by
  intro N
  induction N with
  | zero =>
    intro S o6 o7 o8 o9 X h h0 f1 f2
    have e : S = 1024 := by omega
    subst e
    refine ⟨X, o6, o7, o8, o9, f1, fun T hT => f2 T hT.1 hT.2, fun Q => ?_⟩
    have ad : r + -1 = r - 1 := rfl
    rw [g_X12_laid_64]
    simp (config := { decide := true }) (disch := first | decide | assumption | omega | (simp (config := { decide := true }) only [km_sr_sf, km_sr_of, km_up_of, km_up_o, km_upx_i, km_upx_s, km_fl2_o, ne_eq, not_true_eq_false, not_false_eq_true] <;> omega) | fail) only [g_X12_laid, ad, ka_lt, ka_le, ka_nlt, ka_nle, ka_ne, ka_eq, Int.add_sub_cancel, true_or, or_true, false_or, or_false, false_and, and_false, if_true, if_false, ka_lo, ka_hi, ka_nn, km_sr_sf, km_sr_of, km_up_of, km_sr_us, km_sr_uo, km_sr_sr, km_sr_fl, km_sr_flo, km_up_up, km_up_lt, km_lay, km_unL, km_up_o, km_upx_i, km_upx_s, km_fl2_o, km_is, Option.some.injEq, Sum.inl.injEq, Sum.inr.injEq, Option.toList_some, Option.toList_none, List.cons_append, List.nil_append, ne_eq, true_and, and_true, and_self, not_true_eq_false, not_false_eq_true, true_implies, false_implies, reduceCtorEq]
  | succ N ih =>
    intro S o6 o7 o8 o9 X h h0 f1 f2
    have hS : ten S := ⟨h0, by omega⟩
    have e171 : X 171 = W := (funext fun j => f1 171 j (by omega)).trans hW
    obtain ⟨a', p8, p9, k1, k2⟩ := @lp_laid79 q c s X W many mo no sg r S n hm n3 e171 r0 r1 hS hw (fun t ht => by
      have l := ksb_le hS ht
      have := (ksb_diff hS ht).1
      rw [f1 172 _ (by omega)]
      exact hl (S - t) this) 1024 S no o8 o9 (by omega) (ksb_rf hS) (Or.inl ⟨rfl, fun ⟨v, t, u, a1, a2, _⟩ => by have := ksb_le hS a1; omega⟩)
    have kb := klA_end k1
    obtain ⟨M', q6, q7, q8, q9, d1, d2, d3⟩ := ih (S + 1) (some (.inl a')) (some (.inl (-1))) p8 p9 (km_up X 172 (1024 * r + S) a') (by omega) (by omega) (fun b j z => by rw [km_up_ne (fun w => z (by omega))]; exact f1 b j z) (fun T T0 T1 => by
      by_cases z : T = S
      · rw [km_up_eq ⟨rfl, by rw [z]⟩, z]; exact kb
      · rw [km_up_ne (fun w => by omega)]; exact f2 T T0 (by omega))
    refine ⟨M', q6, q7, q8, q9, d1, d2, fun Q => ?_⟩
    rw [← d3 Q, g_X12_laid_64]
    simp (config := { decide := true }) (disch := first | decide | assumption | omega | (simp (config := { decide := true }) only [km_sr_sf, km_sr_of, km_up_of, km_up_o, km_upx_i, km_upx_s, km_fl2_o, ne_eq, not_true_eq_false, not_false_eq_true] <;> omega) | fail) only [g_X12_laid, k2, ka_lt, ka_le, ka_nlt, ka_nle, ka_ne, ka_eq, Int.add_sub_cancel, true_or, or_true, false_or, or_false, false_and, and_false, if_true, if_false, ka_lo, ka_hi, ka_nn, km_sr_sf, km_sr_of, km_up_of, km_sr_us, km_sr_uo, km_sr_sr, km_sr_fl, km_sr_flo, km_up_up, km_up_lt, km_lay, km_unL, km_up_o, km_upx_i, km_upx_s, km_fl2_o, km_is, Option.some.injEq, Sum.inl.injEq, Sum.inr.injEq, Option.toList_some, Option.toList_none, List.cons_append, List.nil_append, ne_eq, true_and, and_true, and_self, not_true_eq_false, not_false_eq_true, true_implies, false_implies, reduceCtorEq]
    rw [g_X12_laid_79]
    simp (config := { decide := true }) (disch := first | decide | assumption | omega | (simp (config := { decide := true }) only [km_sr_sf, km_sr_of, km_up_of, km_up_o, km_upx_i, km_upx_s, km_fl2_o, ne_eq, not_true_eq_false, not_false_eq_true] <;> omega) | fail) only [g_X12_laid, ka_lt, ka_le, ka_nlt, ka_nle, ka_ne, ka_eq, Int.add_sub_cancel, true_or, or_true, false_or, or_false, false_and, and_false, if_true, if_false, ka_lo, ka_hi, ka_nn, km_sr_sf, km_sr_of, km_up_of, km_sr_us, km_sr_uo, km_sr_sr, km_sr_fl, km_sr_flo, km_up_up, km_up_lt, km_lay, km_unL, km_up_o, km_upx_i, km_upx_s, km_fl2_o, km_is, Option.some.injEq, Sum.inl.injEq, Sum.inr.injEq, Option.toList_some, Option.toList_none, List.cons_append, List.nil_append, ne_eq, true_and, and_true, and_self, not_true_eq_false, not_false_eq_true, true_implies, false_implies, reduceCtorEq]
theorem lp_laid56 {q : Nat × Int × Int × Int × Int} {c s : Nat} {Y : km_Mm} {W : Int → Int} {mo no sg : Int} {many : Nat} (hm : kmo mo no sg) (m4 : many ≤ 4) (hW : Y 171 = W) (hw : ∀ r t : Int, 0 ≤ r → r < many → ten t → W (1024 * r + t) ≤ 8000 ∧ -1 ≤ W (1024 * r + t)) :
    ∀ (j : Nat) (o5 o6 o7 o8 o9 : Option km_V) (X : km_Mm), j ≤ many → (∀ b i : Int, b ≠ 172 → X b i = Y b i) → (∀ k : Nat, j ≤ k → k ≤ many → ∀ S : Int, ten S → klB W sg no (many - k) k S (X 172 (1024 * k + S))) →
    ∃ (M' : km_Mm), (∀ b i : Int, b ≠ 172 → M' b i = Y b i) ∧ (∀ k : Nat, k ≤ many → ∀ S : Int, ten S → klB W sg no (many - k) k S (M' 172 (1024 * k + S))) ∧ ∀ Q : Option km_V → km_Al → km_Mm → Prop, (km_G M_X12_laid 56 [some (.inr (.inr 123)), some (.inl (many : Int)), some (.inl mo), some (.inl no), some (.inl ((j : Int) - 1)), o5, o6, o7, o8, o9] [] (km_A0 q c s) X Q ↔ (0 ≤ M' 123 82 ∧ M' 123 82 < 5120) ∧ Q (some (.inl (M' 172 (M' 123 82)))) (km_A0 q c s) M') := by
  intro j
  induction j with
  | zero =>
    intro o5 o6 o7 o8 o9 X hj f1 f2
    refine ⟨X, f1, fun k hk => f2 k (by omega) hk, fun Q => ?_⟩
    rw [g_X12_laid_56]
    simp (config := { decide := true }) (disch := first | decide | assumption | omega | (simp (config := { decide := true }) only [km_sr_sf, km_sr_of, km_up_of, km_up_o, km_upx_i, km_upx_s, km_fl2_o, ne_eq, not_true_eq_false, not_false_eq_true] <;> omega) | fail) only [g_X12_laid, ka_lt, ka_le, ka_nlt, ka_nle, ka_ne, ka_eq, Int.add_sub_cancel, true_or, or_true, false_or, or_false, false_and, and_false, if_true, if_false, ka_lo, ka_hi, ka_nn, km_sr_sf, km_sr_of, km_up_of, km_sr_us, km_sr_uo, km_sr_sr, km_sr_fl, km_sr_flo, km_up_up, km_up_lt, km_lay, km_unL, km_up_o, km_upx_i, km_upx_s, km_fl2_o, km_is, Option.some.injEq, Sum.inl.injEq, Sum.inr.injEq, Option.toList_some, Option.toList_none, List.cons_append, List.nil_append, ne_eq, true_and, and_true, and_self, not_true_eq_false, not_false_eq_true, true_implies, false_implies, reduceCtorEq]
  | succ j ih =>
    intro o5 o6 o7 o8 o9 X hj f1 f2
    have e171 : X 171 = W := (funext fun i => f1 171 i (by omega)).trans hW
    have nk : many - (j + 1) + 1 = many - j := by omega
    obtain ⟨M1, p6, p7, p8, p9, a1, a2, a3⟩ := @lp_laid64 q c s X W many mo no sg j (many - (j + 1)) hm (by omega) e171 (by omega) (by omega) (fun t ht => hw j t (by omega) (by omega) ht) (fun S hS => by
      have := f2 (j + 1) (by omega) hj S hS
      rw [show 1024 * ((j + 1 : Nat) : Int) + S = 1024 * (j : Int) + 1024 + S by omega, show ((j + 1 : Nat) : Int) = (j : Int) + 1 by omega] at this
      exact this) 1024 0 o6 o7 o8 o9 X (by omega) (by decide) (fun _ _ _ => rfl) (fun T T0 T1 => by omega)
    rw [nk] at a2
    obtain ⟨M', b1, b2, b3⟩ := ih (some (.inl 1024)) p6 p7 p8 p9 M1 (by omega) (fun b i h => (a1 b i (by omega)).trans (f1 b i h)) (fun k k0 k1 S hS => by
      by_cases z : k = j
      · subst z; exact a2 S hS
      · have hS' := hS
        unfold ten at hS'
        rw [a1 172 _ (by omega)]
        exact f2 k (by omega) k1 S hS)
    refine ⟨M', b1, b2, fun Q => ?_⟩
    have ej : ((j + 1 : Nat) : Int) - 1 = (j : Int) := by omega
    have nj : ¬ (j : Int) < 0 := by omega
    rw [← b3 Q, g_X12_laid_56, ej]
    simp (config := { decide := true }) (disch := first | decide | assumption | omega | (simp (config := { decide := true }) only [km_sr_sf, km_sr_of, km_up_of, km_up_o, km_upx_i, km_upx_s, km_fl2_o, ne_eq, not_true_eq_false, not_false_eq_true] <;> omega) | fail) only [g_X12_laid, nj, a3, ka_lt, ka_le, ka_nlt, ka_nle, ka_ne, ka_eq, Int.add_sub_cancel, true_or, or_true, false_or, or_false, false_and, and_false, if_true, if_false, ka_lo, ka_hi, ka_nn, km_sr_sf, km_sr_of, km_up_of, km_sr_us, km_sr_uo, km_sr_sr, km_sr_fl, km_sr_flo, km_up_up, km_up_lt, km_lay, km_unL, km_up_o, km_upx_i, km_upx_s, km_fl2_o, km_is, Option.some.injEq, Sum.inl.injEq, Sum.inr.injEq, Option.toList_some, Option.toList_none, List.cons_append, List.nil_append, ne_eq, true_and, and_true, and_self, not_true_eq_false, not_false_eq_true, true_implies, false_implies, reduceCtorEq]
theorem lp_laid14 {q : Nat × Int × Int × Int × Int} {c s : Nat} {Y : km_Mm} {mo no : Int} {many : Int} (m0 : 0 ≤ many) (m4 : many ≤ 4) :
    ∀ (N : Nat) (S : Int) (X : km_Mm), S + N = 1024 → 0 ≤ S → (∀ b i : Int, b ≠ 172 → X b i = Y b i) → (∀ T : Int, 0 ≤ T → T < S → X 172 (1024 * many + T) = if T = 0 then 0 else no) →
    ∃ (M' : km_Mm), (∀ b i : Int, b ≠ 172 → M' b i = Y b i) ∧ (∀ T : Int, ten T → M' 172 (1024 * many + T) = if T = 0 then 0 else no) ∧ ∀ Q : Option km_V → km_Al → km_Mm → Prop, (km_G M_X12_laid 14 [some (.inr (.inr 123)), some (.inl many), some (.inl mo), some (.inl no), some (.inl S), none, none, none, none, none] [] (km_A0 q c s) X Q ↔ km_G M_X12_laid 56 [some (.inr (.inr 123)), some (.inl many), some (.inl mo), some (.inl no), some (.inl (many - 1)), none, none, none, none, none] [] (km_A0 q c s) M' Q) := by
  intro N
  induction N with
  | zero =>
    intro S X h h0 f1 f2
    have e : S = 1024 := by omega
    subst e
    refine ⟨X, f1, fun T hT => f2 T hT.1 hT.2, fun Q => ?_⟩
    rw [g_X12_laid_14]
    simp (config := { decide := true }) (disch := first | decide | assumption | omega | (simp (config := { decide := true }) only [km_sr_sf, km_sr_of, km_up_of, km_up_o, km_upx_i, km_upx_s, km_fl2_o, ne_eq, not_true_eq_false, not_false_eq_true] <;> omega) | fail) only [g_X12_laid, ka_lt, ka_le, ka_nlt, ka_nle, ka_ne, ka_eq, Int.add_sub_cancel, true_or, or_true, false_or, or_false, false_and, and_false, if_true, if_false, ka_lo, ka_hi, ka_nn, km_sr_sf, km_sr_of, km_up_of, km_sr_us, km_sr_uo, km_sr_sr, km_sr_fl, km_sr_flo, km_up_up, km_up_lt, km_lay, km_unL, km_up_o, km_upx_i, km_upx_s, km_fl2_o, km_is, Option.some.injEq, Sum.inl.injEq, Sum.inr.injEq, Option.toList_some, Option.toList_none, List.cons_append, List.nil_append, ne_eq, true_and, and_true, and_self, not_true_eq_false, not_false_eq_true, true_implies, false_implies, reduceCtorEq]
  | succ N ih =>
    intro S X h h0 f1 f2
    obtain ⟨M', d1, d2, d3⟩ := ih (S + 1) (km_up X 172 (1024 * many + S) (if S = 0 then 0 else no)) (by omega) (by omega) (fun b i z => by rw [km_up_ne (fun w => z w.1)]; exact f1 b i z) (fun T T0 T1 => by
      by_cases z : T = S
      · rw [km_up_eq ⟨rfl, by rw [z]⟩, z]
      · rw [km_up_ne (fun w => by omega)]; exact f2 T T0 (by omega))
    refine ⟨M', d1, d2, fun Q => ?_⟩
    rw [← d3 Q, g_X12_laid_14]
    by_cases z : S = 0
    · subst z
      rw [if_pos rfl]
      simp (config := { decide := true }) (disch := first | decide | assumption | omega | (simp (config := { decide := true }) only [km_sr_sf, km_sr_of, km_up_of, km_up_o, km_upx_i, km_upx_s, km_fl2_o, ne_eq, not_true_eq_false, not_false_eq_true] <;> omega) | fail) only [g_X12_laid, ka_lt, ka_le, ka_nlt, ka_nle, ka_ne, ka_eq, Int.add_sub_cancel, true_or, or_true, false_or, or_false, false_and, and_false, if_true, if_false, ka_lo, ka_hi, ka_nn, km_sr_sf, km_sr_of, km_up_of, km_sr_us, km_sr_uo, km_sr_sr, km_sr_fl, km_sr_flo, km_up_up, km_up_lt, km_lay, km_unL, km_up_o, km_upx_i, km_upx_s, km_fl2_o, km_is, Option.some.injEq, Sum.inl.injEq, Sum.inr.injEq, Option.toList_some, Option.toList_none, List.cons_append, List.nil_append, ne_eq, true_and, and_true, and_self, not_true_eq_false, not_false_eq_true, true_implies, false_implies, reduceCtorEq]
    · rw [if_neg z]
      simp (config := { decide := true }) (disch := first | decide | assumption | omega | (simp (config := { decide := true }) only [km_sr_sf, km_sr_of, km_up_of, km_up_o, km_upx_i, km_upx_s, km_fl2_o, ne_eq, not_true_eq_false, not_false_eq_true] <;> omega) | fail) only [g_X12_laid, z, ka_lt, ka_le, ka_nlt, ka_nle, ka_ne, ka_eq, Int.add_sub_cancel, true_or, or_true, false_or, or_false, false_and, and_false, if_true, if_false, ka_lo, ka_hi, ka_nn, km_sr_sf, km_sr_of, km_up_of, km_sr_us, km_sr_uo, km_sr_sr, km_sr_fl, km_sr_flo, km_up_up, km_up_lt, km_lay, km_unL, km_up_o, km_upx_i, km_upx_s, km_fl2_o, km_is, Option.some.injEq, Sum.inl.injEq, Sum.inr.injEq, Option.toList_some, Option.toList_none, List.cons_append, List.nil_append, ne_eq, true_and, and_true, and_self, not_true_eq_false, not_false_eq_true, true_implies, false_implies, reduceCtorEq]
theorem md_laid {q : Nat × Int × Int × Int × Int} {c s : Nat} {Y : km_Mm} {mo no sg : Int} {many : Nat} (hm : kmo mo no sg) (m4 : many ≤ 4) (hg : ten (Y 123 82)) (hw : ∀ r t : Int, 0 ≤ r → r < many → ten t → Y 171 (1024 * r + t) ≤ 8000 ∧ -1 ≤ Y 171 (1024 * r + t)) :
    ∃ (M' : km_Mm), (∀ b i : Int, b ≠ 172 → M' b i = Y b i) ∧ (∀ k : Nat, k ≤ many → ∀ S : Int, ten S → klB (Y 171) sg no (many - k) k S (M' 172 (1024 * k + S))) ∧ ∀ Q : Option km_V → km_Al → km_Mm → Prop, (km_E M_X12_laid [.inr (.inr 123), .inl (many : Int), .inl mo] (km_A0 q c s) Y Q ↔ Q (some (.inl (M' 172 (Y 123 82)))) (km_A0 q c s) M') := by
  obtain ⟨M1, a1, a2, a3⟩ := @lp_laid14 q c s Y mo no many (by omega) (by omega) 1024 0 Y (by omega) (by decide) (fun _ _ _ => rfl) (fun T T0 T1 => by omega)
  obtain ⟨M', b1, b2, b3⟩ := @lp_laid56 q c s M1 (Y 171) mo no sg many hm m4 (funext fun i => a1 171 i (by decide)) hw many none none none none none M1 (Nat.le_refl _) (fun _ _ _ => rfl) (fun k k0 k1 S hS => by
    have e : k = many := by omega
    subst e
    rw [Nat.sub_self, a2 S hS]
    by_cases z : S = 0
    · subst z
      rw [if_pos rfl]
      exact Or.inl ⟨0, ⟨rfl, rfl⟩, by omega⟩
    · rw [if_neg z]
      exact Or.inr ⟨fun ⟨v, h1, h2⟩ => z h1, rfl⟩)
  have e82 : M' 123 82 = Y 123 82 := (b1 _ _ (by decide)).trans (a1 _ _ (by decide))
  refine ⟨M', fun b i h => (b1 b i h).trans (a1 b i h), b2, fun Q => ?_⟩
  have c := b3 Q
  rw [e82] at c
  have hg' := hg
  unfold ten at hg'
  rw [e_X12_laid]
  rcases hm with ⟨rfl, rfl, rfl⟩ | ⟨rfl, rfl, rfl⟩
  · simp (config := { decide := true }) (disch := first | decide | assumption | omega | (simp (config := { decide := true }) only [km_sr_sf, km_sr_of, km_up_of, km_up_o, km_upx_i, km_upx_s, km_fl2_o, ne_eq, not_true_eq_false, not_false_eq_true] <;> omega) | fail) only [g_X12_laid, a3, c, ka_lt, ka_le, ka_nlt, ka_nle, ka_ne, ka_eq, Int.add_sub_cancel, true_or, or_true, false_or, or_false, false_and, and_false, if_true, if_false, ka_lo, ka_hi, ka_nn, km_sr_sf, km_sr_of, km_up_of, km_sr_us, km_sr_uo, km_sr_sr, km_sr_fl, km_sr_flo, km_up_up, km_up_lt, km_lay, km_unL, km_up_o, km_upx_i, km_upx_s, km_fl2_o, km_is, Option.some.injEq, Sum.inl.injEq, Sum.inr.injEq, Option.toList_some, Option.toList_none, List.cons_append, List.nil_append, ne_eq, true_and, and_true, and_self, not_true_eq_false, not_false_eq_true, true_implies, false_implies, reduceCtorEq]
  · simp (config := { decide := true }) (disch := first | decide | assumption | omega | (simp (config := { decide := true }) only [km_sr_sf, km_sr_of, km_up_of, km_up_o, km_upx_i, km_upx_s, km_fl2_o, ne_eq, not_true_eq_false, not_false_eq_true] <;> omega) | fail) only [g_X12_laid, a3, c, ka_lt, ka_le, ka_nlt, ka_nle, ka_ne, ka_eq, Int.add_sub_cancel, true_or, or_true, false_or, or_false, false_and, and_false, if_true, if_false, ka_lo, ka_hi, ka_nn, km_sr_sf, km_sr_of, km_up_of, km_sr_us, km_sr_uo, km_sr_sr, km_sr_fl, km_sr_flo, km_up_up, km_up_lt, km_lay, km_unL, km_up_o, km_upx_i, km_upx_s, km_fl2_o, km_is, Option.some.injEq, Sum.inl.injEq, Sum.inr.injEq, Option.toList_some, Option.toList_none, List.cons_append, List.nil_append, ne_eq, true_and, and_true, and_self, not_true_eq_false, not_false_eq_true, true_implies, false_implies, reduceCtorEq]
theorem md_firstOf {q : Nat × Int × Int × Int × Int} {c s : Nat} {X : km_Mm} {W : Int → Int} {mo no sg r S t : Int} {n : Nat} (hm : kmo mo no sg) (n3 : n ≤ 3) (hW : X 171 = W) (r0 : 0 ≤ r) (r1 : r < 4) (hS : ten S) (hw : ∀ t : Int, ten t → W (1024 * r + t) ≤ 8000 ∧ -1 ≤ W (1024 * r + t)) (hl : ∀ t : Int, ksb t S → klB W sg no n (r + 1) (S - t) (X 172 (1024 * r + 1024 + (S - t)))) (h2 : klB W sg no (n + 1) r S (X 172 (1024 * r + S))) (hF : kdF (klX W sg) (klF W) n r S t) (Q : Option km_V → km_Al → km_Mm → Prop) : km_E M_X12_firstOf [.inr (.inr 123), .inl r, .inl S] (km_A0 q c s) X Q ↔ Q (some (.inl t)) (km_A0 q c s) X := by
  obtain ⟨⟨t1, t2, u, t3, t4⟩, t5⟩ := hF
  have lt := ksb_le hS t1
  have tt := ksb_ten hS t1
  have hSt := hS
  unfold ten at hSt
  have nb : no = 1000000 ∨ no = -1 := by rcases hm with ⟨_, rfl, _⟩ | ⟨_, rfl, _⟩ <;> omega
  have top : X 172 (1024 * r + S) = sg * (klX W sg r t + u) ∧ 0 ≤ X 172 (1024 * r + S) ∧ X 172 (1024 * r + S) ≤ 32000 := by
    rcases h2 with ⟨v, b1, b2⟩ | ⟨b1, b2⟩
    · have := kdD_un b1 t4
      subst this
      have := klD_b hm b1
      exact ⟨b2, by omega, by omega⟩
    · exact absurd ⟨_, t4⟩ b1
  have rng : ∀ x : Int, ksb x S → X 172 (1024 * r + 1024 + (S - x)) = no ∨ (0 ≤ X 172 (1024 * r + 1024 + (S - x)) ∧ X 172 (1024 * r + 1024 + (S - x)) ≤ 24000) := fun x hx => by
    rcases hl x hx with ⟨v, b1, b2⟩ | ⟨b1, b2⟩
    · have := klD_b hm b1; omega
    · exact Or.inl b2
  have key : ∀ (N : Nat) (x : Int), x + N = t → 0 ≤ x → (km_G M_X12_firstOf 2 [some (.inr (.inr 123)), some (.inl r), some (.inl S), some (.inl x)] [] (km_A0 q c s) X Q ↔ Q (some (.inl t)) (km_A0 q c s) X) := by
    intro N
    induction N with
    | zero =>
      intro x h x0
      have e : x = t := by omega
      subst e
      have an := ksb_andn hS t1
      have a0 := (ksb_n0 tt hS).mpr t1
      have bt : X 172 (1024 * r + 1024 + (S - x)) = sg * u := by
        rcases hl x t1 with ⟨v, b1, b2⟩ | ⟨b1, b2⟩
        · rw [kdD_un t3 b1]; exact b2
        · exact absurd ⟨_, t3⟩ b1
      have bu := klD_b hm t3
      have w0 := t2
      unfold klF at w0
      rw [← hW] at w0
      have w0' : ¬ X 171 (1024 * r + x) < 0 := by omega
      have b1 : ¬ X 172 (1024 * r + 1024 + (S - x)) = -1 := by omega
      have eq : X 171 (1024 * r + x) + X 172 (1024 * r + 1024 + (S - x)) = X 172 (1024 * r + S) := by
        rw [bt, top.1, hW]
        unfold klX
        rcases hm with ⟨_, _, rfl⟩ | ⟨_, _, rfl⟩ <;> omega
      rw [g_X12_firstOf_2]
      simp (config := { decide := true }) (disch := first | decide | assumption | omega | (simp (config := { decide := true }) only [km_sr_sf, km_sr_of, km_up_of, km_up_o, km_upx_i, km_upx_s, km_fl2_o, ne_eq, not_true_eq_false, not_false_eq_true] <;> omega) | fail) only [g_X12_firstOf, an, a0, w0', b1, eq, ka_lt, ka_le, ka_nlt, ka_nle, ka_ne, ka_eq, Int.add_sub_cancel, true_or, or_true, false_or, or_false, false_and, and_false, if_true, if_false, ka_lo, ka_hi, ka_nn, km_sr_sf, km_sr_of, km_up_of, km_sr_us, km_sr_uo, km_sr_sr, km_sr_fl, km_sr_flo, km_up_up, km_up_lt, km_lay, km_unL, km_up_o, km_upx_i, km_upx_s, km_fl2_o, km_is, Option.some.injEq, Sum.inl.injEq, Sum.inr.injEq, Option.toList_some, Option.toList_none, List.cons_append, List.nil_append, ne_eq, true_and, and_true, and_self, not_true_eq_false, not_false_eq_true, true_implies, false_implies, reduceCtorEq]
    | succ N ih =>
      intro x h x0
      have i1 := ih (x + 1) (by omega) (by omega)
      have tx : ten x := ⟨x0, by omega⟩
      rw [← i1, g_X12_firstOf_2]
      by_cases z1 : ksb x S
      · have an := ksb_andn hS z1
        have a0 := (ksb_n0 tx hS).mpr z1
        have l1 := ksb_le hS z1
        by_cases z2 : X 171 (1024 * r + x) < 0
        · simp (config := { decide := true }) (disch := first | decide | assumption | omega | (simp (config := { decide := true }) only [km_sr_sf, km_sr_of, km_up_of, km_up_o, km_upx_i, km_upx_s, km_fl2_o, ne_eq, not_true_eq_false, not_false_eq_true] <;> omega) | fail) only [g_X12_firstOf, an, a0, z2, ka_lt, ka_le, ka_nlt, ka_nle, ka_ne, ka_eq, Int.add_sub_cancel, true_or, or_true, false_or, or_false, false_and, and_false, if_true, if_false, ka_lo, ka_hi, ka_nn, km_sr_sf, km_sr_of, km_up_of, km_sr_us, km_sr_uo, km_sr_sr, km_sr_fl, km_sr_flo, km_up_up, km_up_lt, km_lay, km_unL, km_up_o, km_upx_i, km_upx_s, km_fl2_o, km_is, Option.some.injEq, Sum.inl.injEq, Sum.inr.injEq, Option.toList_some, Option.toList_none, List.cons_append, List.nil_append, ne_eq, true_and, and_true, and_self, not_true_eq_false, not_false_eq_true, true_implies, false_implies, reduceCtorEq]
        · by_cases z3 : X 172 (1024 * r + 1024 + (S - x)) = -1
          · simp (config := { decide := true }) (disch := first | decide | assumption | omega | (simp (config := { decide := true }) only [km_sr_sf, km_sr_of, km_up_of, km_up_o, km_upx_i, km_upx_s, km_fl2_o, ne_eq, not_true_eq_false, not_false_eq_true] <;> omega) | fail) only [g_X12_firstOf, an, a0, z2, z3, ka_lt, ka_le, ka_nlt, ka_nle, ka_ne, ka_eq, Int.add_sub_cancel, true_or, or_true, false_or, or_false, false_and, and_false, if_true, if_false, ka_lo, ka_hi, ka_nn, km_sr_sf, km_sr_of, km_up_of, km_sr_us, km_sr_uo, km_sr_sr, km_sr_fl, km_sr_flo, km_up_up, km_up_lt, km_lay, km_unL, km_up_o, km_upx_i, km_upx_s, km_fl2_o, km_is, Option.some.injEq, Sum.inl.injEq, Sum.inr.injEq, Option.toList_some, Option.toList_none, List.cons_append, List.nil_append, ne_eq, true_and, and_true, and_self, not_true_eq_false, not_false_eq_true, true_implies, false_implies, reduceCtorEq]
          · have rx := rng x z1
            have wx := hw x tx
            rw [← hW] at wx
            have z4 : ¬ X 171 (1024 * r + x) + X 172 (1024 * r + 1024 + (S - x)) = X 172 (1024 * r + S) := by
              intro w
              rcases hl x z1 with ⟨v, b1, b2⟩ | ⟨b1, b2⟩
              · refine t5 x (by omega) ⟨z1, ⟨by rw [← hW]; omega, by rw [← hW]; omega⟩, v, b1, ?_⟩
                have : klX W sg r x + v = klX W sg r t + u := by
                  rw [b2, top.1, hW] at w
                  unfold klX at w ⊢
                  rcases hm with ⟨_, _, rfl⟩ | ⟨_, _, rfl⟩ <;> omega
                rw [this]; exact t4
              · omega
            simp (config := { decide := true }) (disch := first | decide | assumption | omega | (simp (config := { decide := true }) only [km_sr_sf, km_sr_of, km_up_of, km_up_o, km_upx_i, km_upx_s, km_fl2_o, ne_eq, not_true_eq_false, not_false_eq_true] <;> omega) | fail) only [g_X12_firstOf, an, a0, z2, z3, z4, ka_lt, ka_le, ka_nlt, ka_nle, ka_ne, ka_eq, Int.add_sub_cancel, true_or, or_true, false_or, or_false, false_and, and_false, if_true, if_false, ka_lo, ka_hi, ka_nn, km_sr_sf, km_sr_of, km_up_of, km_sr_us, km_sr_uo, km_sr_sr, km_sr_fl, km_sr_flo, km_up_up, km_up_lt, km_lay, km_unL, km_up_o, km_upx_i, km_upx_s, km_fl2_o, km_is, Option.some.injEq, Sum.inl.injEq, Sum.inr.injEq, Option.toList_some, Option.toList_none, List.cons_append, List.nil_append, ne_eq, true_and, and_true, and_self, not_true_eq_false, not_false_eq_true, true_implies, false_implies, reduceCtorEq]
      · have a0 : ¬ km_and x (km_xor S (-1)) = 0 := fun w => z1 ((ksb_n0 tx hS).mp w)
        simp (config := { decide := true }) (disch := first | decide | assumption | omega | (simp (config := { decide := true }) only [km_sr_sf, km_sr_of, km_up_of, km_up_o, km_upx_i, km_upx_s, km_fl2_o, ne_eq, not_true_eq_false, not_false_eq_true] <;> omega) | fail) only [g_X12_firstOf, a0, ka_lt, ka_le, ka_nlt, ka_nle, ka_ne, ka_eq, Int.add_sub_cancel, true_or, or_true, false_or, or_false, false_and, and_false, if_true, if_false, ka_lo, ka_hi, ka_nn, km_sr_sf, km_sr_of, km_up_of, km_sr_us, km_sr_uo, km_sr_sr, km_sr_fl, km_sr_flo, km_up_up, km_up_lt, km_lay, km_unL, km_up_o, km_upx_i, km_upx_s, km_fl2_o, km_is, Option.some.injEq, Sum.inl.injEq, Sum.inr.injEq, Option.toList_some, Option.toList_none, List.cons_append, List.nil_append, ne_eq, true_and, and_true, and_self, not_true_eq_false, not_false_eq_true, true_implies, false_implies, reduceCtorEq]
  have k := key t.toNat 0 (by omega) (by decide)
  rw [e_X12_firstOf]
  simp (config := { decide := true }) (disch := first | decide | assumption | omega | (simp (config := { decide := true }) only [km_sr_sf, km_sr_of, km_up_of, km_up_o, km_upx_i, km_upx_s, km_fl2_o, ne_eq, not_true_eq_false, not_false_eq_true] <;> omega) | fail) only [g_X12_firstOf, k, Int.add_sub_cancel, true_or, or_true, false_or, or_false, false_and, and_false, if_true, if_false, ka_lo, ka_hi, ka_nn, km_sr_sf, km_sr_of, km_up_of, km_sr_us, km_sr_uo, km_sr_sr, km_sr_fl, km_sr_flo, km_up_up, km_up_lt, km_lay, km_unL, km_up_o, km_upx_i, km_upx_s, km_fl2_o, km_is, Option.some.injEq, Sum.inl.injEq, Sum.inr.injEq, Option.toList_some, Option.toList_none, List.cons_append, List.nil_append, ne_eq, true_and, and_true, and_self, not_true_eq_false, not_false_eq_true, true_implies, false_implies, reduceCtorEq]

