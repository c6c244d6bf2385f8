/-! ===== the house in the class: what a set costs ===== -/
theorem km_wt_b {m : km_Mm} {a v : Int} : ∀ (n : Nat) (i x : Int), 0 ≤ i → i + n ≤ 10 → ten x → ten (km_wt m a v n i x) ∧ ∀ k : Int, 0 ≤ k → (tb (km_wt m a v n i x) k = true ↔ tb x k = true ∨ (i ≤ k ∧ k < i + n ∧ m a k = v)) := by
  intro n
  induction n with
  | zero => intro i x i0 i1 hx; refine ⟨hx, fun k k0 => ?_⟩; unfold km_wt; constructor; exact Or.inl; rintro (w | w); exact w; omega
  | succ n ih =>
    intro i x i0 i1 hx
    unfold km_wt
    have t1 := ten_one (k := i) (by omega) (by omega)
    by_cases z : m a i = v
    · rw [if_pos z]
      obtain ⟨a1, a2⟩ := ih (i + 1) (km_or x (km_shl 1 i)) (by omega) (by omega) (ten_or hx t1)
      refine ⟨a1, fun k k0 => ?_⟩
      rw [a2 k k0, tb_or hx.1 (by unfold ten at hx; omega) t1.1 (by unfold ten at t1; omega), tb_one i0 (by omega) k0, Bool.or_eq_true, decide_eq_true_eq]
      constructor
      · rintro ((w | w) | w)
        · exact Or.inl w
        · subst w; exact Or.inr ⟨by omega, by omega, z⟩
        · exact Or.inr ⟨by omega, by omega, w.2.2⟩
      · rintro (w | w)
        · exact Or.inl (Or.inl w)
        · by_cases e : k = i
          · exact Or.inl (Or.inr e)
          · exact Or.inr ⟨by omega, by omega, w.2.2⟩
    · rw [if_neg z]
      obtain ⟨a1, a2⟩ := ih (i + 1) x (by omega) (by omega) hx
      refine ⟨a1, fun k k0 => ?_⟩
      rw [a2 k k0]
      constructor
      · rintro (w | w)
        · exact Or.inl w
        · exact Or.inr ⟨by omega, by omega, w.2.2⟩
      · rintro (w | w)
        · exact Or.inl w
        · by_cases e : k = i
          · subst e; exact absurd w.2.2 z
          · exact Or.inr ⟨by omega, by omega, w.2.2⟩
/-- a FEUD within a set -/
def kfd (F : Int → Int) (t : Int) : Prop := ∃ i k : Int, 0 ≤ i ∧ i < k ∧ k < 10 ∧ tb t i = true ∧ tb t k = true ∧ tb (F i) k = true
theorem kfd_0 {F : Int → Int} : ¬ kfd F 0 := by
  rintro ⟨i, k, -, -, -, h, -⟩
  rw [tb_zero] at h; cases h
theorem kfd_low {F : Int → Int} (hF : ∀ a : Int, 0 ≤ a → a < 10 → ten (F a)) {t : Int} (h : ten t) (h0 : t ≠ 0) : kfd F t ↔ ¬ km_and (F (klw t)) (km_and t (t - 1)) = 0 ∨ kfd F (km_and t (t - 1)) := by
  obtain ⟨⟨a1, a2, a3⟩, b⟩ := klw_split h h0
  have l := (klw_p h h0).1
  have hf := hF _ l.1 l.2.1
  have f2 : F (klw t) < 2147483648 := by unfold ten at hf; omega
  constructor
  · rintro ⟨i, k, i0, ik, k1, ti, tk, fi⟩
    have ci := (b i i0).1.mp ti
    have ck := (b k (by omega)).1.mp tk
    rcases ci with ci | ci
    · right
      have := (b i i0).2.2 ci
      exact ⟨i, k, i0, ik, k1, ci, ck.resolve_right (by omega), fi⟩
    · left
      intro w
      have := (tb_eq0 (ten_and hf a1.1)).mp w k (by omega) k1
      rw [tb_and hf.1 f2 a1.1, ← ci, fi, ck.resolve_right (by omega)] at this
      cases this
  · rintro (w | ⟨i, k, i0, ik, k1, ti, tk, fi⟩)
    · rw [tb_eq0 (ten_and hf a1.1)] at w
      have : ∃ k : Int, 0 ≤ k ∧ k < 10 ∧ tb (km_and (F (klw t)) (km_and t (t - 1))) k = true := Classical.byContradiction fun n => w (fun k k0 k1 => by
        cases e : tb (km_and (F (klw t)) (km_and t (t - 1))) k
        · rfl
        · exact absurd ⟨k, k0, k1, e⟩ n)
      obtain ⟨k, k0, k1, e⟩ := this
      rw [tb_and hf.1 f2 a1.1, Bool.and_eq_true] at e
      exact ⟨klw t, k, l.1, (b k k0).2.2 e.2, k1, l.2.2, (b k k0).1.mpr (Or.inl e.2), e.1⟩
    · exact ⟨i, k, i0, ik, k1, (b i i0).1.mpr (Or.inl ti), (b k (by omega)).1.mpr (Or.inl tk), fi⟩
/-- what snores with what doesn't -/
def kbA (p sn t : Int) : Int := p * (km_pop (km_and t sn) * (km_pop t - km_pop (km_and t sn)))
theorem kmul_q {L n : Int} (h0 : 0 ≤ L) (h1 : L ≤ n) (h2 : n ≤ 10) : 0 ≤ L * (n - L) ∧ L * (n - L) ≤ 25 := by
  have e : L = 0 ∨ L = 1 ∨ L = 2 ∨ L = 3 ∨ L = 4 ∨ L = 5 ∨ L = 6 ∨ L = 7 ∨ L = 8 ∨ L = 9 ∨ L = 10 := by omega
  rcases e with rfl | rfl | rfl | rfl | rfl | rfl | rfl | rfl | rfl | rfl | rfl <;> omega
theorem kbA_b {p sn t : Int} (hp : 0 ≤ p ∧ p ≤ 99) (ht : ten t) (hs : 0 ≤ sn) : 0 ≤ kbA p sn t ∧ kbA p sn t ≤ 2475 := by
  have a := @kpop_b (km_and t sn)
  have b := @kpop_b t
  have d := kpop_sub ht hs
  have e := kmul_q a.1 d b.2
  have f := kmul_b hp.1 hp.2 e.1 e.2
  unfold kbA
  omega
theorem kbA_0 {p sn : Int} (hs : 0 ≤ sn) : kbA p sn 0 = 0 := by
  have : km_and 0 sn = 0 := by rw [ks_and (by decide) (by decide) hs]; simp
  unfold kbA; rw [this, show km_pop 0 = 0 by decide]; simp
theorem kbA_low {p sn t : Int} (hs : ten sn) (h : ten t) (h0 : t ≠ 0) : kbA p sn t = kbA p sn (km_and t (t - 1)) + p * (if tb sn (klw t) = true then km_pop (km_and (km_and t (t - 1)) (km_xor sn (-1))) else km_pop (km_and (km_and t (t - 1)) sn)) := by
  have r := (klw_split h h0).1.1
  unfold kbA
  rw [klw_pop h h0, klw_popand h h0 hs.1, kpop_andn r hs]
  generalize km_pop (km_and (km_and t (t - 1)) sn) = L
  generalize km_pop (km_and t (t - 1)) = n
  by_cases z : tb sn (klw t) = true
  · rw [if_pos z, if_pos z, ← Int.mul_add]
    congr 1
    rw [show n + 1 - (L + 1) = n - L by omega, Int.add_mul]; omega
  · rw [if_neg z, if_neg z, ← Int.mul_add]
    congr 1
    rw [show n + 1 - (L + 0) = (n - L) + 1 by omega, Int.add_zero, Int.mul_add]; omega
/-- what is kept for the set t -/
def kSC (F A B : Int → Int) (v t : Int) : Prop := (¬ kfd F t → v = A t - B t) ∧ (kfd F t → 1000000 - B t ≤ v ∧ v ≤ 1000000 + A t)
theorem kSC_low {F A B : Int → Int} (hF : ∀ a : Int, 0 ≤ a → a < 10 → ten (F a)) {t v al be : Int} (h : ten t) (h0 : t ≠ 0) (hA : A t = A (km_and t (t - 1)) + al) (hB : B t = B (km_and t (t - 1)) + be) (al0 : 0 ≤ al) (be0 : 0 ≤ be) (nA : 0 ≤ A t) (nB : 0 ≤ B t) (hv : kSC F A B v (km_and t (t - 1))) : kSC F A B (if km_and (F (klw t)) (km_and t (t - 1)) = 0 then v + al - be else 1000000) t := by
  have f := kfd_low hF h h0
  unfold kSC at *
  by_cases z : km_and (F (klw t)) (km_and t (t - 1)) = 0
  · rw [if_pos z]
    have g : kfd F t ↔ kfd F (km_and t (t - 1)) := f.trans ⟨fun w => w.resolve_left (fun y => y z), Or.inr⟩
    rw [g]
    refine ⟨fun w => ?_, fun w => ?_⟩
    · have := hv.1 w; omega
    · have := hv.2 w; omega
  · rw [if_neg z]
    have g : kfd F t := f.mpr (Or.inl z)
    exact ⟨fun w => absurd g w, fun _ => by omega⟩
/-- what moves to a set stays small -/
theorem kSC_b {F A B : Int → Int} {v t : Int} (a0 : 0 ≤ A t) (a1 : A t ≤ 2475) (b0 : 0 ≤ B t) (b1 : B t ≤ 4455) (h : kSC F A B v t) : -4455 ≤ v ∧ v ≤ 1002475 := by
  unfold kSC at h
  by_cases z : kfd F t
  · have := h.2 z; omega
  · have := h.1 z; omega
/-- for each of w those of w that R tells -/
def kPR (P : Int → Int) (w : Int) (R : Int → Int → Prop) : Prop := ∀ a i : Int, 0 ≤ a → a < i → i < 10 → tb w a = true → tb w i = true → (tb (P a) i = true ↔ R a i)
theorem kPR_pop {P : Int → Int} {w : Int} {R : Int → Int → Prop} (hw : ten w) (hP : ∀ a : Int, 0 ≤ a → a < 10 → ten (P a)) (hR : kPR P w R) {t : Int} (ht : ksb t w) (h0 : t ≠ 0) : km_pop (km_and (P (klw t)) (km_and t (t - 1))) = kcnt (fun i => tb (km_and t (t - 1)) i = true ∧ R (klw t) i) 10 := by
  have tt := ksb_ten hw ht
  obtain ⟨⟨a1, a2, a3⟩, b⟩ := klw_split tt h0
  have l := (klw_p tt h0).1
  have hp := hP _ l.1 l.2.1
  have s := ((ksb_tb hw).mp ht).2
  rw [km_pop_cnt]
  refine kcnt_cong 10 (fun i i0 i1 => ?_)
  rw [tb_and hp.1 (by unfold ten at hp; omega) a1.1, Bool.and_eq_true]
  constructor
  · rintro ⟨w1, w2⟩
    exact ⟨w2, (hR (klw t) i l.1 ((b i i0).2.2 w2) i1 (s _ l.1 l.2.2) (s _ i0 ((b i i0).1.mpr (Or.inl w2)))).mp w1⟩
  · rintro ⟨w1, w2⟩
    exact ⟨(hR (klw t) i l.1 ((b i i0).2.2 w1) i1 (s _ l.1 l.2.2) (s _ i0 ((b i i0).1.mpr (Or.inl w1)))).mpr w2, w1⟩
theorem cl_bed33 {q : Nat × Int × Int × Int × Int} {c s : Nat} {Y : km_Mm} {w sn cc : Int} {R : Int → Int → Prop} (hw : ten w) (hs : ten sn) (hF : ∀ a : Int, 0 ≤ a → a < 10 → ten (Y 88 a)) (hP : ∀ a : Int, 0 ≤ a → a < 10 → ten (Y 90 a)) (hR : kPR (Y 90) w R) (p0 : 0 ≤ Y 89 0 ∧ Y 89 0 ≤ 99) (p1 : 0 ≤ Y 89 1 ∧ Y 89 1 ≤ 99) :
    ∀ (n : Nat) (x i : Int) (o8 o9 o10 : Option km_V) (X : km_Mm), 1023 - x < n → ksb x w → x ≠ 0 → 0 ≤ i → i < x → (∀ b j : Int, b ≠ 92 → X b j = Y b j) → (∀ t : Int, ksb t w → t < x → kSC (Y 88) (kbA (Y 89 0) sn) (fun t => Y 89 1 * kpr R t) (X 92 t) t) →
    ∃ (M' : km_Mm) (i' : Int) (p8 p9 p10 : Option km_V), (∀ b j : Int, b ≠ 92 → M' b j = Y b j) ∧ (∀ t : Int, ksb t w → kSC (Y 88) (kbA (Y 89 0) sn) (fun t => Y 89 1 * kpr R t) (M' 92 t) t) ∧ ∀ Q : Option km_V → km_Al → km_Mm → Prop, (km_G M_X3_findBedding 33 [some (.inr (.inr 85)), some (.inl w), some (.inr (.inr 5)), some (.inr (.inr 102)), some (.inl cc), some (.inl sn), some (.inl x), some (.inl i), o8, o9, o10] [] (km_A0 q c s) X Q ↔ km_G M_X3_findBedding 33 [some (.inr (.inr 85)), some (.inl w), some (.inr (.inr 5)), some (.inr (.inr 102)), some (.inl cc), some (.inl sn), some (.inl 0), some (.inl i'), p8, p9, p10] [] (km_A0 q c s) M' Q) := by
  intro n
  have hw' := hw
  unfold ten at hw'
  induction n with
  | zero => intro x i o8 o9 o10 X h hx; have := ksb_le hw hx; omega
  | succ n ih =>
    intro x i o8 o9 o10 X h hx x0 i0 i1 f1 f2
    have lx := ksb_le hw hx
    have tx := ksb_ten hw hx
    have nx := ksb_next hw hx
    obtain ⟨⟨r1, r2, r3⟩, b⟩ := klw_split tx x0
    have l := (klw_p tx x0).1
    have rl := ksb_le tx r2
    have xw : ksb (km_and x (x - 1)) w := ksb_tr tx hw r2 hx
    have ntz := fun (X : km_Mm) Q => @r_ntz q c s X x tx x0 Q
    have e88 : X 88 = Y 88 := funext fun j => f1 88 j (by decide)
    have e89 : X 89 = Y 89 := funext fun j => f1 89 j (by decide)
    have e90 : X 90 = Y 90 := funext fun j => f1 90 j (by decide)
    have hf := hF _ l.1 l.2.1
    have hp := hP _ l.1 l.2.1
    have ns := fun (X : km_Mm) Q => @r_nextSet q c s X x w lx.1 (by omega) hw.1 (by omega) Q
    have tp : ten (km_and (Y 90 (klw x)) (km_and x (x - 1))) := ten_and hp r1.1
    have bp := fun (X : km_Mm) Q => @sp_bitCount _ tp.1 tp.2 (km_A0 q c s) X Q
    have pp := kPR_pop hw hP hR hx x0
    have tu1 : ten (km_and (km_and x (x - 1)) (km_xor sn (-1))) := ten_andn r1 hs
    have tu2 : ten (km_and (km_and x (x - 1)) sn) := ten_and r1 hs.1
    have bu1 := fun (X : km_Mm) Q => @sp_bitCount _ tu1.1 tu1.2 (km_A0 q c s) X Q
    have bu2 := fun (X : km_Mm) Q => @sp_bitCount _ tu2.1 tu2.2 (km_A0 q c s) X Q
    have ur := f2 _ xw r3
    have A0 := kbA_b (sn := sn) p0 r1 hs.1
    have A1 := kbA_b (sn := sn) p0 tx hs.1
    have B0 := @kpr_b R (km_and x (x - 1))
    have B1 := @kpr_b R x
    have B0' := kmul_b p1.1 p1.2 B0.1 B0.2
    have B1' := kmul_b p1.1 p1.2 B1.1 B1.2
    have vb := kSC_b A0.1 A0.2 B0'.1 B0'.2 ur
    have bb := ks_bit (x := sn) (k := klw x) hs.1 (by unfold ten at hs; omega) l.1 (by omega)
    have mp := kmul_b p1.1 p1.2 (@kpop_b (km_and (Y 90 (klw x)) (km_and x (x - 1)))).1 kpop_b.2
    have mu1 := kmul_b p0.1 p0.2 (@kpop_b (km_and (km_and x (x - 1)) (km_xor sn (-1)))).1 kpop_b.2
    have mu2 := kmul_b p0.1 p0.2 (@kpop_b (km_and (km_and x (x - 1)) sn)).1 kpop_b.2
    have hB : Y 89 1 * kpr R x = Y 89 1 * kpr R (km_and x (x - 1)) + Y 89 1 * km_pop (km_and (Y 90 (klw x)) (km_and x (x - 1))) := by
      rw [kpr_low tx x0, pp, Int.mul_add]
    have hA := kbA_low (p := Y 89 0) hs tx x0
    have key := kSC_low (F := Y 88) (A := kbA (Y 89 0) sn) (B := fun t => Y 89 1 * kpr R t) hF tx x0 hA hB (by split <;> omega) (by omega) A1.1 B1'.1 ur
    have fin : ∀ (v : Int) (p8 p9 p10 : Option km_V), kSC (Y 88) (kbA (Y 89 0) sn) (fun t => Y 89 1 * kpr R t) v x → (∀ Q : Option km_V → km_Al → km_Mm → Prop, km_G M_X3_findBedding 33 [some (.inr (.inr 85)), some (.inl w), some (.inr (.inr 5)), some (.inr (.inr 102)), some (.inl cc), some (.inl sn), some (.inl x), some (.inl i), o8, o9, o10] [] (km_A0 q c s) X Q ↔ km_G M_X3_findBedding 33 [some (.inr (.inr 85)), some (.inl w), some (.inr (.inr 5)), some (.inr (.inr 102)), some (.inl cc), some (.inl sn), some (.inl (km_and (x - w) w)), some (.inl (i + 1)), p8, p9, p10] [] (km_A0 q c s) (km_up X 92 x v) Q) → ∃ (M' : km_Mm) (i' : Int) (p8 p9 p10 : Option km_V), (∀ b j : Int, b ≠ 92 → M' b j = Y b j) ∧ (∀ t : Int, ksb t w → kSC (Y 88) (kbA (Y 89 0) sn) (fun t => Y 89 1 * kpr R t) (M' 92 t) t) ∧ ∀ Q : Option km_V → km_Al → km_Mm → Prop, (km_G M_X3_findBedding 33 [some (.inr (.inr 85)), some (.inl w), some (.inr (.inr 5)), some (.inr (.inr 102)), some (.inl cc), some (.inl sn), some (.inl x), some (.inl i), o8, o9, o10] [] (km_A0 q c s) X Q ↔ km_G M_X3_findBedding 33 [some (.inr (.inr 85)), some (.inl w), some (.inr (.inr 5)), some (.inr (.inr 102)), some (.inl cc), some (.inl sn), some (.inl 0), some (.inl i'), p8, p9, p10] [] (km_A0 q c s) M' Q) := by
      intro v p8 p9 p10 k1 k2
      have st : ∀ (b j : Int), b ≠ 92 → km_up X 92 x v b j = Y b j := fun b j h => by rw [km_up_ne (fun e => h e.1)]; exact f1 b j h
      have sv : ∀ t : Int, ksb t w → t ≤ x → kSC (Y 88) (kbA (Y 89 0) sn) (fun t => Y 89 1 * kpr R t) (km_up X 92 x v 92 t) t := by
        intro t ht htx
        by_cases e : t = x
        · rw [km_up_eq ⟨rfl, e⟩, e]; exact k1
        · rw [km_up_ne (fun z => e z.2)]; exact f2 t ht (by omega)
      rcases nx with ⟨a1, a2⟩ | ⟨a1, a2, a3⟩
      · refine ⟨_, i + 1, p8, p9, p10, st, fun t ht => sv t ht (by have := ksb_le hw ht; omega), fun Q => ?_⟩
        rw [k2, a2]
      · have a4 := ksb_le hw a2
        obtain ⟨M', i', z8, z9, z10, d1, d2, d3⟩ := ih (km_and (x - w) w) (i + 1) p8 p9 p10 (km_up X 92 x v) (by omega) a2 (by omega) (by omega) (by omega) st (fun t ht htx => sv t ht (by
          by_cases e : t ≤ x
          · exact e
          · have := a3 t ht (by omega); omega))
        exact ⟨M', i', z8, z9, z10, d1, d2, fun Q => (k2 Q).trans (d3 Q)⟩
    by_cases zs : tb sn (klw x) = true
    · rw [if_pos zs] at bb key
      by_cases zf : km_and (Y 88 (klw x)) (km_and x (x - 1)) = 0
      · rw [if_pos zf] at key
        refine fin _ (some (.inl (klw x))) (some (.inl (km_and x (x - 1)))) (some (.inl (km_and (km_and x (x - 1)) (km_xor sn (-1))))) key (fun Q => ?_)
        rw [g_X3_findBedding_33]
        simp (config := { decide := true }) (disch := first | decide | assumption | omega | (simp (config := { decide := true }) only [km_sr_sf, km_sr_of, km_up_of, km_up_o, km_upx_i, km_upx_s, km_fl2_o, ne_eq, not_true_eq_false, not_false_eq_true] <;> omega) | fail) only [g_X3_findBedding, x0, ntz, bb, zf, e88, e89, e90, bu1, bp, ns, l, ka_lt, ka_le, ka_nlt, ka_nle, ka_ne, ka_eq, Int.add_sub_cancel, true_or, or_true, false_or, or_false, false_and, and_false, if_true, if_false, ka_lo, ka_hi, ka_nn, km_sr_sf, km_sr_of, km_up_of, km_sr_us, km_sr_uo, km_sr_sr, km_sr_fl, km_sr_flo, km_up_up, km_up_lt, km_lay, km_unL, km_up_o, km_upx_i, km_upx_s, km_fl2_o, km_is, Option.some.injEq, Sum.inl.injEq, Sum.inr.injEq, Option.toList_some, Option.toList_none, List.cons_append, List.nil_append, ne_eq, true_and, and_true, and_self, not_true_eq_false, not_false_eq_true, true_implies, false_implies, reduceCtorEq]
      · rw [if_neg zf] at key
        refine fin _ (some (.inl (klw x))) (some (.inl (km_and x (x - 1)))) (some (.inl (km_and (km_and x (x - 1)) (km_xor sn (-1))))) key (fun Q => ?_)
        rw [g_X3_findBedding_33]
        simp (config := { decide := true }) (disch := first | decide | assumption | omega | (simp (config := { decide := true }) only [km_sr_sf, km_sr_of, km_up_of, km_up_o, km_upx_i, km_upx_s, km_fl2_o, ne_eq, not_true_eq_false, not_false_eq_true] <;> omega) | fail) only [g_X3_findBedding, x0, ntz, bb, zf, e88, e89, e90, ns, l, ka_lt, ka_le, ka_nlt, ka_nle, ka_ne, ka_eq, Int.add_sub_cancel, true_or, or_true, false_or, or_false, false_and, and_false, if_true, if_false, ka_lo, ka_hi, ka_nn, km_sr_sf, km_sr_of, km_up_of, km_sr_us, km_sr_uo, km_sr_sr, km_sr_fl, km_sr_flo, km_up_up, km_up_lt, km_lay, km_unL, km_up_o, km_upx_i, km_upx_s, km_fl2_o, km_is, Option.some.injEq, Sum.inl.injEq, Sum.inr.injEq, Option.toList_some, Option.toList_none, List.cons_append, List.nil_append, ne_eq, true_and, and_true, and_self, not_true_eq_false, not_false_eq_true, true_implies, false_implies, reduceCtorEq]
    · rw [if_neg zs] at bb key
      by_cases zf : km_and (Y 88 (klw x)) (km_and x (x - 1)) = 0
      · rw [if_pos zf] at key
        refine fin _ (some (.inl (klw x))) (some (.inl (km_and x (x - 1)))) (some (.inl (km_and (km_and x (x - 1)) sn))) key (fun Q => ?_)
        rw [g_X3_findBedding_33]
        simp (config := { decide := true }) (disch := first | decide | assumption | omega | (simp (config := { decide := true }) only [km_sr_sf, km_sr_of, km_up_of, km_up_o, km_upx_i, km_upx_s, km_fl2_o, ne_eq, not_true_eq_false, not_false_eq_true] <;> omega) | fail) only [g_X3_findBedding, x0, ntz, bb, zf, e88, e89, e90, bu2, bp, ns, l, ka_lt, ka_le, ka_nlt, ka_nle, ka_ne, ka_eq, Int.add_sub_cancel, true_or, or_true, false_or, or_false, false_and, and_false, if_true, if_false, ka_lo, ka_hi, ka_nn, km_sr_sf, km_sr_of, km_up_of, km_sr_us, km_sr_uo, km_sr_sr, km_sr_fl, km_sr_flo, km_up_up, km_up_lt, km_lay, km_unL, km_up_o, km_upx_i, km_upx_s, km_fl2_o, km_is, Option.some.injEq, Sum.inl.injEq, Sum.inr.injEq, Option.toList_some, Option.toList_none, List.cons_append, List.nil_append, ne_eq, true_and, and_true, and_self, not_true_eq_false, not_false_eq_true, true_implies, false_implies, reduceCtorEq]
      · rw [if_neg zf] at key
        refine fin _ (some (.inl (klw x))) (some (.inl (km_and x (x - 1)))) (some (.inl (km_and (km_and x (x - 1)) sn))) key (fun Q => ?_)
        rw [g_X3_findBedding_33]
        simp (config := { decide := true }) (disch := first | decide | assumption | omega | (simp (config := { decide := true }) only [km_sr_sf, km_sr_of, km_up_of, km_up_o, km_upx_i, km_upx_s, km_fl2_o, ne_eq, not_true_eq_false, not_false_eq_true] <;> omega) | fail) only [g_X3_findBedding, x0, ntz, bb, zf, e88, e89, e90, ns, l, ka_lt, ka_le, ka_nlt, ka_nle, ka_ne, ka_eq, Int.add_sub_cancel, true_or, or_true, false_or, or_false, false_and, and_false, if_true, if_false, ka_lo, ka_hi, ka_nn, km_sr_sf, km_sr_of, km_up_of, km_sr_us, km_sr_uo, km_sr_sr, km_sr_fl, km_sr_flo, km_up_up, km_up_lt, km_lay, km_unL, km_up_o, km_upx_i, km_upx_s, km_fl2_o, km_is, Option.some.injEq, Sum.inl.injEq, Sum.inr.injEq, Option.toList_some, Option.toList_none, List.cons_append, List.nil_append, ne_eq, true_and, and_true, and_self, not_true_eq_false, not_false_eq_true, true_implies, false_implies, reduceCtorEq]

