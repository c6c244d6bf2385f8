/-! ===== the lines of a text, side by side ===== -/
section PM
variable {q qY : Nat × Int × Int × Int × Int} {c s : Nat} {X Y W M X' Y' M2 : km_Mm} {P n p z a b u i w T : Int} {B : Int → Int} {N N' : Int → Prop}
/-- a line has ended well: the state between the lines again -/
theorem st_l2 (hPo : P = 40 ∨ P = 46) (L : kLp X Y P z a b N) (h20 : 20 ≤ T ∧ T ≤ 23) (hb : T = 21 → b < 4) (hs : T ≠ 21 → X (P + 5) (kLo T b) = -1)
    (wf : ∀ d j : Int, ¬ (d = 3 ∧ 3 ≤ j ∧ j ≤ 6) → ¬ (d = 37 ∧ 4 ≤ j ∧ j ≤ 6) → ¬ (d = P ∧ (j = 6 ∨ j = 7)) → ¬ (d = P + 5 ∧ j = kLo T b) → W d j = X d j) (w6 : W P 6 = X P 6 + 1) (w7 : W P 7 = b + (if T = 21 then 1 else 0)) (w5 : W (P + 5) (kLo T b) = a)
    (mf : ∀ d j : Int, ¬ (d = 123 ∧ ((26 ≤ j ∧ j ≤ 29) ∨ j = 48)) → M d j = Y d j) (m48 : M 123 48 = b + (if T = 21 then 1 else 0))
    (f1 : kFXl P a W X') (f2 : kFYl N (kEz M) Y') {v e t : Int} {g : Nat} (a2 : 0 ≤ X' P 9 ∧ X' P 9 < 32768) (a6 : kcd X' Y' P (T - 20) N' g 0 v a e t) (a7 : X' (P + 1) e = 0 ∧ X' P 4 = e + 1 ∧ X' P 8 = z + t ∧ Y' 123 36 = z + t ∧ z + t ≤ 120) (a8 : ∀ x, N x → N' x) (a9 : ∀ x, N' x → 120 ≤ x ∧ x < 120 + (z + t))
    (hM : ∀ d j : Int, ¬ (d = 123 ∧ 26 ≤ j ∧ j ≤ 29) → M2 d j = km_up Y' 142 (kLr (T - 20) b) v d j) : kLp X' M2 P (z + t) (e + 1) (b + (if T = 21 then 1 else 0)) N' ∧ X' P 6 = X P 6 + 1 := by
  obtain ⟨⟨l4, l8, l7, l9⟩, ⟨y36, y48⟩, ⟨b1, b2, b3, b4, b5, b6⟩, lc, ln, ls, lb⟩ := L
  obtain ⟨kr1, kr2, kr3, kr4, kr5⟩ := @krt_lo T b h20 (fun h => ⟨b4, hb h⟩)
  have bd := kcd_b _ _ _ _ _ _ a6
  have vN := a9 v bd.2.2.2
  have xP : ∀ j : Int, j = 6 ∨ j = 7 → X' P j = W P j := fun j hj => f1.1 P j (by omega) (by omega) (by omega) (by omega) (by omega) (by omega)
  have x5 : ∀ j : Int, X' (P + 5) j = W (P + 5) j := fun j => f1.1 (P + 5) j (by omega) (by omega) (by omega) (by omega) (by omega) (by omega)
  have x5o : ∀ j : Int, j ≠ kLo T b → X' (P + 5) j = X (P + 5) j := fun j hj => by rw [x5, wf _ _ (by omega) (by omega) (by omega) (by omega)]
  have x5s : X' (P + 5) (kLo T b) = a := by rw [x5, w5]
  have y142 : ∀ j : Int, j ≠ kLr (T - 20) b → M2 142 j = Y 142 j := fun j hj => by rw [hM _ _ (by omega), km_up_ne (by omega), f2.1 142 j (by omega) (by omega) (by omega), kEz_o (by omega), mf _ _ (by omega)]
  have y142s : M2 142 (kLr (T - 20) b) = v := by rw [hM _ _ (by omega), km_upx_s]
  have mr : ∀ r x : Int, 138 ≤ r → r ≤ 141 → M2 r x = Y' r x := fun r x r1 r2 => by rw [hM _ _ (by omega), km_up_ne (by omega)]
  have x6 : X' P 6 = X P 6 + 1 := by rw [xP 6 (Or.inl rfl), w6]
  have i0 : 0 ≤ (if T = 21 then (1 : Int) else 0) ∧ (if T = 21 then (1 : Int) else 0) ≤ 1 := by split <;> omega
  refine ⟨⟨⟨a7.2.1, a7.2.2.1, ?_, a2⟩, ⟨?_, ?_⟩, ⟨by omega, by omega, a7.2.2.2.2, by omega, ?_, by omega⟩, ?_, a9, fun K k0 k1 => ?_, fun K k0 k1 => ?_⟩, x6⟩
  · rw [xP 7 (Or.inr rfl), w7]
  · rw [hM _ _ (by omega), km_up_ne (by omega)]; exact a7.2.2.2.1
  · rw [hM _ _ (by omega), km_up_ne (by omega), f2.1 123 48 (by omega) (by omega) (by omega), kEz_o (by omega), m48]
  · by_cases y : T = 21
    · rw [if_pos y]; have := hb y; omega
    · rw [if_neg y]; omega
  · rw [x6, lc]
    by_cases y : T = 21
    · have := kr4 y
      have := hb y
      rw [if_pos y, x5o 4 (by omega), x5o 5 (by omega), x5o 6 (by omega)]; omega
    · have k4 := kr5 y
      have hs := hs y
      have a1 := kon_1 (show 0 ≤ a from b1)
      have a0 : kon (-1) = 0 := rfl
      rw [if_neg y]
      have kk : kLo T b = 4 ∨ kLo T b = 5 ∨ kLo T b = 6 := by omega
      rcases kk with k | k | k
      · rw [k] at x5s hs
        rw [x5s, x5o 5 (by omega), x5o 6 (by omega), hs, a1, a0]; omega
      · rw [k] at x5s hs
        rw [x5s, x5o 4 (by omega), x5o 6 (by omega), hs, a1, a0]; omega
      · rw [k] at x5s hs
        rw [x5s, x5o 4 (by omega), x5o 5 (by omega), hs, a1, a0]; omega
  · by_cases hK : K = kLo T b
    · rw [hK]
      refine Or.inr ⟨⟨by rw [x5s]; exact b1, by rw [kr1, y142s]; exact vN.1⟩, g, e, t, ?_, a7.1, by omega, by omega⟩
      rw [kr1, y142s, x5s, kr2]
      exact kcd_cg (lo := a) (hi := e) (fun r j _ _ _ _ => rfl) (fun k _ h => h) (fun x hx => ⟨hx, fun r r1 r2 => mr r x r1 r2⟩) _ _ _ _ _ _ (Int.le_refl _) (Int.le_refl _) a6
    · have hk2 : krt K ≠ kLr (T - 20) b := fun h => hK (krt_inj ⟨k0, k1⟩ kr3 (h.trans kr1.symm))
      rcases ls K k0 k1 with ⟨c1, c2⟩ | ⟨⟨c1, c2⟩, f, e1, t1, c3, c4, c5, c6⟩
      · exact Or.inl ⟨by rw [x5o K hK]; exact c1, by rw [y142 _ hk2]; exact c2⟩
      · have xr : ∀ r j : Int, 1 ≤ r → r ≤ 4 → j < a → X' (P + r) j = X (P + r) j := fun r j r1 r2 ja => by rw [f1.2.1 r j r1 r2 ja, wf _ _ (by omega) (by omega) (by omega) (by omega)]
        have bd1 := kcd_b _ _ _ _ _ _ c3
        refine Or.inr ⟨⟨by rw [x5o K hK]; exact c1, by rw [y142 _ hk2]; exact c2⟩, f, e1, t1, ?_, ?_, by omega, c6⟩
        · rw [x5o K hK, y142 _ hk2]
          refine kcd_cg (lo := X (P + 5) K) (hi := e1) (fun r j r1 r2 _ je => xr r j r1 r2 (by omega)) (fun k k0 h => f1.2.2 k k0 (by rw [wf P 9 (by omega) (by omega) (by omega) (by omega)]; exact h)) (fun x hx => ⟨a8 x hx, fun r r1 r2 => ?_⟩) _ _ _ _ _ _ (Int.le_refl _) (Int.le_refl _) c3
          rw [mr r x r1 r2, f2.2.2.1 x hx r r1 r2, kEz_o (by omega), mf _ _ (by omega)]
        · rw [xr 1 e1 (by decide) (by decide) (by omega)]; exact c4
  · by_cases y : T = 21
    · rw [if_pos y] at k0
      have := kr4 y
      rw [x5o K (by omega)]; exact lb K (by omega) k1
    · rw [if_neg y] at k0
      have := kr5 y
      rw [x5o K (by omega)]; exact lb K (by omega) k1
def kLend (q qY : Nat × Int × Int × Int × Int) (c s : Nat) (P n u w i : Int) (X Y : km_Mm) : Prop := ∃ X' Y' : km_Mm, kGX P X X' ∧ kGY Y Y' ∧
  ((∃ f : Int, f ≠ 0 ∧ X' 37 2 = f ∧ Y' 123 23 = f ∧ X' 37 3 = Y' 123 24 ∧ (∀ Q : Option km_V → km_Al → km_Mm → Prop, km_G M_X7_parse 52 [some (.inr (.inr 37)), some (.inl n), some (.inr (.inr u)), some (.inl i)] [] (km_A0 q c s) X Q ↔ Q none (km_A0 q c s) X') ∧ ∀ (o : Option km_V) (Q : Option km_V → km_Al → km_Mm → Prop), km_G M_X12_rules 83 [some (.inr (.inr 123)), some (.inl n), some (.inl w), o] [] (km_A0 qY c s) Y Q ↔ Q (some (.inl (-1))) (km_A0 qY c s) Y') ∨
   (∃ (N : Int → Prop) (z a b : Int), (X' 37 2 = 0 ∧ X' 37 3 = X 37 3 ∧ Y' 123 23 = Y 123 23 ∧ Y' 123 24 = Y 123 24) ∧ kLp X' Y' P z a b N ∧ (∀ Q : Option km_V → km_Al → km_Mm → Prop, km_G M_X7_parse 52 [some (.inr (.inr 37)), some (.inl n), some (.inr (.inr u)), some (.inl i)] [] (km_A0 q c s) X Q ↔ Q none (km_A0 q c s) X') ∧ ∀ (o : Option km_V) (Q : Option km_V → km_Al → km_Mm → Prop), km_G M_X12_rules 83 [some (.inr (.inr 123)), some (.inl n), some (.inl w), o] [] (km_A0 qY c s) Y Q ↔ km_G M_X12_rules 115 [some (.inr (.inr 123)), some (.inl n), some (.inl (X' P 6)), some (.inl 0)] [] (km_A0 qY c s) (km_up Y' 123 35 (Y' 123 36)) Q))
theorem kLend_step {X1 Y1 : km_Mm} {i1 w1 : Int} (fx : kGX P X X1) (fy : kGY Y Y1) (h3 : X1 37 3 = X 37 3 ∧ Y1 123 23 = Y 123 23 ∧ Y1 123 24 = Y 123 24) (hX : ∀ Q : Option km_V → km_Al → km_Mm → Prop, km_G M_X7_parse 52 [some (.inr (.inr 37)), some (.inl n), some (.inr (.inr u)), some (.inl i)] [] (km_A0 q c s) X Q ↔ km_G M_X7_parse 52 [some (.inr (.inr 37)), some (.inl n), some (.inr (.inr u)), some (.inl i1)] [] (km_A0 q c s) X1 Q) (hY : ∀ (o : Option km_V) (Q : Option km_V → km_Al → km_Mm → Prop), ∃ o1 : Option km_V, (km_G M_X12_rules 83 [some (.inr (.inr 123)), some (.inl n), some (.inl w), o] [] (km_A0 qY c s) Y Q ↔ km_G M_X12_rules 83 [some (.inr (.inr 123)), some (.inl n), some (.inl w1), o1] [] (km_A0 qY c s) Y1 Q)) (h : kLend q qY c s P n u w1 i1 X1 Y1) : kLend q qY c s P n u w i X Y := by
  obtain ⟨X', Y', f1, f2, hh⟩ := h
  refine ⟨X', Y', kGX_tr fx f1, kGY_tr fy f2, ?_⟩
  rcases hh with ⟨f, a1, a2, a3, a4, a5, a6⟩ | ⟨N, z, a, b, ⟨a1, a2, a3, a4⟩, a5, a6, a7⟩
  · exact Or.inl ⟨f, a1, a2, a3, a4, fun Q => (hX Q).trans (a5 Q), fun o Q => by obtain ⟨o1, h1⟩ := hY o Q; exact h1.trans (a6 o1 Q)⟩
  · exact Or.inr ⟨N, z, a, b, ⟨a1, a2.trans h3.1, a3.trans h3.2.1, a4.trans h3.2.2⟩, a5, fun Q => (hX Q).trans (a6 Q), fun o Q => by obtain ⟨o1, h1⟩ := hY o Q; exact h1.trans (a7 o1 Q)⟩
theorem kLend_flt {f κ : Int} {Z V : km_Mm} (hPo : P = 40 ∨ P = 46) (hf : f ≠ 0) (fx : kGX P X Z) (hZ : Z 3 5 = κ) (fy : kGY Y V) (hV : V 123 29 = κ) (hX : ∀ Q : Option km_V → km_Al → km_Mm → Prop, km_G M_X7_parse 52 [some (.inr (.inr 37)), some (.inl n), some (.inr (.inr u)), some (.inl i)] [] (km_A0 q c s) X Q ↔ Q none (km_A0 q c s) (kFa f Z)) (hY : ∀ (o : Option km_V) (Q : Option km_V → km_Al → km_Mm → Prop), km_G M_X12_rules 83 [some (.inr (.inr 123)), some (.inl n), some (.inl w), o] [] (km_A0 qY c s) Y Q ↔ Q (some (.inl (-1))) (km_A0 qY c s) (kWr f V)) : kLend q qY c s P n u w i X Y := by
  refine ⟨kFa f Z, kWr f V, kGX_tr fx (fun d j _ h _ _ _ => ?_), kGY_tr fy (kGY_w (fun d j h _ _ => ?_)), Or.inl ⟨f, hf, ?_, ?_, ?_, hX, hY⟩⟩
  · unfold kFa; rw [km_up_ne (by omega), km_up_ne (by omega)]
  · unfold kWr; rw [km_up_ne (by omega), km_up_ne (by omega)]
  · unfold kFa; rw [km_upx_i (by decide), km_upx_s]
  · unfold kWr; rw [km_upx_i (by decide), km_upx_s]
  · unfold kFa kWr; rw [km_upx_s, km_upx_s, hZ, hV]
/-- a word that does not begin a line, or not here -/
theorem st_lno (hP : kPq q P) (S : kLn X Y P B n p z a b N) (hi : 0 ≤ i ∧ i ≤ p) (hT : kcT B n (ksk B n 600 p) = T) (h0 : T ≠ 0) (hw : T < 20 ∨ 23 < T ∨ (T = 21 ∧ b = 4) ∨ (20 ≤ T ∧ T ≤ 23 ∧ T ≠ 21 ∧ X (P + 5) (kLo T b) ≠ -1)) : kLend q qY c s P n u w i X Y := by
  obtain ⟨tk, ⟨x2, x4, x9, x10, x13⟩, ⟨l4, l8, l7, l9⟩, ⟨y36, y48⟩, ⟨b1, b2, b3, b4, b5, b6⟩, lc, ln, ls, lb⟩ := S
  have hPo := hP.1
  obtain ⟨Z, zf, z5, zT, z3, -, za⟩ := @kTk_adv q c s X Y B n p tk
  obtain ⟨⟨t1, t2, t3, t4, t5⟩, tx, t26, t29, tt⟩ := tk
  have Tb := kcT_b (B := B) (n := n) (k := ksk B n 600 p)
  rw [hT] at zT tt Tb
  have n6 := tx.2.1.2
  have fz : kGX P X Z := fun d j h _ _ _ _ => zf d j h
  have rf : kGY Y Y := kGY_w (fun _ _ _ _ _ => rfl)
  have ns : T < 20 ∨ 23 < T → Y 123 27 ≠ 0 ∧ (Y 123 27 ≠ 1 ∨ 3 < Y 123 28) := fun h => by
    by_cases a1 : T = 1
    · have := ktk_1 (by rw [← a1]; exact tt)
      omega
    by_cases a2 : T = 2
    · have := (ktk_2 (by rw [← a2]; exact tt)).1
      omega
    by_cases a3 : T ≤ 16
    · have := (ktk_s (by omega) tt).1
      omega
    · obtain ⟨k1, k2⟩ := ktk_w (by omega) tt
      refine ⟨by omega, Or.inr ?_⟩
      rw [k2]; unfold kww
      split
      · omega
      · split <;> omega
  by_cases h1 : T < 20 ∨ 23 < T
  · obtain ⟨n0, n1⟩ := ns h1
    exact kLend_flt hPo (f := 1) (by decide) fz z5 rf t29 (ps_tf x2 ⟨hi.1, by omega⟩ n6 za zT h0 (by decide) (fun Q => @cl_lineN1 q c s Z T Q ((zf _ _ (by omega)).trans x4) h1)) (fun o Q => rl_83_N n0 (fun Q => md_lineN1 n1))
  · obtain ⟨kd, kw⟩ := ktk_w (by omega) tt
    have kw2 : kww T = T - 20 := by unfold kww; rw [if_neg (by omega), if_neg (by omega)]
    rw [kw2] at kw
    by_cases h2 : T = 21
    · subst h2
      exact kLend_flt hPo (f := 2) (by decide) fz z5 rf t29 (ps_tf x2 ⟨hi.1, by omega⟩ n6 za zT h0 (by decide) (fun Q => @cl_lineN2 q c s Z P Q hP ((zf _ _ (by omega)).trans x4) (by rw [zf _ _ (by omega), l7]; omega))) (fun o Q => rl_83_N (by omega) (fun Q => md_lineN2 kd kw (by omega)))
    · have h3 : X (P + 5) (kLo T b) ≠ -1 := by
        rcases hw with h | h | h | h
        · omega
        · omega
        · omega
        · exact h.2.2.2
      obtain ⟨kr1, kr2, kr3, kr4, kr5⟩ := @krt_lo T b (by omega) (fun h => absurd h h2)
      have hr : 0 ≤ Y 142 (kLr (T - 20) b) := by
        rcases ls _ kr3.1 kr3.2 with u | u
        · exact absurd u.1 h3
        · have := u.1.2
          rw [kr1] at this
          omega
      exact kLend_flt hPo (f := 3) (by decide) fz z5 rf t29 (ps_tf x2 ⟨hi.1, by omega⟩ n6 za zT h0 (by decide) (fun Q => @cl_lineN3 q c s Z P T Q hP ((zf _ _ (by omega)).trans x4) (by omega) (by rw [zf P 7 (by omega), l7, zf _ _ (by omega)]; exact h3))) (fun o Q => rl_83_N (by omega) (fun Q => md_lineN3 kd (by omega) (by rw [kw, y48]; exact hr)))
/-- the end of the text -/
theorem st_lend (S : kLn X Y P B n p z a b N) (hi : 0 ≤ i ∧ i ≤ p) (hT : kcT B n (ksk B n 600 p) = 0) (hw : w = X P 6) (hPo : P = 40 ∨ P = 46) : kLend q qY c s P n u w i X Y := by
  obtain ⟨tk, ⟨x2, x4, x9, x10, x13⟩, L⟩ := S
  obtain ⟨Z, zf, z5, zT, z3, -, za⟩ := @kTk_adv q c s X Y B n p tk
  obtain ⟨⟨t1, t2, t3, t4, t5⟩, tx, t26, t29, tt⟩ := tk
  rw [hT] at zT tt
  have n6 := tx.2.1.2
  have kd := ktk_0 tt
  have zo : ∀ d j : Int, d ≠ 3 → Z d j = X d j := fun d j h => zf d j (by omega)
  refine ⟨Z, Y, fun d j h _ _ _ _ => zf d j h, kGY_w (fun _ _ _ _ _ => rfl), Or.inr ⟨N, z, a, b, ⟨(zo _ _ (by decide)).trans x2, zo _ _ (by decide), rfl, rfl⟩, ?_, fun Q => ps_done x2 ⟨hi.1, by omega⟩ n6 za zT ((zo _ _ (by decide)).trans x2) ((zo _ _ (by decide)).trans x4), fun o Q => ?_⟩⟩
  · have e : ∀ d : Int, d ≠ 3 → Z d = X d := fun d h => funext fun j => zo d j h
    unfold kLp kLs at *
    rw [e P (by omega), e (P + 5) (by omega), e (P + 1) (by omega)]
    obtain ⟨l1, l2, l3, l5, l6, ls, lb⟩ := L
    refine ⟨l1, l2, l3, l5, l6, fun K k0 k1 => (ls K k0 k1).imp (fun h => h) (fun ⟨h1, f, e1, t1, c3, c4, c5⟩ => ⟨h1, f, e1, t1, ?_, c4, c5⟩), lb⟩
    exact kcd_cg (lo := X (P + 5) K) (hi := e1) (fun r j r1 r2 _ _ => zo _ _ (by omega)) (fun k _ h => by rw [zo _ _ (by omega)]; exact h) (fun x hx => ⟨hx, fun r _ _ => rfl⟩) _ _ _ _ _ _ (Int.le_refl _) (Int.le_refl _) c3
  · rw [rl_83_0 kd, hw, zo P 6 (by omega)]
/-- THE TEXT -/
theorem st_lines (hP : kPq q P) : ∀ (f : Nat) (X Y : km_Mm) (N : Int → Prop) (p z a b i : Int), 120 - z < f → kLn X Y P B n p z a b N → 0 ≤ i → i ≤ p → kLend q qY c s P n u (X P 6) i X Y := by
  intro f
  induction f with
  | zero => intro X Y N p z a b i hz S; have := S.2.2.2.2.1; omega
  | succ f ih =>
    intro X Y N p z a b i hz S i0 ip
    have hPo := hP.1
    by_cases h0 : kcT B n (ksk B n 600 p) = 0
    · exact st_lend S ⟨i0, ip⟩ h0 rfl hPo
    generalize hT : kcT B n (ksk B n 600 p) = T at h0
    by_cases hw : T < 20 ∨ 23 < T ∨ (T = 21 ∧ b = 4) ∨ (20 ≤ T ∧ T ≤ 23 ∧ T ≠ 21 ∧ X (P + 5) (kLo T b) ≠ -1)
    · exact st_lno hP S ⟨i0, ip⟩ hT h0 hw
    have h20 : 20 ≤ T ∧ T ≤ 23 := by omega
    have L := S.2.2
    obtain ⟨⟨l4, l8, l7, l9⟩, ⟨y36, y48⟩, ⟨b1, b2, b3, b4, b5, b6⟩, lc, ln, ls, lb⟩ := S.2.2
    have hb : T = 21 → b < 4 := fun h => by omega
    have hs : T ≠ 21 → X (P + 5) (kLo T b) = -1 := fun h => by
      by_cases y : X (P + 5) (kLo T b) = -1
      · exact y
      · exact absurd (Or.inr (Or.inr (Or.inr ⟨h20.1, h20.2, h, y⟩))) hw
    have k4 := @kon_b (X (P + 5) 4)
    have k5 := @kon_b (X (P + 5) 5)
    have k6 := @kon_b (X (P + 5) 6)
    obtain ⟨kr1, kr2, kr3, kr4, kr5⟩ := @krt_lo T b h20 (fun h => ⟨b4, hb h⟩)
    have h142 : Y 142 (kLr (T - 20) b) < 0 := by
      have e : X (P + 5) (kLo T b) = -1 := by
        by_cases y : T = 21
        · have := kr4 y; have := hb y
          exact lb _ (by omega) (by omega)
        · exact hs y
      rcases ls _ kr3.1 kr3.2 with u | u
      · have := u.2; rw [kr1] at this; omega
      · have := u.1.1; omega
    obtain ⟨W, M, p', hp', s1, wf, ⟨w6, w7, w5⟩, mf, m48, hX, ht⟩ := @st_l1 q qY c s X Y P n p z a b u i T B N hP S ⟨i0, ip⟩ hT h20 hb hs
    have tk := S.1
    obtain ⟨⟨t1, t2, t3, t4, t5⟩, tx, t26, t29, tt⟩ := tk
    rw [hT] at tt
    obtain ⟨kd, kw⟩ := ktk_w (by omega) tt
    have kw2 : kww T = T - 20 := by unfold kww; rw [if_neg (by omega), if_neg (by omega)]
    rw [kw2] at kw
    have en := (@st_main q qY c s P (T - 20) a n z u B hP (n - p' + 1).toNat).1 W (kEz M) N p' 0 0 a 0 0 0 (i + 1) none (by omega) s1 (by omega) (by omega)
    have gx : kGX P X W := fun d j h1 h2 _ _ h5 => wf d j h1 (by omega) (by omega) (by omega)
    have gy : kGY Y (kEz M) := kGY_w (fun d j h1 _ _ => by rw [kEz_o (by omega), mf _ _ (by omega)])
    have x3 : W 37 3 = X 37 3 := wf _ _ (by omega) (by omega) (by omega) (by omega)
    have y3 : ∀ j : Int, j = 23 ∨ j = 24 → kEz M 123 j = Y 123 j := fun j hj => by rw [kEz_o (by omega), mf _ _ (by omega)]
    obtain ⟨X', Y', f1, f2, hh⟩ := en
    have g1 := kGX_tr gx (kGX_of f1)
    have g2 := kGY_tr gy (kGY_of f2)
    rcases hh with ⟨g, a1, a2, a3, a4, a5, a6⟩ | ⟨v, a1, a2, a3, a4, a5, a6⟩ | ⟨v, i', p2, e, t, g, N', ⟨a1, a1b, a1c, a1d⟩, ⟨a2, a2b, a2c, a2d, a2e⟩, a3, a4, a5, a6, a7, a8, a9, aa, ab⟩
    · have la := (@md_lineA qY c s Y Y' M)
      refine ⟨X', Y', g1, g2, Or.inl ⟨g, a1, a2, a3, a4, fun Q => (hX Q).trans (a5 Q), fun o Q => rl_83_N (by omega) (fun Q => ?_)⟩⟩
      exact (@md_lineA qY c s Y Y' M Q (T - 20) (-1) b kd kw y48 (by omega) ⟨b4, b5⟩ (fun h => hb (by omega)) h142 ht (fun Q => r_expr.trans (a6 Q))).1 (by decide)
    · have kr7 : 7 ≤ kLr (T - 20) b := by rw [← kr1]; unfold krt; split <;> (try split) <;> (try split) <;> omega
      refine ⟨X', kWr 1 (km_up Y' 142 (kLr (T - 20) b) v), g1, kGY_tr g2 (kGY_w (fun d j h h3 _ => ?_)), Or.inl ⟨1, by decide, a2, ?_, ?_, fun Q => (hX Q).trans (a5 Q), fun o Q => rl_83_N (by omega) (fun Q => ?_)⟩⟩
      · unfold kWr; rw [km_up_ne (by omega), km_up_ne (by omega), km_up_ne (by omega)]
      · unfold kWr; rw [km_upx_i (by decide), km_upx_s]
      · unfold kWr; rw [km_upx_s, km_up_ne (by omega)]; exact a3
      · exact (@md_lineA qY c s Y Y' M Q (T - 20) v b kd kw y48 (by omega) ⟨b4, b5⟩ (fun h => hb (by omega)) h142 ht (fun Q => r_expr.trans (a6 Q))).2.1 (by omega) a4
    · have kr7 : 7 ≤ kLr (T - 20) b := by rw [← kr1]; unfold krt; split <;> (try split) <;> (try split) <;> omega
      have bd := kcd_b _ _ _ _ _ _ a6
      obtain ⟨M2, m1, mtk, mt⟩ := @kTk_take qY c s (km_up Y' 142 (kLr (T - 20) b) v) B n p2 (kTx_fr a5.1 (km_up_ne (by omega)) (fun i => km_up_ne (by omega)) (fun i => km_up_ne (by omega))) ⟨a4.1, a4.2.1⟩ (by rw [km_up_ne (by omega)]; exact a5.2.2.2)
      obtain ⟨L2, x6⟩ := @st_l2 X Y W M X' Y' M2 P z a b T N N' hPo L h20 hb hs wf w6 w7 w5 mf m48 f1 f2 v e t g a2e a6 a7 a8 a9 m1
      have S2 : kLn X' M2 P B n p2 (z + t) (e + 1) (b + (if T = 21 then 1 else 0)) N' := ⟨mtk X' a3.1 a3.2.1 a3.2.2, ⟨a1, a2, a2b, a2c, a2d⟩, L2⟩
      have en2 := ih X' M2 N' p2 (z + t) (e + 1) (b + (if T = 21 then 1 else 0)) i' (by omega) S2 a4.2.2.1 a4.2.2.2
      rw [x6] at en2
      have g3 : kGY Y M2 := kGY_tr g2 (kGY_w (fun d j h h3 _ => by rw [m1 d j (by omega), km_up_ne (by omega)]))
      refine kLend_step (w1 := X P 6 + 1) g1 g3 ⟨(a1b hPo).trans x3, ?_, ?_⟩ (fun Q => (hX Q).trans (aa Q)) (fun o Q => ⟨o, rl_83_Y (by omega) (by omega) (fun Q => ?_)⟩) en2
      · rw [m1 _ _ (by omega), km_up_ne (by omega), a1c]; exact y3 23 (Or.inl rfl)
      · rw [m1 _ _ (by omega), km_up_ne (by omega), a1d]; exact y3 24 (Or.inr rfl)
      · exact (@md_lineA qY c s Y Y' M Q (T - 20) v b kd kw y48 (by omega) ⟨b4, b5⟩ (fun h => hb (by omega)) h142 ht (fun Q => r_expr.trans (ab Q))).2.2 (by have := (a9 v bd.2.2.2).1; omega) ⟨a5.2.1, a5.2.2.1⟩ M2 mt
end PM

