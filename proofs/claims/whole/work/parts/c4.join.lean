/-! ===== and, or ===== -/
theorem kJ_f {P T : Int} {U : km_Mm} (hP : P = 40 ∨ P = 46) : (∀ b j : Int, ¬ (b = P ∧ j = 4) → ¬ (P + 1 ≤ b ∧ b ≤ P + 4) → ¬ (b = 37 ∧ (j = 4 ∨ j = 6 ∨ j = 9)) → ¬ ((b = 38 ∨ b = 39) ∧ j = U 37 9) → kXo 1 (kEm P T (-1) (kKw T (U P 4) U)) b j = U b j) ∧ (kXo 1 (kEm P T (-1) (kKw T (U P 4) U)) 37 4 = 1 ∧ kXo 1 (kEm P T (-1) (kKw T (U P 4) U)) 37 6 = 1 ∧ kXo 1 (kEm P T (-1) (kKw T (U P 4) U)) 37 9 = U 37 9 + 1) ∧ (kXo 1 (kEm P T (-1) (kKw T (U P 4) U)) 38 (U 37 9) = T ∧ kXo 1 (kEm P T (-1) (kKw T (U P 4) U)) 39 (U 37 9) = U P 4) ∧ kXo 1 (kEm P T (-1) (kKw T (U P 4) U)) P 4 = U P 4 + 1 ∧ (∀ r j : Int, 1 ≤ r → r ≤ 4 → j ≠ U P 4 → kXo 1 (kEm P T (-1) (kKw T (U P 4) U)) (P + r) j = U (P + r) j) ∧ kXo 1 (kEm P T (-1) (kKw T (U P 4) U)) (P + 1) (U P 4) = T := by
  have k4 : kKw T (U P 4) U P 4 = U P 4 := by unfold kKw; rw [km_up_o (by omega), km_up_o (by omega), km_up_o (by omega)]
  have eo : ∀ b j : Int, ¬ (b = P ∧ j = 4) → ¬ (P + 1 ≤ b ∧ b ≤ P + 4) → kEm P T (-1) (kKw T (U P 4) U) b j = kKw T (U P 4) U b j := fun b j h1 h2 => by
    by_cases z : b = P
    · rw [z, kEm_P, if_neg (by omega)]
    · exact kEm_o z (by omega) (by omega) (by omega) (by omega)
  have kf : ∀ b j : Int, ¬ (b = 37 ∧ j = 9) → ¬ ((b = 38 ∨ b = 39) ∧ j = U 37 9) → kKw T (U P 4) U b j = U b j := fun b j h1 h2 => by unfold kKw; rw [km_up_ne (by omega), km_up_ne (by omega), km_up_ne (by omega)]
  unfold kXo
  refine ⟨fun b j h1 h2 h3 h4 => ?_, ⟨?_, km_upx_s, ?_⟩, ⟨?_, ?_⟩, ?_, fun r j r1 r2 hj => ?_, ?_⟩
  · rw [km_up_ne (by omega), km_up_ne (by omega), eo b j h1 h2, kf b j (by omega) h4]
  · rw [km_upx_i (by decide), km_upx_s]
  · rw [km_upx_i (by decide), km_upx_i (by decide), eo _ _ (by omega) (by omega)]; unfold kKw; rw [km_upx_s]
  · rw [km_up_o (by decide), km_up_o (by decide), eo _ _ (by omega) (by omega)]; unfold kKw; rw [km_up_o (by decide), km_up_o (by decide), km_upx_s]
  · rw [km_up_o (by decide), km_up_o (by decide), eo _ _ (by omega) (by omega)]; unfold kKw; rw [km_up_o (by decide), km_upx_s]
  · rw [km_up_ne (by omega), km_up_ne (by omega), kEm_P, if_pos rfl, k4]
  · rw [km_up_ne (by omega), km_up_ne (by omega)]
    obtain ⟨v1, v2, v3, v4, -⟩ := @kEm_r P T (-1) j (kKw T (U P 4) U)
    rw [k4] at v1 v2 v3 v4
    have rr : r = 1 ∨ r = 2 ∨ r = 3 ∨ r = 4 := by omega
    rcases rr with rfl | rfl | rfl | rfl
    · rw [v1, if_neg hj, kf _ _ (by omega) (by omega)]
    · rw [v2, if_neg hj, kf _ _ (by omega) (by omega)]
    · rw [v3, if_neg hj, kf _ _ (by omega) (by omega)]
    · rw [v4, if_neg hj, kf _ _ (by omega) (by omega)]
  · have v := (@kEm_r P T (-1) (U P 4) (kKw T (U P 4) U)).1
    rw [k4, if_pos rfl] at v
    rw [km_up_ne (by omega), km_up_ne (by omega), v]
theorem st_join {q qY : Nat × Int × Int × Int × Int} {c s : Nat} {X Y : km_Mm} {P ln a0 n z0 p h e o hb t i u T : Int} {B : Int → Int} {N : Int → Prop} {k : Nat} {ov : Option km_V} (hP : kPq q P) (ih : kI1 q qY c s P ln a0 z0 B n u (n - p)) (S : kS2 X Y P ln N a0 B n z0 p k h e o hb t) (hi : 0 ≤ i ∧ i ≤ p) (hT : kcT B n (ksk B n 600 p) = T) (hT2 : T = 24 ∨ T = 25) : kEnd q qY c s P ln a0 z0 B n u N i X Y (fun Q => km_G M_X12_expression 35 [some (.inr (.inr 123)), some (.inl ln), ov] [] (km_A0 qY c s) Y Q) := by
  obtain ⟨⟨tk, ⟨x2, x9, x10, x13, xe, x8, x5, xn⟩, ⟨y39, y41, y43, y44, y45, y36⟩, ⟨b1, b2, b3, b4, b5, b6, b7⟩, wn⟩, ⟨s4, s46⟩, op⟩ := (show kS2 X Y P ln N a0 B n z0 p k h e o hb t from S)
  have hPo := hP.1
  have pp := kTk_p tk (by omega)
  obtain ⟨Z, zf, z5, zT, z3, -, za⟩ := @kTk_adv q c s X Y B n p tk
  obtain ⟨⟨t1, t2, t3, t4, t5⟩, tx, t26, t29, tt⟩ := tk
  rw [hT] at zT tt
  obtain ⟨kd, kw⟩ := ktk_w (by omega) tt
  have n6 := tx.2.1.2
  have T0 : T ≠ 0 := by omega
  obtain ⟨o1, oa, of, ot, od, oc⟩ := (show kOp X Y P ln N a0 k h e o hb t from op)
  have bv := kcd_b _ _ _ _ _ _ od
  have bx := kcx_b _ _ _ _ _ _ oc
  have c01 := @khc_01 (Y 143) k
  -- which: the knot's kind, how it binds
  have hg : ∃ g lc : Int, ((g = 8 ∧ T = 24) ∨ (g = 9 ∧ T = 25)) ∧ ((T = 24 ∧ lc = 1) ∨ (T = 25 ∧ lc = 2)) ∧ kwg g = lc ∧ (Y 123 28 = 4 ∨ Y 123 28 = 5) ∧ (if Y 123 28 = 4 then (9 : Int) else 8) = g := by
    rcases hT2 with w | w
    · refine ⟨8, 1, Or.inl ⟨rfl, w⟩, Or.inl ⟨w, rfl⟩, by decide, ?_, ?_⟩ <;> rw [kw, w] <;> decide
    · refine ⟨9, 2, Or.inr ⟨rfl, w⟩, Or.inr ⟨w, rfl⟩, by decide, ?_, ?_⟩ <;> rw [kw, w] <;> decide
  obtain ⟨g, lc, hg1, hg2, hg3, hg4, hg5⟩ := hg
  have gb : 8 ≤ g ∧ g ≤ 9 ∧ 1 ≤ lc := by omega
  by_cases full : z0 + t < 120
  · have nN : ¬ N (120 + Y 123 36) := fun w => by have := wn.1 _ w; omega
    obtain ⟨G1, G2, G3, -⟩ := @kGr_f Y g 0
    have fg0 : kFY N Y (kGr g 0 Y) := kFY_kGr (by omega) nN
    have sg := fun Y' M' h1 h2 h3 h5 Q => @md_sign qY c s Y Y' M' Q g (by omega) (by omega) (by omega) h1 h2 h3 0 1 (by rw [if_neg (by omega), if_neg (by omega)]) (by rw [if_pos (by omega)]) h5
    generalize kGr g 0 Y = Y1 at *
    rw [y36] at G1 G2 G3 sg
    obtain ⟨X', Y', N', k', h', e', ⟨r1, r2, r3, r4, r5⟩, r6, r7, r8, f1, f2, xf, ⟨x8', x3'⟩, yf, ⟨y36', y138⟩, sc, -, rel, bnd⟩ := @st_rel q qY c s X Y (kTi P Z) Y1 P ln a0 n z0 p h e o hb t lc lc B N k hP S (fun b j c1 c2 => by rw [kTi_o c2]; exact zf b j c1) G1 (by omega) (Or.inl rfl) fg0.2.2.2
    have q1 := kcd_b _ _ _ _ _ _ r6.2.choose_spec.choose_spec.choose_spec.1
    have q2 := kcx_b _ _ _ _ _ _ r6.2.choose_spec.choose_spec.choose_spec.2
    have e0' : k' ≤ 127 ∧ 1 ≤ t ∧ a0 ≤ e' ∧ 0 ≤ e' ∧ e' < 367 := by omega
    clear q1 q2
    have e143 : Y' 143 = Y 143 := funext fun j => yf 143 j (by omega) (by omega) (by omega)
    have cs := fun Q => @cl_join q c s Z X' P Q T lc hP (by rw [zf _ _ (by omega)]; exact s4) hg2 (by rw [zf _ _ (by omega)]; omega) rel (by rw [r2]; omega) (by rw [r5]; omega)
    obtain ⟨u1, ⟨u2, u3, u4⟩, ⟨u5, u6⟩, u7, u8, u9⟩ := @kJ_f P T X' hPo
    have fw : kFX P a0 X (kXo 1 (kEm P T (-1) (kKw T (X' P 4) X'))) := kFX_tr f1 (kFX_tr (kFX_kKw hPo) (kFX_tr (kFX_kEm hPo (by unfold kKw; rw [km_up_o (by omega), km_up_o (by omega), km_up_o (by omega), r5]; omega)) (kFX_kXo hPo)))
    generalize kXo 1 (kEm P T (-1) (kKw T (X' P 4) X')) = W at *
    rw [r2] at u1 u4 u5 u6
    rw [r5] at u6 u7 u8 u9
    clear sc rel bx bv op od oc
    have y45' : Y' 123 45 = khc (Y 143) k := by rw [yf _ _ (by omega) (by omega) (by omega)]; exact y45
    obtain ⟨v1, v2, v3, v4, v5, v6, v7⟩ := @kVs_f g (120 + (z0 + t)) 0 1 Y'
    have fv : kFY N Y (km_up (km_up (km_up (kWf g (120 + (z0 + t)) Y') 123 45 0) 123 47 1) 123 46 1) := kFY_tr (fun _ h => h) f2 (kFY_tr (fun _ h => h) kFY_kWf (kFY_tr (fun _ h => h) (kFY_123 (by omega)) (kFY_tr (fun _ h => h) (kFY_123 (by omega)) (kFY_123 (by omega)))))
    have sg := fun M' ht Q => sg Y' M' (by rw [hg3]; exact bnd) (by rw [r3]; omega) (by rw [y45']; omega) ht Q
    generalize km_up (km_up (km_up (kWf g (120 + (z0 + t)) Y') 123 45 0) 123 47 1) 123 46 1 = V at *
    rw [r3] at v1 v2 v6 v7
    have v1' : ∀ b j : Int, ¬ (b = 123 ∧ (j = 36 ∨ j = 39 ∨ j = 41 ∨ j = 45 ∨ j = 46 ∨ j = 47)) → ¬ (138 ≤ b ∧ b ≤ 141) → b ≠ 145 → ¬ ((b = 143 ∨ b = 144) ∧ j = k') → V b j = Y b j := fun b j c1 c2 c3 c4 => by rw [v1 b j (by omega) c4, yf b j (by omega) c2 c3]
    have tv : kTx V B n := kTx_fr tx (v1' _ _ (by omega) (by omega) (by omega) (by omega)) (fun i => v1' _ _ (by omega) (by omega) (by omega) (by omega)) (fun i => v1' _ _ (by omega) (by omega) (by omega) (by omega))
    obtain ⟨M, m1, m2, m3⟩ := @kTk_take qY c s V B n _ tv ⟨by omega, pp.2⟩ ((v1' _ _ (by omega) (by omega) (by omega) (by omega)).trans t26)
    have mk : M 143 k' = g := by rw [m1 _ _ (by omega), v6]
    have mw : M 144 k' = 120 + (z0 + t) := by rw [m1 _ _ (by omega), v7]
    have wf : ∀ b j : Int, ¬ (b = P ∧ (j = 4 ∨ j = 8)) → ¬ (P + 1 ≤ b ∧ b ≤ P + 4) → ¬ (b = 37 ∧ (j = 4 ∨ j = 6 ∨ j = 9)) → ¬ ((b = 38 ∨ b = 39) ∧ j = k') → ¬ (b = 3 ∧ 3 ≤ j ∧ j ≤ 6) → W b j = X b j := fun b j c1 c2 c3 c4 c5 => by rw [u1 b j (by omega) c2 c3 c4, xf b j c5 c1 (by omega) c2]
    have hYw : ∀ j : Int, 0 ≤ j → j < k' → M 143 j = Y' 143 j ∧ M 144 j = Y' 144 j := fun j _ _ => ⟨by rw [m1 _ _ (by omega), v1 _ _ (by omega) (by omega)], by rw [m1 _ _ (by omega), v1 _ _ (by omega) (by omega)]⟩
    have mY : ∀ r x : Int, 138 ≤ r → r ≤ 141 → M r x = Y' r x := fun r x r1 r2 => by rw [m1 _ _ (by omega), v1 _ _ (by omega) (by omega)]
    have op2 : kOp W M P ln N' a0 k' h' e' o hb t := kOp_fr r7 (fun r j r1 r2 _ je => u8 r j r1 r2 (by omega)) (fun k _ hk => by rw [u1 _ _ (by omega) (by omega) (by omega) (by omega)]; exact hk) (fun j _ _ => ⟨by rw [u1 _ _ (by omega) (by omega) (by omega) (by omega)], by rw [u1 _ _ (by omega) (by omega) (by omega) (by omega)]⟩) (fun _ => ⟨by rw [u1 _ _ (by omega) (by omega) (by omega) (by omega)], by rw [u1 _ _ (by omega) (by omega) (by omega) (by omega)], by rw [u1 _ _ (by omega) (by omega) (by omega) (by omega)]⟩) (fun r x r1 r2 _ _ => mY r x r1 r2) hYw (fun j _ _ => by rw [m1 _ _ (by omega), v1 _ _ (by omega) (by omega)]) (fun j _ _ => by rw [m1 _ _ (by omega), v1 _ _ (by omega) (by omega)]) r6
    obtain ⟨p1, pa, pf, pt, pd, pc⟩ := op2
    have m28 : M 138 (120 + (z0 + t)) = g := by rw [mY _ _ (by decide) (by decide), y138, G3]
    refine kEnd_step (N1 := N') (i1 := i + 1) r8 fw (kFY_tr (fun _ h => h) fv (kFY_M m1)) (fun Q => ps_tok x2 ⟨hi.1, by omega⟩ n6 za zT T0 cs) (G1 := fun Q => km_G M_X12_expression 35 [some (.inr (.inr 123)), some (.inl ln), some (.inl 1)] [] (km_A0 qY c s) M Q) (fun Q => ?_) (ih W M N' (kcN B n (ksk B n 600 p)) (k' + 1) h' (e' + 1) o hb (t + 1) (i + 1) _ (by omega) ?_ (by omega) (by omega))
    · rw [ex_join (r := 1) s46 kd rfl hg4 (Or.inr rfl) (fun Q => by rw [hg5]; exact sg M m3 Q)]
      exact Iff.rfl
    · have ek : ((k' + 1 : Nat) : Int) = (k' : Int) + 1 := by omega
      have ee : e' + 1 - 1 = e' := by omega
      refine ⟨⟨m2 W ?_ ?_ ?_, ⟨?_, ?_, ?_, ?_, u7, ?_, ?_, ?_⟩, ⟨?_, ?_, ?_, ?_, ?_, ?_⟩, ⟨b1, b2, b3, by omega, b5, b6, b7⟩, kwn_push r7 (by omega) hYw (Or.inr ⟨by omega, by omega, ?_, fun j j0 j1 hj => ?_⟩)⟩, ⟨u2, ?_, Or.inr ⟨?_, ?_⟩, ?_⟩, Or.inr (Or.inr (Or.inr (Or.inr (Or.inr ⟨by rw [mk, u5]; exact hg1, by rw [mw, m28, mk], by rw [ee]; exact u6, by rw [ee, u5]; exact u9, p1, pa, pf, pt, by rw [ee]; exact pd, by rw [show t + 1 - 1 - pt = t - pt by omega]; exact pc⟩))))⟩
      · rw [wf _ _ (by omega) (by omega) (by omega) (by omega) (by omega)]; exact t1
      · rw [u1 _ _ (by omega) (by omega) (by omega) (by omega), x3', kTi_o (by omega)]; exact z3
      · rw [← t3]; exact funext fun j => wf _ _ (by omega) (by omega) (by omega) (by omega) (by omega)
      · rw [wf _ _ (by omega) (by omega) (by omega) (by omega) (by omega)]; exact x2
      · rw [ek]; exact u4
      · rw [wf _ _ (by omega) (by omega) (by omega) (by omega) (by omega)]; exact x10
      · rw [wf _ _ (by omega) (by omega) (by omega) (by omega) (by omega)]; exact x13
      · rw [u1 _ _ (by omega) (by omega) (by omega) (by omega), x8', kTi_8, zf _ _ (by omega), x8]; omega
      · rw [wf _ _ (by omega) (by omega) (by omega) (by omega) (by omega)]; exact x5
      · rw [u1 _ _ (by omega) (by omega) (by omega) (by omega), xf _ _ (by omega) (by omega) (by omega) (by omega)]; exact xn
      · rw [m1 _ _ (by omega), v2, ek]
      · rw [m1 _ _ (by omega), v1 _ _ (by omega) (by omega)]; exact r4
      · rw [m1 _ _ (by omega), v1' _ _ (by omega) (by omega) (by omega) (by omega)]; exact y43
      · rw [m1 _ _ (by omega), v1' _ _ (by omega) (by omega) (by omega) (by omega)]; exact y44
      · rw [m1 _ _ (by omega), v3]
        have kc : khc (M 143) (k' + 1) = if M 143 k' = 7 ∨ (16 ≤ M 143 k' ∧ M 143 k' ≤ 20) then khc (M 143) k' else if 10 ≤ M 143 k' ∧ M 143 k' ≤ 15 then 1 else 0 := rfl
        rw [kc, mk]
        clear kc
        rw [if_neg (by omega), if_neg (by omega)]
      · rw [m1 _ _ (by omega), v1 _ _ (by omega) (by omega), y36', G2]; omega
      · rw [mw]; exact fun w => by have := r7.1 _ w; omega
      · rw [mw]; rcases r7.2.1 j j0 j1 with w | w <;> omega
      · rw [u3, m1 _ _ (by omega), v4]
      · rw [m1 _ _ (by omega), v4]
      · have kc : khc (M 143) (k' + 1) = if M 143 k' = 7 ∨ (16 ≤ M 143 k' ∧ M 143 k' ≤ 20) then khc (M 143) k' else if 10 ≤ M 143 k' ∧ M 143 k' ≤ 15 then 1 else 0 := rfl
        rw [kc, mk]
        clear kc
        rw [if_neg (by omega), if_neg (by omega)]
      · rw [m1 _ _ (by omega), v5]
  · have cs := fun Q => @cl_joinN q c s Z P Q T hP (by rw [zf _ _ (by omega)]; exact s4) hT2 (by rw [zf _ _ (by omega)]; omega)
    refine kEnd_flt hPo (f := 2) (W := Z) (by decide) (kFX_Z hPo zf) z5 kFY_rf t29 (ps_tf x2 ⟨hi.1, by omega⟩ n6 za zT T0 (by decide) cs) (fun Q => ?_)
    rw [ex_join (r := 0) s46 kd rfl hg4 (Or.inl rfl) (fun Q => by rw [hg5]; exact md_signN (by omega) (by omega) (by omega))]
    exact Iff.rfl

