/-! ===== a sign behind a value ===== -/
theorem ksw_g {T : Int} (hT : 6 ≤ T ∧ T ≤ 16) : (10 ≤ ksw T ∧ ksw T ≤ 20) ∧ ksg (ksw T) = T ∧ kwg (ksw T) = kxS T ∧ (ksw T < 16 ↔ kxS T = 4) ∧ 4 ≤ kxS T ∧ kxS T ≤ 6 := by
  have e : T = 6 ∨ T = 7 ∨ T = 8 ∨ T = 9 ∨ T = 10 ∨ T = 11 ∨ T = 12 ∨ T = 13 ∨ T = 14 ∨ T = 15 ∨ T = 16 := by omega
  rcases e with rfl | rfl | rfl | rfl | rfl | rfl | rfl | rfl | rfl | rfl | rfl <;> decide
theorem kVs_f {kd w c' n' : Int} {Y : km_Mm} : (∀ b j : Int, ¬ (b = 123 ∧ (j = 39 ∨ j = 45 ∨ j = 46 ∨ j = 47)) → ¬ ((b = 143 ∨ b = 144) ∧ j = Y 123 39) → km_up (km_up (km_up (kWf kd w Y) 123 45 c') 123 47 n') 123 46 1 b j = Y b j) ∧ km_up (km_up (km_up (kWf kd w Y) 123 45 c') 123 47 n') 123 46 1 123 39 = Y 123 39 + 1 ∧ km_up (km_up (km_up (kWf kd w Y) 123 45 c') 123 47 n') 123 46 1 123 45 = c' ∧ km_up (km_up (km_up (kWf kd w Y) 123 45 c') 123 47 n') 123 46 1 123 47 = n' ∧ km_up (km_up (km_up (kWf kd w Y) 123 45 c') 123 47 n') 123 46 1 123 46 = 1 ∧ km_up (km_up (km_up (kWf kd w Y) 123 45 c') 123 47 n') 123 46 1 143 (Y 123 39) = kd ∧ km_up (km_up (km_up (kWf kd w Y) 123 45 c') 123 47 n') 123 46 1 144 (Y 123 39) = w := by
  unfold kWf
  refine ⟨fun b j h1 h2 => ?_, ?_, ?_, ?_, km_upx_s, ?_, ?_⟩
  · rw [km_up_ne (by omega), km_up_ne (by omega), km_up_ne (by omega), km_up_ne (by omega), km_up_ne (by omega), km_up_ne (by omega)]
  · rw [km_upx_i (by decide), km_upx_i (by decide), km_upx_i (by decide), km_upx_s]
  · rw [km_upx_i (by decide), km_upx_i (by decide), km_upx_s]
  · rw [km_upx_i (by decide), km_upx_s]
  · rw [km_up_o (by decide), km_up_o (by decide), km_up_o (by decide), km_up_o (by decide), km_up_o (by decide), km_upx_s]
  · rw [km_up_o (by decide), km_up_o (by decide), km_up_o (by decide), km_up_o (by decide), km_upx_s]
theorem st_signA {q qY : Nat × Int × Int × Int × Int} {c s : Nat} {X Y : km_Mm} {P ln a0 n z0 p h e o hb t i u T : Int} {B : Int → Int} {N : Int → Prop} {k : Nat} {ov : Option km_V} (hP : kPq q P) (ih : kI1 q qY c s P ln a0 z0 B n u (n - p)) (S : kS2 X Y P ln N a0 B n z0 p k h e o hb t) (hi : 0 ≤ i ∧ i ≤ p) (hT : kcT B n (ksk B n 600 p) = T) (hT2 : 6 ≤ T ∧ T ≤ 16) (cm : kxS T = 4 ∧ khc (Y 143) k = 1) : kEnd q qY c s P ln a0 z0 B n u N i X Y (fun Q => km_G M_X12_expression 35 [some (.inr (.inr 123)), some (.inl ln), ov] [] (km_A0 qY c s) Y Q) := by
  obtain ⟨⟨tk, ⟨x2, x9, x10, x13, xe, x8, x5, xn⟩, ⟨y39, y41, y43, y44, y45, y36⟩, ⟨b1, b2, b3, b4, b5, b6, b7⟩, wn⟩, ⟨s4, s46⟩, op⟩ := (show kS2 X Y P ln N a0 B n z0 p k h e o hb t from S)
  have hPo := hP.1
  have pp := kTk_p tk (by omega)
  obtain ⟨Z, zf, z5, zT, z3, -, za⟩ := @kTk_adv q c s X Y B n p tk
  obtain ⟨⟨t1, t2, t3, t4, t5⟩, tx, t26, t29, tt⟩ := tk
  rw [hT] at zT tt
  obtain ⟨kd, kw⟩ := ktk_s (by omega) tt
  have n6 := tx.2.1.2
  have T0 : T ≠ 0 := by omega
  obtain ⟨o1, oa, of, ot, od, oc⟩ := (show kOp X Y P ln N a0 k h e o hb t from op)
  have bv := kcd_b _ _ _ _ _ _ od
  have bx := kcx_b _ _ _ _ _ _ oc
  obtain ⟨g1, g2, g3, g4, g5, g6⟩ := ksw_g hT2
  rw [← kw] at g1 g2 g3 g4
  have c01 := @khc_01 (Y 143) k
  generalize hS : kxS T = st at *
  have hlc : ∃ lc : Int, lc = (if st = 4 then 5 else st) ∧ 5 ≤ lc ∧ (lc = st ∨ (lc = 5 ∧ st = 4)) := by
    by_cases z : st = 4
    · exact ⟨5, by rw [if_pos z], by omega, Or.inr ⟨rfl, z⟩⟩
    · exact ⟨st, by rw [if_neg z], by omega, Or.inl rfl⟩
  obtain ⟨lc, hlc, l5, lst⟩ := hlc
  obtain ⟨X', Y', N', k', h', e', ⟨r1, r2, r3, r4, r5⟩, r6, r7, r8, f1, f2, xf, ⟨x8', x3'⟩, yf, -, sc, hc', rel, -⟩ := @st_rel q qY c s X Y Z Y P ln a0 n z0 p h e o hb t 5 5 B N k hP S (fun b j c1 _ => zf b j c1) (fun b j _ _ => rfl) (by omega) (Or.inl rfl) (fun _ _ _ _ h => h)
  have kc := (hc' (by decide)).trans cm.2
  have lc5 : lc = 5 := by omega
  cases k' with
  | zero => exact absurd kc (show ¬ (0 : Int) = 1 by decide)
  | succ j =>
    obtain ⟨q1, qa, qf, qt, qd, qc⟩ := r6
    have e143 : Y' 143 = Y 143 := funext fun j => yf 143 j (by omega) (by omega) (by omega)
    have tp := kcx_top4 qc
    have kcu : khc (Y 143) (j + 1) = if Y 143 j = 7 ∨ (16 ≤ Y 143 j ∧ Y 143 j ≤ 20) then khc (Y 143) j else if 10 ≤ Y 143 j ∧ Y 143 j ≤ 15 then 1 else 0 := rfl
    have jj : ((j + 1 : Nat) : Int) - 1 = j := by omega
    rw [jj] at sc
    have nt : ¬ (Y 143 j = 7 ∨ (16 ≤ Y 143 j ∧ Y 143 j ≤ 20)) := fun w => by
      rcases sc with v | v | v
      · omega
      · omega
      · rcases w with w | w
        · rw [w] at v; exact absurd v (by decide)
        · have := kxS_ksg (w := Y 143 j) (by omega)
          rw [this.2.2.2] at v
          split at v
          · omega
          · rw [if_pos w.1] at v; omega
    rw [kcu, if_neg nt] at kc
    have t10 : 10 ≤ Y 143 j ∧ Y 143 j ≤ 15 := Classical.byContradiction fun w => by rw [if_neg w] at kc; omega
    rw [e143] at tp
    have cs := fun Q => @cl_signG q c s Z X' Q T lc (by rw [zf _ _ (by omega)]; exact s4) hT2 (by rw [hS]; exact hlc) (by rw [lc5]; exact rel) (by rw [r2]; omega) ⟨by rw [hS]; exact cm.1, by rw [r2]; omega, by rw [r2, jj]; exact tp.mpr t10⟩
    refine kEnd_flt hPo (f := 1) (W := X') (by decide) f1 (by rw [x3']; exact z5) kFY_rf t29 (ps_tf x2 ⟨hi.1, by omega⟩ n6 za zT T0 (by decide) cs) (fun Q => ?_)
    rw [ex_sign (r := 0) s46 kd rfl g1 (Or.inl rfl) (fun Q => md_signC ⟨g1.1, g4.mpr cm.1⟩ (by rw [y45, cm.2]; decide))]
    exact Iff.rfl
theorem st_signC {q qY : Nat × Int × Int × Int × Int} {c s : Nat} {X Y : km_Mm} {P ln a0 n z0 p h e o hb t i u T : Int} {B : Int → Int} {N : Int → Prop} {k : Nat} {ov : Option km_V} (hP : kPq q P) (ih : kI1 q qY c s P ln a0 z0 B n u (n - p)) (S : kS2 X Y P ln N a0 B n z0 p k h e o hb t) (hi : 0 ≤ i ∧ i ≤ p) (hT : kcT B n (ksk B n 600 p) = T) (hT2 : 6 ≤ T ∧ T ≤ 16) (cm : ¬ (kxS T = 4 ∧ khc (Y 143) k = 1)) (full : ¬ z0 + t < 120) : kEnd q qY c s P ln a0 z0 B n u N i X Y (fun Q => km_G M_X12_expression 35 [some (.inr (.inr 123)), some (.inl ln), ov] [] (km_A0 qY c s) Y Q) := by
  obtain ⟨⟨tk, ⟨x2, x9, x10, x13, xe, x8, x5, xn⟩, ⟨y39, y41, y43, y44, y45, y36⟩, ⟨b1, b2, b3, b4, b5, b6, b7⟩, wn⟩, ⟨s4, s46⟩, op⟩ := (show kS2 X Y P ln N a0 B n z0 p k h e o hb t from S)
  have hPo := hP.1
  have pp := kTk_p tk (by omega)
  obtain ⟨Z, zf, z5, zT, z3, -, za⟩ := @kTk_adv q c s X Y B n p tk
  obtain ⟨⟨t1, t2, t3, t4, t5⟩, tx, t26, t29, tt⟩ := tk
  rw [hT] at zT tt
  obtain ⟨kd, kw⟩ := ktk_s (by omega) tt
  have n6 := tx.2.1.2
  have T0 : T ≠ 0 := by omega
  obtain ⟨o1, oa, of, ot, od, oc⟩ := (show kOp X Y P ln N a0 k h e o hb t from op)
  have bv := kcd_b _ _ _ _ _ _ od
  have bx := kcx_b _ _ _ _ _ _ oc
  obtain ⟨g1, g2, g3, g4, g5, g6⟩ := ksw_g hT2
  rw [← kw] at g1 g2 g3 g4
  have c01 := @khc_01 (Y 143) k
  generalize hS : kxS T = st at *
  have hlc : ∃ lc : Int, lc = (if st = 4 then 5 else st) ∧ 5 ≤ lc ∧ (lc = st ∨ (lc = 5 ∧ st = 4)) := by
    by_cases z : st = 4
    · exact ⟨5, by rw [if_pos z], by omega, Or.inr ⟨rfl, z⟩⟩
    · exact ⟨st, by rw [if_neg z], by omega, Or.inl rfl⟩
  obtain ⟨lc, hlc, l5, lst⟩ := hlc
  have hlr : lc = st ∨ (lc = 5 ∧ st = 4 ∧ khc (Y 143) k = 0) := by omega
  have hcm : 10 ≤ Y 123 28 → Y 123 28 < 16 → Y 123 45 = 0 := fun _ w => by have := g4.mp w; rw [y45]; omega
  have hz : ∀ (X' Y' : km_Mm) (N' : Int → Prop) (k' : Nat) (h' e' : Int), X' 37 9 = k' → Y' 143 = Y 143 → khc (Y 143) k' = khc (Y 143) k → kOp X' Y' P ln N' a0 k' h' e' o hb t → ¬ (kxS T = 4 ∧ 0 < X' 37 9 ∧ kxS (X' 38 (X' 37 9 - 1)) = 4) := by
    intro X' Y' N' k' h' e' r2 e143 kc r6 w
    rw [hS, r2] at w
    cases k' with
    | zero => exact absurd w.2.1 (by decide)
    | succ j =>
      obtain ⟨q1, qa, qf, qt, qd, qc⟩ := r6
      have tp := kcx_top4 qc
      rw [e143] at tp
      have jj : ((j + 1 : Nat) : Int) - 1 = j := by omega
      rw [jj] at w
      have t10 := tp.mp w.2.2
      have kcu : khc (Y 143) (j + 1) = if Y 143 j = 7 ∨ (16 ≤ Y 143 j ∧ Y 143 j ≤ 20) then khc (Y 143) j else if 10 ≤ Y 143 j ∧ Y 143 j ≤ 15 then 1 else 0 := rfl
      rw [if_neg (by omega), if_pos t10, kc] at kcu
      exact cm ⟨w.1, kcu⟩
  obtain ⟨X', Y', N', k', h', e', ⟨r1, r2, r3, r4, r5⟩, r6, r7, r8, f1, f2, xf, ⟨x8', x3'⟩, yf, -, sc, hc', rel, -⟩ := @st_rel q qY c s X Y Z Y P ln a0 n z0 p h e o hb t lc st B N k hP S (fun b j c1 _ => zf b j c1) (fun b j _ _ => rfl) (by omega) hlr (fun _ _ _ _ h => h)
  have e143 : Y' 143 = Y 143 := funext fun j => yf 143 j (by omega) (by omega) (by omega)
  have cs := fun Q => @cl_sign q c s Z X' P Q T lc hP (by rw [zf _ _ (by omega)]; exact s4) hT2 (by rw [hS]; exact hlc) rel (by rw [r2]; omega) (by rw [x8', zf _ _ (by omega)]; omega) (hz X' Y' N' k' h' e' r2 e143 (hc' l5) r6)
  rw [x8', zf P 8 (by omega), x8, if_neg full] at cs
  refine kEnd_flt hPo (f := 2) (W := X') (by decide) f1 (by rw [x3']; exact z5) kFY_rf t29 (ps_tf x2 ⟨hi.1, by omega⟩ n6 za zT T0 (by decide) cs) (fun Q => ?_)
  rw [ex_sign (r := 0) s46 kd rfl g1 (Or.inl rfl) (fun Q => md_signN (by omega) hcm (by omega))]
  exact Iff.rfl
theorem st_signB {q qY : Nat × Int × Int × Int × Int} {c s : Nat} {X Y : km_Mm} {P ln a0 n z0 p h e o hb t i u T : Int} {B : Int → Int} {N : Int → Prop} {k : Nat} {ov : Option km_V} (hP : kPq q P) (ih : kI1 q qY c s P ln a0 z0 B n u (n - p)) (S : kS2 X Y P ln N a0 B n z0 p k h e o hb t) (hi : 0 ≤ i ∧ i ≤ p) (hT : kcT B n (ksk B n 600 p) = T) (hT2 : 6 ≤ T ∧ T ≤ 16) (cm : ¬ (kxS T = 4 ∧ khc (Y 143) k = 1)) (full : z0 + t < 120) : kEnd q qY c s P ln a0 z0 B n u N i X Y (fun Q => km_G M_X12_expression 35 [some (.inr (.inr 123)), some (.inl ln), ov] [] (km_A0 qY c s) Y Q) := by
  obtain ⟨⟨tk, ⟨x2, x9, x10, x13, xe, x8, x5, xn⟩, ⟨y39, y41, y43, y44, y45, y36⟩, ⟨b1, b2, b3, b4, b5, b6, b7⟩, wn⟩, ⟨s4, s46⟩, op⟩ := (show kS2 X Y P ln N a0 B n z0 p k h e o hb t from S)
  have hPo := hP.1
  have pp := kTk_p tk (by omega)
  obtain ⟨Z, zf, z5, zT, z3, -, za⟩ := @kTk_adv q c s X Y B n p tk
  obtain ⟨⟨t1, t2, t3, t4, t5⟩, tx, t26, t29, tt⟩ := tk
  rw [hT] at zT tt
  obtain ⟨kd, kw⟩ := ktk_s (by omega) tt
  have n6 := tx.2.1.2
  have T0 : T ≠ 0 := by omega
  obtain ⟨o1, oa, of, ot, od, oc⟩ := (show kOp X Y P ln N a0 k h e o hb t from op)
  have bv := kcd_b _ _ _ _ _ _ od
  have bx := kcx_b _ _ _ _ _ _ oc
  obtain ⟨g1, g2, g3, g4, g5, g6⟩ := ksw_g hT2
  rw [← kw] at g1 g2 g3 g4
  have c01 := @khc_01 (Y 143) k
  generalize hS : kxS T = st at *
  have hlc : ∃ lc : Int, lc = (if st = 4 then 5 else st) ∧ 5 ≤ lc ∧ (lc = st ∨ (lc = 5 ∧ st = 4)) := by
    by_cases z : st = 4
    · exact ⟨5, by rw [if_pos z], by omega, Or.inr ⟨rfl, z⟩⟩
    · exact ⟨st, by rw [if_neg z], by omega, Or.inl rfl⟩
  obtain ⟨lc, hlc, l5, lst⟩ := hlc
  have hlr : lc = st ∨ (lc = 5 ∧ st = 4 ∧ khc (Y 143) k = 0) := by omega
  have hcm : 10 ≤ Y 123 28 → Y 123 28 < 16 → Y 123 45 = 0 := fun _ w => by have := g4.mp w; rw [y45]; omega
  have hz : ∀ (X' Y' : km_Mm) (N' : Int → Prop) (k' : Nat) (h' e' : Int), X' 37 9 = k' → Y' 143 = Y 143 → khc (Y 143) k' = khc (Y 143) k → kOp X' Y' P ln N' a0 k' h' e' o hb t → ¬ (kxS T = 4 ∧ 0 < X' 37 9 ∧ kxS (X' 38 (X' 37 9 - 1)) = 4) := by
    intro X' Y' N' k' h' e' r2 e143 kc r6 w
    rw [hS, r2] at w
    cases k' with
    | zero => exact absurd w.2.1 (by decide)
    | succ j =>
      obtain ⟨q1, qa, qf, qt, qd, qc⟩ := r6
      have tp := kcx_top4 qc
      rw [e143] at tp
      have jj : ((j + 1 : Nat) : Int) - 1 = j := by omega
      rw [jj] at w
      have t10 := tp.mp w.2.2
      have kcu : khc (Y 143) (j + 1) = if Y 143 j = 7 ∨ (16 ≤ Y 143 j ∧ Y 143 j ≤ 20) then khc (Y 143) j else if 10 ≤ Y 143 j ∧ Y 143 j ≤ 15 then 1 else 0 := rfl
      rw [if_neg (by omega), if_pos t10, kc] at kcu
      exact cm ⟨w.1, kcu⟩
  have nN : ¬ N (120 + Y 123 36) := fun w => by have := wn.1 _ w; omega
  obtain ⟨G1, G2, G3, -⟩ := @kGr_f Y (Y 123 28) 0
  have fg : kFY N Y (kGr (Y 123 28) 0 Y) := kFY_kGr (by omega) nN
  have sg := fun Y' M' h1 h2 h3 c' h4 h5 Q => @md_sign qY c s Y Y' M' Q (Y 123 28) (by omega) hcm (by omega) h1 h2 h3 c' 0 h4 (by rw [if_neg (by omega)]) h5
  generalize kGr (Y 123 28) 0 Y = Y1 at *
  rw [y36] at G1 G2 G3 sg
  obtain ⟨X', Y', N', k', h', e', ⟨r1, r2, r3, r4, r5⟩, r6, r7, r8, f1, f2, xf, ⟨x8', x3'⟩, yf, ⟨y36', y138⟩, sc, hc', rel, bnd⟩ := @st_rel q qY c s X Y Z Y1 P ln a0 n z0 p h e o hb t lc st B N k hP S (fun b j c1 _ => zf b j c1) G1 (by omega) hlr fg.2.2.2
  have hc' := hc' l5
  have e143 : Y' 143 = Y 143 := funext fun j => yf 143 j (by omega) (by omega) (by omega)
  have cs := fun Q => @cl_sign q c s Z X' P Q T lc hP (by rw [zf _ _ (by omega)]; exact s4) hT2 (by rw [hS]; exact hlc) rel (by rw [r2]; omega) (by rw [x8', zf _ _ (by omega)]; omega) (hz X' Y' N' k' h' e' r2 e143 hc' r6)
  rw [x8', zf P 8 (by omega), x8, if_pos full] at cs
  have e0' : k' ≤ 128 ∧ 1 ≤ t ∧ a0 ≤ e' := by
    have q1 := kcd_b _ _ _ _ _ _ r6.2.choose_spec.choose_spec.choose_spec.1
    have q2 := kcx_b _ _ _ _ _ _ r6.2.choose_spec.choose_spec.choose_spec.2
    omega
  clear hz hlr lst hlc cm sc rel bx bv op od oc
  obtain ⟨u1, u2, u3, u4, u5, -⟩ := @kK_f 0 T (-1) (kTi P X')
  have t9 : kTi P X' 37 9 = k' := by rw [kTi_o (by omega), r2]
  rw [t9] at u1 u4 u5
  have fw : kFX P a0 X (kXo 0 (kKw T (-1) (kTi P X'))) := kFX_tr f1 (kFX_tr (kFX_kTi hPo) (kFX_tr (kFX_kKw hPo) (kFX_kXo hPo)))
  generalize kXo 0 (kKw T (-1) (kTi P X')) = W at *
  have hc2 : ∃ c' : Int, c' = (if 10 ≤ Y 123 28 ∧ Y 123 28 < 16 then 1 else if 16 ≤ Y 123 28 then Y' 123 45 else 0) := ⟨_, rfl⟩
  obtain ⟨c', hc2⟩ := hc2
  have y45' : Y' 123 45 = khc (Y 143) k := by rw [yf _ _ (by omega) (by omega) (by omega)]; exact y45
  obtain ⟨v1, v2, v3, v4, v5, v6, v7⟩ := @kVs_f (Y 123 28) (120 + (z0 + t)) c' 0 Y'
  have fv : kFY N Y (km_up (km_up (km_up (kWf (Y 123 28) (120 + (z0 + t)) Y') 123 45 c') 123 47 0) 123 46 1) := kFY_tr (fun _ h => h) f2 (kFY_tr (fun _ h => h) kFY_kWf (kFY_tr (fun _ h => h) (kFY_123 (by omega)) (kFY_tr (fun _ h => h) (kFY_123 (by omega)) (kFY_123 (by omega)))))
  have sg := fun M' ht Q => sg Y' M' (by rw [g3]; exact bnd) (by rw [r3]; omega) (by rw [y45']; omega) c' hc2 ht Q
  generalize km_up (km_up (km_up (kWf (Y 123 28) (120 + (z0 + t)) Y') 123 45 c') 123 47 0) 123 46 1 = V at *
  rw [r3] at v1 v2 v6 v7
  have v1' : ∀ b j : Int, ¬ (b = 123 ∧ (j = 36 ∨ j = 39 ∨ j = 41 ∨ j = 45 ∨ j = 46 ∨ j = 47)) → ¬ (138 ≤ b ∧ b ≤ 141) → b ≠ 145 → ¬ ((b = 143 ∨ b = 144) ∧ j = k') → V b j = Y b j := fun b j c1 c2 c3 c4 => by rw [v1 b j (by omega) c4, yf b j (by omega) c2 c3]
  have tv : kTx V B n := kTx_fr tx (v1' _ _ (by omega) (by omega) (by omega) (by omega)) (fun i => v1' _ _ (by omega) (by omega) (by omega) (by omega)) (fun i => v1' _ _ (by omega) (by omega) (by omega) (by omega))
  obtain ⟨M, m1, m2, m3⟩ := @kTk_take qY c s V B n _ tv ⟨by omega, pp.2⟩ ((v1' _ _ (by omega) (by omega) (by omega) (by omega)).trans t26)
  have mk : M 143 k' = Y 123 28 := by rw [m1 _ _ (by omega), v6]
  have mw : M 144 k' = 120 + (z0 + t) := by rw [m1 _ _ (by omega), v7]
  have wf : ∀ b j : Int, ¬ (b = P ∧ (j = 4 ∨ j = 8)) → ¬ (P + 1 ≤ b ∧ b ≤ P + 4) → ¬ (b = 37 ∧ (j = 4 ∨ j = 6 ∨ j = 9)) → ¬ ((b = 38 ∨ b = 39) ∧ j = k') → ¬ (b = 3 ∧ 3 ≤ j ∧ j ≤ 6) → W b j = X b j := fun b j c1 c2 c3 c4 c5 => by rw [u1 b j (by omega) c4, kTi_o (by omega), xf b j c5 c1 (by omega) c2]
  have hYw : ∀ j : Int, 0 ≤ j → j < k' → M 143 j = Y' 143 j ∧ M 144 j = Y' 144 j := fun j _ _ => ⟨by rw [m1 _ _ (by omega), v1 _ _ (by omega) (by omega)], by rw [m1 _ _ (by omega), v1 _ _ (by omega) (by omega)]⟩
  have mY : ∀ r x : Int, 138 ≤ r → r ≤ 141 → M r x = Y' r x := fun r x r1 r2 => by rw [m1 _ _ (by omega), v1 _ _ (by omega) (by omega)]
  have op2 : kOp W M P ln N' a0 k' h' e' o hb t := kOp_fr r7 (fun r j r1 r2 _ _ => by rw [u1 _ _ (by omega) (by omega), kTi_o (by omega)]) (fun k _ hk => by rw [u1 _ _ (by omega) (by omega), kTi_o (by omega)]; exact hk) (fun j _ _ => ⟨by rw [u1 _ _ (by omega) (by omega), kTi_o (by omega)], by rw [u1 _ _ (by omega) (by omega), kTi_o (by omega)]⟩) (fun _ => ⟨by rw [u1 _ _ (by omega) (by omega), kTi_o (by omega)], by rw [u1 _ _ (by omega) (by omega), kTi_o (by omega)], by rw [u1 _ _ (by omega) (by omega), kTi_o (by omega)]⟩) (fun r x r1 r2 _ _ => mY r x r1 r2) hYw (fun j _ _ => by rw [m1 _ _ (by omega), v1 _ _ (by omega) (by omega)]) (fun j _ _ => by rw [m1 _ _ (by omega), v1 _ _ (by omega) (by omega)]) r6
  obtain ⟨p1, pa, pf, pt, pd, pc⟩ := op2
  have m28 : M 138 (120 + (z0 + t)) = Y 123 28 := by rw [mY _ _ (by decide) (by decide), y138, G3]
  have kcm : khc (M 143) k' = khc (Y 143) k := by rw [← hc']; exact khc_cg k' (fun j j0 j1 => by rw [(hYw j j0 j1).1, e143])
  refine kEnd_step (N1 := N') (i1 := i + 1) r8 fw (kFY_tr (fun _ h => h) fv (kFY_M m1)) (fun Q => ps_tok x2 ⟨hi.1, by omega⟩ n6 za zT T0 cs) (G1 := fun Q => km_G M_X12_expression 35 [some (.inr (.inr 123)), some (.inl ln), some (.inl 1)] [] (km_A0 qY c s) M Q) (fun Q => ?_) (ih W M N' (kcN B n (ksk B n 600 p)) (k' + 1) h' e' o hb (t + 1) (i + 1) _ (by omega) ?_ (by omega) (by omega))
  · rw [ex_sign (r := 1) s46 kd rfl g1 (Or.inr rfl) (fun Q => sg M m3 Q)]
    exact Iff.rfl
  · have ek : ((k' + 1 : Nat) : Int) = (k' : Int) + 1 := by omega
    refine ⟨⟨m2 W ?_ ?_ ?_, ⟨?_, ?_, ?_, ?_, ?_, ?_, ?_, ?_⟩, ⟨?_, ?_, ?_, ?_, ?_, ?_⟩, ⟨b1, b2, b3, by omega, b5, b6, b7⟩, kwn_push r7 (by omega) hYw (Or.inr ⟨by omega, by omega, ?_, fun j j0 j1 hj => ?_⟩)⟩, ⟨u2, ?_, Or.inl ?_, ?_⟩, Or.inr (Or.inr (Or.inr (Or.inr (Or.inl ⟨by rw [mk]; exact g1, by rw [u5, mk, g2], by rw [mw, m28, mk], p1, pa, pf, pt, pd, by rw [show t + 1 - 1 - pt = t - pt by omega]; exact pc⟩))))⟩
    · rw [wf _ _ (by omega) (by omega) (by omega) (by omega) (by omega)]; exact t1
    · rw [u1 _ _ (by omega) (by omega), kTi_o (by omega), x3']; exact z3
    · rw [← t3]; exact funext fun j => wf _ _ (by omega) (by omega) (by omega) (by omega) (by omega)
    · rw [wf _ _ (by omega) (by omega) (by omega) (by omega) (by omega)]; exact x2
    · rw [ek]; exact u4
    · rw [wf _ _ (by omega) (by omega) (by omega) (by omega) (by omega)]; exact x10
    · rw [wf _ _ (by omega) (by omega) (by omega) (by omega) (by omega)]; exact x13
    · rw [u1 _ _ (by omega) (by omega), kTi_o (by omega)]; exact r5
    · rw [u1 _ _ (by omega) (by omega), kTi_8, x8', zf _ _ (by omega), x8]; omega
    · rw [wf _ _ (by omega) (by omega) (by omega) (by omega) (by omega)]; exact x5
    · rw [wf _ _ (by omega) (by omega) (by omega) (by omega) (by omega)]; exact xn
    · rw [m1 _ _ (by omega), v2, ek]
    · rw [m1 _ _ (by omega), v1 _ _ (by omega) (by omega)]; exact r4
    · rw [m1 _ _ (by omega), v1' _ _ (by omega) (by omega) (by omega) (by omega)]; exact y43
    · rw [m1 _ _ (by omega), v1' _ _ (by omega) (by omega) (by omega) (by omega)]; exact y44
    · rw [m1 _ _ (by omega), v3]
      have kc : khc (M 143) (k' + 1) = if M 143 k' = 7 ∨ (16 ≤ M 143 k' ∧ M 143 k' ≤ 20) then khc (M 143) k' else if 10 ≤ M 143 k' ∧ M 143 k' ≤ 15 then 1 else 0 := rfl
      rw [kc, mk, hc2]
      clear kc hc2
      by_cases z : Y 123 28 < 16
      · rw [if_pos ⟨g1.1, z⟩, if_neg (by omega), if_pos (by omega)]
      · rw [if_neg (by omega), if_pos (by omega), if_pos (by omega), kcm]; exact y45'
    · rw [m1 _ _ (by omega), v1 _ _ (by omega) (by omega), y36', G2]; omega
    · rw [mw]; exact fun w => by have := r7.1 _ w; omega
    · rw [mw]; rcases r7.2.1 j j0 j1 with w | w <;> omega
    · rw [u3, m1 _ _ (by omega), v4]
    · rw [m1 _ _ (by omega), v4]
    · rw [m1 _ _ (by omega), v5]
theorem st_sign {q qY : Nat × Int × Int × Int × Int} {c s : Nat} {X Y : km_Mm} {P ln a0 n z0 p h e o hb t i u T : Int} {B : Int → Int} {N : Int → Prop} {k : Nat} {ov : Option km_V} (hP : kPq q P) (ih : kI1 q qY c s P ln a0 z0 B n u (n - p)) (S : kS2 X Y P ln N a0 B n z0 p k h e o hb t) (hi : 0 ≤ i ∧ i ≤ p) (hT : kcT B n (ksk B n 600 p) = T) (hT2 : 6 ≤ T ∧ T ≤ 16) : kEnd q qY c s P ln a0 z0 B n u N i X Y (fun Q => km_G M_X12_expression 35 [some (.inr (.inr 123)), some (.inl ln), ov] [] (km_A0 qY c s) Y Q) := by
  by_cases cm : kxS T = 4 ∧ khc (Y 143) k = 1
  · exact st_signA hP ih S hi hT hT2 cm
  · by_cases full : z0 + t < 120
    · exact st_signB hP ih S hi hT hT2 cm full
    · exact st_signC hP ih S hi hT hT2 cm full

