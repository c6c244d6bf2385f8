/-! ===== the end of a line; a token that does not go on ===== -/
theorem kcx_stop {X Y : km_Mm} {P ln a0 : Int} {N : Int → Prop} {k : Nat} {h e o hb t : Int} (c : kcx X Y P ln N a0 (k + 1) h e o hb t) (s : 100 ≤ Y 143 k ∨ kwg (Y 143 k) < 1) : 100 ≤ Y 143 k ∧ 1 ≤ o := by
  have wb : Y 143 k < 100 → 1 ≤ kwg (Y 143 k) := by
    intro w
    unfold kwg
    rw [if_neg (by omega)]
    repeat' split
    all_goals omega
  rcases c with ⟨c0, _⟩ | ⟨c0, c1, _⟩ | ⟨c0, c1, c2, _⟩ | ⟨c0, c1, _⟩ | ⟨c0, _⟩ | ⟨c0, _⟩ <;> omega
section PQ
variable {q qY : Nat × Int × Int × Int × Int} {c s : Nat} {X Y : km_Mm} {P ln a0 n z0 p h e o hb t i u T : Int} {B : Int → Int} {N : Int → Prop} {k : Nat} {ov : Option km_V}
theorem st_semi (hP : kPq q P) (S : kS2 X Y P ln N a0 B n z0 p k h e o hb t) (hi : 0 ≤ i ∧ i ≤ p) (hT : kcT B n (ksk B n 600 p) = 3) (ho : o = 0) : kEnd q qY c s P ln a0 z0 B n u N i X Y (fun Q => km_G M_X12_expression 35 [some (.inr (.inr 123)), some (.inl ln), ov] [] (km_A0 qY c s) Y Q) := by
  obtain ⟨⟨tk, ⟨x2, x9, x10, x13, xe, x8, x5, xn⟩, ⟨y39, y41, y43, y44, y45, y36⟩, ⟨b1, b2, b3, b4, b5, b6, b7⟩, wn⟩, ⟨s4, s46⟩, op⟩ := (show kS2 X Y P ln N a0 B n z0 p k h e o hb t from S)
  have hPo := hP.1
  have pp := kTk_p tk (by omega)
  obtain ⟨Z, zf, z5, zT, z3, -, za⟩ := @kTk_adv q c s X Y B n p tk
  obtain ⟨⟨t1, t2, t3, t4, t5⟩, tx, t26, t29, tt⟩ := tk
  rw [hT] at zT tt
  obtain ⟨kd, kw⟩ := ktk_s (by omega) tt
  have kw : Y 123 28 = 59 := kw
  have n6 := tx.2.1.2
  obtain ⟨o1, oa, of, ot, od, oc⟩ := op
  have bv := kcd_b _ _ _ _ _ _ od
  have bx := kcx_b _ _ _ _ _ _ oc
  have kp := (kop_cx _ _ _ _ _ _ oc).1 ho
  obtain ⟨X', Y', N', k', h', e', ⟨r1, r2, r3, r4, r5⟩, r6, r7, r8, f1, f2, xf, ⟨x8', x3'⟩, yf, ⟨y36', -⟩, sc, -, rel, bnd⟩ := @st_rel q qY c s X Y Z Y P ln a0 n z0 p h e o hb t 1 1 B N k hP S (fun b j c1 _ => zf b j c1) (fun b j _ _ => rfl) (by omega) (Or.inl rfl) (fun _ _ _ _ h => h)
  have e143 : Y' 143 = Y 143 := funext fun j => yf 143 j (by omega) (by omega) (by omega)
  obtain ⟨q1, qa, qf, qt, qd, qc⟩ := r6
  have k0 : k' = 0 := by
    cases k' with
    | zero => rfl
    | succ j =>
      have jj : ((j + 1 : Nat) : Int) - 1 = j := by omega
      rw [jj, ← e143] at sc
      have := (kcx_stop qc (sc.resolve_left (by omega))).2
      omega
  subst k0
  obtain ⟨c1, c2, c3, c4, c5⟩ := qc
  have bq := kcd_b _ _ _ _ _ _ qd
  subst c4
  have qe : qt = t := by omega
  subst qe c2
  have cs := fun Q => @cl_semi q c s Z X' P Q hP (by rw [zf _ _ (by omega)]; exact s4) (by rw [zf _ _ (by omega), x10]; exact ho) rel (by rw [r5]; omega)
  have fw : kFX P qa X (km_up (kEm P 0 0 X') 37 4 0) := kFX_tr f1 (kFX_tr (kFX_kEm hPo (by omega)) (kFX_37 hPo (by omega)))
  have wo : ∀ b j : Int, ¬ (b = P ∧ j = 4) → ¬ (P + 1 ≤ b ∧ b ≤ P + 4) → ¬ (b = 37 ∧ j = 4) → km_up (kEm P 0 0 X') 37 4 0 b j = X' b j := fun b j h1 h2 h3 => by
    rw [km_up_ne h3]
    by_cases z : b = P
    · rw [z, kEm_P, if_neg (by omega)]
    · exact kEm_o z (by omega) (by omega) (by omega) (by omega)
  have w44 : km_up (kEm P 0 0 X') 37 4 0 37 4 = 0 := km_upx_s
  have wP4 : km_up (kEm P 0 0 X') 37 4 0 P 4 = e' + 1 := by rw [km_up_ne (by omega), kEm_P, if_pos rfl, r5]
  have wr : ∀ r j : Int, 1 ≤ r → r ≤ 4 → j ≠ e' → km_up (kEm P 0 0 X') 37 4 0 (P + r) j = X' (P + r) j := fun r j r1 r2 hj => by
    rw [km_up_ne (by omega)]
    obtain ⟨v1, v2, v3, v4, -⟩ := @kEm_r P 0 0 j X'
    rw [r5] at v1 v2 v3 v4
    have rr : r = 1 ∨ r = 2 ∨ r = 3 ∨ r = 4 := by omega
    rcases rr with rfl | rfl | rfl | rfl
    · rw [v1, if_neg hj]
    · rw [v2, if_neg hj]
    · rw [v3, if_neg hj]
    · rw [v4, if_neg hj]
  have w1e : km_up (kEm P 0 0 X') 37 4 0 (P + 1) e' = 0 := by
    have v := (@kEm_r P 0 0 e' X').1
    rw [r5, if_pos rfl] at v
    rw [km_up_ne (by omega), v]
  generalize km_up (kEm P 0 0 X') 37 4 0 = W at *
  have dr : ∀ b j : Int, ¬ (b = 123 ∧ j = 41) → kDr Y' b j = Y' b j := fun b j w => kDr_o w
  have yd : ∀ b j : Int, ¬ (b = 123 ∧ (j = 36 ∨ j = 39 ∨ j = 41)) → ¬ (138 ≤ b ∧ b ≤ 141) → b ≠ 145 → kDr Y' b j = Y b j := fun b j c1 c2 c3 => by rw [dr b j (by omega), yf b j c1 c2 c3]
  have wX : ∀ b j : Int, ¬ (b = 3 ∧ 3 ≤ j ∧ j ≤ 6) → ¬ (b = P ∧ (j = 4 ∨ j = 8)) → ¬ (b = 37 ∧ (j = 4 ∨ j = 9)) → ¬ (P + 1 ≤ b ∧ b ≤ P + 4) → W b j = X b j := fun b j c1 c2 c3 c4 => by rw [wo b j (by omega) c4 (by omega), xf b j c1 c2 (by omega) c4]
  have fy' : kFY N Y (kDr Y') := kFY_tr (fun _ h => h) f2 kFY_kDr
  refine ⟨W, kDr Y', kFXl_of fw, kFYl_of fy', Or.inr (Or.inr ⟨Y' 145 (h' - 1), i + 1, kcN B n (ksk B n 600 p), e', qt, qf, N', ?_, ⟨w44, ?_, ?_, ?_, ?_⟩, ⟨?_, ?_, ?_⟩, ⟨by omega, pp.2, by omega, by omega⟩, ⟨?_, ?_, ?_, ?_⟩, ?_, ⟨w1e, wP4, ?_, ?_, b4⟩, r8, r7.1, fun Q => ps_tok x2 ⟨hi.1, by omega⟩ n6 za zT (by decide) cs, fun Q => ?_⟩)⟩
  · exact ⟨by rw [wX _ _ (by omega) (by omega) (by omega) (by omega)]; exact x2, fun _ => fw.1 37 3 (by omega) (by omega) (by omega) (by omega) (by omega) (by omega), fy'.1 123 23 (by omega) (by omega) (by omega), fy'.1 123 24 (by omega) (by omega) (by omega)⟩
  · rw [wo _ _ (by omega) (by omega) (by omega)]; exact r2
  · rw [wX _ _ (by omega) (by omega) (by omega) (by omega), x10]; exact ho
  · rw [wX _ _ (by omega) (by omega) (by omega) (by omega)]; exact x13
  · rw [wX _ _ (by omega) (by omega) (by omega) (by omega)]; exact xn
  · rw [wX _ _ (by omega) (by omega) (by omega) (by omega)]; exact t1
  · rw [wo _ _ (by omega) (by omega) (by omega), x3']; exact z3
  · rw [← t3]; exact funext fun j => wX _ _ (by omega) (by omega) (by omega) (by omega)
  · exact kTx_fr tx (yd _ _ (by omega) (by omega) (by omega)) (fun i => yd _ _ (by omega) (by omega) (by omega)) (fun i => yd _ _ (by omega) (by omega) (by omega))
  · rw [yd _ _ (by omega) (by omega) (by omega)]; exact kd
  · rw [yd _ _ (by omega) (by omega) (by omega)]; exact kw
  · rw [yd _ _ (by omega) (by omega) (by omega)]; exact t26
  · exact kcd_fr r7.1 (fun r j r1 r2 _ je => wr r j r1 r2 (by omega)) (fun k _ hk => by rw [wo _ _ (by omega) (by omega) (by omega)]; exact hk) (fun r x _ _ _ _ => dr r x (by omega)) (fun x hx => hx) qd
  · rw [wo _ _ (by omega) (by omega) (by omega), x8', zf _ _ (by omega)]; exact x8
  · rw [dr _ _ (by omega), y36']; exact y36
  · have xe := ex_end (Q := Q) (ln := ln) (o := ov) (Y' := Y') s46 y39 (by omega) kp (by rw [kd, kw]; unfold kEo; omega) bnd (by omega)
    rw [r4] at xe
    exact xe
theorem st_opbad (hP : kPq q P) (S : kS2 X Y P ln N a0 B n z0 p k h e o hb t) (hi : 0 ≤ i ∧ i ≤ p) (hT : kcT B n (ksk B n 600 p) = T) (h1 : T < 6 ∨ 16 < T) (h2 : T ≠ 24 ∧ T ≠ 25) (h3 : T = 5 → o = 0) (h5 : T = 3 → o ≠ 0) (h6 : T = 27 → ¬ (0 < hb ∧ hb = o ∧ X 37 12 ≠ 31 ∧ X 37 14 = 0)) : kEnd q qY c s P ln a0 z0 B n u N i X Y (fun Q => km_G M_X12_expression 35 [some (.inr (.inr 123)), some (.inl ln), ov] [] (km_A0 qY c s) Y Q) := by
  obtain ⟨⟨tk, ⟨x2, x9, x10, x13, xe, x8, x5, xn⟩, ⟨y39, y41, y43, y44, y45, y36⟩, ⟨b1, b2, b3, b4, b5, b6, b7⟩, wn⟩, ⟨s4, s46⟩, op⟩ := (show kS2 X Y P ln N a0 B n z0 p k h e o hb t from S)
  have hPo := hP.1
  obtain ⟨Z, zf, z5, zT, z3, -, za⟩ := @kTk_adv q c s X Y B n p tk
  obtain ⟨⟨t1, t2, t3, t4, t5⟩, tx, t26, t29, tt⟩ := tk
  have Tb := kcT_b (B := B) (n := n) (k := ksk B n 600 p)
  rw [hT] at zT tt Tb
  have n6 := tx.2.1.2
  have fz : kFX P a0 X Z := kFX_Z hPo zf
  obtain ⟨o1, oa, of, ot, od, oc⟩ := op
  have bv := kcd_b _ _ _ _ _ _ od
  have bx := kcx_b _ _ _ _ _ _ oc
  obtain ⟨kp0, kp1⟩ := kop_cx _ _ _ _ _ _ oc
  have px : ∀ Q : Option km_V → km_Al → km_Mm → Prop, km_G M_X7_parse 52 [some (.inr (.inr 37)), some (.inl n), some (.inr (.inr u)), some (.inl i)] [] (km_A0 q c s) X Q ↔ Q none (km_A0 q c s) (kFa 1 Z) := by
    by_cases a0 : T = 0
    · exact fun Q => ps_stop x2 ⟨hi.1, by omega⟩ n6 za (zT.trans a0) ((zf _ _ (by omega)).trans x2) (by rw [zf _ _ (by omega), s4]; decide)
    · exact ps_tf x2 ⟨hi.1, by omega⟩ n6 za zT a0 (by decide) (fun Q => @cl_opbad q c s Z Q T (by rw [zf _ _ (by omega)]; exact s4) h1 h2 (fun w => by rw [zf _ _ (by omega), x10]; exact h3 w) (fun w => by rw [zf _ _ (by omega), x10]; exact h5 w) (fun w => by rw [zf _ _ (by omega), zf _ _ (by omega), zf _ _ (by omega), zf _ _ (by omega), x13, x10]; exact h6 w))
  by_cases a5 : T = 5
  · obtain ⟨kd, kw⟩ := ktk_s (by omega) tt
    rw [a5] at kw
    have kw : Y 123 28 = 41 := kw
    refine kEnd_flt hPo (f := 1) (W := Z) (V := Y) (by decide) fz z5 kFY_rf t29 px (fun Q => ?_)
    rw [ex_close (r := 0) s46 kd kw (Or.inl rfl) (fun Q => md_closeN y39 (by omega) (kp0 (h3 a5)))]
    exact Iff.rfl
  · by_cases a27 : T = 27
    · obtain ⟨kd, kw⟩ := ktk_w (by omega) tt
      rw [a27] at kw
      have kw : Y 123 28 = 7 := kw
      have k101 : kop (Y 143) k ≠ 101 := fun w => by
        by_cases oz : o = 0
        · rw [kp0 oz] at w; omega
        · have := (kp1 (by omega)).2.mp w
          exact h6 a27 ⟨by omega, this⟩
      refine kEnd_flt hPo (f := 1) (W := Z) (V := Y) (by decide) fz z5 kFY_rf t29 px (fun Q => ?_)
      rw [ex_if (r := 0) s46 kd kw (Or.inl rfl) (fun Q => md_ifN y39 (by omega) k101)]
      exact Iff.rfl
    · have he : kEo (Y 123 27) (Y 123 28) ∧ (T ≠ 3 → ¬ (Y 123 27 = 3 ∧ Y 123 28 = 59)) := by
        unfold kEo
        by_cases a0 : T = 0
        · have := ktk_0 (by rw [← a0]; exact tt)
          omega
        by_cases a1 : T = 1
        · have := ktk_1 (by rw [← a1]; exact tt)
          omega
        by_cases a2 : T = 2
        · have := (ktk_2 (by rw [← a2]; exact tt)).1
          omega
        by_cases a3 : T ≤ 16
        · obtain ⟨k1, k2⟩ := ktk_s (by omega) tt
          obtain ⟨-, -, e3, e4, e5⟩ := @ksw_40 T (by omega)
          rw [← k2] at e3 e4 e5
          omega
        · obtain ⟨k1, k2⟩ := ktk_w (by omega) tt
          obtain ⟨-, -, e3, e4, -⟩ := @kww_b T (by omega)
          rw [← k2] at e3 e4
          omega
      by_cases oz : o = 0
      · obtain ⟨X', Y', N', k', h', e', ⟨r1, r2, r3, r4, r5⟩, r6, r7, r8, f1, f2, xf, ⟨x8', x3'⟩, yf, ⟨y36', -⟩, sc, -, rel, bnd⟩ := @st_rel q qY c s X Y Z Y P ln a0 n z0 p h e o hb t 1 1 B N k hP S (fun b j c1 _ => zf b j c1) (fun b j _ _ => rfl) (by omega) (Or.inl rfl) (fun _ _ _ _ h => h)
        obtain ⟨q1, qa, qf, qt, qd, qc⟩ := r6
        have bq := kcd_b _ _ _ _ _ _ qd
        have bqx := kcx_b _ _ _ _ _ _ qc
        have yd : ∀ b j : Int, ¬ (b = 123 ∧ (j = 36 ∨ j = 39 ∨ j = 41)) → ¬ (138 ≤ b ∧ b ≤ 141) → b ≠ 145 → kDr Y' b j = Y b j := fun b j c1 c2 c3 => by rw [kDr_o (by omega), yf b j c1 c2 c3]
        refine ⟨kFa 1 Z, kDr Y', kFXl_tr (kFXl_of fz) (kFX_kFa hPo), kFYl_of (kFY_tr (fun _ h => h) f2 kFY_kDr), Or.inr (Or.inl ⟨Y' 145 (h' - 1), (r7.1 _ bq.2.2.2).1, ?_, ?_, ?_, px, fun Q => ?_⟩)⟩
        · unfold kFa; rw [km_upx_i (by decide), km_upx_s]
        · rw [yd _ _ (by omega) (by omega) (by omega), t29, ← z5]; unfold kFa; rw [km_upx_s]
        · rw [yd _ _ (by omega) (by omega) (by omega), yd _ _ (by omega) (by omega) (by omega)]
          exact he.2 (fun w => h5 w oz)
        · have xe := ex_end (Q := Q) (ln := ln) (o := ov) (Y' := Y') s46 y39 (by omega) (kp0 oz) he.1 bnd (by omega)
          rw [r4] at xe
          exact xe
      · have kn : kop (Y 143) k ≠ 0 := by have := (kp1 (by omega)).1; omega
        refine kEnd_flt hPo (f := 1) (W := Z) (V := Y) (by decide) fz z5 kFY_rf t29 px (fun Q => ?_)
        exact ex_bad s46 y39 (by omega) kn he.1
end PQ

