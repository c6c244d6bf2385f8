/-! ===== a HEAP opens ===== -/
section P11
variable {q qY : Nat × Int × Int × Int × Int} {c s : Nat} {X Y : km_Mm} {P ln a0 n z0 p h e o hb t i u T x w : Int} {B : Int → Int} {N : Int → Prop} {k : Nat} {ov : Option km_V}
theorem kGr_f {kd v : Int} : (∀ b j : Int, ¬ (b = 123 ∧ j = 36) → ¬ ((138 ≤ b ∧ b ≤ 141) ∧ j = 120 + Y 123 36) → kGr kd v Y b j = Y b j) ∧ kGr kd v Y 123 36 = Y 123 36 + 1 ∧ kGr kd v Y 138 (120 + Y 123 36) = kd ∧ kGr kd v Y 140 (120 + Y 123 36) = -1 := by
  unfold kGr
  refine ⟨fun b j h1 h2 => ?_, ?_, ?_, ?_⟩
  · rw [km_up_ne (by omega), km_up_ne (by omega), km_up_ne (by omega), km_up_ne (by omega), km_up_ne (by omega)]
  · rw [km_up_o (by decide), km_up_o (by decide), km_up_o (by decide), km_up_o (by decide), km_upx_s]
  · rw [km_up_o (by decide), km_up_o (by decide), km_up_o (by decide), km_upx_s]
  · rw [km_up_o (by decide), km_upx_s]
theorem st_heap (hP : kPq q P) (ih : kI3 q qY c s P ln a0 z0 B n u (n - p)) (S : kS1 X Y P ln N a0 B n z0 p k h e o hb t) (hi : 0 ≤ i ∧ i ≤ p) (hT : kcT B n (ksk B n 600 p) = T) (hT2 : 28 ≤ T ∧ T ≤ 31) : kEnd q qY c s P ln a0 z0 B n u N i X Y (fun Q => km_G M_X12_expression 35 [some (.inr (.inr 123)), some (.inl ln), ov] [] (km_A0 qY c s) Y Q) := by
  obtain ⟨C, ⟨s4, s6, s47, s46⟩, cx⟩ := S
  obtain ⟨tk, ⟨x2, x9, x10, x13, xe, x8, x5, xn⟩, ⟨y39, y41, y43, y44, y45, y36⟩, ⟨b1, b2, b3, b4, b5, b6, b7⟩, wn⟩ := C
  have hPo := hP.1
  have pp := kTk_p tk (by omega)
  obtain ⟨Z, zf, z5, zT, z3, -, za⟩ := @kTk_adv q c s X Y B n p tk
  obtain ⟨⟨t1, t2, t3, t4, t5⟩, tx, t26, t29, tt⟩ := tk
  rw [hT] at zT tt
  obtain ⟨kd, kw⟩ := ktk_w (by omega) tt
  rw [(@kww_b T (by omega)).2.2.2.2.2 (by omega) (by omega)] at kw
  have n6 := tx.2.1.2
  have T0 : T ≠ 0 := by omega
  have fz : kFX P a0 X Z := kFX_Z hPo zf
  have zP : ∀ j, Z P j = X P j := fun j => zf P j (by omega)
  have bx := kcx_b _ _ _ _ _ _ cx
  have hc := fun Q => @cl_heap q c s Z P Q T hP (by rw [zf 37 4 (by omega)]; exact s4) hT2 (by rw [zP, x8]; omega) (by rw [zP, xe]; omega)
  rw [zP, x8, zf 37 13 (by omega), x13, zP, xe] at hc
  have nN : ¬ N (120 + Y 123 36) := fun w => by have := wn.1 _ w; omega
  by_cases full : z0 + t < 120
  · rw [if_pos full] at hc
    by_cases hbp : 0 < hb
    · rw [if_pos hbp] at hc
      have h44 : Y 123 44 ≠ 0 := by rw [y44]; unfold kinH; rw [if_neg (by omega)]; decide
      refine kEnd_flt hPo (f := 4) (W := kTi P Z) (V := kGr (Y 123 28 - 6) 0 Y) (by decide) (kFX_tr fz (kFX_kTi hPo)) (by rw [kTi_o (by omega)]; exact z5) (kFY_kGr (by omega) nN) ((kGr_x (by decide)).trans t29) (ps_tf x2 ⟨hi.1, by omega⟩ n6 za zT T0 (by decide) hc) (fun Q => ?_)
      rw [ex_val (by omega), md_heapIn kd (by omega) (by omega) h44]; exact ex_n rfl
    · rw [if_neg hbp] at hc
      have hb0 : hb = 0 := by omega
      subst hb0
      have h44 : Y 123 44 = 0 := y44
      have uf : ∀ b j : Int, ¬ (b = 37 ∧ (j = 11 ∨ j = 12 ∨ j = 14)) → ¬ (b = P ∧ j = 8) → km_up (km_up (km_up (kTi P Z) 37 11 e) 37 12 T) 37 14 0 b j = Z b j := fun b j c1 c2 => by rw [km_up_ne (by omega), km_up_ne (by omega), km_up_ne (by omega), kTi_o c2]
      have u8 : km_up (km_up (km_up (kTi P Z) 37 11 e) 37 12 T) 37 14 0 P 8 = z0 + t + 1 := by rw [km_up_o (by omega), km_up_o (by omega), km_up_o (by omega), kTi_8, zP, x8]
      have u11 : km_up (km_up (km_up (kTi P Z) 37 11 e) 37 12 T) 37 14 0 37 11 = e := by rw [km_upx_i (by decide), km_upx_i (by decide), km_upx_s]
      have u12 : km_up (km_up (km_up (kTi P Z) 37 11 e) 37 12 T) 37 14 0 37 12 = T := by rw [km_upx_i (by decide), km_upx_s]
      have u14 : km_up (km_up (km_up (kTi P Z) 37 11 e) 37 12 T) 37 14 0 37 14 = 0 := km_upx_s
      have fu : kFX P a0 X (km_up (km_up (km_up (kTi P Z) 37 11 e) 37 12 T) 37 14 0) := kFX_tr fz (kFX_tr (kFX_kTi hPo) (kFX_tr (kFX_37 hPo (by omega)) (kFX_tr (kFX_37 hPo (by omega)) (kFX_37 hPo (by omega)))))
      generalize km_up (km_up (km_up (kTi P Z) 37 11 e) 37 12 T) 37 14 0 = U at *
      have U4 : U P 4 = e := by rw [uf _ _ (by omega) (by omega), zP, xe]
      have fw : kFX P a0 X (km_up (kEm P 53 T U) 37 4 3) := kFX_tr fu (kFX_tr (kFX_kEm hPo (by rw [U4]; omega)) (kFX_37 hPo (by omega)))
      have wf : ∀ b j : Int, ¬ (b = P ∧ j = 4) → ¬ (P + 1 ≤ b ∧ b ≤ P + 4) → ¬ (b = 37 ∧ j = 4) → km_up (kEm P 53 T U) 37 4 3 b j = U b j := fun b j h1 h2 h3 => by
        rw [km_up_ne h3]
        by_cases z : b = P
        · rw [z, kEm_P, if_neg (by omega)]
        · exact kEm_o z (by omega) (by omega) (by omega) (by omega)
      have w4 : km_up (kEm P 53 T U) 37 4 3 37 4 = 3 := km_upx_s
      have wP4 : km_up (kEm P 53 T U) 37 4 3 P 4 = e + 1 := by rw [km_up_ne (by omega), kEm_P, if_pos rfl, U4]
      have wr : ∀ r j : Int, 1 ≤ r → r ≤ 4 → j ≠ e → km_up (kEm P 53 T U) 37 4 3 (P + r) j = U (P + r) j := fun r j r1 r2 hj => by
        rw [km_up_ne (by omega)]
        obtain ⟨v1, v2, v3, v4, -⟩ := @kEm_r P 53 T j U
        rw [U4] at v1 v2 v3 v4
        have rr : r = 1 ∨ r = 2 ∨ r = 3 ∨ r = 4 := by omega
        rcases rr with rfl | rfl | rfl | rfl
        · rw [v1, if_neg hj]
        · rw [v2, if_neg hj]
        · rw [v3, if_neg hj]
        · rw [v4, if_neg hj]
      obtain ⟨r1, r2, r3, -⟩ := @kEm_r P 53 T e U
      rw [U4, if_pos rfl] at r1 r2 r3
      have wr1 : km_up (kEm P 53 T U) 37 4 3 (P + 1) e = 53 := by rw [km_up_ne (by omega), r1]
      have wr2 : km_up (kEm P 53 T U) 37 4 3 (P + 2) e = T := by rw [km_up_ne (by omega), r2]
      have wr3 : km_up (kEm P 53 T U) 37 4 3 (P + 3) e = -1 := by rw [km_up_ne (by omega), r3]
      clear r1 r2 r3
      generalize km_up (kEm P 53 T U) 37 4 3 = W at *
      obtain ⟨v1, v2, v3, v4⟩ := @kGr_f Y (Y 123 28 - 6) 0
      have fv : kFY N Y (kGr (Y 123 28 - 6) 0 Y) := kFY_kGr (by omega) nN
      have hx := fun M' ht Q => @md_heap qY c s Y Q ln M' kd (by omega) (by omega) h44 ht
      generalize kGr (Y 123 28 - 6) 0 Y = V at *
      rw [y36] at v1 v2 v3 v4
      have tv : kTx V B n := kTx_fr tx (v1 _ _ (by omega) (by omega)) (fun i => v1 _ _ (by omega) (by omega)) (fun i => v1 _ _ (by omega) (by omega))
      obtain ⟨M, m1, m2, m3⟩ := @kTk_take qY c s V B n _ tv ⟨by omega, pp.2⟩ ((v1 _ _ (by omega) (by omega)).trans t26)
      have mf : ∀ b j : Int, ¬ (b = 123 ∧ (j = 36 ∨ (26 ≤ j ∧ j ≤ 29))) → ¬ ((138 ≤ b ∧ b ≤ 141) ∧ j = 120 + (z0 + t)) → M b j = Y b j := fun b j c1 c2 => by rw [m1 b j (by omega), v1 b j (by omega) c2]
      have hYw : ∀ j : Int, 0 ≤ j → j < k → M 143 j = Y 143 j ∧ M 144 j = Y 144 j := fun j _ _ => ⟨mf _ _ (by omega) (by omega), mf _ _ (by omega) (by omega)⟩
      have e143 : M 143 = Y 143 := funext fun j => mf 143 j (by omega) (by omega)
      rw [y36] at nN
      refine kEnd_step (N1 := N) (i1 := i + 1) (fun x hx => hx) fw (kFY_tr (fun _ h => h) fv (kFY_M m1)) (fun Q => ps_tok x2 ⟨hi.1, by omega⟩ n6 za zT T0 hc) (G1 := kG3 qY c s ln (T - 20) (120 + (z0 + t)) M) (fun Q => ?_) (ih W M N (kcN B n (ksk B n 600 p)) k h (e + 1) o (t + 1) (T - 20) (120 + (z0 + t)) (i + 1) (by omega) ?_ (by omega) (by omega))
      · rw [ex_val (by omega), hx M m3, kw, y36]; exact Iff.rfl
      · refine ⟨⟨m2 W ?_ ?_ ?_, ⟨?_, ?_, ?_, ?_, wP4, ?_, ?_, ?_⟩, ⟨?_, ?_, ?_, ?_, ?_, ?_⟩, ⟨b1, b2, b3, by omega, b5, b6, b7⟩, kwn_fr wn (by omega) hYw (fun x hx => Or.inl hx)⟩, ⟨w4, ?_⟩, ⟨by omega, by omega, by omega, by omega, nN, fun j j0 j1 hj => ?_⟩, ⟨?_, ?_, ?_, ?_, ?_, ?_⟩, ⟨?_, ?_⟩, ?_⟩
        · rw [wf _ _ (by omega) (by omega) (by omega), uf _ _ (by omega) (by omega), zf _ _ (by omega)]; exact t1
        · rw [wf _ _ (by omega) (by omega) (by omega), uf _ _ (by omega) (by omega)]; exact z3
        · rw [← t3]; exact funext fun j => by rw [wf _ _ (by omega) (by omega) (by omega), uf _ _ (by omega) (by omega), zf _ _ (by omega)]
        · rw [wf _ _ (by omega) (by omega) (by omega), uf _ _ (by omega) (by omega), zf _ _ (by omega)]; exact x2
        · rw [wf _ _ (by omega) (by omega) (by omega), uf _ _ (by omega) (by omega), zf _ _ (by omega)]; exact x9
        · rw [wf _ _ (by omega) (by omega) (by omega), uf _ _ (by omega) (by omega), zf _ _ (by omega)]; exact x10
        · rw [wf _ _ (by omega) (by omega) (by omega), uf _ _ (by omega) (by omega), zf _ _ (by omega)]; exact x13
        · rw [wf _ _ (by omega) (by omega) (by omega), u8]; omega
        · rw [wf _ _ (by omega) (by omega) (by omega), uf _ _ (by omega) (by omega), zf _ _ (by omega)]; exact x5
        · rw [wf _ _ (by omega) (by omega) (by omega), uf _ _ (by omega) (by omega), zf _ _ (by omega)]; exact xn
        · rw [mf _ _ (by omega) (by omega)]; exact y39
        · rw [mf _ _ (by omega) (by omega)]; exact y41
        · rw [mf _ _ (by omega) (by omega)]; exact y43
        · rw [mf _ _ (by omega) (by omega)]; exact y44
        · rw [mf _ _ (by omega) (by omega), e143]; exact y45
        · rw [m1 _ _ (by omega), v2]; omega
        · rw [mf _ _ (by omega) (by omega)]; exact s46
        · rw [(hYw j j0 j1).1] at hj
          rw [(hYw j j0 j1).2]
          rcases wn.2.1 j j0 j1 with w | w <;> omega
        · rw [wf _ _ (by omega) (by omega) (by omega), u11]; omega
        · rw [wf _ _ (by omega) (by omega) (by omega), u12]; omega
        · rw [wf _ _ (by omega) (by omega) (by omega), u14]
        · rw [show e + 1 - 1 = e by omega]; exact wr1
        · rw [show e + 1 - 1 = e by omega, wr2]; omega
        · rw [show e + 1 - 1 = e by omega]; exact wr3
        · rw [m1 _ _ (by omega), v3, kw]
        · rw [m1 _ _ (by omega), v4]
        · rw [show e + 1 - 1 = e by omega, show t + 1 - 1 = t by omega]
          exact kcx_fr wn (fun r j r1 r2 _ je => by rw [wr r j r1 r2 (by omega), uf _ _ (by omega) (by omega), zf _ _ (by omega)]) (fun k _ hk => by rw [wf _ _ (by omega) (by omega) (by omega), uf _ _ (by omega) (by omega), zf _ _ (by omega)]; exact hk) (fun j _ _ => ⟨by rw [wf _ _ (by omega) (by omega) (by omega), uf _ _ (by omega) (by omega), zf _ _ (by omega)], by rw [wf _ _ (by omega) (by omega) (by omega), uf _ _ (by omega) (by omega), zf _ _ (by omega)]⟩) (fun z => absurd rfl z) (fun r x r1 r2 _ xz => mf r x (by omega) (by omega)) hYw (fun j _ jh => mf 145 j (by omega) (by omega)) (fun j _ _ => mf 146 j (by omega) (by omega)) (fun x hx => hx) cx
  · rw [if_neg full] at hc
    refine kEnd_flt hPo (f := 2) (by decide) fz z5 kFY_rf t29 (ps_tf x2 ⟨hi.1, by omega⟩ n6 za zT T0 (by decide) hc) (fun Q => ?_)
    rw [ex_val (by omega), md_heapFull kd (by omega) (by omega)]; exact ex_n rfl
theorem st_hno (hP : kPq q P) (S : kS3 X Y P ln N a0 B n z0 p k h e o t x w) (hi : 0 ≤ i ∧ i ≤ p) (hT : kcT B n (ksk B n 600 p) = T) (hn : T ≠ 4) : kEnd q qY c s P ln a0 z0 B n u N i X Y (kG3 qY c s ln x w Y) := by
  obtain ⟨C, ⟨s4, s46⟩, -⟩ := S
  obtain ⟨tk, ⟨x2, x9, x10, x13, xe, x8, x5, xn⟩, -, -, -⟩ := C
  have hPo := hP.1
  obtain ⟨Z, zf, z5, zT, z3, -, za⟩ := @kTk_adv q c s X Y B n p tk
  obtain ⟨⟨t1, t2, t3, t4, t5⟩, tx, t26, t29, tt⟩ := tk
  have Tb := kcT_b (B := B) (n := n) (k := ksk B n 600 p)
  rw [hT] at zT tt Tb
  have n6 := tx.2.1.2
  have fz : kFX P a0 X Z := kFX_Z hPo zf
  have nb : ¬ (Y 123 27 = 3 ∧ Y 123 28 = 40) := by
    by_cases a0 : T = 0
    · have := ktk_0 (by rw [← a0]; exact tt)
      omega
    by_cases a1 : T = 1
    · have := ktk_1 (by rw [← a1]; exact tt)
      omega
    by_cases a2 : T = 2
    · have := ktk_2 (by rw [← a2]; exact tt)
      omega
    by_cases a3 : T ≤ 16
    · obtain ⟨k1, k2⟩ := ktk_s (by omega) tt
      obtain ⟨e1, -⟩ := @ksw_40 T (by omega)
      rw [← k2] at e1
      exact fun w => hn (e1.mp w.2)
    · obtain ⟨k1, k2⟩ := ktk_w (by omega) tt
      omega
  have hx : ∀ Q, kG3 qY c s ln x w Y Q ↔ Q (some (.inl (-1))) (km_A0 qY c s) (kWr 1 Y) := fun Q => by
    unfold kG3
    rw [md_hno nb]; exact ex_n rfl
  by_cases a0 : T = 0
  · exact kEnd_flt hPo (f := 1) (W := Z) (by decide) fz z5 kFY_rf t29 (fun Q => ps_stop x2 ⟨hi.1, by omega⟩ n6 za (zT.trans a0) ((zf _ _ (by omega)).trans x2) (by rw [zf _ _ (by omega), s4]; decide)) hx
  · have hc := fun Q => @cl_hno q c s Z Q T (by rw [zf 37 4 (by omega)]; exact s4) hn
    exact kEnd_flt hPo (f := 1) (by decide) fz z5 kFY_rf t29 (ps_tf x2 ⟨hi.1, by omega⟩ n6 za zT a0 (by decide) hc) hx
theorem st_hopen (hP : kPq q P) (ih : kI1 q qY c s P ln a0 z0 B n u (n - p)) (S : kS3 X Y P ln N a0 B n z0 p k h e o t x w) (hi : 0 ≤ i ∧ i ≤ p) (hT : kcT B n (ksk B n 600 p) = 4) : kEnd q qY c s P ln a0 z0 B n u N i X Y (kG3 qY c s ln x w Y) := by
  obtain ⟨C, ⟨s4, s46⟩, ⟨hx1, hx2, hw, ht1, nN, hlt⟩, ⟨h11, h12, h14, hr1, hr2, hr3⟩, ⟨hy1, hy2⟩, cx⟩ := S
  obtain ⟨tk, ⟨x2, x9, x10, x13, xe, x8, x5, xn⟩, ⟨y39, y41, y43, y44, y45, y36⟩, ⟨b1, b2, b3, b4, b5, b6, b7⟩, wn⟩ := (show kCo X Y P ln N a0 B n z0 p k h e o 0 t from C)
  have hPo := hP.1
  have pp := kTk_p tk (by omega)
  obtain ⟨Z, zf, z5, zT, z3, -, za⟩ := @kTk_adv q c s X Y B n p tk
  obtain ⟨⟨t1, t2, t3, t4, t5⟩, tx, t26, t29, tt⟩ := tk
  rw [hT] at zT tt
  obtain ⟨kd, kw⟩ := ktk_s (by omega) tt
  have kw : Y 123 28 = 40 := kw
  have n6 := tx.2.1.2
  have fz : kFX P a0 X Z := kFX_Z hPo zf
  have bx := kcx_b _ _ _ _ _ _ cx
  have hc := fun Q => @cl_hopen q c s Z Q (by rw [zf 37 4 (by omega)]; exact s4) (by rw [zf 37 10 (by omega), x10]; omega) (by rw [zf 37 9 (by omega), x9, zf 37 10 (by omega), x10]; omega)
  rw [zf 37 10 (by omega), x10, zf 37 11 (by omega), h11] at hc
  by_cases full : o < 8
  · rw [if_pos full] at hc
    obtain ⟨u1, u2, u3, u4, u5, -⟩ := @kK_f 1 4 (e - 1) (km_up Z 37 10 (o + 1))
    have t9 : km_up Z 37 10 (o + 1) 37 9 = k := by rw [km_upx_i (by decide), zf 37 9 (by omega), x9]
    rw [t9] at u1 u4 u5
    have fw : kFX P a0 X (km_up (kXo 1 (kKw 4 (e - 1) (km_up Z 37 10 (o + 1)))) 37 13 (o + 1)) := kFX_tr fz (kFX_tr (kFX_37 hPo (by omega)) (kFX_tr (kFX_kKw hPo) (kFX_tr (kFX_kXo hPo) (kFX_37 hPo (by omega)))))
    generalize kXo 1 (kKw 4 (e - 1) (km_up Z 37 10 (o + 1))) = W0 at *
    have w13 : km_up W0 37 13 (o + 1) 37 13 = o + 1 := km_upx_s
    have wo : ∀ b j : Int, ¬ (b = 37 ∧ j = 13) → km_up W0 37 13 (o + 1) b j = W0 b j := fun b j c1 => km_up_ne c1
    generalize km_up W0 37 13 (o + 1) = W at *
    obtain ⟨v1, v2, v3, v4, v5, v6, v7, v8⟩ := @kVo_f (if x = 11 then 103 else 101) w (km_up Y 123 44 1)
    have fv : kFY N Y (kOb (if x = 11 then 103 else 101) w (km_up Y 123 44 1)) := kFY_tr (fun _ h => h) (kFY_123 (by omega)) kFY_kOb
    have hx := fun M' ht Q => @md_hopen qY c s Y Q ln M' x w kd kw ⟨hx1, hx2⟩ (by omega) (by omega) (by rw [y45]; exact khc_01 k) ht
    generalize hkk : (if x = 11 then (103 : Int) else 101) = kk at *
    have hk2 : (kk = 101 ∧ x ≠ 11) ∨ (kk = 103 ∧ x = 11) := by split at hkk <;> omega
    clear hkk
    generalize kOb kk w (km_up Y 123 44 1) = V at *
    rw [km_upx_i (by decide), y39] at v1 v2 v6 v7
    rw [km_upx_i (by decide), y43] at v1 v3 v8
    rw [km_upx_i (by decide), y45] at v8
    have v1' : ∀ b j : Int, ¬ (b = 123 ∧ (j = 39 ∨ j = 43 ∨ j = 44 ∨ j = 45 ∨ j = 47)) → ¬ ((b = 143 ∨ b = 144) ∧ j = k) → ¬ (b = 146 ∧ j = o) → V b j = Y b j := fun b j c1 c2 c3 => by rw [v1 b j (by omega) c2 c3, km_up_ne (by omega)]
    have v44 : V 123 44 = 1 := by rw [v1 _ _ (by omega) (by omega) (by omega), km_upx_s]
    have tv : kTx V B n := kTx_fr tx (v1' _ _ (by omega) (by omega) (by omega)) (fun i => v1' _ _ (by omega) (by omega) (by omega)) (fun i => v1' _ _ (by omega) (by omega) (by omega))
    obtain ⟨M, m1, m2, m3⟩ := @kTk_take qY c s V B n _ tv ⟨by omega, pp.2⟩ ((v1' _ _ (by omega) (by omega) (by omega)).trans t26)
    have wf : ∀ b j : Int, ¬ (b = P ∧ j = 8) → ¬ (b = 37 ∧ (j = 4 ∨ j = 6 ∨ j = 9 ∨ j = 10 ∨ j = 13)) → ¬ ((b = 38 ∨ b = 39) ∧ j = k) → ¬ (b = 3 ∧ 3 ≤ j ∧ j ≤ 6) → W b j = X b j := fun b j c1 c2 c3 c4 => by rw [wo b j (by omega), u1 b j (by omega) c3, km_up_ne (by omega), zf b j c4]
    have mf : ∀ b j : Int, ¬ (b = 123 ∧ (j = 36 ∨ j = 39 ∨ (43 ≤ j ∧ j ≤ 47) ∨ (26 ≤ j ∧ j ≤ 29))) → ¬ ((138 ≤ b ∧ b ≤ 141) ∧ j = 120 + (z0 + t)) → ¬ ((b = 143 ∨ b = 144) ∧ j = k) → ¬ (b = 146 ∧ j = o) → M b j = Y b j := fun b j c1 c2 c3 c4 => by rw [m1 b j (by omega), v1' b j (by omega) (by omega) (by omega)]
    obtain ⟨cx1, kc1⟩ := cx_push (e := e) hPo wn wf mf cx
    have mk : M 143 k = kk := by rw [m1 _ _ (by omega), v6]
    have mw : M 144 k = w := by rw [m1 _ _ (by omega), v7]
    have mr : ∀ r : Int, 138 ≤ r → r ≤ 141 → M r w = Y r w := fun r r1 r2 => mf r w (by omega) (by omega) (by omega) (by omega)
    refine kEnd_step (N1 := N) (i1 := i + 1) (fun x hx => hx) fw (kFY_tr (fun _ h => h) fv (kFY_M m1)) (fun Q => ps_tok x2 ⟨hi.1, by omega⟩ n6 za zT (by decide) hc) (G1 := fun Q => km_G M_X12_expression 35 [some (.inr (.inr 123)), some (.inl ln), some (.inl 1)] [] (km_A0 qY c s) M Q) (fun Q => ?_) (ih W M N (kcN B n (ksk B n 600 p)) (k + 1) h e (o + 1) (o + 1) t (i + 1) _ (by omega) ?_ (by omega) (by omega))
    · unfold kG3; rw [hx M m3]; exact ex_y rfl
    · have m45 : M 123 45 = 0 := by rw [m1 _ _ (by omega), v4]
      refine st_push (w6 := 1) (cc := 0) hPo C (t1 := t) (by omega) (by omega) (by omega) wf ?_ ?_ ?_ ?_ ?_ w13 ?_ mf ?_ ?_ ?_ ?_ m45 ?_ ?_ ?_ (Or.inr ⟨rfl, rfl⟩) m2 (Or.inr ⟨by omega, by omega, by rw [mw]; exact nN, fun j j0 j1 hj => by rw [mw]; exact hlt j j0 j1 hj⟩) (Or.inr (Or.inr (Or.inl ⟨?_, ⟨?_, ?_, ?_, ?_⟩, ⟨by omega, rfl, ?_⟩, ⟨?_, ?_, ?_⟩, ⟨?_, ?_, ?_⟩, by rw [show o + 1 - 1 = o by omega]; exact cx1⟩)))
      · rw [wo _ _ (by omega), u1 3 3 (by omega) (by omega), km_up_ne (by omega)]; exact z3
      · rw [wo _ _ (by omega)]; exact u2
      · rw [wo _ _ (by omega)]; exact u3
      · rw [wo _ _ (by omega)]; exact u4
      · rw [wo _ _ (by omega), u1 37 10 (by omega) (by omega), km_upx_s]
      · rw [wo _ _ (by omega), u1 P 8 (by omega) (by omega), km_up_ne (by omega), zf _ _ (by omega)]; exact x8
      · rw [m1 _ _ (by omega), v1' _ _ (by omega) (by omega) (by omega)]; exact y36
      · rw [m1 _ _ (by omega), v2]
      · rw [m1 _ _ (by omega), v3]
      · rw [m1 _ _ (by omega), v44]; unfold kinH; rw [if_neg (by omega)]
      · rw [m1 _ _ (by omega), v1' _ _ (by omega) (by omega) (by omega)]; exact s46
      · rw [m1 _ _ (by omega)]; exact v5
      · have kc : khc (M 143) (k + 1) = if M 143 k = 7 ∨ (16 ≤ M 143 k ∧ M 143 k ≤ 20) then khc (M 143) k else if 10 ≤ M 143 k ∧ M 143 k ≤ 15 then 1 else 0 := rfl
        rw [kc, mk]
        clear kc
        rw [if_neg (by omega), if_neg (by omega)]
      · rw [mk, mw, mr 138 (by decide) (by decide), hy1]; omega
      · rw [wo _ _ (by omega)]; exact u5
      · rw [mw, mr 138 (by decide) (by decide), hy1]; omega
      · rw [mw, mr 138 (by decide) (by decide), hy1]; omega
      · rw [mw, mr 140 (by decide) (by decide), hy2]
      · rw [show o + 1 - 1 = o by omega, m1 _ _ (by omega), v8, kc1]
      · rw [wf _ _ (by omega) (by omega) (by omega) (by omega)]; exact h11
      · rw [wf _ _ (by omega) (by omega) (by omega) (by omega), h12, mw, mr 138 (by decide) (by decide), hy1]; omega
      · rw [wf _ _ (by omega) (by omega) (by omega) (by omega)]; exact h14
      · rw [wf _ _ (by omega) (by omega) (by omega) (by omega)]; exact hr1
      · rw [wf _ _ (by omega) (by omega) (by omega) (by omega), hr2, mw, mr 138 (by decide) (by decide), hy1]; omega
      · rw [wf _ _ (by omega) (by omega) (by omega) (by omega)]; exact hr3
  · rw [if_neg full] at hc
    refine kEnd_flt hPo (f := 2) (V := km_up Y 123 44 1) (by decide) fz z5 (kFY_123 (by omega)) ((km_upx_i (by decide)).trans t29) (ps_tf x2 ⟨hi.1, by omega⟩ n6 za zT (by decide) (by decide) hc) (fun Q => ?_)
    unfold kG3
    rw [md_hopenFull kd kw (by omega)]; exact ex_n rfl
end P11

