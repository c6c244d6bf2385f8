/-! ===== not, minus, brackets, no value ===== -/
section P10
variable {q qY : Nat × Int × Int × Int × Int} {c s : Nat} {X Y : km_Mm} {P ln a0 n z0 p h e o hb t i u T : Int} {B : Int → Int} {N : Int → Prop} {k : Nat} {ov : Option km_V}
theorem khc_01 {W : Int → Int} : ∀ k : Nat, 0 ≤ khc W k ∧ khc W k ≤ 1 := by
  intro k
  induction k with
  | zero => exact ⟨Int.le_refl 0, (by decide : (0 : Int) ≤ 1)⟩
  | succ k ih =>
    unfold khc
    split
    · exact ih
    · split <;> decide
theorem st_minus (hP : kPq q P) (ih : kI1 q qY c s P ln a0 z0 B n u (n - p)) (S : kS1 X Y P ln N a0 B n z0 p k h e o hb t) (hi : 0 ≤ i ∧ i ≤ p) (hT : kcT B n (ksk B n 600 p) = 7) : kEnd q qY c s P ln a0 z0 B n u N i X Y (fun Q => km_G M_X12_expression 35 [some (.inr (.inr 123)), some (.inl ln), ov] [] (km_A0 qY c s) Y Q) := by
  have s4 := S.2.1.1
  have tt := S.1.1.2.2.2.2
  rw [hT] at tt
  obtain ⟨kd, kw⟩ := ktk_s (by omega) tt
  have kw : Y 123 28 = 17 := kw
  refine st_ahead (kd := 7) (x := 50) (w6 := 0) (V := km_up (kWf 7 (120 + Y 123 36) (kGr 7 0 Y)) 123 47 0) hP ih S hi hT (by decide) (Or.inr ⟨rfl, rfl, rfl⟩) (fun Z zf h8 hd Q => ?_) (fun b j w => km_up_ne w) km_upx_s (fun h1 h2 M' ht Q => md_minus kd kw h1 h2 ht) (fun h1 Q => md_minusFull kd kw h1)
  exact cl_minus hP (by rw [zf _ _ (by decide)]; exact s4) h8 hd
theorem st_not (hP : kPq q P) (ih : kI1 q qY c s P ln a0 z0 B n u (n - p)) (S : kS1 X Y P ln N a0 B n z0 p k h e o hb t) (hi : 0 ≤ i ∧ i ≤ p) (hT : kcT B n (ksk B n 600 p) = 26) (hn : X 37 6 ≠ 0) : kEnd q qY c s P ln a0 z0 B n u N i X Y (fun Q => km_G M_X12_expression 35 [some (.inr (.inr 123)), some (.inl ln), ov] [] (km_A0 qY c s) Y Q) := by
  obtain ⟨s4, s6, s47, s46⟩ := S.2.1
  have tt := S.1.1.2.2.2.2
  rw [hT] at tt
  obtain ⟨kd, kw⟩ := ktk_w (by omega) tt
  have kw : Y 123 28 = 6 := kw
  have n47 : Y 123 47 ≠ 0 := by rw [← s6]; exact hn
  have y47 : Y 123 47 = 1 := by rcases s47 with w | w <;> omega
  refine st_ahead (kd := 6) (x := 26) (w6 := 1) (V := kWf 6 (120 + Y 123 36) (kGr 6 0 Y)) hP ih S hi hT (by decide) (Or.inl ⟨rfl, rfl, rfl, y47⟩) (fun Z zf h8 hd Q => ?_) (fun b j w => rfl) ?_ (fun h1 h2 M' ht Q => md_not kd kw n47 h1 h2 ht) (fun h1 Q => md_notFull kd kw n47 h1)
  · exact cl_not hP (by rw [zf _ _ (by decide)]; exact s4) (by rw [zf _ _ (by decide)]; exact hn) h8 hd
  · rw [(@kVw_f 6 (120 + Y 123 36) Y rfl).1 _ _ (by omega) (by omega) (by omega)]; exact y47
theorem st_open (hP : kPq q P) (ih : kI1 q qY c s P ln a0 z0 B n u (n - p)) (S : kS1 X Y P ln N a0 B n z0 p k h e o hb t) (hi : 0 ≤ i ∧ i ≤ p) (hT : kcT B n (ksk B n 600 p) = 4) : kEnd q qY c s P ln a0 z0 B n u N i X Y (fun Q => km_G M_X12_expression 35 [some (.inr (.inr 123)), some (.inl ln), ov] [] (km_A0 qY c s) Y Q) := by
  obtain ⟨C, ⟨s4, s6, s47, s46⟩, cx⟩ := S
  obtain ⟨tk, ⟨x2, x9, x10, x13, xe, x8, x5, xn⟩, ⟨y39, y41, y43, y44, y45, y36⟩, ⟨b1, b2, b3, b4, b5, b6, b7⟩, wn⟩ := (show kCo X Y P ln N a0 B n z0 p k h e o hb t from C)
  have hPo := hP.1
  have pp := kTk_p tk (by omega)
  obtain ⟨Z, zf, z5, zT, z3, -, za⟩ := @kTk_adv q c s X Y B n p tk
  obtain ⟨⟨t1, t2, t3, t4, t5⟩, tx, t26, t29, tt⟩ := tk
  rw [hT] at zT tt
  obtain ⟨kd, kw⟩ := ktk_s (by omega) tt
  have kw : Y 123 28 = 40 := kw
  have n6 := tx.2.1.2
  have fz : kFX P a0 X Z := kFX_Z hPo zf
  have bx := kcx_b _ _ _ _ _ _ cx
  have hc := fun Q => @cl_open q c s Z Q (by rw [zf 37 4 (by omega)]; exact s4) (by rw [zf 37 10 (by omega), x10]; omega) (by rw [zf 37 9 (by omega), x9, zf 37 10 (by omega), x10]; omega)
  rw [zf 37 10 (by omega), x10] at hc
  by_cases full : o < 8
  · rw [if_pos full] at hc
    obtain ⟨u1, u2, u3, u4, u5, -⟩ := @kK_f 1 4 (-1) (km_up Z 37 10 (o + 1))
    have t9 : km_up Z 37 10 (o + 1) 37 9 = k := by rw [km_upx_i (by decide), zf 37 9 (by omega), x9]
    rw [t9] at u1 u4 u5
    have fw : kFX P a0 X (kXo 1 (kKw 4 (-1) (km_up Z 37 10 (o + 1)))) := kFX_tr fz (kFX_tr (kFX_37 hPo (by omega)) (kFX_tr (kFX_kKw hPo) (kFX_kXo hPo)))
    generalize kXo 1 (kKw 4 (-1) (km_up Z 37 10 (o + 1))) = W at *
    obtain ⟨v1, v2, v3, v4, v5, v6, v7, v8⟩ := @kVo_f 100 (-1) Y
    have fv : kFY N Y (kOb 100 (-1) Y) := kFY_kOb
    have hx := fun M' ht Q => @md_open qY c s Y Q ln M' kd kw (by omega) (by omega) (by rw [y45]; exact khc_01 k) ht
    generalize kOb 100 (-1) Y = V at *
    rw [y39] at v1 v2 v6 v7
    rw [y43] at v1 v3 v8
    have tv : kTx V B n := kTx_fr tx (v1 _ _ (by omega) (by omega) (by omega)) (fun i => v1 _ _ (by omega) (by omega) (by omega)) (fun i => v1 _ _ (by omega) (by omega) (by omega))
    obtain ⟨M, m1, m2, m3⟩ := @kTk_take qY c s V B n _ tv ⟨by omega, pp.2⟩ ((v1 _ _ (by omega) (by omega) (by omega)).trans t26)
    have wf : ∀ b j : Int, ¬ (b = P ∧ j = 8) → ¬ (b = 37 ∧ (j = 4 ∨ j = 6 ∨ j = 9 ∨ j = 10 ∨ j = 13)) → ¬ ((b = 38 ∨ b = 39) ∧ j = k) → ¬ (b = 3 ∧ 3 ≤ j ∧ j ≤ 6) → W b j = X b j := fun b j c1 c2 c3 c4 => by rw [u1 b j (by omega) c3, km_up_ne (by omega), zf b j c4]
    have mf : ∀ b j : Int, ¬ (b = 123 ∧ (j = 36 ∨ j = 39 ∨ (43 ≤ j ∧ j ≤ 47) ∨ (26 ≤ j ∧ j ≤ 29))) → ¬ ((138 ≤ b ∧ b ≤ 141) ∧ j = 120 + (z0 + t)) → ¬ ((b = 143 ∨ b = 144) ∧ j = k) → ¬ (b = 146 ∧ j = o) → M b j = Y b j := fun b j c1 c2 c3 c4 => by rw [m1 b j (by omega), v1 b j (by omega) (by omega) (by omega)]
    obtain ⟨cx1, kc1⟩ := cx_push (e := e) hPo wn wf mf cx
    have mk : M 143 k = 100 := by rw [m1 _ _ (by omega), v6]
    have mw : M 144 k = -1 := by rw [m1 _ _ (by omega), v7]
    refine kEnd_step (N1 := N) (i1 := i + 1) (fun x hx => hx) fw (kFY_tr (fun _ h => h) fv (kFY_M m1)) (fun Q => ps_tok x2 ⟨hi.1, by omega⟩ n6 za zT (by decide) hc) (G1 := fun Q => km_G M_X12_expression 35 [some (.inr (.inr 123)), some (.inl ln), some (.inl 1)] [] (km_A0 qY c s) M Q) (fun Q => ?_) (ih W M N (kcN B n (ksk B n 600 p)) (k + 1) h e (o + 1) hb t (i + 1) _ (by omega) ?_ (by omega) (by omega))
    · rw [ex_val (by omega), hx M m3]; exact ex_y rfl
    · have m45 : M 123 45 = 0 := by rw [m1 _ _ (by omega), v4]
      refine st_push (w6 := 1) (cc := 0) hPo C (t1 := t) (by omega) (by omega) (by omega) wf ?_ u2 u3 u4 ?_ ?_ ?_ mf ?_ ?_ ?_ ?_ m45 ?_ ?_ ?_ (Or.inr ⟨rfl, rfl⟩) m2 (Or.inl ⟨mk, mw⟩) (Or.inr (Or.inl ⟨⟨mk, u5, mw⟩, ⟨by omega, by omega, ?_⟩, by rw [show o + 1 - 1 = o by omega]; exact cx1⟩))
      · rw [u1 3 3 (by omega) (by omega), km_up_ne (by omega)]; exact z3
      · rw [u1 37 10 (by omega) (by omega), km_upx_s]
      · rw [u1 37 13 (by omega) (by omega), km_up_ne (by omega), zf _ _ (by omega)]; exact x13
      · rw [u1 P 8 (by omega) (by omega), km_up_ne (by omega), zf _ _ (by omega)]; exact x8
      · rw [m1 _ _ (by omega), v1 _ _ (by omega) (by omega) (by omega)]; exact y36
      · rw [m1 _ _ (by omega), v2]
      · rw [m1 _ _ (by omega), v3]
      · rw [m1 _ _ (by omega), v1 _ _ (by omega) (by omega) (by omega)]; exact y44
      · rw [m1 _ _ (by omega), v1 _ _ (by omega) (by omega) (by omega)]; exact s46
      · rw [m1 _ _ (by omega)]; exact v5
      · have kc : khc (M 143) (k + 1) = if M 143 k = 7 ∨ (16 ≤ M 143 k ∧ M 143 k ≤ 20) then khc (M 143) k else if 10 ≤ M 143 k ∧ M 143 k ≤ 15 then 1 else 0 := rfl
        rw [kc, mk, if_neg (by decide), if_neg (by decide)]
      · rw [show o + 1 - 1 = o by omega, m1 _ _ (by omega), v8, kc1]; exact y45
  · rw [if_neg full] at hc
    refine kEnd_flt hPo (f := 2) (by decide) fz z5 kFY_rf t29 (ps_tf x2 ⟨hi.1, by omega⟩ n6 za zT (by decide) (by decide) hc) (fun Q => ?_)
    rw [ex_val (by omega), md_openFull kd kw (by omega)]; exact ex_n rfl
theorem ksw_40 {T : Int} (hT : 3 ≤ T ∧ T ≤ 16) : (ksw T = 40 ↔ T = 4) ∧ (ksw T = 17 ↔ T = 7) ∧ (ksw T = 41 ↔ T = 5) ∧ (ksw T = 59 ↔ T = 3) ∧ ((10 ≤ ksw T ∧ ksw T ≤ 20) ↔ 6 ≤ T) := by
  have e : T = 3 ∨ T = 4 ∨ T = 5 ∨ T = 6 ∨ T = 7 ∨ T = 8 ∨ T = 9 ∨ T = 10 ∨ T = 11 ∨ T = 12 ∨ T = 13 ∨ T = 14 ∨ T = 15 ∨ T = 16 := by omega
  rcases e with rfl | rfl | rfl | rfl | rfl | rfl | rfl | rfl | rfl | rfl | rfl | rfl | rfl | rfl <;> decide
theorem kww_b {T : Int} (hT : 20 ≤ T ∧ T ≤ 46) : (T < 28 → kww T < 8) ∧ (kww T = 6 ↔ T = 26) ∧ (kww T = 7 ↔ T = 27) ∧ ((kww T = 4 ∨ kww T = 5) ↔ (T = 24 ∨ T = 25)) ∧ 0 ≤ kww T ∧ (T ≠ 24 → T ≠ 25 → kww T = T - 20) := by
  unfold kww
  split
  · omega
  · split <;> omega
/-- no value begins here; or the text is at its end -/
theorem st_opno (hP : kPq q P) (S : kS1 X Y P ln N a0 B n z0 p k h e o hb t) (hi : 0 ≤ i ∧ i ≤ p) (hT : kcT B n (ksk B n 600 p) = T) (hn : T < 28 ∧ T ≠ 2 ∧ T ≠ 4 ∧ T ≠ 7 ∧ (T ≠ 26 ∨ X 37 6 = 0)) : kEnd q qY c s P ln a0 z0 B n u N i X Y (fun Q => km_G M_X12_expression 35 [some (.inr (.inr 123)), some (.inl ln), ov] [] (km_A0 qY c s) Y Q) := by
  obtain ⟨C, ⟨s4, s6, s47, s46⟩, cx⟩ := S
  obtain ⟨tk, ⟨x2, x9, x10, x13, xe, x8, x5, xn⟩, -, -, -⟩ := C
  have hPo := hP.1
  obtain ⟨Z, zf, z5, zT, z3, -, za⟩ := @kTk_adv q c s X Y B n p tk
  obtain ⟨⟨t1, t2, t3, t4, t5⟩, tx, t26, t29, tt⟩ := tk
  have Tb := kcT_b (B := B) (n := n) (k := ksk B n 600 p)
  rw [hT] at zT tt Tb
  have n6 := tx.2.1.2
  have fz : kFX P a0 X Z := kFX_Z hPo zf
  have hx : ∀ Q, km_E M_X12_valueRead [.inr (.inr 123), .inl ln] (km_A0 qY c s) Y Q ↔ Q (some (.inl 0)) (km_A0 qY c s) (kWr 1 Y) := fun Q => by
    by_cases a0 : T = 0
    · have := ktk_0 (by rw [← a0]; exact tt)
      exact md_opno (by omega) (by omega) (by omega)
    by_cases a1 : T = 1
    · have := ktk_1 (by rw [← a1]; exact tt)
      exact md_opno (by omega) (by omega) (by omega)
    by_cases a3 : T ≤ 16
    · obtain ⟨k1, k2⟩ := ktk_s (by omega) tt
      obtain ⟨e1, e2, -⟩ := @ksw_40 T (by omega)
      rw [← k2] at e1 e2
      exact md_opno (by omega) (by omega) (fun _ => ⟨fun w => hn.2.2.1 (e1.mp w), fun w => hn.2.2.2.1 (e2.mp w)⟩)
    · obtain ⟨k1, k2⟩ := ktk_w (by omega) tt
      obtain ⟨e1, e2, -⟩ := @kww_b T (by omega)
      rw [← k2] at e1 e2
      refine md_opno (by omega) (fun _ => ⟨e1 hn.1, ?_⟩) (by omega)
      rcases hn.2.2.2.2 with w | w
      · exact Or.inl (fun v => w (e2.mp v))
      · exact Or.inr (by rw [← s6]; exact w)
  by_cases a0 : T = 0
  · refine kEnd_flt hPo (f := 1) (W := Z) (by decide) fz z5 kFY_rf t29 (fun Q => ps_stop x2 ⟨hi.1, by omega⟩ n6 za (zT.trans a0) ((zf _ _ (by omega)).trans x2) (by rw [zf _ _ (by omega), s4]; decide)) (fun Q => ?_)
    rw [ex_val (by omega), hx]; exact ex_n rfl
  · have hc := fun Q => @cl_opno q c s Z Q T (by rw [zf 37 4 (by omega)]; exact s4) (by rw [zf 37 6 (by omega)]; exact hn)
    refine kEnd_flt hPo (f := 1) (by decide) fz z5 kFY_rf t29 (ps_tf x2 ⟨hi.1, by omega⟩ n6 za zT a0 (by decide) hc) (fun Q => ?_)
    rw [ex_val (by omega), hx]; exact ex_n rfl
end P10

