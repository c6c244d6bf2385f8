theorem ks_or15 {x y : Int} (hx : 0 ≤ x ∧ x < 32768) (hy : 0 ≤ y ∧ y < 32768) : 0 ≤ km_or x y ∧ km_or x y < 32768 := by
  rw [ks_or hx.1 (by omega) hy.1 (by omega)]
  have : x.toNat ||| y.toNat < 2 ^ 15 := Nat.or_lt_two_pow (by omega) (by omega)
  omega
theorem ks_sh15 : ∀ v : Fin 15, 0 ≤ km_shl 1 (v.val : Int) ∧ km_shl 1 (v.val : Int) < 32768 := by decide +kernel
theorem st_name {q qY : Nat × Int × Int × Int × Int} {c s : Nat} {X Y : km_Mm} {P ln a0 n z0 p h e o hb t i u T : Int} {B : Int → Int} {N : Int → Prop} {k : Nat} {ov : Option km_V} (hP : kPq q P) (ih : kI2 q qY c s P ln a0 z0 B n u (n - p)) (S : kS1 X Y P ln N a0 B n z0 p k h e o hb t) (hi : 0 ≤ i ∧ i ≤ p) (hT : kcT B n (ksk B n 600 p) = T) (hT2 : 32 ≤ T ∧ T ≤ 46) : kEnd q qY c s P ln a0 z0 B n u N i X Y (fun Q => km_G M_X12_expression 35 [some (.inr (.inr 123)), some (.inl ln), ov] [] (km_A0 qY c s) Y Q) := by
  obtain ⟨⟨tk, ⟨x2, x9, x10, x13, xe, x8, x5, xn⟩, ⟨y39, y41, y43, y44, y45, y36⟩, ⟨b1, b2, b3, b4, b5, b6, b7⟩, wn⟩, ⟨s4, s6, s47, s46⟩, cx⟩ := (show kS1 X Y P ln N a0 B n z0 p k h e o hb t from S)
  have hPo := hP.1
  have pp := kTk_p tk (by omega)
  obtain ⟨Z, zf, z5, zT, z3, -, za⟩ := @kTk_adv q c s X Y B n p tk
  obtain ⟨⟨t1, t2, t3, t4, t5⟩, tx, t26, t29, tt⟩ := tk
  rw [hT] at tt zT
  obtain ⟨kd, kw⟩ := ktk_w (by omega) tt
  have kw : Y 123 28 = T - 20 := by rw [kw]; unfold kww; rw [if_neg (by omega), if_neg (by omega)]
  have n6 := tx.2.1.2
  have fz : kFX P a0 X Z := kFX_Z hPo zf
  have zP : ∀ j, Z P j = X P j := fun j => zf P j (by omega)
  have bx := kcx_b _ _ _ _ _ _ cx
  have hc := fun Q => @cl_name q c s Z P Q T hP (by rw [zf 37 4 (by omega)]; exact s4) hT2 (by rw [zP, x8]; omega) (by rw [zP, xe]; omega)
  rw [zP, x8, zf 37 5 (by omega), zf 37 13 (by omega), x5, x13, zP] at hc
  have ok := @knh_kok (ln + 20) hb (T - 20) (by omega) (by omega) (by omega)
  rw [show T - 20 - 12 = T - 32 by omega, show ln + 20 - 20 = ln by omega, ← y44, ← kw] at ok
  have hin : Y 123 44 = 0 ∨ Y 123 44 = 1 := by rw [y44]; unfold kinH; split <;> omega
  have T0 : T ≠ 0 := by omega
  by_cases full : z0 + t < 120
  · rw [if_pos full] at hc
    by_cases bad : km_and (knh (ln + 20) hb) (km_shl 1 (T - 32)) = 0
    · rw [if_pos bad] at hc
      have nk := ok.mp bad
      have nN : ¬ N (120 + Y 123 36) := fun w => by have := wn.1 _ w; omega
      refine kEnd_flt hPo (f := 4) (W := kTi P Z) (V := kGr 1 (Y 123 28) Y) (by decide) (kFX_tr fz (kFX_kTi hPo)) (by rw [kTi_o (by omega)]; exact z5) (kFY_kGr (by omega) nN) ((kGr_x (by decide)).trans t29) (ps_tf x2 ⟨hi.1, by omega⟩ n6 za zT T0 (by decide) hc) (fun Q => ?_)
      rw [ex_val (by omega), md_nameNo kd (by omega) ⟨b6, b7⟩ (by omega) hin nk]; exact ex_n rfl
    · rw [if_neg bad] at hc
      have yk : kok ln (Y 123 28) (Y 123 44) := Classical.byContradiction fun w => bad (ok.mpr w)
      have hs := ks_sh15 ⟨(T - 32).toNat, by omega⟩
      simp only [show (((T - 32).toNat : Nat) : Int) = T - 32 by omega] at hs
      have orb := ks_or15 ⟨xn.1, xn.2⟩ hs
      have tbo := fun k => @tb_or (X P 9) (km_shl 1 (T - 32)) k xn.1 (by omega) hs.1 (by omega)
      have t1' : tb (km_shl 1 (T - 32)) (T - 32) = true := by rw [tb_one (by omega) (by omega) (by omega)]; simp
      have u9 : km_up (kTi P Z) P 9 (km_or (X P 9) (km_shl 1 (T - 32))) P 9 = km_or (X P 9) (km_shl 1 (T - 32)) := km_upx_s
      have fu : kFX P a0 (kTi P Z) (km_up (kTi P Z) P 9 (km_or (X P 9) (km_shl 1 (T - 32)))) := kFX_9 hPo (fun k _ hk => by
        rw [kTi_o (by omega), zP] at hk
        rw [tbo, hk]; rfl)
      have uo : ∀ b j : Int, ¬ (b = P ∧ j = 9) → km_up (kTi P Z) P 9 (km_or (X P 9) (km_shl 1 (T - 32))) b j = kTi P Z b j := fun b j w => km_up_ne w
      generalize hO : km_or (X P 9) (km_shl 1 (T - 32)) = O at *
      generalize km_up (kTi P Z) P 9 O = U at *
      obtain ⟨u1, u2, u3, u4, u5, u6⟩ := @kW_f P 52 T U hPo
      have tp4 : U P 4 = e := by rw [uo _ _ (by omega), kTi_o (by omega), zP, xe]
      rw [tp4] at u3 u4 u5 u6
      obtain ⟨v1, v2, v3, v4, v5, v6, v7⟩ := @kV_f 1 (Y 123 28) (120 + Y 123 36) Y rfl
      have fw : kFX P a0 X (km_up (kEm P 52 T U) 37 4 2) := kFX_tr fz (kFX_tr (kFX_kTi hPo) (kFX_tr fu (kFX_tr (kFX_kEm hPo (by rw [tp4]; omega)) (kFX_37 hPo (by omega)))))
      have fv : kFY N Y (km_up (kHo (120 + Y 123 36) (kGr 1 (Y 123 28) Y)) 123 46 0) := kFY_tr (fun _ h => h) (kFY_tr (fun _ h => h) (kFY_kGr (by omega) (fun w => by have := wn.1 _ w; omega)) kFY_kHo) (kFY_123 (by omega))
      generalize km_up (kEm P 52 T U) 37 4 2 = W at *
      have hx := fun M' ht Q => @md_name qY c s Y Q ln M' kd (by omega) ⟨b6, b7⟩ (by omega) (by omega) hin yk ht
      generalize km_up (kHo (120 + Y 123 36) (kGr 1 (Y 123 28) Y)) 123 46 0 = V at *
      have tv : kTx V B n := kTx_fr tx (v1 _ _ (by omega) (by omega) (by omega)) (fun i => v1 _ _ (by omega) (by omega) (by omega)) (fun i => v1 _ _ (by omega) (by omega) (by omega))
      obtain ⟨M, m1, m2, m3⟩ := @kTk_take qY c s V B n _ tv ⟨by omega, pp.2⟩ ((v1 _ _ (by omega) (by omega) (by omega)).trans t26)
      have w9 : W P 9 = O := by rw [u1 P 9 (by omega) (by omega) (by omega)]; exact u9
      refine kEnd_step (N1 := fun x => N x ∨ x = 120 + (z0 + t)) (i1 := i + 1) (fun x hx => Or.inl hx) fw (kFY_tr (fun _ h => h) fv (kFY_M m1)) (fun Q => ps_tok x2 ⟨hi.1, by omega⟩ n6 za zT T0 hc) (G1 := fun Q => km_G M_X12_expression 35 [some (.inr (.inr 123)), some (.inl ln), some (.inl 1)] [] (km_A0 qY c s) M Q) (fun Q => ?_) (ih W M (fun x => N x ∨ x = 120 + (z0 + t)) (kcN B n (ksk B n 600 p)) k (h + 1) (e + 1) o hb (t + 1) (i + 1) _ (by omega) ?_ (by omega) (by omega))
      · rw [ex_val (by omega), hx M m3]; exact ex_y rfl
      · refine st_leaf hPo S full rfl (fun b j c1 c2 c3 c4 => ?_) ?_ u2 u3 ?_ (fun k _ hk => ?_) (by rw [w9]; exact orb) (fun r j r1 r2 hj => ?_) (fun b j c1 c2 c3 => ?_) ?_ ?_ ?_ ?_ m2 ⟨Or.inr rfl, Or.inr (Or.inl ⟨?_, rfl, rfl, u5, ?_, ?_, ?_⟩)⟩
        · rw [u1 b j (by omega) c2 c3, uo _ _ (by omega), kTi_o (by omega), zf b j c4]
        · rw [u1 3 3 (by omega) (by omega) (by omega), uo _ _ (by omega), kTi_o (by omega)]; exact z3
        · rw [u1 P 8 (by omega) (by omega) (by omega), uo _ _ (by omega), kTi_8, zP, x8]
        · rw [w9, tbo, hk]; rfl
        · rw [u4 r j r1 r2 hj, uo _ _ (by omega), kTi_o (by omega), zf _ j (by omega)]
        · rw [m1 b j (by omega), v1 b j (by omega) (by omega) (by omega)]
        · rw [m1 _ _ (by omega), v2, y36]
        · rw [m1 _ _ (by omega), v3, y41]
        · rw [m1 _ _ (by omega), v4]
        · rw [m1 _ _ (by omega), ← y41, v7, y36]
        · rw [m1 _ _ (by omega), ← y36, v5]
        · rw [u6, m1 _ _ (by omega), ← y36, v6, kw]; omega
        · rw [m1 _ _ (by omega), ← y36, v6, ← y44]; exact yk
        · rw [m1 _ _ (by omega), ← y36, v6, kw, w9, show T - 20 - 12 = T - 32 by omega, tbo, t1']; exact Bool.or_true _
  · rw [if_neg full] at hc
    refine kEnd_flt hPo (f := 2) (by decide) fz z5 kFY_rf t29 (ps_tf x2 ⟨hi.1, by omega⟩ n6 za zT T0 (by decide) hc) (fun Q => ?_)
    rw [ex_val (by omega), md_nameFull kd (by omega) (by omega)]; exact ex_n rfl

