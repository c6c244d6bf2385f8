/-! ===== the tokens where a value is wanted ===== -/
section P9
variable {q qY : Nat × Int × Int × Int × Int} {c s : Nat} {X Y : km_Mm} {P ln a0 n z0 p h e o hb t i u T : Int} {B : Int → Int} {N : Int → Prop} {k : Nat} {ov : Option km_V}
theorem st_ahead {kd x w6 : Int} {V : km_Mm} (hP : kPq q P) (ih : kI1 q qY c s P ln a0 z0 B n u (n - p)) (S : kS1 X Y P ln N a0 B n z0 p k h e o hb t) (hi : 0 ≤ i ∧ i ≤ p) (hT : kcT B n (ksk B n 600 p) = T) (T0 : T ≠ 0) (hk : (kd = 6 ∧ x = 26 ∧ w6 = 1 ∧ Y 123 47 = 1) ∨ (kd = 7 ∧ x = 50 ∧ w6 = 0))
    (hc : ∀ Z : km_Mm, (∀ b j : Int, b ≠ 3 → Z b j = X b j) → 0 ≤ Z P 8 ∧ Z P 8 ≤ 120 → 0 ≤ Z 37 9 ∧ (Z P 8 < 120 → Z 37 9 < 128) → ∀ Q : Option km_V → km_Al → km_Mm → Prop, km_E M_X7_takeToken [.inr (.inr 37), .inl T] (km_A0 q c s) Z Q ↔ Q none (km_A0 q c s) (if Z P 8 < 120 then kXo w6 (kKw x (-1) (kTi P Z)) else kFa 2 Z))
    (vf : ∀ b j : Int, ¬ (b = 123 ∧ j = 47) → V b j = kWf kd (120 + Y 123 36) (kGr kd 0 Y) b j) (v47 : V 123 47 = w6)
    (hx : 0 ≤ Y 123 36 ∧ Y 123 36 < 120 → 0 ≤ Y 123 39 ∧ Y 123 39 < 300 → ∀ M' : km_Mm, (∀ Q : Option km_V → km_Al → km_Mm → Prop, km_E M_X12_take [.inr (.inr 123)] (km_A0 qY c s) V Q ↔ Q none (km_A0 qY c s) M') → ∀ Q : Option km_V → km_Al → km_Mm → Prop, km_E M_X12_valueRead [.inr (.inr 123), .inl ln] (km_A0 qY c s) Y Q ↔ Q (some (.inl 1)) (km_A0 qY c s) M') (hxf : Y 123 36 = 120 → ∀ Q : Option km_V → km_Al → km_Mm → Prop, km_E M_X12_valueRead [.inr (.inr 123), .inl ln] (km_A0 qY c s) Y Q ↔ Q (some (.inl 0)) (km_A0 qY c s) (kWr 2 Y)) :
    kEnd q qY c s P ln a0 z0 B n u N i X Y (fun Q => km_G M_X12_expression 35 [some (.inr (.inr 123)), some (.inl ln), ov] [] (km_A0 qY c s) Y Q) := by
  obtain ⟨C, ⟨s4, s6, s47, s46⟩, cx⟩ := S
  obtain ⟨tk, ⟨x2, x9, x10, x13, xe, x8, x5, xn⟩, ⟨y39, y41, y43, y44, y45, y36⟩, ⟨b1, b2, b3, b4, b5, b6, b7⟩, wn⟩ := (show kCo X Y P ln N a0 B n z0 p k h e o hb t from C)
  have hPo := hP.1
  have pp := kTk_p tk (by omega)
  obtain ⟨Z, zf, z5, zT, z3, -, za⟩ := @kTk_adv q c s X Y B n p tk
  obtain ⟨⟨t1, t2, t3, t4, t5⟩, tx, t26, t29, tt⟩ := tk
  rw [hT] at zT
  have n6 := tx.2.1.2
  have fz : kFX P a0 X Z := kFX_Z hPo zf
  have zP : ∀ j, Z P j = X P j := fun j => zf P j (by omega)
  have bx := kcx_b _ _ _ _ _ _ cx
  have hc := hc Z (fun b j hb => zf b j (by omega)) (by rw [zP, x8]; omega) (by rw [zf 37 9 (by omega), x9, zP, x8]; omega)
  rw [zP, x8] at hc
  have nN : ¬ N (120 + Y 123 36) := fun w => by have := wn.1 _ w; omega
  by_cases full : z0 + t < 120
  · rw [if_pos full] at hc
    have hx := hx (by omega) (by omega)
    obtain ⟨u1, u2, u3, u4, u5, -⟩ := @kK_f w6 x (-1) (kTi P Z)
    have t9 : kTi P Z 37 9 = k := by rw [kTi_o (by omega), zf 37 9 (by omega), x9]
    rw [t9] at u1 u4 u5
    have fw : kFX P a0 X (kXo w6 (kKw x (-1) (kTi P Z))) := kFX_tr fz (kFX_tr (kFX_kTi hPo) (kFX_tr (kFX_kKw hPo) (kFX_kXo hPo)))
    generalize kXo w6 (kKw x (-1) (kTi P Z)) = W at *
    obtain ⟨v1, v2, v3, v4, v5, v6⟩ := @kVw_f kd (120 + Y 123 36) Y rfl
    have fv : kFY N Y V := kFY_tr (fun _ h => h) (kFY_tr (fun _ h => h) (kFY_kGr (x := kd) (y := 0) (by omega) nN) (kFY_kWf (x := kd) (y := 120 + Y 123 36))) ⟨fun b j a _ _ => vf b j (by omega), fun r j a b _ => vf r j (by omega), fun x _ r a b => vf r x (by omega), fun r x _ _ hr => by rw [vf r x (by omega)]; exact hr⟩
    rw [← vf _ _ (by omega)] at v2 v3 v4 v5 v6
    have v1' : ∀ b j : Int, ¬ (b = 123 ∧ (j = 36 ∨ j = 39 ∨ j = 47)) → ¬ ((138 ≤ b ∧ b ≤ 141) ∧ j = 120 + Y 123 36) → ¬ ((b = 143 ∨ b = 144) ∧ j = Y 123 39) → V b j = Y b j := fun b j c1 c2 c3 => by rw [vf b j (by omega)]; exact v1 b j (by omega) c2 c3
    have tv : kTx V B n := kTx_fr tx (v1' _ _ (by omega) (by omega) (by omega)) (fun i => v1' _ _ (by omega) (by omega) (by omega)) (fun i => v1' _ _ (by omega) (by omega) (by omega))
    obtain ⟨M, m1, m2, m3⟩ := @kTk_take qY c s V B n _ tv ⟨by omega, pp.2⟩ ((v1' _ _ (by omega) (by omega) (by omega)).trans t26)
    have wf : ∀ b j : Int, ¬ (b = P ∧ j = 8) → ¬ (b = 37 ∧ (j = 4 ∨ j = 6 ∨ j = 9 ∨ j = 10 ∨ j = 13)) → ¬ ((b = 38 ∨ b = 39) ∧ j = k) → ¬ (b = 3 ∧ 3 ≤ j ∧ j ≤ 6) → W b j = X b j := fun b j c1 c2 c3 c4 => by rw [u1 b j (by omega) c3, kTi_o c1, zf b j c4]
    have mf : ∀ b j : Int, ¬ (b = 123 ∧ (j = 36 ∨ j = 39 ∨ (43 ≤ j ∧ j ≤ 47) ∨ (26 ≤ j ∧ j ≤ 29))) → ¬ ((138 ≤ b ∧ b ≤ 141) ∧ j = 120 + (z0 + t)) → ¬ ((b = 143 ∨ b = 144) ∧ j = k) → ¬ (b = 146 ∧ j = o) → M b j = Y b j := fun b j c1 c2 c3 c4 => by rw [m1 b j (by omega), v1' b j (by omega) (by omega) (by omega)]
    obtain ⟨cx1, kc1⟩ := cx_push (e := e) hPo wn wf mf cx
    have mk : M 143 k = kd := by rw [m1 _ _ (by omega), ← y39, v5]
    have mw : M 144 k = 120 + (z0 + t) := by rw [m1 _ _ (by omega), ← y39, v6, y36]
    refine kEnd_step (N1 := N) (i1 := i + 1) (fun x hx => hx) fw (kFY_tr (fun _ h => h) fv (kFY_M m1)) (fun Q => ps_tok x2 ⟨hi.1, by omega⟩ n6 za zT T0 hc) (G1 := fun Q => km_G M_X12_expression 35 [some (.inr (.inr 123)), some (.inl ln), some (.inl 1)] [] (km_A0 qY c s) M Q) (fun Q => ?_) (ih W M N (kcN B n (ksk B n 600 p)) (k + 1) h e o hb (t + 1) (i + 1) _ (by omega) ?_ (by omega) (by omega))
    · rw [ex_val (by omega), hx M m3]; exact ex_y rfl
    · have m45 : M 123 45 = khc (Y 143) k := by rw [m1 _ _ (by omega), v1' _ _ (by omega) (by omega) (by omega)]; exact y45
      refine st_push (w6 := w6) hPo C (t1 := t + 1) (by omega) (by omega) b5 wf ?_ u2 u3 u4 ?_ ?_ ?_ mf ?_ ?_ ?_ ?_ m45 ?_ ?_ ?_ ?_ m2 (Or.inr ⟨by omega, by omega, by rw [mw, ← y36]; exact nN, fun j j0 j1 hj => ?_⟩) (Or.inl ⟨?_, ?_, by rw [show t + 1 - 1 = t by omega]; exact cx1⟩)
      · rw [u1 3 3 (by omega) (by omega), kTi_o (by omega)]; exact z3
      · rw [u1 37 10 (by omega) (by omega), kTi_o (by omega), zf _ _ (by omega)]; exact x10
      · rw [u1 37 13 (by omega) (by omega), kTi_o (by omega), zf _ _ (by omega)]; exact x13
      · rw [u1 P 8 (by omega) (by omega), kTi_8, zP, x8]; omega
      · rw [m1 _ _ (by omega), v2, y36]; omega
      · rw [m1 _ _ (by omega), v3, y39]
      · rw [m1 _ _ (by omega), v1' _ _ (by omega) (by omega) (by omega)]; exact y43
      · rw [m1 _ _ (by omega), v1' _ _ (by omega) (by omega) (by omega)]; exact y44
      · rw [m1 _ _ (by omega), v1' _ _ (by omega) (by omega) (by omega)]; exact s46
      · rw [m1 _ _ (by omega)]; exact v47
      · have kc : khc (M 143) (k + 1) = if M 143 k = 7 ∨ (16 ≤ M 143 k ∧ M 143 k ≤ 20) then khc (M 143) k else if 10 ≤ M 143 k ∧ M 143 k ≤ 15 then 1 else 0 := rfl
        rw [kc, mk, kc1]
        clear kc
        rcases hk with ⟨r1, r2, r3, r4⟩ | ⟨r1, r2, r3⟩
        · rw [r1, if_neg (by omega), if_neg (by omega)]; rcases s47 with w | w <;> omega
        · rw [r1, if_pos (by omega)]
      · rcases hk with ⟨r1, r2, r3, r4⟩ | ⟨r1, r2, r3⟩
        · right; refine ⟨r3, ?_⟩; rcases s47 with w | w <;> omega
        · exact Or.inl r3
      · rcases wn.2.1 j j0 j1 with w | w <;> omega
      · rw [mk, u5]; omega
      · rw [mk, mw, m1 _ _ (by omega), ← y36]; exact v4
  · rw [if_neg full] at hc
    refine kEnd_flt hPo (f := 2) (by decide) fz z5 kFY_rf t29 (ps_tf x2 ⟨hi.1, by omega⟩ n6 za zT T0 (by decide) hc) (fun Q => ?_)
    rw [ex_val (by omega), hxf (by omega)]; exact ex_n rfl
end P9

