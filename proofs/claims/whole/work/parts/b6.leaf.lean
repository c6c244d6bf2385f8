/-! ===== a number, a name ===== -/
def kI1 (q qY : Nat × Int × Int × Int × Int) (c s : Nat) (P ln a0 z0 : Int) (B : Int → Int) (n u m : Int) : Prop := ∀ (X Y : km_Mm) (N : Int → Prop) (p : Int) (k : Nat) (h e o hb t i : Int) (ov : Option km_V), n - p < m → kS1 X Y P ln N a0 B n z0 p k h e o hb t → 0 ≤ i → i ≤ p → kEnd q qY c s P ln a0 z0 B n u N i X Y (fun Q => km_G M_X12_expression 35 [some (.inr (.inr 123)), some (.inl ln), ov] [] (km_A0 qY c s) Y Q)
def kI2 (q qY : Nat × Int × Int × Int × Int) (c s : Nat) (P ln a0 z0 : Int) (B : Int → Int) (n u m : Int) : Prop := ∀ (X Y : km_Mm) (N : Int → Prop) (p : Int) (k : Nat) (h e o hb t i : Int) (ov : Option km_V), n - p < m → kS2 X Y P ln N a0 B n z0 p k h e o hb t → 0 ≤ i → i ≤ p → kEnd q qY c s P ln a0 z0 B n u N i X Y (fun Q => km_G M_X12_expression 35 [some (.inr (.inr 123)), some (.inl ln), ov] [] (km_A0 qY c s) Y Q)
def kG3 (q : Nat × Int × Int × Int × Int) (c s : Nat) (ln x w : Int) (Y : km_Mm) (Q : Option km_V → km_Al → km_Mm → Prop) : Prop := km_G M_X12_valueRead 222 [some (.inr (.inr 123)), some (.inl ln), some (.inl x), some (.inl w)] [] (km_A0 q c s) Y (fun v A m => km_G M_X12_expression 49 [some (.inr (.inr 123)), some (.inl ln), some (.inl 1)] (v.toList ++ []) A m Q)
def kI3 (q qY : Nat × Int × Int × Int × Int) (c s : Nat) (P ln a0 z0 : Int) (B : Int → Int) (n u m : Int) : Prop := ∀ (X Y : km_Mm) (N : Int → Prop) (p : Int) (k : Nat) (h e o t x w i : Int), n - p < m → kS3 X Y P ln N a0 B n z0 p k h e o t x w → 0 ≤ i → i ≤ p → kEnd q qY c s P ln a0 z0 B n u N i X Y (kG3 qY c s ln x w Y)
theorem ps_tf {q : Nat × Int × Int × Int × Int} {c s : Nat} {X Z W : km_Mm} {n i T f : Int} {u : Int} (h2 : X 37 2 = 0) (hi : 0 ≤ i ∧ i ≤ n) (hn : n ≤ 600) (ha : ∀ Q : Option km_V → km_Al → km_Mm → Prop, km_E M_X10_advance [.inr (.inr 3)] (km_A0 q c s) X Q ↔ Q none (km_A0 q c s) Z) (hT : Z 3 4 = T) (hT0 : T ≠ 0) (hf : f ≠ 0) (hk : ∀ Q : Option km_V → km_Al → km_Mm → Prop, km_E M_X7_takeToken [.inr (.inr 37), .inl T] (km_A0 q c s) Z Q ↔ Q none (km_A0 q c s) (kFa f W)) (Q : Option km_V → km_Al → km_Mm → Prop) : km_G M_X7_parse 52 [some (.inr (.inr 37)), some (.inl n), some (.inr (.inr u)), some (.inl i)] [] (km_A0 q c s) X Q ↔ Q none (km_A0 q c s) (kFa f W) := by
  rw [ps_tok h2 hi hn ha hT hT0 hk, ps_flt (by unfold kFa; rw [km_upx_i (by decide), km_upx_s]; exact hf) (by omega)]
/-- what a value's step writes -/
theorem kW_f {P x y : Int} {U : km_Mm} (hP : P = 40 ∨ P = 46) : (∀ b j : Int, ¬ (b = P ∧ j = 4) → ¬ (P + 1 ≤ b ∧ b ≤ P + 4) → ¬ (b = 37 ∧ j = 4) → km_up (kEm P x y U) 37 4 2 b j = U b j) ∧ km_up (kEm P x y U) 37 4 2 37 4 = 2 ∧ km_up (kEm P x y U) 37 4 2 P 4 = U P 4 + 1 ∧ (∀ r j : Int, 1 ≤ r → r ≤ 4 → j ≠ U P 4 → km_up (kEm P x y U) 37 4 2 (P + r) j = U (P + r) j) ∧ km_up (kEm P x y U) 37 4 2 (P + 1) (U P 4) = x ∧ km_up (kEm P x y U) 37 4 2 (P + 2) (U P 4) = y := by
  refine ⟨fun b j h1 h2 h3 => ?_, km_upx_s, ?_, fun r j r1 r2 hj => ?_, ?_, ?_⟩
  · rw [km_up_ne h3]
    by_cases z : b = P
    · rw [z, kEm_P, if_neg (by omega)]
    · exact kEm_o z (by omega) (by omega) (by omega) (by omega)
  · rw [km_up_ne (by omega), kEm_P, if_pos rfl]
  · rw [km_up_ne (by omega)]
    obtain ⟨v1, v2, v3, v4, -⟩ := @kEm_r P x y j U
    have rr : r = 1 ∨ r = 2 ∨ r = 3 ∨ r = 4 := by omega
    rcases rr with rfl | rfl | rfl | rfl
    · rw [v1, if_neg hj]
    · rw [v2, if_neg hj]
    · rw [v3, if_neg hj]
    · rw [v4, if_neg hj]
  · rw [km_up_ne (by omega), (@kEm_r P x y (U P 4) U).1, if_pos rfl]
  · rw [km_up_ne (by omega), (@kEm_r P x y (U P 4) U).2.1, if_pos rfl]
theorem kV_f {kd v w : Int} {Y : km_Mm} (hw : w = 120 + Y 123 36) : (∀ b j : Int, ¬ (b = 123 ∧ (j = 36 ∨ j = 41 ∨ j = 46)) → ¬ ((138 ≤ b ∧ b ≤ 141) ∧ j = w) → ¬ (b = 145 ∧ j = Y 123 41) → km_up (kHo w (kGr kd v Y)) 123 46 0 b j = Y b j) ∧ km_up (kHo w (kGr kd v Y)) 123 46 0 123 36 = Y 123 36 + 1 ∧ km_up (kHo w (kGr kd v Y)) 123 46 0 123 41 = Y 123 41 + 1 ∧ km_up (kHo w (kGr kd v Y)) 123 46 0 123 46 = 0 ∧ km_up (kHo w (kGr kd v Y)) 123 46 0 138 w = kd ∧ km_up (kHo w (kGr kd v Y)) 123 46 0 141 w = v ∧ km_up (kHo w (kGr kd v Y)) 123 46 0 145 (Y 123 41) = w := by
  have e41 : kGr kd v Y 123 41 = Y 123 41 := kGr_x (by decide)
  unfold kHo
  rw [e41]
  unfold kGr
  rw [← hw]
  refine ⟨fun b j h1 h2 h3 => ?_, ?_, ?_, km_upx_s, ?_, ?_, ?_⟩
  · rw [km_up_ne (by omega), km_up_ne (by omega), km_up_ne (by omega), km_up_ne (by omega), km_up_ne (by omega), km_up_ne (by omega), km_up_ne (by omega), km_up_ne (by omega)]
  · rw [km_upx_i (by decide), km_upx_i (by decide), km_up_o (by decide), km_up_o (by decide), km_up_o (by decide), km_up_o (by decide), km_up_o (by decide), km_upx_s]
  · rw [km_upx_i (by decide), km_upx_s]
  · rw [km_up_o (by decide), km_up_o (by decide), km_up_o (by decide), km_up_o (by decide), km_up_o (by decide), km_up_o (by decide), km_upx_s]
  · rw [km_up_o (by decide), km_up_o (by decide), km_up_o (by decide), km_upx_s]
  · rw [km_up_o (by decide), km_up_o (by decide), km_upx_s]
/-- the state behind a value read -/
theorem st_leaf {X Y W M : km_Mm} {P ln a0 n z0 p p1 h e o hb t w : Int} {B : Int → Int} {N : Int → Prop} {k : Nat} (hP : P = 40 ∨ P = 46) (S : kS1 X Y P ln N a0 B n z0 p k h e o hb t) (ht : z0 + t < 120) (hw : w = 120 + (z0 + t))
    (wf : ∀ b j : Int, ¬ (b = P ∧ (j = 4 ∨ j = 8 ∨ j = 9)) → ¬ (P + 1 ≤ b ∧ b ≤ P + 4) → ¬ (b = 37 ∧ j = 4) → ¬ (b = 3 ∧ 3 ≤ j ∧ j ≤ 6) → W b j = X b j) (w33 : W 3 3 = p1) (w4 : W 37 4 = 2) (wP4 : W P 4 = e + 1) (wP8 : W P 8 = z0 + t + 1) (w9 : ∀ k : Int, 0 ≤ k → tb (X P 9) k = true → tb (W P 9) k = true) (wn9 : 0 ≤ W P 9 ∧ W P 9 < 32768) (wr : ∀ r j : Int, 1 ≤ r → r ≤ 4 → j ≠ e → W (P + r) j = X (P + r) j)
    (mf : ∀ b j : Int, ¬ (b = 123 ∧ (j = 36 ∨ j = 41 ∨ j = 46 ∨ (26 ≤ j ∧ j ≤ 29))) → ¬ ((138 ≤ b ∧ b ≤ 141) ∧ j = w) → ¬ (b = 145 ∧ j = h) → M b j = Y b j) (m36 : M 123 36 = z0 + t + 1) (m41 : M 123 41 = h + 1) (m46 : M 123 46 = 0) (m145 : M 145 h = w) (mtk : ∀ X' : km_Mm, X' 3 2 = n → X' 3 3 = p1 → X' 4 = B → kTk X' M B n p1)
    (cd : kcd W M P ln (fun x => N x ∨ x = w) 1 (kinH hb) w e (e + 1) 1) : kS2 W M P ln (fun x => N x ∨ x = w) a0 B n z0 p1 k (h + 1) (e + 1) o hb (t + 1) := by
  obtain ⟨⟨tk, ⟨x2, x9, x10, x13, xe, x8, x5, xn⟩, ⟨y39, y41, y43, y44, y45, y36⟩, ⟨b1, b2, b3, b4, b5, b6, b7⟩, wn⟩, ⟨s4, s6, s47, s46⟩, cx⟩ := S
  obtain ⟨⟨t1, t2, t3, t4, t5⟩, -⟩ := tk
  have bx := kcx_b _ _ _ _ _ _ cx
  have e143 : M 143 = Y 143 := funext fun j => mf 143 j (by omega) (by omega) (by omega)
  have hYw : ∀ j : Int, 0 ≤ j → j < k → M 143 j = Y 143 j ∧ M 144 j = Y 144 j := fun j _ _ => ⟨mf 143 j (by omega) (by omega) (by omega), mf 144 j (by omega) (by omega) (by omega)⟩
  refine ⟨⟨mtk W ((wf 3 2 (by omega) (by omega) (by omega) (by omega)).trans t1) w33 (by rw [← t3]; exact funext fun j => wf 4 j (by omega) (by omega) (by omega) (by omega)), ⟨?_, ?_, ?_, ?_, wP4, by omega, ?_, wn9⟩, ⟨?_, m41, ?_, ?_, ?_, by omega⟩, ⟨b1, b2, b3, by omega, b5, b6, b7⟩, ?_⟩, ⟨w4, m46⟩, by omega, e, 1, 1, ?_, ?_⟩
  · rw [wf 37 2 (by omega) (by omega) (by omega) (by omega)]; exact x2
  · rw [wf 37 9 (by omega) (by omega) (by omega) (by omega)]; exact x9
  · rw [wf 37 10 (by omega) (by omega) (by omega) (by omega)]; exact x10
  · rw [wf 37 13 (by omega) (by omega) (by omega) (by omega)]; exact x13
  · rw [wf 37 5 (by omega) (by omega) (by omega) (by omega)]; exact x5
  · rw [mf 123 39 (by omega) (by omega) (by omega)]; exact y39
  · rw [mf 123 43 (by omega) (by omega) (by omega)]; exact y43
  · rw [mf 123 44 (by omega) (by omega) (by omega)]; exact y44
  · rw [mf 123 45 (by omega) (by omega) (by omega), e143]; exact y45
  · exact kwn_fr wn (by omega) hYw (fun x hx => hx.imp (fun a => a) (fun a => by omega))
  · rw [show h + 1 - 1 = h by omega, m145]; exact cd
  · rw [show h + 1 - 1 = h by omega, show t + 1 - 1 = t by omega]
    exact kcx_fr wn (fun r j r1 r2 _ je => wr r j r1 r2 (by omega)) w9 (fun j _ _ => ⟨wf 38 j (by omega) (by omega) (by omega) (by omega), wf 39 j (by omega) (by omega) (by omega) (by omega)⟩) (fun _ => ⟨wf 37 11 (by omega) (by omega) (by omega) (by omega), wf 37 12 (by omega) (by omega) (by omega) (by omega), wf 37 14 (by omega) (by omega) (by omega) (by omega)⟩) (fun r x r1 r2 _ xz => mf r x (by omega) (by omega) (by omega)) hYw (fun j _ jh => mf 145 j (by omega) (by omega) (by omega)) (fun j _ _ => mf 146 j (by omega) (by omega) (by omega)) (fun x hx => Or.inl hx) cx
theorem st_num {q qY : Nat × Int × Int × Int × Int} {c s : Nat} {X Y : km_Mm} {P ln a0 n z0 p h e o hb t i u : Int} {B : Int → Int} {N : Int → Prop} {k : Nat} {ov : Option km_V} (hP : kPq q P) (ih : kI2 q qY c s P ln a0 z0 B n u (n - p)) (S : kS1 X Y P ln N a0 B n z0 p k h e o hb t) (hi : 0 ≤ i ∧ i ≤ p) (hT : kcT B n (ksk B n 600 p) = 2) : kEnd q qY c s P ln a0 z0 B n u N i X Y (fun Q => km_G M_X12_expression 35 [some (.inr (.inr 123)), some (.inl ln), ov] [] (km_A0 qY c s) Y Q) := by
  obtain ⟨⟨tk, ⟨x2, x9, x10, x13, xe, x8, x5, xn⟩, ⟨y39, y41, y43, y44, y45, y36⟩, ⟨b1, b2, b3, b4, b5, b6, b7⟩, wn⟩, ⟨s4, s6, s47, s46⟩, cx⟩ := (show kS1 X Y P ln N a0 B n z0 p k h e o hb t from S)
  have hPo := hP.1
  have pp := kTk_p tk (by omega)
  obtain ⟨Z, zf, z5, zT, z3, z6, za⟩ := @kTk_adv q c s X Y B n p tk
  obtain ⟨⟨t1, t2, t3, t4, t5⟩, tx, t26, t29, tt⟩ := tk
  have z6 := z6 hT
  rw [hT] at tt zT
  obtain ⟨kd, kq⟩ := ktk_2 tt
  rw [← z6] at kq
  have n6 := tx.2.1.2
  have fz : kFX P a0 X Z := kFX_Z hPo zf
  have zP : ∀ j, Z P j = X P j := fun j => zf P j (by omega)
  have bx := kcx_b _ _ _ _ _ _ cx
  have hc := fun Q => @cl_num q c s Z P Q hP (by rw [zf 37 4 (by omega)]; exact s4) (by rw [zP, x8]; omega) (by rw [zP, xe]; omega)
  rw [zP, x8] at hc
  unfold kdq at kq
  by_cases big : 999999 < Z 3 6
  · rw [if_pos big] at hc
    refine kEnd_flt hPo (f := 2) (by decide) fz z5 kFY_rf t29 (ps_tf x2 ⟨hi.1, by omega⟩ n6 za zT (by decide) (by decide) hc) (fun Q => ?_)
    rw [ex_val (by omega), md_numBig kd (by omega)]; exact ex_n rfl
  · rw [if_neg big] at hc
    by_cases full : z0 + t < 120
    · rw [if_pos full] at hc
      obtain ⟨u1, u2, u3, u4, u5, u6⟩ := @kW_f P 2 (Z 3 6) (kTi P Z) hPo
      have tp4 : kTi P Z P 4 = e := by rw [kTi_o (by omega), zP, xe]
      rw [tp4] at u3 u4 u5 u6
      obtain ⟨v1, v2, v3, v4, v5, v6, v7⟩ := @kV_f 0 (Y 123 28) (120 + Y 123 36) Y rfl
      have fw : kFX P a0 X (km_up (kEm P 2 (Z 3 6) (kTi P Z)) 37 4 2) := kFX_tr fz (kFX_tr (kFX_kTi hPo) (kFX_tr (kFX_kEm hPo (by rw [tp4]; omega)) (kFX_37 hPo (by omega))))
      have fv : kFY N Y (km_up (kHo (120 + Y 123 36) (kGr 0 (Y 123 28) Y)) 123 46 0) := kFY_tr (fun _ h => h) (kFY_tr (fun _ h => h) (kFY_kGr (by omega) (fun w => by have := wn.1 _ w; omega)) kFY_kHo) (kFY_123 (by omega))
      generalize km_up (kEm P 2 (Z 3 6) (kTi P Z)) 37 4 2 = W at *
      have hx := fun M' ht Q => @md_num qY c s Y Q ln M' kd (by omega) (by omega) (by omega) ht
      generalize km_up (kHo (120 + Y 123 36) (kGr 0 (Y 123 28) Y)) 123 46 0 = V at *
      have tv : kTx V B n := kTx_fr tx (v1 _ _ (by omega) (by omega) (by omega)) (fun i => v1 _ _ (by omega) (by omega) (by omega)) (fun i => v1 _ _ (by omega) (by omega) (by omega))
      obtain ⟨M, m1, m2, m3⟩ := @kTk_take qY c s V B n _ tv ⟨by omega, pp.2⟩ ((v1 _ _ (by omega) (by omega) (by omega)).trans t26)
      refine kEnd_step (N1 := fun x => N x ∨ x = 120 + (z0 + t)) (i1 := i + 1) (fun x hx => Or.inl hx) fw (kFY_tr (fun _ h => h) fv (kFY_M m1)) (fun Q => ps_tok x2 ⟨hi.1, by omega⟩ n6 za zT (by decide) hc) (G1 := fun Q => km_G M_X12_expression 35 [some (.inr (.inr 123)), some (.inl ln), some (.inl 1)] [] (km_A0 qY c s) M Q) (fun Q => ?_) (ih W M (fun x => N x ∨ x = 120 + (z0 + t)) (kcN B n (ksk B n 600 p)) k (h + 1) (e + 1) o hb (t + 1) (i + 1) _ (by omega) ?_ (by omega) (by omega))
      · rw [ex_val (by omega), hx M m3]; exact ex_y rfl
      · refine st_leaf hPo S full rfl (fun b j c1 c2 c3 c4 => ?_) ?_ u2 u3 ?_ (fun k _ hk => ?_) (by rw [u1 P 9 (by omega) (by omega) (by omega), kTi_o (by omega), zP]; exact xn) (fun r j r1 r2 hj => ?_) (fun b j c1 c2 c3 => ?_) ?_ ?_ ?_ ?_ m2 ⟨Or.inr rfl, Or.inl ⟨?_, rfl, rfl, u5, ?_, ?_, ?_⟩⟩
        · rw [u1 b j (by omega) c2 c3, kTi_o (by omega), zf b j c4]
        · rw [u1 3 3 (by omega) (by omega) (by omega), kTi_o (by omega)]; exact z3
        · rw [u1 P 8 (by omega) (by omega) (by omega), kTi_8, zP, x8]
        · rw [u1 P 9 (by omega) (by omega) (by omega), kTi_o (by omega), zP]; exact hk
        · rw [u4 r j r1 r2 hj, kTi_o (by omega), zf _ j (by omega)]
        · rw [m1 b j (by omega), v1 b j (by omega) (by omega) (by omega)]
        · rw [m1 _ _ (by omega), v2, y36]
        · rw [m1 _ _ (by omega), v3, y41]
        · rw [m1 _ _ (by omega), v4]
        · rw [m1 _ _ (by omega), ← y41, v7, y36]
        · rw [m1 _ _ (by omega), ← y36, v5]
        · rw [u6, m1 _ _ (by omega), ← y36, v6]; omega
        · rw [m1 _ _ (by omega), ← y36, v6]; omega
        · rw [m1 _ _ (by omega), ← y36, v6]; omega
    · rw [if_neg full] at hc
      refine kEnd_flt hPo (f := 2) (by decide) fz z5 kFY_rf t29 (ps_tf x2 ⟨hi.1, by omega⟩ n6 za zT (by decide) (by decide) hc) (fun Q => ?_)
      rw [ex_val (by omega), md_numFull kd (by omega) (by omega)]; exact ex_n rfl

