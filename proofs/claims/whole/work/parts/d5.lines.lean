/-! ===== the lines of a text: the state between them ===== -/
def krt (L : Int) : Int := if L = 4 then 7 else if L = 5 then 12 else if L = 6 then 13 else 8 + L
def kln (L : Int) : Int := if L < 4 then 1 else if L = 4 then 0 else L - 3
def kon (x : Int) : Int := if x = -1 then 0 else 1
theorem kon_b {x : Int} : 0 ≤ kon x ∧ kon x ≤ 1 := by unfold kon; split <;> omega
theorem kon_1 {x : Int} (h : 0 ≤ x) : kon x = 1 := by unfold kon; rw [if_neg (by omega)]
theorem krt_lo {T b : Int} (h20 : 20 ≤ T ∧ T ≤ 23) (hb : T = 21 → 0 ≤ b ∧ b < 4) : krt (kLo T b) = kLr (T - 20) b ∧ kln (kLo T b) = T - 20 ∧ (0 ≤ kLo T b ∧ kLo T b < 7) ∧ (T = 21 → kLo T b = b) ∧ (T ≠ 21 → 4 ≤ kLo T b) := by
  have tt : T = 20 ∨ T = 21 ∨ T = 22 ∨ T = 23 := by omega
  rcases tt with rfl | rfl | rfl | rfl
  · exact ⟨rfl, rfl, (by decide : (0 : Int) ≤ 4 ∧ (4 : Int) < 7), fun h => absurd h (by decide), fun _ => (by decide : (4 : Int) ≤ 4)⟩
  · have hb := hb rfl
    have e : kLo 21 b = b := rfl
    rw [e]
    refine ⟨?_, ?_, by omega, fun _ => rfl, fun h => absurd rfl h⟩
    · unfold krt
      rw [if_neg (by omega), if_neg (by omega), if_neg (by omega)]; rfl
    · unfold kln
      rw [if_pos (by omega)]; rfl
  · exact ⟨rfl, rfl, (by decide : (0 : Int) ≤ 5 ∧ (5 : Int) < 7), fun h => absurd h (by decide), fun _ => (by decide : (4 : Int) ≤ 5)⟩
  · exact ⟨rfl, rfl, (by decide : (0 : Int) ≤ 6 ∧ (6 : Int) < 7), fun h => absurd h (by decide), fun _ => (by decide : (4 : Int) ≤ 6)⟩
theorem krt_inj {L K : Int} (hL : 0 ≤ L ∧ L < 7) (hK : 0 ≤ K ∧ K < 7) (h : krt L = krt K) : L = K := by
  unfold krt at h
  by_cases a4 : L = 4
  · rw [if_pos a4] at h
    by_cases b4 : K = 4
    · omega
    · rw [if_neg b4] at h
      split at h
      · omega
      · split at h <;> omega
  · rw [if_neg a4] at h
    by_cases a5 : L = 5
    · rw [if_pos a5] at h
      split at h
      · omega
      · split at h
        · omega
        · split at h <;> omega
    · rw [if_neg a5] at h
      by_cases a6 : L = 6
      · rw [if_pos a6] at h
        split at h
        · omega
        · split at h
          · omega
          · split at h <;> omega
      · rw [if_neg a6] at h
        split at h
        · omega
        · split at h
          · omega
          · split at h <;> omega
/-- a LINE's steps and knots -/
def kLs (X Y : km_Mm) (P : Int) (N : Int → Prop) (L : Int) : Prop := (X (P + 5) L = -1 ∧ Y 142 (krt L) = -1) ∨ ((0 ≤ X (P + 5) L ∧ 120 ≤ Y 142 (krt L)) ∧ ∃ (f : Nat) (e t : Int), kcd X Y P (kln L) N f 0 (Y 142 (krt L)) (X (P + 5) L) e t ∧ X (P + 1) e = 0 ∧ e < X P 4 ∧ t ≤ 120)
/-- what stands between the lines -/
def kLp (X Y : km_Mm) (P z a b : Int) (N : Int → Prop) : Prop := (X P 4 = a ∧ X P 8 = z ∧ X P 7 = b ∧ 0 ≤ X P 9 ∧ X P 9 < 32768) ∧ (Y 123 36 = z ∧ Y 123 48 = b) ∧ (0 ≤ a ∧ 0 ≤ z ∧ z ≤ 120 ∧ 0 ≤ b ∧ b ≤ 4 ∧ a ≤ 3 * z + X P 6) ∧ X P 6 = b + kon (X (P + 5) 4) + kon (X (P + 5) 5) + kon (X (P + 5) 6) ∧ (∀ x, N x → 120 ≤ x ∧ x < 120 + z) ∧ (∀ L : Int, 0 ≤ L → L < 7 → kLs X Y P N L) ∧ ∀ L : Int, b ≤ L → L < 4 → X (P + 5) L = -1
def kLn (X Y : km_Mm) (P : Int) (B : Int → Int) (n p z a b : Int) (N : Int → Prop) : Prop := kTk X Y B n p ∧ (X 37 2 = 0 ∧ X 37 4 = 0 ∧ X 37 9 = 0 ∧ X 37 10 = 0 ∧ X 37 13 = 0) ∧ kLp X Y P z a b N
def kGX (P : Int) (X X' : km_Mm) : Prop := ∀ b j : Int, ¬ (b = 3 ∧ 3 ≤ j ∧ j ≤ 6) → ¬ (b = 37 ∧ 2 ≤ j ∧ j ≤ 14) → b ≠ 38 → b ≠ 39 → ¬ (P ≤ b ∧ b ≤ P + 5) → X' b j = X b j
def kGY (Y Y' : km_Mm) : Prop := (∀ b j : Int, ¬ (b = 123 ∧ (j = 23 ∨ j = 24 ∨ (26 ≤ j ∧ j ≤ 29) ∨ j = 36 ∨ j = 39 ∨ j = 41 ∨ (43 ≤ j ∧ j ≤ 48))) → ¬ (138 ≤ b ∧ b ≤ 141 ∧ 120 ≤ j) → ¬ (b = 142 ∧ 7 ≤ j) → ¬ (143 ≤ b ∧ b ≤ 146) → Y' b j = Y b j) ∧ ∀ r x : Int, 139 ≤ r → r ≤ 140 → Y r x < 240 → Y' r x < 240
theorem kGX_tr {P : Int} {X X1 X2 : km_Mm} (h1 : kGX P X X1) (h2 : kGX P X1 X2) : kGX P X X2 := fun b j a b' c d e => (h2 b j a b' c d e).trans (h1 b j a b' c d e)
theorem kGY_tr {Y Y1 Y2 : km_Mm} (h1 : kGY Y Y1) (h2 : kGY Y1 Y2) : kGY Y Y2 := ⟨fun b j a b' c d => (h2.1 b j a b' c d).trans (h1.1 b j a b' c d), fun r x a b h => h2.2 r x a b (h1.2 r x a b h)⟩
theorem kGY_w {Y Y' : km_Mm} (h : ∀ b j : Int, ¬ (b = 123 ∧ (j = 23 ∨ j = 24 ∨ (26 ≤ j ∧ j ≤ 29) ∨ j = 36 ∨ j = 39 ∨ j = 41 ∨ (43 ≤ j ∧ j ≤ 48))) → ¬ (b = 142 ∧ 7 ≤ j) → ¬ (143 ≤ b ∧ b ≤ 146) → Y' b j = Y b j) : kGY Y Y' := ⟨fun b j a _ c d => h b j a c d, fun r x r1 r2 hr => by rw [h r x (by omega) (by omega) (by omega)]; exact hr⟩
theorem kGX_of {P a0 : Int} {X X' : km_Mm} (h : kFXl P a0 X X') : kGX P X X' := fun b j a b' c d e => h.1 b j a (by omega) c d (by omega) (by omega)
theorem kGY_of {N : Int → Prop} {Y Y' : km_Mm} (h : kFYl N Y Y') : kGY Y Y' := ⟨fun b j a b' c d => by
  by_cases z : 138 ≤ b ∧ b ≤ 141
  · exact h.2.1 b j z.1 z.2 (by omega)
  · exact h.1 b j (by omega) z d, h.2.2.2⟩
theorem kTk_fr {X Y Y' : km_Mm} {B : Int → Int} {n p : Int} (h : kTk X Y B n p) (h1 : ∀ j : Int, 25 ≤ j → j ≤ 29 → Y' 123 j = Y 123 j) (h2 : ∀ i : Int, Y' 124 i = Y 124 i) (h3 : ∀ i : Int, Y' 137 i = Y 137 i) : kTk X Y' B n p := by
  obtain ⟨k1, k2, k3, k4, k5⟩ := h
  refine ⟨k1, kTx_fr k2 (h1 25 (by decide) (by decide)) h2 h3, ?_, ?_, ?_⟩
  · rw [h1 26 (by decide) (by decide)]; exact k3
  · rw [h1 29 (by decide) (by decide)]; exact k4
  · rw [h1 27 (by decide) (by decide), h1 28 (by decide) (by decide)]; exact k5
theorem kEz_o {m : km_Mm} {b j : Int} (h : ¬ (b = 123 ∧ (j = 39 ∨ j = 41 ∨ (43 ≤ j ∧ j ≤ 47)))) : kEz m b j = m b j := by
  unfold kEz
  rw [km_up_ne (by omega), km_up_ne (by omega), km_up_ne (by omega), km_up_ne (by omega), km_up_ne (by omega), km_up_ne (by omega), km_up_ne (by omega)]
theorem kEz_v {m : km_Mm} : kEz m 123 39 = 0 ∧ kEz m 123 41 = 0 ∧ kEz m 123 43 = 0 ∧ kEz m 123 44 = 0 ∧ kEz m 123 45 = 0 ∧ kEz m 123 46 = 1 ∧ kEz m 123 47 = 1 := by
  unfold kEz
  refine ⟨?_, ?_, ?_, ?_, ?_, ?_, km_upx_s⟩
  · rw [km_upx_i (by decide), km_upx_i (by decide), km_upx_i (by decide), km_upx_i (by decide), km_upx_i (by decide), km_upx_i (by decide), km_upx_s]
  · rw [km_upx_i (by decide), km_upx_i (by decide), km_upx_i (by decide), km_upx_i (by decide), km_upx_i (by decide), km_upx_s]
  · rw [km_upx_i (by decide), km_upx_i (by decide), km_upx_i (by decide), km_upx_i (by decide), km_upx_s]
  · rw [km_upx_i (by decide), km_upx_i (by decide), km_upx_i (by decide), km_upx_s]
  · rw [km_upx_i (by decide), km_upx_i (by decide), km_upx_s]
  · rw [km_upx_i (by decide), km_upx_s]
theorem kLb_f {P T : Int} {X : km_Mm} (hPo : P = 40 ∨ P = 46) : (∀ b j : Int, ¬ (b = 37 ∧ 4 ≤ j ∧ j ≤ 6) → ¬ (b = P ∧ (j = 6 ∨ j = 7)) → ¬ (b = P + 5 ∧ j = kLo T (X P 7)) → kLb P T X b j = X b j) ∧ kLb P T X 37 4 = 1 ∧ kLb P T X 37 5 = T ∧ kLb P T X 37 6 = 1 ∧ kLb P T X P 6 = X P 6 + 1 ∧ kLb P T X P 7 = X P 7 + (if T = 21 then 1 else 0) ∧ kLb P T X (P + 5) (kLo T (X P 7)) = X P 4 := by
  unfold kLb kXo
  refine ⟨fun b j h1 h2 h3 => ?_, ?_, ?_, km_upx_s, ?_, ?_, ?_⟩
  · rw [km_up_ne (by omega), km_up_ne (by omega), km_up_ne (by omega), km_up_ne (by omega), km_up_ne (by omega), km_up_ne (by omega)]
  · rw [km_upx_i (by decide), km_upx_s]
  · rw [km_upx_i (by decide), km_upx_i (by decide), km_up_o (by omega), km_up_o (by omega), km_up_o (by omega), km_upx_s]
  · rw [km_up_o (by omega), km_up_o (by omega), km_upx_i (by decide), km_upx_s]
  · rw [km_up_o (by omega), km_up_o (by omega), km_upx_s]
  · rw [km_up_o (by omega), km_up_o (by omega), km_up_o (by omega), km_up_o (by omega), km_upx_s]
section PL
variable {q qY : Nat × Int × Int × Int × Int} {c s : Nat} {X Y : km_Mm} {P n p z a b u i w T : Int} {B : Int → Int} {N : Int → Prop}
/-- a line begins -/
theorem st_l1 (hP : kPq q P) (S : kLn X Y P B n p z a b N) (hi : 0 ≤ i ∧ i ≤ p) (hT : kcT B n (ksk B n 600 p) = T) (h20 : 20 ≤ T ∧ T ≤ 23) (hb : T = 21 → b < 4) (hs : T ≠ 21 → X (P + 5) (kLo T b) = -1) :
    ∃ (W M : km_Mm) (p' : Int), (i + 1 ≤ p' ∧ p' ≤ n) ∧ kS1 W (kEz M) P (T - 20) N a B n z p' 0 0 a 0 0 0 ∧ (∀ d j : Int, ¬ (d = 3 ∧ 3 ≤ j ∧ j ≤ 6) → ¬ (d = 37 ∧ 4 ≤ j ∧ j ≤ 6) → ¬ (d = P ∧ (j = 6 ∨ j = 7)) → ¬ (d = P + 5 ∧ j = kLo T b) → W d j = X d j) ∧ (W P 6 = X P 6 + 1 ∧ W P 7 = b + (if T = 21 then 1 else 0) ∧ W (P + 5) (kLo T b) = a) ∧
      (∀ d j : Int, ¬ (d = 123 ∧ ((26 ≤ j ∧ j ≤ 29) ∨ j = 48)) → M d j = Y d j) ∧ M 123 48 = b + (if T = 21 then 1 else 0) ∧ (∀ Q : Option km_V → km_Al → km_Mm → Prop, km_G M_X7_parse 52 [some (.inr (.inr 37)), some (.inl n), some (.inr (.inr u)), some (.inl i)] [] (km_A0 q c s) X Q ↔ km_G M_X7_parse 52 [some (.inr (.inr 37)), some (.inl n), some (.inr (.inr u)), some (.inl (i + 1))] [] (km_A0 q c s) W Q) ∧ ∀ Q : Option km_V → km_Al → km_Mm → Prop, km_E M_X12_take [.inr (.inr 123)] (km_A0 qY c s) (kBc (T - 20) Y) Q ↔ Q none (km_A0 qY c s) M := by
  obtain ⟨tk, ⟨x2, x4, x9, x10, x13⟩, ⟨l4, l8, l7, l9⟩, ⟨y36, y48⟩, ⟨b1, b2, b3, b4, b5, b6⟩, lc, ln, ls, lb⟩ := S
  have hPo := hP.1
  have pp := kTk_p tk (by omega)
  obtain ⟨Z, zf, z5, zT, z3, -, za⟩ := @kTk_adv q c s X Y B n p tk
  obtain ⟨⟨t1, t2, t3, t4, t5⟩, tx, t26, t29, tt⟩ := tk
  rw [hT] at zT tt
  have n6 := tx.2.1.2
  obtain ⟨kd, kw⟩ := ktk_w (by omega) tt
  have kr := (@krt_lo T b h20 (fun h => ⟨b4, hb h⟩))
  have zP : ∀ d j : Int, d ≠ 3 → Z d j = X d j := fun d j h => zf d j (by omega)
  have k4 := @kon_b (X (P + 5) 4)
  have k5 := @kon_b (X (P + 5) 5)
  have k6 := @kon_b (X (P + 5) 6)
  have l6 : X P 6 ≤ 6 := by
    rw [lc]
    by_cases y : T = 21
    · have := hb y; omega
    · have hs := hs y
      have k0 : kon (-1) = 0 := rfl
      have kk := kr.2.2.2.2 y
      have kk2 := kr.2.2.1
      have k3 : kLo T b = 4 ∨ kLo T b = 5 ∨ kLo T b = 6 := by omega
      rcases k3 with k | k | k
      · rw [k] at hs; rw [hs, k0]; omega
      · rw [k] at hs; rw [hs, k0]; omega
      · rw [k] at hs; rw [hs, k0]; omega
  obtain ⟨wf, w4, w5, w6, wP6, wP7, wP5⟩ := @kLb_f P T Z hPo
  rw [zP P 7 (by omega), l7] at wf wP7 wP5
  rw [zP P 6 (by omega)] at wP6
  rw [zP P 4 (by omega), l4] at wP5
  have cl := fun Q => @cl_line q c s Z P T Q hP ((zP _ _ (by decide)).trans x4) h20 (by rw [zP P 7 (by omega), l7]; omega) (by rw [zP P 6 (by omega), lc]; omega) (fun h => by rw [zP P 7 (by omega), l7]; exact hb h) (fun h => by rw [zP P 7 (by omega), l7, zP _ _ (by omega)]; exact hs h)
  have bc : ∀ d j : Int, ¬ (d = 123 ∧ j = 48) → kBc (T - 20) Y d j = Y d j := fun d j h => by
    unfold kBc
    by_cases y : T - 20 = 1
    · rw [if_pos y, km_up_ne h]
    · rw [if_neg y]
  have bc48 : kBc (T - 20) Y 123 48 = b + (if T = 21 then 1 else 0) := by
    unfold kBc
    by_cases y : T - 20 = 1
    · rw [if_pos y, km_upx_s, if_pos (by omega), y48]
    · rw [if_neg y, if_neg (by omega), y48]; omega
  obtain ⟨M, mf, mtk, mt⟩ := @kTk_take qY c s (kBc (T - 20) Y) B n (kcN B n (ksk B n 600 p)) (kTx_fr tx (bc _ _ (by omega)) (fun i => bc _ _ (by omega)) (fun i => bc _ _ (by omega))) ⟨by omega, pp.2⟩ (by rw [bc _ _ (by omega)]; exact t26)
  have mY : ∀ d j : Int, ¬ (d = 123 ∧ ((26 ≤ j ∧ j ≤ 29) ∨ j = 48)) → M d j = Y d j := fun d j h => by rw [mf d j (by omega), bc d j (by omega)]
  have m48 : M 123 48 = b + (if T = 21 then 1 else 0) := by rw [mf 123 48 (by omega), bc48]
  have wX : ∀ d j : Int, ¬ (d = 3 ∧ 3 ≤ j ∧ j ≤ 6) → ¬ (d = 37 ∧ 4 ≤ j ∧ j ≤ 6) → ¬ (d = P ∧ (j = 6 ∨ j = 7)) → ¬ (d = P + 5 ∧ j = kLo T b) → kLb P T Z d j = X d j := fun d j h1 h2 h3 h4 => by rw [wf d j h2 h3 h4, zf d j h1]
  obtain ⟨e39, e41, e43, e44, e45, e46, e47⟩ := @kEz_v M
  refine ⟨kLb P T Z, M, kcN B n (ksk B n 600 p), ⟨by omega, pp.2⟩, ⟨⟨kTk_fr (mtk (kLb P T Z) ?_ ?_ ?_) (fun j h1 h2 => kEz_o (by omega)) (fun i => kEz_o (by omega)) (fun i => kEz_o (by omega)), ⟨?_, ?_, ?_, ?_, ?_, ?_, ?_, ?_⟩, ⟨e39, e41, e43, e44, e45, ?_⟩, ⟨b1, by omega, b2, by omega, by decide, by omega, by omega⟩, ?_⟩, ⟨w4, w6.trans e47.symm, Or.inr ⟨e47, rfl⟩, e46⟩, ⟨rfl, rfl, rfl, rfl, rfl⟩⟩, wX, ⟨wP6, wP7, wP5⟩, mY, m48, fun Q => ps_tok x2 ⟨hi.1, by omega⟩ n6 za zT (by omega) cl, mt⟩
  · rw [wX _ _ (by omega) (by omega) (by omega) (by omega)]; exact t1
  · rw [wf _ _ (by omega) (by omega) (by omega)]; exact z3
  · rw [← t3]; exact funext fun j => wX _ _ (by omega) (by omega) (by omega) (by omega)
  · rw [wX _ _ (by omega) (by omega) (by omega) (by omega)]; exact x2
  · rw [wX _ _ (by omega) (by omega) (by omega) (by omega)]; exact x9
  · rw [wX _ _ (by omega) (by omega) (by omega) (by omega)]; exact x10
  · rw [wX _ _ (by omega) (by omega) (by omega) (by omega)]; exact x13
  · rw [wX _ _ (by omega) (by omega) (by omega) (by omega)]; exact l4
  · rw [wX _ _ (by omega) (by omega) (by omega) (by omega), l8]; omega
  · rw [w5]; omega
  · rw [wX _ _ (by omega) (by omega) (by omega) (by omega)]; exact l9
  · rw [kEz_o (by omega), mY _ _ (by omega), y36]; omega
  · exact ⟨fun x hx => by have := ln x hx; omega, fun j j0 j1 => by omega, fun i j i0 ij jk => by omega⟩
end PL

