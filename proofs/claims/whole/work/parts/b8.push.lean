/-! ===== one more waits: a sign ahead, a bracket ===== -/
theorem kwn_push {Y Y1 : km_Mm} {N : Int → Prop} {z z1 : Int} {k : Nat} (hw : kwn Y N z k) (hz : z ≤ z1) (hYw : ∀ j : Int, 0 ≤ j → j < k → Y1 143 j = Y 143 j ∧ Y1 144 j = Y 144 j) (hk : (Y1 143 k = 100 ∧ Y1 144 k = -1) ∨ (Y1 143 k ≠ 100 ∧ (120 ≤ Y1 144 k ∧ Y1 144 k < z1) ∧ ¬ N (Y1 144 k) ∧ ∀ j : Int, 0 ≤ j → j < k → Y 143 j ≠ 100 → Y 144 j < Y1 144 k)) : kwn Y1 N z1 (k + 1) := by
  obtain ⟨w1, w2, w3⟩ := hw
  refine ⟨fun x hx => by have := w1 x hx; omega, fun j j0 j1 => ?_, fun i j i0 ij jk => ?_⟩
  · by_cases z : j = k
    · rw [z]
      rcases hk with u | u
      · exact Or.inl u
      · exact Or.inr ⟨u.1, u.2.1, u.2.2.1⟩
    · rw [(hYw j j0 (by omega)).1, (hYw j j0 (by omega)).2]
      rcases w2 j j0 (by omega) with u | u
      · exact Or.inl u
      · exact Or.inr ⟨u.1, by omega, u.2.2⟩
  · by_cases z : j = k
    · rw [z, (hYw i i0 (by omega)).1, (hYw i i0 (by omega)).2]
      intro c1 c2
      rcases hk with u | u
      · exact absurd u.1 c2
      · exact u.2.2.2 i i0 (by omega) c1
    · rw [(hYw i i0 (by omega)).1, (hYw j (by omega) (by omega)).1, (hYw i i0 (by omega)).2, (hYw j (by omega) (by omega)).2]
      exact w3 i j i0 ij (by omega)
theorem st_push {X Y W M : km_Mm} {P ln a0 n z0 p p1 h e o hb t o1 hb1 t1 w6 cc : Int} {B : Int → Int} {N : Int → Prop} {k : Nat} (hP : P = 40 ∨ P = 46) (C : kCo X Y P ln N a0 B n z0 p k h e o hb t) (ht : t ≤ t1) (hz : z0 + t1 ≤ 120) (ho : o1 ≤ 8)
    (wf : ∀ b j : Int, ¬ (b = P ∧ j = 8) → ¬ (b = 37 ∧ (j = 4 ∨ j = 6 ∨ j = 9 ∨ j = 10 ∨ j = 13)) → ¬ ((b = 38 ∨ b = 39) ∧ j = k) → ¬ (b = 3 ∧ 3 ≤ j ∧ j ≤ 6) → W b j = X b j) (w33 : W 3 3 = p1) (w4 : W 37 4 = 1) (w6' : W 37 6 = w6) (w9 : W 37 9 = k + 1) (w10 : W 37 10 = o1) (w13 : W 37 13 = hb1) (wP8 : W P 8 = z0 + t1)
    (mf : ∀ b j : Int, ¬ (b = 123 ∧ (j = 36 ∨ j = 39 ∨ (43 ≤ j ∧ j ≤ 47) ∨ (26 ≤ j ∧ j ≤ 29))) → ¬ ((138 ≤ b ∧ b ≤ 141) ∧ j = 120 + (z0 + t)) → ¬ ((b = 143 ∨ b = 144) ∧ j = k) → ¬ (b = 146 ∧ j = o) → M b j = Y b j) (m36 : M 123 36 = z0 + t1) (m39 : M 123 39 = k + 1) (m43 : M 123 43 = o1) (m44 : M 123 44 = kinH hb1) (m45 : M 123 45 = cc) (m46 : M 123 46 = 1) (m47 : M 123 47 = w6) (hcc : cc = khc (M 143) (k + 1)) (h6 : w6 = 0 ∨ (w6 = 1 ∧ cc = 0)) (mtk : ∀ X' : km_Mm, X' 3 2 = n → X' 3 3 = p1 → X' 4 = B → kTk X' M B n p1)
    (hk : (M 143 k = 100 ∧ M 144 k = -1) ∨ (M 143 k ≠ 100 ∧ (120 ≤ M 144 k ∧ M 144 k < 120 + (z0 + t1)) ∧ ¬ N (M 144 k) ∧ ∀ j : Int, 0 ≤ j → j < k → Y 143 j ≠ 100 → Y 144 j < M 144 k)) (cx : kcx W M P ln N a0 (k + 1) h e o1 hb1 t1) : kS1 W M P ln N a0 B n z0 p1 (k + 1) h e o1 hb1 t1 := by
  obtain ⟨tk, ⟨x2, x9, x10, x13, xe, x8, x5, xn⟩, ⟨y39, y41, y43, y44, y45, y36⟩, ⟨b1, b2, b3, b4, b5, b6, b7⟩, wn⟩ := C
  obtain ⟨⟨t1', t2, t3, t4, t5⟩, -⟩ := tk
  have hYw : ∀ j : Int, 0 ≤ j → j < k → M 143 j = Y 143 j ∧ M 144 j = Y 144 j := fun j _ jk => ⟨mf 143 j (by omega) (by omega) (by omega) (by omega), mf 144 j (by omega) (by omega) (by omega) (by omega)⟩
  have ek : ((k + 1 : Nat) : Int) = (k : Int) + 1 := by omega
  refine ⟨⟨mtk W ((wf 3 2 (by omega) (by omega) (by omega) (by omega)).trans t1') w33 (by rw [← t3]; exact funext fun j => wf 4 j (by omega) (by omega) (by omega) (by omega)), ⟨?_, by rw [ek]; exact w9, w10, w13, ?_, wP8, ?_, ?_⟩, ⟨by rw [ek]; exact m39, ?_, m43, m44, by rw [m45]; exact hcc, m36⟩, ⟨b1, b2, b3, hz, ho, b6, b7⟩, ?_⟩, ⟨w4, by rw [w6', m47], ?_, m46⟩, cx⟩
  · rw [wf 37 2 (by omega) (by omega) (by omega) (by omega)]; exact x2
  · rw [wf P 4 (by omega) (by omega) (by omega) (by omega)]; exact xe
  · rw [wf 37 5 (by omega) (by omega) (by omega) (by omega)]; exact x5
  · rw [wf P 9 (by omega) (by omega) (by omega) (by omega)]; exact xn
  · rw [mf 123 41 (by omega) (by omega) (by omega) (by omega)]; exact y41
  · exact kwn_push wn (by omega) hYw hk
  · rw [m47]
    rcases h6 with u | u
    · exact Or.inl u
    · exact Or.inr ⟨u.1, by rw [← hcc]; exact u.2⟩
/-- below the new one all stands as before -/
theorem cx_push {X Y W M : km_Mm} {P ln a0 z0 h e o hb t : Int} {N : Int → Prop} {k : Nat} (hP : P = 40 ∨ P = 46) (wn : kwn Y N (120 + (z0 + t)) k)
    (wf : ∀ b j : Int, ¬ (b = P ∧ j = 8) → ¬ (b = 37 ∧ (j = 4 ∨ j = 6 ∨ j = 9 ∨ j = 10 ∨ j = 13)) → ¬ ((b = 38 ∨ b = 39) ∧ j = k) → ¬ (b = 3 ∧ 3 ≤ j ∧ j ≤ 6) → W b j = X b j)
    (mf : ∀ b j : Int, ¬ (b = 123 ∧ (j = 36 ∨ j = 39 ∨ (43 ≤ j ∧ j ≤ 47) ∨ (26 ≤ j ∧ j ≤ 29))) → ¬ ((138 ≤ b ∧ b ≤ 141) ∧ j = 120 + (z0 + t)) → ¬ ((b = 143 ∨ b = 144) ∧ j = k) → ¬ (b = 146 ∧ j = o) → M b j = Y b j) {e1 t1 : Int} (cx : kcx X Y P ln N a0 k h e1 o hb t1) : kcx W M P ln N a0 k h e1 o hb t1 ∧ khc (M 143) k = khc (Y 143) k := by
  have hYw : ∀ j : Int, 0 ≤ j → j < k → M 143 j = Y 143 j ∧ M 144 j = Y 144 j := fun j _ jk => ⟨mf 143 j (by omega) (by omega) (by omega) (by omega), mf 144 j (by omega) (by omega) (by omega) (by omega)⟩
  refine ⟨kcx_fr wn (fun r j r1 r2 _ je => wf _ j (by omega) (by omega) (by omega) (by omega)) (fun k _ hk => by rw [wf P 9 (by omega) (by omega) (by omega) (by omega)]; exact hk) (fun j _ _ => ⟨wf 38 j (by omega) (by omega) (by omega) (by omega), wf 39 j (by omega) (by omega) (by omega) (by omega)⟩) (fun _ => ⟨wf 37 11 (by omega) (by omega) (by omega) (by omega), wf 37 12 (by omega) (by omega) (by omega) (by omega), wf 37 14 (by omega) (by omega) (by omega) (by omega)⟩) (fun r x r1 r2 _ xz => mf r x (by omega) (by omega) (by omega) (by omega)) hYw (fun j _ jh => mf 145 j (by omega) (by omega) (by omega) (by omega)) (fun j _ _ => mf 146 j (by omega) (by omega) (by omega) (by omega)) (fun x hx => hx) cx, khc_cg k (fun j j0 j1 => (hYw j j0 j1).1)⟩
/-- what keepWaiting and expectOperand write -/
theorem kK_f {w x y : Int} {U : km_Mm} : (∀ b j : Int, ¬ (b = 37 ∧ (j = 4 ∨ j = 6 ∨ j = 9)) → ¬ ((b = 38 ∨ b = 39) ∧ j = U 37 9) → kXo w (kKw x y U) b j = U b j) ∧ kXo w (kKw x y U) 37 4 = 1 ∧ kXo w (kKw x y U) 37 6 = w ∧ kXo w (kKw x y U) 37 9 = U 37 9 + 1 ∧ kXo w (kKw x y U) 38 (U 37 9) = x ∧ kXo w (kKw x y U) 39 (U 37 9) = y := by
  unfold kXo kKw
  refine ⟨fun b j h1 h2 => ?_, ?_, km_upx_s, ?_, ?_, ?_⟩
  · rw [km_up_ne (by omega), km_up_ne (by omega), km_up_ne (by omega), km_up_ne (by omega), km_up_ne (by omega)]
  · rw [km_upx_i (by decide), km_upx_s]
  · rw [km_upx_i (by decide), km_upx_i (by decide), km_upx_s]
  · rw [km_up_o (by decide), km_up_o (by decide), km_up_o (by decide), km_up_o (by decide), km_upx_s]
  · rw [km_up_o (by decide), km_up_o (by decide), km_up_o (by decide), km_upx_s]
/-- what a knot that waits writes -/
theorem kVw_f {kd w : Int} {Y : km_Mm} (hw : w = 120 + Y 123 36) : (∀ b j : Int, ¬ (b = 123 ∧ (j = 36 ∨ j = 39)) → ¬ ((138 ≤ b ∧ b ≤ 141) ∧ j = w) → ¬ ((b = 143 ∨ b = 144) ∧ j = Y 123 39) → kWf kd w (kGr kd 0 Y) b j = Y b j) ∧ kWf kd w (kGr kd 0 Y) 123 36 = Y 123 36 + 1 ∧ kWf kd w (kGr kd 0 Y) 123 39 = Y 123 39 + 1 ∧ kWf kd w (kGr kd 0 Y) 138 w = kd ∧ kWf kd w (kGr kd 0 Y) 143 (Y 123 39) = kd ∧ kWf kd w (kGr kd 0 Y) 144 (Y 123 39) = w := by
  have e39 : kGr kd 0 Y 123 39 = Y 123 39 := kGr_x (by decide)
  unfold kWf
  rw [e39]
  unfold kGr
  rw [← hw]
  refine ⟨fun b j h1 h2 h3 => ?_, ?_, ?_, ?_, ?_, ?_⟩
  · rw [km_up_ne (by omega), km_up_ne (by omega), km_up_ne (by omega), km_up_ne (by omega), km_up_ne (by omega), km_up_ne (by omega), km_up_ne (by omega), km_up_ne (by omega)]
  · rw [km_upx_i (by decide), km_up_o (by decide), km_up_o (by decide), km_up_o (by decide), km_up_o (by decide), km_up_o (by decide), km_up_o (by decide), km_upx_s]
  · rw [km_upx_s]
  · rw [km_up_o (by decide), km_up_o (by decide), km_up_o (by decide), km_up_o (by decide), km_up_o (by decide), km_up_o (by decide), km_upx_s]
  · rw [km_up_o (by decide), km_up_o (by decide), km_upx_s]
  · rw [km_up_o (by decide), km_upx_s]
/-- what an opened bracket writes -/
theorem kVo_f {kd w : Int} {Y : km_Mm} : (∀ b j : Int, ¬ (b = 123 ∧ (j = 39 ∨ j = 43 ∨ j = 45 ∨ j = 47)) → ¬ ((b = 143 ∨ b = 144) ∧ j = Y 123 39) → ¬ (b = 146 ∧ j = Y 123 43) → kOb kd w Y b j = Y b j) ∧ kOb kd w Y 123 39 = Y 123 39 + 1 ∧ kOb kd w Y 123 43 = Y 123 43 + 1 ∧ kOb kd w Y 123 45 = 0 ∧ kOb kd w Y 123 47 = 1 ∧ kOb kd w Y 143 (Y 123 39) = kd ∧ kOb kd w Y 144 (Y 123 39) = w ∧ kOb kd w Y 146 (Y 123 43) = Y 123 45 := by
  unfold kOb kWf
  refine ⟨fun b j h1 h2 h3 => ?_, ?_, ?_, ?_, km_upx_s, ?_, ?_, ?_⟩
  · rw [km_up_ne (by omega), km_up_ne (by omega), km_up_ne (by omega), km_up_ne (by omega), km_up_ne (by omega), km_up_ne (by omega), km_up_ne (by omega)]
  · rw [km_upx_i (by decide), km_upx_i (by decide), km_upx_i (by decide), km_up_o (by decide), km_upx_s]
  · rw [km_upx_i (by decide), km_upx_i (by decide), km_upx_s]
  · rw [km_upx_i (by decide), km_upx_s]
  · rw [km_up_o (by decide), km_up_o (by decide), km_up_o (by decide), km_up_o (by decide), km_up_o (by decide), km_up_o (by decide), km_upx_s]
  · rw [km_up_o (by decide), km_up_o (by decide), km_up_o (by decide), km_up_o (by decide), km_up_o (by decide), km_upx_s]
  · rw [km_up_o (by decide), km_up_o (by decide), km_up_o (by decide), km_upx_s]

