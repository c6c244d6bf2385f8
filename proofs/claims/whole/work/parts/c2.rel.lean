/-! ===== behind a value: what waits is put out ===== -/
theorem kOp_fr {X Y X1 Y1 : km_Mm} {P ln a0 z : Int} {N : Int → Prop} {k : Nat} {h e o hb t : Int} (hw : kwn Y N z k) (hX : ∀ r j : Int, 1 ≤ r → r ≤ 4 → a0 ≤ j → j < e → X1 (P + r) j = X (P + r) j) (h9 : ∀ k : Int, 0 ≤ k → tb (X P 9) k = true → tb (X1 P 9) k = true) (h38 : ∀ j : Int, 0 ≤ j → j < k → X1 38 j = X 38 j ∧ X1 39 j = X 39 j) (h37 : hb ≠ 0 → X1 37 11 = X 37 11 ∧ X1 37 12 = X 37 12 ∧ X1 37 14 = X 37 14) (hY : ∀ r x : Int, 138 ≤ r → r ≤ 141 → 120 ≤ x → x < z → Y1 r x = Y r x) (hYw : ∀ j : Int, 0 ≤ j → j < k → Y1 143 j = Y 143 j ∧ Y1 144 j = Y 144 j) (h145 : ∀ j : Int, 0 ≤ j → j < h → Y1 145 j = Y 145 j) (h146 : ∀ j : Int, 0 ≤ j → j < o → Y1 146 j = Y 146 j) (op : kOp X Y P ln N a0 k h e o hb t) : kOp X1 Y1 P ln N a0 k h e o hb t := by
  obtain ⟨h1, a, f, t1, cd, cx⟩ := op
  have b1 := kcd_b _ _ _ _ _ _ cd
  have b2 := kcx_b _ _ _ _ _ _ cx
  refine ⟨h1, a, f, t1, ?_, kcx_fr hw (fun r j r1 r2 ja je => hX r j r1 r2 ja (by omega)) h9 h38 h37 hY hYw (fun j j0 j1 => h145 j j0 (by omega)) h146 (fun x hx => hx) cx⟩
  rw [h145 (h - 1) (by omega) (by omega)]
  exact kcd_fr hw.1 (fun r j r1 r2 ja je => hX r j r1 r2 (by omega) je) h9 hY (fun x hx => hx) cd
theorem st_rel {q qY : Nat × Int × Int × Int × Int} {c s : Nat} {X Y X1 Y1 : km_Mm} {P ln a0 n z0 p h e o hb t lc lr : Int} {B : Int → Int} {N : Int → Prop} {k : Nat} (hP : kPq q P) (S : kS2 X Y P ln N a0 B n z0 p k h e o hb t) (xf : ∀ b j : Int, ¬ (b = 3 ∧ 3 ≤ j ∧ j ≤ 6) → ¬ (b = P ∧ j = 8) → X1 b j = X b j) (yf : ∀ b j : Int, ¬ (b = 123 ∧ j = 36) → ¬ ((138 ≤ b ∧ b ≤ 141) ∧ j = 120 + (z0 + t)) → Y1 b j = Y b j) (hl : 1 ≤ lr ∧ 1 ≤ lc) (hlr : lc = lr ∨ (lc = 5 ∧ lr = 4 ∧ khc (Y 143) k = 0)) (yr : ∀ r x : Int, 139 ≤ r → r ≤ 140 → Y r x < 240 → Y1 r x < 240) :
    ∃ (X' Y' : km_Mm) (N' : Int → Prop) (k' : Nat) (h' e' : Int), (k' ≤ k ∧ X' 37 9 = k' ∧ Y' 123 39 = k' ∧ Y' 123 41 = h' ∧ X' P 4 = e') ∧ kOp X' Y' P ln N' a0 k' h' e' o hb t ∧ kwn Y' N' (120 + (z0 + t)) k' ∧ (∀ x, N x → N' x) ∧ kFX P a0 X X' ∧ kFY N Y Y' ∧
      (∀ b j : Int, ¬ (b = 3 ∧ 3 ≤ j ∧ j ≤ 6) → ¬ (b = P ∧ (j = 4 ∨ j = 8)) → ¬ (b = 37 ∧ j = 9) → ¬ (P + 1 ≤ b ∧ b ≤ P + 4) → X' b j = X b j) ∧ (X' P 8 = X1 P 8 ∧ ∀ j : Int, X' 3 j = X1 3 j) ∧ (∀ b j : Int, ¬ (b = 123 ∧ (j = 36 ∨ j = 39 ∨ j = 41)) → ¬ (138 ≤ b ∧ b ≤ 141) → b ≠ 145 → Y' b j = Y b j) ∧ (Y' 123 36 = Y1 123 36 ∧ ∀ x : Int, Y' 138 x = Y1 138 x) ∧ (k' = 0 ∨ 100 ≤ Y 143 ((k' : Int) - 1) ∨ kwg (Y 143 ((k' : Int) - 1)) < lr) ∧ (5 ≤ lc → khc (Y 143) k' = khc (Y 143) k) ∧ (∀ Q : Option km_V → km_Al → km_Mm → Prop, km_E M_X7_release [.inr (.inr 37), .inl lc] (km_A0 q c s) X1 Q ↔ Q none (km_A0 q c s) X') ∧ (∀ Q : Option km_V → km_Al → km_Mm → Prop, km_E M_X12_bind [.inr (.inr 123), .inl lr] (km_A0 qY c s) Y1 Q ↔ Q none (km_A0 qY c s) Y') := by
  obtain ⟨⟨tk, ⟨x2, x9, x10, x13, xe, x8, x5, xn⟩, ⟨y39, y41, y43, y44, y45, y36⟩, ⟨b1, b2, b3, b4, b5, b6, b7⟩, wn⟩, ⟨s4, s46⟩, op⟩ := S
  have hPo := hP.1
  have op' := op
  obtain ⟨o1, oa, of, ot, od, oc⟩ := op'
  have bv := kcd_b _ _ _ _ _ _ od
  have bx := kcx_b _ _ _ _ _ _ oc
  have wnz : ∀ x, N x → 120 ≤ x ∧ x < 120 + (z0 + t) := wn.1
  have hYw : ∀ j : Int, 0 ≤ j → j < k → Y1 143 j = Y 143 j ∧ Y1 144 j = Y 144 j := fun j _ _ => ⟨yf _ _ (by omega) (by omega), yf _ _ (by omega) (by omega)⟩
  have e143 : Y1 143 = Y 143 := funext fun j => yf 143 j (by omega) (by omega)
  have op1 : kOp X1 Y1 P ln N a0 k h e o hb t := kOp_fr wn (fun r j r1 r2 _ _ => xf _ j (by omega) (by omega)) (fun k _ hk => by rw [xf P 9 (by omega) (by omega)]; exact hk) (fun j _ _ => ⟨xf 38 j (by omega) (by omega), xf 39 j (by omega) (by omega)⟩) (fun _ => ⟨xf 37 11 (by omega) (by omega), xf 37 12 (by omega) (by omega), xf 37 14 (by omega) (by omega)⟩) (fun r x r1 r2 _ xz => yf r x (by omega) (by omega)) hYw (fun j _ _ => yf 145 j (by omega) (by omega)) (fun j _ _ => yf 146 j (by omega) (by omega)) op
  have wn1 : kwn Y1 N (120 + (z0 + t)) k := kwn_fr wn (by omega) hYw (fun x hx => Or.inl hx)
  obtain ⟨X', Y', N', k', h', e', r1, r2, r3, r4, r5, r6, r7, r8, r9, ra, rb, rc, rd, re⟩ := @sim_bind q qY c s P ln a0 o hb (120 + (z0 + t)) lc lr hP hl (by omega) b1 k X1 Y1 N h e t none none (by omega) (by rw [xf _ _ (by omega) (by omega)]; exact x9) (by rw [yf _ _ (by omega) (by omega)]; exact y39) (by rw [yf _ _ (by omega) (by omega)]; exact y41) (by rw [xf _ _ (by omega) (by omega)]; exact xe) (by omega) op1 wn1 (by rw [e143]; exact hlr)
  rw [e143] at rb rc
  have f1 : kFX P a0 X X1 := ⟨fun b j c1 _ _ _ c2 _ => xf b j c1 (by omega), fun r j r1 r2 _ => xf _ j (by omega) (by omega), fun k _ hk => by rw [xf P 9 (by omega) (by omega)]; exact hk⟩
  have f2 : kFY N Y Y1 := ⟨fun b j c1 c2 _ => yf b j (by omega) (by omega), fun r j r1 r2 hj => yf r j (by omega) (by omega), fun x hx r r1 r2 => yf r x (by omega) (by have := wnz x hx; omega), yr⟩
  have x9' : X1 37 9 = k := by rw [xf _ _ (by omega) (by omega)]; exact x9
  refine ⟨X', Y', N', k', h', e', ⟨r1, r2, r3, r4, r5⟩, r6, r7, r8, kFX_tr f1 (kFX_of hPo r9), kFY_tr (fun _ h => h) f2 (kFY_of ra), fun b j c1 c2 c3 c4 => ?_, ⟨r9.1 _ _ (by omega) (by omega) (by omega), fun j => r9.1 3 j (by omega) (by omega) (by omega)⟩, fun b j c1 c2 c3 => ?_, ⟨ra.1 _ _ (by omega) (by decide) (by decide) (by decide), fun x => ra.1 138 x (by omega) (by decide) (by decide) (by decide)⟩, rb, rc, fun Q => ?_, fun Q => ?_⟩
  · rw [r9.1 b j (by omega) (by omega) c4, xf b j c1 (by omega)]
  · rw [ra.1 b j (by omega) (by omega) (by omega) c3, yf b j (by omega) (by omega)]
  · rw [e_X7_release]
    simp (config := { decide := true }) (disch := first | decide | assumption | omega | (simp (config := { decide := true }) only [km_sr_sf, km_sr_of, km_up_of, km_up_o, km_upx_i, km_upx_s, km_fl2_o, ne_eq, not_true_eq_false, not_false_eq_true] <;> omega) | fail) only [g_X7_release, x9', rd, Int.add_sub_cancel, true_or, or_true, false_or, or_false, false_and, and_false, if_true, if_false, ka_lo, ka_hi, ka_nn, km_sr_sf, km_sr_of, km_up_of, km_sr_us, km_sr_uo, km_sr_sr, km_sr_fl, km_sr_flo, km_up_up, km_up_lt, km_lay, km_unL, km_up_o, km_upx_i, km_upx_s, km_fl2_o, km_is, Option.some.injEq, Sum.inl.injEq, Sum.inr.injEq, Option.toList_some, Option.toList_none, List.cons_append, List.nil_append, ne_eq, true_and, and_true, and_self, not_true_eq_false, not_false_eq_true, true_implies, false_implies, reduceCtorEq]
  · rw [e_X12_bind]; exact re Q
/-- a comparison on top -/
theorem kcx_top4 {X Y : km_Mm} {P ln a0 : Int} {N : Int → Prop} {k : Nat} {h e o hb t : Int} (c : kcx X Y P ln N a0 (k + 1) h e o hb t) : kxS (X 38 k) = 4 ↔ (10 ≤ Y 143 k ∧ Y 143 k ≤ 15) := by
  rcases c with ⟨c0, _⟩ | ⟨c0, _⟩ | ⟨c0, c1, _⟩ | ⟨c0, _⟩ | ⟨c0, c1, _⟩ | ⟨c0, _⟩
  · rcases c0 with ⟨u1, u2⟩ | ⟨u1, u2⟩ <;> rw [u1, u2] <;> decide
  · rw [c0.1, c0.2.1]; decide
  · rw [c1.1]
    rcases c0 with u | u <;> rw [u.1] <;> decide
  · rw [c0.1, c0.2.1]; decide
  · obtain ⟨k1, -, -, k4⟩ := kxS_ksg c0
    rw [c1, k1, k4]
    by_cases z : 18 ≤ Y 143 k
    · rw [if_pos z]; omega
    · rw [if_neg z]
      by_cases y : 16 ≤ Y 143 k
      · rw [if_pos y]; omega
      · rw [if_neg y]; omega
  · rcases c0 with ⟨u1, u2⟩ | ⟨u1, u2⟩ <;> rw [u1, u2] <;> decide
/-- the bracket that is open last -/
theorem kop_cx {X Y : km_Mm} {P ln a0 : Int} {N : Int → Prop} : ∀ (k : Nat) (h e o hb t : Int), kcx X Y P ln N a0 k h e o hb t → (o = 0 → kop (Y 143) k = 0) ∧ (1 ≤ o → 100 ≤ kop (Y 143) k ∧ (kop (Y 143) k = 101 ↔ (hb = o ∧ X 37 12 ≠ 31 ∧ X 37 14 = 0))) := by
  intro k
  induction k with
  | zero => intro h e o hb t c; obtain ⟨_, _, c, _⟩ := c; exact ⟨fun _ => rfl, fun w => by omega⟩
  | succ k ih =>
    intro h e o hb t c
    have kk : kop (Y 143) (k + 1) = if 100 ≤ Y 143 k then Y 143 k else kop (Y 143) k := rfl
    rcases c with ⟨c0, _, c⟩ | ⟨c0, c1, c⟩ | ⟨c0, c1, c2, c3, c4, c⟩ | ⟨c0, c1, c2, c3, _⟩ | ⟨c0, _, _, _, a, f, t1, _, c⟩ | ⟨c0, _, _, _, _, a, f, t1, _, c⟩
    · rw [kk, if_neg (by omega)]; exact ih _ _ _ _ _ c
    · rw [kk, if_pos (by omega)]
      exact ⟨fun w => by omega, fun w => ⟨by omega, by omega, by omega⟩⟩
    · rw [kk, if_pos (by omega)]
      refine ⟨fun w => by omega, fun w => ⟨by omega, fun v => ⟨c2.2.1, by omega, c3.2.2⟩, fun v => ?_⟩⟩
      rcases c0 with u | u
      · exact u.1
      · omega
    · rw [kk, if_pos (by omega)]
      exact ⟨fun w => by omega, fun w => ⟨by omega, fun v => by omega, fun v => by omega⟩⟩
    · rw [kk, if_neg (by omega)]; exact ih _ _ _ _ _ c
    · rw [kk, if_neg (by omega)]; exact ih _ _ _ _ _ c

