/-! ===== the bracket of a HEAP is tested ===== -/
theorem kI_f {P a e : Int} {U : km_Mm} (hP : P = 40 ∨ P = 46) (h4 : U P 4 = e) (W : km_Mm) (hW : W = kXo 1 (km_up (km_up (kEm P 54 0 U) (P + 3) a (e + 1)) 37 14 1)) : (∀ b j : Int, ¬ (b = P ∧ j = 4) → ¬ (P + 1 ≤ b ∧ b ≤ P + 4) → ¬ (b = 37 ∧ (j = 4 ∨ j = 6 ∨ j = 14)) → W b j = U b j) ∧ (W 37 4 = 1 ∧ W 37 6 = 1 ∧ W 37 14 = 1) ∧ W P 4 = e + 1 ∧ (∀ r j : Int, 1 ≤ r → r ≤ 4 → j ≠ e → ¬ (r = 3 ∧ j = a) → W (P + r) j = U (P + r) j) ∧ W (P + 3) a = e + 1 ∧ W (P + 1) e = 54 := by
  subst hW
  unfold kXo
  refine ⟨fun b j h1 h2 h3 => ?_, ⟨?_, km_upx_s, ?_⟩, ?_, fun r j r1 r2 hj hr => ?_, ?_, ?_⟩
  · rw [km_up_ne (by omega), km_up_ne (by omega), km_up_ne (by omega), km_up_ne (by omega)]
    by_cases z : b = P
    · rw [z, kEm_P, if_neg (by omega)]
    · rw [kEm_o z (by omega) (by omega) (by omega) (by omega)]
  · rw [km_upx_i (by decide), km_upx_s]
  · rw [km_upx_i (by decide), km_upx_i (by decide), km_upx_s]
  · rw [km_up_o (by omega), km_up_o (by omega), km_up_o (by omega), km_up_o (by omega), kEm_P, if_pos rfl, h4]
  · rw [km_up_o (by omega), km_up_o (by omega), km_up_o (by omega), km_up_ne (by omega)]
    obtain ⟨v1, v2, v3, v4, -⟩ := @kEm_r P 54 0 j U
    rw [h4] at v1 v2 v3 v4
    have rr : r = 1 ∨ r = 2 ∨ r = 3 ∨ r = 4 := by omega
    rcases rr with rfl | rfl | rfl | rfl
    · rw [v1, if_neg hj]
    · rw [v2, if_neg hj]
    · rw [v3, if_neg hj]
    · rw [v4, if_neg hj]
  · rw [km_up_o (by omega), km_up_o (by omega), km_up_o (by omega), km_upx_s]
  · have v := (@kEm_r P 54 0 e U).1
    rw [h4, if_pos rfl] at v
    rw [km_up_o (by omega), km_up_o (by omega), km_up_o (by omega), km_up_o (by omega), v]
theorem kIr_f {w x j : Int} {U : km_Mm} {h : Int} (h41 : U 123 41 = h) (V : km_Mm) (hV : V = km_up (km_up (km_up (km_up (kDr (km_up U 143 j 102)) 139 w x) 123 45 0) 123 47 1) 123 46 1) : (∀ b i : Int, ¬ (b = 123 ∧ (i = 41 ∨ i = 45 ∨ i = 46 ∨ i = 47)) → ¬ (b = 139 ∧ i = w) → ¬ (b = 143 ∧ i = j) → V b i = U b i) ∧ V 123 41 = h - 1 ∧ V 123 45 = 0 ∧ V 123 47 = 1 ∧ V 123 46 = 1 ∧ V 143 j = 102 ∧ V 139 w = x := by
  subst hV
  refine ⟨fun b i h1 h2 h3 => ?_, ?_, ?_, ?_, km_upx_s, ?_, ?_⟩
  · rw [km_up_ne (by omega), km_up_ne (by omega), km_up_ne (by omega), km_up_ne (by omega), kDr_o (by omega), km_up_ne (by omega)]
  · rw [km_upx_i (by decide), km_upx_i (by decide), km_upx_i (by decide), km_up_o (by decide), kDr_41, km_up_o (by decide), h41]
  · rw [km_upx_i (by decide), km_upx_i (by decide), km_upx_s]
  · rw [km_upx_i (by decide), km_upx_s]
  · rw [km_up_o (by decide), km_up_o (by decide), km_up_o (by decide), km_up_o (by decide), kDr_o (by omega), km_upx_s]
  · rw [km_up_o (by decide), km_up_o (by decide), km_up_o (by decide), km_upx_s]
section PC4
variable {q qY : Nat × Int × Int × Int × Int} {c s : Nat} {X Y : km_Mm} {P ln a0 n z0 p h e o hb t i u T : Int} {B : Int → Int} {N : Int → Prop} {k : Nat} {ov : Option km_V}
theorem st_if1 (hP : kPq q P) (ih : kI1 q qY c s P ln a0 z0 B n u (n - p)) (S : kS2 X Y P ln N a0 B n z0 p k h e o hb t) (hi : 0 ≤ i ∧ i ≤ p) (hT : kcT B n (ksk B n 600 p) = 27) (ho : 1 ≤ o) {X' Y' : km_Mm} {N' : Int → Prop} {j : Nat} {h' e' : Int} {Z : km_Mm} (zf : ∀ b j : Int, ¬ (b = 3 ∧ 3 ≤ j ∧ j ≤ 6) → Z b j = X b j) (zT : Z 3 4 = 27) (z3 : Z 3 3 = kcN B n (ksk B n 600 p)) (za : ∀ Q : Option km_V → km_Al → km_Mm → Prop, km_E M_X10_advance [.inr (.inr 3)] (km_A0 q c s) X Q ↔ Q none (km_A0 q c s) Z)
    (r : j + 1 ≤ k ∧ X' 37 9 = (j + 1 : Nat) ∧ Y' 123 39 = (j + 1 : Nat) ∧ Y' 123 41 = h' ∧ X' P 4 = e') (r6 : kOp X' Y' P ln N' a0 (j + 1) h' e' o hb t) (r7 : kwn Y' N' (120 + (z0 + t)) (j + 1)) (r8 : ∀ x, N x → N' x) (f1 : kFX P a0 X X') (f2 : kFY N Y Y') (xf : ∀ b j : Int, ¬ (b = 3 ∧ 3 ≤ j ∧ j ≤ 6) → ¬ (b = P ∧ (j = 4 ∨ j = 8)) → ¬ (b = 37 ∧ j = 9) → ¬ (P + 1 ≤ b ∧ b ≤ P + 4) → X' b j = X b j) (x8' : X' P 8 = z0 + t) (x3' : ∀ j : Int, X' 3 j = Z 3 j) (yf : ∀ b j : Int, ¬ (b = 123 ∧ (j = 36 ∨ j = 39 ∨ j = 41)) → ¬ (138 ≤ b ∧ b ≤ 141) → b ≠ 145 → Y' b j = Y b j) (y36' : Y' 123 36 = z0 + t) (rel : ∀ Q : Option km_V → km_Al → km_Mm → Prop, km_E M_X7_release [.inr (.inr 37), .inl 1] (km_A0 q c s) Z Q ↔ Q none (km_A0 q c s) X') (bnd : ∀ Q : Option km_V → km_Al → km_Mm → Prop, km_E M_X12_bind [.inr (.inr 123), .inl 1] (km_A0 qY c s) Y Q ↔ Q none (km_A0 qY c s) Y') (h6 : hb = o ∧ X 37 12 ≠ 31 ∧ X 37 14 = 0) (hw : Y' 143 j = 101) : kEnd q qY c s P ln a0 z0 B n u N i X Y (fun Q => km_G M_X12_expression 35 [some (.inr (.inr 123)), some (.inl ln), ov] [] (km_A0 qY c s) Y Q) := by
  obtain ⟨⟨tk, ⟨x2, x9, x10, x13, xe, x8, x5, xn⟩, ⟨y39, y41, y43, y44, y45, y36⟩, ⟨b1, b2, b3, b4, b5, b6, b7⟩, wn⟩, ⟨s4, s46⟩, op⟩ := S
  obtain ⟨r1, r2, r3, r4, r5⟩ := r
  have hPo := hP.1
  have pp := kTk_p tk (by omega)
  obtain ⟨⟨t1, t2, t3, t4, t5⟩, tx, t26, t29, tt⟩ := tk
  rw [hT] at tt
  obtain ⟨kd, kw⟩ := ktk_w (by omega) tt
  have kw : Y 123 28 = 7 := kw
  have n6 := tx.2.1.2
  obtain ⟨o1, oa, of, ot, od, oc⟩ := op
  have bv := kcd_b _ _ _ _ _ _ od
  have bx := kcx_b _ _ _ _ _ _ oc
  have kn : kop (Y 143) k = 101 := ((kop_cx _ _ _ _ _ _ oc).2 ho).2.mpr h6
  have k300 : k ≤ 128 := by omega
  clear od oc bv bx ot of oa
  obtain ⟨q1, qa, qf, qt, qd, qc⟩ := r6
  have bq := kcd_b _ _ _ _ _ _ qd
  have jj : ((j + 1 : Nat) : Int) - 1 = j := by omega
  have qc2 : (2 ≤ Y' 138 (Y' 144 j) ∧ Y' 138 (Y' 144 j) ≤ 4 ∧ X' 38 j = 4 ∧ X' 37 12 = Y' 138 (Y' 144 j) + 26) ∧ (hb = o ∧ Y' 146 (o - 1) = khc (Y' 143) j) ∧ (X' 37 11 = qa - 1 ∧ X' 37 14 = 0) ∧ (X' (P + 1) (qa - 1) = 53 ∧ X' (P + 2) (qa - 1) = Y' 138 (Y' 144 j) + 26 ∧ X' (P + 3) (qa - 1) = -1) ∧ kcx X' Y' P ln N' a0 j (h' - 1) (qa - 1) (o - 1) 0 (t - qt - 1) := by
    rcases qc with ⟨c0, _⟩ | ⟨c0, _⟩ | ⟨c0, c1, c2, c3, c4, c⟩ | ⟨c0, _⟩ | ⟨c0, _⟩ | ⟨c0, _⟩
    · omega
    · omega
    · exact ⟨⟨c1.2.1, by omega, c1.1, c3.2.1⟩, c2.2, ⟨c3.1, c3.2.2⟩, c4, c⟩
    · omega
    · omega
    · omega
  obtain ⟨⟨w2, w5, w38, w12⟩, ⟨ob, ok⟩, ⟨p11, p14⟩, ⟨l1, l2, l3⟩, cx⟩ := qc2
  clear qc
  have bcx := kcx_b _ _ _ _ _ _ cx
  obtain ⟨g1, g2, g3, g4⟩ := kwn_pop (Y1 := Y') r7 rfl (by omega) (fun _ => rfl) (fun _ => rfl)
  have c01 := @khc_01 (Y' 143) j
  have y43' : Y' 123 43 = o := by rw [yf _ _ (by omega) (by omega) (by omega)]; exact y43
  have eb : a0 ≤ qa - 1 ∧ qa ≤ e' - 1 ∧ e' < 367 ∧ h' ≤ 299 := by omega
  have cs := fun Q => @cl_if q c s Z X' P Q hP (by rw [zf _ _ (by omega)]; exact s4) (by rw [zf _ _ (by omega), zf _ _ (by omega), zf _ _ (by omega), zf _ _ (by omega), x13, x10]; omega) rel (by omega) (by omega)
  rw [p11, r5] at cs
  have fw : kFX P a0 X (kXo 1 (km_up (km_up (kEm P 54 0 X') (P + 3) (qa - 1) (e' + 1)) 37 14 1)) := kFX_tr f1 (kFX_tr (kFX_kEm hPo (by omega)) (kFX_tr (kFX_row hPo (by omega) (by omega)) (kFX_tr (kFX_37 hPo (by omega)) (kFX_kXo hPo))))
  obtain ⟨u1, ⟨u2, u3, u4⟩, u6, u7, u8, u9⟩ := @kI_f P (qa - 1) e' X' hPo r5 _ rfl
  generalize kXo 1 (km_up (km_up (kEm P 54 0 X') (P + 3) (qa - 1) (e' + 1)) 37 14 1) = W at *
  have hx := fun M' ht Q => @md_if qY c s Y Y' M' Q k (j + 1 : Nat) (Y' 144 j) y39 (by omega) kn bnd r3 (by omega) (by rw [jj]) (by omega) (by omega) ht
  rw [jj, r4] at hx
  have fv : kFY N Y (km_up (km_up (km_up (km_up (kDr (km_up Y' 143 j 102)) 139 (Y' 144 j) (Y' 145 (h' - 1))) 123 45 0) 123 47 1) 123 46 1) := kFY_tr (fun _ h => h) f2 (kFY_tr (fun _ h => h) (kFY_143 (by omega)) (kFY_tr (fun _ h => h) kFY_kDr (kFY_tr (fun _ h => h) (kFY_138 (by omega) (by omega) (fun w => g3 (r8 _ w)) (fun _ => by have := r7.1 _ bq.2.2.2; omega)) (kFY_tr (fun _ h => h) (kFY_123 (by omega)) (kFY_tr (fun _ h => h) (kFY_123 (by omega)) (kFY_123 (by omega)))))))
  obtain ⟨v1, v2, v3, v4, v5, v6, v7⟩ := @kIr_f (Y' 144 j) (Y' 145 (h' - 1)) j Y' h' r4 _ rfl
  generalize km_up (km_up (km_up (km_up (kDr (km_up Y' 143 j 102)) 139 (Y' 144 j) (Y' 145 (h' - 1))) 123 45 0) 123 47 1) 123 46 1 = V at *
  generalize hww : Y' 144 j = w at *
  have v1' : ∀ b i : Int, ¬ (b = 123 ∧ (i = 36 ∨ i = 39 ∨ i = 41 ∨ i = 45 ∨ i = 46 ∨ i = 47)) → ¬ (138 ≤ b ∧ b ≤ 141) → b ≠ 145 → b ≠ 143 → V b i = Y b i := fun b i c1 c2 c3 c4 => by rw [v1 b i (by omega) (by omega) (by omega), yf b i (by omega) c2 c3]
  have tv : kTx V B n := kTx_fr tx (v1' _ _ (by omega) (by omega) (by omega) (by omega)) (fun i => v1' _ _ (by omega) (by omega) (by omega) (by omega)) (fun i => v1' _ _ (by omega) (by omega) (by omega) (by omega))
  obtain ⟨M, m1, m2, m3⟩ := @kTk_take qY c s V B n _ tv ⟨by omega, pp.2⟩ ((v1' _ _ (by omega) (by omega) (by omega) (by omega)).trans t26)
  have mf : ∀ b i : Int, ¬ (b = 123 ∧ (i = 41 ∨ i = 45 ∨ i = 46 ∨ i = 47 ∨ (26 ≤ i ∧ i ≤ 29))) → ¬ (b = 139 ∧ i = w) → ¬ (b = 143 ∧ i = j) → M b i = Y' b i := fun b i c1 c2 c3 => by rw [m1 b i (by omega), v1 b i (by omega) c2 c3]
  have hYw : ∀ i : Int, 0 ≤ i → i < j → M 143 i = Y' 143 i ∧ M 144 i = Y' 144 i := fun i _ _ => ⟨mf _ _ (by omega) (by omega) (by omega), mf _ _ (by omega) (by omega) (by omega)⟩
  have h9 : ∀ k : Int, 0 ≤ k → tb (X' P 9) k = true → tb (W P 9) k = true := fun k _ hk => by rw [u1 _ _ (by omega) (by omega) (by omega)]; exact hk
  have hN : ∀ x, N' x → N' x ∧ ∀ r : Int, 138 ≤ r → r ≤ 141 → M r x = Y' r x := fun x hx => ⟨hx, fun r r1 r2 => mf r x (by omega) (fun v => g3 (by rw [← v.2]; exact hx)) (by omega)⟩
  have hk1 : kinH hb = 1 := by unfold kinH; rw [if_neg (by omega)]
  rw [hk1] at qd
  have cd2 : kcd W M P ln N' qf 1 (Y' 145 (h' - 1)) qa e' qt := kcd_cg (lo := qa) (hi := e') (fun r i r1 r2 ia ie => u7 r i r1 r2 (by omega) (by omega)) h9 hN _ _ _ _ _ _ (Int.le_refl _) (Int.le_refl _) qd
  have cx2 : kcx W M P ln N' a0 j (h' - 1) (qa - 1) (o - 1) 0 (t - qt - 1) := by
    refine kcx_cg (K := j) (H := h' - 1) (E := qa - 1) (O := o - 1) (fun r i r1 r2 _ ie => u7 r i r1 r2 (by omega) (by omega)) h9 hN (fun i j0 j1 => ⟨u1 _ _ (by omega) (by omega) (by omega), u1 _ _ (by omega) (by omega) (by omega), (hYw i j0 j1).1, (hYw i j0 j1).2, fun _ r r1 r2 => mf r _ (by omega) (fun v => g4 i j0 j1 v.2) (by omega)⟩) (fun i _ _ => mf _ _ (by omega) (by omega) (by omega)) (fun i _ _ => mf _ _ (by omega) (by omega) (by omega)) j _ _ _ _ _ (Int.le_refl _) (Int.le_refl _) (Int.le_refl _) (Int.le_refl _) (fun z => absurd rfl z) (fun i j0 j1 hj => ?_) cx
    rcases r7.2.1 i j0 (by omega) with u | u
    · exact absurd u.1 hj
    · omega
  have mk : M 143 j = 102 := by rw [m1 _ _ (by omega), v6]
  have mw : M 144 j = w := by rw [mf _ _ (by omega) (by omega) (by omega)]; exact hww
  have m138 : M 138 w = Y' 138 w := mf _ _ (by omega) (by omega) (by omega)
  have m139 : M 139 w = Y' 145 (h' - 1) := by rw [m1 _ _ (by omega), v7]
  have kw1 : kwn M N' (120 + (z0 + t)) (j + 1) := kwn_push (kwn_le r7) (by omega) hYw (Or.inr ⟨by omega, by rw [mw]; exact g2, by rw [mw]; exact g3, fun i j0 j1 hj => by rw [mw, ← hww]; exact r7.2.2 i j j0 j1 (by omega) hj (by omega)⟩)
  have kcm : khc (M 143) j = khc (Y' 143) j := khc_cg j (fun i j0 j1 => (hYw i j0 j1).1)
  clear bq bcx cx qd
  refine kEnd_step (N1 := N') (i1 := i + 1) r8 fw (kFY_tr (fun _ h => h) fv (kFY_M m1)) (fun Q => ps_tok x2 ⟨hi.1, by omega⟩ n6 za zT (by decide) cs) (G1 := fun Q => km_G M_X12_expression 35 [some (.inr (.inr 123)), some (.inl ln), some (.inl 1)] [] (km_A0 qY c s) M Q) (fun Q => ?_) (ih W M N' (kcN B n (ksk B n 600 p)) (j + 1) (h' - 1) (e' + 1) o hb t (i + 1) _ (by omega) ?_ (by omega) (by omega))
  · rw [ex_if (r := 1) s46 kd kw (Or.inr rfl) (fun Q => hx M m3 Q)]
    exact Iff.rfl
  · have ee : e' + 1 - 1 = e' := by omega
    have w11 : W 37 11 = qa - 1 := by rw [u1 _ _ (by omega) (by omega) (by omega)]; exact p11
    have kc : khc (M 143) (j + 1) = 0 := by
      have kc : khc (M 143) (j + 1) = if M 143 j = 7 ∨ (16 ≤ M 143 j ∧ M 143 j ≤ 20) then khc (M 143) j else if 10 ≤ M 143 j ∧ M 143 j ≤ 15 then 1 else 0 := rfl
      rw [kc, mk, if_neg (by decide), if_neg (by decide)]
    refine ⟨⟨m2 W ?_ ?_ ?_, ⟨?_, ?_, ?_, ?_, u6, ?_, ?_, ?_⟩, ⟨?_, ?_, ?_, ?_, ?_, ?_⟩, ⟨b1, b2, b3, b4, b5, b6, b7⟩, kw1⟩, ⟨u2, ?_, Or.inr ⟨?_, kc⟩, ?_⟩, Or.inr (Or.inr (Or.inr (Or.inl ⟨⟨mk, ?_, ?_, ?_⟩, ⟨by omega, ob, ?_⟩, ⟨?_, u4⟩, ⟨?_, ?_, ?_, ?_⟩, qf, qt, ?_, ?_⟩)))⟩
    · rw [u1 _ _ (by omega) (by omega) (by omega), xf _ _ (by omega) (by omega) (by omega) (by omega)]; exact t1
    · rw [u1 _ _ (by omega) (by omega) (by omega), x3']; exact z3
    · rw [← t3]; exact funext fun i => by rw [u1 _ _ (by omega) (by omega) (by omega), xf _ _ (by omega) (by omega) (by omega) (by omega)]
    · rw [u1 _ _ (by omega) (by omega) (by omega), xf _ _ (by omega) (by omega) (by omega) (by omega)]; exact x2
    · rw [u1 _ _ (by omega) (by omega) (by omega)]; exact r2
    · rw [u1 _ _ (by omega) (by omega) (by omega), xf _ _ (by omega) (by omega) (by omega) (by omega)]; exact x10
    · rw [u1 _ _ (by omega) (by omega) (by omega), xf _ _ (by omega) (by omega) (by omega) (by omega)]; exact x13
    · rw [u1 _ _ (by omega) (by omega) (by omega)]; exact x8'
    · rw [u1 _ _ (by omega) (by omega) (by omega), xf _ _ (by omega) (by omega) (by omega) (by omega)]; exact x5
    · rw [u1 _ _ (by omega) (by omega) (by omega), xf _ _ (by omega) (by omega) (by omega) (by omega)]; exact xn
    · rw [mf _ _ (by omega) (by omega) (by omega)]; exact r3
    · rw [m1 _ _ (by omega), v2]
    · rw [mf _ _ (by omega) (by omega) (by omega)]; exact y43'
    · rw [mf _ _ (by omega) (by omega) (by omega), yf _ _ (by omega) (by omega) (by omega)]; exact y44
    · rw [m1 _ _ (by omega), v3, kc]
    · rw [mf _ _ (by omega) (by omega) (by omega)]; exact y36'
    · rw [u3, m1 _ _ (by omega), v4]
    · rw [m1 _ _ (by omega), v4]
    · rw [m1 _ _ (by omega), v5]
    · rw [u1 _ _ (by omega) (by omega) (by omega)]; exact w38
    · rw [mw, m138]; exact w2
    · rw [mw, m138]; exact w5
    · rw [mf _ _ (by omega) (by omega) (by omega), kcm]; exact ok
    · rw [u1 _ _ (by omega) (by omega) (by omega), mw, m138]; exact w12
    · rw [w11, u7 1 _ (by omega) (by omega) (by omega) (by omega)]; exact l1
    · rw [w11, u7 2 _ (by omega) (by omega) (by omega) (by omega), mw, m138]; exact l2
    · rw [w11]; exact u8
    · rw [ee]; exact u9
    · rw [mw, m139, w11, ee, show qa - 1 + 1 = qa by omega]; exact cd2
    · rw [w11, show t - 1 - qt = t - qt - 1 by omega]; exact cx2
end PC4

