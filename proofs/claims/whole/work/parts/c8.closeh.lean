/-! ===== the bracket of a HEAP closes: without an if ===== -/
section PC2
variable {q qY : Nat × Int × Int × Int × Int} {c s : Nat} {X Y : km_Mm} {P ln a0 n z0 p h e o hb t i u T : Int} {B : Int → Int} {N : Int → Prop} {k : Nat} {ov : Option km_V}
theorem st_closeH1 (hP : kPq q P) (ih : kI2 q qY c s P ln a0 z0 B n u (n - p)) (S : kS2 X Y P ln N a0 B n z0 p k h e o hb t) (hi : 0 ≤ i ∧ i ≤ p) (hT : kcT B n (ksk B n 600 p) = 5) (ho : 1 ≤ o) {X' Y' : km_Mm} {N' : Int → Prop} {j : Nat} {h' e' : Int} {Z : km_Mm} (zf : ∀ b j : Int, ¬ (b = 3 ∧ 3 ≤ j ∧ j ≤ 6) → Z b j = X b j) (zT : Z 3 4 = 5) (z3 : Z 3 3 = kcN B n (ksk B n 600 p)) (za : ∀ Q : Option km_V → km_Al → km_Mm → Prop, km_E M_X10_advance [.inr (.inr 3)] (km_A0 q c s) X Q ↔ Q none (km_A0 q c s) Z)
    (r : j + 1 ≤ k ∧ X' 37 9 = (j + 1 : Nat) ∧ Y' 123 39 = (j + 1 : Nat) ∧ Y' 123 41 = h' ∧ X' P 4 = e') (r6 : kOp X' Y' P ln N' a0 (j + 1) h' e' o hb t) (r7 : kwn Y' N' (120 + (z0 + t)) (j + 1)) (r8 : ∀ x, N x → N' x) (f1 : kFX P a0 X X') (f2 : kFY N Y Y') (xf : ∀ b j : Int, ¬ (b = 3 ∧ 3 ≤ j ∧ j ≤ 6) → ¬ (b = P ∧ (j = 4 ∨ j = 8)) → ¬ (b = 37 ∧ j = 9) → ¬ (P + 1 ≤ b ∧ b ≤ P + 4) → X' b j = X b j) (x8' : X' P 8 = z0 + t) (x3' : ∀ j : Int, X' 3 j = Z 3 j) (yf : ∀ b j : Int, ¬ (b = 123 ∧ (j = 36 ∨ j = 39 ∨ j = 41)) → ¬ (138 ≤ b ∧ b ≤ 141) → b ≠ 145 → Y' b j = Y b j) (y36' : Y' 123 36 = z0 + t) (rel : ∀ Q : Option km_V → km_Al → km_Mm → Prop, km_E M_X7_release [.inr (.inr 37), .inl 1] (km_A0 q c s) Z Q ↔ Q none (km_A0 q c s) X') (bnd : ∀ Q : Option km_V → km_Al → km_Mm → Prop, km_E M_X12_bind [.inr (.inr 123), .inl 1] (km_A0 qY c s) Y Q ↔ Q none (km_A0 qY c s) Y') (hw : Y' 143 j = 101 ∨ Y' 143 j = 103) : kEnd q qY c s P ln a0 z0 B n u N i X Y (fun Q => km_G M_X12_expression 35 [some (.inr (.inr 123)), some (.inl ln), ov] [] (km_A0 qY c s) Y Q) := by
  obtain ⟨⟨tk, ⟨x2, x9, x10, x13, xe, x8, x5, xn⟩, ⟨y39, y41, y43, y44, y45, y36⟩, ⟨b1, b2, b3, b4, b5, b6, b7⟩, wn⟩, ⟨s4, s46⟩, op⟩ := S
  obtain ⟨r1, r2, r3, r4, r5⟩ := r
  have hPo := hP.1
  have pp := kTk_p tk (by omega)
  obtain ⟨⟨t1, t2, t3, t4, t5⟩, tx, t26, t29, tt⟩ := tk
  rw [hT] at tt
  obtain ⟨kd, kw⟩ := ktk_s (by omega) tt
  have kw : Y 123 28 = 41 := kw
  have n6 := tx.2.1.2
  obtain ⟨o1, oa, of, ot, od, oc⟩ := op
  have bv := kcd_b _ _ _ _ _ _ od
  have bx := kcx_b _ _ _ _ _ _ oc
  have kn : kop (Y 143) k ≠ 0 := by have := ((kop_cx _ _ _ _ _ _ oc).2 ho).1; omega
  have k300 : k ≤ 128 := by omega
  clear od oc bv bx ot of oa
  obtain ⟨q1, qa, qf, qt, qd, qc⟩ := r6
  have bq := kcd_b _ _ _ _ _ _ qd
  have jj : ((j + 1 : Nat) : Int) - 1 = j := by omega
  have qc2 : (2 ≤ Y' 138 (Y' 144 j) ∧ Y' 138 (Y' 144 j) ≤ 5 ∧ Y' 140 (Y' 144 j) = -1) ∧ (hb = o ∧ Y' 146 (o - 1) = khc (Y' 143) j) ∧ (X' 37 11 = qa - 1 ∧ X' 37 14 = 0) ∧ (X' (P + 1) (qa - 1) = 53 ∧ X' (P + 2) (qa - 1) = Y' 138 (Y' 144 j) + 26 ∧ X' (P + 3) (qa - 1) = -1) ∧ kcx X' Y' P ln N' a0 j (h' - 1) (qa - 1) (o - 1) 0 (t - qt - 1) := by
    rcases qc with ⟨c0, _⟩ | ⟨c0, _⟩ | ⟨c0, c1, c2, c3, c4, c⟩ | ⟨c0, _⟩ | ⟨c0, _⟩ | ⟨c0, _⟩
    · omega
    · omega
    · exact ⟨c1.2, c2.2, ⟨c3.1, c3.2.2⟩, c4, c⟩
    · omega
    · omega
    · omega
  obtain ⟨⟨w2, w5, w140⟩, ⟨ob, ok⟩, ⟨p11, p14⟩, ⟨l1, l2, l3⟩, cx⟩ := qc2
  clear qc
  have bcx := kcx_b _ _ _ _ _ _ cx
  obtain ⟨g1, g2, g3, g4⟩ := kwn_pop (Y1 := Y') r7 rfl (by omega) (fun _ => rfl) (fun _ => rfl)
  have c01 := @khc_01 (Y' 143) j
  have y43' : Y' 123 43 = o := by rw [yf _ _ (by omega) (by omega) (by omega)]; exact y43
  have x10' : X' 37 10 = o := by rw [xf _ _ (by omega) (by omega) (by omega) (by omega)]; exact x10
  have x13' : X' 37 13 = o := by rw [xf _ _ (by omega) (by omega) (by omega) (by omega)]; omega
  have z10 : Z 37 10 = o := by rw [zf _ _ (by omega)]; exact x10
  have eb : a0 ≤ qa - 1 ∧ qa ≤ e' - 1 ∧ e' < 367 ∧ h' ≤ 299 := by omega
  have cs := fun Q => @cl_closeH q c s Z X' P Q (j + 1 : Nat) 54 hP (by rw [zf _ _ (by omega)]; exact s4) (by omega) rel r2 (by omega) (by omega) (by omega) (by omega) (by omega) (by rw [if_pos p14])
  rw [z10, jj, p11, r5] at cs
  have fw : kFX P a0 X (km_up (km_up (km_up (km_up (kEm P 54 0 (km_up X' 37 9 j)) (P + 4) (qa - 1) (e' + 1)) 37 13 0) 37 10 (o - 1)) 37 4 2) := kFX_tr f1 (kFX_tr (kFX_37 hPo (by omega)) (kFX_tr (kFX_kEm hPo (by rw [km_up_o (by omega)]; omega)) (kFX_tr (kFX_row hPo (by omega) (by omega)) (kFX_tr (kFX_37 hPo (by omega)) (kFX_tr (kFX_37 hPo (by omega)) (kFX_37 hPo (by omega)))))))
  obtain ⟨u1, ⟨u2, u3, u4, u5⟩, u6, u7, u8, u9⟩ := @kC_f P 54 j (qa - 1) e' (o - 1) X' hPo r5 _ rfl
  generalize km_up (km_up (km_up (km_up (kEm P 54 0 (km_up X' 37 9 j)) (P + 4) (qa - 1) (e' + 1)) 37 13 0) 37 10 (o - 1)) 37 4 2 = W at *
  have hx := fun M' ht Q => @md_close1 qY c s Y Y' M' Q k (j + 1 : Nat) (Y' 144 j) y39 (by omega) kn bnd r3 (by omega) (by rw [jj]; exact hw) (by rw [jj]) (by omega) (by omega) (by omega) (by rw [y43', ok]; exact c01) ht
  rw [y43', jj, r4] at hx
  have fv : kFY N Y (km_up (km_up (km_up (kHo (Y' 144 j) (km_up (kDr (km_up Y' 123 39 j)) 139 (Y' 144 j) (Y' 145 (h' - 1)))) 123 44 0) 123 43 (o - 1)) 123 45 (Y' 146 (o - 1))) := kFY_tr (fun _ h => h) f2 (kFY_tr (fun _ h => h) (kFY_123 (by omega)) (kFY_tr (fun _ h => h) kFY_kDr (kFY_tr (fun _ h => h) (kFY_138 (by omega) (by omega) (fun w => g3 (r8 _ w)) (fun _ => by have := r7.1 _ bq.2.2.2; omega)) (kFY_tr (fun _ h => h) kFY_kHo (kFY_tr (fun _ h => h) (kFY_123 (by omega)) (kFY_tr (fun _ h => h) (kFY_123 (by omega)) (kFY_123 (by omega))))))))
  obtain ⟨v1, v2, v3, v4, v5, v6, v7, v8⟩ := @kD_f 139 j (Y' 144 j) (Y' 145 (h' - 1)) (o - 1) (Y' 146 (o - 1)) Y' (Or.inl rfl) h' r4 _ rfl
  generalize km_up (km_up (km_up (kHo (Y' 144 j) (km_up (kDr (km_up Y' 123 39 j)) 139 (Y' 144 j) (Y' 145 (h' - 1)))) 123 44 0) 123 43 (o - 1)) 123 45 (Y' 146 (o - 1)) = V at *
  generalize hww : Y' 144 j = w at *
  have v1' : ∀ b i : Int, ¬ (b = 123 ∧ (i = 36 ∨ i = 39 ∨ i = 41 ∨ i = 43 ∨ i = 44 ∨ i = 45)) → ¬ (138 ≤ b ∧ b ≤ 141) → b ≠ 145 → V b i = Y b i := fun b i c1 c2 c3 => by rw [v1 b i (by omega) (by omega) (by omega), yf b i (by omega) c2 c3]
  have tv : kTx V B n := kTx_fr tx (v1' _ _ (by omega) (by omega) (by omega)) (fun i => v1' _ _ (by omega) (by omega) (by omega)) (fun i => v1' _ _ (by omega) (by omega) (by omega))
  obtain ⟨M, m1, m2, m3⟩ := @kTk_take qY c s V B n _ tv ⟨by omega, pp.2⟩ ((v1' _ _ (by omega) (by omega) (by omega)).trans t26)
  have mf : ∀ b i : Int, ¬ (b = 123 ∧ (i = 39 ∨ i = 41 ∨ i = 43 ∨ i = 44 ∨ i = 45 ∨ (26 ≤ i ∧ i ≤ 29))) → ¬ (b = 139 ∧ i = w) → ¬ (b = 145 ∧ i = h' - 1) → M b i = Y' b i := fun b i c1 c2 c3 => by rw [m1 b i (by omega), v1 b i (by omega) c2 c3]
  have e143' : M 143 = Y' 143 := funext fun i => mf 143 i (by omega) (by omega) (by omega)
  have hYw : ∀ i : Int, 0 ≤ i → i < j → M 143 i = Y' 143 i ∧ M 144 i = Y' 144 i := fun i _ _ => ⟨mf _ _ (by omega) (by omega) (by omega), mf _ _ (by omega) (by omega) (by omega)⟩
  obtain ⟨-, cc2⟩ := @kpieces_cg X' Y' W M P ln a0 (120 + (z0 + t)) w N' j (qa - 1) (h' - 1) (o - 1) (kwn_le r7) g3 g4 (fun r i r1 r2 _ ie => u7 r i r1 r2 (by omega) (by omega)) (fun k _ hk => by rw [u1 _ _ (by omega) (by omega) (by omega)]; exact hk) (fun i _ _ => ⟨u1 _ _ (by omega) (by omega) (by omega), u1 _ _ (by omega) (by omega) (by omega)⟩) (fun r x r1 r2 xw => mf r x (by omega) (by omega) (by omega)) hYw (fun i _ _ => mf _ _ (by omega) (by omega) (by omega)) (fun i _ _ => mf _ _ (by omega) (by omega) (by omega))
  have cx2 := cc2 _ _ _ _ (Int.le_refl _) (Int.le_refl _) (Int.le_refl _) cx
  have hk1 : kinH hb = 1 := by unfold kinH; rw [if_neg (by omega)]
  rw [hk1] at qd
  have cd2 : kcd W M P ln (fun x => N' x ∨ x = w) qf 1 (Y' 145 (h' - 1)) qa e' qt := kcd_cg (lo := qa) (hi := e') (fun r i r1 r2 ia ie => u7 r i r1 r2 (by omega) (by omega)) (fun k _ hk => by rw [u1 _ _ (by omega) (by omega) (by omega)]; exact hk) (fun x hx => ⟨Or.inl hx, fun r r1 r2 => mf r x (by omega) (fun v => g3 (by rw [← v.2]; exact hx)) (by omega)⟩) _ _ _ _ _ _ (Int.le_refl _) (Int.le_refl _) qd
  have m145 : M 145 (h' - 1) = w := by rw [m1 _ _ (by omega), v8]
  have m138 : M 138 w = Y' 138 w := mf _ _ (by omega) (by omega) (by omega)
  have m140 : M 140 w = -1 := by rw [mf _ _ (by omega) (by omega) (by omega)]; exact w140
  have m139 : M 139 w = Y' 145 (h' - 1) := by rw [m1 _ _ (by omega), v7]
  clear bq bcx cx qd cc2
  refine kEnd_step (N1 := fun x => N' x ∨ x = w) (i1 := i + 1) (fun x hx => Or.inl (r8 x hx)) fw (kFY_tr (fun _ h => h) fv (kFY_M m1)) (fun Q => ps_tok x2 ⟨hi.1, by omega⟩ n6 za zT (by decide) cs) (G1 := fun Q => km_G M_X12_expression 35 [some (.inr (.inr 123)), some (.inl ln), some (.inl 1)] [] (km_A0 qY c s) M Q) (fun Q => ?_) (ih W M (fun x => N' x ∨ x = w) (kcN B n (ksk B n 600 p)) j h' (e' + 1) (o - 1) 0 t (i + 1) _ (by omega) ?_ (by omega) (by omega))
  · rw [ex_close (r := 1) s46 kd kw (Or.inr rfl) (fun Q => hx M m3 Q)]
    exact Iff.rfl
  · have ee : e' + 1 - 1 = e' := by omega
    refine ⟨⟨m2 W ?_ ?_ ?_, ⟨?_, u3, u4, u5, u6, ?_, ?_, ?_⟩, ⟨?_, ?_, ?_, ?_, ?_, ?_⟩, ⟨b1, b2, b3, b4, by omega, b6, b7⟩, kwn_fr g1 (by omega) hYw (fun x hx => Or.inl hx)⟩, ⟨u2, ?_⟩, q1, qa - 1, qf + 1, qt + 1, ⟨Or.inr m145, Or.inr (Or.inr (Or.inr (Or.inr (Or.inr ⟨?_, rfl, ?_, ?_, u8, Or.inl ⟨?_, ?_, ?_, ?_⟩⟩))))⟩, ?_⟩
    · rw [u1 _ _ (by omega) (by omega) (by omega), xf _ _ (by omega) (by omega) (by omega) (by omega)]; exact t1
    · rw [u1 _ _ (by omega) (by omega) (by omega), x3']; exact z3
    · rw [← t3]; exact funext fun i => by rw [u1 _ _ (by omega) (by omega) (by omega), xf _ _ (by omega) (by omega) (by omega) (by omega)]
    · rw [u1 _ _ (by omega) (by omega) (by omega), xf _ _ (by omega) (by omega) (by omega) (by omega)]; exact x2
    · rw [u1 _ _ (by omega) (by omega) (by omega)]; exact x8'
    · rw [u1 _ _ (by omega) (by omega) (by omega), xf _ _ (by omega) (by omega) (by omega) (by omega)]; exact x5
    · rw [u1 _ _ (by omega) (by omega) (by omega), xf _ _ (by omega) (by omega) (by omega) (by omega)]; exact xn
    · rw [m1 _ _ (by omega), v2]
    · rw [m1 _ _ (by omega), v3]
    · rw [m1 _ _ (by omega), v4]
    · rw [m1 _ _ (by omega), v5]; rfl
    · rw [m1 _ _ (by omega), v6, e143']; exact ok
    · rw [mf _ _ (by omega) (by omega) (by omega)]; exact y36'
    · rw [mf _ _ (by omega) (by omega) (by omega), yf _ _ (by omega) (by omega) (by omega)]; exact s46
    · rw [m145, m138]; exact ⟨w2, w5⟩
    · rw [u7 1 _ (by omega) (by omega) (by omega) (by omega)]; exact l1
    · rw [u7 2 _ (by omega) (by omega) (by omega) (by omega), m145, m138]; exact l2
    · rw [m145]; exact m140
    · rw [u7 3 _ (by omega) (by omega) (by omega) (by omega)]; exact l3
    · rw [ee]; exact u9
    · rw [m145, m139, ee, show qa - 1 + 1 = qa by omega, show qt + 1 - 1 = qt by omega]; exact cd2
    · rw [show t - (qt + 1) = t - qt - 1 by omega]; exact cx2
end PC2

