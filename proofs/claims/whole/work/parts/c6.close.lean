/-! ===== a bracket closes: one of no HEAP ===== -/
theorem kwn_le {Y : km_Mm} {N : Int → Prop} {z : Int} {k : Nat} (h : kwn Y N z (k + 1)) : kwn Y N z k := ⟨h.1, fun j j0 j1 => h.2.1 j j0 (by omega), fun i j i0 ij jk => h.2.2 i j i0 ij (by omega)⟩
section PC
variable {q qY : Nat × Int × Int × Int × Int} {c s : Nat} {X Y : km_Mm} {P ln a0 n z0 p h e o hb t i u T : Int} {B : Int → Int} {N : Int → Prop} {k : Nat} {ov : Option km_V}
theorem st_close0 (hP : kPq q P) (ih : kI2 q qY c s P ln a0 z0 B n u (n - p)) (S : kS2 X Y P ln N a0 B n z0 p k h e o hb t) (hi : 0 ≤ i ∧ i ≤ p) (hT : kcT B n (ksk B n 600 p) = 5) (ho : 1 ≤ o) {X' Y' : km_Mm} {N' : Int → Prop} {j : Nat} {h' e' : Int} {Z : km_Mm} (zf : ∀ b j : Int, ¬ (b = 3 ∧ 3 ≤ j ∧ j ≤ 6) → Z b j = X b j) (zT : Z 3 4 = 5) (z3 : Z 3 3 = kcN B n (ksk B n 600 p)) (za : ∀ Q : Option km_V → km_Al → km_Mm → Prop, km_E M_X10_advance [.inr (.inr 3)] (km_A0 q c s) X Q ↔ Q none (km_A0 q c s) Z)
    (r : j + 1 ≤ k ∧ X' 37 9 = (j + 1 : Nat) ∧ Y' 123 39 = (j + 1 : Nat) ∧ Y' 123 41 = h' ∧ X' P 4 = e') (r6 : kOp X' Y' P ln N' a0 (j + 1) h' e' o hb t) (r7 : kwn Y' N' (120 + (z0 + t)) (j + 1)) (r8 : ∀ x, N x → N' x) (f1 : kFX P a0 X X') (f2 : kFY N Y Y') (xf : ∀ b j : Int, ¬ (b = 3 ∧ 3 ≤ j ∧ j ≤ 6) → ¬ (b = P ∧ (j = 4 ∨ j = 8)) → ¬ (b = 37 ∧ j = 9) → ¬ (P + 1 ≤ b ∧ b ≤ P + 4) → X' b j = X b j) (x8' : X' P 8 = z0 + t) (x3' : ∀ j : Int, X' 3 j = Z 3 j) (yf : ∀ b j : Int, ¬ (b = 123 ∧ (j = 36 ∨ j = 39 ∨ j = 41)) → ¬ (138 ≤ b ∧ b ≤ 141) → b ≠ 145 → Y' b j = Y b j) (y36' : Y' 123 36 = z0 + t) (rel : ∀ Q : Option km_V → km_Al → km_Mm → Prop, km_E M_X7_release [.inr (.inr 37), .inl 1] (km_A0 q c s) Z Q ↔ Q none (km_A0 q c s) X') (bnd : ∀ Q : Option km_V → km_Al → km_Mm → Prop, km_E M_X12_bind [.inr (.inr 123), .inl 1] (km_A0 qY c s) Y Q ↔ Q none (km_A0 qY c s) Y') (hw : Y' 143 j = 100) : kEnd q qY c s P ln a0 z0 B n u N i X Y (fun Q => km_G M_X12_expression 35 [some (.inr (.inr 123)), some (.inl ln), ov] [] (km_A0 qY c s) Y Q) := by
  obtain ⟨⟨tk, ⟨x2, x9, x10, x13, xe, x8, x5, xn⟩, ⟨y39, y41, y43, y44, y45, y36⟩, ⟨b1, b2, b3, b4, b5, b6, b7⟩, wn⟩, ⟨s4, s46⟩, op⟩ := S
  obtain ⟨r1, r2, r3, r4, r5⟩ := r
  have hPo := hP.1
  have pp := kTk_p tk (by omega)
  obtain ⟨⟨t1, t2, t3, t4, t5⟩, tx, t26, t29, tt⟩ := tk
  rw [hT] at tt
  obtain ⟨kd, kw⟩ := ktk_s (by omega) tt
  have kw : Y 123 28 = 41 := kw
  have n6 := tx.2.1.2
  obtain ⟨o1, oa, of, ot, od, oc⟩ := op
  have bv := kcd_b _ _ _ _ _ _ od
  have bx := kcx_b _ _ _ _ _ _ oc
  have kn : kop (Y 143) k ≠ 0 := by have := ((kop_cx _ _ _ _ _ _ oc).2 ho).1; omega
  have e143 : Y' 143 = Y 143 := funext fun j => yf 143 j (by omega) (by omega) (by omega)
  obtain ⟨q1, qa, qf, qt, qd, qc⟩ := r6
  have bq := kcd_b _ _ _ _ _ _ qd
  have jj : ((j + 1 : Nat) : Int) - 1 = j := by omega
  have qc2 : (1 ≤ o ∧ hb ≤ o - 1 ∧ Y' 146 (o - 1) = khc (Y' 143) j) ∧ kcx X' Y' P ln N' a0 j (h' - 1) qa (o - 1) hb (t - qt) := by
    rcases qc with ⟨c0, _⟩ | ⟨c0, c1, c⟩ | ⟨c0, _⟩ | ⟨c0, _⟩ | ⟨c0, _⟩ | ⟨c0, _⟩
    · omega
    · exact ⟨c1, c⟩
    · omega
    · omega
    · omega
    · omega
  obtain ⟨⟨-, ob, ok⟩, cx⟩ := qc2
  have bcx := kcx_b _ _ _ _ _ _ cx
  have c01 := @khc_01 (Y' 143) j
  have y43' : Y' 123 43 = o := by rw [yf _ _ (by omega) (by omega) (by omega)]; exact y43
  have cs := fun Q => @cl_close q c s Z X' Q (j + 1 : Nat) (by rw [zf _ _ (by omega)]; exact s4) (by rw [zf _ _ (by omega), x10]; omega) rel r2 (by omega) (by rw [zf _ _ (by omega), xf _ _ (by omega) (by omega) (by omega) (by omega)]) (by rw [zf _ _ (by omega), xf _ _ (by omega) (by omega) (by omega) (by omega), x10, x13]; omega)
  rw [zf _ _ (by omega), x10, jj] at cs
  have fw : kFX P a0 X (km_up (km_up (km_up X' 37 9 j) 37 10 (o - 1)) 37 4 2) := kFX_tr f1 (kFX_tr (kFX_37 hPo (by omega)) (kFX_tr (kFX_37 hPo (by omega)) (kFX_37 hPo (by omega))))
  have u1 : ∀ b i : Int, ¬ (b = 37 ∧ (i = 4 ∨ i = 9 ∨ i = 10)) → km_up (km_up (km_up X' 37 9 j) 37 10 (o - 1)) 37 4 2 b i = X' b i := fun b i w => by rw [km_up_ne (by omega), km_up_ne (by omega), km_up_ne (by omega)]
  have u2 : km_up (km_up (km_up X' 37 9 j) 37 10 (o - 1)) 37 4 2 37 4 = 2 := km_upx_s
  have u3 : km_up (km_up (km_up X' 37 9 j) 37 10 (o - 1)) 37 4 2 37 9 = j := by rw [km_upx_i (by decide), km_upx_i (by decide), km_upx_s]
  have u4 : km_up (km_up (km_up X' 37 9 j) 37 10 (o - 1)) 37 4 2 37 10 = o - 1 := by rw [km_upx_i (by decide), km_upx_s]
  generalize km_up (km_up (km_up X' 37 9 j) 37 10 (o - 1)) 37 4 2 = W at *
  have hx := fun M' ht Q => @md_close0 qY c s Y Y' M' Q k (j + 1 : Nat) y39 (by omega) kn bnd r3 (by omega) (by rw [jj]; exact hw) (by omega) (by rw [y43', ok]; exact c01) ht
  rw [y43', jj] at hx
  have fv : kFY N Y (km_up (km_up (km_up Y' 123 39 j) 123 43 (o - 1)) 123 45 (Y' 146 (o - 1))) := kFY_tr (fun _ h => h) f2 (kFY_tr (fun _ h => h) (kFY_123 (by omega)) (kFY_tr (fun _ h => h) (kFY_123 (by omega)) (kFY_123 (by omega))))
  have v1 : ∀ b i : Int, ¬ (b = 123 ∧ (i = 39 ∨ i = 43 ∨ i = 45)) → km_up (km_up (km_up Y' 123 39 j) 123 43 (o - 1)) 123 45 (Y' 146 (o - 1)) b i = Y' b i := fun b i w => by rw [km_up_ne (by omega), km_up_ne (by omega), km_up_ne (by omega)]
  have v2 : km_up (km_up (km_up Y' 123 39 j) 123 43 (o - 1)) 123 45 (Y' 146 (o - 1)) 123 39 = j := by rw [km_upx_i (by decide), km_upx_i (by decide), km_upx_s]
  have v3 : km_up (km_up (km_up Y' 123 39 j) 123 43 (o - 1)) 123 45 (Y' 146 (o - 1)) 123 43 = o - 1 := by rw [km_upx_i (by decide), km_upx_s]
  have v4 : km_up (km_up (km_up Y' 123 39 j) 123 43 (o - 1)) 123 45 (Y' 146 (o - 1)) 123 45 = khc (Y' 143) j := by rw [km_upx_s]; exact ok
  generalize km_up (km_up (km_up Y' 123 39 j) 123 43 (o - 1)) 123 45 (Y' 146 (o - 1)) = V at *
  have v1' : ∀ b i : Int, ¬ (b = 123 ∧ (i = 36 ∨ i = 39 ∨ i = 41 ∨ i = 43 ∨ i = 45)) → ¬ (138 ≤ b ∧ b ≤ 141) → b ≠ 145 → V b i = Y b i := fun b i c1 c2 c3 => by rw [v1 b i (by omega), yf b i (by omega) c2 c3]
  have tv : kTx V B n := kTx_fr tx (v1' _ _ (by omega) (by omega) (by omega)) (fun i => v1' _ _ (by omega) (by omega) (by omega)) (fun i => v1' _ _ (by omega) (by omega) (by omega))
  obtain ⟨M, m1, m2, m3⟩ := @kTk_take qY c s V B n _ tv ⟨by omega, pp.2⟩ ((v1' _ _ (by omega) (by omega) (by omega)).trans t26)
  have mf : ∀ b i : Int, ¬ (b = 123 ∧ (i = 39 ∨ i = 43 ∨ i = 45 ∨ (26 ≤ i ∧ i ≤ 29))) → M b i = Y' b i := fun b i w => by rw [m1 b i (by omega), v1 b i (by omega)]
  have e143' : M 143 = Y' 143 := funext fun i => mf 143 i (by omega)
  clear bx bv oc od
  refine kEnd_step (N1 := N') (i1 := i + 1) r8 fw (kFY_tr (fun _ h => h) fv (kFY_M m1)) (fun Q => ps_tok x2 ⟨hi.1, by omega⟩ n6 za zT (by decide) cs) (G1 := fun Q => km_G M_X12_expression 35 [some (.inr (.inr 123)), some (.inl ln), some (.inl 1)] [] (km_A0 qY c s) M Q) (fun Q => ?_) (ih W M N' (kcN B n (ksk B n 600 p)) j h' e' (o - 1) hb t (i + 1) _ (by omega) ?_ (by omega) (by omega))
  · rw [ex_close (r := 1) s46 kd kw (Or.inr rfl) (fun Q => hx M m3 Q)]
    exact Iff.rfl
  · refine ⟨⟨m2 W ?_ ?_ ?_, ⟨?_, u3, u4, ?_, ?_, ?_, ?_, ?_⟩, ⟨?_, ?_, ?_, ?_, ?_, ?_⟩, ⟨b1, b2, b3, b4, by omega, b6, b7⟩, kwn_fr (kwn_le r7) (by omega) (fun i _ _ => ⟨mf _ _ (by omega), mf _ _ (by omega)⟩) (fun x hx => Or.inl hx)⟩, ⟨u2, ?_⟩, q1, qa, qf, qt, ?_, ?_⟩
    · rw [u1 _ _ (by omega), xf _ _ (by omega) (by omega) (by omega) (by omega)]; exact t1
    · rw [u1 _ _ (by omega), x3']; exact z3
    · rw [← t3]; exact funext fun i => by rw [u1 _ _ (by omega), xf _ _ (by omega) (by omega) (by omega) (by omega)]
    · rw [u1 _ _ (by omega), xf _ _ (by omega) (by omega) (by omega) (by omega)]; exact x2
    · rw [u1 _ _ (by omega), xf _ _ (by omega) (by omega) (by omega) (by omega)]; exact x13
    · rw [u1 _ _ (by omega)]; exact r5
    · rw [u1 _ _ (by omega)]; exact x8'
    · rw [u1 _ _ (by omega), xf _ _ (by omega) (by omega) (by omega) (by omega)]; exact x5
    · rw [u1 _ _ (by omega), xf _ _ (by omega) (by omega) (by omega) (by omega)]; exact xn
    · rw [m1 _ _ (by omega), v2]
    · rw [mf _ _ (by omega)]; exact r4
    · rw [m1 _ _ (by omega), v3]
    · rw [mf _ _ (by omega), yf _ _ (by omega) (by omega) (by omega)]; exact y44
    · rw [m1 _ _ (by omega), v4, e143']
    · rw [mf _ _ (by omega)]; exact y36'
    · rw [mf _ _ (by omega), yf _ _ (by omega) (by omega) (by omega)]; exact s46
    · rw [mf _ _ (by omega)]
      exact kcd_fr r7.1 (fun r i r1 r2 _ _ => u1 _ _ (by omega)) (fun k _ hk => by rw [u1 _ _ (by omega)]; exact hk) (fun r x _ _ _ _ => mf r x (by omega)) (fun x hx => hx) qd
    · exact kcx_fr (kwn_le r7) (fun r i r1 r2 _ _ => u1 _ _ (by omega)) (fun k _ hk => by rw [u1 _ _ (by omega)]; exact hk) (fun i _ _ => ⟨u1 _ _ (by omega), u1 _ _ (by omega)⟩) (fun _ => ⟨u1 _ _ (by omega), u1 _ _ (by omega), u1 _ _ (by omega)⟩) (fun r x _ _ _ _ => mf r x (by omega)) (fun i _ _ => ⟨mf _ _ (by omega), mf _ _ (by omega)⟩) (fun i _ _ => mf _ _ (by omega)) (fun i _ _ => mf _ _ (by omega)) (fun x hx => hx) cx
end PC

