theorem st_if {q qY : Nat × Int × Int × Int × Int} {c s : Nat} {X Y : km_Mm} {P ln a0 n z0 p h e o hb t i u : Int} {B : Int → Int} {N : Int → Prop} {k : Nat} {ov : Option km_V} (hP : kPq q P) (ih : kI1 q qY c s P ln a0 z0 B n u (n - p)) (S : kS2 X Y P ln N a0 B n z0 p k h e o hb t) (hi : 0 ≤ i ∧ i ≤ p) (hT : kcT B n (ksk B n 600 p) = 27) (h6 : 0 < hb ∧ hb = o ∧ X 37 12 ≠ 31 ∧ X 37 14 = 0) : kEnd q qY c s P ln a0 z0 B n u N i X Y (fun Q => km_G M_X12_expression 35 [some (.inr (.inr 123)), some (.inl ln), ov] [] (km_A0 qY c s) Y Q) := by
  obtain ⟨Z, zf, z5, zT, z3, -, za⟩ := @kTk_adv q c s X Y B n p S.1.1
  have x8 := S.1.2.1.2.2.2.2.2.1
  have y36 := S.1.2.2.1.2.2.2.2.2
  have hPo := hP.1
  obtain ⟨X', Y', N', k', h', e', ⟨r1, r2, r3, r4, r5⟩, r6, r7, r8, f1, f2, xf, ⟨x8', x3'⟩, yf, ⟨y36', -⟩, sc, -, rel, bnd⟩ := @st_rel q qY c s X Y Z Y P ln a0 n z0 p h e o hb t 1 1 B N k hP S (fun b j c1 _ => zf b j c1) (fun b j _ _ => rfl) (by omega) (Or.inl rfl) (fun _ _ _ _ h => h)
  have e143 : Y' 143 = Y 143 := funext fun j => yf 143 j (by omega) (by omega) (by omega)
  have r6' := r6
  obtain ⟨q1, qa, qf, qt, qd, qc⟩ := r6'
  rw [zf _ _ (by omega), x8] at x8'
  rw [y36] at y36'
  rw [hT] at zT
  have a12 : X' 37 12 = X 37 12 := xf _ _ (by omega) (by omega) (by omega) (by omega)
  have a14 : X' 37 14 = X 37 14 := xf _ _ (by omega) (by omega) (by omega) (by omega)
  cases k' with
  | zero => obtain ⟨_, _, c3, _⟩ := qc; omega
  | succ j =>
    have jj : ((j + 1 : Nat) : Int) - 1 = j := by omega
    rw [jj, ← e143] at sc
    have st := (kcx_stop qc (sc.resolve_left (by omega))).1
    have w : Y' 143 j = 101 := by
      rcases qc with ⟨c0, _⟩ | ⟨c0, c1, _⟩ | ⟨c0, c1, c2, c3, _⟩ | ⟨c0, c1, c2, _⟩ | ⟨c0, _⟩ | ⟨c0, _⟩ <;> omega
    exact st_if1 hP ih S hi hT (by omega) zf zT z3 za ⟨r1, r2, r3, r4, r5⟩ r6 r7 r8 f1 f2 xf x8' x3' yf y36' rel bnd h6.2 w

