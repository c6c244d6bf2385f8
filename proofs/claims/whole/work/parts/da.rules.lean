/-! ===== promise 3: rules ===== -/
section FR
variable {N : Int} {q q1 qY : Nat × Int × Int × Int × Int} {c s : Nat} {X Y Y' M m m2 : km_Mm} {P n z a b w : Int} {Q : Option km_V → km_Al → km_Mm → Prop} {S : Int → Prop}
/-- all but the tape, the parsers and the programs stays -/
theorem kI0_rl (h : kI0 N m) (fr : ∀ b j : Int, b ≠ 3 → b ≠ 37 → b ≠ 38 → b ≠ 39 → ¬ (40 ≤ b ∧ b ≤ 51) → ¬ (b = 123 ∧ (j = 1 ∨ j = 2 ∨ (23 ≤ j ∧ j ≤ 29) ∨ j = 35 ∨ j = 36 ∨ j = 39 ∨ j = 41 ∨ (43 ≤ j ∧ j ≤ 48))) → ¬ (138 ≤ b ∧ b ≤ 146) → m2 b j = m b j) (t : kI_tape m2) : kI0 N m2 := by
  obtain ⟨h1, h2, h3, h4, h5, h6, h7, h8, h9, h10⟩ := h
  refine ⟨kB_cg h1 (fun b j f => ?_), kR_cg h2 (fun b j f => ?_), kT_cg h3 (fun b j f => ?_), kO_cg h4 (fun b j f => ?_), kM_cg h5 (fun b j f => ?_), kF_cg h6 (fun b j f => ?_), kH_cg h7 (fun b j f => ?_), kE_cg h8 (fun b j f => ?_), kS_cg h9 (fun b j f => ?_), t⟩
  · unfold fB at f; exact fr b j (by omega) (by omega) (by omega) (by omega) (by omega) (by omega) (by omega)
  · unfold fR at f; exact fr b j (by omega) (by omega) (by omega) (by omega) (by omega) (by omega) (by omega)
  · unfold fT at f; exact fr b j (by omega) (by omega) (by omega) (by omega) (by omega) (by omega) (by omega)
  · unfold fO at f; exact fr b j (by omega) (by omega) (by omega) (by omega) (by omega) (by omega) (by omega)
  · unfold fM at f; exact fr b j (by omega) (by omega) (by omega) (by omega) (by omega) (by omega) (by omega)
  · unfold fF at f; exact fr b j (by omega) (by omega) (by omega) (by omega) (by omega) (by omega) (by omega)
  · unfold fH at f; exact fr b j (by omega) (by omega) (by omega) (by omega) (by omega) (by omega) (by omega)
  · unfold fE at f; exact fr b j (by omega) (by omega) (by omega) (by omega) (by omega) (by omega) (by omega)
  · unfold fS at f; exact fr b j (by omega) (by omega) (by omega) (by omega) (by omega) (by omega) (by omega)
/-- a text from its first byte on -/
theorem st_text (hP : kPq q P) (hn : 0 ≤ n ∧ n ≤ 600) (hB : ∀ i : Int, 0 ≤ i → i < n → Y 124 i = X 4 i ∧ 0 ≤ X 4 i ∧ X 4 i < 256) (hw : ∀ i : Int, 0 ≤ i → i < 132 → Y 137 i = kr_wl.getD i.toNat 0) : ∃ M : km_Mm, (∀ b j : Int, ¬ (b = 123 ∧ 26 ≤ j ∧ j ≤ 29) → M b j = kR0 n Y b j) ∧ (∀ Q : Option km_V → km_Al → km_Mm → Prop, km_E M_X12_take [.inr (.inr 123)] (km_A0 qY c s) (kR0 n Y) Q ↔ Q none (km_A0 qY c s) M) ∧ kLend q qY c s P n P 0 0 (kPa P n X) M := by
  have hPo := hP.1
  obtain ⟨r1, r25, r23, r24, r26, r36, r48, r142⟩ := @kR0_v Y n
  obtain ⟨M, mf, mtk, mt⟩ := @kTk_take qY c s (kR0 n Y) (X 4) n 0 ⟨r25, hn, fun i i0 i1 => by rw [kR0_o (by omega) (by omega)]; exact hB i i0 i1, fun i i0 i1 => by rw [kR0_o (by omega) (by omega)]; exact hw i i0 i1⟩ ⟨Int.le_refl _, hn.1⟩ r26
  obtain ⟨a1, a2, a3, a4, a5, a6, a7, a8⟩ := @kPa_v X P n
  obtain ⟨v4, v6, v7, v8, v9, vL⟩ := @kPc_v X P hPo
  have pP : ∀ j : Int, kPa P n X P j = kPc P X P j := fun j => kPa_P hPo (by omega)
  have p5 : ∀ j : Int, kPa P n X (P + 5) j = kPc P X (P + 5) j := fun j => kPa_P hPo (by omega)
  have x6 : kPa P n X P 6 = 0 := by rw [pP]; exact v6
  have sl := @st_lines q qY c s P n P (X 4) hP 121 (kPa P n X) M (fun _ => False) 0 0 0 0 0 (by decide) ⟨mtk _ a1 a2 (funext fun j => kPa_o hPo (by omega) (by omega) (by omega)), ⟨a3, a5, a6, a7, a8⟩, ⟨by rw [pP]; exact v4, by rw [pP]; exact v8, by rw [pP]; exact v7, by rw [pP, v9]; decide, by rw [pP, v9]; decide⟩, ⟨by rw [mf _ _ (by omega)]; exact r36, by rw [mf _ _ (by omega)]; exact r48⟩, ⟨by decide, by decide, by decide, by decide, by decide, by rw [x6]; decide⟩, by rw [x6, p5, p5, p5, vL 4 (by decide) (by decide), vL 5 (by decide) (by decide), vL 6 (by decide) (by decide)]; rfl, fun x hx => hx.elim, fun L l0 l1 => Or.inl ⟨by rw [p5]; exact vL L l0 l1, by rw [mf _ _ (by omega)]; exact r142 _ (krt_7 ⟨l0, l1⟩).1 (krt_7 ⟨l0, l1⟩).2⟩, fun L l0 l1 => by rw [p5]; exact vL L l0 (by omega)⟩ (Int.le_refl _) (Int.le_refl _)
  rw [x6] at sl
  exact ⟨M, mf, mt, sl⟩
/-- where a row of roots comes from -/
theorem krt_of {i : Int} (h : 7 ≤ i ∧ i < 14) : ∃ L : Int, 0 ≤ L ∧ L < 7 ∧ krt L = i := by
  have e : i = 7 ∨ i = 8 ∨ i = 9 ∨ i = 10 ∨ i = 11 ∨ i = 12 ∨ i = 13 := by omega
  rcases e with rfl | rfl | rfl | rfl | rfl | rfl | rfl
  · exact ⟨4, by decide, by decide, rfl⟩
  · exact ⟨0, by decide, by decide, rfl⟩
  · exact ⟨1, by decide, by decide, rfl⟩
  · exact ⟨2, by decide, by decide, rfl⟩
  · exact ⟨3, by decide, by decide, rfl⟩
  · exact ⟨5, by decide, by decide, rfl⟩
  · exact ⟨6, by decide, by decide, rfl⟩
/-- the reference's cells behind its copying -/
def kFi (Y : km_Mm) (z : Int) : km_Mm := kKc (kRc (km_up Y 123 35 z) 0) 0 z
theorem kFi_o {b j : Int} (h : ¬ (b = 123 ∧ j = 35)) (h2 : ¬ (b = 142 ∧ 0 ≤ j ∧ j < 7)) (h3 : ¬ ((138 ≤ b ∧ b ≤ 141) ∧ 0 ≤ j ∧ j < z)) : kFi Y z b j = Y b j := by
  unfold kFi kKc
  rw [if_neg h3]
  unfold kRc
  rw [if_neg h2, km_up_ne h]
theorem kFi_142 {j : Int} (h : 0 ≤ j ∧ j < 7) : kFi Y z 142 j = kc (Y 142 (7 + j)) := by
  unfold kFi kKc
  rw [if_neg (by omega)]
  unfold kRc
  rw [if_pos ⟨rfl, h.1, h.2⟩, km_up_ne (by omega)]
theorem kFi_r {x : Int} (h : 120 ≤ x ∧ x < 120 + z) : kFi Y z 138 (x - 120) = Y 138 x ∧ kFi Y z 139 (x - 120) = kc (Y 139 x) ∧ kFi Y z 140 (x - 120) = kc (Y 140 x) ∧ kFi Y z 141 (x - 120) = Y 141 x := by
  have e : 120 + (x - 120) = x := by omega
  have b : ∀ r : Int, 138 ≤ r → r ≤ 141 → kRc (km_up Y 123 35 z) 0 r x = Y r x := fun r r1 r2 => by unfold kRc; rw [if_neg (by omega), km_up_ne (by omega)]
  unfold kFi kKc
  refine ⟨?_, ?_, ?_, ?_⟩
  · rw [if_pos ⟨by decide, by omega, by omega⟩, if_pos (Or.inl rfl), e, b _ (by decide) (by decide)]
  · rw [if_pos ⟨by decide, by omega, by omega⟩, if_neg (by decide), e, b _ (by decide) (by decide)]
  · rw [if_pos ⟨by decide, by omega, by omega⟩, if_neg (by decide), e, b _ (by decide) (by decide)]
  · rw [if_pos ⟨by decide, by omega, by omega⟩, if_pos (Or.inr rfl), e, b _ (by decide) (by decide)]
theorem kc_lt {y : Int} (h : y < 240) : kc y < 240 := by unfold kc; split <;> omega
/-- the reference copies its knots -/
theorem md_fin (L : kLp X Y P z a b S) (hr : ∀ r x : Int, 139 ≤ r → r ≤ 140 → Y r x < 240) : km_G M_X12_rules 115 [some (.inr (.inr 123)), some (.inl n), some (.inl w), some (.inl 0)] [] (km_A0 qY c s) (km_up Y 123 35 (Y 123 36)) Q ↔ Q (some (.inl w)) (km_A0 qY c s) (kFi Y z) := by
  obtain ⟨⟨l4, l8, l7, l9⟩, ⟨y36, y48⟩, ⟨b1, b2, b3, b4, b5, b6⟩, lc, ln, ls, lb⟩ := L
  have l1 := @lp_r115 qY c s n Q w 7 0 (km_up Y 123 35 z) rfl (fun i i0 i1 => by
    rw [km_up_ne (by omega)]
    obtain ⟨K, k0, k1, ke⟩ := krt_of ⟨i0, i1⟩
    rw [← ke]
    rcases ls K k0 k1 with u | ⟨u, f, e, t, u2, -⟩
    · exact Or.inl u.2
    · have := ln _ (kcd_b _ _ _ _ _ _ u2).2.2.2
      exact Or.inr ⟨u.2, by omega⟩)
  have l2 := @lp_r163 qY c s n Q w z b3 z.toNat 0 (kRc (km_up Y 123 35 z) 0) (by omega) (by unfold kRc; rw [if_neg (by omega), km_upx_s]) (fun r x r1 r2 => by unfold kRc; rw [if_neg (by omega), km_up_ne (by omega)]; exact hr r x r1 r2)
  have e0 : ((0 : Nat) : Int) = 0 := rfl
  rw [e0] at l1 l2
  rw [y36, l1, l2]
  exact Iff.rfl
/-- the rules at hand, behind it -/
theorem kIp_fin (hPo : P = 40 ∨ P = 46) (L : kLp X Y P z a b S) (hr : ∀ r x : Int, 139 ≤ r → r ≤ 140 → Y r x < 240) (hX : ∀ d j : Int, P ≤ d → d ≤ P + 5 → Y d j = X d j) (hw : ∀ i : Int, 0 ≤ i → i < 132 → Y 137 i = kr_wl.getD i.toNat 0) : kIp P (kFi Y z) := by
  obtain ⟨⟨l4, l8, l7, l9⟩, ⟨y36, y48⟩, ⟨b1, b2, b3, b4, b5, b6⟩, lc, ln, ls, lb⟩ := L
  have k4 := @kon_b (X (P + 5) 4)
  have k5 := @kon_b (X (P + 5) 5)
  have k6 := @kon_b (X (P + 5) 6)
  have fp : ∀ d j : Int, P ≤ d → d ≤ P + 5 → kFi Y z d j = X d j := fun d j d0 d1 => by rw [kFi_o (by omega) (by omega) (by omega)]; exact hX d j d0 d1
  have e35 : kFi Y z 123 35 = z := by
    unfold kFi kKc
    rw [if_neg (by omega)]
    unfold kRc
    rw [if_neg (by omega), km_upx_s]
  unfold kIp
  rw [fp P 4 (by omega) (by omega), fp P 9 (by omega) (by omega), fp P 8 (by omega) (by omega), e35, l4, l8]
  refine ⟨⟨b1, by omega⟩, l9, ⟨rfl, b2, b3⟩, fun K k0 k1 => ?_, fun r x r1 r2 => ?_, fun i i0 i1 => by rw [kFi_o (by omega) (by omega) (by omega)]; exact hw i i0 i1⟩
  · have k7 := krt_7 ⟨k0, k1⟩
    have e5 : kFi Y z (P + 5) = X (P + 5) := funext fun j => fp (P + 5) j (by omega) (by omega)
    unfold kIl
    rw [e5, kFi_142 (by omega), show 7 + (krt K - 7) = krt K by omega, fp P 4 (by omega) (by omega)]
    rcases ls K k0 k1 with u | ⟨u, f, e, t, c1, c2, c3⟩
    · exact Or.inl ⟨u.1, by rw [u.2]; rfl⟩
    · rw [kc_k u.2]
      refine Or.inr ⟨⟨u.1, by omega⟩, f, e, t, ?_, by rw [fp _ _ (by omega) (by omega)]; exact c2, c3⟩
      have c4 := kcd_sh (Y' := kFi Y z) (fun x hx => ⟨by have := ln x hx; omega, kFi_r (ln x hx)⟩) _ _ _ _ _ _ c1
      exact kcd_cg (lo := X (P + 5) K) (hi := e) (fun r j r1 r2 _ _ => fp _ _ (by omega) (by omega)) (fun k _ h => by rw [fp P 9 (by omega) (by omega)]; exact h) (fun x hx => ⟨hx, fun r _ _ => rfl⟩) _ _ _ _ _ _ (Int.le_refl _) (Int.le_refl _) c4
  · by_cases y : 0 ≤ x ∧ x < z
    · have e := @kFi_r Y z (x + 120) (by omega)
      rw [show x + 120 - 120 = x by omega] at e
      have rr : r = 139 ∨ r = 140 := by omega
      rcases rr with rfl | rfl
      · rw [e.2.1]; exact kc_lt (hr _ _ r1 r2)
      · rw [e.2.2.1]; exact kc_lt (hr _ _ r1 r2)
    · rw [kFi_o (by omega) (by omega) (by omega)]; exact hr r x r1 r2
end FR
theorem fc_rules {N : Int} {q : Nat × Int × Int × Int × Int} {c s : Nat} {m : km_Mm} (h : kIN N q m) {n : Int} : kFq M_X11_rules M_X12_rules [.inl n] N N q c s m := by
  obtain ⟨h0, P, ⟨hPo, hq1, hq2⟩, hp⟩ := h
  obtain ⟨⟨t1, t2, t3⟩, tB, t23, t24⟩ := h0.2.2.2.2.2.2.2.2.2
  intro Q1 Q2
  by_cases out : n < 0 ∨ m 3 1 < n
  · have jk : km_jk m (km_up m 123 2 0) := fun b j w => km_up_ne (fun u => w (by unfold kJ; omega))
    refine ⟨.inl (-2), q, m, km_up m 123 2 0, cl_rulesN out, md_rulesN (by omega), rfl, kI0_jk h0 jk (kR_cg h0.2.1 (fun b j f => km_up_ne (by unfold fR at f; omega))), P, ⟨hPo, hq1, hq2⟩, kIp_eq hPo hp (kP_jk jk)⟩
  have hn : 0 ≤ n ∧ n ≤ m 3 1 := by omega
  generalize hP' : 86 - P = P' at *
  have P0 : P' = 40 ∨ P' = 46 := by omega
  have pq1 : kPq (q.1, q.2.1, q.2.2.1, P', q.2.2.2.2) P' := ⟨P0, rfl⟩
  have cp := fun Q => @cl_parse0 q (q.1, q.2.1, q.2.2.1, P', q.2.2.2.2) c s m P' n Q P0 rfl hn.2
  -- the class first
  obtain ⟨M, mf, mt, X', Y', gx, gy, hh⟩ := @st_text (q.1, q.2.1, q.2.2.1, P', q.2.2.2.2) (q.1, q.2.1, q.2.2.1, P', q.2.2.2.2) c s m m P' n pq1 (by omega) (fun i i0 i1 => tB i i0 (by omega)) hp.2.2.2.2.2
  have x0 : ∀ b j : Int, b ≠ 3 → b ≠ 37 → b ≠ 38 → b ≠ 39 → ¬ (P' ≤ b ∧ b ≤ P' + 5) → X' b j = m b j := fun b j c1 c2 c3 c4 c5 => by rw [gx b j (by omega) (by omega) c3 c4 c5, kPa_o P0 c5 (by omega) (by omega)]
  have m1w : ∀ i : Int, 0 ≤ i → i < 132 → km_up X' 3 1 0 137 i = kr_wl.getD i.toNat 0 := fun i i0 i1 => by rw [km_up_ne (by omega), x0 _ _ (by omega) (by omega) (by omega) (by omega) (by omega)]; exact hp.2.2.2.2.2 i i0 i1
  have m1B : ∀ i : Int, 0 ≤ i → i < n → km_up X' 3 1 0 124 i = m 4 i ∧ 0 ≤ m 4 i ∧ m 4 i < 256 := fun i i0 i1 => by rw [km_up_ne (by omega), x0 _ _ (by omega) (by omega) (by omega) (by omega) (by omega)]; exact tB i i0 (by omega)
  have m11 : km_up X' 3 1 0 123 1 = m 3 1 := by rw [km_up_ne (by omega), x0 _ _ (by omega) (by omega) (by omega) (by omega) (by omega)]; exact t3
  have fr : ∀ (M2 Y2 : km_Mm), (∀ b j : Int, ¬ (b = 123 ∧ 26 ≤ j ∧ j ≤ 29) → M2 b j = kR0 n (km_up X' 3 1 0) b j) → kGY M2 Y2 → ∀ b j : Int, ¬ (b = 123 ∧ (j = 1 ∨ j = 2 ∨ (23 ≤ j ∧ j ≤ 29) ∨ j = 36 ∨ j = 39 ∨ j = 41 ∨ (43 ≤ j ∧ j ≤ 48))) → ¬ (138 ≤ b ∧ b ≤ 141 ∧ 120 ≤ j) → ¬ (b = 142 ∧ 7 ≤ j) → ¬ (143 ≤ b ∧ b ≤ 146) → Y2 b j = km_up X' 3 1 0 b j := fun M2 Y2 h1 h2 b j c1 c2 c3 c4 => by rw [h2.1 b j (by omega) c2 c3 c4, h1 b j (by omega), kR0_o (by omega) (by omega)]
  have rg : ∀ (M2 Y2 : km_Mm), (∀ b j : Int, ¬ (b = 123 ∧ 26 ≤ j ∧ j ≤ 29) → M2 b j = kR0 n (km_up X' 3 1 0) b j) → kGY M2 Y2 → ∀ r x : Int, 139 ≤ r → r ≤ 140 → Y2 r x < 240 := fun M2 Y2 h1 h2 r x r1 r2 => h2.2 r x r1 r2 (by rw [h1 _ _ (by omega), kR0_o (by omega) (by omega), km_up_ne (by omega), x0 _ _ (by omega) (by omega) (by omega) (by omega) (by omega)]; exact hp.2.2.2.2.1 r x r1 r2)
  obtain ⟨-, -, w23, w24, -⟩ := @kR0_v (km_up X' 3 1 0) n
  obtain ⟨-, -, a3, a4, -⟩ := @kPa_v m P' n
  rcases hh with ⟨f, f0, f1, f2, f3, f4, f5⟩ | ⟨S0, z0, a0, b0, ⟨f1, f2, f3, f4⟩, L0, f5, f6⟩
  · have hpar := fun Q => (cp Q).trans (f4 Q)
    have ce := @cl_rulesF q (q.1, q.2.1, q.2.2.1, P', q.2.2.2.2) c s m X' P' n Q1 hn hq2 hpar P0 (by rw [f1]; exact f0)
    obtain ⟨M2, mf2, mt2, X2, Y2, gx2, gy2, hh2⟩ := @st_text (q.1, q.2.1, q.2.2.1, P', q.2.2.2.2) (q.1, q.2.1, q.2.2.1, P', q.2.2.2.2) c s m (km_up X' 3 1 0) P' n pq1 (by omega) m1B m1w
    have fr2 := fr M2 Y2 mf2 gy2
    have rg2 := rg M2 Y2 mf2 gy2
    rcases hh2 with ⟨g, g0, g1, g2, g3, g4, g5⟩ | ⟨S, z, a, b, ⟨g1, g2, g3, g4⟩, L, g5, g6⟩
    · have xe : X2 = X' := km_uni f4 g4
      subst xe
      refine ⟨.inl (-1), _, _, Y2, ce, (md_rules0 (by rw [m11]; exact hn) mt2).trans (g5 none Q2), rfl, kI0_rl h0 (fun b j c1 c2 c3 c4 c5 c6 c7 => ?_) ?_, P, ⟨hPo, hq1, hq2.trans hP'.symm⟩, kIp_cg hPo hp (fun b j b0 b1 => ?_) ?_ (fun b j b0 b1 j1 => ?_) rg2 (fun i => ?_) (fun j hj => ?_)⟩
      · rw [fr2 b j (by omega) (by omega) (by omega) (by omega), km_up_ne (by omega), x0 _ _ c1 c2 c3 c4 (by omega)]
      · have e31 : Y2 3 1 = 0 := by rw [fr2 _ _ (by omega) (by omega) (by omega) (by omega), km_upx_s]
        have e1 : Y2 123 1 = 0 := by rw [gy2.1 _ _ (by omega) (by omega) (by omega) (by omega), mf2 _ _ (by omega)]; exact (@kR0_v (km_up X2 3 1 0) n).1
        refine ⟨⟨by rw [e31]; decide, by rw [e31]; decide, by rw [e1, e31]⟩, fun i i0 i1 => by rw [e31] at i1; omega, ?_, ?_⟩
        · rw [g2, fr2 37 2 (by omega) (by omega) (by omega) (by omega), km_up_ne (by omega), g1]
        · rw [← g3, fr2 37 3 (by omega) (by omega) (by omega) (by omega), km_up_ne (by omega)]
      · rw [fr2 b j (by omega) (by omega) (by omega) (by omega), km_up_ne (by omega), x0 _ _ (by omega) (by omega) (by omega) (by omega) (by omega)]
      · rw [fr2 _ _ (by omega) (by omega) (by omega) (by omega), km_up_ne (by omega), x0 _ _ (by omega) (by omega) (by omega) (by omega) (by omega)]
      · rw [fr2 b j (by omega) (by omega) (by omega) (by omega), km_up_ne (by omega), x0 _ _ (by omega) (by omega) (by omega) (by omega) (by omega)]
      · rw [fr2 _ _ (by omega) (by omega) (by omega) (by omega), km_up_ne (by omega), x0 _ _ (by omega) (by omega) (by omega) (by omega) (by omega)]
      · rw [fr2 _ _ (by omega) (by omega) (by omega) (by omega), km_up_ne (by omega), x0 _ _ (by omega) (by omega) (by omega) (by omega) (by omega)]
    · have xe : X2 = X' := km_uni f4 g5
      rw [xe, f1] at g1
      exact absurd g1 f0
  · have hpar := fun Q => (cp Q).trans (f5 Q)
    have e2 : km_upR (km_A0 (q.1, q.2.1, q.2.2.1, P', q.2.2.2.2) c s) 0 2 P' = km_A0 (q.1, P', q.2.2.1, P', q.2.2.2.2) c s := km_upR_02
    have e3 : km_upR (km_A0 (q.1, P', q.2.2.1, P', q.2.2.2.2) c s) 0 3 P = km_A0 (q.1, P', P, P', q.2.2.2.2) c s := km_upR_03
    have ce := @cl_rulesY q (q.1, q.2.1, q.2.2.1, P', q.2.2.2.2) (q.1, P', q.2.2.1, P', q.2.2.2.2) (q.1, P', P, P', q.2.2.2.2) c s m X' P P' n Q1 hn hq2 hpar P0 hPo hq1 hq2 e2 e3 rfl f1
    obtain ⟨M2, mf2, mt2, X2, Y2, gx2, gy2, hh2⟩ := @st_text (q.1, q.2.1, q.2.2.1, P', q.2.2.2.2) (q.1, P', P, P', q.2.2.2.2) c s m (km_up X' 3 1 0) P' n pq1 (by omega) m1B m1w
    have fr2 := fr M2 Y2 mf2 gy2
    have rg2 := rg M2 Y2 mf2 gy2
    rcases hh2 with ⟨g, g0, g1, g2, g3, g4, g5⟩ | ⟨S, z, a, b, ⟨g1, g2, g3, g4⟩, L, g5, g6⟩
    · have xe : X2 = X' := km_uni f5 g4
      rw [xe, f1] at g1
      exact absurd g1.symm g0
    · have xe : X2 = X' := km_uni f5 g5
      subst xe
      have z1 := L.2.2.1
      have fo : ∀ b j : Int, ¬ (b = 123 ∧ (j = 1 ∨ j = 2 ∨ (23 ≤ j ∧ j ≤ 29) ∨ j = 35 ∨ j = 36 ∨ j = 39 ∨ j = 41 ∨ (43 ≤ j ∧ j ≤ 48))) → ¬ (138 ≤ b ∧ b ≤ 146) → kFi Y2 z b j = km_up X2 3 1 0 b j := fun b j c1 c2 => by rw [kFi_o (by omega) (by omega) (by omega), fr2 b j (by omega) (by omega) (by omega) (by omega)]
      refine ⟨.inl (X2 P' 6), _, _, kFi Y2 z, ce, (md_rules0 (by rw [m11]; exact hn) mt2).trans ((g6 none Q2).trans (md_fin L rg2)), rfl, kI0_rl h0 (fun b j c1 c2 c3 c4 c5 c6 c7 => ?_) ?_, P', ⟨P0, rfl, by show P = 86 - P'; omega⟩, kIp_fin P0 L rg2 (fun d j d0 d1 => ?_) (fun i i0 i1 => ?_)⟩
      · rw [fo b j c6 c7, km_up_ne (by omega), x0 _ _ c1 c2 c3 c4 (by omega)]
      · have e31 : kFi Y2 z 3 1 = 0 := by rw [fo _ _ (by omega) (by omega), km_upx_s]
        have e1 : kFi Y2 z 123 1 = 0 := by rw [kFi_o (by omega) (by omega) (by omega), gy2.1 _ _ (by omega) (by omega) (by omega) (by omega), mf2 _ _ (by omega)]; exact (@kR0_v (km_up X2 3 1 0) n).1
        refine ⟨⟨by rw [e31]; decide, by rw [e31]; decide, by rw [e1, e31]⟩, fun i i0 i1 => by rw [e31] at i1; omega, ?_, ?_⟩
        · rw [fo 37 2 (by omega) (by omega), km_up_ne (by omega), f1, kFi_o (by omega) (by omega) (by omega), g3, mf2 _ _ (by omega), w23]
        · rw [fo 37 3 (by omega) (by omega), km_up_ne (by omega), f2, kFi_o (by omega) (by omega) (by omega), g4, mf2 _ _ (by omega), w24, a4]
      · rw [fr2 d j (by omega) (by omega) (by omega) (by omega), km_up_ne (by omega)]
      · rw [fr2 _ _ (by omega) (by omega) (by omega) (by omega)]; exact m1w i i0 i1

