/-! ===== Flights of the class: carry ===== -/
def kx_e1 (m : km_Mm) (l : Int) (T : Int → Int) : Int → Bool := fun f => decide (m 62 f ≤ l) && decide (T f < m 63 f)
def kx_e2 (m : km_Mm) (l : Int) (T : Int → Int) : Int → Bool := fun f => decide (m 62 f ≤ l) && decide (0 < T f)
/-- a search, those who wait W, seats taken T -/
noncomputable def kx_s (m : km_Mm) (l : Int) (W T : Int → Int) : (Int → Int) × (Int → Int) := kw_w (m 60) (m 61) (m 64) (kx_e1 m l T) (kx_e2 m l T) (m 59 0) 6 (kw_in W (fun _ => 0, fun _ => 0) 0)
noncomputable def kx_g (m : km_Mm) (l g : Int) (W T : Int → Int) : Int × (Int → Int) := kw_go (m 60) (m 61) (kx_s m l W T).2 6 g T
/-- how many come and for how much, at most k more -/
noncomputable def kx (m : km_Mm) (l g : Int) : Nat → (Int → Int) → (Int → Int) → Int → Int → Int × Int
  | 0, _, _, br, pr => (br, pr)
  | k + 1, W, T, br, pr => if (kx_s m l W T).1 g < 1000000 then kx m l g k (km_u1 W (kx_g m l g W T).1 (W (kx_g m l g W T).1 - 1)) (kx_g m l g W T).2 (br + 1) (pr + (kx_s m l W T).1 g) else (br, pr)
def kx_src (W : Int → Int) : Int → Prop := fun v => (0 ≤ v ∧ v < 6) ∧ 0 < W v
def kx_ok (m : km_Mm) (l : Int) (W T : Int → Int) : Prop := kf_cl m ∧ kw_pot (kw_arc (m 60) (m 61) (m 64) (kx_e1 m l T) (kx_e2 m l T) (m 59 0)) ∧ (∀ f : Int, 0 ≤ f → f < m 59 0 → 0 ≤ T f ∧ T f ≤ m 63 f ∧ m 63 f ≤ 9) ∧ (∀ f : Int, m 59 0 ≤ f → f < 14 → T f = 0) ∧ (∀ v : Int, 0 ≤ v → v < 6 → 0 ≤ W v ∧ W v ≤ 10)
theorem kx_e1_iff {m : km_Mm} {l : Int} {T : Int → Int} : ∀ f, kx_e1 m l T f = true ↔ m 62 f ≤ l ∧ T f < m 63 f := fun f => by unfold kx_e1; rw [Bool.and_eq_true, decide_eq_true_eq, decide_eq_true_eq]
theorem kx_e2_iff {m : km_Mm} {l : Int} {T : Int → Int} : ∀ f, kx_e2 m l T f = true ↔ m 62 f ≤ l ∧ 0 < T f := fun f => by unfold kx_e2; rw [Bool.and_eq_true, decide_eq_true_eq, decide_eq_true_eq]
theorem kx_in {W : Int → Int} {s : (Int → Int) × (Int → Int)} : kw_0 (kx_src W) (kw_in W s 0).1 ∧ ∀ v : Int, 0 ≤ v → v < 6 → (kw_in W s 0).2 v = -1 := by
  refine ⟨fun v v0 v1 => ?_, fun v v0 v1 => ?_⟩
  · unfold kw_in kv_fn kx_src
    dsimp only
    rw [if_pos ⟨v0, v1⟩]
    exact ⟨fun h => by rw [if_pos h.2], fun h => by rw [if_neg (fun w => h ⟨⟨v0, v1⟩, w⟩)]⟩
  · unfold kw_in kv_fl; dsimp only; rw [if_pos ⟨v0, v1⟩]
theorem kx_in6 {W : Int → Int} {s t : (Int → Int) × (Int → Int)} : kw_6 (kw_in W s 0) (kw_in W t 0) := by
  intro v v0 v1
  unfold kw_in kv_fn kv_fl
  dsimp only
  simp [v0, v1]
/-- seats of flights that aren't there stay 0 -/
theorem kw_go_out {a b p : Int → Int} {e1 e2 : Int → Bool} {n : Int} {src : Int → Prop} {s : (Int → Int) × (Int → Int)} {o T : Int → Int} (ho : kw_ok a b p n) (K : kw_K a b p e1 e2 n src s o) {v : Int} (v0 : 0 ≤ v) (v1 : v < 6) (hF : kw_F a b p e1 e2 n src s.1 v) (h6 : o v ≤ 6) (f : Int) (hf : ¬ (0 ≤ f ∧ f < n)) : (kw_go a b s.2 6 v T).2 f = T f := by
  obtain ⟨-, r4⟩ := kw_go_spec ho K (T0 := T) 6 v T v0 v1 hF h6 (fun f => Or.inl rfl)
  rcases r4 f with z | z
  · exact z
  · exact absurd z.1 hf
/-- one goes: all holds on -/
theorem kx_step {m : km_Mm} {l g : Int} {W T : Int → Int} (h : kx_ok m l W T) (hg : 0 ≤ g ∧ g < 6) (hr : (kx_s m l W T).1 g < 1000000) :
    kx_ok m l (km_u1 W (kx_g m l g W T).1 (W (kx_g m l g W T).1 - 1)) (kx_g m l g W T).2 ∧ kx_src W (kx_g m l g W T).1 ∧ (-99900 ≤ (kx_s m l W T).1 g ∧ (kx_s m l W T).1 g ≤ 99900) := by
  obtain ⟨h1, h2, h3, h4, h5⟩ := h
  have ho := kf_cl_ok h1
  obtain ⟨L, hd, ⟨o, K⟩, -⟩ := kw_srch (src := kx_src W) ho h1.1.1 (fun v hv => hv.1) h2 kx_in.1 (kx_in (s := (fun _ => 0, fun _ => 0))).2
  obtain ⟨hF, og, ⟨r1, r2⟩, hT, hp⟩ := kw_gone ho h1.1.1 h2 kx_e1_iff kx_e2_iff (fun f f0 f1 => ⟨(h3 f f0 f1).1, (h3 f f0 f1).2.1⟩) L hd K hg hr
  refine ⟨⟨h1, hp, fun f f0 f1 => ⟨(hT f f0 f1).1, (hT f f0 f1).2, (h3 f f0 f1).2.2⟩, fun f f0 f14 => ?_, fun v v0 v1 => ?_⟩, r1, ?_⟩
  · exact (kw_go_out ho K hg.1 hg.2 hF (by omega) f (by omega)).trans (h4 f f0 f14)
  · unfold km_u1
    split
    · have := r1.2; have := h5 _ r2.1 r2.2; unfold kx_g kx_s; omega
    · exact h5 v v0 v1
  · rcases (L g hg.1 hg.2).1 with z | z
    · exact absurd z (by unfold kx_s at hr; omega)
    · have := z.1; unfold kx_s; omega
theorem cl_carry32 {q : Nat × Int × Int × Int × Int} {c s : Nat} {m : km_Mm} {l g : Int} (hg : 0 ≤ g ∧ g < 6) : ∀ (k : Nat) (i br pr : Int) (W T : Int → Int) (M : km_Mm), 0 ≤ i → i + k = 10 → kx_ok m l W T → M 65 = W → M 66 = T → M 59 10 = br → M 59 11 = pr → (∀ b : Int, 60 ≤ b → b ≤ 64 → M b = m b) → M 59 0 = m 59 0 → (0 ≤ br ∧ br ≤ 10 + i) → (-(100000 * i) ≤ pr ∧ pr ≤ 100000 * i) →
    ∃ M' : km_Mm, (∀ b j : Int, ¬ (65 ≤ b ∧ b ≤ 68) → ¬ (b = 59 ∧ 10 ≤ j) → M' b j = M b j) ∧ (M' 59 10, M' 59 11) = kx m l g k W T br pr ∧ ∀ Q : Option km_V → km_Al → km_Mm → Prop, (km_G M_X2_carry 32 [some (.inr (.inr 59)), some (.inl g), some (.inl l), some (.inl i)] [] (km_A0 q c s) M Q ↔ Q none (km_A0 q c s) M') := by
  intro k
  induction k with
  | zero =>
    intro i br pr W T M h0 h1 ok hW hT hb hp hrows hn b1 p1
    refine ⟨M, fun b j _ _ => rfl, by rw [hb, hp]; rfl, fun Q => ?_⟩
    have y : 10 ≤ i := by omega
    rw [g_X2_carry_32]
    simp (config := { decide := true }) (disch := first | decide | assumption | omega | (simp (config := { decide := true }) only [km_sr_sf, km_sr_of, km_up_of, km_up_o, km_upx_i, km_upx_s, km_fl2_o, ne_eq, not_true_eq_false, not_false_eq_true] <;> omega) | fail) only [g_X2_carry, y, Int.add_sub_cancel, true_or, or_true, false_or, or_false, false_and, and_false, if_true, if_false, ka_lo, ka_hi, ka_nn, km_sr_sf, km_sr_of, km_up_of, km_sr_us, km_sr_uo, km_sr_sr, km_sr_fl, km_sr_flo, km_up_up, km_up_lt, km_lay, km_unL, km_up_o, km_upx_i, km_upx_s, km_fl2_o, km_is, Option.some.injEq, Sum.inl.injEq, Sum.inr.injEq, Option.toList_some, Option.toList_none, List.cons_append, List.nil_append, ne_eq, true_and, and_true, and_self, not_true_eq_false, not_false_eq_true, true_implies, false_implies, reduceCtorEq]
  | succ k ih =>
    intro i br pr W T M h0 h1 ok hW hT hb hp hrows hn b1 p1
    have y : ¬ 10 ≤ i := by omega
    have cM : kf_cl M := by
      obtain ⟨⟨c1, c2⟩, -⟩ := ok
      refine ⟨by rw [hn]; exact c1, fun f f0 f1 => ?_⟩
      rw [hrows 60 (by decide) (by decide), hrows 61 (by decide) (by decide), hrows 64 (by decide) (by decide)]
      exact c2 f f0 (by omega)
    have ho := kf_cl_ok ok.1
    have fw := fun Q => @r_findWay q c s M g l cM hg Q
    have ee1 : kf_e1 M l = kx_e1 m l T := by funext f; unfold kf_e1 kx_e1; rw [hrows 62 (by decide) (by decide), hrows 63 (by decide) (by decide), hT]
    have ee2 : kf_e2 M l = kx_e2 m l T := by funext f; unfold kf_e2 kx_e2; rw [hrows 62 (by decide) (by decide), hT]
    have fi : kw_fi M l = kw_w (m 60) (m 61) (m 64) (kx_e1 m l T) (kx_e2 m l T) (m 59 0) 6 (kw_in W (M 67, M 68) 0) := by
      unfold kw_fi; rw [hrows 60 (by decide) (by decide), hrows 61 (by decide) (by decide), hrows 64 (by decide) (by decide), ee1, ee2, hn, hW]
    have c6 : kw_6 (kw_fi M l) (kx_s m l W T) := by rw [fi]; exact kw_w_cong ho ok.1.1.1 6 _ _ kx_in6
    have cg := c6 g hg.1 hg.2
    by_cases z : (kx_s m l W T).1 g < 1000000
    · obtain ⟨ok2, sr, cb⟩ := kx_step ok hg z
      obtain ⟨L, hd, ⟨o, K⟩, -⟩ := kw_srch (src := kx_src W) ho ok.1.1.1 (fun v hv => hv.1) ok.2.1 kx_in.1 (kx_in (s := (M 67, M 68))).2
      rw [← fi] at L hd K
      obtain ⟨hF, og, -⟩ := kw_gone ho ok.1.1.1 ok.2.1 kx_e1_iff kx_e2_iff (fun f f0 f1 => ⟨(ok.2.2.1 f f0 f1).1, (ok.2.2.1 f f0 f1).2.1⟩) L hd K hg (by rw [cg.1]; exact z)
      have geq : kw_go (m 60) (m 61) (kw_fi M l).2 6 g T = kx_g m l g W T := kw_go_cong ho c6 K 6 g T hg.1 hg.2 hF
      generalize hM3 : km_up (km_up M 59 10 (br + 1)) 59 11 (pr + (kx_s m l W T).1 g) = M3
      have m3 : ∀ b : Int, b ≠ 59 → M3 b = M b := fun b hbb => by rw [← hM3, km_up_of hbb, km_up_of hbb]
      have n3 : M3 59 0 = m 59 0 := by rw [← hM3, km_up_ne (by omega), km_up_ne (by omega)]; exact hn
      have e31 : kf_e1 M3 l = kx_e1 m l T := by funext f; unfold kf_e1 kx_e1; rw [m3 62 (by decide), m3 63 (by decide), m3 66 (by decide), hrows 62 (by decide) (by decide), hrows 63 (by decide) (by decide), hT]
      have e32 : kf_e2 M3 l = kx_e2 m l T := by funext f; unfold kf_e2 kx_e2; rw [m3 62 (by decide), m3 66 (by decide), hrows 62 (by decide) (by decide), hT]
      have r60 : M3 60 = m 60 := (m3 60 (by decide)).trans (hrows 60 (by decide) (by decide))
      have r61 : M3 61 = m 61 := (m3 61 (by decide)).trans (hrows 61 (by decide) (by decide))
      have r64 : M3 64 = m 64 := (m3 64 (by decide)).trans (hrows 64 (by decide) (by decide))
      have c3 : kf_cl M3 := by
        obtain ⟨⟨c1, c2⟩, -⟩ := ok
        refine ⟨by rw [n3]; exact c1, fun f f0 f1 => ?_⟩
        rw [r60, r61, r64]
        exact c2 f f0 (by omega)
      have Tb : ∀ f : Int, 0 ≤ f → f < 14 → -(1000 - ((6 : Nat) : Int)) ≤ T f ∧ T f ≤ 1000 - ((6 : Nat) : Int) := fun f f0 f1 => by
        by_cases w : f < m 59 0
        · have := ok.2.2.1 f f0 w; omega
        · have := ok.2.2.2.1 f (by omega) (by omega); omega
      have al := fun Q => @cl_along q c s M3 l g (kw_fi M l) (kx_src W) o c3 (by rw [r60, r61, r64, e31, e32, n3]; exact K) (fun v v0 v1 => by rw [m3 65 (by decide), hW]; have := ok.2.2.2.2 v v0 v1; omega) Q 6 g 0 T hg.1 hg.2 (by rw [r60, r61, r64, e31, e32, n3]; exact hF) og (by omega) (by omega) Tb
      rw [r60, r61, geq, m3 65 (by decide), hW] at al
      have id6 : km_sr (kf_s M3 (kw_fi M l)) 66 T = kf_s M3 (kw_fi M l) := by
        funext b j
        by_cases e : b = 66
        · subst e; rw [km_sr_s]; unfold kf_s; rw [km_sr_o (by decide), km_sr_o (by decide), m3 66 (by decide), hT]
        · rw [km_sr_o e]
      rw [id6] at al
      obtain ⟨M', g1, g2, g3⟩ := ih (i + 1) (br + 1) (pr + (kx_s m l W T).1 g) _ _ (km_up (km_sr (kf_s M3 (kw_fi M l)) 66 (kx_g m l g W T).2) 65 (kx_g m l g W T).1 (W (kx_g m l g W T).1 - 1)) (by omega) (by omega) ok2
        (by
          funext j
          by_cases e : j = (kx_g m l g W T).1
          · subst e; rw [km_upx_s, km_u1_s]
          · rw [km_upx_i e, km_u1_o e, km_sr_o (by decide)]; unfold kf_s; rw [km_sr_o (by decide), km_sr_o (by decide), m3 65 (by decide), hW])
        (by rw [km_up_of (by decide), km_sr_sf])
        (by rw [km_up_ne (by omega), km_sr_o (by decide)]; unfold kf_s; rw [km_sr_o (by decide), km_sr_o (by decide), ← hM3, km_up_ne (by omega), km_up_eq (by omega)])
        (by rw [km_up_ne (by omega), km_sr_o (by decide)]; unfold kf_s; rw [km_sr_o (by decide), km_sr_o (by decide), ← hM3, km_up_eq (by omega)])
        (fun b b0 b1 => by rw [km_up_of (by omega), km_sr_of (by omega)]; unfold kf_s; rw [km_sr_of (by omega), km_sr_of (by omega), m3 b (by omega)]; exact hrows b b0 b1)
        (by rw [km_up_ne (by omega), km_sr_o (by decide)]; unfold kf_s; rw [km_sr_o (by decide), km_sr_o (by decide)]; exact n3)
        (by omega) (by omega)
      refine ⟨M', fun b j h2 h3 => ?_, ?_, fun Q => ?_⟩
      · rw [g1 b j h2 h3, km_up_ne (by omega), km_sr_o (by omega)]
        unfold kf_s
        rw [km_sr_o (by omega), km_sr_o (by omega), ← hM3, km_up_ne (by omega), km_up_ne (by omega)]
      · rw [g2, kx, if_pos z]
      · have z2 : (kw_fi M l).1 g < 1000000 := by rw [cg.1]; exact z
        have along : ∀ Qc : Option km_V → km_Al → km_Mm → Prop, km_E M_X2_goAlong [.inr (.inr 59), .inl g] (km_A0 q c s) (kf_s M3 (kw_fi M l)) Qc ↔ Qc none (km_A0 q c s) (km_up (km_sr (kf_s M3 (kw_fi M l)) 66 (kx_g m l g W T).2) 65 (kx_g m l g W T).1 (W (kx_g m l g W T).1 - 1)) := fun Qc => by
          rw [e_X2_goAlong]
          simp (config := { decide := true }) (disch := first | decide | assumption | omega | (simp (config := { decide := true }) only [km_sr_sf, km_sr_of, km_up_of, km_up_o, km_upx_i, km_upx_s, km_fl2_o, ne_eq, not_true_eq_false, not_false_eq_true] <;> omega) | fail) only [g_X2_goAlong, al, Int.add_sub_cancel, true_or, or_true, false_or, or_false, false_and, and_false, if_true, if_false, ka_lo, ka_hi, ka_nn, km_sr_sf, km_sr_of, km_up_of, km_sr_us, km_sr_uo, km_sr_sr, km_sr_fl, km_sr_flo, km_up_up, km_up_lt, km_lay, km_unL, km_up_o, km_upx_i, km_upx_s, km_fl2_o, km_is, Option.some.injEq, Sum.inl.injEq, Sum.inr.injEq, Option.toList_some, Option.toList_none, List.cons_append, List.nil_append, ne_eq, true_and, and_true, and_self, not_true_eq_false, not_false_eq_true, true_implies, false_implies, reduceCtorEq]
        have pb : -2147483648 ≤ pr + (kx_s m l W T).1 g ∧ pr + (kx_s m l W T).1 g ≤ 2147483647 := by omega
        have bb : -2147483648 ≤ br + 1 ∧ br + 1 ≤ 2147483647 := by omega
        have mem : km_up (km_up (kf_s M (kw_fi M l)) 59 10 (br + 1)) 59 11 (pr + (kx_s m l W T).1 g) = kf_s M3 (kw_fi M l) := by
          rw [← hM3]; unfold kf_s; simp (config := { decide := true }) only [Int.add_sub_cancel, true_or, or_true, false_or, or_false, false_and, and_false, if_true, if_false, km_sr_sf, km_sr_of, km_up_of, km_sr_us, km_sr_uo, km_sr_sr, km_sr_fl, km_sr_flo, km_up_up, km_up_lt, km_lay, km_unL, km_up_o, km_upx_i, km_upx_s, km_fl2_o, km_is, Option.some.injEq, Sum.inl.injEq, Sum.inr.injEq, Option.toList_some, Option.toList_none, List.cons_append, List.nil_append, ne_eq, true_and, and_true, and_self, not_true_eq_false, not_false_eq_true, true_implies, false_implies, reduceCtorEq]
        have q67 : kf_s M (kw_fi M l) 67 g = (kx_s m l W T).1 g := by unfold kf_s; rw [km_sr_o (by decide), km_sr_s]; exact cg.1
        have q10 : kf_s M (kw_fi M l) 59 10 = br := by unfold kf_s; rw [km_sr_o (by decide), km_sr_o (by decide)]; exact hb
        have q11 : kf_s M (kw_fi M l) 59 11 = pr := by unfold kf_s; rw [km_sr_o (by decide), km_sr_o (by decide)]; exact hp
        rw [← g3 Q, g_X2_carry_32]
        simp (config := { decide := true }) (disch := first | decide | assumption | omega | (simp (config := { decide := true }) only [km_sr_sf, km_sr_of, km_up_of, km_up_o, km_upx_i, km_upx_s, km_fl2_o, ne_eq, not_true_eq_false, not_false_eq_true] <;> omega) | fail) only [g_X2_carry, y, fw, z2, q67, q10, q11, pb, bb, hg.1, hg.2, mem, along, Int.add_sub_cancel, true_or, or_true, false_or, or_false, false_and, and_false, if_true, if_false, ka_lo, ka_hi, ka_nn, km_sr_sf, km_sr_of, km_up_of, km_sr_us, km_sr_uo, km_sr_sr, km_sr_fl, km_sr_flo, km_up_up, km_up_lt, km_lay, km_unL, km_up_o, km_upx_i, km_upx_s, km_fl2_o, km_is, Option.some.injEq, Sum.inl.injEq, Sum.inr.injEq, Option.toList_some, Option.toList_none, List.cons_append, List.nil_append, ne_eq, true_and, and_true, and_self, not_true_eq_false, not_false_eq_true, true_implies, false_implies, reduceCtorEq]
    · refine ⟨kf_s M (kw_fi M l), fun b j h2 h3 => ?_, ?_, fun Q => ?_⟩
      · unfold kf_s; rw [km_sr_o (by omega), km_sr_o (by omega)]
      · rw [kx, if_neg z]
        unfold kf_s
        rw [km_sr_o (by decide), km_sr_o (by decide), km_sr_o (by decide), km_sr_o (by decide), hb, hp]
      · have z2 : ¬ (kw_fi M l).1 g < 1000000 := by rw [cg.1]; exact z
        rw [g_X2_carry_32]
        simp (config := { decide := true }) (disch := first | decide | assumption | omega | (simp (config := { decide := true }) only [km_sr_sf, km_sr_of, km_up_of, km_up_o, km_upx_i, km_upx_s, km_fl2_o, ne_eq, not_true_eq_false, not_false_eq_true] <;> omega) | fail) only [g_X2_carry, y, fw, z2, Int.add_sub_cancel, true_or, or_true, false_or, or_false, false_and, and_false, if_true, if_false, ka_lo, ka_hi, ka_nn, km_sr_sf, km_sr_of, km_up_of, km_sr_us, km_sr_uo, km_sr_sr, km_sr_fl, km_sr_flo, km_up_up, km_up_lt, km_lay, km_unL, km_up_o, km_upx_i, km_upx_s, km_fl2_o, km_is, Option.some.injEq, Sum.inl.injEq, Sum.inr.injEq, Option.toList_some, Option.toList_none, List.cons_append, List.nil_append, ne_eq, true_and, and_true, and_self, not_true_eq_false, not_false_eq_true, true_implies, false_implies, reduceCtorEq]
/-- nothing taken yet -/
theorem kx_ok0 {m : km_Mm} {l : Int} {W T : Int → Int} (h : kf_cl m) (hT : ∀ f : Int, 0 ≤ f → f < 14 → T f = 0) (hS : ∀ f : Int, 0 ≤ f → f < m 59 0 → 0 ≤ m 63 f ∧ m 63 f ≤ 9) (hW : ∀ v : Int, 0 ≤ v → v < 6 → 0 ≤ W v ∧ W v ≤ 10) : kx_ok m l W T := by
  refine ⟨h, kw_pot_0 (kf_cl_ok h) (fun f f0 f1 => ?_), fun f f0 f1 => ?_, fun f f0 f1 => ?_, hW⟩
  · have := h.1.2; unfold kx_e2; rw [hT f f0 (by omega)]; simp
  · have := h.1.2; rw [hT f f0 (by omega)]; have := hS f f0 f1; omega
  · exact hT f (by have := h.1.1; omega) f1
theorem cl_carry {q : Nat × Int × Int × Int × Int} {c s : Nat} {M : km_Mm} {l g : Int} (hg : 0 ≤ g ∧ g < 6) (hf : kf_cl M) (hS : ∀ f : Int, 0 ≤ f → f < M 59 0 → 0 ≤ M 63 f ∧ M 63 f ≤ 9) (hW : ∀ v : Int, 0 ≤ v → v < 6 → 0 ≤ M 65 v ∧ M 65 v ≤ 10) :
    ∃ M' : km_Mm, (∀ b j : Int, ¬ (65 ≤ b ∧ b ≤ 68) → ¬ (b = 59 ∧ 10 ≤ j) → M' b j = M b j) ∧ (M' 59 10, M' 59 11) = kx M l g 10 (km_u1 (M 65) g 0) (kv_fl (M 66) 0 14 0) (M 65 g) 0 ∧ ∀ Q : Option km_V → km_Al → km_Mm → Prop, (km_E M_X2_carry [.inr (.inr 59), .inl g, .inl l] (km_A0 q c s) M Q ↔ Q none (km_A0 q c s) M') := by
  have f := fun m' Q => @r_fill q c s m' 66 0 14 (by decide) (by simp (config := { decide := true }) only [km_lay, km_unL, km_up_o, km_upx_i, km_upx_s, km_fl2_o, km_is, Option.some.injEq, Sum.inl.injEq, Sum.inr.injEq, Option.toList_some, Option.toList_none, List.cons_append, List.nil_append, ne_eq, true_and, and_true, and_self, not_true_eq_false, not_false_eq_true, true_implies, false_implies, reduceCtorEq]) (by simp (config := { decide := true }) only [km_lay, km_unL, km_up_o, km_upx_i, km_upx_s, km_fl2_o, km_is, Option.some.injEq, Sum.inl.injEq, Sum.inr.injEq, Option.toList_some, Option.toList_none, List.cons_append, List.nil_append, ne_eq, true_and, and_true, and_self, not_true_eq_false, not_false_eq_true, true_implies, false_implies, reduceCtorEq]) (by simp (config := { decide := true }) only [km_lay, km_unL, km_up_o, km_upx_i, km_upx_s, km_fl2_o, km_is, Option.some.injEq, Sum.inl.injEq, Sum.inr.injEq, Option.toList_some, Option.toList_none, List.cons_append, List.nil_append, ne_eq, true_and, and_true, and_self, not_true_eq_false, not_false_eq_true, true_implies, false_implies, reduceCtorEq]) (by decide) Q
  have wg := hW g hg.1 hg.2
  generalize hM0 : km_up (km_up (km_up (km_fl2 M 66 0 14 0) 59 10 (M 65 g)) 59 11 0) 65 g 0 = M0
  have r : ∀ b : Int, b ≠ 59 → b ≠ 65 → b ≠ 66 → M0 b = M b := fun b h1 h2 h3 => by
    funext j; rw [← hM0, km_up_o h2, km_up_o h1, km_up_o h1, km_fl2_o h3]
  have n0 : M0 59 0 = M 59 0 := by rw [← hM0]; simp (disch := omega) only [km_up_ne, km_fl2_ne]
  have c0 : kf_cl M0 := by
    refine ⟨by rw [n0]; exact hf.1, fun x x0 x1 => ?_⟩
    rw [r 60 (by decide) (by decide) (by decide), r 61 (by decide) (by decide) (by decide), r 64 (by decide) (by decide) (by decide)]
    exact hf.2 x x0 (by omega)
  have e65 : M0 65 = km_u1 (M 65) g 0 := by
    funext j; rw [← hM0]
    by_cases e : j = g
    · subst e; rw [km_upx_s, km_u1_s]
    · rw [km_upx_i e, km_u1_o e]; simp (disch := omega) only [km_up_ne, km_fl2_ne]
  have e66 : M0 66 = kv_fl (M 66) 0 14 0 := by
    funext j; rw [← hM0]; simp (disch := omega) only [km_up_ne]; unfold km_fl2 kv_fl; by_cases z : 0 ≤ j ∧ j < 14
    · rw [if_pos ⟨rfl, z⟩, if_pos z]
    · rw [if_neg (fun w => z w.2), if_neg z]
  have ok : kx_ok M l (km_u1 (M 65) g 0) (kv_fl (M 66) 0 14 0) := kx_ok0 hf (fun x x0 x1 => by unfold kv_fl; rw [if_pos ⟨x0, x1⟩]) hS (fun v v0 v1 => by
    unfold km_u1; split
    · omega
    · exact hW v v0 v1)
  obtain ⟨M', g1, g2, g3⟩ := @cl_carry32 q c s M l g hg 10 0 (M 65 g) 0 _ _ M0 (by omega) (by omega) ok e65 e66 (by rw [← hM0]; simp (disch := omega) only [km_up_ne, km_up_eq]) (by rw [← hM0]; simp (disch := omega) only [km_up_ne, km_up_eq]) (fun b b0 b1 => r b (by omega) (by omega) (by omega)) n0 (by omega) (by omega)
  refine ⟨M', fun b j h2 h3 => ?_, g2, fun Q => ?_⟩
  · rw [g1 b j h2 h3, ← hM0]; simp (disch := omega) only [km_up_ne, km_fl2_ne]
  · rw [← g3 Q, ← hM0, e_X2_carry]
    have q65 : km_fl2 M 66 0 14 0 65 g = M 65 g := km_fl2_ne (by omega)
    simp (config := { decide := true }) (disch := first | decide | assumption | omega | (simp (config := { decide := true }) only [km_sr_sf, km_sr_of, km_up_of, km_up_o, km_upx_i, km_upx_s, km_fl2_o, ne_eq, not_true_eq_false, not_false_eq_true] <;> omega) | fail) only [g_X2_carry, f, q65, hg.1, hg.2, Int.add_sub_cancel, true_or, or_true, false_or, or_false, false_and, and_false, if_true, if_false, ka_lo, ka_hi, ka_nn, km_sr_sf, km_sr_of, km_up_of, km_sr_us, km_sr_uo, km_sr_sr, km_sr_fl, km_sr_flo, km_up_up, km_up_lt, km_lay, km_unL, km_up_o, km_upx_i, km_upx_s, km_fl2_o, km_is, Option.some.injEq, Sum.inl.injEq, Sum.inr.injEq, Option.toList_some, Option.toList_none, List.cons_append, List.nil_append, ne_eq, true_and, and_true, and_self, not_true_eq_false, not_false_eq_true, true_implies, false_implies, reduceCtorEq]

