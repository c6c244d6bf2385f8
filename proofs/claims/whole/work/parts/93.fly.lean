/-! ===== flights: only lands below 6 and flights below 14 matter ===== -/
theorem kw_e_cong {a b p : Int → Int} {e1 e2 g1 g2 : Int → Bool} {n : Int} (h : ∀ f : Int, 0 ≤ f → f < n → e1 f = g1 f ∧ e2 f = g2 f) : ∀ (k : Nat) (i : Int) (s : (Int → Int) × (Int → Int)), 0 ≤ i → i + k = n → kw_r a b p e1 e2 k i s = kw_r a b p g1 g2 k i s ∧ (kw_rh a b p e1 e2 k i s ↔ kw_rh a b p g1 g2 k i s) := by
  intro k
  induction k with
  | zero => intro i s _ _; exact ⟨rfl, Iff.rfl⟩
  | succ k ih =>
    intro i s h0 h1
    obtain ⟨q1, q2⟩ := h i h0 (by omega)
    have es : kw_s a b p e1 e2 i s = kw_s a b p g1 g2 i s := by unfold kw_s; rw [q1, q2]
    have eh : kw_h a b p e1 e2 i s ↔ kw_h a b p g1 g2 i s := by unfold kw_h; rw [q1, q2]
    have i1 := ih (i + 1) (kw_s a b p g1 g2 i s) (by omega) (by omega)
    unfold kw_r kw_rh
    rw [es, eh]
    exact ⟨i1.1, by rw [i1.2]⟩
theorem kw_we_cong {a b p : Int → Int} {e1 e2 g1 g2 : Int → Bool} {n : Int} (n0 : 0 ≤ n) (h : ∀ f : Int, 0 ≤ f → f < n → e1 f = g1 f ∧ e2 f = g2 f) : ∀ (k : Nat) (s : (Int → Int) × (Int → Int)), kw_w a b p e1 e2 n k s = kw_w a b p g1 g2 n k s := by
  intro k
  induction k with
  | zero => intro s; rfl
  | succ k ih =>
    intro s
    obtain ⟨q1, q2⟩ := kw_e_cong (a := a) (b := b) (p := p) h n.toNat 0 s (by omega) (by omega)
    rw [kw_w, kw_w, q1, ih]
    by_cases z : kw_rh a b p e1 e2 n.toNat 0 s
    · rw [if_pos z, if_pos (q2.mp z)]
    · rw [if_neg z, if_neg (fun w => z (q2.mpr w))]
theorem kx_s_cong {m : km_Mm} {l : Int} {W W' T T' : Int → Int} (n0 : 0 ≤ m 59 0 ∧ m 59 0 ≤ 14) (hW : ∀ v : Int, 0 ≤ v → v < 6 → W v = W' v) (hT : ∀ f : Int, 0 ≤ f → f < 14 → T f = T' f) : kx_s m l W T = kx_s m l W' T' := by
  have e : kw_in W (fun _ => 0, fun _ => 0) 0 = kw_in W' (fun _ => 0, fun _ => 0) 0 := by
    unfold kw_in kv_fn
    congr 1
    funext j
    by_cases z : 0 ≤ j ∧ j < 6
    · rw [if_pos z, if_pos z]; dsimp only; rw [hW j z.1 z.2]
    · rw [if_neg z, if_neg z]
  unfold kx_s
  rw [e]
  exact kw_we_cong n0.1 (fun f f0 f1 => by unfold kx_e1 kx_e2; rw [hT f f0 (by omega)]; exact ⟨rfl, rfl⟩) 6 _
theorem kw_go_T {a b p : Int → Int} {e1 e2 : Int → Bool} {n : Int} {src : Int → Prop} (ho : kw_ok a b p n) {s : (Int → Int) × (Int → Int)} {o : Int → Int} (K : kw_K a b p e1 e2 n src s o) : ∀ (k : Nat) (v : Int) (T T' : Int → Int), 0 ≤ v → v < 6 → kw_F a b p e1 e2 n src s.1 v → (∀ f : Int, 0 ≤ f → f < 14 → T f = T' f) → (kw_go a b s.2 k v T).1 = (kw_go a b s.2 k v T').1 ∧ ∀ f : Int, 0 ≤ f → f < 14 → (kw_go a b s.2 k v T).2 f = (kw_go a b s.2 k v T').2 f := by
  intro k
  induction k with
  | zero => intro v T T' _ _ _ h; exact ⟨rfl, h⟩
  | succ k ih =>
    intro v T T' v0 v1 hF h
    unfold kw_go
    by_cases z : s.2 v = -1
    · rw [if_pos z, if_pos z]; exact ⟨rfl, h⟩
    · obtain ⟨u, w, q1, q2, -, -⟩ := (K v v0 v1 hF).2.2 z
      have hin := kw_arc_in ho (kw_par_arc q1)
      have hn := ho.1
      rw [if_neg z, if_neg z]
      obtain ⟨f, p0, p1, g | g⟩ := q1
      · obtain ⟨g1, g2, g3, g4, g5⟩ := g
        rw [if_pos (by omega), if_pos (by omega), g1]
        refine ih (a f) _ _ (g3 ▸ hin.1.1) (g3 ▸ hin.1.2) (g3 ▸ q2) (fun x x0 x1 => ?_)
        rw [h f p0 (by omega)]
        unfold km_u1
        split
        · rfl
        · exact h x x0 x1
      · obtain ⟨g1, g2, g3, g4, g5⟩ := g
        rw [if_neg (by omega), if_neg (by omega), g1, show 14 + f - 14 = f by omega]
        refine ih (b f) _ _ (g3 ▸ hin.1.1) (g3 ▸ hin.1.2) (g3 ▸ q2) (fun x x0 x1 => ?_)
        rw [h f p0 (by omega)]
        unfold km_u1
        split
        · rfl
        · exact h x x0 x1
theorem kx_cong {m : km_Mm} {l g : Int} (hg : 0 ≤ g ∧ g < 6) : ∀ (k : Nat) (W W' T T' : Int → Int) (br pr : Int), kx_ok m l W T → (∀ v : Int, 0 ≤ v → v < 6 → W v = W' v) → (∀ f : Int, 0 ≤ f → f < 14 → T f = T' f) → kx m l g k W T br pr = kx m l g k W' T' br pr := by
  intro k
  induction k with
  | zero => intro W W' T T' br pr _ _ _; rfl
  | succ k ih =>
    intro W W' T T' br pr ok hW hT
    have es := kx_s_cong (l := l) ok.1.1 hW hT
    rw [kx, kx, ← es]
    by_cases z : (kx_s m l W T).1 g < 1000000
    · rw [if_pos z, if_pos z]
      obtain ⟨ok2, sr, -⟩ := kx_step ok hg z
      have ho := kf_cl_ok ok.1
      obtain ⟨L, hd, ⟨o, K⟩, -⟩ := kw_srch (src := kx_src W) ho ok.1.1.1 (fun v hv => hv.1) ok.2.1 kx_in.1 (kx_in (s := (fun _ => 0, fun _ => 0))).2
      obtain ⟨hF, og, -⟩ := kw_gone ho ok.1.1.1 ok.2.1 kx_e1_iff kx_e2_iff (fun f f0 f1 => ⟨(ok.2.2.1 f f0 f1).1, (ok.2.2.1 f f0 f1).2.1⟩) L hd K hg z
      have gt := kw_go_T ho K 6 g T T' hg.1 hg.2 hF hT
      have e1 : (kx_g m l g W T).1 = (kx_g m l g W' T').1 := by unfold kx_g; rw [← es]; exact gt.1
      have e2 : ∀ f : Int, 0 ≤ f → f < 14 → (kx_g m l g W T).2 f = (kx_g m l g W' T').2 f := fun f f0 f1 => by unfold kx_g; rw [← es]; exact gt.2 f f0 f1
      refine ih _ _ _ _ _ _ ok2 (fun v v0 v1 => ?_) e2
      rw [← e1]
      unfold km_u1
      split
      · rw [hW _ sr.1.1 sr.1.2]
      · exact hW v v0 v1
    · rw [if_neg z, if_neg z]
/-- nobody waits: nobody comes -/
theorem kx_none {m : km_Mm} {l g : Int} {W T : Int → Int} (ok : kx_ok m l W T) (hg : 0 ≤ g ∧ g < 6) (h : ∀ v : Int, 0 ≤ v → v < 6 → W v ≤ 0) : ¬ (kx_s m l W T).1 g < 1000000 := by
  intro z
  have ho := kf_cl_ok ok.1
  obtain ⟨L, -⟩ := kw_srch (src := kx_src W) ho ok.1.1.1 (fun v hv => hv.1) ok.2.1 kx_in.1 (kx_in (s := (fun _ => 0, fun _ => 0))).2
  have none : ∀ (k : Nat) (v d : Int), ¬ kw_k (kx_src W) (kw_arc (m 60) (m 61) (m 64) (kx_e1 m l T) (kx_e2 m l T) (m 59 0)) k v d := by
    intro k
    induction k with
    | zero => rintro v d ⟨⟨hv, h1⟩, -⟩; have := h v hv.1 hv.2; omega
    | succ k ih => rintro v d ⟨u, e, w, h1, -, -⟩; exact ih u e h1
  rcases (L g hg.1 hg.2).1 with w | ⟨-, k, w⟩
  · unfold kx_s at z; omega
  · exact none _ _ _ w
/-- how many wait in all -/
def kx_sum (W : Int → Int) : Int := W 0 + W 1 + W 2 + W 3 + W 4 + W 5
theorem kx_sum_up {W : Int → Int} {v : Int} (h : 0 ≤ v ∧ v < 6) : kx_sum (km_u1 W v (W v - 1)) = kx_sum W - 1 := by
  have : v = 0 ∨ v = 1 ∨ v = 2 ∨ v = 3 ∨ v = 4 ∨ v = 5 := by omega
  unfold kx_sum km_u1
  rcases this with e | e | e | e | e | e <;> subst e <;> simp <;> omega
theorem md_more129 {q : Nat × Int × Int × Int × Int} {c s : Nat} {m : km_Mm} {l o g : Int} (ho : 0 ≤ o ∧ o < 6) (hg : 0 ≤ g ∧ g < 6) : ∀ (k : Nat) (W T : Int → Int) (br pr : Int) (mm : km_Mm) , kx_sum W ≤ k → k ≤ 100 → kx_ok m l W T → kf_md m mm → mm 160 = T → mm 159 = W → mm 152 o = l → mm 151 o = g → mm 123 77 = br → mm 123 78 = pr → (0 ≤ br ∧ br + k ≤ 400) → (-(300000000 - 1000000 * (k : Int)) ≤ pr ∧ pr ≤ 300000000 - 1000000 * (k : Int)) →
    ∃ M' : km_Mm, (∀ b j : Int, ¬ (159 ≤ b ∧ b ≤ 162) → ¬ (b = 123 ∧ 77 ≤ j ∧ j ≤ 79) → M' b j = mm b j) ∧ (M' 123 77, M' 123 78) = kx m l g k W T br pr ∧ ∀ Q : Option km_V → km_Al → km_Mm → Prop, (km_G M_X12_travels 129 [some (.inr (.inr 123)), some (.inl o), some (.inl 1)] [] (km_A0 q c s) mm Q ↔ Q none (km_A0 q c s) M') := by
  intro k
  induction k with
  | zero =>
    intro W T br pr mm hs k100 ok hm hT hW hl hg1 hb hp b1 p1
    obtain ⟨M', g1, g2, g3⟩ := @md_oneMore q c s m mm l o g W T br pr ok hm hT hW ho hl hg1 hg hb hp (by omega) (by omega)
    have z := kx_none (g := g) ok hg (fun v v0 v1 => by
      have a0 := ok.2.2.2.2 0 (by omega) (by omega)
      have a1 := ok.2.2.2.2 1 (by omega) (by omega)
      have a2 := ok.2.2.2.2 2 (by omega) (by omega)
      have a3 := ok.2.2.2.2 3 (by omega) (by omega)
      have a4 := ok.2.2.2.2 4 (by omega) (by omega)
      have a5 := ok.2.2.2.2 5 (by omega) (by omega)
      unfold kx_sum at hs
      have : v = 0 ∨ v = 1 ∨ v = 2 ∨ v = 3 ∨ v = 4 ∨ v = 5 := by omega
      rcases this with e | e | e | e | e | e <;> subst e <;> omega)
    rw [if_neg z] at g2 g3
    refine ⟨M', g1, by rw [g2.1, g2.2]; rfl, fun Q => ?_⟩
    rw [g_X12_travels_129]
    simp (config := { decide := true }) (disch := first | decide | assumption | omega | (simp (config := { decide := true }) only [km_sr_sf, km_sr_of, km_up_of, km_up_o, km_upx_i, km_upx_s, km_fl2_o, ne_eq, not_true_eq_false, not_false_eq_true] <;> omega) | fail) only [g_X12_travels, g3, Int.add_sub_cancel, true_or, or_true, false_or, or_false, false_and, and_false, if_true, if_false, ka_lo, ka_hi, ka_nn, km_sr_sf, km_sr_of, km_up_of, km_sr_us, km_sr_uo, km_sr_sr, km_sr_fl, km_sr_flo, km_up_up, km_up_lt, km_lay, km_unL, km_up_o, km_upx_i, km_upx_s, km_fl2_o, km_is, Option.some.injEq, Sum.inl.injEq, Sum.inr.injEq, Option.toList_some, Option.toList_none, List.cons_append, List.nil_append, ne_eq, true_and, and_true, and_self, not_true_eq_false, not_false_eq_true, true_implies, false_implies, reduceCtorEq]
    rw [g_X12_travels_129]
    simp (config := { decide := true }) (disch := first | decide | assumption | omega | (simp (config := { decide := true }) only [km_sr_sf, km_sr_of, km_up_of, km_up_o, km_upx_i, km_upx_s, km_fl2_o, ne_eq, not_true_eq_false, not_false_eq_true] <;> omega) | fail) only [g_X12_travels, Int.add_sub_cancel, true_or, or_true, false_or, or_false, false_and, and_false, if_true, if_false, ka_lo, ka_hi, ka_nn, km_sr_sf, km_sr_of, km_up_of, km_sr_us, km_sr_uo, km_sr_sr, km_sr_fl, km_sr_flo, km_up_up, km_up_lt, km_lay, km_unL, km_up_o, km_upx_i, km_upx_s, km_fl2_o, km_is, Option.some.injEq, Sum.inl.injEq, Sum.inr.injEq, Option.toList_some, Option.toList_none, List.cons_append, List.nil_append, ne_eq, true_and, and_true, and_self, not_true_eq_false, not_false_eq_true, true_implies, false_implies, reduceCtorEq]
  | succ k ih =>
    intro W T br pr mm hs k100 ok hm hT hW hl hg1 hb hp b1 p1
    obtain ⟨M', g1, g2, g3⟩ := @md_oneMore q c s m mm l o g W T br pr ok hm hT hW ho hl hg1 hg hb hp (by omega) (by omega)
    by_cases z : (kx_s m l W T).1 g < 1000000
    · obtain ⟨ok2, sr, cb⟩ := kx_step ok hg z
      rw [if_pos z] at g2 g3
      obtain ⟨m159, m160, m77, m78⟩ := g2
      have su := kx_sum_up (W := W) (v := (kx_g m l g W T).1) ⟨sr.1.1, sr.1.2⟩
      have fr : ∀ b j : Int, ¬ (159 ≤ b ∧ b ≤ 162) → ¬ (b = 123 ∧ 77 ≤ j ∧ j ≤ 79) → M' b j = mm b j := g1
      obtain ⟨M2, h1, h2, h3⟩ := ih _ _ (br + 1) (pr + (kx_s m l W T).1 g) M' (by rw [su]; omega) (by omega) ok2 ⟨(g1 123 67 (by omega) (by omega)).trans hm.1, fun f f0 f1 => by
        rw [g1 154 f (by omega) (by omega), g1 155 f (by omega) (by omega), g1 156 f (by omega) (by omega), g1 157 f (by omega) (by omega), g1 158 f (by omega) (by omega)]; exact hm.2 f f0 f1⟩ m160 m159 ((g1 152 o (by omega) (by omega)).trans hl) ((g1 151 o (by omega) (by omega)).trans hg1) m77 m78 (by omega) (by omega)
      refine ⟨M2, fun b j a1 a2 => (h1 b j a1 a2).trans (g1 b j a1 a2), by rw [h2, kx, if_pos z], fun Q => ?_⟩
      rw [← h3 Q, g_X12_travels_129]
      simp (config := { decide := true }) (disch := first | decide | assumption | omega | (simp (config := { decide := true }) only [km_sr_sf, km_sr_of, km_up_of, km_up_o, km_upx_i, km_upx_s, km_fl2_o, ne_eq, not_true_eq_false, not_false_eq_true] <;> omega) | fail) only [g_X12_travels, g3, Int.add_sub_cancel, true_or, or_true, false_or, or_false, false_and, and_false, if_true, if_false, ka_lo, ka_hi, ka_nn, km_sr_sf, km_sr_of, km_up_of, km_sr_us, km_sr_uo, km_sr_sr, km_sr_fl, km_sr_flo, km_up_up, km_up_lt, km_lay, km_unL, km_up_o, km_upx_i, km_upx_s, km_fl2_o, km_is, Option.some.injEq, Sum.inl.injEq, Sum.inr.injEq, Option.toList_some, Option.toList_none, List.cons_append, List.nil_append, ne_eq, true_and, and_true, and_self, not_true_eq_false, not_false_eq_true, true_implies, false_implies, reduceCtorEq]
    · rw [if_neg z] at g2 g3
      refine ⟨M', g1, by rw [g2.1, g2.2, kx, if_neg z], fun Q => ?_⟩
      rw [g_X12_travels_129]
      simp (config := { decide := true }) (disch := first | decide | assumption | omega | (simp (config := { decide := true }) only [km_sr_sf, km_sr_of, km_up_of, km_up_o, km_upx_i, km_upx_s, km_fl2_o, ne_eq, not_true_eq_false, not_false_eq_true] <;> omega) | fail) only [g_X12_travels, g3, Int.add_sub_cancel, true_or, or_true, false_or, or_false, false_and, and_false, if_true, if_false, ka_lo, ka_hi, ka_nn, km_sr_sf, km_sr_of, km_up_of, km_sr_us, km_sr_uo, km_sr_sr, km_sr_fl, km_sr_flo, km_up_up, km_up_lt, km_lay, km_unL, km_up_o, km_upx_i, km_upx_s, km_fl2_o, km_is, Option.some.injEq, Sum.inl.injEq, Sum.inr.injEq, Option.toList_some, Option.toList_none, List.cons_append, List.nil_append, ne_eq, true_and, and_true, and_self, not_true_eq_false, not_false_eq_true, true_implies, false_implies, reduceCtorEq]
      rw [g_X12_travels_129]
      simp (config := { decide := true }) (disch := first | decide | assumption | omega | (simp (config := { decide := true }) only [km_sr_sf, km_sr_of, km_up_of, km_up_o, km_upx_i, km_upx_s, km_fl2_o, ne_eq, not_true_eq_false, not_false_eq_true] <;> omega) | fail) only [g_X12_travels, Int.add_sub_cancel, true_or, or_true, false_or, or_false, false_and, and_false, if_true, if_false, ka_lo, ka_hi, ka_nn, km_sr_sf, km_sr_of, km_up_of, km_sr_us, km_sr_uo, km_sr_sr, km_sr_fl, km_sr_flo, km_up_up, km_up_lt, km_lay, km_unL, km_up_o, km_upx_i, km_upx_s, km_fl2_o, km_is, Option.some.injEq, Sum.inl.injEq, Sum.inr.injEq, Option.toList_some, Option.toList_none, List.cons_append, List.nil_append, ne_eq, true_and, and_true, and_self, not_true_eq_false, not_false_eq_true, true_implies, false_implies, reduceCtorEq]

