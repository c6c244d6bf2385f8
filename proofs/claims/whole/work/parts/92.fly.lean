/-! ===== flights in the reference: one more ===== -/
def kq_2 (mm : km_Mm) (st : (Int → Int) × (Int → Int)) : km_Mm := km_sr (km_sr mm 161 st.1) 162 st.2
theorem lp_mway_2 {q : Nat × Int × Int × Int × Int} {c s : Nat} {Q : Option km_V → km_Al → km_Mm → Prop} {o : Int} {m : km_Mm} {R : (Int → Int) × (Int → Int) → Prop} (hR : ∀ st : (Int → Int) × (Int → Int), km_G M_X12_oneMore 42 [some (.inr (.inr 123)), some (.inl o), some (.inl 6), none, none] [] (km_A0 q c s) (kq_2 m st) Q ↔ R st) : ∀ (n : Nat) (v : Int) (st : (Int → Int) × (Int → Int)), 0 ≤ v → v + n = 6 → (km_G M_X12_oneMore 2 [some (.inr (.inr 123)), some (.inl o), some (.inl v), none, none] [] (km_A0 q c s) (kq_2 m st) Q ↔ R (kw_in (m 159) st v)) := by
  intro n
  induction n with
  | zero =>
    intro v st h0 h1
    have e2 : v = 6 := by omega
    subst e2
    have e3 : kw_in (m 159) st 6 = st := by unfold kw_in; rw [kv_fn_end (Int.le_refl _), kv_fl_end (Int.le_refl _)]
    rw [g_X12_oneMore_2]
    simp (config := { decide := true }) (disch := first | decide | assumption | omega | (simp (config := { decide := true }) only [km_sr_sf, km_sr_of, km_up_of, km_up_o, km_upx_i, km_upx_s, km_fl2_o, ne_eq, not_true_eq_false, not_false_eq_true] <;> omega) | fail) only [g_X12_oneMore, e3, Int.le_refl, hR, h0, Int.add_sub_cancel, true_or, or_true, false_or, or_false, false_and, and_false, if_true, if_false, ka_lo, ka_hi, ka_nn, km_sr_sf, km_sr_of, km_up_of, km_sr_us, km_sr_uo, km_sr_sr, km_sr_fl, km_sr_flo, km_up_up, km_up_lt, km_lay, km_unL, km_up_o, km_upx_i, km_upx_s, km_fl2_o, km_is, Option.some.injEq, Sum.inl.injEq, Sum.inr.injEq, Option.toList_some, Option.toList_none, List.cons_append, List.nil_append, ne_eq, true_and, and_true, and_self, not_true_eq_false, not_false_eq_true, true_implies, false_implies, reduceCtorEq]
    all_goals grind
  | succ n ih =>
    intro v st h0 h1
    have e : ¬ (6 : Int) ≤ v := by omega
    have u := @kv_fn_up st.1 (fun j => if 0 < m 159 j then 0 else 1000000) v 6 (by omega)
    have u2 := @kv_fl_up st.2 v 6 (-1) (by omega)
    have i1 := ih (v + 1) (km_u1 st.1 v (if 0 < m 159 v then 0 else 1000000), km_u1 st.2 v (-1)) (by omega) (by omega)
    have e3 : kw_in (m 159) (km_u1 st.1 v (if 0 < m 159 v then 0 else 1000000), km_u1 st.2 v (-1)) (v + 1) = kw_in (m 159) st v := by
      unfold kw_in; dsimp only; rw [u, u2]
    rw [e3] at i1
    unfold kq_2 at *
    rw [g_X12_oneMore_2]
    by_cases z : 0 < m 159 v
    · rw [if_pos z] at i1
      dsimp only at i1
      simp (config := { decide := true }) (disch := first | decide | assumption | omega | (simp (config := { decide := true }) only [km_sr_sf, km_sr_of, km_up_of, km_up_o, km_upx_i, km_upx_s, km_fl2_o, ne_eq, not_true_eq_false, not_false_eq_true] <;> omega) | fail) only [g_X12_oneMore, e, i1, ka_lt, ka_le, ka_nlt, ka_nle, ka_ne, ka_eq, Int.add_sub_cancel, true_or, or_true, false_or, or_false, false_and, and_false, if_true, if_false, ka_lo, ka_hi, ka_nn, km_sr_sf, km_sr_of, km_up_of, km_sr_us, km_sr_uo, km_sr_sr, km_sr_fl, km_sr_flo, km_up_up, km_up_lt, km_lay, km_unL, km_up_o, km_upx_i, km_upx_s, km_fl2_o, km_is, Option.some.injEq, Sum.inl.injEq, Sum.inr.injEq, Option.toList_some, Option.toList_none, List.cons_append, List.nil_append, ne_eq, true_and, and_true, and_self, not_true_eq_false, not_false_eq_true, true_implies, false_implies, reduceCtorEq]
    · rw [if_neg z] at i1
      dsimp only at i1
      simp (config := { decide := true }) (disch := first | decide | assumption | omega | (simp (config := { decide := true }) only [km_sr_sf, km_sr_of, km_up_of, km_up_o, km_upx_i, km_upx_s, km_fl2_o, ne_eq, not_true_eq_false, not_false_eq_true] <;> omega) | fail) only [g_X12_oneMore, e, i1, ka_lt, ka_le, ka_nlt, ka_nle, ka_ne, ka_eq, Int.add_sub_cancel, true_or, or_true, false_or, or_false, false_and, and_false, if_true, if_false, ka_lo, ka_hi, ka_nn, km_sr_sf, km_sr_of, km_up_of, km_sr_us, km_sr_uo, km_sr_sr, km_sr_fl, km_sr_flo, km_up_up, km_up_lt, km_lay, km_unL, km_up_o, km_upx_i, km_upx_s, km_fl2_o, km_is, Option.some.injEq, Sum.inl.injEq, Sum.inr.injEq, Option.toList_some, Option.toList_none, List.cons_append, List.nil_append, ne_eq, true_and, and_true, and_self, not_true_eq_false, not_false_eq_true, true_implies, false_implies, reduceCtorEq]
theorem md_oneMore {q : Nat × Int × Int × Int × Int} {c s : Nat} {m mm : km_Mm} {l o g : Int} {W T : Int → Int} {br pr : Int} (ok : kx_ok m l W T) (hm : kf_md m mm) (hT : mm 160 = T) (hW : mm 159 = W) (ho : 0 ≤ o ∧ o < 6) (hl : mm 152 o = l) (hg1 : mm 151 o = g) (hg : 0 ≤ g ∧ g < 6) (hb : mm 123 77 = br) (hp : mm 123 78 = pr) (b1 : 0 ≤ br ∧ br ≤ 500) (p1 : -500000000 ≤ pr ∧ pr ≤ 500000000) :
    ∃ M' : km_Mm, (∀ b j : Int, ¬ (159 ≤ b ∧ b ≤ 162) → ¬ (b = 123 ∧ 77 ≤ j ∧ j ≤ 79) → M' b j = mm b j) ∧
      (if (kx_s m l W T).1 g < 1000000 then M' 159 = km_u1 W (kx_g m l g W T).1 (W (kx_g m l g W T).1 - 1) ∧ M' 160 = (kx_g m l g W T).2 ∧ M' 123 77 = br + 1 ∧ M' 123 78 = pr + (kx_s m l W T).1 g else M' 123 77 = br ∧ M' 123 78 = pr) ∧
      ∀ Q : Option km_V → km_Al → km_Mm → Prop, (km_E M_X12_oneMore [.inr (.inr 123), .inl o] (km_A0 q c s) mm Q ↔ Q (some (.inl (if (kx_s m l W T).1 g < 1000000 then 1 else 0))) (km_A0 q c s) M') := by
  have hf := ok.1
  have hok := kf_cl_ok hf
  -- the search from mm's own rows
  obtain ⟨L, hd, ⟨od, K⟩, nr⟩ := kw_srch (src := kx_src W) hok hf.1.1 (fun v hv => hv.1) ok.2.1 kx_in.1 (kx_in (s := (mm 161, mm 162))).2
  have c6 : kw_6 (kw_w (m 60) (m 61) (m 64) (kx_e1 m l T) (kx_e2 m l T) (m 59 0) 6 (kw_in W (mm 161, mm 162) 0)) (kx_s m l W T) := kw_w_cong hok hf.1.1 6 _ _ kx_in6
  have cg := c6 g hg.1 hg.2
  have L0 := @kw_it_L (m 60) (m 61) (m 64) (kx_e1 m l T) (kx_e2 m l T) (m 59 0) (kx_src W) hok hf.1.1 (kw_in W (mm 161, mm 162) 0) kx_in.1 0 (by omega)
  have id2 : kq_2 mm (mm 161, mm 162) = mm := by
    unfold kq_2
    funext b j
    by_cases e : b = 162
    · subst e; rw [km_sr_s]
    · rw [km_sr_o e]
      by_cases e2 : b = 161
      · subst e2; rw [km_sr_s]
      · rw [km_sr_o e2]
  have h2 := fun Q => @lp_mway_2 q c s Q o mm (fun st => km_G M_X12_oneMore 42 [some (.inr (.inr 123)), some (.inl o), some (.inl 6), none, none] [] (km_A0 q c s) (kq_2 mm st) Q) (fun st => Iff.rfl) 6 0 (mm 161, mm 162) (by omega) (by omega)
  rw [id2, hW] at h2
  generalize hst0 : kw_in W (mm 161, mm 162) 0 = st0 at *
  generalize hst : kw_w (m 60) (m 61) (m 64) (kx_e1 m l T) (kx_e2 m l T) (m 59 0) 6 st0 = st at *
  have to201 : ∀ Q : Option km_V → km_Al → km_Mm → Prop, ∃ p2 p3 p4 : Option km_V, (km_E M_X12_oneMore [.inr (.inr 123), .inl o] (km_A0 q c s) mm Q ↔ km_G M_X12_oneMore 201 [some (.inr (.inr 123)), some (.inl o), p2, p3, p4] [] (km_A0 q c s) (kq_s mm False st) Q) := fun Q => by
    obtain ⟨p2, p3, p4, h⟩ := @md_way47 q c s m mm l o T (kx_src W) hf hm hT ho hl Q 6 0 True st0 (some (.inl 6)) none none (by omega) (by omega) L0 (fun _ => by rw [hst]; exact nr)
    rw [if_pos trivial, hst] at h
    refine ⟨p2, p3, p4, ?_⟩
    rw [← h, e_X12_oneMore]
    have h2 := h2 Q
    unfold kq_2 at h2
    unfold kq_s
    rw [if_pos trivial]
    simp (config := { decide := true }) (disch := first | decide | assumption | omega | (simp (config := { decide := true }) only [km_sr_sf, km_sr_of, km_up_of, km_up_o, km_upx_i, km_upx_s, km_fl2_o, ne_eq, not_true_eq_false, not_false_eq_true] <;> omega) | fail) only [g_X12_oneMore, h2, Int.add_sub_cancel, true_or, or_true, false_or, or_false, false_and, and_false, if_true, if_false, ka_lo, ka_hi, ka_nn, km_sr_sf, km_sr_of, km_up_of, km_sr_us, km_sr_uo, km_sr_sr, km_sr_fl, km_sr_flo, km_up_up, km_up_lt, km_lay, km_unL, km_up_o, km_upx_i, km_upx_s, km_fl2_o, km_is, Option.some.injEq, Sum.inl.injEq, Sum.inr.injEq, Option.toList_some, Option.toList_none, List.cons_append, List.nil_append, ne_eq, true_and, and_true, and_self, not_true_eq_false, not_false_eq_true, true_implies, false_implies, reduceCtorEq]
  have sm : kq_s mm False st = km_sr (km_sr (km_up mm 123 79 0) 161 st.1) 162 st.2 := by unfold kq_s; rw [if_neg (fun w => w)]
  by_cases z : (kx_s m l W T).1 g < 1000000
  · have zg : st.1 g < 1000000 := by rw [cg.1]; exact z
    obtain ⟨hF, og, -⟩ := kw_gone hok hf.1.1 ok.2.1 kx_e1_iff kx_e2_iff (fun f f0 f1 => ⟨(ok.2.2.1 f f0 f1).1, (ok.2.2.1 f f0 f1).2.1⟩) L hd K hg zg
    have geq : kw_go (m 60) (m 61) st.2 6 g T = kx_g m l g W T := kw_go_cong hok c6 K 6 g T hg.1 hg.2 hF
    have cb := (kx_step ok hg z).2.2
    generalize hM5 : km_up (kq_s mm False st) 123 78 (pr + (kx_s m l W T).1 g) = M5
    have r5 : ∀ b : Int, b ≠ 123 → b ≠ 161 → b ≠ 162 → M5 b = mm b := fun b h1 h2 h3 => by
      rw [← hM5, sm]; funext j; rw [km_up_o h1, km_sr_o h3, km_sr_o h2, km_up_o h1]
    have m5 : kf_md m M5 := by
      refine ⟨?_, fun f f0 f1 => ?_⟩
      · rw [← hM5, sm]; simp (disch := omega) only [km_up_ne, km_sr_ne]; exact hm.1
      · rw [r5 154 (by decide) (by decide) (by decide), r5 155 (by decide) (by decide) (by decide), r5 156 (by decide) (by decide) (by decide), r5 157 (by decide) (by decide) (by decide), r5 158 (by decide) (by decide) (by decide)]
        exact hm.2 f f0 f1
    have q162 : M5 162 = st.2 := by rw [← hM5, sm]; funext j; rw [km_up_o (by decide), km_sr_s]
    have q159 : M5 159 = W := (r5 159 (by decide) (by decide) (by decide)).trans hW
    have q160 : M5 160 = T := (r5 160 (by decide) (by decide) (by decide)).trans hT
    have q77 : M5 123 77 = br := by rw [← hM5, sm]; simp (disch := omega) only [km_up_ne, km_sr_ne]; exact hb
    have Tb : ∀ f : Int, 0 ≤ f → f < 14 → -(1000 - ((6 : Nat) : Int)) ≤ T f ∧ T f ≤ 1000 - ((6 : Nat) : Int) := fun f f0 f1 => by
      by_cases w : f < m 59 0
      · have := ok.2.2.1 f f0 w; omega
      · have := ok.2.2.2.1 f (by omega) (by omega); omega
    have bk := fun Q o3 o4 => @md_back q c s m M5 l o T st (kx_src W) od hf m5 q162 K (fun v v0 v1 => by rw [q159]; have := ok.2.2.2.2 v v0 v1; omega) (by rw [q77]; omega) Q 6 g T o3 o4 hg.1 hg.2 hF og Tb (by omega)
    rw [geq, q159, q77] at bk
    have id6 : km_sr M5 160 T = M5 := by rw [← q160]; exact km_sr_id
    rw [id6] at bk
    refine ⟨km_up (km_sr (km_up M5 123 77 (br + 1)) 160 (kx_g m l g W T).2) 159 (kx_g m l g W T).1 (W (kx_g m l g W T).1 - 1), fun b j h3 h4 => ?_, ?_, fun Q => ?_⟩
    · rw [km_up_ne (by omega), km_sr_o (by omega), km_up_ne (by omega), ← hM5, sm]
      simp (disch := omega) only [km_up_ne, km_sr_ne]
    · rw [if_pos z]
      refine ⟨?_, ?_, ?_, ?_⟩
      · funext j
        by_cases e : j = (kx_g m l g W T).1
        · subst e; rw [km_upx_s, km_u1_s]
        · rw [km_upx_i e, km_u1_o e, km_sr_o (by decide), km_up_o (by decide), q159]
      · rw [km_up_of (by decide), km_sr_sf]
      · rw [km_up_ne (by omega), km_sr_o (by decide), km_up_eq (by omega)]
      · rw [km_up_ne (by omega), km_sr_o (by decide), km_up_ne (by omega), ← hM5, km_up_eq (by omega)]
    · obtain ⟨p2, p3, p4, h⟩ := to201 Q
      rw [h, if_pos z, ← bk Q p3 p4]
      have nf : ¬ st.1 g = 1000000 := by omega
      have pb : -2147483648 ≤ pr + (kx_s m l W T).1 g ∧ pr + (kx_s m l W T).1 g ≤ 2147483647 := by omega
      have s151 : kq_s mm False st 151 o = g := by rw [sm]; simp (disch := omega) only [km_up_ne, km_sr_ne]; exact hg1
      have s161 : kq_s mm False st 161 g = (kx_s m l W T).1 g := by rw [sm, km_sr_o (by decide), km_sr_s]; exact cg.1
      have s78 : kq_s mm False st 123 78 = pr := by rw [sm]; simp (disch := omega) only [km_up_ne, km_sr_ne]; exact hp
      have nf2 : ¬ (kx_s m l W T).1 g = 1000000 := by omega
      simp (config := { decide := true }) (disch := first | decide | assumption | omega | (simp (config := { decide := true }) only [km_sr_sf, km_sr_of, km_up_of, km_up_o, km_upx_i, km_upx_s, km_fl2_o, ne_eq, not_true_eq_false, not_false_eq_true] <;> omega) | fail) only [g_X12_oneMore, s151, s161, s78, nf2, pb, hM5, ho.1, ho.2, hg.1, hg.2, Int.add_sub_cancel, true_or, or_true, false_or, or_false, false_and, and_false, if_true, if_false, ka_lo, ka_hi, ka_nn, km_sr_sf, km_sr_of, km_up_of, km_sr_us, km_sr_uo, km_sr_sr, km_sr_fl, km_sr_flo, km_up_up, km_up_lt, km_lay, km_unL, km_up_o, km_upx_i, km_upx_s, km_fl2_o, km_is, Option.some.injEq, Sum.inl.injEq, Sum.inr.injEq, Option.toList_some, Option.toList_none, List.cons_append, List.nil_append, ne_eq, true_and, and_true, and_self, not_true_eq_false, not_false_eq_true, true_implies, false_implies, reduceCtorEq]
  · have far : st.1 g = 1000000 := by
      rcases (L g hg.1 hg.2).1 with w | w
      · exact w
      · have := cg.1; omega
    refine ⟨kq_s mm False st, fun b j h3 h4 => ?_, ?_, fun Q => ?_⟩
    · rw [sm]; simp (disch := omega) only [km_up_ne, km_sr_ne]
    · rw [if_neg z, sm]; simp (disch := omega) only [km_up_ne, km_sr_ne]; exact ⟨hb, hp⟩
    · obtain ⟨p2, p3, p4, h⟩ := to201 Q
      rw [h, if_neg z]
      have s151 : kq_s mm False st 151 o = g := by rw [sm]; simp (disch := omega) only [km_up_ne, km_sr_ne]; exact hg1
      have s161 : kq_s mm False st 161 g = 1000000 := by rw [sm, km_sr_o (by decide), km_sr_s]; exact far
      simp (config := { decide := true }) (disch := first | decide | assumption | omega | (simp (config := { decide := true }) only [km_sr_sf, km_sr_of, km_up_of, km_up_o, km_upx_i, km_upx_s, km_fl2_o, ne_eq, not_true_eq_false, not_false_eq_true] <;> omega) | fail) only [g_X12_oneMore, s151, s161, ho.1, ho.2, hg.1, hg.2, Int.add_sub_cancel, true_or, or_true, false_or, or_false, false_and, and_false, if_true, if_false, ka_lo, ka_hi, ka_nn, km_sr_sf, km_sr_of, km_up_of, km_sr_us, km_sr_uo, km_sr_sr, km_sr_fl, km_sr_flo, km_up_up, km_up_lt, km_lay, km_unL, km_up_o, km_upx_i, km_upx_s, km_fl2_o, km_is, Option.some.injEq, Sum.inl.injEq, Sum.inr.injEq, Option.toList_some, Option.toList_none, List.cons_append, List.nil_append, ne_eq, true_and, and_true, and_self, not_true_eq_false, not_false_eq_true, true_implies, false_implies, reduceCtorEq]

