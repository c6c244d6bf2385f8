/-! ===== feed: class and reference ===== -/
/-- the fed bytes -/
def kbF (a b d e f k : Int) : Int := if k < 4 then kb a k else if k < 8 then kb b (k - 4) else if k < 12 then kb d (k - 8) else if k < 16 then kb e (k - 12) else kb f (k - 16)
theorem kbF_rng {a b d e f k : Int} : 0 ≤ kbF a b d e f k ∧ kbF a b d e f k < 256 := by
  unfold kbF kb
  split
  · exact kb_rng _
  split
  · exact kb_rng _
  split
  · exact kb_rng _
  split
  · exact kb_rng _
  · exact kb_rng _
theorem lp_mfeed_23 {q : Nat × Int × Int × Int × Int} {c s : Nat} {a b d e f : Int} {m : km_Mm} (hs : 0 ≤ m 123 1 ∧ m 123 1 ≤ 580) {Q : Option km_V → km_Al → km_Mm → Prop} : ∀ (n : Nat) (k : Int) (r : Int → Int) (o7 : Option km_V), 0 ≤ k → k + n = 20 → (km_G M_X12_feed 23 [some (.inr (.inr 123)), some (.inl a), some (.inl b), some (.inl d), some (.inl e), some (.inl f), some (.inl k), o7] [] (km_A0 q c s) (km_sr m 124 r) Q ↔ Q (some (.inl ((m 123 1 + 20)))) (km_A0 q c s) (km_sr (km_up m 123 1 (m 123 1 + 20)) 124 (kv_fn r (m 123 1 + k) (m 123 1 + 20) (fun j => kbF a b d e f (j - m 123 1))))) := by
  intro n
  induction n with
  | zero =>
    intro k r o7 h0 h1
    have e2 : k = 20 := by omega
    subst e2
    rw [g_X12_feed_23]
    simp (config := { decide := true }) (disch := first | decide | assumption | omega | (simp (config := { decide := true }) only [km_sr_sf, km_sr_of, km_up_of, km_up_o, km_upx_i, km_upx_s, km_fl2_o, ne_eq, not_true_eq_false, not_false_eq_true] <;> omega) | fail) only [g_X12_feed, kv_fn_end, Int.le_refl, hs.1, hs.2, ka_lt, ka_le, ka_nlt, ka_nle, ka_ne, ka_eq, h0, Int.add_sub_cancel, true_or, or_true, false_or, or_false, false_and, and_false, if_true, if_false, ka_lo, ka_hi, ka_nn, km_sr_sf, km_sr_of, km_up_of, km_sr_us, km_sr_uo, km_sr_sr, km_sr_fl, km_sr_flo, km_up_up, km_up_lt, km_lay, km_unL, km_up_o, km_upx_i, km_upx_s, km_fl2_o, km_is, Option.some.injEq, Sum.inl.injEq, Sum.inr.injEq, Option.toList_some, Option.toList_none, List.cons_append, List.nil_append, ne_eq, true_and, and_true, and_self, not_true_eq_false, not_false_eq_true, true_implies, false_implies, reduceCtorEq]
    all_goals grind
  | succ n ih =>
    intro k r o7 h0 h1
    have e3 : ¬ (20 : Int) ≤ k := by omega
    have u := @kv_fn_up r (fun j => kbF a b d e f (j - m 123 1)) (m 123 1 + k) (m 123 1 + 20) (by omega)
    have ek : m 123 1 + k - m 123 1 = k := by omega
    rw [ek] at u
    have i1 := fun o7 => ih (k + 1) (km_u1 r (m 123 1 + k) (kbF a b d e f k)) o7 (by omega) (by omega)
    have ea : m 123 1 + (k + 1) = m 123 1 + k + 1 := by omega
    rw [ea, u] at i1
    have tm : Int.tmod k 4 = k - 4 * (k / 4) := by rw [Int.tmod_eq_emod_of_nonneg h0]; omega
    have s0 : 0 ≤ 24 - 8 * (k - 4 * (k / 4)) := by omega
    have s1 : 24 - 8 * (k - 4 * (k / 4)) ≤ 24 := by omega
    have t0 : ¬ (4 : Int) = 0 := by decide
    have val : ∀ w : Int, km_and (km_shr w (24 - 8 * (k - 4 * (k / 4)))) 255 = kb w (k - 4 * (k / 4)) := fun w => kb_eq s0 s1
    rw [g_X12_feed_23]
    by_cases c0 : k < 4
    · have v : kbF a b d e f k = kb a (k - 4 * (k / 4)) := by unfold kbF; rw [if_pos c0, show k / 4 = 0 by omega]; simp
      rw [v] at i1
      simp (config := { decide := true }) (disch := first | decide | assumption | omega | (simp (config := { decide := true }) only [km_sr_sf, km_sr_of, km_up_of, km_up_o, km_upx_i, km_upx_s, km_fl2_o, ne_eq, not_true_eq_false, not_false_eq_true] <;> omega) | fail) only [g_X12_feed, e3, tm, t0, val, i1, ka_lt, ka_le, ka_nlt, ka_nle, ka_ne, ka_eq, Int.add_sub_cancel, true_or, or_true, false_or, or_false, false_and, and_false, if_true, if_false, ka_lo, ka_hi, ka_nn, km_sr_sf, km_sr_of, km_up_of, km_sr_us, km_sr_uo, km_sr_sr, km_sr_fl, km_sr_flo, km_up_up, km_up_lt, km_lay, km_unL, km_up_o, km_upx_i, km_upx_s, km_fl2_o, km_is, Option.some.injEq, Sum.inl.injEq, Sum.inr.injEq, Option.toList_some, Option.toList_none, List.cons_append, List.nil_append, ne_eq, true_and, and_true, and_self, not_true_eq_false, not_false_eq_true, true_implies, false_implies, reduceCtorEq]
      done
    by_cases c1 : k < 8
    · have v : kbF a b d e f k = kb b (k - 4 * (k / 4)) := by unfold kbF; rw [if_neg c0, if_pos c1, show k / 4 = 1 by omega]; rfl
      rw [v] at i1
      simp (config := { decide := true }) (disch := first | decide | assumption | omega | (simp (config := { decide := true }) only [km_sr_sf, km_sr_of, km_up_of, km_up_o, km_upx_i, km_upx_s, km_fl2_o, ne_eq, not_true_eq_false, not_false_eq_true] <;> omega) | fail) only [g_X12_feed, e3, tm, t0, val, i1, ka_lt, ka_le, ka_nlt, ka_nle, ka_ne, ka_eq, Int.add_sub_cancel, true_or, or_true, false_or, or_false, false_and, and_false, if_true, if_false, ka_lo, ka_hi, ka_nn, km_sr_sf, km_sr_of, km_up_of, km_sr_us, km_sr_uo, km_sr_sr, km_sr_fl, km_sr_flo, km_up_up, km_up_lt, km_lay, km_unL, km_up_o, km_upx_i, km_upx_s, km_fl2_o, km_is, Option.some.injEq, Sum.inl.injEq, Sum.inr.injEq, Option.toList_some, Option.toList_none, List.cons_append, List.nil_append, ne_eq, true_and, and_true, and_self, not_true_eq_false, not_false_eq_true, true_implies, false_implies, reduceCtorEq]
      done
    by_cases c2 : k < 12
    · have v : kbF a b d e f k = kb d (k - 4 * (k / 4)) := by unfold kbF; rw [if_neg c0, if_neg c1, if_pos c2, show k / 4 = 2 by omega]; rfl
      rw [v] at i1
      simp (config := { decide := true }) (disch := first | decide | assumption | omega | (simp (config := { decide := true }) only [km_sr_sf, km_sr_of, km_up_of, km_up_o, km_upx_i, km_upx_s, km_fl2_o, ne_eq, not_true_eq_false, not_false_eq_true] <;> omega) | fail) only [g_X12_feed, e3, tm, t0, val, i1, ka_lt, ka_le, ka_nlt, ka_nle, ka_ne, ka_eq, Int.add_sub_cancel, true_or, or_true, false_or, or_false, false_and, and_false, if_true, if_false, ka_lo, ka_hi, ka_nn, km_sr_sf, km_sr_of, km_up_of, km_sr_us, km_sr_uo, km_sr_sr, km_sr_fl, km_sr_flo, km_up_up, km_up_lt, km_lay, km_unL, km_up_o, km_upx_i, km_upx_s, km_fl2_o, km_is, Option.some.injEq, Sum.inl.injEq, Sum.inr.injEq, Option.toList_some, Option.toList_none, List.cons_append, List.nil_append, ne_eq, true_and, and_true, and_self, not_true_eq_false, not_false_eq_true, true_implies, false_implies, reduceCtorEq]
      done
    by_cases c3 : k < 16
    · have v : kbF a b d e f k = kb e (k - 4 * (k / 4)) := by unfold kbF; rw [if_neg c0, if_neg c1, if_neg c2, if_pos c3, show k / 4 = 3 by omega]; rfl
      rw [v] at i1
      simp (config := { decide := true }) (disch := first | decide | assumption | omega | (simp (config := { decide := true }) only [km_sr_sf, km_sr_of, km_up_of, km_up_o, km_upx_i, km_upx_s, km_fl2_o, ne_eq, not_true_eq_false, not_false_eq_true] <;> omega) | fail) only [g_X12_feed, e3, tm, t0, val, i1, ka_lt, ka_le, ka_nlt, ka_nle, ka_ne, ka_eq, Int.add_sub_cancel, true_or, or_true, false_or, or_false, false_and, and_false, if_true, if_false, ka_lo, ka_hi, ka_nn, km_sr_sf, km_sr_of, km_up_of, km_sr_us, km_sr_uo, km_sr_sr, km_sr_fl, km_sr_flo, km_up_up, km_up_lt, km_lay, km_unL, km_up_o, km_upx_i, km_upx_s, km_fl2_o, km_is, Option.some.injEq, Sum.inl.injEq, Sum.inr.injEq, Option.toList_some, Option.toList_none, List.cons_append, List.nil_append, ne_eq, true_and, and_true, and_self, not_true_eq_false, not_false_eq_true, true_implies, false_implies, reduceCtorEq]
      done
    have v : kbF a b d e f k = kb f (k - 4 * (k / 4)) := by unfold kbF; rw [if_neg c0, if_neg c1, if_neg c2, if_neg c3, show k / 4 = 4 by omega]; rfl
    rw [v] at i1
    simp (config := { decide := true }) (disch := first | decide | assumption | omega | (simp (config := { decide := true }) only [km_sr_sf, km_sr_of, km_up_of, km_up_o, km_upx_i, km_upx_s, km_fl2_o, ne_eq, not_true_eq_false, not_false_eq_true] <;> omega) | fail) only [g_X12_feed, e3, tm, t0, val, i1, ka_lt, ka_le, ka_nlt, ka_nle, ka_ne, ka_eq, Int.add_sub_cancel, true_or, or_true, false_or, or_false, false_and, and_false, if_true, if_false, ka_lo, ka_hi, ka_nn, km_sr_sf, km_sr_of, km_up_of, km_sr_us, km_sr_uo, km_sr_sr, km_sr_fl, km_sr_flo, km_up_up, km_up_lt, km_lay, km_unL, km_up_o, km_upx_i, km_upx_s, km_fl2_o, km_is, Option.some.injEq, Sum.inl.injEq, Sum.inr.injEq, Option.toList_some, Option.toList_none, List.cons_append, List.nil_append, ne_eq, true_and, and_true, and_self, not_true_eq_false, not_false_eq_true, true_implies, false_implies, reduceCtorEq]
theorem fc_feed {N : Int} {q : Nat × Int × Int × Int × Int} {c s : Nat} {m : km_Mm} (h : kI0 N m) {a b d e f : Int} : kF M_X11_feed M_X12_feed [.inl a, .inl b, .inl d, .inl e, .inl f] N q c s m := by
  intro Q1 Q2
  have hi := h
  obtain ⟨hB, hR, hT, hO, hM, hF, hH, hE, hS, hA⟩ := h
  obtain ⟨a1, a2, a3⟩ := id hA
  by_cases v : m 3 1 + 20 ≤ 600
  · have cl : ∀ Q : Option km_V → km_Al → km_Mm → Prop, km_E M_X11_feed [.inr (.inr 0), .inl a, .inl b, .inl d, .inl e, .inl f] (km_A0 q c s) m Q ↔ Q (some (.inl (m 3 1 + 20))) (km_A0 q c s) (km_sr (km_up m 3 1 (m 3 1 + 20)) 4 (kv_fn (m 4) (m 3 1) (m 3 1 + 20) (fun j => kbF a b d e f (j - m 3 1)))) := fun Q => by
      have p1 := fun Q => @r_put q c s a m a1.1 (by omega) Q
      generalize hm1 : km_sr (km_up m 3 1 (m 3 1 + 4)) 4 (fun j => if m 3 1 ≤ j ∧ j < m 3 1 + 4 then kb a (j - m 3 1) else m 4 j) = m1 at p1
      have l1 : m1 3 1 = m 3 1 + 4 := by rw [← hm1]; simp (disch := omega) only [km_up_ne, km_up_eq, km_sr_ne]
      have p2 := fun Q => @r_put q c s b m1 (by omega) (by omega) Q
      generalize hm2 : km_sr (km_up m1 3 1 (m1 3 1 + 4)) 4 (fun j => if m1 3 1 ≤ j ∧ j < m1 3 1 + 4 then kb b (j - m1 3 1) else m1 4 j) = m2 at p2
      have l2 : m2 3 1 = m 3 1 + 8 := by rw [← hm2]; simp (disch := omega) only [km_up_ne, km_up_eq, km_sr_ne]; omega
      have p3 := fun Q => @r_put q c s d m2 (by omega) (by omega) Q
      generalize hm3 : km_sr (km_up m2 3 1 (m2 3 1 + 4)) 4 (fun j => if m2 3 1 ≤ j ∧ j < m2 3 1 + 4 then kb d (j - m2 3 1) else m2 4 j) = m3 at p3
      have l3 : m3 3 1 = m 3 1 + 12 := by rw [← hm3]; simp (disch := omega) only [km_up_ne, km_up_eq, km_sr_ne]; omega
      have p4 := fun Q => @r_put q c s e m3 (by omega) (by omega) Q
      generalize hm4 : km_sr (km_up m3 3 1 (m3 3 1 + 4)) 4 (fun j => if m3 3 1 ≤ j ∧ j < m3 3 1 + 4 then kb e (j - m3 3 1) else m3 4 j) = m4 at p4
      have l4 : m4 3 1 = m 3 1 + 16 := by rw [← hm4]; simp (disch := omega) only [km_up_ne, km_up_eq, km_sr_ne]; omega
      have p5 := fun Q => @r_put q c s f m4 (by omega) (by omega) Q
      generalize hm5 : km_sr (km_up m4 3 1 (m4 3 1 + 4)) 4 (fun j => if m4 3 1 ≤ j ∧ j < m4 3 1 + 4 then kb f (j - m4 3 1) else m4 4 j) = m5 at p5
      have l5 : m5 3 1 = m 3 1 + 20 := by rw [← hm5]; simp (disch := omega) only [km_up_ne, km_up_eq, km_sr_ne]; omega
      have fin : m5 = km_sr (km_up m 3 1 (m 3 1 + 20)) 4 (kv_fn (m 4) (m 3 1) (m 3 1 + 20) (fun j => kbF a b d e f (j - m 3 1))) := by
        funext x j
        by_cases ex : x = 4
        · subst ex
          have r1 : ∀ j, m1 4 j = if m 3 1 ≤ j ∧ j < m 3 1 + 4 then kb a (j - m 3 1) else m 4 j := fun j => by rw [← hm1, km_sr_s]
          have r2 : ∀ j, m2 4 j = if m1 3 1 ≤ j ∧ j < m1 3 1 + 4 then kb b (j - m1 3 1) else m1 4 j := fun j => by rw [← hm2, km_sr_s]
          have r3 : ∀ j, m3 4 j = if m2 3 1 ≤ j ∧ j < m2 3 1 + 4 then kb d (j - m2 3 1) else m2 4 j := fun j => by rw [← hm3, km_sr_s]
          have r4 : ∀ j, m4 4 j = if m3 3 1 ≤ j ∧ j < m3 3 1 + 4 then kb e (j - m3 3 1) else m3 4 j := fun j => by rw [← hm4, km_sr_s]
          have r5 : ∀ j, m5 4 j = if m4 3 1 ≤ j ∧ j < m4 3 1 + 4 then kb f (j - m4 3 1) else m4 4 j := fun j => by rw [← hm5, km_sr_s]
          rw [r5, r4, r3, r2, r1, km_sr_s, l1, l2, l3, l4]
          unfold kv_fn kbF
          by_cases z : m 3 1 ≤ j ∧ j < m 3 1 + 20
          · rw [if_pos z]
            dsimp only
            by_cases c4 : m 3 1 + 16 ≤ j
            · rw [if_pos (by omega), if_neg (by omega), if_neg (by omega), if_neg (by omega), if_neg (by omega), show j - (m 3 1 + 16) = j - m 3 1 - 16 by omega]
            rw [if_neg (by omega)]
            by_cases c3 : m 3 1 + 12 ≤ j
            · rw [if_pos (by omega), if_neg (by omega), if_neg (by omega), if_neg (by omega), if_pos (by omega), show j - (m 3 1 + 12) = j - m 3 1 - 12 by omega]
            rw [if_neg (by omega)]
            by_cases c2 : m 3 1 + 8 ≤ j
            · rw [if_pos (by omega), if_neg (by omega), if_neg (by omega), if_pos (by omega), show j - (m 3 1 + 8) = j - m 3 1 - 8 by omega]
            rw [if_neg (by omega)]
            by_cases c1 : m 3 1 + 4 ≤ j
            · rw [if_pos (by omega), if_neg (by omega), if_pos (by omega), show j - (m 3 1 + 4) = j - m 3 1 - 4 by omega]
            rw [if_neg (by omega), if_pos (by omega), if_pos (by omega)]
          · rw [if_neg z, if_neg (by omega), if_neg (by omega), if_neg (by omega), if_neg (by omega), if_neg (by omega)]
        · by_cases e2 : x = 3 ∧ j = 1
          · obtain ⟨rfl, rfl⟩ := e2
            rw [l5]; simp (disch := omega) only [km_up_ne, km_up_eq, km_sr_ne]
          · rw [← hm5]; simp (disch := omega) only [km_up_ne, km_sr_ne]
            rw [← hm4]; simp (disch := omega) only [km_up_ne, km_sr_ne]
            rw [← hm3]; simp (disch := omega) only [km_up_ne, km_sr_ne]
            rw [← hm2]; simp (disch := omega) only [km_up_ne, km_sr_ne]
            rw [← hm1]; simp (disch := omega) only [km_up_ne, km_sr_ne]
      rw [← fin, ← l5, e_X11_feed]
      simp (config := { decide := true }) (disch := first | decide | assumption | omega | (simp (config := { decide := true }) only [km_sr_sf, km_sr_of, km_up_of, km_up_o, km_upx_i, km_upx_s, km_fl2_o, ne_eq, not_true_eq_false, not_false_eq_true] <;> omega) | fail) only [g_X11_feed, p1, p2, p3, p4, p5, ka_lt, ka_le, ka_nlt, ka_nle, ka_ne, ka_eq, Int.add_sub_cancel, true_or, or_true, false_or, or_false, false_and, and_false, if_true, if_false, ka_lo, ka_hi, ka_nn, km_sr_sf, km_sr_of, km_up_of, km_sr_us, km_sr_uo, km_sr_sr, km_sr_fl, km_sr_flo, km_up_up, km_up_lt, km_lay, km_unL, km_up_o, km_upx_i, km_upx_s, km_fl2_o, km_is, Option.some.injEq, Sum.inl.injEq, Sum.inr.injEq, Option.toList_some, Option.toList_none, List.cons_append, List.nil_append, ne_eq, true_and, and_true, and_self, not_true_eq_false, not_false_eq_true, true_implies, false_implies, reduceCtorEq]
    refine ⟨.inl (m 3 1 + 20), km_sr (km_up m 3 1 (m 3 1 + 20)) 4 (kv_fn (m 4) (m 3 1) (m 3 1 + 20) (fun j => kbF a b d e f (j - m 3 1))), km_sr (km_up (km_up (km_sr (km_up m 3 1 (m 3 1 + 20)) 4 (kv_fn (m 4) (m 3 1) (m 3 1 + 20) (fun j => kbF a b d e f (j - m 3 1)))) 123 2 0) 123 1 (m 3 1 + 20)) 124 (kv_fn (m 124) (m 3 1) (m 3 1 + 20) (fun j => kbF a b d e f (j - m 3 1))), cl Q1, ?_, ⟨kB_cg hB (by intro b j z; unfold fB at z; simp (disch := omega) only [km_up_ne, km_fl2_ne, km_sr_ne]), kR_cg hR (by intro b j z; unfold fR at z; simp (disch := omega) only [km_up_ne, km_fl2_ne, km_sr_ne]), kT_cg hT (by intro b j z; unfold fT at z; simp (disch := omega) only [km_up_ne, km_fl2_ne, km_sr_ne]), kO_cg hO (by intro b j z; unfold fO at z; simp (disch := omega) only [km_up_ne, km_fl2_ne, km_sr_ne]), kM_cg hM (by intro b j z; unfold fM at z; simp (disch := omega) only [km_up_ne, km_fl2_ne, km_sr_ne]), kF_cg hF (by intro b j z; unfold fF at z; simp (disch := omega) only [km_up_ne, km_fl2_ne, km_sr_ne]), kH_cg hH (by intro b j z; unfold fH at z; simp (disch := omega) only [km_up_ne, km_fl2_ne, km_sr_ne]), kE_cg hE (by intro b j z; unfold fE at z; simp (disch := omega) only [km_up_ne, km_fl2_ne, km_sr_ne]), kS_cg hS (by intro b j z; unfold fS at z; simp (disch := omega) only [km_up_ne, km_fl2_ne, km_sr_ne]), ?_⟩, by intro b j z1 z2; unfold kP at z1; unfold kJ at z2; simp (disch := omega) only [km_up_ne, km_fl2_ne, km_sr_ne]⟩
    · generalize hM1 : km_sr (km_up m 3 1 (m 3 1 + 20)) 4 (kv_fn (m 4) (m 3 1) (m 3 1 + 20) (fun j => kbF a b d e f (j - m 3 1))) = M1
      have x1 : M1 123 1 = m 3 1 := by rw [← hM1]; simp (disch := omega) only [km_up_ne, km_sr_ne]; exact a1.2.2
      have x124 : M1 124 = m 124 := by rw [← hM1]; funext j; simp (disch := omega) only [km_up_ne, km_sr_ne]
      have lp := @lp_mfeed_23 q c s a b d e f (km_up M1 123 2 0) (by simp (disch := omega) only [km_up_ne]; omega) Q2 20 0 (m 124) none (by omega) (by omega)
      have e9 : km_sr (km_up M1 123 2 0) 124 (m 124) = km_up M1 123 2 0 := by
        funext x j; by_cases ex : x = 124
        · subst ex; rw [km_sr_s]; simp (disch := omega) only [km_up_ne]; rw [x124]
        · rw [km_sr_ne ex]
      rw [e9] at lp
      simp (config := { decide := true }) only [x1, Int.add_zero, Int.add_sub_cancel, true_or, or_true, false_or, or_false, false_and, and_false, if_true, if_false, km_sr_sf, km_sr_of, km_up_of, km_sr_us, km_sr_uo, km_sr_sr, km_sr_fl, km_sr_flo, km_up_up, km_up_lt, km_lay, km_unL, km_up_o, km_upx_i, km_upx_s, km_fl2_o, km_is, Option.some.injEq, Sum.inl.injEq, Sum.inr.injEq, Option.toList_some, Option.toList_none, List.cons_append, List.nil_append, ne_eq, true_and, and_true, and_self, not_true_eq_false, not_false_eq_true, true_implies, false_implies, reduceCtorEq] at lp
      rw [e_X12_feed]
      simp (config := { decide := true }) (disch := first | decide | assumption | omega | (simp (config := { decide := true }) only [km_sr_sf, km_sr_of, km_up_of, km_up_o, km_upx_i, km_upx_s, km_fl2_o, ne_eq, not_true_eq_false, not_false_eq_true] <;> omega) | fail) only [g_X12_feed, x1, lp, ka_lt, ka_le, ka_nlt, ka_nle, ka_ne, ka_eq, Int.add_sub_cancel, true_or, or_true, false_or, or_false, false_and, and_false, if_true, if_false, ka_lo, ka_hi, ka_nn, km_sr_sf, km_sr_of, km_up_of, km_sr_us, km_sr_uo, km_sr_sr, km_sr_fl, km_sr_flo, km_up_up, km_up_lt, km_lay, km_unL, km_up_o, km_upx_i, km_upx_s, km_fl2_o, km_is, Option.some.injEq, Sum.inl.injEq, Sum.inr.injEq, Option.toList_some, Option.toList_none, List.cons_append, List.nil_append, ne_eq, true_and, and_true, and_self, not_true_eq_false, not_false_eq_true, true_implies, false_implies, reduceCtorEq]
    · refine ⟨?_, fun i i0 i1 => ?_, ?_⟩
      · simp (disch := omega) only [km_up_ne, km_up_eq, km_sr_ne, and_true]; omega
      · simp (disch := omega) only [km_up_ne, km_up_eq, km_sr_ne, km_sr_s] at i1 ⊢
        unfold kv_fn
        by_cases z : m 3 1 ≤ i ∧ i < m 3 1 + 20
        · rw [if_pos z, if_pos z]; exact ⟨rfl, kbF_rng⟩
        · rw [if_neg z, if_neg z]; exact a2 i i0 (by omega)
      · simp (disch := omega) only [km_up_ne, km_sr_ne]; exact a3
  · refine ⟨.inl (-1), m, km_up m 123 2 0, ?_, ?_, kI0_t hi, kP_t⟩
    · rw [e_X11_feed]
      simp (config := { decide := true }) (disch := first | decide | assumption | omega | (simp (config := { decide := true }) only [km_sr_sf, km_sr_of, km_up_of, km_up_o, km_upx_i, km_upx_s, km_fl2_o, ne_eq, not_true_eq_false, not_false_eq_true] <;> omega) | fail) only [g_X11_feed, ka_lt, ka_le, ka_nlt, ka_nle, ka_ne, ka_eq, Int.add_sub_cancel, true_or, or_true, false_or, or_false, false_and, and_false, if_true, if_false, ka_lo, ka_hi, ka_nn, km_sr_sf, km_sr_of, km_up_of, km_sr_us, km_sr_uo, km_sr_sr, km_sr_fl, km_sr_flo, km_up_up, km_up_lt, km_lay, km_unL, km_up_o, km_upx_i, km_upx_s, km_fl2_o, km_is, Option.some.injEq, Sum.inl.injEq, Sum.inr.injEq, Option.toList_some, Option.toList_none, List.cons_append, List.nil_append, ne_eq, true_and, and_true, and_self, not_true_eq_false, not_false_eq_true, true_implies, false_implies, reduceCtorEq]
    · rw [e_X12_feed]
      simp (config := { decide := true }) (disch := first | decide | assumption | omega | (simp (config := { decide := true }) only [km_sr_sf, km_sr_of, km_up_of, km_up_o, km_upx_i, km_upx_s, km_fl2_o, ne_eq, not_true_eq_false, not_false_eq_true] <;> omega) | fail) only [g_X12_feed, a1.2.2, ka_lt, ka_le, ka_nlt, ka_nle, ka_ne, ka_eq, Int.add_sub_cancel, true_or, or_true, false_or, or_false, false_and, and_false, if_true, if_false, ka_lo, ka_hi, ka_nn, km_sr_sf, km_sr_of, km_up_of, km_sr_us, km_sr_uo, km_sr_sr, km_sr_fl, km_sr_flo, km_up_up, km_up_lt, km_lay, km_unL, km_up_o, km_upx_i, km_upx_s, km_fl2_o, km_is, Option.some.injEq, Sum.inl.injEq, Sum.inr.injEq, Option.toList_some, Option.toList_none, List.cons_append, List.nil_append, ne_eq, true_and, and_true, and_self, not_true_eq_false, not_false_eq_true, true_implies, false_implies, reduceCtorEq]

