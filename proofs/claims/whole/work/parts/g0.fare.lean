/-! ===== fare ===== -/
/-- the reference's travellers, with what it leaves alone -/
theorem md_travels2 {q : Nat × Int × Int × Int × Int} {c s : Nat} {m mm : km_Mm} {o : Int} (hb : kI_book m) (hT : kI_trait m) (hO : kI_opt m) (hF : kI_fl m) (hj : kMj m mm) (o0 : 0 ≤ o) (o1 : o < m 19 1) :
    ∃ M' : km_Mm, (∀ b j : Int, ¬ (b = 130 ∨ (159 ≤ b ∧ b ≤ 162) ∨ (b = 123 ∧ 77 ≤ j ∧ j ≤ 79)) → M' b j = mm b j) ∧ (M' 123 77, M' 123 78) = kTr m o ∧ ∀ Q : Option km_V → km_Al → km_Mm → Prop, (km_E M_X12_travels [.inr (.inr 123), .inl o] (km_A0 q c s) mm Q ↔ Q none (km_A0 q c s) M') := by
  have h1 := hb.1
  have f4 := hO.1
  have op := hO.2.1 o o0 o1
  have l2 := fun Q m => @lp_mtravels_33 q c s Q o m (fun f => km_G M_X12_travels 54 [some (.inr (.inr 123)), some (.inl o), some (.inl 0)] [] (km_A0 q c s) (km_sr m 160 f) Q) (fun f => Iff.rfl) 14 0 (m 160) (by omega) (by omega)
  have l1 := fun Q m => @lp_mtravels_12 q c s Q o m (fun f => km_G M_X12_travels 33 [some (.inr (.inr 123)), some (.inl o), some (.inl 0)] [] (km_A0 q c s) (km_sr m 159 f) Q) (fun f => Iff.rfl) 6 0 (m 159) (by omega) (by omega)
  simp only [km_sr_id] at l1 l2
  generalize hM0 : km_sr (km_sr (km_up (km_up mm 123 77 0) 123 78 0) 159 (kv_fl (mm 159) 0 6 0)) 160 (kv_fl (mm 160) 0 14 0) = M0
  have r0 : ∀ b j : Int, b ≠ 159 → b ≠ 160 → ¬ (b = 123 ∧ (j = 77 ∨ j = 78)) → M0 b j = mm b j := fun b j h2 h3 h4 => by
    rw [← hM0, km_sr_o h3, km_sr_o h2, km_up_ne (by omega), km_up_ne (by omega)]
  have hj0 : kMj m M0 := fun b j z1 z2 => (r0 b j (fun e => z2 (by unfold kJ; omega)) (fun e => z2 (by unfold kJ; omega)) (fun e => z2 (by unfold kJ; omega))).trans (hj b j z1 z2)
  have g0 : M0 151 o = m 20 o := (hj0 151 o (by decide) (kJ_no (by decide))).trans op.1.1
  have s77 : M0 123 77 = 0 := by rw [← hM0, km_sr_o (by decide), km_sr_o (by decide), km_up_ne (by omega), km_up_eq ⟨rfl, rfl⟩]
  have s78 : M0 123 78 = 0 := by rw [← hM0, km_sr_o (by decide), km_sr_o (by decide), km_up_eq ⟨rfl, rfl⟩]
  obtain ⟨M1, a1, a2, a3, a4⟩ := @md_travels54 q c s m M0 o (m 20 o) hb hT hO hj0 o0 o1 g0 (m 5 1).toNat 0 M0 (by omega) (fun _ _ _ _ _ => rfl) s77 (fun v v0 v1 => by
    rw [← hM0, km_sr_o (by decide), km_sr_s]; unfold kv_fl; rw [if_pos ⟨v0, v1⟩]; split <;> rfl)
  have w1 : ∀ v : Int, 0 ≤ v → v < 6 → kTw m o v = M1 159 v := fun v v0 v1 => (a3 v v0 v1).symm
  have t1 : ∀ f : Int, 0 ≤ f → f < 14 → (fun _ => (0 : Int)) f = M1 160 f := fun f f0 f1 => by
    rw [a1 160 f (by decide) (by decide) (by omega), ← hM0, km_sr_s]; unfold kv_fl; rw [if_pos ⟨f0, f1⟩]
  have ok := kTr_ok (o := o) ⟨h1.1, h1.2.1⟩ hF
  have ok1 : kx_ok m (m 21 o) (M1 159) (M1 160) := kx_ok0 (kI_fl_cl hF) (fun f f0 f1 => (t1 f f0 f1).symm) (fun f f0 f1 => by have := hF.2 f f0 f1; omega) (fun v v0 v1 => by rw [← w1 v v0 v1]; exact kTw_b ⟨h1.1, h1.2.1⟩ v)
  have sum : kx_sum (M1 159) ≤ ((10 : Nat) : Int) := by
    have := kTw_sum (o := o) hT (m 5 1).toNat (by omega)
    have b0 := kcnt_b (P := kWt m o 0) (m 5 1).toNat
    have b1 := kcnt_b (P := kWt m o 1) (m 5 1).toNat
    have b2 := kcnt_b (P := kWt m o 2) (m 5 1).toNat
    have b3 := kcnt_b (P := kWt m o 3) (m 5 1).toNat
    have b4 := kcnt_b (P := kWt m o 4) (m 5 1).toNat
    have b5 := kcnt_b (P := kWt m o 5) (m 5 1).toNat
    unfold kx_sum
    rw [a3 0 (by omega) (by omega), a3 1 (by omega) (by omega), a3 2 (by omega) (by omega), a3 3 (by omega) (by omega), a3 4 (by omega) (by omega), a3 5 (by omega) (by omega)]
    have le : ∀ (P : Prop) (x : Int) (dp : Decidable P), 0 ≤ x → @ite Int P dp 0 x ≤ x := fun P x dp hx => by split <;> omega
    have c0 := le (0 = m 20 o) _ inferInstance b0.1
    have c1 := le (1 = m 20 o) _ inferInstance b1.1
    have c2 := le (2 = m 20 o) _ inferInstance b2.1
    have c3 := le (3 = m 20 o) _ inferInstance b3.1
    have c4 := le (4 = m 20 o) _ inferInstance b4.1
    have c5 := le (5 = m 20 o) _ inferInstance b5.1
    omega
  have bg := kcnt_b (P := kWt m o (m 20 o)) (m 5 1).toNat
  have hm1 : kf_md m M1 := by
    refine ⟨?_, fun f f0 f1 => ?_⟩
    · rw [a1 123 67 (by decide) (by decide) (by omega), hj0 123 67 (by decide) (by unfold kJ; omega)]; exact hF.1.2.2
    · rw [a1 154 f (by decide) (by decide) (by omega), a1 155 f (by decide) (by decide) (by omega), a1 156 f (by decide) (by decide) (by omega), a1 157 f (by decide) (by decide) (by omega), a1 158 f (by decide) (by decide) (by omega), hj0 154 f (by decide) (kJ_no (by decide)), hj0 155 f (by decide) (kJ_no (by decide)), hj0 156 f (by decide) (kJ_no (by decide)), hj0 157 f (by decide) (kJ_no (by decide)), hj0 158 f (by decide) (kJ_no (by decide))]
      exact (hF.2 f f0 f1).1
  obtain ⟨M2, c1, c2, c3⟩ := @md_more129 q c s m (m 21 o) o (m 20 o) ⟨o0, by omega⟩ op.2.1 10 (M1 159) (M1 160) (kcnt (kWt m o (m 20 o)) (m 5 1).toNat) 0 M1 sum (by omega) ok1 hm1 rfl rfl ((a1 152 o (by decide) (by decide) (by omega)).trans ((hj0 152 o (by decide) (kJ_no (by decide))).trans op.1.2)) ((a1 151 o (by decide) (by decide) (by omega)).trans g0) a2 ((a1 123 78 (by decide) (by decide) (by omega)).trans s78) (by omega) (by omega)
  refine ⟨M2, fun b j z => ?_, ?_, fun Q => ?_⟩
  · rw [c1 b j (fun w => z (by omega)) (fun w => z (by omega)), a1 b j (fun w => z (by omega)) (fun w => z (by omega)) (fun w => z (by omega)), r0 b j (fun w => z (by omega)) (fun w => z (by omega)) (fun w => z (by omega))]
  · rw [c2]; unfold kTr; exact (kx_cong op.2.1 10 _ _ _ _ _ _ ok w1 t1).symm
  · rw [← c3 Q, ← a4 Q, ← hM0, e_X12_travels]
    have z1 := l1 Q (km_up (km_up mm 123 77 0) 123 78 0)
    have z2 := l2 Q (km_sr (km_up (km_up mm 123 77 0) 123 78 0) 159 (kv_fl (mm 159) 0 6 0))
    rw [km_up_of (by decide), km_up_of (by decide)] at z1
    rw [km_sr_of (by decide), km_up_of (by decide), km_up_of (by decide)] at z2
    simp (config := { decide := true }) (disch := first | decide | assumption | omega | (simp (config := { decide := true }) only [km_sr_sf, km_sr_of, km_up_of, km_up_o, km_upx_i, km_upx_s, km_fl2_o, ne_eq, not_true_eq_false, not_false_eq_true] <;> omega) | fail) only [g_X12_travels, z1, Int.add_sub_cancel, true_or, or_true, false_or, or_false, false_and, and_false, if_true, if_false, ka_lo, ka_hi, ka_nn, km_sr_sf, km_sr_of, km_up_of, km_sr_us, km_sr_uo, km_sr_sr, km_sr_fl, km_sr_flo, km_up_up, km_up_lt, km_lay, km_unL, km_up_o, km_upx_i, km_upx_s, km_fl2_o, km_is, Option.some.injEq, Sum.inl.injEq, Sum.inr.injEq, Option.toList_some, Option.toList_none, List.cons_append, List.nil_append, ne_eq, true_and, and_true, and_self, not_true_eq_false, not_false_eq_true, true_implies, false_implies, reduceCtorEq]
    exact z2
theorem kx_bnd {m : km_Mm} {l g : Int} (hg : 0 ≤ g ∧ g < 6) : ∀ (k : Nat) (W T : Int → Int) (br pr : Int), k ≤ 100 → kx_ok m l W T → (-(300000000 - 1000000 * (k : Int)) ≤ pr ∧ pr ≤ 300000000 - 1000000 * (k : Int)) → -300000000 ≤ (kx m l g k W T br pr).2 ∧ (kx m l g k W T br pr).2 ≤ 300000000 := by
  intro k
  induction k with
  | zero => intro W T br pr k1 ok h; show -300000000 ≤ pr ∧ pr ≤ 300000000; omega
  | succ k ih =>
    intro W T br pr k1 ok h
    by_cases z : (kx_s m l W T).1 g < 1000000
    · obtain ⟨ok2, sr, cb⟩ := kx_step ok hg z
      rw [kx, if_pos z]
      exact ih _ _ _ _ (by omega) ok2 (by omega)
    · rw [kx, if_neg z]
      show -300000000 ≤ pr ∧ pr ≤ 300000000
      omega
theorem kTr_12 {m : km_Mm} {o : Int} (hb : kI_book m) (hO : kI_opt m) (hF : kI_fl m) (o0 : 0 ≤ o) (o1 : o < m 19 1) : -300000000 ≤ (kTr m o).2 ∧ (kTr m o).2 ≤ 300000000 := by
  have h1 := hb.1
  have op := hO.2.1 o o0 o1
  exact kx_bnd op.2.1 10 _ _ _ _ (by omega) (kTr_ok ⟨h1.1, h1.2.1⟩ hF) (by omega)
/-- the fare of an OPTION -/
noncomputable def kFr (m : km_Mm) (o : Int) : Int := if (kTr m o).1 = kcnt (kC m o) (m 5 1).toNat then (kTr m o).2 else -1
theorem md_fareOf {q : Nat × Int × Int × Int × Int} {c s : Nat} {m mm : km_Mm} {o : Int} (hb : kI_book m) (hT : kI_trait m) (hO : kI_opt m) (hF : kI_fl m) (hj : kMj m mm) (o0 : 0 ≤ o) (o1 : o < m 19 1) :
    ∃ M' : km_Mm, (∀ b j : Int, ¬ (b = 130 ∨ (159 ≤ b ∧ b ≤ 162) ∨ (b = 123 ∧ 77 ≤ j ∧ j ≤ 79)) → M' b j = mm b j) ∧ ∀ Q : Option km_V → km_Al → km_Mm → Prop, (km_E M_X12_fareOf [.inr (.inr 123), .inl o] (km_A0 q c s) mm Q ↔ Q (some (.inl (kFr m o))) (km_A0 q c s) M') := by
  obtain ⟨M1, a1, a2, a3⟩ := @md_travels2 q c s m mm o hb hT hO hF hj o0 o1
  have j1 : kMj m M1 := fun b j z1 z2 => (a1 b j (fun w => z2 (by unfold kJ; omega))).trans (hj b j z1 z2)
  obtain ⟨g, h1⟩ := @md_comeOf q c s m M1 o hb hO j1 o0 o1
  have e1 : M1 123 77 = (kTr m o).1 := by rw [← a2]
  have e2 : M1 123 78 = (kTr m o).2 := by rw [← a2]
  refine ⟨km_sr M1 130 g, fun b j z => by rw [km_sr_ne (by omega)]; exact a1 b j z, fun Q => ?_⟩
  unfold kFr
  rw [e_X12_fareOf]
  by_cases z : (kTr m o).1 = kcnt (kC m o) (m 5 1).toNat
  · rw [if_pos z]
    rw [z] at e1
    simp (config := { decide := true }) (disch := first | decide | assumption | omega | (simp (config := { decide := true }) only [km_sr_sf, km_sr_of, km_up_of, km_up_o, km_upx_i, km_upx_s, km_fl2_o, ne_eq, not_true_eq_false, not_false_eq_true] <;> omega) | fail) only [g_X12_fareOf, a3, e1, e2, h1, ka_lt, ka_le, ka_nlt, ka_nle, ka_ne, ka_eq, Int.add_sub_cancel, true_or, or_true, false_or, or_false, false_and, and_false, if_true, if_false, ka_lo, ka_hi, ka_nn, km_sr_sf, km_sr_of, km_up_of, km_sr_us, km_sr_uo, km_sr_sr, km_sr_fl, km_sr_flo, km_up_up, km_up_lt, km_lay, km_unL, km_up_o, km_upx_i, km_upx_s, km_fl2_o, km_is, Option.some.injEq, Sum.inl.injEq, Sum.inr.injEq, Option.toList_some, Option.toList_none, List.cons_append, List.nil_append, ne_eq, true_and, and_true, and_self, not_true_eq_false, not_false_eq_true, true_implies, false_implies, reduceCtorEq]
  · rw [if_neg z]
    simp (config := { decide := true }) (disch := first | decide | assumption | omega | (simp (config := { decide := true }) only [km_sr_sf, km_sr_of, km_up_of, km_up_o, km_upx_i, km_upx_s, km_fl2_o, ne_eq, not_true_eq_false, not_false_eq_true] <;> omega) | fail) only [g_X12_fareOf, a3, e1, e2, h1, z, ka_lt, ka_le, ka_nlt, ka_nle, ka_ne, ka_eq, Int.add_sub_cancel, true_or, or_true, false_or, or_false, false_and, and_false, if_true, if_false, ka_lo, ka_hi, ka_nn, km_sr_sf, km_sr_of, km_up_of, km_sr_us, km_sr_uo, km_sr_sr, km_sr_fl, km_sr_flo, km_up_up, km_up_lt, km_lay, km_unL, km_up_o, km_upx_i, km_upx_s, km_fl2_o, km_is, Option.some.injEq, Sum.inl.injEq, Sum.inr.injEq, Option.toList_some, Option.toList_none, List.cons_append, List.nil_append, ne_eq, true_and, and_true, and_self, not_true_eq_false, not_false_eq_true, true_implies, false_implies, reduceCtorEq]

