/-! ===== feed ===== -/
theorem kb_shr_bv (x : BitVec 32) (s : Nat) (h : s ≤ 24) : x.sshiftRight s &&& 255#32 = (x >>> s) &&& 255#32 := by
  apply BitVec.eq_of_getLsbD_eq
  intro i hi
  rw [BitVec.getLsbD_and, BitVec.getLsbD_and, BitVec.getLsbD_sshiftRight, BitVec.getLsbD_ushiftRight]
  have e : (255#32).getLsbD i = decide (i < 8) := by
    have : ∀ j : Fin 32, (255#32).getLsbD j.val = decide (j.val < 8) := by decide +kernel
    exact this ⟨i, hi⟩
  rw [e]
  by_cases z : i < 8
  · have : s + i < 32 := by omega
    simp [z, hi, this]
  · simp [z]
theorem kb_su : ∀ n : Fin 25, (((nI n.val).toUInt32 &&& Int32.toUInt32 31).toBitVec % 32).toNat = n.val := by decide +kernel
/-- the byte d of a word -/
def kb (w d : Int) : Int := km_and (km_ushr w (24 - 8 * d)) 255
theorem kb_eq {w s : Int} (h0 : 0 ≤ s) (h1 : s ≤ 24) : km_and (km_shr w s) 255 = km_and (km_ushr w s) 255 := by
  unfold km_and km_shr km_ushr
  rw [Int32.ofInt_toInt, Int32.ofInt_toInt, ks_of h0]
  congr 1
  apply Int32.toBitVec_inj.1
  rw [Int32.toBitVec_and, Int32.toBitVec_and, Int32.toBitVec_shiftRight]
  show (Int32.ofInt w).toBitVec.sshiftRight ((nI s.toNat &&& 31).toBitVec.smod 32).toNat &&& 255#32 = ((Int32.ofInt w).toUInt32 >>> ((nI s.toNat).toUInt32 &&& Int32.toUInt32 31)).toBitVec &&& 255#32
  rw [ks_sl s.toNat (by omega), UInt32.toBitVec_shiftRight]
  show _ = ((Int32.ofInt w).toBitVec >>> (((nI s.toNat).toUInt32 &&& Int32.toUInt32 31).toBitVec % 32).toNat) &&& 255#32
  rw [kb_su ⟨s.toNat, by omega⟩, kb_shr_bv _ _ (by omega)]
theorem kb_rng (x : Int) : 0 ≤ km_and x 255 ∧ km_and x 255 < 256 := by
  unfold km_and
  have e : Int32.ofInt x &&& Int32.ofInt 255 = nI ((Int32.ofInt x).toBitVec.toNat &&& 255) := by
    apply Int32.toBitVec_inj.1
    rw [Int32.toBitVec_and]
    apply BitVec.eq_of_toNat_eq
    show ((Int32.ofInt x).toBitVec &&& 255#32).toNat = (BitVec.ofNat 32 _).toNat
    rw [BitVec.toNat_and]
    have : (Int32.ofInt x).toBitVec.toNat &&& 255 ≤ 255 := Nat.and_le_right
    show (Int32.ofInt x).toBitVec.toNat &&& 255 = ((Int32.ofInt x).toBitVec.toNat &&& 255) % 2 ^ 32
    rw [Nat.mod_eq_of_lt (by omega)]
  rw [e]
  have : (Int32.ofInt x).toBitVec.toNat &&& 255 ≤ 255 := Nat.and_le_right
  rw [nI_toInt (by omega)]
  omega
theorem r_put {q : Nat × Int × Int × Int × Int} {c s : Nat} {w : Int} {m : km_Mm} (h0 : 0 ≤ m 3 1) (h1 : m 3 1 ≤ 596) (Q : Option km_V → km_Al → km_Mm → Prop) : km_E M_X10_put [.inr (.inr 3), .inl w] (km_A0 q c s) m Q ↔ Q none (km_A0 q c s) (km_sr (km_up m 3 1 (m 3 1 + 4)) 4 (fun j => if m 3 1 ≤ j ∧ j < m 3 1 + 4 then kb w (j - m 3 1) else m 4 j)) := by
  have e : km_sr (km_up m 3 1 (m 3 1 + 4)) 4 (fun j => if m 3 1 ≤ j ∧ j < m 3 1 + 4 then kb w (j - m 3 1) else m 4 j) = km_up (km_up (km_up (km_up (km_up m 3 1 (m 3 1 + 1 + 1 + 1 + 1)) 4 (m 3 1) (km_and (km_ushr w 24) 255)) 4 (m 3 1 + 1) (km_and (km_ushr w 16) 255)) 4 (m 3 1 + 1 + 1) (km_and (km_ushr w 8) 255)) 4 (m 3 1 + 1 + 1 + 1) (km_and (km_ushr w 0) 255) := by
    funext b j
    by_cases eb : b = 4
    · subst eb
      rw [km_sr_s]
      by_cases z0 : j = m 3 1
      · subst z0; rw [if_pos (by omega)]; simp (disch := omega) only [km_up_ne, km_up_eq]; unfold kb; rw [Int.sub_self]; rfl
      by_cases z1 : j = m 3 1 + 1
      · subst z1; rw [if_pos (by omega)]; simp (disch := omega) only [km_up_ne, km_up_eq]; unfold kb; rw [show m 3 1 + 1 - m 3 1 = 1 by omega]; rfl
      by_cases z2 : j = m 3 1 + 1 + 1
      · subst z2; rw [if_pos (by omega)]; simp (disch := omega) only [km_up_ne, km_up_eq]; unfold kb; rw [show m 3 1 + 1 + 1 - m 3 1 = 2 by omega]; rfl
      by_cases z3 : j = m 3 1 + 1 + 1 + 1
      · subst z3; rw [if_pos (by omega)]; simp (disch := omega) only [km_up_ne, km_up_eq]; unfold kb; rw [show m 3 1 + 1 + 1 + 1 - m 3 1 = 3 by omega]; rfl
      rw [if_neg (by omega)]; simp (disch := omega) only [km_up_ne]
    · rw [km_sr_ne eb]
      by_cases e2 : b = 3 ∧ j = 1
      · simp (disch := omega) only [km_up_ne, km_up_eq]; omega
      · simp (disch := omega) only [km_up_ne]
  rw [e, e_X10_put]
  simp (config := { decide := true }) (disch := first | decide | assumption | omega | (simp (config := { decide := true }) only [km_sr_sf, km_sr_of, km_up_of, km_up_o, km_upx_i, km_upx_s, km_fl2_o, ne_eq, not_true_eq_false, not_false_eq_true] <;> omega) | fail) only [g_X10_put, Int.add_sub_cancel, true_or, or_true, false_or, or_false, false_and, and_false, if_true, if_false, ka_lo, ka_hi, ka_nn, km_sr_sf, km_sr_of, km_up_of, km_sr_us, km_sr_uo, km_sr_sr, km_sr_fl, km_sr_flo, km_up_up, km_up_lt, km_lay, km_unL, km_up_o, km_upx_i, km_upx_s, km_fl2_o, km_is, Option.some.injEq, Sum.inl.injEq, Sum.inr.injEq, Option.toList_some, Option.toList_none, List.cons_append, List.nil_append, ne_eq, true_and, and_true, and_self, not_true_eq_false, not_false_eq_true, true_implies, false_implies, reduceCtorEq]
  rw [g_X10_put_3]
  simp (config := { decide := true }) (disch := first | decide | assumption | omega | (simp (config := { decide := true }) only [km_sr_sf, km_sr_of, km_up_of, km_up_o, km_upx_i, km_upx_s, km_fl2_o, ne_eq, not_true_eq_false, not_false_eq_true] <;> omega) | fail) only [g_X10_put, Int.reduceAdd, ka_lt, ka_le, ka_nlt, ka_nle, ka_ne, ka_eq, Int.add_sub_cancel, true_or, or_true, false_or, or_false, false_and, and_false, if_true, if_false, ka_lo, ka_hi, ka_nn, km_sr_sf, km_sr_of, km_up_of, km_sr_us, km_sr_uo, km_sr_sr, km_sr_fl, km_sr_flo, km_up_up, km_up_lt, km_lay, km_unL, km_up_o, km_upx_i, km_upx_s, km_fl2_o, km_is, Option.some.injEq, Sum.inl.injEq, Sum.inr.injEq, Option.toList_some, Option.toList_none, List.cons_append, List.nil_append, ne_eq, true_and, and_true, and_self, not_true_eq_false, not_false_eq_true, true_implies, false_implies, reduceCtorEq]
  rw [g_X10_put_3]
  simp (config := { decide := true }) (disch := first | decide | assumption | omega | (simp (config := { decide := true }) only [km_sr_sf, km_sr_of, km_up_of, km_up_o, km_upx_i, km_upx_s, km_fl2_o, ne_eq, not_true_eq_false, not_false_eq_true] <;> omega) | fail) only [g_X10_put, Int.reduceAdd, ka_lt, ka_le, ka_nlt, ka_nle, ka_ne, ka_eq, Int.add_sub_cancel, true_or, or_true, false_or, or_false, false_and, and_false, if_true, if_false, ka_lo, ka_hi, ka_nn, km_sr_sf, km_sr_of, km_up_of, km_sr_us, km_sr_uo, km_sr_sr, km_sr_fl, km_sr_flo, km_up_up, km_up_lt, km_lay, km_unL, km_up_o, km_upx_i, km_upx_s, km_fl2_o, km_is, Option.some.injEq, Sum.inl.injEq, Sum.inr.injEq, Option.toList_some, Option.toList_none, List.cons_append, List.nil_append, ne_eq, true_and, and_true, and_self, not_true_eq_false, not_false_eq_true, true_implies, false_implies, reduceCtorEq]
  rw [g_X10_put_3]
  simp (config := { decide := true }) (disch := first | decide | assumption | omega | (simp (config := { decide := true }) only [km_sr_sf, km_sr_of, km_up_of, km_up_o, km_upx_i, km_upx_s, km_fl2_o, ne_eq, not_true_eq_false, not_false_eq_true] <;> omega) | fail) only [g_X10_put, Int.reduceAdd, ka_lt, ka_le, ka_nlt, ka_nle, ka_ne, ka_eq, Int.add_sub_cancel, true_or, or_true, false_or, or_false, false_and, and_false, if_true, if_false, ka_lo, ka_hi, ka_nn, km_sr_sf, km_sr_of, km_up_of, km_sr_us, km_sr_uo, km_sr_sr, km_sr_fl, km_sr_flo, km_up_up, km_up_lt, km_lay, km_unL, km_up_o, km_upx_i, km_upx_s, km_fl2_o, km_is, Option.some.injEq, Sum.inl.injEq, Sum.inr.injEq, Option.toList_some, Option.toList_none, List.cons_append, List.nil_append, ne_eq, true_and, and_true, and_self, not_true_eq_false, not_false_eq_true, true_implies, false_implies, reduceCtorEq]
  rw [g_X10_put_3]
  simp (config := { decide := true }) (disch := first | decide | assumption | omega | (simp (config := { decide := true }) only [km_sr_sf, km_sr_of, km_up_of, km_up_o, km_upx_i, km_upx_s, km_fl2_o, ne_eq, not_true_eq_false, not_false_eq_true] <;> omega) | fail) only [g_X10_put, Int.reduceAdd, ka_lt, ka_le, ka_nlt, ka_nle, ka_ne, ka_eq, Int.add_sub_cancel, true_or, or_true, false_or, or_false, false_and, and_false, if_true, if_false, ka_lo, ka_hi, ka_nn, km_sr_sf, km_sr_of, km_up_of, km_sr_us, km_sr_uo, km_sr_sr, km_sr_fl, km_sr_flo, km_up_up, km_up_lt, km_lay, km_unL, km_up_o, km_upx_i, km_upx_s, km_fl2_o, km_is, Option.some.injEq, Sum.inl.injEq, Sum.inr.injEq, Option.toList_some, Option.toList_none, List.cons_append, List.nil_append, ne_eq, true_and, and_true, and_self, not_true_eq_false, not_false_eq_true, true_implies, false_implies, reduceCtorEq]
  rw [g_X10_put_3]
  simp (config := { decide := true }) (disch := first | decide | assumption | omega | (simp (config := { decide := true }) only [km_sr_sf, km_sr_of, km_up_of, km_up_o, km_upx_i, km_upx_s, km_fl2_o, ne_eq, not_true_eq_false, not_false_eq_true] <;> omega) | fail) only [g_X10_put, Int.reduceAdd, ka_lt, ka_le, ka_nlt, ka_nle, ka_ne, ka_eq, Int.add_sub_cancel, true_or, or_true, false_or, or_false, false_and, and_false, if_true, if_false, ka_lo, ka_hi, ka_nn, km_sr_sf, km_sr_of, km_up_of, km_sr_us, km_sr_uo, km_sr_sr, km_sr_fl, km_sr_flo, km_up_up, km_up_lt, km_lay, km_unL, km_up_o, km_upx_i, km_upx_s, km_fl2_o, km_is, Option.some.injEq, Sum.inl.injEq, Sum.inr.injEq, Option.toList_some, Option.toList_none, List.cons_append, List.nil_append, ne_eq, true_and, and_true, and_self, not_true_eq_false, not_false_eq_true, true_implies, false_implies, reduceCtorEq]

