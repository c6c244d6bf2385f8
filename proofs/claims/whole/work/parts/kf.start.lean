/-! ===== the law's start: the invariant holds ===== -/
theorem kmx_ne {f : Int → Int} {m : km_Mm} {b j : Int} (h : b ≠ -2) : kmix f m b j = m b j := by unfold kmix; rw [if_neg h]
theorem kfin9 {n : Nat} {P : Int → Prop} (h : ∀ j : Fin n, P (j.val : Int)) : ∀ j : Int, 0 ≤ j → j < (n : Int) → P j := fun j j0 j1 => by
  have e : ((j.toNat : Nat) : Int) = j := by omega
  have t := h ⟨j.toNat, by omega⟩
  simp only [e] at t
  exact t
theorem kMx_c : kMx 5 1 = 0 ∧ kMx 123 3 = 0 ∧ kMx 5 2 = 0 ∧ kMx 123 11 = 0 ∧ kMx 5 3 = 0 ∧ kMx 123 5 = 0 ∧ kMx 52 7 = 0 ∧ kMx 52 8 = 0 ∧ kMx 19 1 = 0 ∧ kMx 123 63 = 0 ∧ kMx 59 0 = 0 ∧ kMx 123 67 = 0 ∧ kMx 85 0 = 0 ∧ kMx 123 83 = 0 ∧ kMx 85 2 = 0 ∧ kMx 123 89 = 0 ∧ kMx 100 1 = 0 ∧ kMx 123 80 = 0 ∧ kMx 123 82 = 0 ∧ kMx 100 4 = 0 ∧ kMx 123 91 = 0 ∧ kMx 3 1 = 0 ∧ kMx 123 1 = 0 ∧ kMx 123 23 = 0 ∧ kMx 37 2 = 0 ∧ kMx 40 4 = 0 ∧ kMx 40 9 = 0 ∧ kMx 123 35 = 0 ∧ kMx 40 8 = 0 ∧ kMx 100 0 = -1 ∧ kMx 123 81 = -1 ∧ kMx 123 24 = -1 ∧ kMx 37 3 = -1 ∧ kMx 123 87 = 2 ∧ kMx 89 3 = 2 := by decide +kernel
theorem kMx_z12 : ∀ j : Int, 0 ≤ j → j < 100 → kMx 12 j = 0 := kfin9 (n := 100) (P := fun j => kMx 12 j = 0) (by decide +kernel)
theorem kMx_z13 : ∀ j : Int, 0 ≤ j → j < 100 → kMx 13 j = 0 := kfin9 (n := 100) (P := fun j => kMx 13 j = 0) (by decide +kernel)
theorem kMx_z14 : ∀ j : Int, 0 ≤ j → j < 100 → kMx 14 j = 0 := kfin9 (n := 100) (P := fun j => kMx 14 j = 0) (by decide +kernel)
theorem kMx_z15 : ∀ j : Int, 0 ≤ j → j < 100 → kMx 15 j = 0 := kfin9 (n := 100) (P := fun j => kMx 15 j = 0) (by decide +kernel)
theorem kMx_z126 : ∀ j : Int, 0 ≤ j → j < 100 → kMx 126 j = 0 := kfin9 (n := 100) (P := fun j => kMx 126 j = 0) (by decide +kernel)
theorem kMx_z127 : ∀ j : Int, 0 ≤ j → j < 100 → kMx 127 j = 0 := kfin9 (n := 100) (P := fun j => kMx 127 j = 0) (by decide +kernel)
theorem kMx_z128 : ∀ j : Int, 0 ≤ j → j < 100 → kMx 128 j = 0 := kfin9 (n := 100) (P := fun j => kMx 128 j = 0) (by decide +kernel)
theorem kMx_z129 : ∀ j : Int, 0 ≤ j → j < 100 → kMx 129 j = 0 := kfin9 (n := 100) (P := fun j => kMx 129 j = 0) (by decide +kernel)
theorem kMx_z150 : ∀ j : Int, 0 ≤ j → j < 36 → kMx 150 j = 0 := kfin9 (n := 36) (P := fun j => kMx 150 j = 0) (by decide +kernel)
theorem kMx_z30 : ∀ j : Int, 0 ≤ j → j < 6 → kMx 30 j = 0 := kfin9 (n := 6) (P := fun j => kMx 30 j = 0) (by decide +kernel)
theorem kMx_z31 : ∀ j : Int, 0 ≤ j → j < 6 → kMx 31 j = 0 := kfin9 (n := 6) (P := fun j => kMx 31 j = 0) (by decide +kernel)
theorem kMx_z32 : ∀ j : Int, 0 ≤ j → j < 6 → kMx 32 j = 0 := kfin9 (n := 6) (P := fun j => kMx 32 j = 0) (by decide +kernel)
theorem kMx_z33 : ∀ j : Int, 0 ≤ j → j < 6 → kMx 33 j = 0 := kfin9 (n := 6) (P := fun j => kMx 33 j = 0) (by decide +kernel)
theorem kMx_z34 : ∀ j : Int, 0 ≤ j → j < 6 → kMx 34 j = 0 := kfin9 (n := 6) (P := fun j => kMx 34 j = 0) (by decide +kernel)
theorem kMx_z35 : ∀ j : Int, 0 ≤ j → j < 6 → kMx 35 j = 0 := kfin9 (n := 6) (P := fun j => kMx 35 j = 0) (by decide +kernel)
theorem kMx_z88 : ∀ j : Int, 0 ≤ j → j < 10 → kMx 88 j = 0 := kfin9 (n := 10) (P := fun j => kMx 88 j = 0) (by decide +kernel)
theorem kMx_z164 : ∀ j : Int, 0 ≤ j → j < 100 → kMx 164 j = 0 := kfin9 (n := 100) (P := fun j => kMx 164 j = 0) (by decide +kernel)
theorem kMx_z101 : ∀ j : Int, 0 ≤ j → j < 10 → kMx 101 j = 0 := kfin9 (n := 10) (P := fun j => kMx 101 j = 0) (by decide +kernel)
theorem kMx_z112 : ∀ j : Int, 0 ≤ j → j < 10 → kMx 112 j = 0 := kfin9 (n := 10) (P := fun j => kMx 112 j = 0) (by decide +kernel)
theorem kMx_z182 : ∀ j : Int, 0 ≤ j → j < 4 → kMx 182 j = 0 := kfin9 (n := 4) (P := fun j => kMx 182 j = 0) (by decide +kernel)
theorem kMx_z1 : ∀ j : Int, 0 ≤ j → j < 4 → kMx 1 j = 0 := kfin9 (n := 4) (P := fun j => kMx 1 j = 0) (by decide +kernel)
theorem kMx_n102 : ∀ j : Int, 0 ≤ j → j < 10 → kMx 102 j = -1 := kfin9 (n := 10) (P := fun j => kMx 102 j = -1) (by decide +kernel)
theorem kMx_n183 : ∀ j : Int, 0 ≤ j → j < 4 → kMx 183 j = -1 := kfin9 (n := 4) (P := fun j => kMx 183 j = -1) (by decide +kernel)
theorem kMx_n2 : ∀ j : Int, 0 ≤ j → j < 4 → kMx 2 j = -1 := kfin9 (n := 4) (P := fun j => kMx 2 j = -1) (by decide +kernel)
theorem kMx_n45 : ∀ j : Int, 0 ≤ j → j < 7 → kMx 45 j = -1 := kfin9 (n := 7) (P := fun j => kMx 45 j = -1) (by decide +kernel)
theorem kMx_n142 : ∀ j : Int, 0 ≤ j → j < 7 → kMx 142 j = -1 := kfin9 (n := 7) (P := fun j => kMx 142 j = -1) (by decide +kernel)
theorem kMx_w137 : ∀ j : Int, 0 ≤ j → j < 132 → kMx 137 j = kr_wl.getD j.toNat 0 := kfin9 (n := 132) (P := fun j => kMx 137 j = kr_wl.getD j.toNat 0) (by decide +kernel)
theorem kMx_p165 : ∀ j : Int, 0 ≤ j → j < 3 → kMx 165 j = kMx 89 j ∧ 0 ≤ kMx 89 j ∧ kMx 89 j ≤ 99 := kfin9 (n := 3) (P := fun j => kMx 165 j = kMx 89 j ∧ 0 ≤ kMx 89 j ∧ kMx 89 j ≤ 99) (by decide +kernel)
theorem kzr_o {k b j : Int} {m : km_Mm} (h : b ≠ k) : km_zr k m b j = m b j := by unfold km_zr; rw [if_neg h]
theorem kzr_s {k j : Int} {m : km_Mm} : km_zr k m k j = 0 := by unfold km_zr; rw [if_pos rfl]
set_option maxRecDepth 100000 in
theorem kMx_139 (x : Int) : kMx 139 x = 0 := by
  unfold kMx
  simp (disch := decide) only [km_up_o, kzr_o, kzr_s]
set_option maxRecDepth 100000 in
theorem kMx_140 (x : Int) : kMx 140 x = 0 := by
  unfold kMx
  simp (disch := decide) only [km_up_o, kzr_o, kzr_s]
section SI
variable {f : Int → Int} {L : Nat}
theorem kI0_start : kI0 0 (kmix f kMx) := by
  obtain ⟨c5_1, c123_3, c5_2, c123_11, c5_3, c123_5, c52_7, c52_8, c19_1, c123_63, c59_0, c123_67, c85_0, c123_83, c85_2, c123_89, c100_1, c123_80, c123_82, c100_4, c123_91, c3_1, c123_1, c123_23, c37_2, c40_4, c40_9, c123_35, c40_8, c100_0, c123_81, c123_24, c37_3, c123_87, c89_3⟩ := kMx_c
  have r : ∀ b j : Int, 0 ≤ b → kmix f kMx b j = kMx b j := fun b j h => kmx_ne (by omega)
  refine ⟨?_, ?_, ?_, ?_, ?_, ?_, ?_, ?_, ?_, ?_⟩
  · unfold kI_book km_nt km_ntM
    rw [r 5 1 (by decide), r 123 3 (by decide), r 5 2 (by decide), r 123 11 (by decide), r 5 3 (by decide), r 123 5 (by decide), c5_1, c123_3, c5_2, c123_11, c5_3, c123_5]
    refine ⟨by decide, by decide, by decide, fun i i0 i1 => ?_, fun i i0 i1 => ?_, fun i i0 i1 => absurd i1 (by omega)⟩
    · rw [r 13 i (by decide), r 12 i (by decide), r 14 i (by decide), r 15 i (by decide), kMx_z13 i i0 i1, kMx_z12 i i0 i1, kMx_z14 i i0 i1, kMx_z15 i i0 i1]
      decide
    · rw [r 127 i (by decide), r 126 i (by decide), r 128 i (by decide), r 129 i (by decide), kMx_z127 i i0 i1, kMx_z126 i i0 i1, kMx_z128 i i0 i1, kMx_z129 i i0 i1]
      decide
  · unfold kI_scr
    rw [r 52 7 (by decide), r 52 8 (by decide), c52_7, c52_8]
    decide
  · intro k k0 k1
    rw [r 5 1 (by decide), c5_1] at k1
    omega
  · unfold kI_opt
    rw [r 19 1 (by decide), r 123 63 (by decide), c19_1, c123_63]
    exact ⟨by decide, fun o o0 o1 => absurd o1 (by omega), fun o k o0 o1 => absurd o1 (by omega)⟩
  · intro a b a0 a1 b0 b1
    rw [r 150 _ (by decide), r (30 + a) b (by omega), kMx_z150 _ (by omega) (by omega)]
    have ha : a = 0 ∨ a = 1 ∨ a = 2 ∨ a = 3 ∨ a = 4 ∨ a = 5 := by omega
    have z : kMx (30 + a) b = 0 := by
      rcases ha with rfl | rfl | rfl | rfl | rfl | rfl
      · exact kMx_z30 b b0 b1
      · exact kMx_z31 b b0 b1
      · exact kMx_z32 b b0 b1
      · exact kMx_z33 b b0 b1
      · exact kMx_z34 b b0 b1
      · exact kMx_z35 b b0 b1
    rw [z]
    decide
  · unfold kI_fl
    rw [r 59 0 (by decide), r 123 67 (by decide), c59_0, c123_67]
    exact ⟨by decide, fun o o0 o1 => absurd o1 (by omega)⟩
  · unfold kI_house
    rw [r 85 0 (by decide), r 123 83 (by decide), r 85 2 (by decide), r 123 89 (by decide), r 123 87 (by decide), r 89 3 (by decide), c85_0, c123_83, c85_2, c123_89, c123_87, c89_3]
    refine ⟨by decide, fun i i0 i1 => absurd i1 (by omega), by decide, fun i i0 i1 => absurd i1 (by omega), fun a a0 a1 => ?_, fun i i0 i1 => ?_, rfl, by decide, by decide⟩
    · rw [r 88 a (by decide), kMx_z88 a a0 a1]
      refine ⟨ten_0, fun b b0 b1 => ?_⟩
      rw [r 88 b (by decide), kMx_z88 b b0 b1, r 164 _ (by decide), kMx_z164 _ (by omega) (by omega), tb_zero, tb_zero]
      exact ⟨rfl, rfl, fun h => by cases h⟩
    · rw [r 165 i (by decide), r 89 i (by decide)]
      exact kMx_p165 i i0 i1
  · unfold kI_meet
    rw [r 100 0 (by decide), r 19 1 (by decide), r 123 81 (by decide), r 123 80 (by decide), r 123 82 (by decide), r 100 1 (by decide), r 5 1 (by decide), r 100 4 (by decide), r 123 91 (by decide), c100_0, c19_1, c123_81, c123_80, c123_82, c100_1, c5_1, c100_4, c123_91]
    refine ⟨by decide, ⟨rfl, ten_0, fun k _ _ => tb_zero⟩, by decide, fun k k0 k1 => ?_, fun _ => ⟨rfl, rfl, fun k k0 k1 => ?_⟩, fun k k0 k1 => ?_, fun d k d0 d1 => absurd d1 (by omega), fun a a0 a1 => ?_, fun h => absurd rfl h⟩
    · rw [r 101 k (by decide), kMx_z101 k k0 k1]
      exact ⟨by decide, fun h => absurd h (by omega), fun _ => rfl⟩
    · rw [r 102 k (by decide), r 112 k (by decide)]
      exact ⟨kMx_n102 k k0 k1, kMx_z112 k k0 k1⟩
    · rw [r 102 k (by decide), kMx_n102 k k0 k1]
      exact ⟨by decide, fun h => absurd rfl h, fun _ => rfl⟩
    · rw [r 112 a (by decide), kMx_z112 a a0 a1]
      exact ten_0
  · intro b b0 b1
    rw [r 182 b (by decide), r 1 b (by decide), r 183 b (by decide), r 2 b (by decide), kMx_z182 b b0 b1, kMx_z1 b b0 b1, kMx_n183 b b0 b1, kMx_n2 b b0 b1]
    decide
  · unfold kI_tape
    rw [r 3 1 (by decide), r 123 1 (by decide), r 123 23 (by decide), r 37 2 (by decide), r 123 24 (by decide), r 37 3 (by decide), c3_1, c123_1, c123_23, c37_2, c123_24, c37_3]
    exact ⟨by decide, fun i i0 i1 => absurd i1 (by omega), rfl, rfl⟩
theorem kIN_start : kIN 0 (L, 40, 46, -1, -1) (kmix f kMx) := by
  obtain ⟨c5_1, c123_3, c5_2, c123_11, c5_3, c123_5, c52_7, c52_8, c19_1, c123_63, c59_0, c123_67, c85_0, c123_83, c85_2, c123_89, c100_1, c123_80, c123_82, c100_4, c123_91, c3_1, c123_1, c123_23, c37_2, c40_4, c40_9, c123_35, c40_8, c100_0, c123_81, c123_24, c37_3, c123_87, c89_3⟩ := kMx_c
  have r : ∀ b j : Int, 0 ≤ b → kmix f kMx b j = kMx b j := fun b j h => kmx_ne (by omega)
  refine ⟨kI0_start, 40, ⟨Or.inl rfl, rfl, rfl⟩, ?_⟩
  unfold kIp
  rw [r 40 4 (by decide), r 40 9 (by decide), r 123 35 (by decide), r 40 8 (by decide), c40_4, c40_9, c123_35, c40_8]
  refine ⟨by decide, by decide, by decide, fun L l0 l1 => Or.inl ⟨?_, ?_⟩, fun b x b0 b1 => ?_, fun i i0 i1 => ?_⟩
  · rw [r (40 + 5) L (by decide)]
    exact kMx_n45 L l0 l1
  · have := krt_7 ⟨l0, l1⟩
    rw [r 142 _ (by decide)]
    exact kMx_n142 _ (by omega) (by omega)
  · rw [r b x (by omega)]
    have hb : b = 139 ∨ b = 140 := by omega
    rcases hb with rfl | rfl
    · rw [kMx_139]; decide
    · rw [kMx_140]; decide
  · rw [r 137 i (by decide)]
    exact kMx_w137 i i0 i1
end SI

