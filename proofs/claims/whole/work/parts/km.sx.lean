/-! ===== the steps over the two constant texts are the real machine's ===== -/
theorem kz_so1 {o i : Nat} (h : km_so o i = some 1) : o = 10 ∧ i = 70 := by
  unfold km_so at h
  split at h
  · next q => exact q
  · split at h
    · cases h
    · split at h <;> cases h
theorem kz_so2 {o i : Nat} (h : km_so o i = some 2) : o = 10 ∧ i = 73 := by
  unfold km_so at h
  split at h
  · cases h
  · split at h
    · next q => exact q
    · split at h <;> cases h
theorem kz_so3 {o i : Nat} (h : km_so o i = some 3) : o = 10 ∧ i = 63 := by
  unfold km_so at h
  split at h
  · cases h
  · split at h
    · cases h
    · split at h
      · next q => exact q
      · cases h
theorem kz_w3 : ∀ j : Nat, j < 132 → kz_b3.getD j 0 = Int32.ofInt (km_wl.getD j 0) ∧ (0 ≤ km_wl.getD j 0 ∧ km_wl.getD j 0 ≤ 127) := by decide +kernel
theorem kz_sN {c : Nat} (h : 255 < c) : km_six (c : Int) = -1 := by
  unfold km_six
  rw [if_neg (by omega), if_neg (by omega), if_neg (by omega), if_neg (by omega), if_neg (by omega), if_neg (by omega), if_neg (by omega), if_neg (by omega), if_neg (by omega), if_neg (by omega), if_neg (by omega)]
theorem kz_sR (c : Int) : -1 ≤ km_six c ∧ km_six c ≤ 10 := by
  unfold km_six
  repeat' split
  all_goals omega
theorem kz_ixr {c : Nat} (h : c < 65536) : (255 < nI c ∧ Int32.ofInt (km_six (c : Int)) = -1) ∨ (¬ 255 < nI c ∧ kz_ixf (nI c).toInt8.toInt32 kz_b4 0 = Int32.ofInt (km_six (c : Int))) := by
  rcases Nat.lt_or_ge 255 c with q | q
  · refine Or.inl ⟨nI_lt (a := 255) (b := c) q (by omega), ?_⟩
    rw [kz_sN q]
    rfl
  · exact Or.inr ⟨nI_nlt (a := 255) (b := c) q (by decide), kz_six c (by omega)⟩
section KZX
variable {p : Program} {l : Launch} {e : Env} {R : Room} {s : State} {me : MethodId} {args : Array Value} {below : List Frame} {meth : Method} {c : Code} {w : km_Pr} {M : km_Md} {c0 s1 : Nat} {Q : State → Prop} {s0 : State}
theorem kz_cE (hw : km_E2 w = kz_E s0) (C : km_Cx p s me args meth c w M) : kz_E s0 s := by
  have h := C.2.2.2.2.2.2.2.2.1.2
  rw [hw] at h
  exact h
theorem kz_cH (hw : km_E2 w = kz_E s0) (hbs : km_bs w = s0.heap.size) (C : km_Cx p s me args meth c w M) {H : Heap} {locs : List Loc} (h5 : va_S (km_A w) s.heap H locs) : ∀ U : State, U.heap = H → s.WarmedH U.vm → kz_E s0 U := fun U hU hW => by
  have hb : km_bs w ≤ s.heap.size := C.2.2.2.2.2.2.2.2.2.2
  exact kz_Est s U hW (fun q hq => by rw [hU]; exact h5.2.1 q (by omega) (by show ¬ km_bs w ≤ q; omega)) (kz_cE hw C)
theorem kz_cR (hw : km_E2 w = kz_E s0) (hbs : km_bs w = s0.heap.size) (C : km_Cx p s me args meth c w M) {H : Heap} {locs : List Loc} (h5 : va_S (km_A w) s.heap H locs) {a : Nat} (hO : va_O RJ0 a (kz_A s0) s0 s0.heap) : ∃ cellB : Cell, H[a]? = some cellB ∧ cellB.vm.isStatics = false ∧ s.vm.findClass RJ0 = some cellB.cls := by
  have h1 := (kz_upO hO (kz_cE hw C)).kept (H1 := H) (fun q h1 h2 => h5.2.1 q h1 (by
    have h3 : ¬ s0.heap.size ≤ q := h2
    show ¬ km_bs w ≤ q
    omega))
  obtain ⟨cell, h1, h2, h3, -⟩ := h1
  exact ⟨cell, h1, h2, h3⟩
theorem kz_cO (C : km_Cx p s me args meth c w M) (hM : M.2.1 = 10) : s.vm.findClass RX10 = some me.cls := by
  have h := C.2.2.2.1
  rw [hM] at h
  exact h
end KZX
theorem kz_v3 {w : km_Pr} {a3 : Nat} (h3 : km_ad w (-3) = a3) : km_cv (km_ad w) (.inr (.inr (-3))) = Value.ref a3 := by
  show km_rv (km_ad w) (-3) = _
  unfold km_rv
  rw [if_neg (by decide), h3]
theorem kz_v4 {w : km_Pr} {a4 : Nat} (h4 : km_ad w (-4) = a4) : km_cv (km_ad w) (.inr (.inr (-4))) = Value.ref a4 := by
  show km_rv (km_ad w) (-4) = _
  unfold km_rv
  rw [if_neg (by decide), h4]
theorem kz_Sx {l : Launch} {s0 : State} {a3 d3 a4 d4 : Nat} (w : km_Pr) (hw : km_E2 w = kz_E s0) (hbs : km_bs w = s0.heap.size) (h3 : km_ad w (-3) = a3) (h4 : km_ad w (-4) = a4)
    (r3 : vk_R RX10 68 "score bar pay host or and not if sum max min count land day fare come home branch age means can regret miles times last people mine " a3 s0) (r4 : vk_R RX10 61 ";()+-*/%<=>" a4 s0) (hF : kz_F s0 a3 d3 a4 d4) : km_Sx l w := by
  intro p e R s me args below meth c M c0 s1 Q i n pc pc' ls ls' st st' A A' m m' hd hn h C hRm hc hR K
  have hE := kz_cE hw C
  unfold km_xs9 at h
  split at h
  · next k =>
    have hn2 : n = 2 := hn
    subst hn2
    split at h
    · next x hx =>
      obtain ⟨rfl, rfl, rfl, rfl, rfl⟩ := km_nxe h
      intro H locs lc g1 g2 g3 g4 g5 g6
      have K1 := K H locs lc g1 (km_voc (v := .inr (.inr x)) trivial g2) g3 g4 g5 g6
      rw [List.map_cons] at K1
      unfold km_st at hx
      split at hx
      · next q =>
        obtain ⟨hM, rfl⟩ := q
        cases hx
        rw [kz_v3 h3] at K1
        exact va_ldcS C.1 C.2.1 (own := RX10) (kz_cO C hM) (vk_R.warm hE.1 r3) hd K1
      · split at hx
        · next q =>
          obtain ⟨hM, rfl⟩ := q
          cases hx
          rw [kz_v4 h4] at K1
          exact va_ldcS C.1 C.2.1 (own := RX10) (kz_cO C hM) (vk_R.warm hE.1 r4) hd K1
        · cases hx
    · cases h
  · next k =>
    have hn3 : n = 3 := hn
    subst hn3
    split at h
    · next o ho =>
      obtain ⟨a1, a2⟩ := hRm
      unfold km_sop at h
      split at h
      · next a r =>
        obtain ⟨hM, rfl⟩ := kz_so1 ho
        split at h
        · next q =>
          obtain ⟨q1, q2, rfl⟩ := q
          obtain ⟨rfl, rfl, rfl, rfl, rfl⟩ := km_nxe h
          intro H locs lc g1 g2 g3 g4 g5 g6
          have K1 := K H locs lc g1 (km_voc (v := .inl 132) (by show (-2147483648 : Int) ≤ 132 ∧ (132 : Int) ≤ 2147483647; omega) (km_vos g2).2) g3 g4 g5 g6
          rw [List.map_cons, show km_cv (km_ad w) (.inl 132) = Value.int (nI 132) from rfl] at K1
          rw [List.map_cons, kz_v3 h3]
          exact kz_callV ⟨C.1, C.2.1, C.2.2.1, kz_cO C hM, C.2.2.2.2.1⟩ (kz_length hF.2.2.1 hF.1 (by decide)) 70 (km_in3 158 rfl rfl) (km_in3 159 rfl rfl) (km_in3 160 rfl rfl) (km_in1 16 rfl rfl) (km_in3 161 rfl rfl) ⟨by decide, by decide, by decide +kernel⟩ ⟨by omega, by omega⟩ (kz_cR hw hbs C g5 hF.1.1) (kz_cH hw hbs C g5) g1.2.1.1 (r.map (km_cv (km_ad w))) rfl (by rw [km_cats]; exact q1) hR hd K1
        · cases h
      · next i a r =>
        obtain ⟨hM, rfl⟩ := kz_so2 ho
        split at h
        · next q =>
          obtain ⟨q1, q2, rfl, q3, q4⟩ := q
          obtain ⟨rfl, rfl, rfl, rfl, rfl⟩ := km_nxe h
          obtain ⟨j, rfl⟩ := Int.eq_ofNat_of_zero_le q3
          have hj : j < 132 := by omega
          obtain ⟨v1, v2, v3⟩ := kz_w3 j hj
          intro H locs lc g1 g2 g3 g4 g5 g6
          have K1 := K H locs lc g1 (km_voc (v := .inl (km_wl.getD j 0)) (by show -2147483648 ≤ _ ∧ _; omega) (km_vos (km_vos g2).2).2) g3 g4 g5 g6
          rw [List.map_cons, Int.toNat_natCast, show km_cv (km_ad w) (.inl (km_wl.getD j 0)) = Value.int (kz_b3.getD j 0) from by rw [v1]; rfl] at K1
          rw [List.map_cons, List.map_cons, kz_v3 h3, show km_cv (km_ad w) (.inl (j : Int)) = Value.int (nI j) from by show Value.int (Int32.ofInt (j : Int)) = _; rw [Int32.ofInt_eq_ofNat]; rfl]
          exact kz_callV (As := [.int (nI j)]) ⟨C.1, C.2.1, C.2.2.1, kz_cO C hM, C.2.2.2.2.1⟩ (kz_charAt hF.2.2.1 hF.2.2.2 hF.1 hj) 73 (km_in3 168 rfl rfl) (km_in3 169 rfl rfl) (km_in3 170 rfl rfl) (km_in1 16 rfl rfl) (km_in3 171 rfl rfl) ⟨by decide, by decide, by show Option.map _ _ = some (1 : Nat); decide +kernel⟩ ⟨by omega, by omega⟩ (kz_cR hw hbs C g5 hF.1.1) (kz_cH hw hbs C g5) g1.2.1.1 (r.map (km_cv (km_ad w))) rfl (by rw [km_cats]; exact q1) hR hd K1
        · cases h
      · next i a r =>
        obtain ⟨hM, rfl⟩ := kz_so3 ho
        split at h
        · next q =>
          obtain ⟨q1, q2, rfl, q3, q4⟩ := q
          obtain ⟨rfl, rfl, rfl, rfl, rfl⟩ := km_nxe h
          obtain ⟨j, rfl⟩ := Int.eq_ofNat_of_zero_le q3
          have hj : j < 65536 := by omega
          have hs := kz_sR (j : Int)
          intro H locs lc g1 g2 g3 g4 g5 g6
          have K1 := K H locs lc g1 (km_voc (v := .inl (km_six (j : Int))) (by show -2147483648 ≤ _ ∧ _; omega) (km_vos (km_vos g2).2).2) g3 g4 g5 g6
          rw [List.map_cons, show km_cv (km_ad w) (.inl (km_six (j : Int))) = Value.int (Int32.ofInt (km_six (j : Int))) from rfl] at K1
          rw [List.map_cons, List.map_cons, kz_v4 h4, show km_cv (km_ad w) (.inl (j : Int)) = Value.int (nI j) from by show Value.int (Int32.ofInt (j : Int)) = _; rw [Int32.ofInt_eq_ofNat]; rfl]
          exact kz_callV (As := [.int (nI j)]) ⟨C.1, C.2.1, C.2.2.1, kz_cO C hM, C.2.2.2.2.1⟩ (kz_ix0 hF.2.2.1 hF.2.1 (nI_pos (by omega)) (kz_ixr hj)) 63 (km_in3 219 rfl rfl) (km_in3 220 rfl rfl) (km_in3 221 rfl rfl) (km_in1 16 rfl rfl) (km_in3 222 rfl rfl) ⟨by decide, by decide, by show Option.map _ _ = some (1 : Nat); decide +kernel⟩ ⟨by omega, by omega⟩ (kz_cR hw hbs C g5 hF.2.1.1) (kz_cH hw hbs C g5) g1.2.1.1 (r.map (km_cv (km_ad w))) rfl (by rw [km_cats]; exact q1) hR hd K1
        · cases h
      · cases h
    · cases h
  · cases h
