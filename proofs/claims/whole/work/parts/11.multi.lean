/-! ===== rows of rows, Math, arraycopy ===== -/
section ROWS
variable {p : Program} {l : Launch} {e : Env} {R : Room} {s : State} {me : MethodId} {args : Array Value} {below : List Frame} {meth : Method} {c : Code} {w : km_Pr} {M : km_Md} {c0 s0 : Nat} {Q : State → Prop}
variable {i9 : Instr} {pc nx pc' : Nat} {ls ls' : km_Ls} {st st' : List km_V} {A A' : km_Al} {m m' : km_Mm}
theorem km_mul_kd (n k : Nat) (b : Int) : km_kd (km_mult n k A) b = if b = (A.1 : Int) then 3 else if (A.1 : Int) < b ∧ b ≤ A.1 + n then 0 else km_kd A b := rfl
theorem km_mul_ln (n k : Nat) (b : Int) : km_ln (km_mult n k A) b = if b = (A.1 : Int) then (n : Int) else if (A.1 : Int) < b ∧ b ≤ A.1 + n then (k : Int) else km_ln A b := rfl
theorem km_mul_rf (n k : Nat) (b j : Int) : km_rf (km_mult n k A) b j = if b = (A.1 : Int) then (A.1 : Int) + 1 + j else km_rf A b j := rfl
theorem km_mul_en {n k : Nat} {b : Int} (hb : b < (A.1 : Int)) : km_en w (km_mult n k A) (km_zeros n A m) b = km_en w A m b := by
  have q1 : ¬ b = (A.1 : Int) := by omega
  have q2 : ¬ ((A.1 : Int) < b ∧ b ≤ A.1 + n) := by omega
  have q3 : ¬ ((A.1 : Int) ≤ b ∧ b ≤ A.1 + n) := by omega
  have e1 : km_kd (km_mult n k A) b = km_kd A b := by rw [km_mul_kd]; rw [if_neg q1, if_neg q2]
  have e2 : km_ln (km_mult n k A) b = km_ln A b := by rw [km_mul_ln]; rw [if_neg q1, if_neg q2]
  have e3 : ∀ j : Int, km_rf (km_mult n k A) b j = km_rf A b j := fun j => by rw [km_mul_rf]; rw [if_neg q1]
  have e4 : ∀ j : Int, km_zeros n A m b j = m b j := fun j => by unfold km_zeros; rw [if_neg q3]
  unfold km_en km_fs
  simp only [e1, e2, e3, e4]
theorem km_mul_out {n k : Nat} : km_en w (km_mult n k A) (km_zeros n A m) (A.1 : Int) = .inl (km_dA w 3, n, .inr (.inr (.inr (.inr (fun j => some (km_ad w ((A.1 : Int) + 1 + j))))))) := by
  have e1 : km_kd (km_mult n k A) (A.1 : Int) = 3 := by rw [km_mul_kd]; rw [if_pos rfl]
  have e2 : km_ln (km_mult n k A) (A.1 : Int) = n := by rw [km_mul_ln]; rw [if_pos rfl]
  have e3 : ∀ j : Int, km_rf (km_mult n k A) (A.1 : Int) j = A.1 + 1 + j := fun j => by rw [km_mul_rf]; rw [if_pos rfl]
  rw [km_en_3 e1, e2, Int.toNat_natCast]
  congr 7
  funext j
  rw [e3, if_neg (by omega)]
theorem km_mul_in {n k j : Nat} (hj : j < n) : km_en w (km_mult n k A) (km_zeros n A m) ((A.1 + 1 + j : Nat) : Int) = .inl (km_dA w 0, k, .inl (fun _ => 0)) := by
  have q1 : ¬ ((A.1 + 1 + j : Nat) : Int) = (A.1 : Int) := by omega
  have q2 : ((A.1 : Int) < ((A.1 + 1 + j : Nat) : Int) ∧ ((A.1 + 1 + j : Nat) : Int) ≤ A.1 + n) := by omega
  have q3 : ((A.1 : Int) ≤ ((A.1 + 1 + j : Nat) : Int) ∧ ((A.1 + 1 + j : Nat) : Int) ≤ A.1 + n) := by omega
  have e1 : km_kd (km_mult n k A) ((A.1 + 1 + j : Nat) : Int) = 0 := by rw [km_mul_kd]; rw [if_neg q1, if_pos q2]
  have e2 : km_ln (km_mult n k A) ((A.1 + 1 + j : Nat) : Int) = k := by rw [km_mul_ln]; rw [if_neg q1, if_pos q2]
  have e4 : ∀ i : Int, km_zeros n A m ((A.1 + 1 + j : Nat) : Int) i = 0 := fun i => by unfold km_zeros; rw [if_pos q3]
  rw [km_en_0 e1, e2, Int.toNat_natCast]
  simp only [e4]
  rfl
theorem km_mul_wd {n k : Nat} (hg : km_gd w) : km_wd w (km_mult n k A) (km_zeros n A m) = km_wd w A m ++ ([((km_bs w + A.1 : Nat), (.inl (km_dA w 3, n, .inr (.inr (.inr (.inr (fun j => some (km_ad w ((A.1 : Int) + 1 + j))))))) : va_E))] ++ (List.range n).map (fun j => (km_bs w + A.1 + 1 + j, (.inl (km_dA w 0, k, .inl (fun _ => 0)) : va_E)))) := by
  unfold km_wd
  rw [show (km_mult n k A).1 = A.1 + (1 + n) by show A.1 + 1 + n = _; omega, List.range_add, List.map_append]
  congr 1
  · apply List.map_congr_left
    intro j hj
    rw [km_mul_en (by have := List.mem_range.mp hj; omega)]
  · rw [Nat.add_comm 1 n, List.range_succ_eq_map, List.map_cons, List.map_cons, List.map_map, List.map_map, List.singleton_append]
    congr 1
    · show (km_ad w ((A.1 : Nat) : Int), _) = _
      rw [hg.1 _ (by omega), Int.toNat_natCast]
      show (_, km_en w _ _ ((A.1 : Nat) : Int)) = _
      rw [km_mul_out]
    · apply List.map_congr_left
      intro j hj
      have hj2 := List.mem_range.mp hj
      show (km_ad w ((A.1 + (j + 1) : Nat) : Int), km_en w _ _ ((A.1 + (j + 1) : Nat) : Int)) = _
      rw [show A.1 + (j + 1) = A.1 + 1 + j by omega, km_mul_in hj2, hg.1 _ (by omega), Int.toNat_natCast, show km_bs w + (A.1 + 1 + j) = km_bs w + A.1 + 1 + j by omega]
theorem km_mul_Rg {n k : Nat} (h : km_Rg w A m) (hn : n ≤ 100000) (hk : k ≤ 100000) : km_Rg w (km_mult n k A) (km_zeros n A m) := by
  refine ⟨fun a i => ?_, fun a => ?_, ?_, fun j hj => ?_⟩
  · by_cases ha : (A.1 : Int) ≤ a ∧ a ≤ A.1 + n
    · have e : km_zeros n A m a i = 0 := by unfold km_zeros; rw [if_pos ha]
      rw [e]
      omega
    · have q1 : ¬ a = (A.1 : Int) := by omega
      have q2 : ¬ ((A.1 : Int) < a ∧ a ≤ A.1 + n) := by omega
      have e1 : km_kd (km_mult n k A) a = km_kd A a := by rw [km_mul_kd]; rw [if_neg q1, if_neg q2]
      have e2 : km_ty (km_mult n k A) a i = km_ty A a i := by unfold km_ty; rw [e1]
      have e : km_zeros n A m a i = m a i := by unfold km_zeros; rw [if_neg ha]
      rw [e, e2]
      exact h.1 a i
  · show 0 ≤ (if a = (A.1 : Int) then (n : Int) else if (A.1 : Int) < a ∧ a ≤ A.1 + n then (k : Int) else A.2.2.1 a) ∧ (if a = (A.1 : Int) then (n : Int) else if (A.1 : Int) < a ∧ a ≤ A.1 + n then (k : Int) else A.2.2.1 a) ≤ 100000
    split
    · omega
    · split
      · omega
      · exact h.2.1 a
  · have q1 : ¬ (-2 : Int) = (A.1 : Int) := by omega
    have q2 : ¬ ((A.1 : Int) < -2 ∧ (-2 : Int) ≤ A.1 + n) := by omega
    have e2 : km_ln (km_mult n k A) (-2) = km_ln A (-2) := by rw [km_mul_ln]; rw [if_neg q1, if_neg q2]
    rw [e2]
    exact h.2.2.1
  · have q3 : ¬ ((A.1 : Int) ≤ -2 ∧ (-2 : Int) ≤ A.1 + n) := by omega
    have e : km_zeros n A m (-2) (j : Int) = m (-2) (j : Int) := by unfold km_zeros; rw [if_neg q3]
    rw [e]
    exact h.2.2.2 j hj
theorem km_arrV_cong {cA : ClassId} {N : Nat} {f g : Nat → Value} (h : ∀ j, j < N → f j = g j) : arrV cA N f = arrV cA N g := by
  unfold arrV
  congr 1
  apply Array.ext
  · simp
  · intro i h1 h2
    simp only [Array.getElem_ofFn]
    exact h i (by simpa using h1)
theorem km_r_newm {k9 : Nat} (hover : (Cond.arrayOver (.array .int)).before args s = true) (hcl : Cond.classLink (km_cn M.2.1) k9 "[[I" ∈ km_gw) (C : km_Cx p s me args meth c w M) (d : decode M.1 pc = .ok (.multianewarray k9 2, 4)) (h : km_newm (pc + 4) ls st A m = some (.inl (pc', ls', st', A', m'))) (hc : c0 ≤ A.2.2.2.2.1 ∧ s0 ≤ A.2.2.2.2.2) (hR : A'.2.2.2.2.1 - c0 ≤ R.cells ∧ A'.2.2.2.2.2 - s0 ≤ R.slots)
    (K : km_W p l e R s me args below meth c w M c0 s0 Q pc' ls' st' A' m') : km_W p l e R s me args below meth c w M c0 s0 Q pc ls st A m := by
  unfold km_newm at h
  split at h
  · next k n r =>
    split at h
    · next hN =>
      obtain ⟨n0, n1, k0, k1, hN⟩ := hN
      obtain ⟨rfl, rfl, rfl, rfl, rfl⟩ := km_nxe h
      have hg := C.2.2.2.2.2.2.2.2.2.1
      have hts := C.2.2.2.2.1
      have hK := C.2.2.2.2.2.2.2.1
      intro H locs lc h1 h2 h3 h4 h5 h6 T hT X
      obtain ⟨v1, v2⟩ := km_vos h2
      obtain ⟨v3, v4⟩ := km_vos v2
      have hz := h6 hN
      have hcn : (Int32.ofInt n).toNatClampNeg = n.toNat := km_clamp n0 (by omega)
      have hck : (Int32.ofInt k).toNatClampNeg = k.toNat := km_clamp k0 (by omega)
      have hnn : ¬ Int32.ofInt n < 0 := by
        rw [Int32.lt_iff_toInt_lt, km_i32 v3, Int32.toInt_zero]
        omega
      have hnk : ¬ Int32.ofInt k < 0 := by
        rw [Int32.lt_iff_toInt_lt, km_i32 v1, Int32.toInt_zero]
        omega
      have c1 : A.2.2.2.2.1 - c0 + (1 + n.toNat) = (km_mult n.toNat k.toNat A).2.2.2.2.1 - c0 := by
        show _ = A.2.2.2.2.1 + (1 + n.toNat) - c0
        omega
      have c2 : A.2.2.2.2.2 - s0 + (n.toNat + n.toNat * k.toNat) = (km_mult n.toNat k.toNat A).2.2.2.2.2 - s0 := by
        show _ = A.2.2.2.2.2 + (n.toNat + n.toNat * k.toNat) - s0
        generalize n.toNat * k.toNat = z
        omega
      obtain ⟨vm₁, cA, comp, L9, fA, fC, hL9, X', step⟩ := kw_newm X C.1 C.2.2.2.1 (hts _ hcl) hover (hts _ km_acI) (g := F0 me pc lc (.int (Int32.ofInt k) :: .int (Int32.ofInt n) :: r.map (km_cv (km_ad w)))) rfl (by rw [C.2.1]; exact d) rfl hnn hnk hcn hck (by omega) (by omega) (by rw [c1]; exact hR.1) (by rw [c2]; exact hR.2)
      have ecA : cA = km_dA w 3 := Option.some.inj (fA.symm.trans (hK.2 3 _ rfl).2)
      have ecI : comp = km_dA w 0 := Option.some.inj (fC.symm.trans (hK.2 0 _ rfl).2)
      subst ecA
      subst ecI
      generalize hF : kw_fil (T.setVm vm₁) (km_dA w 3) (km_dA w 0) n.toNat k.toNat n.toNat = F at X' step
      have hTh : (T.setVm vm₁).heap = H := hT
      obtain ⟨⟨f1, f2⟩, -, hold, f6⟩ := kw_fil_at (T.setVm vm₁) (km_dA w 3) (km_dA w 0) n.toNat k.toNat n.toNat
      rw [hF, hTh] at f1 f2 hold f6
      have hrow : ∀ j : Nat, j < n.toNat → F.heap[H.size + 1 + j]? = some (vp_cell (km_dA w 0) (k.toNat, .inl (fun _ => 0))) := fun j hj => by
        rw [f6 j hj, vp_cell_i]
        rfl
      have hout : F.heap[H.size]? = some (vp_cell (km_dA w 3) (n.toNat, .inr (.inr (.inr (.inr (fun j => some (km_ad w ((A.1 : Int) + 1 + j)))))))) := by
        rw [f2, vp_cell_q]
        unfold kw_out
        congr 1
        apply km_arrV_cong
        intro j hj
        have e : km_bs w + ((A.1 : Int) + 1 + (j : Int)).toNat = H.size + 1 + j := by
          rw [hz]
          omega
        rw [if_pos hj, hg.1 _ (by omega), e]
      have hP1 : km_P w (km_mult n.toNat k.toNat A) (km_zeros n.toNat A m) F.heap := by
        unfold km_P
        rw [km_mul_wd hg]
        refine va_P.app (h4.kept (fun k9 x hx => hold x.1 ((h4 k9 x hx).lt))) (va_P.app (fun k9 x hx => ?_) (fun k9 x hx => ?_))
        · have h0 : k9 < 1 := (List.getElem?_eq_some_iff.mp hx).1
          rw [show k9 = 0 by omega] at hx
          cases hx
          show F.heap[_]? = some _
          rw [← hz]
          exact hout
        · obtain ⟨j, hj, rfl⟩ := List.mem_map.mp (List.mem_of_getElem? hx)
          show F.heap[_]? = some _
          rw [← hz]
          exact hrow j (List.mem_range.mp hj)
      have hS8 := km_new_S h5 (by rw [f1]; omega) hold
      have hS9 : va_S (km_A w) s.heap F.heap (locs ++ L9) := ⟨hS8.1, hS8.2.1, fun z hz8 => by
        rcases List.mem_append.mp hz8 with hz8 | hz8
        · exact hS8.2.2 z hz8
        · rw [hL9 z hz8]
          show km_bs w ≤ T.heap.size
          rw [hT, hz]
          exact Nat.le_add_right _ _⟩
      have K1 := K F.heap (locs ++ L9) lc h1 (km_voc (v := .inr (.inr (A.1 : Int))) trivial v4) (km_mul_Rg h3 (by omega) (by omega)) hP1 hS9 (fun _ => by rw [f1, hz]; show _ = km_bs w + (A.1 + 1 + n.toNat); omega)
      rw [List.map_cons, km_rvne (by omega), hg.1 _ (by omega), Int.toNat_natCast, ← hz] at K1
      have X2 : Stand p l e R s me args below meth c F (locs ++ L9) ((km_mult n.toNat k.toNat A).2.2.2.2.1 - c0) ((km_mult n.toNat k.toNat A).2.2.2.2.2 - s0) := by
        rw [← c1, ← c2]
        exact X'
      obtain ⟨t, a1, b1⟩ := K1 F rfl X2
      refine ⟨t, step t ?_, b1⟩
      have e9 : T.heap.size = H.size := by rw [hT]
      rw [e9]
      exact a1
    · cases h
  · cases h
/-- the room that a method of depth dep has at least -/
def km_Rm (R : Room) (M : km_Md) : Prop := M.2.2.2.2.2.1 ≤ R.frames ∧ 40 * M.2.2.2.2.2.1 ≤ R.locals
theorem km_r_op {k o : Nat} (C : km_Cx p s me args meth c w M) (hRm : km_Rm R M) (d : decode M.1 pc = .ok (.invokestatic k, 3)) (ho : km_op M.2.1 k = some o) (h : km_mop o M.2.2.2.2.2.1 (pc + 3) ls st A m = some (.inl (pc', ls', st', A', m'))) (hR : A'.2.2.2.2.1 - c0 ≤ R.cells ∧ A'.2.2.2.2.2 - s0 ≤ R.slots)
    (K : km_W p l e R s me args below meth c w M c0 s0 Q pc' ls' st' A' m') : km_W p l e R s me args below meth c w M c0 s0 Q pc ls st A m := by
  have hl := km_lp_all M.2.1 _ (km_find ho)
  have hts := C.2.2.2.2.1
  have hini := hts _ km_ini15
  have hini2 := hts _ km_ini17
  unfold km_lp km_opName at hl
  dsimp only at hl
  unfold km_mop at h
  have hsz : ∀ lc : Array Slot, km_lm (km_ad w) M.2.2.2.1 ls lc → c.maxLocals = lc.size := fun lc h1 => by rw [C.2.2.1]; exact h1.2.1.1.symm
  split at h
  · split at h
    · next y x r hg =>
      obtain ⟨rfl, rfl, rfl, rfl, rfl⟩ := km_nxe h
      obtain ⟨g1, g2⟩ := hg
      obtain ⟨a1, a2⟩ := hRm
      intro H locs lc h1 h2 h3 h4 h5 h6
      obtain ⟨v1, v2⟩ := km_vos h2
      obtain ⟨v3, v4⟩ := km_vos v2
      refine va_mmax C.1 C.2.1 (hsz lc h1) C.2.2.2.1 (hts _ hl) (hts _ km_opS1) hini (hts _ km_opC1) (by omega) (by rw [km_cats]; omega) hR.1 hR.2 d ?_
      have K1 := K H locs lc h1 (km_voc (v := .inl (if x < y then y else x)) (by split; exact v1; exact v3) v4) h3 h4 h5 h6
      have e : (if Int32.ofInt x < Int32.ofInt y then Int32.ofInt y else Int32.ofInt x) = Int32.ofInt (if x < y then y else x) := by
        by_cases z : x < y
        · rw [if_pos z, if_pos ((km_lt32 v3 v1).mpr z)]
        · rw [if_neg z, if_neg (fun q => z ((km_lt32 v3 v1).mp q))]
      rw [e]
      exact K1
    · cases h
  · split at h
    · next y x r hg =>
      obtain ⟨rfl, rfl, rfl, rfl, rfl⟩ := km_nxe h
      obtain ⟨g1, g2⟩ := hg
      obtain ⟨a1, a2⟩ := hRm
      intro H locs lc h1 h2 h3 h4 h5 h6
      obtain ⟨v1, v2⟩ := km_vos h2
      obtain ⟨v3, v4⟩ := km_vos v2
      refine va_mmin C.1 C.2.1 (hsz lc h1) C.2.2.2.1 (hts _ hl) (hts _ km_opS2) hini (hts _ km_opC2) (by omega) (by rw [km_cats]; omega) hR.1 hR.2 d ?_
      have K1 := K H locs lc h1 (km_voc (v := .inl (if y < x then y else x)) (by split; exact v1; exact v3) v4) h3 h4 h5 h6
      have e : (if Int32.ofInt y < Int32.ofInt x then Int32.ofInt y else Int32.ofInt x) = Int32.ofInt (if y < x then y else x) := by
        by_cases z : y < x
        · rw [if_pos z, if_pos ((km_lt32 v1 v3).mpr z)]
        · rw [if_neg z, if_neg (fun q => z ((km_lt32 v1 v3).mp q))]
      rw [e]
      exact K1
    · cases h
  · split at h
    · next y x r hg =>
      obtain ⟨rfl, rfl, rfl, rfl, rfl⟩ := km_nxe h
      obtain ⟨g1, g2⟩ := hg
      obtain ⟨a1, a2⟩ := hRm
      intro H locs lc h1 h2 h3 h4 h5 h6
      obtain ⟨v1, v2⟩ := km_vos h2
      obtain ⟨v3, v4⟩ := km_vos v2
      refine va_mmax_long C.1 C.2.1 (hsz lc h1) C.2.2.2.1 (hts _ hl) (hts _ km_opS3) hini (hts _ km_opC3) (by omega) (by rw [km_cats]; omega) hR.1 hR.2 d ?_
      have K1 := K H locs lc h1 (km_voc (v := .inr (.inl (if y < x then x else y))) (by split; exact v3; exact v1) v4) h3 h4 h5 h6
      have e : (if Int64.ofInt y < Int64.ofInt x then Int64.ofInt x else Int64.ofInt y) = Int64.ofInt (if y < x then x else y) := by
        by_cases z : y < x
        · rw [if_pos z, if_pos ((km_lt64 v1 v3).mpr z)]
        · rw [if_neg z, if_neg (fun q => z ((km_lt64 v1 v3).mp q))]
      rw [e]
      exact K1
    · cases h
  · split at h
    · next y x r hg =>
      obtain ⟨rfl, rfl, rfl, rfl, rfl⟩ := km_nxe h
      obtain ⟨g1, g2⟩ := hg
      obtain ⟨a1, a2⟩ := hRm
      intro H locs lc h1 h2 h3 h4 h5 h6
      obtain ⟨v1, v2⟩ := km_vos h2
      obtain ⟨v3, v4⟩ := km_vos v2
      refine va_mmin_long C.1 C.2.1 (hsz lc h1) C.2.2.2.1 (hts _ hl) (hts _ km_opS4) hini (hts _ km_opC4) (by omega) (by rw [km_cats]; omega) hR.1 hR.2 d ?_
      have K1 := K H locs lc h1 (km_voc (v := .inr (.inl (if y < x then y else x))) (by split; exact v1; exact v3) v4) h3 h4 h5 h6
      have e : (if Int64.ofInt y < Int64.ofInt x then Int64.ofInt y else Int64.ofInt x) = Int64.ofInt (if y < x then y else x) := by
        by_cases z : y < x
        · rw [if_pos z, if_pos ((km_lt64 v1 v3).mpr z)]
        · rw [if_neg z, if_neg (fun q => z ((km_lt64 v1 v3).mp q))]
      rw [e]
      exact K1
    · cases h
  · split at h
    · next x r hg =>
      obtain ⟨rfl, rfl, rfl, rfl, rfl⟩ := km_nxe h
      obtain ⟨g1, g2, g3⟩ := hg
      obtain ⟨a1, a2⟩ := hRm
      intro H locs lc h1 h2 h3 h4 h5 h6
      obtain ⟨v1, v2⟩ := km_vos h2
      have v1' : -9223372036854775808 ≤ x ∧ x ≤ 9223372036854775807 := v1
      refine va_mabs_long C.1 C.2.1 (hsz lc h1) C.2.2.2.1 (hts _ hl) (hts _ km_opS5) hini (hts _ km_opC5) (by omega) (by rw [km_cats]; omega) hR.1 hR.2 d ?_
      have K1 := K H locs lc h1 (km_voc (v := .inr (.inl (if 0 < x then x else -x))) (by split; exact v1; exact (by constructor <;> omega : -9223372036854775808 ≤ -x ∧ -x ≤ 9223372036854775807)) v2) h3 h4 h5 h6
      have e : (if 0 < Int64.ofInt x then Int64.ofInt x else -Int64.ofInt x) = Int64.ofInt (if 0 < x then x else -x) := by
        have kz : (0 : Int64) < Int64.ofInt x ↔ 0 < x := km_lt64 (x := 0) (by omega) v1
        by_cases z : 0 < x
        · rw [if_pos z, if_pos (kz.mpr z)]
        · rw [if_neg z, if_neg (fun q => z (kz.mp q)), Int64.ofInt_neg]
      rw [e]
      exact K1
    · cases h
  · split at h
    · next n j b i a r hg =>
      obtain ⟨rfl, rfl, rfl, rfl, rfl⟩ := km_nxe h
      obtain ⟨g1, g2, g3, g4, g5, g6, g7, g8, g9, g10, g11, g12, g13⟩ := hg
      obtain ⟨a1, a2⟩ := hRm
      intro H locs lc h1 h2 h3 h4 h5 h6
      obtain ⟨v1, v2⟩ := km_vos h2
      obtain ⟨v3, v4⟩ := km_vos v2
      obtain ⟨-, v5⟩ := km_vos v4
      obtain ⟨v6, v7⟩ := km_vos v5
      obtain ⟨-, v8⟩ := km_vos v7
      have hg := C.2.2.2.2.2.2.2.2.2.1
      have hK := C.2.2.2.2.2.2.2.1
      have la := h3.2.1 a
      have lb := h3.2.1 b
      have ci : (Int32.ofInt i).toNatClampNeg = i.toNat := km_clamp g9 (by omega)
      have cj : (Int32.ofInt j).toNatClampNeg = j.toNat := km_clamp g10 (by omega)
      have cn : (Int32.ofInt n).toNatClampNeg = n.toNat := km_clamp g11 (by omega)
      have ng : ∀ z : Int, 0 ≤ z → (-2147483648 ≤ z ∧ z ≤ 2147483647) → ¬ Int32.ofInt z < 0 := fun z z0 z1 => by
        rw [Int32.lt_iff_toInt_lt, km_i32 z1, Int32.toInt_zero]
        omega
      simp only [List.map_cons]
      rw [km_rvne (x := a) (by omega), km_rvne (x := b) (by omega)]
      have tI : ∀ z : Int, 0 ≤ z → (-2147483648 ≤ z ∧ z ≤ 2147483647) → (Int32.ofInt z).toInt = z := fun z _ z1 => km_i32 z1
      have he0 : H[km_ad w a]? = some (vp_cell (km_dA w 0) ((km_ln A a).toNat, .inl (fun q => Int32.ofInt (m a q)))) := h4 a.toNat _ (km_wd_at' w A m g3 g4 (km_en_0 g5))
      have he1 : H[km_ad w b]? = some (vp_cell (km_dA w 0) ((km_ln A b).toNat, .inl (fun q => Int32.ofInt (m b q)))) := h4 b.toNat _ (km_wd_at' w A m g6 g7 (km_en_0 g8))
      obtain ⟨-, k1, hk1, cm1, hkk1⟩ := (hK.2 0 _ rfl).1 (km_ln A b).toNat (fun q => .int (Int32.ofInt (m b q)))
      obtain ⟨-, k0, hk0, cm0, hkk0⟩ := (hK.2 0 _ rfl).1 (km_ln A a).toNat (fun q => .int (Int32.ofInt (m a q)))
      intro T hT X
      obtain ⟨vm', X', step⟩ := X.arraycopy C.1 C.2.2.2.1 (hts _ hl) (hts _ km_opN) (hts _ km_opS6) hini2 (src := km_ad w a) (dst := km_ad w b) (cs := vp_cell (km_dA w 0) ((km_ln A a).toNat, .inl (fun q => Int32.ofInt (m a q)))) (cd := vp_cell (km_dA w 0) ((km_ln A b).toNat, .inl (fun q => Int32.ofInt (m b q)))) (srcPos := Int32.ofInt i) (destPos := Int32.ofInt j) (n := Int32.ofInt n) (by rw [hT]; exact he0) (by rw [hT]; exact he1)
        (fun _ h => by cases h) (fun _ h => by cases h) (fun h => by cases h) (fun h => by cases h) hk0 hk1 hkk0 hkk1 (by simp [refKind]) (ng i g9 v6) (ng j g10 v3) (ng n g11 v1)
        (by rw [km_i32 v6, km_i32 v1]; show ¬ _ > ((arrV _ _ _).slots.size : Int); rw [arrV_size]; omega)
        (by rw [km_i32 v3, km_i32 v1]; show ¬ _ > ((arrV _ _ _).slots.size : Int); rw [arrV_size]; omega)
        (fun vm₁ _ q hq => by
          have e : (vp_cell (km_dA w 0) ((km_ln A a).toNat, .inl (fun q => Int32.ofInt (m a q)))).slots.getD ((Int32.ofInt i).toNatClampNeg + q) .null = .int (Int32.ofInt (m a ((Int32.ofInt i).toNatClampNeg + q : Nat))) := by
            show (arrV _ _ _).slots.getD _ _ = _
            rw [cn] at hq
            rw [ci, Array.getD_eq_getD_getElem?, arrV_read _ _ (by omega)]
            rfl
          refine ⟨?_, ?_⟩
          · rw [e]
            rfl
          · rw [e]
            exact trivial)
        (g := F0 me pc lc (.int (Int32.ofInt n) :: .int (Int32.ofInt j) :: .ref (km_ad w b) :: .int (Int32.ofInt i) :: .ref (km_ad w a) :: r.map (km_cv (km_ad w)))) rfl (hsz lc h1).symm (rest := r.map (km_cv (km_ad w))) rfl (by rw [C.2.1]; exact d) (by omega) (by rw [km_cats]; show 2 * 0 + _ + (5 + 2 + 11) ≤ _; omega)
      have ef : (fun q : Nat => Value.int (va_cpy (fun q : Nat => Int32.ofInt (m a q)) (fun q : Nat => Int32.ofInt (m b q)) i.toNat j.toNat n.toNat q)) = (fun q : Nat => Value.int (Int32.ofInt (if b = b ∧ j ≤ (q : Int) ∧ (q : Int) < j + n then m a ((q : Int) - j + i) else m b q))) := by
        funext q
        unfold va_cpy
        by_cases z : j ≤ (q : Int) ∧ (q : Int) < j + n
        · rw [if_pos (by omega), if_pos ⟨rfl, z⟩]
          dsimp only
          rw [show ((i.toNat + (q - j.toNat) : Nat) : Int) = (q : Int) - j + i by omega]
        · rw [if_neg (by omega), if_neg (fun y => z y.2)]
      have e1 : copied (vp_cell (km_dA w 0) ((km_ln A a).toNat, .inl (fun q => Int32.ofInt (m a q)))) (vp_cell (km_dA w 0) ((km_ln A b).toNat, .inl (fun q => Int32.ofInt (m b q)))) (Int32.ofInt i) (Int32.ofInt j) (Int32.ofInt n) = vp_cell (km_dA w 0) ((km_ln A b).toNat, .inl (fun q : Nat => Int32.ofInt (if b = b ∧ j ≤ (q : Int) ∧ (q : Int) < j + n then m a ((q : Int) - j + i) else m b q))) := by
        rw [vp_cell_i (n := (km_ln A b).toNat), vp_cell_i (n := (km_ln A b).toNat), ← ef, ← ci, ← cj, ← cn]
        exact va_copied (fun z => .int z) _ _ _ _ (by rw [ci, cn]; omega)
      rw [e1] at X' step
      have hll : km_ad w b < H.size := (Array.getElem?_eq_some_iff.mp he1).1
      obtain ⟨NC, hNC⟩ : ∃ z, z = vp_cell (km_dA w 0) ((km_ln A b).toNat, .inl (fun q : Nat => Int32.ofInt (if b = b ∧ j ≤ (q : Int) ∧ (q : Int) < j + n then m a ((q : Int) - j + i) else m b q))) := ⟨_, rfl⟩
      rw [← hNC] at X' step
      have hheap : ((T.setVm vm').setCell (km_ad w b) NC).heap = H.setIfInBounds (km_ad w b) NC := by rw [← hT]; rfl
      have oq : ∀ q : Nat, q ≠ km_ad w b → (H.setIfInBounds (km_ad w b) NC)[q]? = H[q]? := fun q hq => by simp [Array.getElem?_setIfInBounds, Ne.symm hq]
      have hself : (H.setIfInBounds (km_ad w b) NC)[km_ad w b]? = some NC := by simp [Array.getElem?_setIfInBounds, hll]
      have hA9 : km_A w (km_ad w b) := by
        have := hg.1 b g6
        show km_bs w ≤ km_ad w b
        omega
      have eno : ∀ c9 : Int, c9 ≠ b → km_en w A (fun c k => if c = b ∧ j ≤ k ∧ k < j + n then m a (k - j + i) else m c k) c9 = km_en w A m c9 := by
        intro c9 hc9
        have e : ∀ k : Int, (if c9 = b ∧ j ≤ k ∧ k < j + n then m a (k - j + i) else m c9 k) = m c9 k := fun k => if_neg (fun y => hc9 y.1)
        unfold km_en km_fs
        simp only [e]
      have hPn : km_P w A (fun c k => if c = b ∧ j ≤ k ∧ k < j + n then m a (k - j + i) else m c k) (H.setIfInBounds (km_ad w b) NC) := by
        have h := h4.set (km_wd_D hg A m) (km_wd_at' w A m g6 g7 (km_en_0 g8)) (e := .inl (km_dA w 0, (km_ln A b).toNat, .inl (fun q : Nat => Int32.ofInt (if b = b ∧ j ≤ (q : Int) ∧ (q : Int) < j + n then m a ((q : Int) - j + i) else m b q)))) (by show (H.setIfInBounds (km_ad w b) NC)[km_ad w b]? = some _; rw [hself, hNC]) oq
        rw [km_wd_set w A A m (fun c k => if c = b ∧ j ≤ k ∧ k < j + n then m a (k - j + i) else m c k) g6 g7 rfl (km_en_0 g8) eno] at h
        exact h
      have hRn : km_Rg w A (fun c k => if c = b ∧ j ≤ k ∧ k < j + n then m a (k - j + i) else m c k) := by
        refine ⟨fun c9 k9 => ?_, h3.2.1, h3.2.2.1, fun q hq => ?_⟩
        · by_cases z : c9 = b ∧ j ≤ k9 ∧ k9 < j + n
          · dsimp only
            rw [if_pos z]
            refine ⟨fun y => absurd y (by rw [z.1]; exact km_tyO g8 (by omega) (by omega)), fun _ => ?_⟩
            exact (h3.1 a (k9 - j + i)).2 (km_tyO g5 (by omega) (by omega))
          · dsimp only
            rw [if_neg z]
            exact h3.1 c9 k9
        · dsimp only
          rw [if_neg (by omega)]
          exact h3.2.2.2 q hq
      have hSn : ∀ LL : List Loc, (∀ z ∈ LL, z.base = km_ad w b) → va_S (km_A w) s.heap (H.setIfInBounds (km_ad w b) NC) (locs ++ LL) := by
        intro LL hLL
        refine ⟨by simp; exact h5.1, fun q q1 q2 => ?_, fun q hq => ?_⟩
        · rw [oq q (fun e => q2 (by rw [e]; exact hA9))]
          exact h5.2.1 q q1 q2
        · rcases List.mem_append.mp hq with h | h
          · exact h5.2.2 q h
          · rw [hLL q h]
            exact hA9
      obtain ⟨t, b1, b2⟩ := K _ _ lc h1 v8 hRn hPn (hSn _ (fun q hq => by obtain ⟨z, -, hz⟩ := List.mem_map.mp hq; rw [← hz])) (fun q => by rw [Array.size_setIfInBounds]; exact h6 q) _ hheap X'
      exact ⟨t, step t b1, b2⟩
    · cases h
  · cases h
end ROWS
