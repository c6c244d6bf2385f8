/-! ===== arithmetic, jumps, new cells ===== -/
theorem km_inj32 {x y : Int} (hx : -2147483648 ≤ x ∧ x ≤ 2147483647) (hy : -2147483648 ≤ y ∧ y ≤ 2147483647) : Int32.ofInt x = Int32.ofInt y ↔ x = y := by
  rw [← Int32.toInt_inj, km_i32 hx, km_i32 hy]
theorem km_lt32 {x y : Int} (hx : -2147483648 ≤ x ∧ x ≤ 2147483647) (hy : -2147483648 ≤ y ∧ y ≤ 2147483647) : Int32.ofInt x < Int32.ofInt y ↔ x < y := by
  rw [Int32.lt_iff_toInt_lt, km_i32 hx, km_i32 hy]
theorem km_le32 {x y : Int} (hx : -2147483648 ≤ x ∧ x ≤ 2147483647) (hy : -2147483648 ≤ y ∧ y ≤ 2147483647) : Int32.ofInt x ≤ Int32.ofInt y ↔ x ≤ y := by
  rw [Int32.le_iff_toInt_le, km_i32 hx, km_i32 hy]
theorem km_inj64 {x y : Int} (hx : -9223372036854775808 ≤ x ∧ x ≤ 9223372036854775807) (hy : -9223372036854775808 ≤ y ∧ y ≤ 9223372036854775807) : Int64.ofInt x = Int64.ofInt y ↔ x = y := by
  rw [← Int64.toInt_inj, km_i64 hx, km_i64 hy]
theorem km_lt64 {x y : Int} (hx : -9223372036854775808 ≤ x ∧ x ≤ 9223372036854775807) (hy : -9223372036854775808 ≤ y ∧ y ≤ 9223372036854775807) : Int64.ofInt x < Int64.ofInt y ↔ x < y := by
  rw [Int64.lt_iff_toInt_lt, km_i64 hx, km_i64 hy]
theorem km_zero32 : (0 : Int32) = Int32.ofInt 0 := rfl
theorem km_lcmpE {x y : Int} (hx : -9223372036854775808 ≤ x ∧ x ≤ 9223372036854775807) (hy : -9223372036854775808 ≤ y ∧ y ≤ 9223372036854775807) : lg_cmp (Int64.ofInt x) (Int64.ofInt y) = Int32.ofInt (km_lcmp x y) := by
  unfold lg_cmp km_lcmp
  by_cases h1 : y < x
  · rw [if_pos ((km_lt64 hy hx).mpr h1), if_neg (by omega), if_neg (by omega)]; rfl
  · rw [if_neg (fun q => h1 ((km_lt64 hy hx).mp q))]
    by_cases h2 : x = y
    · rw [if_pos ((km_inj64 hx hy).mpr h2), if_neg (by omega), if_pos h2]; rfl
    · rw [if_neg (fun q => h2 ((km_inj64 hx hy).mp q)), if_pos (by omega)]; rfl
theorem km_char {x : Int} (h0 : 0 ≤ x) (h1 : x < 65536) : ((Int32.ofInt x).toUInt32 % 65536).toInt32 = Int32.ofInt x := by
  obtain ⟨n, rfl⟩ := Int.eq_ofNat_of_zero_le h0
  have e : Int32.ofInt (n : Int) = nI n := rfl
  rw [e, pk_char, pk_tn (by omega), Nat.mod_eq_of_lt (by omega)]
theorem km_rem32 {x y : Int} (hx : -2147483648 ≤ x ∧ x ≤ 2147483647) (hy : -2147483648 ≤ y ∧ y ≤ 2147483647) : Int32.ofInt x - Int32.ofInt x / Int32.ofInt y * Int32.ofInt y = Int32.ofInt (x.tmod y) := by
  rw [← Int32.ofInt_tdiv hx.1 hx.2 hy.1 hy.2, ← Int32.ofInt_mul, ← Int32.ofInt_sub, Int.tmod_def, Int.mul_comm]
theorem km_rem64 {x y : Int} (hx : -9223372036854775808 ≤ x ∧ x ≤ 9223372036854775807) (hy : -9223372036854775808 ≤ y ∧ y ≤ 9223372036854775807) : Int64.ofInt x - Int64.ofInt x / Int64.ofInt y * Int64.ofInt y = Int64.ofInt (x.tmod y) := by
  rw [← Int64.ofInt_tdiv hx.1 hx.2 hy.1 hy.2, ← Int64.ofInt_mul, ← Int64.ofInt_sub, Int.tmod_def, Int.mul_comm]
section ROWS
variable {p : Program} {l : Launch} {e : Env} {R : Room} {s : State} {me : MethodId} {args : Array Value} {below : List Frame} {meth : Method} {c : Code} {w : km_Pr} {M : km_Md} {c0 s0 : Nat} {Q : State → Prop}
variable {i9 : Instr} {pc nx pc' : Nat} {ls ls' : km_Ls} {st st' : List km_V} {A A' : km_Al} {m m' : km_Mm}
theorem km_jpe {off : Int} (h : km_jp pc off ls st A m = some (.inl (pc', ls', st', A', m'))) : (pc : Int) + off = (pc' : Int) ∧ ls = ls' ∧ st = st' ∧ A = A' ∧ m = m' := by
  unfold km_jp at h
  split at h
  · cases h; exact ⟨by omega, rfl, rfl, rfl, rfl⟩
  · cases h
theorem km_r_goto {o : Int} (C : km_Cx p s me args meth c w M) (d : decode M.1 pc = .ok (.goto o, 3)) (h : km_jp pc o ls st A m = some (.inl (pc', ls', st', A', m')))
    (K : km_W p l e R s me args below meth c w M c0 s0 Q pc' ls' st' A' m') : km_W p l e R s me args below meth c w M c0 s0 Q pc ls st A m := by
  obtain ⟨ht, rfl, rfl, rfl, rfl⟩ := km_jpe h
  intro H locs lc h1 h2 h3 h4 h5 h6
  exact lv_goto C.1 C.2.1 d ht (K H locs lc h1 h2 h3 h4 h5 h6)
theorem km_bre {b : Bool} {off : Int} (h : km_br b pc off nx ls st A m = some (.inl (pc', ls', st', A', m'))) : ∃ tgt : Nat, (pc : Int) + off = (tgt : Int) ∧ (b = true → tgt = pc') ∧ (¬ b = true → nx = pc') ∧ ls = ls' ∧ st = st' ∧ A = A' ∧ m = m' := by
  unfold km_br at h
  split at h
  · cases h
    exact ⟨((pc : Int) + off).toNat, by omega, fun q => by rw [if_pos q], fun q => by rw [if_neg q], rfl, rfl, rfl, rfl⟩
  · cases h
theorem km_r_icmp {cc : Jvm.ClassFile.Cond} {o : Int} {x y : Int} {r : List km_V} (C : km_Cx p s me args meth c w M) (d : decode M.1 pc = .ok (.if_icmp cc o, 3)) (h : km_br (km_cmp cc x y) pc o (pc + 3) ls r A m = some (.inl (pc', ls', st', A', m')))
    (K : km_W p l e R s me args below meth c w M c0 s0 Q pc' ls' st' A' m') : km_W p l e R s me args below meth c w M c0 s0 Q pc ls (.inl y :: .inl x :: r) A m := by
  obtain ⟨tgt, ht, gt, gf, rfl, rfl, rfl, rfl⟩ := km_bre h
  intro H locs lc h1 h2 h3 h4 h5 h6
  obtain ⟨v1, v2⟩ := km_vos h2
  obtain ⟨v3, v4⟩ := km_vos v2
  have K0 := K H locs lc h1 v4 h3 h4 h5 h6
  have K1 : km_cmp cc x y = true → W p l e R s me args below meth c H locs (A.2.2.2.2.1 - c0) (A.2.2.2.2.2 - s0) Q (F0 me tgt lc (r.map (km_cv (km_ad w)))) := fun q => by rw [gt q]; exact K0
  have K2 : ¬ km_cmp cc x y = true → W p l e R s me args below meth c H locs (A.2.2.2.2.1 - c0) (A.2.2.2.2.2 - s0) Q (F0 me (pc + 3) lc (r.map (km_cv (km_ad w)))) := fun q => by rw [gf q]; exact K0
  cases cc with
  | eq => exact lv_icmp_eq C.1 C.2.1 d ht (fun q => K1 (by simp only [km_cmp, decide_eq_true_eq]; exact (km_inj32 v3 v1).mp q)) (fun q => K2 (by simp only [km_cmp, decide_eq_true_eq]; exact fun z => q ((km_inj32 v3 v1).mpr z)))
  | ne => exact lv_icmp_ne C.1 C.2.1 d ht (fun q => K1 (by simp only [km_cmp, decide_eq_true_eq]; exact fun z => q ((km_inj32 v3 v1).mpr z))) (fun q => K2 (by simp only [km_cmp, decide_eq_true_eq]; exact fun z => z ((km_inj32 v3 v1).mp q)))
  | lt => exact lv_icmp_lt C.1 C.2.1 d ht (fun q => K1 (by simp only [km_cmp, decide_eq_true_eq]; exact (km_lt32 v3 v1).mp q)) (fun q => K2 (by simp only [km_cmp, decide_eq_true_eq]; exact fun z => q ((km_lt32 v3 v1).mpr z)))
  | ge => exact lv_icmp_ge C.1 C.2.1 d ht (fun q => K1 (by simp only [km_cmp, decide_eq_true_eq]; exact (km_le32 v1 v3).mp q)) (fun q => K2 (by simp only [km_cmp, decide_eq_true_eq]; exact fun z => q ((km_le32 v1 v3).mpr z)))
  | gt => exact lv_icmp_gt C.1 C.2.1 d ht (fun q => K1 (by simp only [km_cmp, decide_eq_true_eq]; exact (km_lt32 v1 v3).mp q)) (fun q => K2 (by simp only [km_cmp, decide_eq_true_eq]; exact fun z => q ((km_lt32 v1 v3).mpr z)))
  | le => exact lv_icmp_le C.1 C.2.1 d ht (fun q => K1 (by simp only [km_cmp, decide_eq_true_eq]; exact (km_le32 v3 v1).mp q)) (fun q => K2 (by simp only [km_cmp, decide_eq_true_eq]; exact fun z => q ((km_le32 v3 v1).mpr z)))
theorem km_r_if {cc : Jvm.ClassFile.Cond} {o : Int} {x : Int} {r : List km_V} (C : km_Cx p s me args meth c w M) (d : decode M.1 pc = .ok (.ifCond cc o, 3)) (h : km_br (km_cmp cc x 0) pc o (pc + 3) ls r A m = some (.inl (pc', ls', st', A', m')))
    (K : km_W p l e R s me args below meth c w M c0 s0 Q pc' ls' st' A' m') : km_W p l e R s me args below meth c w M c0 s0 Q pc ls (.inl x :: r) A m := by
  obtain ⟨tgt, ht, gt, gf, rfl, rfl, rfl, rfl⟩ := km_bre h
  intro H locs lc h1 h2 h3 h4 h5 h6
  obtain ⟨v3, v4⟩ := km_vos h2
  have v1 : -2147483648 ≤ (0 : Int) ∧ (0 : Int) ≤ 2147483647 := by omega
  have K0 := K H locs lc h1 v4 h3 h4 h5 h6
  have K1 : km_cmp cc x 0 = true → W p l e R s me args below meth c H locs (A.2.2.2.2.1 - c0) (A.2.2.2.2.2 - s0) Q (F0 me tgt lc (r.map (km_cv (km_ad w)))) := fun q => by rw [gt q]; exact K0
  have K2 : ¬ km_cmp cc x 0 = true → W p l e R s me args below meth c H locs (A.2.2.2.2.1 - c0) (A.2.2.2.2.2 - s0) Q (F0 me (pc + 3) lc (r.map (km_cv (km_ad w)))) := fun q => by rw [gf q]; exact K0
  cases cc with
  | eq => exact lv_if_eq C.1 C.2.1 d ht (fun q => K1 (by simp only [km_cmp, decide_eq_true_eq]; exact (km_inj32 v3 v1).mp q)) (fun q => K2 (by simp only [km_cmp, decide_eq_true_eq]; exact fun z => q ((km_inj32 v3 v1).mpr z)))
  | ne => exact lv_if_ne C.1 C.2.1 d ht (fun q => K1 (by simp only [km_cmp, decide_eq_true_eq]; exact fun z => q ((km_inj32 v3 v1).mpr z))) (fun q => K2 (by simp only [km_cmp, decide_eq_true_eq]; exact fun z => z ((km_inj32 v3 v1).mp q)))
  | lt => exact lv_if_lt C.1 C.2.1 d ht (fun q => K1 (by simp only [km_cmp, decide_eq_true_eq]; exact (km_lt32 v3 v1).mp q)) (fun q => K2 (by simp only [km_cmp, decide_eq_true_eq]; exact fun z => q ((km_lt32 v3 v1).mpr z)))
  | ge => exact lv_if_ge C.1 C.2.1 d ht (fun q => K1 (by simp only [km_cmp, decide_eq_true_eq]; exact (km_le32 v1 v3).mp q)) (fun q => K2 (by simp only [km_cmp, decide_eq_true_eq]; exact fun z => q ((km_le32 v1 v3).mpr z)))
  | gt => exact lv_if_gt C.1 C.2.1 d ht (fun q => K1 (by simp only [km_cmp, decide_eq_true_eq]; exact (km_lt32 v1 v3).mp q)) (fun q => K2 (by simp only [km_cmp, decide_eq_true_eq]; exact fun z => q ((km_lt32 v1 v3).mpr z)))
  | le => exact lv_if_le C.1 C.2.1 d ht (fun q => K1 (by simp only [km_cmp, decide_eq_true_eq]; exact (km_le32 v3 v1).mp q)) (fun q => K2 (by simp only [km_cmp, decide_eq_true_eq]; exact fun z => q ((km_le32 v3 v1).mpr z)))
theorem km_mapW {r : List km_V} {g : JFrame} {H : Heap} {locs : List Loc} {q1 q2 : Nat} (h : W p l e R s me args below meth c H locs q1 q2 Q g) : W p l e R s me args below meth c H locs q1 q2 Q g := h
theorem km_r_tsw {dd lo hi : Int} {offs : Array Int} {n : Nat} {x : Int} {r : List km_V} (C : km_Cx p s me args meth c w M) (d : decode M.1 pc = .ok (.tableswitch dd lo hi offs, n))
    (h : (if x < lo ∨ hi < x then km_jp pc dd ls r A m else (match offs[(x - lo).toNat]? with | some o => km_jp pc o ls r A m | none => none)) = some (.inl (pc', ls', st', A', m')))
    (K : km_W p l e R s me args below meth c w M c0 s0 Q pc' ls' st' A' m') : km_W p l e R s me args below meth c w M c0 s0 Q pc ls (.inl x :: r) A m := by
  intro H locs lc h1 h2 h3 h4 h5 h6
  obtain ⟨v3, v4⟩ := km_vos h2
  split at h
  · next q =>
    obtain ⟨ht, rfl, rfl, rfl, rfl⟩ := km_jpe h
    exact lv_tableOut C.1 C.2.1 d (by rw [km_i32 v3]; exact q) ht (K H locs lc h1 v4 h3 h4 h5 h6)
  · next q =>
    split at h
    · next o ho =>
      obtain ⟨ht, rfl, rfl, rfl, rfl⟩ := km_jpe h
      exact lv_tableIn C.1 C.2.1 d (by rw [km_i32 v3]; omega) (by rw [km_i32 v3]; omega) (by rw [km_i32 v3]; exact ho) ht (K H locs lc h1 v4 h3 h4 h5 h6)
    · cases h
theorem km_r_lsw {dd : Int} {ps : Array (Int × Int)} {n : Nat} {x : Int} {r : List km_V} (C : km_Cx p s me args meth c w M) (d : decode M.1 pc = .ok (.lookupswitch dd ps, n))
    (h : (if (ps.toList.zip (ps.toList.drop 1)).all (fun (a, next) => a.1 < next.1) = true then km_jp pc (Op.lookupswitch.offset ps.toList dd x) ls r A m else none) = some (.inl (pc', ls', st', A', m')))
    (K : km_W p l e R s me args below meth c w M c0 s0 Q pc' ls' st' A' m') : km_W p l e R s me args below meth c w M c0 s0 Q pc ls (.inl x :: r) A m := by
  intro H locs lc h1 h2 h3 h4 h5 h6
  obtain ⟨v3, v4⟩ := km_vos h2
  split at h
  · next q =>
    obtain ⟨ht, rfl, rfl, rfl, rfl⟩ := km_jpe h
    exact lv_lookup C.1 C.2.1 d q (by rw [km_i32 v3]) ht (K H locs lc h1 v4 h3 h4 h5 h6)
  · cases h
/-- what a new cell at the end changes: nothing of the old ones -/
theorem km_new_en {k n : Int} {sl : Nat} {b : Int} (hb : b ≠ (A.1 : Int)) : km_en w (km_new k n sl A) (km_zero A m) b = km_en w A m b := by
  have e1 : km_kd (km_new k n sl A) b = km_kd A b := by unfold km_kd km_new km_u1; exact if_neg hb
  have e2 : km_ln (km_new k n sl A) b = km_ln A b := by unfold km_ln km_new km_u1; exact if_neg hb
  have e3 : ∀ j : Int, km_rf (km_new k n sl A) b j = km_rf A b j := fun j => by unfold km_rf km_new; exact if_neg hb
  have e4 : ∀ j : Int, km_zero A m b j = m b j := fun j => by unfold km_zero; exact if_neg hb
  unfold km_en km_fs
  simp only [e1, e2, e3, e4]
theorem km_new_kd {k n : Int} {sl : Nat} : km_kd (km_new k n sl A) (A.1 : Int) = k := by unfold km_kd km_new km_u1; exact if_pos rfl
theorem km_new_ln {k n : Int} {sl : Nat} : km_ln (km_new k n sl A) (A.1 : Int) = n := by unfold km_ln km_new km_u1; exact if_pos rfl
theorem km_new_Rg {k n : Int} {sl : Nat} (h : km_Rg w A m) (hn : 0 ≤ n ∧ n ≤ 100000) : km_Rg w (km_new k n sl A) (km_zero A m) := by
  refine ⟨fun a i => ?_, fun a => ?_, ?_, fun j hj => ?_⟩
  · by_cases ha : a = (A.1 : Int)
    · have e : km_zero A m a i = 0 := by unfold km_zero; exact if_pos ha
      rw [e]
      omega
    · have e1 : km_kd (km_new k n sl A) a = km_kd A a := by unfold km_kd km_new km_u1; exact if_neg ha
      have e2 : km_ty (km_new k n sl A) a i = km_ty A a i := by unfold km_ty; rw [e1]
      have e : km_zero A m a i = m a i := by unfold km_zero; exact if_neg ha
      rw [e, e2]
      exact h.1 a i
  · by_cases ha : a = (A.1 : Int)
    · subst ha
      rw [km_new_ln]
      exact hn
    · have e2 : km_ln (km_new k n sl A) a = km_ln A a := by unfold km_ln km_new km_u1; exact if_neg ha
      rw [e2]
      exact h.2.1 a
  · have e2 : km_ln (km_new k n sl A) (-2) = km_ln A (-2) := by
      have q : ¬ (-2 : Int) = (A.1 : Int) := by omega
      show (if (-2 : Int) = (A.1 : Int) then n else A.2.2.1 (-2)) = A.2.2.1 (-2)
      rw [if_neg q]
    rw [e2]
    exact h.2.2.1
  · have e : km_zero A m (-2) (j : Int) = m (-2) (j : Int) := by unfold km_zero; exact if_neg (by omega)
    rw [e]
    exact h.2.2.2 j hj
theorem km_new_P {k n : Int} {sl : Nat} {H H1 : Heap} {ee : va_E} (hg : km_gd w) (h4 : km_P w A m H) (hz : H.size = km_bs w + A.1) (he : km_en w (km_new k n sl A) (km_zero A m) (A.1 : Int) = ee) (hn : va_at (km_D w) vwCl (H.size, ee) H1) (ho : ∀ q : Nat, q < H.size → H1[q]? = H[q]?) : km_P w (km_new k n sl A) (km_zero A m) H1 := by
  have e1 : km_wd w (km_new k n sl A) (km_zero A m) = km_wd w A m ++ [(H.size, ee)] := by
    unfold km_wd
    rw [show (km_new k n sl A).1 = A.1 + 1 from rfl, List.range_succ, List.map_append]
    congr 1
    · apply List.map_congr_left
      intro j hj
      rw [km_new_en (by have := List.mem_range.mp hj; omega)]
    · rw [List.map_singleton, he, hg.1 _ (by omega), hz, Int.toNat_natCast]
  unfold km_P
  rw [e1]
  refine va_P.app (h4.kept (fun k9 x hx => ho x.1 ((h4 k9 x hx).lt))) (fun k9 x hx => ?_)
  have h0 : k9 < 1 := (List.getElem?_eq_some_iff.mp hx).1
  rw [show k9 = 0 by omega] at hx
  cases hx
  exact hn
theorem km_new_S {H H1 : Heap} {locs : List Loc} (h5 : va_S (km_A w) s.heap H locs) (hz : H.size ≤ H1.size) (ho : ∀ q : Nat, q < H.size → H1[q]? = H[q]?) : va_S (km_A w) s.heap H1 locs :=
  ⟨Nat.le_trans h5.1 hz, fun q q1 q2 => (ho q (Nat.lt_of_lt_of_le q1 h5.1)).trans (h5.2.1 q q1 q2), h5.2.2⟩
theorem km_r_newo {k : Nat} (C : km_Cx p s me args meth c w M) (d : decode M.1 pc = .ok (.new k, 3)) (h : km_newo (km_nw M.2.1 k) (pc + 3) ls st A m = some (.inl (pc', ls', st', A', m'))) (hc : c0 ≤ A.2.2.2.2.1 ∧ s0 ≤ A.2.2.2.2.2) (hR : A'.2.2.2.2.1 - c0 ≤ R.cells ∧ A'.2.2.2.2.2 - s0 ≤ R.slots)
    (K : km_W p l e R s me args below meth c w M c0 s0 Q pc' ls' st' A' m') : km_W p l e R s me args below meth c w M c0 s0 Q pc ls st A m := by
  unfold km_newo at h
  split at h
  · next ci nf hf =>
    split at h
    · next hN =>
      obtain ⟨rfl, rfl, rfl, rfl, rfl⟩ := km_nxe h
      obtain ⟨q, hq, hnf, hcl, hins, hini, hlen⟩ := km_lnw_all M.2.1 _ (km_find hf)
      dsimp only at hq hnf hcl hins hini hlen
      obtain ⟨hin, hlen2, hnm, ty, hty, hcode⟩ := km_cls ci q hq
      have hg := C.2.2.2.2.2.2.2.2.2.1
      intro H locs lc h1 h2 h3 h4 h5 h6
      have hz := h6 hN
      have hts := C.2.2.2.2.1
      have hKn := C.2.2.2.2.2.2.2.1.1 ci _ hq
      have c1 : A.2.2.2.2.1 - c0 + 1 = (km_new (10 + (ci : Int)) nf nf A).2.2.2.2.1 - c0 := by
        show _ = A.2.2.2.2.1 + 1 - c0
        omega
      have c2 : A.2.2.2.2.2 - s0 + q.2.2 = (km_new (10 + (ci : Int)) nf nf A).2.2.2.2.2 - s0 := by
        show _ = A.2.2.2.2.2 + nf - s0
        omega
      have hnf2 : nf ≤ 100000 := by
        rw [← hnf]
        have : ∀ x ∈ vwCl, x.2.2 ≤ 100000 := by decide
        exact this q (List.mem_of_getElem? hq)
      refine W.newcK C.1 C.2.1 C.2.2.2.1 (hts _ hcl) (hts _ hins) (hts _ hini) rfl d (by rw [c1]; exact hR.1) (by rw [c2]; exact hR.2) hKn.2.1 rfl fun H1 kC hkC e1 z1 o1 => ?_
      rw [c1, c2]
      have hee : km_en w (km_new (10 + (ci : Int)) nf nf A) (km_zero A m) (A.1 : Int) = .inr (ci, km_fs (km_ad w) (km_new (10 + (ci : Int)) nf nf A) (km_zero A m) ci (A.1 : Int)) := km_en_o km_new_kd
      have hP1 : km_P w (km_new (10 + (ci : Int)) nf nf A) (km_zero A m) H1 := by
        refine km_new_P hg h4 hz hee ⟨q, hq, (u_born ty hts hin hKn hkC e1 hty).to (fun j hj => ?_)⟩ o1
        have hj2 : j < (km_ftL.getD ci []).length := by rw [hlen2]; exact hj
        show _ = vp_V (km_fs (km_ad w) (km_new (10 + (ci : Int)) nf nf A) (km_zero A m) ci (A.1 : Int)) j
        unfold vp_V
        rw [List.getD_eq_getElem?_getD, km_fs_at hj2]
        show _ = km_fv _ _ _ _
        have z0 : km_zero A m (A.1 : Int) (j : Int) = 0 := by unfold km_zero; exact if_pos rfl
        have z1 : km_rf (km_new (10 + (ci : Int)) nf nf A) (A.1 : Int) (j : Int) = -1 := by unfold km_rf km_new; exact if_pos rfl
        rw [z0, z1]
        obtain ⟨t1, t2, t3, t4⟩ := hcode j hj
        unfold km_fv
        split
        · next q1 => rw [t2 q1]; rfl
        · next q1 =>
          split
          · next q2 =>
            have t5 := t4 q2
            unfold km_rv
            rw [if_pos rfl]
            cases hty9 : ty j <;> rw [hty9] at t5 <;> first | rfl | cases t5
          · next q2 =>
            have hlt4 : ∀ ci, ∀ x ∈ km_ftL.getD ci [], x < 4 := by
              intro ci
              have h9 : ∀ L ∈ km_ftL, ∀ x ∈ L, x < 4 := by decide +kernel
              rw [List.getD_eq_getElem?_getD]
              cases hL : km_ftL[ci]? with
              | none => intro x hx; cases hx
              | some L => exact h9 L (List.mem_of_getElem? hL)
            have h8 : km_ft ci j < 4 := by
              unfold km_ft
              rw [← km_getD hj2]
              exact hlt4 ci _ (List.getElem_mem hj2)
            rcases (show km_ft ci j = 0 ∨ km_ft ci j = 3 by omega) with q3 | q3
            · rw [t1 q3]; rfl
            · rw [t3 q3]; rfl
      have K1 := K H1 locs lc h1 (km_voc (v := .inr (.inr (A.1 : Int))) trivial h2) (km_new_Rg h3 ⟨by omega, by omega⟩) hP1 (km_new_S h5 (by omega) o1) (fun _ => by rw [z1, hz]; rfl)
      rw [List.map_cons, km_rvne (by omega), hg.1 _ (by omega), Int.toNat_natCast, ← hz] at K1
      exact K1
    · cases h
  · cases h
theorem km_r_newa {t : ArrayType} {kk : Int} (ht : t = .int ∧ kk = 0 ∨ t = .long ∧ kk = 1 ∨ t = .boolean ∧ kk = 2) (C : km_Cx p s me args meth c w M) (d : decode M.1 pc = .ok (.newarray t, 2)) (h : km_newa (some kk) (pc + 2) ls st A m = some (.inl (pc', ls', st', A', m'))) (hc : c0 ≤ A.2.2.2.2.1 ∧ s0 ≤ A.2.2.2.2.2) (hR : A'.2.2.2.2.1 - c0 ≤ R.cells ∧ A'.2.2.2.2.2 - s0 ≤ R.slots)
    (K : km_W p l e R s me args below meth c w M c0 s0 Q pc' ls' st' A' m') : km_W p l e R s me args below meth c w M c0 s0 Q pc ls st A m := by
  unfold km_newa at h
  split at h
  · next k9 n r hkk =>
    cases hkk
    split at h
    · next hN =>
      obtain ⟨n0, n1, hN⟩ := hN
      obtain ⟨rfl, rfl, rfl, rfl, rfl⟩ := km_nxe h
      have hg := C.2.2.2.2.2.2.2.2.2.1
      have hts := C.2.2.2.2.1
      have hK := C.2.2.2.2.2.2.2.1
      intro H locs lc h1 h2 h3 h4 h5 h6
      obtain ⟨v1, v2⟩ := km_vos h2
      have hz := h6 hN
      have hcl : (Int32.ofInt n).toNatClampNeg = n.toNat := km_clamp n0 (by omega)
      have hneg : ¬ Int32.ofInt n < 0 := by
        rw [Int32.lt_iff_toInt_lt, km_i32 v1, Int32.toInt_zero]
        omega
      have c1 : A.2.2.2.2.1 - c0 + 1 = (km_new kk n n.toNat A).2.2.2.2.1 - c0 := by
        show _ = A.2.2.2.2.1 + 1 - c0
        omega
      have c2 : A.2.2.2.2.2 - s0 + n.toNat = (km_new kk n n.toNat A).2.2.2.2.2 - s0 := by
        show _ = A.2.2.2.2.2 + n.toNat - s0
        omega
      have z0 : ∀ j : Nat, km_zero A m (A.1 : Int) (j : Int) = 0 := fun j => by unfold km_zero; exact if_pos rfl
      have key : ∀ (H1 : Heap) (ee : va_E), km_en w (km_new kk n n.toNat A) (km_zero A m) (A.1 : Int) = ee → va_at (km_D w) vwCl (H.size, ee) H1 → H1.size = H.size + 1 → (∀ q : Nat, q < H.size → H1[q]? = H[q]?) →
          W p l e R s me args below meth c H1 locs (A.2.2.2.2.1 - c0 + 1) (A.2.2.2.2.2 - s0 + n.toNat) Q (F0 me (pc + 2) lc (.ref H.size :: r.map (km_cv (km_ad w)))) := by
        intro H1 ee he hat z1 o1
        have hP1 := km_new_P hg h4 hz he hat o1
        have K1 := K H1 locs lc h1 (km_voc (v := .inr (.inr (A.1 : Int))) trivial v2) (km_new_Rg h3 ⟨n0, n1⟩) hP1 (km_new_S h5 (by omega) o1) (fun _ => by rw [z1, hz]; rfl)
        rw [List.map_cons, km_rvne (by omega), hg.1 _ (by omega), Int.toNat_natCast, ← hz] at K1
        rw [c1, c2]
        exact K1
      rcases ht with ⟨rfl, rfl⟩ | ⟨rfl, rfl⟩ | ⟨rfl, rfl⟩
      · refine va_newaK (atype := .int) C.1 C.2.1 (hts _ km_acI) rfl d rfl hneg hcl (by show n.toNat * 4 ≤ _; omega) (by rw [c1]; exact hR.1) (by rw [c2]; exact hR.2) rfl fun H1 cA e1 z1 o1 hAr hNm => ?_
        have ecA : cA = km_dA w 0 := Option.some.inj (hNm.symm.trans (hK.2 0 _ rfl).2)
        refine key H1 _ (km_en_0 km_new_kd) ?_ z1 o1
        show H1[H.size]? = some (vp_cell _ _)
        rw [e1, ecA, vp_cell_i, km_new_ln]
        simp only [z0]
        rfl
      · refine va_newaK (atype := .long) C.1 C.2.1 (hts _ km_acJ) rfl d rfl hneg hcl (by show n.toNat * 8 ≤ _; omega) (by rw [c1]; exact hR.1) (by rw [c2]; exact hR.2) rfl fun H1 cA e1 z1 o1 hAr hNm => ?_
        have ecA : cA = km_dA w 1 := Option.some.inj (hNm.symm.trans (hK.2 1 _ rfl).2)
        refine key H1 _ (km_en_1 km_new_kd) ?_ z1 o1
        show H1[H.size]? = some (vp_cell _ _)
        rw [e1, ecA, vp_cell_l, km_new_ln]
        simp only [z0]
        rfl
      · refine va_newaK (atype := .boolean) C.1 C.2.1 (hts _ km_acZ) rfl d rfl hneg hcl (by show n.toNat * 1 ≤ _; omega) (by rw [c1]; exact hR.1) (by rw [c2]; exact hR.2) rfl fun H1 cA e1 z1 o1 hAr hNm => ?_
        have ecA : cA = km_dA w 2 := Option.some.inj (hNm.symm.trans (hK.2 2 _ rfl).2)
        refine key H1 _ (km_en_2 km_new_kd) ?_ z1 o1
        show H1[H.size]? = some (vp_cell _ _)
        rw [e1, ecA, vp_cell_i, km_new_ln]
        simp only [z0]
        rfl
    · cases h
  · cases h
end ROWS
