/-! ===== the step, the call, the method, the run ===== -/
/-- what stands outside the world and is asked of it: int[][] has been made, private constructors may be called -/
def km_Qx (w : km_Pr) : Prop := ∀ U : State, km_E2 w U → (Cond.arrayOver (.array .int)).before #[] U = true ∧ ∀ (o : Nat) (e : Nat × km_Md × Bool), e ∈ km_mtL o → e.2.2 = true → va_Nw (.methodLinkNest (km_cn o) e.1 e.2.1.2.2.1 "KinMeet") U
/-- the steps over the two constant texts -/
def km_xs9 (M : km_Md) (i : Instr) (nx : Nat) (ls : km_Ls) (st : List km_V) (A : km_Al) (m : km_Mm) : Option km_O := match i with
  | .ldc k => match km_st M.2.1 k with
    | some x => km_nx nx ls (.inr (.inr x) :: st) A m
    | none => none
  | .invokevirtual k => match km_so M.2.1 k with
    | some o => km_sop o M.2.2.2.2.2.1 nx ls st A m
    | none => none
  | _ => none
/-- what is asked of the real machine there -/
def km_Sx (l : Launch) (w : km_Pr) : Prop := ∀ (p : Program) (e : Env) (R : Room) (s : State) (me : MethodId) (args : Array Value) (below : List Frame) (meth : Method) (c : Code) (M : km_Md) (c0 s0 : Nat) (Q : State → Prop) (i : Instr) (n pc pc' : Nat) (ls ls' : km_Ls) (st st' : List km_V) (A A' : km_Al) (m m' : km_Mm),
  decode M.1 pc = .ok (i, n) → n = km_len i → km_xs9 M i (pc + n) ls st A m = some (.inl (pc', ls', st', A', m')) → km_Cx p s me args meth c w M → km_Rm R M → (c0 ≤ A.2.2.2.2.1 ∧ s0 ≤ A.2.2.2.2.2) → (A'.2.2.2.2.1 - c0 ≤ R.cells ∧ A'.2.2.2.2.2 - s0 ≤ R.slots) →
  km_W p l e R s me args below meth c w M c0 s0 Q pc' ls' st' A' m' → km_W p l e R s me args below meth c w M c0 s0 Q pc ls st A m
section ROWS
variable {p : Program} {l : Launch} {e : Env} {R : Room} {s : State} {me : MethodId} {args : Array Value} {below : List Frame} {meth : Method} {c : Code} {w : km_Pr} {M : km_Md} {c0 s0 : Nat} {Q : State → Prop}
variable {i9 : Instr} {pc nx pc' : Nat} {ls ls' : km_Ls} {st st' : List km_V} {A A' : km_Al} {m m' : km_Mm}
theorem km_c8 {n : Int} (h : -128 ≤ n ∧ n ≤ 127) : (Int8.ofInt n).toInt32 = Int32.ofInt n := by
  rw [← Int32.toInt_inj, Int8.toInt_toInt32, Int8.toInt_ofInt, km_i32 (by omega), show Int8.size = 2 ^ 8 from rfl, Int.bmod_eq_of_le (by omega) (by omega)]
theorem km_c16 {n : Int} (h : -32768 ≤ n ∧ n ≤ 32767) : (Int16.ofInt n).toInt32 = Int32.ofInt n := by
  rw [← Int32.toInt_inj, Int16.toInt_toInt32, Int16.toInt_ofInt, km_i32 (by omega), show Int16.size = 2 ^ 16 from rfl, Int.bmod_eq_of_le (by omega) (by omega)]
theorem km_lenE {i : Instr} {n k : Nat} (h : km_len i = 0 ∨ n = km_len i) (hk : km_len i = k + 1) : n = k + 1 := by omega
theorem km_exW {i : Instr} {n : Nat} (d : decode M.1 pc = .ok (i, n)) (hlen : km_len i = 0 ∨ n = km_len i) (h : km_ex M i pc (pc + n) ls st A m = some (.inl (pc', ls', st', A', m')))
    (hq : km_Qx w) (hSx : km_Sx l w) (C : km_Cx p s me args meth c w M) (hRm : km_Rm R M) (hc : c0 ≤ A.2.2.2.2.1 ∧ s0 ≤ A.2.2.2.2.2) (hR : A'.2.2.2.2.1 - c0 ≤ R.cells ∧ A'.2.2.2.2.2 - s0 ≤ R.slots)
    (K : km_W p l e R s me args below meth c w M c0 s0 Q pc' ls' st' A' m') : km_W p l e R s me args below meth c w M c0 s0 Q pc ls st A m := by
  have hx := C.1
  have hb := C.2.1
  have hown := C.2.2.2.1
  have hts := C.2.2.2.2.1
  cases i with
  | iconst k =>
    have hn : n = 1 := by simpa [km_len] using hlen
    subst hn
    simp only [km_ex] at h
    split at h
    · next hk => exact km_r_push (v := .inl k) (by show _ ∧ _; omega) h (fun H locs lc q1 q2 K1 => lv_iconst hx hb d rfl K1) K
    · cases h
  | bipush k =>
    have hn : n = 2 := by simpa [km_len] using hlen
    subst hn
    simp only [km_ex] at h
    split at h
    · next hk => exact km_r_push (v := .inl k) (by show _ ∧ _; omega) h (fun H locs lc q1 q2 K1 => lv_bipush hx hb d (km_c8 hk) K1) K
    · cases h
  | sipush k =>
    have hn : n = 3 := by simpa [km_len] using hlen
    subst hn
    simp only [km_ex] at h
    split at h
    · next hk => exact km_r_push (v := .inl k) (by show _ ∧ _; omega) h (fun H locs lc q1 q2 K1 => lv_sipush hx hb d (km_c16 hk) K1) K
    · cases h
  | lconst k =>
    have hn : n = 1 := by simpa [km_len] using hlen
    subst hn
    simp only [km_ex] at h
    have hk := k.isLt
    exact km_r_push (v := .inr (.inl ((k : Nat) : Int))) (by show _ ∧ _; omega) h (fun H locs lc q1 q2 K1 => lv_lconst hx hb d rfl K1) K
  | ldc k =>
    have hn : n = 2 := by simpa [km_len] using hlen
    subst hn
    simp only [km_ex] at h
    split at h
    · next x hx9 =>
      obtain ⟨y1, y2, y3⟩ := km_lc_all M.2.1 _ (km_find hx9)
      exact km_r_push (v := .inl x) ⟨y2, y3⟩ h (fun H locs lc q1 q2 K1 => lv_ldc hx hb hown (hts _ y1) d K1) K
    · exact hSx p e R s me args below meth c M c0 s0 Q (.ldc k) 2 pc pc' ls ls' st st' A A' m m' d rfl (by simp only [km_xs9]; exact h) C hRm hc hR K
  | ldc_w k =>
    have hn : n = 3 := by simpa [km_len] using hlen
    subst hn
    simp only [km_ex] at h
    split at h
    · next x hx9 =>
      obtain ⟨y1, y2, y3⟩ := km_lc_all M.2.1 _ (km_find hx9)
      exact km_r_push (v := .inl x) ⟨y2, y3⟩ h (fun H locs lc q1 q2 K1 => lv_ldcw hx hb hown (hts _ y1) d K1) K
    · cases h
  | ldc2_w k =>
    have hn : n = 3 := by simpa [km_len] using hlen
    subst hn
    simp only [km_ex] at h
    split at h
    · next x hx9 =>
      obtain ⟨y1, y2, y3⟩ := km_ld_all M.2.1 _ (km_find hx9)
      exact km_r_push (v := .inr (.inl x)) ⟨y2, y3⟩ h (fun H locs lc q1 q2 K1 => lv_ldc2 hx hb hown (hts _ y1) d K1) K
    · cases h
  | iload_n k =>
    have hn : n = 1 := by simpa [km_len] using hlen
    subst hn
    simp only [km_ex] at h
    exact km_r_iload C h (fun H locs lc q1 q2 x hl K1 => lv_iload_n hx hb d rfl hl K1) K
  | iload k =>
    have hn : n = 2 := by simpa [km_len] using hlen
    subst hn
    simp only [km_ex] at h
    exact km_r_iload C h (fun H locs lc q1 q2 x hl K1 => lv_iload hx hb d hl K1) K
  | lload_n k =>
    have hn : n = 1 := by simpa [km_len] using hlen
    subst hn
    simp only [km_ex] at h
    exact km_r_lload C h (fun H locs lc q1 q2 x hl K1 => lv_lload_n hx hb d rfl hl K1) K
  | lload k =>
    have hn : n = 2 := by simpa [km_len] using hlen
    subst hn
    simp only [km_ex] at h
    exact km_r_lload C h (fun H locs lc q1 q2 x hl K1 => lv_lload hx hb d hl K1) K
  | aload_n k =>
    have hn : n = 1 := by simpa [km_len] using hlen
    subst hn
    simp only [km_ex] at h
    exact km_r_aload C h (fun H locs lc q1 q2 x hl K1 => lv_aload_n hx hb d rfl hl K1) K
  | aload k =>
    have hn : n = 2 := by simpa [km_len] using hlen
    subst hn
    simp only [km_ex] at h
    exact km_r_aload C h (fun H locs lc q1 q2 x hl K1 => lv_aload hx hb d hl K1) K
  | istore_n k =>
    have hn : n = 1 := by simpa [km_len] using hlen
    subst hn
    simp only [km_ex] at h
    exact km_r_istore C h (fun H locs lc q1 q2 nL lv x r hl hi K1 => lv_istore_n hx hb d rfl hl hi rfl K1) K
  | istore k =>
    have hn : n = 2 := by simpa [km_len] using hlen
    subst hn
    simp only [km_ex] at h
    exact km_r_istore C h (fun H locs lc q1 q2 nL lv x r hl hi K1 => lv_istore hx hb d hl hi rfl K1) K
  | lstore_n k =>
    have hn : n = 1 := by simpa [km_len] using hlen
    subst hn
    simp only [km_ex] at h
    exact km_r_lstore C h (fun H locs lc q1 q2 nL lv x r hl hi K1 => lv_lstore_n hx hb d rfl hl hi rfl K1) K
  | lstore k =>
    have hn : n = 2 := by simpa [km_len] using hlen
    subst hn
    simp only [km_ex] at h
    exact km_r_lstore C h (fun H locs lc q1 q2 nL lv x r hl hi K1 => lv_lstore hx hb d hl hi rfl K1) K
  | astore_n k =>
    have hn : n = 1 := by simpa [km_len] using hlen
    subst hn
    simp only [km_ex] at h
    exact km_r_astore C h (fun H locs lc q1 q2 nL lv x r hl hi K1 => lv_astore_n hx hb d rfl hl hi rfl K1) K
  | astore k =>
    have hn : n = 2 := by simpa [km_len] using hlen
    subst hn
    simp only [km_ex] at h
    exact km_r_astore C h (fun H locs lc q1 q2 nL lv x r hl hi K1 => lv_astore hx hb d hl hi rfl K1) K
  | iinc k z =>
    have hn : n = 3 := by simpa [km_len] using hlen
    subst hn
    simp only [km_ex] at h
    exact km_r_iinc C d h K
  | iadd =>
    have hn : n = 1 := by simpa [km_len] using hlen
    subst hn
    simp only [km_ex] at h
    refine km_r_b2 h (fun x y z hx9 hy9 hz => ?_) K
    obtain ⟨rfl, z2⟩ := km_ckS hz
    exact ⟨z2, fun H locs lc q1 q2 r K1 => lv_iadd hx hb d (by rw [← Int32.ofInt_add]; exact K1)⟩
  | isub =>
    have hn : n = 1 := by simpa [km_len] using hlen
    subst hn
    simp only [km_ex] at h
    refine km_r_b2 h (fun x y z hx9 hy9 hz => ?_) K
    obtain ⟨rfl, z2⟩ := km_ckS hz
    exact ⟨z2, fun H locs lc q1 q2 r K1 => lv_isub hx hb d (by rw [← Int32.ofInt_sub]; exact K1)⟩
  | imul =>
    have hn : n = 1 := by simpa [km_len] using hlen
    subst hn
    simp only [km_ex] at h
    refine km_r_b2 h (fun x y z hx9 hy9 hz => ?_) K
    obtain ⟨rfl, z2⟩ := km_ckS hz
    exact ⟨z2, fun H locs lc q1 q2 r K1 => lv_imul hx hb d (by rw [← Int32.ofInt_mul]; exact K1)⟩
  | irem =>
    have hn : n = 1 := by simpa [km_len] using hlen
    subst hn
    simp only [km_ex] at h
    refine km_r_b2 h (fun x y z hx9 hy9 hz => ?_) K
    split at hz
    · cases hz
    · next hne =>
      obtain ⟨rfl, z2⟩ := km_ckS hz
      exact ⟨z2, fun H locs lc q1 q2 r K1 => lv_irem hx hb d (fun q => hne (by have q1 := (km_inj32 hy9 (y := 0) (by omega)).mp q; exact q1)) (by rw [km_rem32 hx9 hy9]; exact K1)⟩
  | iand =>
    have hn : n = 1 := by simpa [km_len] using hlen
    subst hn
    simp only [km_ex] at h
    refine km_r_b2 h (fun x y z hx9 hy9 hz => ?_) K
    cases hz
    exact ⟨km_rng _, fun H locs lc q1 q2 r K1 => lv_iand hx hb d (by rw [show Int32.ofInt (km_and x y) = _ from km_back _] at K1; exact K1)⟩
  | ior =>
    have hn : n = 1 := by simpa [km_len] using hlen
    subst hn
    simp only [km_ex] at h
    refine km_r_b2 h (fun x y z hx9 hy9 hz => ?_) K
    cases hz
    exact ⟨km_rng _, fun H locs lc q1 q2 r K1 => lv_ior hx hb d (by rw [show Int32.ofInt (km_or x y) = _ from km_back _] at K1; exact K1)⟩
  | ixor =>
    have hn : n = 1 := by simpa [km_len] using hlen
    subst hn
    simp only [km_ex] at h
    refine km_r_b2 h (fun x y z hx9 hy9 hz => ?_) K
    cases hz
    exact ⟨km_rng _, fun H locs lc q1 q2 r K1 => lv_ixor hx hb d (by rw [show Int32.ofInt (km_xor x y) = _ from km_back _] at K1; exact K1)⟩
  | ishl =>
    have hn : n = 1 := by simpa [km_len] using hlen
    subst hn
    simp only [km_ex] at h
    refine km_r_b2 h (fun x y z hx9 hy9 hz => ?_) K
    cases hz
    exact ⟨km_rng _, fun H locs lc q1 q2 r K1 => lv_ishl hx hb d (by rw [show Int32.ofInt (km_shl x y) = _ from km_back _] at K1; exact K1)⟩
  | ishr =>
    have hn : n = 1 := by simpa [km_len] using hlen
    subst hn
    simp only [km_ex] at h
    refine km_r_b2 h (fun x y z hx9 hy9 hz => ?_) K
    cases hz
    exact ⟨km_rng _, fun H locs lc q1 q2 r K1 => lv_ishr hx hb d (by rw [show Int32.ofInt (km_shr x y) = _ from km_back _] at K1; exact K1)⟩
  | iushr =>
    have hn : n = 1 := by simpa [km_len] using hlen
    subst hn
    simp only [km_ex] at h
    refine km_r_b2 h (fun x y z hx9 hy9 hz => ?_) K
    cases hz
    exact ⟨km_rng _, fun H locs lc q1 q2 r K1 => lv_iushr (v := Int32.ofInt (km_ushr x y)) hx hb d (km_back _).symm K1⟩
  | ladd =>
    have hn : n = 1 := by simpa [km_len] using hlen
    subst hn
    simp only [km_ex] at h
    refine km_r_b2L h (fun x y z hx9 hy9 hz => ?_) K
    obtain ⟨rfl, z2⟩ := km_ckLS hz
    exact ⟨z2, fun H locs lc q1 q2 r K1 => lv_ladd hx hb d (by rw [← Int64.ofInt_add]; exact K1)⟩
  | lsub =>
    have hn : n = 1 := by simpa [km_len] using hlen
    subst hn
    simp only [km_ex] at h
    refine km_r_b2L h (fun x y z hx9 hy9 hz => ?_) K
    obtain ⟨rfl, z2⟩ := km_ckLS hz
    exact ⟨z2, fun H locs lc q1 q2 r K1 => lv_lsub hx hb d (by rw [← Int64.ofInt_sub]; exact K1)⟩
  | lmul =>
    have hn : n = 1 := by simpa [km_len] using hlen
    subst hn
    simp only [km_ex] at h
    refine km_r_b2L h (fun x y z hx9 hy9 hz => ?_) K
    obtain ⟨rfl, z2⟩ := km_ckLS hz
    exact ⟨z2, fun H locs lc q1 q2 r K1 => lv_lmul hx hb d (by rw [← Int64.ofInt_mul]; exact K1)⟩
  | ldiv =>
    have hn : n = 1 := by simpa [km_len] using hlen
    subst hn
    simp only [km_ex] at h
    refine km_r_b2L h (fun x y z hx9 hy9 hz => ?_) K
    split at hz
    · cases hz
    · next hne =>
      obtain ⟨rfl, z2⟩ := km_ckLS hz
      exact ⟨z2, fun H locs lc q1 q2 r K1 => lv_ldiv hx hb d (fun q => hne (by have q1 := (km_inj64 hy9 (y := 0) (by omega)).mp q; exact q1)) (by rw [← Int64.ofInt_tdiv hx9.1 hx9.2 hy9.1 hy9.2]; exact K1)⟩
  | lrem =>
    have hn : n = 1 := by simpa [km_len] using hlen
    subst hn
    simp only [km_ex] at h
    refine km_r_b2L h (fun x y z hx9 hy9 hz => ?_) K
    split at hz
    · cases hz
    · next hne =>
      obtain ⟨rfl, z2⟩ := km_ckLS hz
      exact ⟨z2, fun H locs lc q1 q2 r K1 => lv_lrem hx hb d (fun q => hne (by have q1 := (km_inj64 hy9 (y := 0) (by omega)).mp q; exact q1)) (by rw [km_rem64 hx9 hy9]; exact K1)⟩
  | ineg =>
    have hn : n = 1 := by simpa [km_len] using hlen
    subst hn
    simp only [km_ex] at h
    split at h
    · next x r =>
      split at h
      · next z hz =>
        obtain ⟨rfl, rfl, rfl, rfl, rfl⟩ := km_nxe h
        obtain ⟨rfl, z2⟩ := km_ckS hz
        intro H locs lc h1 h2 h3 h4 h5 h6
        obtain ⟨g1, g2⟩ := km_vos h2
        refine lv_ineg hx hb d ?_
        rw [← Int32.ofInt_neg]
        exact K H locs lc h1 (km_voc z2 g2) h3 h4 h5 h6
      · cases h
    · cases h
  | lneg =>
    have hn : n = 1 := by simpa [km_len] using hlen
    subst hn
    simp only [km_ex] at h
    split at h
    · next x r =>
      split at h
      · next z hz =>
        obtain ⟨rfl, rfl, rfl, rfl, rfl⟩ := km_nxe h
        obtain ⟨rfl, z2⟩ := km_ckLS hz
        intro H locs lc h1 h2 h3 h4 h5 h6
        obtain ⟨g1, g2⟩ := km_vos h2
        refine lv_lneg hx hb d ?_
        rw [← Int64.ofInt_neg]
        exact K H locs lc h1 (km_voc z2 g2) h3 h4 h5 h6
      · cases h
    · cases h
  | lcmp =>
    have hn : n = 1 := by simpa [km_len] using hlen
    subst hn
    simp only [km_ex] at h
    split at h
    · next y x r =>
      obtain ⟨rfl, rfl, rfl, rfl, rfl⟩ := km_nxe h
      intro H locs lc h1 h2 h3 h4 h5 h6
      obtain ⟨g1, g2⟩ := km_vos h2
      obtain ⟨g3, g4⟩ := km_vos g2
      refine W.lcmp hx hb d ?_
      rw [km_lcmpE g3 g1]
      exact K H locs lc h1 (km_voc (v := .inl (km_lcmp x y)) (by show _ ∧ _; unfold km_lcmp; split <;> (try split) <;> omega) g4) h3 h4 h5 h6
    · cases h
  | i2l =>
    have hn : n = 1 := by simpa [km_len] using hlen
    subst hn
    simp only [km_ex] at h
    split at h
    · next x r =>
      obtain ⟨rfl, rfl, rfl, rfl, rfl⟩ := km_nxe h
      intro H locs lc h1 h2 h3 h4 h5 h6
      obtain ⟨g1, g2⟩ := km_vos h2
      have g1' : -2147483648 ≤ x ∧ x ≤ 2147483647 := g1
      refine lv_i2l (v := Int64.ofInt x) hx hb d (by rw [← Int64.toInt_inj, Int32.toInt_toInt64, km_i32 g1', km_i64 (by omega)]) ?_
      exact K H locs lc h1 (km_voc (v := .inr (.inl x)) (by show _ ∧ _; omega) g2) h3 h4 h5 h6
    · cases h
  | l2i =>
    have hn : n = 1 := by simpa [km_len] using hlen
    subst hn
    simp only [km_ex] at h
    split at h
    · next x r =>
      split at h
      · next z hz =>
        obtain ⟨rfl, rfl, rfl, rfl, rfl⟩ := km_nxe h
        obtain ⟨rfl, z2⟩ := km_ckS hz
        intro H locs lc h1 h2 h3 h4 h5 h6
        obtain ⟨g1, g2⟩ := km_vos h2
        refine lv_l2i (v := Int32.ofInt z) hx hb d (by rw [Int64.toInt32_ofInt]) ?_
        exact K H locs lc h1 (km_voc z2 g2) h3 h4 h5 h6
      · cases h
    · cases h
  | i2c =>
    have hn : n = 1 := by simpa [km_len] using hlen
    subst hn
    simp only [km_ex] at h
    split at h
    · next x r =>
      split at h
      · next hz =>
        obtain ⟨rfl, rfl, rfl, rfl, rfl⟩ := km_nxe h
        intro H locs lc h1 h2 h3 h4 h5 h6
        obtain ⟨g1, g2⟩ := km_vos h2
        refine lv_i2c (v := Int32.ofInt x) hx hb d (km_char hz.1 hz.2) ?_
        exact K H locs lc h1 (km_voc g1 g2) h3 h4 h5 h6
      · cases h
    · cases h
  | dup =>
    have hn : n = 1 := by simpa [km_len] using hlen
    subst hn
    simp only [km_ex] at h
    split at h
    · next v r =>
      split at h
      · next hz =>
        obtain ⟨rfl, rfl, rfl, rfl, rfl⟩ := km_nxe h
        intro H locs lc h1 h2 h3 h4 h5 h6
        obtain ⟨g1, g2⟩ := km_vos h2
        exact lv_dup hx hb d (by rw [km_cat_cv]; exact hz) (K H locs lc h1 (km_voc g1 (km_voc g1 g2)) h3 h4 h5 h6)
      · cases h
    · cases h
  | pop =>
    have hn : n = 1 := by simpa [km_len] using hlen
    subst hn
    simp only [km_ex] at h
    split at h
    · next v r =>
      split at h
      · next hz =>
        obtain ⟨rfl, rfl, rfl, rfl, rfl⟩ := km_nxe h
        intro H locs lc h1 h2 h3 h4 h5 h6
        obtain ⟨g1, g2⟩ := km_vos h2
        exact lv_pop hx hb d (by rw [km_cat_cv]; exact hz) (K H locs lc h1 g2 h3 h4 h5 h6)
      · cases h
    · cases h
  | dup2 =>
    have hn : n = 1 := by simpa [km_len] using hlen
    subst hn
    simp only [km_ex] at h
    split at h
    · next v r =>
      split at h
      · next hz =>
        obtain ⟨rfl, rfl, rfl, rfl, rfl⟩ := km_nxe h
        intro H locs lc h1 h2 h3 h4 h5 h6
        obtain ⟨g1, g2⟩ := km_vos h2
        exact lv_dup2_2 hx hb d (by rw [km_cat_cv]; exact hz) (K H locs lc h1 (km_voc g1 (km_voc g1 g2)) h3 h4 h5 h6)
      · next hz =>
        split at h
        · next u r2 =>
          split at h
          · next hz2 =>
            obtain ⟨rfl, rfl, rfl, rfl, rfl⟩ := km_nxe h
            intro H locs lc h1 h2 h3 h4 h5 h6
            obtain ⟨g1, g2⟩ := km_vos h2
            obtain ⟨g3, g4⟩ := km_vos g2
            have hz1 : km_cat v = 1 := by
              rcases v with x | x | x
              · rfl
              · exact absurd rfl hz
              · rfl
            exact lv_dup2_11 hx hb d (by rw [km_cat_cv]; exact hz1) (by rw [km_cat_cv]; exact hz2) (K H locs lc h1 (km_voc g1 (km_voc g3 (km_voc g1 (km_voc g3 g4)))) h3 h4 h5 h6)
          · cases h
        · cases h
    · cases h
  | goto o =>
    have hn : n = 3 := by simpa [km_len] using hlen
    subst hn
    simp only [km_ex] at h
    exact km_r_goto C d h K
  | ifCond cc o =>
    have hn : n = 3 := by simpa [km_len] using hlen
    subst hn
    simp only [km_ex] at h
    split at h
    · exact km_r_if C d h K
    · cases h
  | if_icmp cc o =>
    have hn : n = 3 := by simpa [km_len] using hlen
    subst hn
    simp only [km_ex] at h
    split at h
    · exact km_r_icmp C d h K
    · cases h
  | tableswitch dd lo hi offs =>
    simp only [km_ex] at h
    split at h
    · exact km_r_tsw C d h K
    · cases h
  | lookupswitch dd ps =>
    simp only [km_ex] at h
    split at h
    · exact km_r_lsw C d h K
    · cases h
  | getfield k =>
    have hn : n = 3 := by simpa [km_len] using hlen
    subst hn
    simp only [km_ex] at h
    exact km_r_getf C d h K
  | putfield k =>
    have hn : n = 3 := by simpa [km_len] using hlen
    subst hn
    simp only [km_ex] at h
    exact km_r_putf C d h K
  | iaload =>
    have hn : n = 1 := by simpa [km_len] using hlen
    subst hn
    simp only [km_ex] at h
    exact km_r_sld C d h K
  | laload =>
    have hn : n = 1 := by simpa [km_len] using hlen
    subst hn
    simp only [km_ex] at h
    exact km_r_ald (Or.inr (Or.inl ⟨rfl, rfl⟩)) C d h K
  | baload =>
    have hn : n = 1 := by simpa [km_len] using hlen
    subst hn
    simp only [km_ex] at h
    exact km_r_ald (Or.inr (Or.inr (Or.inl ⟨rfl, rfl⟩))) C d h K
  | aaload =>
    have hn : n = 1 := by simpa [km_len] using hlen
    subst hn
    simp only [km_ex] at h
    exact km_r_ald (Or.inr (Or.inr (Or.inr ⟨rfl, rfl⟩))) C d h K
  | iastore =>
    have hn : n = 1 := by simpa [km_len] using hlen
    subst hn
    simp only [km_ex] at h
    exact km_r_ast (Or.inl ⟨rfl, rfl⟩) C d h K
  | lastore =>
    have hn : n = 1 := by simpa [km_len] using hlen
    subst hn
    simp only [km_ex] at h
    exact km_r_ast (Or.inr (Or.inl ⟨rfl, rfl⟩)) C d h K
  | bastore =>
    have hn : n = 1 := by simpa [km_len] using hlen
    subst hn
    simp only [km_ex] at h
    exact km_r_ast (Or.inr (Or.inr ⟨rfl, rfl⟩)) C d h K
  | arraylength =>
    have hn : n = 1 := by simpa [km_len] using hlen
    subst hn
    simp only [km_ex] at h
    exact km_r_alen C d h K
  | new k =>
    have hn : n = 3 := by simpa [km_len] using hlen
    subst hn
    simp only [km_ex] at h
    exact km_r_newo C d h hc hR K
  | newarray t =>
    have hn : n = 2 := by simpa [km_len] using hlen
    subst hn
    simp only [km_ex] at h
    cases t with
    | int => exact km_r_newa (Or.inl ⟨rfl, rfl⟩) C d h hc hR K
    | long => exact km_r_newa (Or.inr (Or.inl ⟨rfl, rfl⟩)) C d h hc hR K
    | boolean => exact km_r_newa (Or.inr (Or.inr ⟨rfl, rfl⟩)) C d h hc hR K
    | _ => cases h
  | multianewarray k dd =>
    have hn : n = 4 := by simpa [km_len] using hlen
    subst hn
    simp only [km_ex] at h
    split at h
    · next hz =>
      obtain ⟨rfl, hz⟩ := hz
      have h9 := km_lm2_all M.2.1 k (by simpa using hz)
      exact km_r_newm ((hq s C.2.2.2.2.2.2.2.2.1.2).1) h9 C d h hc hR K
    · cases h
  | invokespecial k =>
    have hn : n = 3 := by simpa [km_len] using hlen
    subst hn
    simp only [km_ex] at h
    split at h
    · next hz =>
      split at h
      · next x r =>
        split at h
        · next hz2 =>
          obtain ⟨rfl, rfl, rfl, rfl, rfl⟩ := km_nxe h
          have h9 := km_lo_all M.2.1 k (by unfold km_isObjInit at hz; simpa using hz)
          intro H locs lc h1 h2 h3 h4 h5 h6
          obtain ⟨g1, g2⟩ := km_vos h2
          by_cases hx9 : x = -1
          · exact absurd hx9 hz2.2.2
          · rw [List.map_cons, km_rvne hx9]
            obtain ⟨a1, a2⟩ := hRm
            obtain ⟨b1, b2, -⟩ := hz2
            refine W.objInit hx hb hown (hts _ h9) (hts _ km_objI) (hts _ km_objC) (g := F0 me pc lc (.ref (km_ad w x) :: r.map (km_cv (km_ad w)))) rfl (by rw [C.2.2.1]; exact h1.2.1.1) rfl d (by omega) (by rw [km_cats]; show 2 * 0 + _ + 12 ≤ _; omega) ?_
            exact K H locs lc h1 g2 h3 h4 h5 h6
        · cases h
      · cases h
    · exact (km_no_call h).elim
  | invokevirtual k =>
    have hn : n = 3 := by simpa [km_len] using hlen
    subst hn
    simp only [km_ex] at h
    split at h
    · next o ho => exact hSx p e R s me args below meth c M c0 s0 Q (.invokevirtual k) 3 pc pc' ls ls' st st' A A' m m' d rfl (by simp only [km_xs9, ho]; exact h) C hRm hc hR K
    · exact (km_no_call h).elim
  | invokestatic k =>
    have hn : n = 3 := by simpa [km_len] using hlen
    subst hn
    simp only [km_ex] at h
    split at h
    · next o ho => exact km_r_op C hRm d ho h hR K
    · exact (km_no_call h).elim
  | ireturn => simp only [km_ex] at h; exact (km_no_ret h).elim
  | lreturn => simp only [km_ex] at h; exact (km_no_ret h).elim
  | return_ => simp only [km_ex] at h; exact (km_no_ret h).elim
  | _ => simp only [km_ex] at h; cases h
end ROWS
