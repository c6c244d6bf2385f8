/-! ===== the constant texts and the class's table of trait bounds, at the start and behind it ===== -/
def kz_A (s : State) : Nat → Prop := fun q => s.heap.size ≤ q
theorem kz_nA {s : State} : ∀ a : Nat, a < s.heap.size → ¬ kz_A s a := fun _ h q => absurd h (Nat.not_lt.mpr q)
theorem kz_hq {s U : State} (h : kz_E s U) : ∀ a : Nat, a < s.heap.size → ¬ kz_A s a → U.heap[a]? = s.heap[a]? := fun a h1 _ => h.2 a h1
theorem kz_upZ {C n d : String} {v : Value} {s U : State} (h : va_Z C n d v (kz_A s) s s.heap) (hE : kz_E s U) : va_Z C n d v (kz_A s) U U.heap := va_Z.moved hE.1.alike (h.kept (kz_hq hE))
theorem kz_upZq {C n d : String} {s U : State} (h : va_Zq C n d (kz_A s) s s.heap) (hE : kz_E s U) : va_Zq C n d (kz_A s) U U.heap := va_Zq.moved hE.1.alike (h.kept (kz_hq hE))
theorem kz_upO {C : String} {a : Nat} {s U : State} (h : va_O C a (kz_A s) s s.heap) (hE : kz_E s U) : va_O C a (kz_A s) U U.heap := va_O.moved hE.1.alike (h.kept (kz_hq hE))
theorem kz_upOF {C n d : String} {v : Value} {a : Nat} {s U : State} (h : va_OF C n d v a (kz_A s) s s.heap) (hE : kz_E s U) : va_OF C n d v a (kz_A s) U U.heap := va_OF.moved hE.1.alike (h.kept (kz_hq hE))
theorem kz_upT {ty : FieldType} {t N : Nat} {f : Nat → Value} {s U : State} (h : va_T ty t N f (kz_A s) s s.heap) (hE : kz_E s U) : va_T ty t N f (kz_A s) U U.heap := va_T.moved hE.1.alike (h.kept (kz_hq hE))
/-- a String of n bytes, Latin-1, at a, its bytes at d -/
def kz_St (A : Nat → Prop) (U : State) (a d n : Nat) (byt : List Int32) : Prop := va_O RJ0 a A U U.heap ∧ va_OF RJ0 "coder" "B" (.int 0) a A U U.heap ∧ va_OF RJ0 "value" "[B" (.ref d) a A U U.heap ∧ va_T .byte d n (fun j => .int (byt.getD j 0)) A U U.heap
theorem kz_upS {s U : State} {a d n : Nat} {byt : List Int32} (h : kz_St (kz_A s) s a d n byt) (hE : kz_E s U) : kz_St (kz_A s) U a d n byt := ⟨kz_upO h.1 hE, kz_upOF h.2.1 hE, kz_upOF h.2.2.1 hE, kz_upT h.2.2.2 hE⟩
theorem kz_at {args : Array Value} {s : State} (hgv : (Cond.and given_1 narrow_1).before args s = true) (i : Nat) {w : Cond} (h : (flatC (Cond.and given_1 narrow_1))[i]? = some w) : w.before args s = true := flat_of_before _ hgv _ (List.mem_of_getElem? h)
def kz_b3 : List Int32 := km_wl.map Int32.ofInt
def kz_b4 : List Int32 := [59, 40, 41, 43, 45, 42, 47, 37, 60, 61, 62]
def kz_b5 : List Int32 := [6, 4, 100, 4, 2]
theorem kz_fl3 : ∀ j : Nat, j < 132 → (flatC (Cond.and given_1 narrow_1))[51 + j]? = some (Cond.eq (.elem (.field (.string RX10 68) RJ0 "value" "[B") (.int (Int32.ofNat j))) (.int (kz_b3.getD j 0))) := by decide +kernel
theorem kz_fl4 : ∀ j : Nat, j < 11 → (flatC (Cond.and given_1 narrow_1))[187 + j]? = some (Cond.eq (.elem (.field (.string RX10 61) RJ0 "value" "[B") (.int (Int32.ofNat j))) (.int (kz_b4.getD j 0))) := by decide +kernel
theorem kz_fl5 : ∀ j : Nat, j < 5 → (flatC (Cond.and given_1 narrow_1))[12 + j]? = some (Cond.eq (.elem (.static RX1 "TRAIT_BOUNDS" "[I") (.int (Int32.ofNat j))) (.int (kz_b5.getD j 0))) := by decide +kernel
theorem kz_one {args : Array Value} {s : State} {own : String} {k n : Nat} {byt : List Int32} (hn : n < 2 ^ 31) (h1 : (Cond.exactly (.string own k) RJ0).before args s = true) (h2 : (Cond.eq (.field (.string own k) RJ0 "coder" "B") (.int 0)).before args s = true)
    (h3 : (Cond.arrayOf (.field (.string own k) RJ0 "value" "[B") .byte).before args s = true) (h4 : (Cond.eq (.length (.field (.string own k) RJ0 "value" "[B")) (.int (Int32.ofNat n))).before args s = true)
    (h5 : ∀ j : Nat, j < n → (Cond.eq (.elem (.field (.string own k) RJ0 "value" "[B") (.int (Int32.ofNat j))) (.int (byt.getD j 0))).before args s = true) : ∃ a d : Nat, (Term.string own k).eval args s none [] s = some (.ref a) ∧ kz_St (kz_A s) s a d n byt := by
  obtain ⟨a, c, cA, kA, q1, q2, q3, q4, q5, q6, -⟩ := Cond.exactly_spec (args := args) (first := s) (o := none) (s := s) (idx := []) (t := .string own k) (cls := RJ0) h1
  obtain ⟨d, ht, hT⟩ := va_Tof (f := fun j => Value.int (byt.getD j 0)) (A := kz_A s) hn h3 (va_eqt h4) (fun j hj => va_eqt (h5 j hj)) kz_nA
  exact ⟨a, d, q1, ⟨cA, q3, q5, by rw [q6]; exact q2, kz_nA a (Array.getElem?_eq_some_iff.mp q3).1⟩, vk_OFof q1 (va_eqt h2) kz_nA, vk_OFof q1 ht kz_nA, hT⟩
theorem kz_s3 {args : Array Value} {s : State} (hts : ∀ w ∈ lw_tbl, w.before args s = true) (hgv : (Cond.and given_1 narrow_1).before args s = true) : ∃ a d : Nat, vk_R RX10 68 "score bar pay host or and not if sum max min count land day fare come home branch age means can regret miles times last people mine " a s ∧ kz_St (kz_A s) s a d 132 kz_b3 := by
  obtain ⟨a, d, h1, h2⟩ := kz_one (own := RX10) (k := 68) (n := 132) (byt := kz_b3) (by decide) (kz_at hgv 47 (by decide +kernel)) (kz_at hgv 48 (by decide +kernel)) (kz_at hgv 49 (by decide +kernel)) (kz_at hgv 50 (by decide +kernel)) (fun j hj => kz_at hgv (51 + j) (kz_fl3 j hj))
  exact ⟨a, d, vk_R.of (hts _ (km_sg3 _ (List.mem_of_getElem? (i := 157) rfl))) h1, h2⟩
theorem kz_s4 {args : Array Value} {s : State} (hts : ∀ w ∈ lw_tbl, w.before args s = true) (hgv : (Cond.and given_1 narrow_1).before args s = true) : ∃ a d : Nat, vk_R RX10 61 ";()+-*/%<=>" a s ∧ kz_St (kz_A s) s a d 11 kz_b4 := by
  obtain ⟨a, d, h1, h2⟩ := kz_one (own := RX10) (k := 61) (n := 11) (byt := kz_b4) (by decide) (kz_at hgv 183 (by decide +kernel)) (kz_at hgv 184 (by decide +kernel)) (kz_at hgv 185 (by decide +kernel)) (kz_at hgv 186 (by decide +kernel)) (fun j hj => kz_at hgv (187 + j) (kz_fl4 j hj))
  exact ⟨a, d, vk_R.of (hts _ (km_sg3 _ (List.mem_of_getElem? (i := 218) rfl))) h1, h2⟩
theorem kz_sx {args : Array Value} {s : State} {own : String} {k : Nat} {tx : String} (h : (Cond.exactly (.string own k) RJ0).before args s = true) (hw : (Cond.stringRef own k tx).before args s = true) : ∃ a : Nat, vk_R own k tx a s := by
  obtain ⟨a, c, cA, kA, q1, -⟩ := Cond.exactly_spec (args := args) (first := s) (o := none) (s := s) (idx := []) (t := .string own k) (cls := RJ0) h
  exact ⟨a, vk_R.of hw q1⟩
theorem kz_s5 {args : Array Value} {s : State} (hts : ∀ w ∈ lw_tbl, w.before args s = true) (hgv : (Cond.and given_1 narrow_1).before args s = true) : ∃ a : Nat, vk_R RX11 377 "no such branch" a s :=
  kz_sx (kz_at hgv 199 (by decide +kernel)) (hts _ (km_sg7 _ (List.mem_of_getElem? (i := 68) rfl)))
theorem kz_s6 {args : Array Value} {s : State} (hts : ∀ w ∈ lw_tbl, w.before args s = true) (hgv : (Cond.and given_1 narrow_1).before args s = true) : ∃ a : Nat, vk_R RX11 384 "no such what" a s :=
  kz_sx (kz_at hgv 219 (by decide +kernel)) (hts _ (km_sg7 _ (List.mem_of_getElem? (i := 103) rfl)))
theorem kz_TB {args : Array Value} {s : State} (hts : ∀ w ∈ lw_tbl, w.before args s = true) (hgv : (Cond.and given_1 narrow_1).before args s = true) : ∃ t : Nat, va_Z RX1 "TRAIT_BOUNDS" "[I" (.ref t) (kz_A s) s s.heap ∧ va_T .int t 5 (fun j => .int (kz_b5.getD j 0)) (kz_A s) s s.heap := by
  obtain ⟨t, ht, hT⟩ := va_Tof (tm := .static RX1 "TRAIT_BOUNDS" "[I") (ty := .int) (N := 5) (f := fun j => Value.int (kz_b5.getD j 0)) (A := kz_A s) (by decide) (kz_at hgv 10 (by decide +kernel)) (va_eqt (kz_at hgv 11 (by decide +kernel))) (fun j hj => va_eqt (kz_at hgv (12 + j) (kz_fl5 j hj))) kz_nA
  exact ⟨t, va_Zref (hts _ (km_sg4 _ (List.mem_of_getElem? (i := 151) rfl))) (kz_gw hts _ km_ini1) ht kz_nA, hT⟩
theorem kz_CS {args : Array Value} {s : State} (hts : ∀ w ∈ lw_tbl, w.before args s = true) (hgv : (Cond.and given_1 narrow_1).before args s = true) : va_Z RJ0 "COMPACT_STRINGS" "Z" (.int 1) (kz_A s) s s.heap :=
  va_Zof (hts _ (km_sg3 _ (List.mem_of_getElem? (i := 167) rfl))) (hts _ (km_sg1 _ (List.mem_of_getElem? (i := 16) rfl))) (va_eqi (kz_at hgv 4 (by decide +kernel))) kz_nA
def kz_P3 : String := "jdk/internal/util/Preconditions"
theorem kz_SF {args : Array Value} {s : State} (hts : ∀ w ∈ lw_tbl, w.before args s = true) (hgv : (Cond.and given_1 narrow_1).before args s = true) : va_Zq kz_P3 "SIOOBE_FORMATTER" "Ljava/util/function/BiFunction;" (kz_A s) s s.heap :=
  va_Zqof (hts _ (km_sg3 _ (List.mem_of_getElem? (i := 183) rfl))) (hts _ (km_sg1 _ (List.mem_of_getElem? (i := 18) rfl))) (kz_at hgv 5 (by decide +kernel)) kz_nA
/-- what the texts' methods need of the start -/
def kz_F (s : State) (a3 d3 a4 d4 : Nat) : Prop := kz_St (kz_A s) s a3 d3 132 kz_b3 ∧ kz_St (kz_A s) s a4 d4 11 kz_b4 ∧ va_Z RJ0 "COMPACT_STRINGS" "Z" (.int 1) (kz_A s) s s.heap ∧ va_Zq kz_P3 "SIOOBE_FORMATTER" "Ljava/util/function/BiFunction;" (kz_A s) s s.heap
