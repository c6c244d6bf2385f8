/-! ===== one instruction of the small machine is one of the real one ===== -/
/-- where a walk stands: the machine, the method's code, the words, the classes -/
def km_Cx (p : Program) (s : State) (me : MethodId) (args : Array Value) (meth : Method) (c : Code) (w : km_Pr) (M : km_Md) : Prop :=
  p.tables.exec = Jvm.exec ∧ c.code = M.1 ∧ c.maxLocals = M.2.2.2.1 ∧ s.vm.findClass (km_cn M.2.1) = some me.cls ∧ (∀ x ∈ km_gw, x.before args s = true) ∧ meth.locks = false ∧ (M.2.2.2.2.2.2.2 = 2 → meth.name = "<init>") ∧
  va_K (km_D w) vwCl (km_tys w) s ∧ (va_X (km_ad w (-2)) (km_L w) (km_xs w) s s.heap ∧ km_E2 w s) ∧ km_gd w ∧ km_bs w ≤ s.heap.size
def km_W (p : Program) (l : Launch) (e : Env) (R : Room) (s : State) (me : MethodId) (args : Array Value) (below : List Frame) (meth : Method) (c : Code) (w : km_Pr) (M : km_Md) (c0 s0 : Nat) (Q : State → Prop) (pc : Nat) (ls : km_Ls) (st : List km_V) (A : km_Al) (m : km_Mm) : Prop :=
  ∀ (H : Heap) (locs : List Loc) (lc : Array Slot), km_lm (km_ad w) M.2.2.2.1 ls lc → (∀ v ∈ st, km_vo v) → km_Rg w A m → km_P w A m H → va_S (km_A w) s.heap H locs → (A.2.2.2.2.1 = A.1 → H.size = km_bs w + A.1) →
    W p l e R s me args below meth c H locs (A.2.2.2.2.1 - c0) (A.2.2.2.2.2 - s0) Q (F0 me pc lc (st.map (km_cv (km_ad w))))
section ROWS
variable {p : Program} {l : Launch} {e : Env} {R : Room} {s : State} {me : MethodId} {args : Array Value} {below : List Frame} {meth : Method} {c : Code} {w : km_Pr} {M : km_Md} {c0 s0 : Nat} {Q : State → Prop}
variable {pc nx pc' : Nat} {ls ls' : km_Ls} {st st' : List km_V} {A A' : km_Al} {m m' : km_Mm}
theorem km_vos {v : km_V} {r : List km_V} (h : ∀ u ∈ v :: r, km_vo u) : km_vo v ∧ ∀ u ∈ r, km_vo u := ⟨h v List.mem_cons_self, fun u q => h u (List.mem_cons_of_mem _ q)⟩
theorem km_voc {v : km_V} {r : List km_V} (h1 : km_vo v) (h2 : ∀ u ∈ r, km_vo u) : ∀ u ∈ v :: r, km_vo u := fun u q => by
  rcases List.mem_cons.mp q with rfl | q
  · exact h1
  · exact h2 u q
theorem km_rvne {ad : Int → Nat} {x : Int} (h : x ≠ -1) : km_cv ad (.inr (.inr x)) = .ref (ad x) := by
  show km_rv ad x = _
  unfold km_rv
  rw [if_neg h]
/-- the next is (nx, ls, st, A, m) -/
theorem km_nxe (h : km_nx nx ls st A m = some (.inl (pc', ls', st', A', m'))) : nx = pc' ∧ ls = ls' ∧ st = st' ∧ A = A' ∧ m = m' := by
  unfold km_nx at h
  cases h
  exact ⟨rfl, rfl, rfl, rfl, rfl⟩
theorem km_r_push {v : km_V} (hv : km_vo v) (h : km_nx nx ls (v :: st) A m = some (.inl (pc', ls', st', A', m')))
    (row : ∀ (H : Heap) (locs : List Loc) (lc : Array Slot) (q1 q2 : Nat), W p l e R s me args below meth c H locs q1 q2 Q (F0 me nx lc (km_cv (km_ad w) v :: st.map (km_cv (km_ad w)))) → W p l e R s me args below meth c H locs q1 q2 Q (F0 me pc lc (st.map (km_cv (km_ad w)))))
    (K : km_W p l e R s me args below meth c w M c0 s0 Q pc' ls' st' A' m') : km_W p l e R s me args below meth c w M c0 s0 Q pc ls st A m := by
  obtain ⟨rfl, rfl, rfl, rfl, rfl⟩ := km_nxe h
  intro H locs lc h1 h2 h3 h4 h5 h6
  exact row H locs lc _ _ (K H locs lc h1 (km_voc hv h2) h3 h4 h5 h6)
theorem km_r_iload {i : Nat} (C : km_Cx p s me args meth c w M) (h : km_iload i nx ls st A m = some (.inl (pc', ls', st', A', m')))
    (row : ∀ (H : Heap) (locs : List Loc) (lc : Array Slot) (q1 q2 : Nat) (x : Int32), lc[i]? = some (.val (.int x)) → W p l e R s me args below meth c H locs q1 q2 Q (F0 me nx lc (.int x :: st.map (km_cv (km_ad w)))) → W p l e R s me args below meth c H locs q1 q2 Q (F0 me pc lc (st.map (km_cv (km_ad w)))))
    (K : km_W p l e R s me args below meth c w M c0 s0 Q pc' ls' st' A' m') : km_W p l e R s me args below meth c w M c0 s0 Q pc ls st A m := by
  unfold km_iload at h
  split at h
  · next x hx =>
    obtain ⟨rfl, rfl, rfl, rfl, rfl⟩ := km_nxe h
    intro H locs lc h1 h2 h3 h4 h5 h6
    obtain ⟨g1, g2⟩ := h1.at hx
    exact row H locs lc _ _ _ g1 (K H locs lc h1 (km_voc g2 h2) h3 h4 h5 h6)
  · cases h
theorem km_r_lload {i : Nat} (C : km_Cx p s me args meth c w M) (h : km_lload i nx ls st A m = some (.inl (pc', ls', st', A', m')))
    (row : ∀ (H : Heap) (locs : List Loc) (lc : Array Slot) (q1 q2 : Nat) (x : Int64), lc[i]? = some (.val (.long x)) → W p l e R s me args below meth c H locs q1 q2 Q (F0 me nx lc (.long x :: st.map (km_cv (km_ad w)))) → W p l e R s me args below meth c H locs q1 q2 Q (F0 me pc lc (st.map (km_cv (km_ad w)))))
    (K : km_W p l e R s me args below meth c w M c0 s0 Q pc' ls' st' A' m') : km_W p l e R s me args below meth c w M c0 s0 Q pc ls st A m := by
  unfold km_lload at h
  split at h
  · next x hx =>
    obtain ⟨rfl, rfl, rfl, rfl, rfl⟩ := km_nxe h
    intro H locs lc h1 h2 h3 h4 h5 h6
    obtain ⟨g1, g2⟩ := h1.at hx
    exact row H locs lc _ _ _ g1 (K H locs lc h1 (km_voc g2 h2) h3 h4 h5 h6)
  · cases h
theorem km_r_aload {i : Nat} (C : km_Cx p s me args meth c w M) (h : km_aload i nx ls st A m = some (.inl (pc', ls', st', A', m')))
    (row : ∀ (H : Heap) (locs : List Loc) (lc : Array Slot) (q1 q2 : Nat) (x : Nat), lc[i]? = some (.val (.ref x)) → W p l e R s me args below meth c H locs q1 q2 Q (F0 me nx lc (.ref x :: st.map (km_cv (km_ad w)))) → W p l e R s me args below meth c H locs q1 q2 Q (F0 me pc lc (st.map (km_cv (km_ad w)))))
    (K : km_W p l e R s me args below meth c w M c0 s0 Q pc' ls' st' A' m') : km_W p l e R s me args below meth c w M c0 s0 Q pc ls st A m := by
  unfold km_aload at h
  split at h
  · next x hx =>
    split at h
    · cases h
    · next hn =>
      obtain ⟨rfl, rfl, rfl, rfl, rfl⟩ := km_nxe h
      intro H locs lc h1 h2 h3 h4 h5 h6
      obtain ⟨g1, g2⟩ := h1.at hx
      have K1 := K H locs lc h1 (km_voc g2 h2) h3 h4 h5 h6
      rw [km_rvne hn] at g1
      rw [List.map_cons, km_rvne hn] at K1
      exact row H locs lc _ _ _ g1 K1
  · cases h
theorem km_r_istore {i : Nat} (C : km_Cx p s me args meth c w M) (h : km_istore i nx ls st A m = some (.inl (pc', ls', st', A', m')))
    (row : ∀ (H : Heap) (locs : List Loc) (lc : Array Slot) (q1 q2 nL : Nat) (lv : List (Nat × Value)) (x : Int32) (r : List Value), lv_has lc nL lv → i < nL → (∀ lc' : Array Slot, lv_has lc' nL ((i, .int x) :: lv.filter (fun q => !(q.1 == i) && !(q.1 + 1 == i && q.2.category == 2))) → W p l e R s me args below meth c H locs q1 q2 Q (F0 me nx lc' r)) → W p l e R s me args below meth c H locs q1 q2 Q (F0 me pc lc (.int x :: r)))
    (K : km_W p l e R s me args below meth c w M c0 s0 Q pc' ls' st' A' m') : km_W p l e R s me args below meth c w M c0 s0 Q pc ls st A m := by
  unfold km_istore at h
  split at h
  · next x r =>
    split at h
    · next hi =>
      obtain ⟨rfl, rfl, rfl, rfl, rfl⟩ := km_nxe h
      intro H locs lc h1 h2 h3 h4 h5 h6
      obtain ⟨g1, g2⟩ := km_vos h2
      refine row H locs lc _ _ _ _ _ _ h1.2.1 (h1.1 ▸ hi) (fun lc' h' => ?_)
      exact K H locs lc' (h1.set1 hi g1 h') g2 h3 h4 h5 h6
    · cases h
  · cases h
theorem km_r_lstore {i : Nat} (C : km_Cx p s me args meth c w M) (h : km_lstore i nx ls st A m = some (.inl (pc', ls', st', A', m')))
    (row : ∀ (H : Heap) (locs : List Loc) (lc : Array Slot) (q1 q2 nL : Nat) (lv : List (Nat × Value)) (x : Int64) (r : List Value), lv_has lc nL lv → i + 1 < nL → (∀ lc' : Array Slot, lv_has lc' nL ((i, .long x) :: lv.filter (fun q => !(q.1 == i) && (!(q.1 == i + 1) && !(q.1 + 1 == i && q.2.category == 2)))) → W p l e R s me args below meth c H locs q1 q2 Q (F0 me nx lc' r)) → W p l e R s me args below meth c H locs q1 q2 Q (F0 me pc lc (.long x :: r)))
    (K : km_W p l e R s me args below meth c w M c0 s0 Q pc' ls' st' A' m') : km_W p l e R s me args below meth c w M c0 s0 Q pc ls st A m := by
  unfold km_lstore at h
  split at h
  · next x r =>
    split at h
    · next hi =>
      obtain ⟨rfl, rfl, rfl, rfl, rfl⟩ := km_nxe h
      intro H locs lc h1 h2 h3 h4 h5 h6
      obtain ⟨g1, g2⟩ := km_vos h2
      refine row H locs lc _ _ _ _ _ _ h1.2.1 (h1.1 ▸ hi) (fun lc' h' => ?_)
      exact K H locs lc' (h1.set2 hi g1 h') g2 h3 h4 h5 h6
    · cases h
  · cases h
theorem km_r_astore {i : Nat} (C : km_Cx p s me args meth c w M) (h : km_astore i nx ls st A m = some (.inl (pc', ls', st', A', m')))
    (row : ∀ (H : Heap) (locs : List Loc) (lc : Array Slot) (q1 q2 nL : Nat) (lv : List (Nat × Value)) (x : Nat) (r : List Value), lv_has lc nL lv → i < nL → (∀ lc' : Array Slot, lv_has lc' nL ((i, .ref x) :: lv.filter (fun q => !(q.1 == i) && !(q.1 + 1 == i && q.2.category == 2))) → W p l e R s me args below meth c H locs q1 q2 Q (F0 me nx lc' r)) → W p l e R s me args below meth c H locs q1 q2 Q (F0 me pc lc (.ref x :: r)))
    (K : km_W p l e R s me args below meth c w M c0 s0 Q pc' ls' st' A' m') : km_W p l e R s me args below meth c w M c0 s0 Q pc ls st A m := by
  unfold km_astore at h
  split at h
  · next x r =>
    split at h
    · next hi =>
      obtain ⟨rfl, rfl, rfl, rfl, rfl⟩ := km_nxe h
      intro H locs lc h1 h2 h3 h4 h5 h6
      obtain ⟨g1, g2⟩ := km_vos h2
      rw [List.map_cons, km_rvne hi.2]
      refine row H locs lc _ _ _ _ _ _ h1.2.1 (h1.1 ▸ hi.1) (fun lc' h' => ?_)
      exact K H locs lc' (h1.set1 hi.1 g1 (by rw [km_rvne hi.2]; exact h')) g2 h3 h4 h5 h6
    · cases h
  · cases h
theorem km_r_iinc {i : Nat} {k : Int} (C : km_Cx p s me args meth c w M) (d : decode M.1 pc = .ok (.iinc i k, 3)) (h : km_iinc i k (pc + 3) ls st A m = some (.inl (pc', ls', st', A', m')))
    (K : km_W p l e R s me args below meth c w M c0 s0 Q pc' ls' st' A' m') : km_W p l e R s me args below meth c w M c0 s0 Q pc ls st A m := by
  unfold km_iinc at h
  split at h
  · next x hx =>
    split at h
    · next z hz =>
      split at h
      · next hi =>
        obtain ⟨rfl, rfl, rfl, rfl, rfl⟩ := km_nxe h
        obtain ⟨rfl, hz2⟩ := km_ckS hz
        intro H locs lc h1 h2 h3 h4 h5 h6
        obtain ⟨g1, g2⟩ := h1.at hx
        have hx1 : ls[i]? = some (some (.inl x)) := by
          unfold km_get at hx
          rw [List.getD_eq_getElem?_getD] at hx
          cases hq : ls[i]? with
          | none => rw [hq] at hx; cases hx
          | some o => rw [hq] at hx; exact congrArg some hx
        obtain ⟨k9, hk9⟩ := List.getElem?_of_mem (km_lv_mem (ad := km_ad w) (i := 0).mpr ⟨i, _, hx1, rfl⟩)
        rw [Nat.zero_add] at hk9
        refine lv_iinc (v := Int32.ofInt (x + k)) C.1 C.2.1 d h1.2.1 hk9 (by rw [Int32.ofInt_add]) (h1.1 ▸ hi) rfl (fun lc' h' => ?_)
        exact K H locs lc' (h1.set1 hi hz2 h') h2 h3 h4 h5 h6
      · cases h
    · cases h
  · cases h
theorem km_r_b2 {f : Int → Int → Option Int} (h : km_b2 f nx ls st A m = some (.inl (pc', ls', st', A', m')))
    (hf : ∀ x y z : Int, -2147483648 ≤ x ∧ x ≤ 2147483647 → -2147483648 ≤ y ∧ y ≤ 2147483647 → f x y = some z → (-2147483648 ≤ z ∧ z ≤ 2147483647) ∧
      ∀ (H : Heap) (locs : List Loc) (lc : Array Slot) (q1 q2 : Nat) (r : List Value), W p l e R s me args below meth c H locs q1 q2 Q (F0 me nx lc (.int (Int32.ofInt z) :: r)) → W p l e R s me args below meth c H locs q1 q2 Q (F0 me pc lc (.int (Int32.ofInt y) :: .int (Int32.ofInt x) :: r)))
    (K : km_W p l e R s me args below meth c w M c0 s0 Q pc' ls' st' A' m') : km_W p l e R s me args below meth c w M c0 s0 Q pc ls st A m := by
  unfold km_b2 at h
  split at h
  · next y x r =>
    split at h
    · next z hz =>
      obtain ⟨rfl, rfl, rfl, rfl, rfl⟩ := km_nxe h
      intro H locs lc h1 h2 h3 h4 h5 h6
      obtain ⟨g1, g2⟩ := km_vos h2
      obtain ⟨g3, g4⟩ := km_vos g2
      obtain ⟨r1, r2⟩ := hf x y z g3 g1 hz
      exact r2 H locs lc _ _ _ (K H locs lc h1 (km_voc r1 g4) h3 h4 h5 h6)
    · cases h
  · cases h
theorem km_r_b2L {f : Int → Int → Option Int} (h : km_b2L f nx ls st A m = some (.inl (pc', ls', st', A', m')))
    (hf : ∀ x y z : Int, -9223372036854775808 ≤ x ∧ x ≤ 9223372036854775807 → -9223372036854775808 ≤ y ∧ y ≤ 9223372036854775807 → f x y = some z → (-9223372036854775808 ≤ z ∧ z ≤ 9223372036854775807) ∧
      ∀ (H : Heap) (locs : List Loc) (lc : Array Slot) (q1 q2 : Nat) (r : List Value), W p l e R s me args below meth c H locs q1 q2 Q (F0 me nx lc (.long (Int64.ofInt z) :: r)) → W p l e R s me args below meth c H locs q1 q2 Q (F0 me pc lc (.long (Int64.ofInt y) :: .long (Int64.ofInt x) :: r)))
    (K : km_W p l e R s me args below meth c w M c0 s0 Q pc' ls' st' A' m') : km_W p l e R s me args below meth c w M c0 s0 Q pc ls st A m := by
  unfold km_b2L at h
  split at h
  · next y x r =>
    split at h
    · next z hz =>
      obtain ⟨rfl, rfl, rfl, rfl, rfl⟩ := km_nxe h
      intro H locs lc h1 h2 h3 h4 h5 h6
      obtain ⟨g1, g2⟩ := km_vos h2
      obtain ⟨g3, g4⟩ := km_vos g2
      obtain ⟨r1, r2⟩ := hf x y z g3 g1 hz
      exact r2 H locs lc _ _ _ (K H locs lc h1 (km_voc r1 g4) h3 h4 h5 h6)
    · cases h
  · cases h
end ROWS
