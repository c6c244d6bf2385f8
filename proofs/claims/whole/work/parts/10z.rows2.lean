/-! ===== an array of int arrays, made row by row ===== -/
section KWM
/-- the outer array when i rows are there -/
def kw_out (cA : ClassId) (N h i : Nat) : Cell := arrV cA N (fun j => va_rf (if j < i then some (h + 1 + j) else none))
def kw_row (cI : ClassId) (K : Nat) : Cell := arrV cI K (fun _ => .int 0)
theorem kw_out_z (cA : ClassId) (N h : Nat) : ({ cls := cA, slots := Array.replicate N .null, vm := .none } : Cell) = kw_out cA N h 0 := by
  unfold kw_out
  rw [arrV_new]
  refine congrArg (arrV cA N) (funext fun j => ?_)
  simp [va_rf]
theorem kw_out_s (cA : ClassId) (N h i : Nat) : (kw_out cA N h i).setSlot i (.ref (h + 1 + i)) = kw_out cA N h (i + 1) := by
  unfold kw_out
  rw [arrV_store]
  refine congrArg (arrV cA N) (funext fun j => ?_)
  by_cases e : j = i
  · subst e
    simp [updV, va_rf]
  · by_cases h9 : j < i
    · simp [updV, e, h9, Nat.lt_succ_of_lt h9]
    · simp [updV, e, h9, show ¬ j < i + 1 by omega]
theorem kw_out_n (cA : ClassId) (N h i : Nat) : (kw_out cA N h i).slots.size = N := by simp [kw_out, arrV]
theorem kw_row_n (cI : ClassId) (K : Nat) : (kw_row cI K).slots.size = K := by simp [kw_row, arrV]
/-- the state when i rows are there -/
def kw_fil (S : State) (cA cI : ClassId) (N K : Nat) : Nat → State
  | 0 => S.pushCell (kw_out cA N S.heap.size 0)
  | i + 1 => ((kw_fil S cA cI N K i).pushCell (kw_row cI K)).setCell S.heap.size (kw_out cA N S.heap.size (i + 1))
theorem kw_fil_at (S : State) (cA cI : ClassId) (N K : Nat) : ∀ i : Nat, ((kw_fil S cA cI N K i).heap.size = S.heap.size + 1 + i ∧ (kw_fil S cA cI N K i).heap[S.heap.size]? = some (kw_out cA N S.heap.size i)) ∧ ((kw_fil S cA cI N K i).vm = S.vm ∧ (kw_fil S cA cI N K i).slotsUsed = S.slotsUsed + N + i * K) ∧
    (∀ a : Nat, a < S.heap.size → (kw_fil S cA cI N K i).heap[a]? = S.heap[a]?) ∧ ∀ j : Nat, j < i → (kw_fil S cA cI N K i).heap[S.heap.size + 1 + j]? = some (kw_row cI K)
  | 0 => by
    refine ⟨⟨by simp [kw_fil], by simp [kw_fil]⟩, ⟨rfl, ?_⟩, fun a ha => ?_, fun j hj => absurd hj (Nat.not_lt_zero _)⟩
    · show S.slotsUsed + (kw_out cA N S.heap.size 0).slots.size = _
      rw [kw_out_n]
      omega
    · show (S.pushCell _).heap[a]? = _
      rw [State.heap_pushCell_of_lt (h := ha)]
  | i + 1 => by
    obtain ⟨⟨a1, a2⟩, ⟨a3, a4⟩, a5, a6⟩ := kw_fil_at S cA cI N K i
    have hlt : S.heap.size < (kw_fil S cA cI N K i).heap.size := by omega
    have hput : ∀ a : Nat, a ≠ S.heap.size → (kw_fil S cA cI N K (i + 1)).heap[a]? = ((kw_fil S cA cI N K i).pushCell (kw_row cI K)).heap[a]? := fun a ha => by
      show (((kw_fil S cA cI N K i).pushCell (kw_row cI K)).setCell S.heap.size _).heap[a]? = _
      rw [State.heap_setCell_other (fun q => ha q.symm)]
    refine ⟨⟨?_, ?_⟩, ⟨a3, ?_⟩, fun a ha => ?_, fun j hj => ?_⟩
    · simp [kw_fil, State.setCell, a1]
      omega
    · refine State.heap_setCell_self (c := kw_out cA N S.heap.size i) ?_
      rw [State.heap_pushCell_of_lt (h := hlt)]
      exact a2
    · show (kw_fil S cA cI N K i).slotsUsed + (kw_row cI K).slots.size = _
      rw [kw_row_n, a4, Nat.succ_mul]
      omega
    · have h9 : a < (kw_fil S cA cI N K i).heap.size := by omega
      rw [hput a (Nat.ne_of_lt ha), State.heap_pushCell_of_lt (h := h9)]
      exact a5 a ha
    · rw [hput _ (by omega)]
      by_cases e : j = i
      · subst e
        rw [← a1]
        exact State.heap_pushCell_size _ _
      · have h9 : S.heap.size + 1 + j < (kw_fil S cA cI N K i).heap.size := by omega
        rw [State.heap_pushCell_of_lt (h := h9)]
        exact a6 j (by omega)
theorem kw_fil_top (S : State) (f : JFrame) (cA cI : ClassId) (N K : Nat) : ∀ i : Nat, kw_fil (S.setTop f) cA cI N K i = (kw_fil S cA cI N K i).setTop f
  | 0 => rfl
  | i + 1 => by
    simp only [kw_fil, kw_fil_top S f cA cI N K i]
    rfl
section Walk
variable {p : Program} {l : Launch} {e : Env} {R : Room} {s : State} {m : MethodId} {args : Array Value} {below : List Frame} {meth : Method} {c : Code} {T : State} {locs : List Loc} {cells slots : Nat}
theorem kw_stand (X : Stand p l e R s m args below meth c T locs cells slots) (cA cI : ClassId) (N K : Nat) : ∀ i : Nat, ∃ L : List Loc, (∀ z ∈ L, z.base = T.heap.size) ∧ Stand p l e R s m args below meth c (kw_fil T cA cI N K i) (locs ++ L) (cells + (1 + i)) (slots + (N + i * K))
  | 0 => by
    refine ⟨[], fun z hz => (by cases hz), ?_⟩
    have h := X.pushed (kw_out cA N T.heap.size 0)
    rw [kw_out_n] at h
    rw [List.append_nil, Nat.zero_mul]
    exact h
  | i + 1 => by
    obtain ⟨L, hL, Xi⟩ := kw_stand X cA cI N K i
    obtain ⟨⟨a1, a2⟩, -, -, -⟩ := kw_fil_at T cA cI N K i
    have h9 : T.heap.size < (kw_fil T cA cI N K i).heap.size := by omega
    have h := (Xi.pushed (kw_row cI K)).stored (a := T.heap.size) (cell := kw_out cA N T.heap.size i) (by rw [State.heap_pushCell_of_lt (h := h9)]; exact a2) i (.ref (T.heap.size + 1 + i))
    rw [kw_row_n, kw_out_s, List.append_assoc] at h
    refine ⟨L ++ [⟨T.heap.size, i⟩], fun z hz => ?_, ?_⟩
    · rcases List.mem_append.mp hz with hz | hz
      · exact hL z hz
      · rw [List.mem_singleton.mp hz]
    · rw [show slots + (N + (i + 1) * K) = slots + (N + i * K) + K by rw [Nat.succ_mul]; omega]
      exact h
end Walk
section Make
variable {E : CtlPost} {e : Env} {d : Bool} {acts : List Action} {s : State}
theorem kw_make1 {cI cc : ClassId} {kI : Class} {k : Int32} {K : Nat} (hI : s.vm.classes[cI]? = some kI) (hkI : kI.kind = .array cc .int) (hk : ¬ k < 0) (hK : k.toNatClampNeg = K)
    (hl : ¬ K > e.platform.arrayLengthLimit) (hh : ¬ K * componentBytes .int > e.platform.maxHeapBytes) (h1 : s.heap.size < e.platform.maxCells) (h2 : s.slotsUsed + K ≤ e.platform.maxSlots)
    {Q : Addr → Pre} (hq : ∀ acts' : List Action, Q s.heap.size d acts' (s.pushCell (kw_row cI K))) : wp (multianewarray.make cI [k]) Q E e d acts s := by
  subst hK
  have hq' : ∀ acts' : List Action, Q s.heap.size d acts' (s.pushCell { cls := cI, slots := Array.replicate k.toNatClampNeg (defaultValue .int) }) := fun acts' => by
    have h := hq acts'
    unfold kw_row at h
    rw [← arrV_new] at h
    exact h
  unfold multianewarray.make
  simp only [wp_bind', W.ite, hk, if_false, wp_pure', W.theClass, hI, hkI, Option.some.injEq, exists_eq_left']
  exact W.newArray_of hI hkI hl hh h1 h2 rfl hq'
theorem kw_make2 {cA cI cc : ClassId} {kA kI : Class} {n k : Int32} {N K : Nat} (hA : s.vm.classes[cA]? = some kA) (hkA : kA.kind = .array cI (.array .int)) (hI : s.vm.classes[cI]? = some kI) (hkI : kI.kind = .array cc .int)
    (hn : ¬ n < 0) (hk : ¬ k < 0) (hN : n.toNatClampNeg = N) (hK : k.toNatClampNeg = K) (hl1 : ¬ N > e.platform.arrayLengthLimit) (hh1 : ¬ N * componentBytes (.array .int) > e.platform.maxHeapBytes)
    (hl2 : ¬ K > e.platform.arrayLengthLimit) (hh2 : ¬ K * componentBytes .int > e.platform.maxHeapBytes) (hc : s.heap.size + (1 + N) ≤ e.platform.maxCells) (hs : s.slotsUsed + (N + N * K) ≤ e.platform.maxSlots)
    {Q : Addr → Pre} (hq : ∀ (d' : Bool) (acts' : List Action), Q s.heap.size d' acts' (kw_fil s cA cI N K N)) : wp (multianewarray.make cA [n, k]) Q E e d acts s := by
  subst hN
  have hmul : ∀ i : Nat, i < n.toNatClampNeg → i * K + K ≤ n.toNatClampNeg * K := fun i hi => by
    have h := Nat.mul_le_mul_right K (show i + 1 ≤ n.toNatClampNeg from hi)
    rw [Nat.succ_mul] at h
    exact h
  have hnone : ([k].find? (· < 0)) = none := by simp [hk]
  unfold multianewarray.make
  simp only [wp_bind', W.ite, hn, if_false, wp_pure', W.theClass, hA, hkA, Option.some.injEq, exists_eq_left']
  refine W.newArray_of hA hkA hl1 hh1 (by omega) (by omega) rfl (fun acts1 => ?_)
  have e0 : s.pushCell { cls := cA, slots := Array.replicate n.toNatClampNeg .null } = kw_fil s cA cI n.toNatClampNeg K 0 := by
    show s.pushCell { cls := cA, slots := Array.replicate n.toNatClampNeg .null, vm := .none } = _
    rw [kw_out_z cA n.toNatClampNeg s.heap.size]
    rfl
  rw [e0]
  simp only [hnone, ite_self, wp_bind', Std.Legacy.Range.forIn_eq_forIn_range']
  rw [show ([:n.toNatClampNeg] : Std.Legacy.Range).size = n.toNatClampNeg by simp [Std.Legacy.Range.size]]
  refine wp_forIn_inv (fun rest s' => ∃ i, i + rest.length = n.toNatClampNeg ∧ rest = List.range' i rest.length ∧ s' = kw_fil s cA cI n.toNatClampNeg K i) _ _ ⟨0, ?_, ?_, rfl⟩ ?_ ?_
  · simp
  · simp
  · rintro x rest s' d' acts' Q' ⟨i, h1, h2, rfl⟩ hnext
    rw [List.length_cons] at h1 h2
    rw [List.range'_succ] at h2
    obtain ⟨rfl, h3⟩ := List.cons.inj h2
    obtain ⟨⟨a1, a2⟩, ⟨a3, a4⟩, -, -⟩ := kw_fil_at s cA cI n.toNatClampNeg K x
    have h5 := hmul x (by omega)
    simp only [wp_bind']
    refine kw_make1 (K := K) (by rw [a3]; exact hI) hkI hk hK hl2 hh2 (by omega) (by omega) (fun acts2 => ?_)
    simp only [wp_bind', W.writeLoc, wp_pure']
    refine ⟨kw_out cA n.toNatClampNeg s.heap.size x, ?_, ?_, ?_, ?_, hnext _ _ _ ⟨x + 1, by omega, h3, ?_⟩⟩
    · have h9 : s.heap.size < (kw_fil s cA cI n.toNatClampNeg K x).heap.size := by omega
      rw [State.heap_pushCell_of_lt (h := h9)]
      exact a2
    · show VmData.none ≠ _
      exact fun h => by cases h
    · rw [kw_out_n]
      omega
    · show State.fitsSlot _ cA .none x _ = true
      simp [State.fitsSlot, State.slotType?, a3, hA, hkA, fits]
    · rw [a1, kw_out_s]
      rfl
  · rintro s' d' acts' ⟨i, h1, h2, rfl⟩
    simp only [wp_pure']
    rw [show i = n.toNatClampNeg by simpa using h1]
    exact hq _ _
end Make
/-- what the word 'there is an array class over int arrays' says -/
theorem kw_over {args : Array Value} {s : State} (h : (Cond.arrayOver (.array .int)).before args s = true) : ∃ (cI cA : ClassId) (kA : Class), s.vm.findClass "[I" = some cI ∧ (s.vm.classes.findIdx? fun (x : Class) => match x.kind with | .array component _ => component == cI | _ => false) = some cA ∧ s.vm.classes[cA]? = some kA ∧ kA.kind = .array cI (.array .int) ∧ s.vm.findClass "[[I" = some cA := by
  simp only [Cond.before, Cond.holds, Cond.value, beq_iff_eq, Option.bind_eq_some_iff, Option.map_eq_some_iff] at h
  obtain ⟨cI, hI, cA, hidx, kA, hkA, hb⟩ := h
  have hfit := (Array.findIdx?_eq_some_iff_getElem.mp hidx).2.1
  rw [(Array.getElem?_eq_some_iff.mp hkA).2] at hfit
  revert hb hfit
  split
  · next c2 ty e2 =>
    intro hb hfit
    rw [Bool.and_eq_true, decide_eq_true_eq, decide_eq_true_eq] at hb
    have e3 : c2 = cI := by simpa [e2] using hfit
    exact ⟨cI, cA, kA, hI, hidx, hkA, by rw [e2, e3, hb.1], hb.2⟩
  · intro hb _
    exact absurd hb (by decide)
theorem kw_over_at {args args' : Array Value} {s U : State} (hal : s.vm.Alike U.vm) (h : (Cond.arrayOver (.array .int)).before args s = true) : (Cond.arrayOver (.array .int)).before args' U = true := by
  obtain ⟨cI, cA, kA, hI, hidx, hkA, hkind, hname⟩ := kw_over h
  obtain ⟨kU, hkU, eU⟩ := hal.2.2 _ _ hkA
  have hkindU : kU.kind = .array cI (.array .int) := by rw [eU]; exact hkind
  have u1 : U.vm.findClass (FieldType.toString (.array .int)) = some cI := by rw [hal.findClass]; exact hI
  have u2 : (U.vm.classes.findIdx? fun (x : Class) => match x.kind with | .array component _ => component == cI | _ => false) = some cA := (hal.findIdx?_eqK _ (fun _ => rfl)).trans hidx
  have u3 : U.vm.findClass ("[" ++ FieldType.toString (.array .int)) = some cA := by rw [hal.findClass]; exact hname
  simp only [Cond.before, Cond.holds, Cond.value, beq_iff_eq, Option.bind_eq_some_iff, Option.map_eq_some_iff]
  refine ⟨cI, u1, cA, u2, kU, hkU, ?_⟩
  rw [hkindU]
  simp [u3]
section Step
variable {p : Program} {l : Launch} {e : Env} {R : Room} {s : State} {m : MethodId} {args : Array Value} {below : List Frame} {meth : Method} {c : Code} {T : State} {locs : List Loc} {cells slots : Nat}
/-- the instruction -/
theorem kw_newm (X : Stand p l e R s m args below meth c T locs cells slots) (hexec : p.tables.exec = Jvm.exec) {own : String} {index : Nat} (hown : s.vm.findClass own = some m.cls) (hlink : (Cond.classLink own index "[[I").before args s = true)
    (hover : (Cond.arrayOver (.array .int)).before args s = true) (harr : (Cond.arrayClass .int).before args s = true) {g : JFrame} (hg : g.method = m) (hdg : decode c.code g.pc = .ok (.multianewarray index 2, 4)) {n k : Int32} {N K : Nat} {rest : List Value}
    (hstack : g.stack = .int k :: .int n :: rest) (hn : ¬ n < 0) (hk : ¬ k < 0) (hN : n.toNatClampNeg = N) (hK : k.toNatClampNeg = K) (hbN : N * 4 ≤ 536870912) (hbK : K * 4 ≤ 536870912) (hcells : cells + (1 + N) ≤ R.cells) (hslots : slots + (N + N * K) ≤ R.slots) :
    ∃ (vm₁ : Vm) (cA cI : ClassId) (L : List Loc), s.vm.findClass "[[I" = some cA ∧ s.vm.findClass "[I" = some cI ∧ (∀ z ∈ L, z.base = T.heap.size) ∧ Stand p l e R s m args below meth c (kw_fil (T.setVm vm₁) cA cI N K N) (locs ++ L) (cells + (1 + N)) (slots + (N + N * K)) ∧
      ∀ target : State, Steps p.tables e below ((kw_fil (T.setVm vm₁) cA cI N K N).setTop { g with pc := g.pc + 4, stack := .ref T.heap.size :: rest }) target → Steps p.tables e below (T.setTop g) target := by
  subst hg
  have hpl : e.platform.magicAccessors = ({} : Platform).magicAccessors := by rw [X.admits.platform]
  obtain ⟨cI, cA, kA, hI, -, hkA, hkindA, hname⟩ := kw_over hover
  obtain ⟨c2, kI, cc, hI2, hkI, hkindI⟩ := Cond.arrayClass_spec harr
  obtain rfl : c2 = cI := Option.some.inj (hI2.symm.trans hI)
  obtain ⟨c3, hc3, hcl⟩ := Cond.classLink_spec hown hlink e.platform hpl
  obtain rfl : c3 = cA := Option.some.inj (hc3.symm.trans hname)
  obtain ⟨hgives, hwarm, -⟩ := State.classEntry (e := e) X.warmed hcl
  generalize T.vm.noted g.method.cls index (.cls c3) = vm₁ at hgives hwarm
  have hal : s.vm.Alike vm₁ := hwarm.alike
  obtain ⟨kA1, hkA1, eA⟩ := hal.2.2 _ _ hkA
  obtain ⟨kI1, hkI1, eI⟩ := hal.2.2 _ _ hkI
  have kindA1 : kA1.kind = .array c2 (.array .int) := by rw [eA]; exact hkindA
  have kindI1 : kI1.kind = .array cc .int := by rw [eI]; exact hkindI
  have X1 := X.noted hwarm
  obtain ⟨r1, r2⟩ := X.roomAbove hcells hslots
  obtain ⟨L, hL, XF⟩ := kw_stand X1 c3 c2 N K N
  refine ⟨vm₁, c3, c2, L, hname, hI, hL, XF, fun target hrest => ?_⟩
  have hl1 : ¬ N > e.platform.arrayLengthLimit := by rw [Launch.admits_arrayLengthLimit X.admits]; omega
  have hl2 : ¬ K > e.platform.arrayLengthLimit := by rw [Launch.admits_arrayLengthLimit X.admits]; omega
  have hh1 : ¬ N * componentBytes (.array .int) > e.platform.maxHeapBytes := by
    rw [Launch.admits_maxHeapBytes X.admits]
    show ¬ N * 4 > 536870912
    omega
  have hh2 : ¬ K * componentBytes .int > e.platform.maxHeapBytes := by
    rw [Launch.admits_maxHeapBytes X.admits]
    show ¬ K * 4 > 536870912
    omega
  jvm_step X.here [hexec, hdg]
  simp only [multianewarray.sem, wp_bind', W.resolveClassAt_links (State.method?_setTop g X.here.top) hgives]
  rw [W.popN, if_neg (by decide)]
  refine ⟨g, State.topJava?_setTop' (s := T.setVm vm₁) g X.here.top, [.int n, .int k], rest, rfl, hstack, ?_⟩
  simp only [List.mapM_cons, List.mapM_nil, wp_bind', wp_pure']
  refine kw_make2 (s := ((T.setTop g).setVm vm₁).setTop { g with stack := rest }) (kA := kA1) (kI := kI1) (cI := c2) (cc := cc) (N := N) (K := K) hkA1 kindA1 hkI1 kindI1 hn hk hN hK hl1 hh1 hl2 hh2 r1 r2 (fun d' acts' => ?_)
  have eS : ((T.setTop g).setVm vm₁).setTop { g with stack := rest } = (T.setVm vm₁).setTop { g with stack := rest } := by
    show ((T.setVm vm₁).setTop g).setTop _ = _
    rw [State.setTop_setTop]
  rw [eS, kw_fil_top]
  simp only [wp_bind', W.mark, W.pushRef, State.topJava?_setTop' _ XF.here.top, Option.some.injEq, exists_eq_left', State.setTop_setTop, State.heap_setTop]
  intro acts
  simp [jvm, XF.here.top]
  exact hrest
end Step
end KWM
