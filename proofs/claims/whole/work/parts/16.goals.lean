/-! ===== goals over the small machine: G (from here the method ends with Q), E (a call ends with Q) ===== -/
def km_G (M : km_Md) (pc : Nat) (ls : km_Ls) (st : List km_V) (A : km_Al) (m : km_Mm) (Q : Option km_V → km_Al → km_Mm → Prop) : Prop := ∃ (n : Nat) (x : Option km_V) (A' : km_Al) (m' : km_Mm), km_run n M pc ls st A m = some (x, A', m') ∧ Q x A' m'
def km_E (M : km_Md) (as : List km_V) (A : km_Al) (m : km_Mm) (Q : Option km_V → km_Al → km_Mm → Prop) : Prop := ∃ (n : Nat) (x : Option km_V) (A' : km_Al) (m' : km_Mm), (if 10 ≤ M.2.2.2.2.2.2.2 then km_intr M as A m else km_run n M 0 (km_entry M.2.2.2.1 as) [] A m) = some (x, A', m') ∧ Q x A' m'
theorem km_run_up : ∀ (n : Nat) (M : km_Md) (pc : Nat) (ls : km_Ls) (st : List km_V) (A : km_Al) (m : km_Mm) (r : km_Rs), km_run n M pc ls st A m = some r → km_run (n + 1) M pc ls st A m = some r
  | 0, M, pc, ls, st, A, m, r, h => by cases h
  | n + 1, M, pc, ls, st, A, m, r, h => by
    rw [km_run] at h ⊢
    split at h
    · cases h
    · next pc1 ls1 st1 A1 m1 hs => exact km_run_up n _ _ _ _ _ _ _ h
    · next M1 as nx rest hs =>
      split at h
      · cases h
      · next v A1 m1 hr =>
        have h1 : (if 10 ≤ M1.2.2.2.2.2.2.2 then km_intr M1 as A m else km_run (n + 1) M1 0 (km_entry M1.2.2.2.1 as) [] A m) = some (v, A1, m1) := by
          split at hr
          · next q => rw [if_pos q]; exact hr
          · next q => rw [if_neg q]; exact km_run_up n _ _ _ _ _ _ _ hr
        rw [h1]
        exact km_run_up n _ _ _ _ _ _ _ h
    · exact h
theorem km_run_le {n k : Nat} (hk : n ≤ k) {M : km_Md} {pc : Nat} {ls : km_Ls} {st : List km_V} {A : km_Al} {m : km_Mm} {r : km_Rs} (h : km_run n M pc ls st A m = some r) : km_run k M pc ls st A m = some r := by
  induction hk with
  | refl => exact h
  | step _ ih => exact km_run_up _ _ _ _ _ _ _ _ ih
section GL
variable {M : km_Md} {pc nx : Nat} {ls ls' : km_Ls} {st st' r : List km_V} {A A' : km_Al} {m m' : km_Mm} {Q Q' : Option km_V → km_Al → km_Mm → Prop}
theorem km_G.next {pc' : Nat} (h : km_step M pc ls st A m = some (.inl (pc', ls', st', A', m'))) : km_G M pc ls st A m Q ↔ km_G M pc' ls' st' A' m' Q := by
  constructor
  · rintro ⟨n, x, A1, m1, h1, h2⟩
    cases n with
    | zero => cases h1
    | succ n =>
      rw [km_run, h] at h1
      exact ⟨n, x, A1, m1, h1, h2⟩
  · rintro ⟨n, x, A1, m1, h1, h2⟩
    exact ⟨n + 1, x, A1, m1, by rw [km_run, h]; exact h1, h2⟩
theorem km_G.ret {x : Option km_V} (h : km_step M pc ls st A m = some (.inr (.inr x))) : km_G M pc ls st A m Q ↔ Q x A m := by
  constructor
  · rintro ⟨n, x1, A1, m1, h1, h2⟩
    cases n with
    | zero => cases h1
    | succ n =>
      rw [km_run, h] at h1
      cases h1
      exact h2
  · intro h2
    exact ⟨1, x, A, m, by rw [km_run, h], h2⟩
theorem km_G.none (h : km_step M pc ls st A m = none) : km_G M pc ls st A m Q ↔ False := by
  constructor
  · rintro ⟨n, x1, A1, m1, h1, h2⟩
    cases n with
    | zero => cases h1
    | succ n =>
      rw [km_run, h] at h1
      cases h1
  · intro h2
    exact h2.elim
theorem km_G.call {M1 : km_Md} {as rest : List km_V} (h : km_step M pc ls st A m = some (.inr (.inl (M1, as, nx, rest)))) : km_G M pc ls st A m Q ↔ km_E M1 as A m (fun v A' m' => km_G M nx ls (v.toList ++ rest) A' m' Q) := by
  constructor
  · rintro ⟨n, x1, A1, m1, h1, h2⟩
    cases n with
    | zero => cases h1
    | succ n =>
      rw [km_run, h] at h1
      dsimp only at h1
      split at h1
      · cases h1
      · next v A2 m2 hr => exact ⟨n, v, A2, m2, hr, n, x1, A1, m1, h1, h2⟩
  · rintro ⟨n, v, A2, m2, hr, n2, x1, A1, m1, h1, h2⟩
    refine ⟨n + n2 + 1, x1, A1, m1, ?_, h2⟩
    rw [km_run, h]
    have hr2 : (if 10 ≤ M1.2.2.2.2.2.2.2 then km_intr M1 as A m else km_run (n + n2) M1 0 (km_entry M1.2.2.2.1 as) [] A m) = some (v, A2, m2) := by
      split at hr
      · next q => rw [if_pos q]; exact hr
      · next q => rw [if_neg q]; exact km_run_le (Nat.le_add_right _ _) hr
    dsimp only
    rw [hr2]
    exact km_run_le (Nat.le_add_left _ _) h1
theorem km_E.of {as : List km_V} (hf : ¬ 10 ≤ M.2.2.2.2.2.2.2) : km_E M as A m Q ↔ km_G M 0 (km_entry M.2.2.2.1 as) [] A m Q := by
  unfold km_E km_G
  simp only [if_neg hf]
theorem km_E.mono {as : List km_V} (h : km_E M as A m Q) (hQ : ∀ x A' m', Q x A' m' → Q' x A' m') : km_E M as A m Q' := by
  obtain ⟨n, x, A1, m1, h1, h2⟩ := h
  exact ⟨n, x, A1, m1, h1, hQ _ _ _ h2⟩
theorem km_G.mono (h : km_G M pc ls st A m Q) (hQ : ∀ x A' m', Q x A' m' → Q' x A' m') : km_G M pc ls st A m Q' := by
  obtain ⟨n, x, A1, m1, h1, h2⟩ := h
  exact ⟨n, x, A1, m1, h1, hQ _ _ _ h2⟩
/-- one run, one end: what is known of one Q decides every Q -/
theorem km_E.det {as : List km_V} {x : Option km_V} (h : km_E M as A m (fun y B k => y = x ∧ B = A' ∧ k = m')) : km_E M as A m Q ↔ Q x A' m' := by
  obtain ⟨n, x1, A1, m1, h1, rfl, rfl, rfl⟩ := h
  constructor
  · rintro ⟨n2, x2, A2, m2, h3, h4⟩
    have e : (x1, A1, m1) = (x2, A2, m2) := by
      split at h1
      · next q =>
        rw [if_pos q] at h3
        exact Option.some.inj (h1.symm.trans h3)
      · next q =>
        rw [if_neg q] at h3
        exact Option.some.inj ((km_run_le (Nat.le_add_right n n2) h1).symm.trans (km_run_le (Nat.le_add_left n2 n) h3))
    cases e
    exact h4
  · intro h2
    exact ⟨n, x1, A1, m1, h1, h2⟩
theorem km_stepE {i : Instr} {k : Nat} {o : Option km_O} (d : decode M.1 pc = .ok (i, k)) (hl : km_len i = 0 ∨ k = km_len i) (h : km_ex M i pc (pc + k) ls st A m = o) : km_step M pc ls st A m = o := by
  unfold km_step km_go
  rw [d]
  dsimp only
  rw [if_pos hl, h]
/-- the instruction at pc, its length -/
abbrev km_at (M : km_Md) (pc : Nat) (i : Instr) (k : Nat) : Prop := decode M.1 pc = .ok (i, k) ∧ (km_len i = 0 ∨ k = km_len i)
theorem kG_push {i : Instr} {k : Nat} {v : km_V} (d : km_at M pc i k) (h : km_ex M i pc (pc + k) ls st A m = km_nx (pc + k) ls (v :: st) A m) : km_G M pc ls st A m Q ↔ km_G M (pc + k) ls (v :: st) A m Q := km_G.next (km_stepE d.1 d.2 h)
theorem kG_go {i : Instr} {k pc' : Nat} (d : km_at M pc i k) (h : km_ex M i pc (pc + k) ls st A m = some (.inl (pc', ls', st', A', m'))) : km_G M pc ls st A m Q ↔ km_G M pc' ls' st' A' m' Q := km_G.next (km_stepE d.1 d.2 h)
/-- with a condition: else it stands still -/
theorem kG_if {i : Instr} {k pc' : Nat} {P : Prop} (d : km_at M pc i k) (h : P → km_ex M i pc (pc + k) ls st A m = some (.inl (pc', ls', st', A', m'))) (hn : ¬ P → km_ex M i pc (pc + k) ls st A m = none) : km_G M pc ls st A m Q ↔ P ∧ km_G M pc' ls' st' A' m' Q := by
  by_cases q : P
  · rw [km_G.next (km_stepE d.1 d.2 (h q))]
    exact ⟨fun z => ⟨q, z⟩, fun z => z.2⟩
  · rw [km_G.none (km_stepE d.1 d.2 (hn q))]
    exact ⟨fun z => z.elim, fun z => q z.1⟩
theorem kG_iload {i : Instr} {k j : Nat} {x : Int} (d : km_at M pc i k) (hi : km_ex M i pc (pc + k) ls st A m = km_iload j (pc + k) ls st A m) (hx : km_get ls j = some (.inl x)) : km_G M pc ls st A m Q ↔ km_G M (pc + k) ls (.inl x :: st) A m Q := kG_go d (by rw [hi]; unfold km_iload; rw [hx]; rfl)
theorem kG_lload {i : Instr} {k j : Nat} {x : Int} (d : km_at M pc i k) (hi : km_ex M i pc (pc + k) ls st A m = km_lload j (pc + k) ls st A m) (hx : km_get ls j = some (.inr (.inl x))) : km_G M pc ls st A m Q ↔ km_G M (pc + k) ls (.inr (.inl x) :: st) A m Q := kG_go d (by rw [hi]; unfold km_lload; rw [hx]; rfl)
theorem kG_aload {i : Instr} {k j : Nat} {x : Int} (d : km_at M pc i k) (hi : km_ex M i pc (pc + k) ls st A m = km_aload j (pc + k) ls st A m) (hx : km_get ls j = some (.inr (.inr x))) : km_G M pc ls st A m Q ↔ x ≠ -1 ∧ km_G M (pc + k) ls (.inr (.inr x) :: st) A m Q := kG_if d (fun q => by rw [hi]; unfold km_aload; rw [hx]; dsimp only; rw [if_neg q]; rfl) (fun q => by rw [hi]; unfold km_aload; rw [hx]; dsimp only; rw [if_pos (Classical.not_not.mp q)])
theorem kG_istore {i : Instr} {k j : Nat} {x : Int} (d : km_at M pc i k) (hi : km_ex M i pc (pc + k) ls (.inl x :: r) A m = km_istore j (pc + k) ls (.inl x :: r) A m) (hj : j < ls.length) : km_G M pc ls (.inl x :: r) A m Q ↔ km_G M (pc + k) (km_set1 j (.inl x) ls) r A m Q := kG_go d (by rw [hi]; unfold km_istore; dsimp only; rw [if_pos hj]; rfl)
theorem kG_lstore {i : Instr} {k j : Nat} {x : Int} (d : km_at M pc i k) (hi : km_ex M i pc (pc + k) ls (.inr (.inl x) :: r) A m = km_lstore j (pc + k) ls (.inr (.inl x) :: r) A m) (hj : j + 1 < ls.length) : km_G M pc ls (.inr (.inl x) :: r) A m Q ↔ km_G M (pc + k) (km_set2 j (.inr (.inl x)) ls) r A m Q := kG_go d (by rw [hi]; unfold km_lstore; dsimp only; rw [if_pos hj]; rfl)
theorem kG_astore {i : Instr} {k j : Nat} {x : Int} (d : km_at M pc i k) (hi : km_ex M i pc (pc + k) ls (.inr (.inr x) :: r) A m = km_astore j (pc + k) ls (.inr (.inr x) :: r) A m) (hj : j < ls.length) : km_G M pc ls (.inr (.inr x) :: r) A m Q ↔ x ≠ -1 ∧ km_G M (pc + k) (km_set1 j (.inr (.inr x)) ls) r A m Q := kG_if d (fun q => by rw [hi]; unfold km_astore; dsimp only; rw [if_pos ⟨hj, q⟩]; rfl) (fun q => by rw [hi]; unfold km_astore; dsimp only; rw [if_neg (fun z => q z.2)])
theorem km_ckP {z : Int} (h : -2147483648 ≤ z ∧ z ≤ 2147483647) : km_ck z = some z := by unfold km_ck; rw [if_pos h]
theorem km_ckN {z : Int} (h : ¬ (-2147483648 ≤ z ∧ z ≤ 2147483647)) : km_ck z = none := by unfold km_ck; rw [if_neg h]
theorem km_ckLP {z : Int} (h : -9223372036854775808 ≤ z ∧ z ≤ 9223372036854775807) : km_ckL z = some z := by unfold km_ckL; rw [if_pos h]
theorem km_ckLN {z : Int} (h : ¬ (-9223372036854775808 ≤ z ∧ z ≤ 9223372036854775807)) : km_ckL z = none := by unfold km_ckL; rw [if_neg h]
theorem kG_iinc {j : Nat} {z x : Int} (d : km_at M pc (.iinc j z) 3) (hx : km_get ls j = some (.inl x)) (hj : j < ls.length) : km_G M pc ls st A m Q ↔ (-2147483648 ≤ x + z ∧ x + z ≤ 2147483647) ∧ km_G M (pc + 3) (km_set1 j (.inl (x + z)) ls) st A m Q :=
  kG_if d (fun q => by simp only [km_ex]; unfold km_iinc; rw [hx]; dsimp only; rw [km_ckP q]; dsimp only; rw [if_pos hj]; rfl) (fun q => by simp only [km_ex]; unfold km_iinc; rw [hx]; dsimp only; rw [km_ckN q])
theorem kG_b2 {i : Instr} {f : Int → Int → Int} {x y : Int} (d : km_at M pc i 1) (hi : km_ex M i pc (pc + 1) ls (.inl y :: .inl x :: r) A m = km_b2 (fun x y => km_ck (f x y)) (pc + 1) ls (.inl y :: .inl x :: r) A m) : km_G M pc ls (.inl y :: .inl x :: r) A m Q ↔ (-2147483648 ≤ f x y ∧ f x y ≤ 2147483647) ∧ km_G M (pc + 1) ls (.inl (f x y) :: r) A m Q :=
  kG_if d (fun q => by rw [hi]; unfold km_b2; dsimp only; rw [km_ckP q]; rfl) (fun q => by rw [hi]; unfold km_b2; dsimp only; rw [km_ckN q])
theorem kG_b2s {i : Instr} {f : Int → Int → Int} {x y : Int} (d : km_at M pc i 1) (hi : km_ex M i pc (pc + 1) ls (.inl y :: .inl x :: r) A m = km_b2 (fun x y => some (f x y)) (pc + 1) ls (.inl y :: .inl x :: r) A m) : km_G M pc ls (.inl y :: .inl x :: r) A m Q ↔ km_G M (pc + 1) ls (.inl (f x y) :: r) A m Q :=
  kG_go d (by rw [hi]; rfl)
theorem kG_b2L {i : Instr} {f : Int → Int → Int} {x y : Int} (d : km_at M pc i 1) (hi : km_ex M i pc (pc + 1) ls (.inr (.inl y) :: .inr (.inl x) :: r) A m = km_b2L (fun x y => km_ckL (f x y)) (pc + 1) ls (.inr (.inl y) :: .inr (.inl x) :: r) A m) : km_G M pc ls (.inr (.inl y) :: .inr (.inl x) :: r) A m Q ↔ (-9223372036854775808 ≤ f x y ∧ f x y ≤ 9223372036854775807) ∧ km_G M (pc + 1) ls (.inr (.inl (f x y)) :: r) A m Q :=
  kG_if d (fun q => by rw [hi]; unfold km_b2L; dsimp only; rw [km_ckLP q]; rfl) (fun q => by rw [hi]; unfold km_b2L; dsimp only; rw [km_ckLN q])
theorem kG_div {x y : Int} (d : km_at M pc .ldiv 1) : km_G M pc ls (.inr (.inl y) :: .inr (.inl x) :: r) A m Q ↔ (y ≠ 0 ∧ (-9223372036854775808 ≤ x.tdiv y ∧ x.tdiv y ≤ 9223372036854775807)) ∧ km_G M (pc + 1) ls (.inr (.inl (x.tdiv y)) :: r) A m Q := by
  refine kG_if d (fun q => ?_) (fun q => ?_)
  · simp only [km_ex]; unfold km_b2L; dsimp only; rw [if_neg q.1, km_ckLP q.2]; rfl
  · simp only [km_ex]; unfold km_b2L; dsimp only
    by_cases z : y = 0
    · rw [if_pos z]
    · rw [if_neg z, km_ckLN (fun z2 => q ⟨z, z2⟩)]
theorem kG_lrem {x y : Int} (d : km_at M pc .lrem 1) : km_G M pc ls (.inr (.inl y) :: .inr (.inl x) :: r) A m Q ↔ (y ≠ 0 ∧ (-9223372036854775808 ≤ x.tmod y ∧ x.tmod y ≤ 9223372036854775807)) ∧ km_G M (pc + 1) ls (.inr (.inl (x.tmod y)) :: r) A m Q := by
  refine kG_if d (fun q => ?_) (fun q => ?_)
  · simp only [km_ex]; unfold km_b2L; dsimp only; rw [if_neg q.1, km_ckLP q.2]; rfl
  · simp only [km_ex]; unfold km_b2L; dsimp only
    by_cases z : y = 0
    · rw [if_pos z]
    · rw [if_neg z, km_ckLN (fun z2 => q ⟨z, z2⟩)]
theorem kG_irem {x y : Int} (d : km_at M pc .irem 1) : km_G M pc ls (.inl y :: .inl x :: r) A m Q ↔ (y ≠ 0 ∧ (-2147483648 ≤ x.tmod y ∧ x.tmod y ≤ 2147483647)) ∧ km_G M (pc + 1) ls (.inl (x.tmod y) :: r) A m Q := by
  refine kG_if d (fun q => ?_) (fun q => ?_)
  · simp only [km_ex]; unfold km_b2; dsimp only; rw [if_neg q.1, km_ckP q.2]; rfl
  · simp only [km_ex]; unfold km_b2; dsimp only
    by_cases z : y = 0
    · rw [if_pos z]
    · rw [if_neg z, km_ckN (fun z2 => q ⟨z, z2⟩)]
theorem kG_icmp {cc : Jvm.ClassFile.Cond} {o : Int} {x y : Int} {t : Nat} {P : Prop} (d : km_at M pc (.if_icmp cc o) 3) (ht : (pc : Int) + o = (t : Int)) (hP : km_cmp cc x y = true ↔ P) : km_G M pc ls (.inl y :: .inl x :: r) A m Q ↔ (P → km_G M t ls r A m Q) ∧ (¬ P → km_G M (pc + 3) ls r A m Q) := by
  by_cases q : P
  · rw [kG_go d (pc' := t) (ls' := ls) (st' := r) (A' := A) (m' := m) (by simp only [km_ex]; unfold km_br; rw [if_pos (by omega), if_pos (hP.mpr q), ht, Int.toNat_natCast])]
    exact ⟨fun z => ⟨fun _ => z, fun z2 => absurd q z2⟩, fun z => z.1 q⟩
  · rw [kG_go d (pc' := pc + 3) (ls' := ls) (st' := r) (A' := A) (m' := m) (by simp only [km_ex]; unfold km_br; rw [if_pos (by omega), if_neg (fun z => q (hP.mp z))])]
    exact ⟨fun z => ⟨fun z2 => absurd z2 q, fun _ => z⟩, fun z => z.2 q⟩
theorem kG_ifc {cc : Jvm.ClassFile.Cond} {o : Int} {x : Int} {t : Nat} {P : Prop} (d : km_at M pc (.ifCond cc o) 3) (ht : (pc : Int) + o = (t : Int)) (hP : km_cmp cc x 0 = true ↔ P) : km_G M pc ls (.inl x :: r) A m Q ↔ (P → km_G M t ls r A m Q) ∧ (¬ P → km_G M (pc + 3) ls r A m Q) := by
  by_cases q : P
  · rw [kG_go d (pc' := t) (ls' := ls) (st' := r) (A' := A) (m' := m) (by simp only [km_ex]; unfold km_br; rw [if_pos (by omega), if_pos (hP.mpr q), ht, Int.toNat_natCast])]
    exact ⟨fun z => ⟨fun _ => z, fun z2 => absurd q z2⟩, fun z => z.1 q⟩
  · rw [kG_go d (pc' := pc + 3) (ls' := ls) (st' := r) (A' := A) (m' := m) (by simp only [km_ex]; unfold km_br; rw [if_pos (by omega), if_neg (fun z => q (hP.mp z))])]
    exact ⟨fun z => ⟨fun z2 => absurd z2 q, fun _ => z⟩, fun z => z.2 q⟩
theorem kG_goto {o : Int} {t : Nat} (d : km_at M pc (.goto o) 3) (ht : (pc : Int) + o = (t : Int)) : km_G M pc ls st A m Q ↔ km_G M t ls st A m Q := kG_go d (by simp only [km_ex]; unfold km_jp; rw [if_pos (by omega), ht, Int.toNat_natCast])
theorem kG_getf {j : Nat} {a : Int} {ci kk t : Nat} {fin : Bool} (d : km_at M pc (.getfield j) 3) (hf : km_fl M.2.1 j = some (ci, kk, t, fin)) : km_G M pc ls (.inr (.inr a) :: r) A m Q ↔ (0 ≤ a ∧ a < (A.1 : Int) ∧ km_kd A a = 10 + (ci : Int)) ∧ km_G M (pc + 3) ls (km_tv t (m a kk) (km_rf A a kk) :: r) A m Q := by
  refine kG_if d (fun q => ?_) (fun q => ?_)
  · simp only [km_ex]; unfold km_getf; rw [hf]; dsimp only; rw [if_pos q]; rfl
  · simp only [km_ex]; unfold km_getf; rw [hf]; dsimp only; rw [if_neg q]
theorem kG_putfI {j : Nat} {a x : Int} {ci kk : Nat} (d : km_at M pc (.putfield j) 3) (hf : km_fl M.2.1 j = some (ci, kk, 0, false)) : km_G M pc ls (.inl x :: .inr (.inr a) :: r) A m Q ↔ (0 ≤ a ∧ a < (A.1 : Int) ∧ km_kd A a = 10 + (ci : Int)) ∧ km_G M (pc + 3) ls r A (km_up m a kk x) Q := by
  refine kG_if d (fun q => ?_) (fun q => ?_)
  · simp only [km_ex]; unfold km_putf; rw [hf]; dsimp only; rw [if_pos ⟨q.1, q.2.1, q.2.2, fun z => by cases z⟩, if_pos (Or.inl rfl)]; rfl
  · simp only [km_ex]; unfold km_putf; rw [hf]; dsimp only; rw [if_neg (fun z => q ⟨z.1, z.2.1, z.2.2.1⟩)]
theorem kG_putfZ {j : Nat} {a x : Int} {ci kk : Nat} (d : km_at M pc (.putfield j) 3) (hf : km_fl M.2.1 j = some (ci, kk, 3, false)) : km_G M pc ls (.inl x :: .inr (.inr a) :: r) A m Q ↔ (0 ≤ a ∧ a < (A.1 : Int) ∧ km_kd A a = 10 + (ci : Int) ∧ 0 ≤ x ∧ x ≤ 1) ∧ km_G M (pc + 3) ls r A (km_up m a kk x) Q := by
  refine kG_if d (fun q => ?_) (fun q => ?_)
  · simp only [km_ex]; unfold km_putf; rw [hf]; dsimp only; rw [if_pos ⟨q.1, q.2.1, q.2.2.1, fun z => by cases z⟩, if_pos (Or.inr ⟨rfl, q.2.2.2⟩)]; rfl
  · simp only [km_ex]; unfold km_putf; rw [hf]; dsimp only
    by_cases z : 0 ≤ a ∧ a < (A.1 : Int) ∧ km_kd A a = 10 + (ci : Int)
    · rw [if_pos ⟨z.1, z.2.1, z.2.2, fun z => by cases z⟩, if_neg (fun h => q ⟨z.1, z.2.1, z.2.2, (h.resolve_left (fun h0 => by cases h0)).2⟩)]
    · rw [if_neg (fun z2 => z ⟨z2.1, z2.2.1, z2.2.2.1⟩)]
theorem kG_putfJ {j : Nat} {a x : Int} {ci kk : Nat} (d : km_at M pc (.putfield j) 3) (hf : km_fl M.2.1 j = some (ci, kk, 1, false)) : km_G M pc ls (.inr (.inl x) :: .inr (.inr a) :: r) A m Q ↔ (0 ≤ a ∧ a < (A.1 : Int) ∧ km_kd A a = 10 + (ci : Int)) ∧ km_G M (pc + 3) ls r A (km_up m a kk x) Q := by
  refine kG_if d (fun q => ?_) (fun q => ?_)
  · simp only [km_ex]; unfold km_putf; rw [hf]; dsimp only; rw [if_pos ⟨q.1, q.2.1, q.2.2, fun z => by cases z⟩, if_pos rfl]; rfl
  · simp only [km_ex]; unfold km_putf; rw [hf]; dsimp only; rw [if_neg (fun z => q ⟨z.1, z.2.1, z.2.2.1⟩)]
theorem kG_iald {a i : Int} (d : km_at M pc .iaload 1) (ha : a ≠ -2) : km_G M pc ls (.inl i :: .inr (.inr a) :: r) A m Q ↔ (0 ≤ a ∧ a < (A.1 : Int) ∧ km_kd A a = 0 ∧ 0 ≤ i ∧ i < km_ln A a) ∧ km_G M (pc + 1) ls (.inl (m a i) :: r) A m Q := by
  refine kG_if d (fun q => ?_) (fun q => ?_)
  · simp only [km_ex]; unfold km_sld; dsimp only; rw [if_neg ha]; unfold km_ald; dsimp only; rw [if_pos q]; rfl
  · simp only [km_ex]; unfold km_sld; dsimp only; rw [if_neg ha]; unfold km_ald; dsimp only; rw [if_neg q]
theorem kG_sld {i : Int} (d : km_at M pc .iaload 1) : km_G M pc ls (.inl i :: .inr (.inr (-2)) :: r) A m Q ↔ (0 ≤ i ∧ i < km_ln A (-2)) ∧ km_G M (pc + 1) ls (.inl (m (-2) i) :: r) A m Q := by
  refine kG_if d (fun q => ?_) (fun q => ?_)
  · simp only [km_ex]; unfold km_sld; dsimp only; rw [if_pos rfl, if_pos q]; rfl
  · simp only [km_ex]; unfold km_sld; dsimp only; rw [if_pos rfl, if_neg q]
theorem kG_ald {a i t : Int} {ins : Instr} {v : km_V} (d : km_at M pc ins 1) (hi : km_ex M ins pc (pc + 1) ls (.inl i :: .inr (.inr a) :: r) A m = km_ald t (pc + 1) ls (.inl i :: .inr (.inr a) :: r) A m) (hv : (if t = 1 then .inr (.inl (m a i)) else if t = 3 then .inr (.inr (km_rf A a i)) else .inl (m a i) : km_V) = v) : km_G M pc ls (.inl i :: .inr (.inr a) :: r) A m Q ↔ (0 ≤ a ∧ a < (A.1 : Int) ∧ km_kd A a = t ∧ 0 ≤ i ∧ i < km_ln A a) ∧ km_G M (pc + 1) ls (v :: r) A m Q := by
  refine kG_if d (fun q => ?_) (fun q => ?_)
  · rw [hi]; unfold km_ald; dsimp only; rw [if_pos q, hv]; rfl
  · rw [hi]; unfold km_ald; dsimp only; rw [if_neg q]
theorem kG_iast {a i x : Int} (d : km_at M pc .iastore 1) : km_G M pc ls (.inl x :: .inl i :: .inr (.inr a) :: r) A m Q ↔ (0 ≤ a ∧ a < (A.1 : Int) ∧ km_kd A a = 0 ∧ 0 ≤ i ∧ i < km_ln A a) ∧ km_G M (pc + 1) ls r A (km_up m a i x) Q := by
  refine kG_if d (fun q => ?_) (fun q => ?_)
  · simp only [km_ex]; unfold km_ast; dsimp only; rw [if_pos ⟨q.1, q.2.1, q.2.2.1, q.2.2.2.1, q.2.2.2.2, Or.inl rfl⟩]; rfl
  · simp only [km_ex]; unfold km_ast; dsimp only; rw [if_neg (fun z => q ⟨z.1, z.2.1, z.2.2.1, z.2.2.2.1, z.2.2.2.2.1⟩)]
theorem kG_last {a i x : Int} (d : km_at M pc .lastore 1) : km_G M pc ls (.inr (.inl x) :: .inl i :: .inr (.inr a) :: r) A m Q ↔ (0 ≤ a ∧ a < (A.1 : Int) ∧ km_kd A a = 1 ∧ 0 ≤ i ∧ i < km_ln A a) ∧ km_G M (pc + 1) ls r A (km_up m a i x) Q := by
  refine kG_if d (fun q => ?_) (fun q => ?_)
  · simp only [km_ex]; unfold km_ast; dsimp only; rw [if_pos ⟨q.1, q.2.1, q.2.2.1, q.2.2.2.1, q.2.2.2.2, rfl⟩]; rfl
  · simp only [km_ex]; unfold km_ast; dsimp only; rw [if_neg (fun z => q ⟨z.1, z.2.1, z.2.2.1, z.2.2.2.1, z.2.2.2.2.1⟩)]
theorem kG_bast {a i x : Int} (d : km_at M pc .bastore 1) : km_G M pc ls (.inl x :: .inl i :: .inr (.inr a) :: r) A m Q ↔ (0 ≤ a ∧ a < (A.1 : Int) ∧ km_kd A a = 2 ∧ 0 ≤ i ∧ i < km_ln A a ∧ 0 ≤ x ∧ x ≤ 1) ∧ km_G M (pc + 1) ls r A (km_up m a i x) Q := by
  refine kG_if d (fun q => ?_) (fun q => ?_)
  · simp only [km_ex]; unfold km_ast; dsimp only; rw [if_pos ⟨q.1, q.2.1, q.2.2.1, q.2.2.2.1, q.2.2.2.2.1, Or.inr ⟨rfl, q.2.2.2.2.2⟩⟩]; rfl
  · simp only [km_ex]; unfold km_ast; dsimp only; rw [if_neg (fun z => q ⟨z.1, z.2.1, z.2.2.1, z.2.2.2.1, z.2.2.2.2.1, (z.2.2.2.2.2.resolve_left (fun h0 => by cases h0)).2⟩)]
theorem kG_call {i : Instr} {k kind j : Nat} {M1 : km_Md} {nest : Bool} {as rest : List km_V} (d : km_at M pc i k) (hi : km_ex M i pc (pc + k) ls st A m = km_call (km_mt M.2.1 j) kind (pc + k) st A M.2.2.2.2.2.1) (hm : km_mt M.2.1 j = some (M1, nest)) (hok : km_callOk M1 kind M.2.2.2.2.2.1 A st = true) (has : (st.take (km_na M1 kind)).reverse = as) (hre : st.drop (km_na M1 kind) = rest) :
    km_G M pc ls st A m Q ↔ km_E M1 as A m (fun v A' m' => km_G M (pc + k) ls (v.toList ++ rest) A' m' Q) := km_G.call (km_stepE d.1 d.2 (by rw [hi, hm]; unfold km_call; dsimp only; rw [if_pos hok, has, hre]))
theorem km_ret0 (ty : Option FieldType) (x : Int) : km_ret 0 ty [.inl x] = if ty = some .int ∨ (ty = some .boolean ∧ 0 ≤ x ∧ x ≤ 1) then some (.inr (.inr (some (.inl x)))) else none := rfl
theorem km_ret1 (ty : Option FieldType) (x : Int) : km_ret 1 ty [.inr (.inl x)] = if ty = some .long then some (.inr (.inr (some (.inr (.inl x))))) else none := rfl
theorem km_ret2 (ty : Option FieldType) : km_ret 2 ty [] = if ty = none then some (.inr (.inr none)) else none := rfl
theorem kG_retI {x : Int} (d : km_at M pc .ireturn 1) (hr : M.2.2.2.2.1 = some .int) : km_G M pc ls [.inl x] A m Q ↔ Q (some (.inl x)) A m := km_G.ret (km_stepE d.1 d.2 (by simp only [km_ex]; rw [km_ret0, if_pos (Or.inl hr)]))
theorem kG_retZ {x : Int} (d : km_at M pc .ireturn 1) (hr : M.2.2.2.2.1 = some .boolean) : km_G M pc ls [.inl x] A m Q ↔ (0 ≤ x ∧ x ≤ 1) ∧ Q (some (.inl x)) A m := by
  by_cases q : 0 ≤ x ∧ x ≤ 1
  · rw [km_G.ret (x := some (.inl x)) (km_stepE d.1 d.2 (by simp only [km_ex]; rw [km_ret0, if_pos (Or.inr ⟨hr, q⟩)]))]
    exact ⟨fun z => ⟨q, z⟩, fun z => z.2⟩
  · rw [km_G.none (km_stepE d.1 d.2 (by simp only [km_ex]; rw [km_ret0, hr, if_neg (fun h => q (h.resolve_left (fun h0 => by cases h0)).2)]))]
    exact ⟨fun z => z.elim, fun z => q z.1⟩
theorem kG_retJ {x : Int} (d : km_at M pc .lreturn 1) (hr : M.2.2.2.2.1 = some .long) : km_G M pc ls [.inr (.inl x)] A m Q ↔ Q (some (.inr (.inl x))) A m := km_G.ret (km_stepE d.1 d.2 (by simp only [km_ex]; rw [km_ret1, if_pos hr]))
theorem kG_retV (d : km_at M pc .return_ 1) (hr : M.2.2.2.2.1 = none) : km_G M pc ls [] A m Q ↔ Q none A m := km_G.ret (km_stepE d.1 d.2 (by simp only [km_ex]; rw [km_ret2, if_pos hr]))
end GL
