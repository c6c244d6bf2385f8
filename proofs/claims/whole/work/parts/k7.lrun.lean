/-! ===== the law's own run: its call of branch as one step ===== -/
/-- an exception was made -/
def km_ex1 (A : km_Al) : km_Al := (A.1, A.2.1, A.2.2.1, A.2.2.2.1, A.2.2.2.2.1 + 1, A.2.2.2.2.2 + 6)
/-- KinMeetLaw.branch -/
def km_lb (n : Nat) (as : List km_V) (A : km_Al) (m : km_Mm) : Option km_Rs := match as with
  | [.inr (.inr a), .inl x, .inl y, .inr (.inr b)] =>
    if (0 ≤ a ∧ a < (A.1 : Int) ∧ km_kd A a = 21) ∧ 0 ≤ b ∧ b < (A.1 : Int) ∧ km_kd A b = 1 ∧ 0 < km_ln A b then
      (if x < 0 ∨ 4 ≤ x then some (some (.inl 1), km_ex1 A, m)
       else if y < 0 ∨ 2 < y then some (some (.inl 2), km_ex1 A, m)
       else match km_run n M_X11_branch 0 (km_entry M_X11_branch.2.2.2.1 [.inr (.inr a), .inl x, .inl y]) [] A m with
        | some (some (.inl v), A', m') => if b < (A'.1 : Int) ∧ km_kd A' b = 1 ∧ 0 < km_ln A' b then some (some (.inl 0), A', km_up m' b 0 v) else none
        | _ => none)
    else none
  | _ => none
def km_cl9 (n : Nat) (M' : km_Md) (as : List km_V) (A : km_Al) (m : km_Mm) : Option km_Rs := if M'.2.2.2.2.2.2.2 = 31 then km_lb n as A m else if 10 ≤ M'.2.2.2.2.2.2.2 then km_intr M' as A m else km_run n M' 0 (km_entry M'.2.2.2.1 as) [] A m
def km_rl : Nat → km_Md → Nat → km_Ls → List km_V → km_Al → km_Mm → Option km_Rs
  | 0, _, _, _, _, _, _ => none
  | n + 1, M, pc, ls, st, A, m => match km_step M pc ls st A m with
    | none => none
    | some (.inl (pc', ls', st', A', m')) => km_rl n M pc' ls' st' A' m'
    | some (.inr (.inl (M', as, nx, rest))) => match km_cl9 n M' as A m with
      | none => none
      | some (v, A', m') => km_rl n M nx ls (v.toList ++ rest) A' m'
    | some (.inr (.inr v)) => some (v, A, m)
def km_GL (M : km_Md) (pc : Nat) (ls : km_Ls) (st : List km_V) (A : km_Al) (m : km_Mm) (Q : Option km_V → km_Al → km_Mm → Prop) : Prop := ∃ (n : Nat) (x : Option km_V) (A' : km_Al) (m' : km_Mm), km_rl n M pc ls st A m = some (x, A', m') ∧ Q x A' m'
def km_EB (as : List km_V) (A : km_Al) (m : km_Mm) (Q : Option km_V → km_Al → km_Mm → Prop) : Prop := ∃ (n : Nat) (x : Option km_V) (A' : km_Al) (m' : km_Mm), km_lb n as A m = some (x, A', m') ∧ Q x A' m'
theorem km_lb_up {n : Nat} {as : List km_V} {A : km_Al} {m : km_Mm} {r : km_Rs} (h : km_lb n as A m = some r) : km_lb (n + 1) as A m = some r := by
  unfold km_lb at h ⊢
  split at h
  · split at h
    · next g =>
      rw [if_pos g]
      split at h
      · next g1 => rw [if_pos g1]; exact h
      · next g1 =>
        rw [if_neg g1]
        split at h
        · next g2 => rw [if_pos g2]; exact h
        · next g2 =>
          rw [if_neg g2]
          split at h
          · next v A' m' hr =>
            rw [km_run_up _ _ _ _ _ _ _ _ hr]
            exact h
          · cases h
    · cases h
  · cases h
theorem km_cl9_up {n : Nat} {M' : km_Md} {as : List km_V} {A : km_Al} {m : km_Mm} {r : km_Rs} (h : km_cl9 n M' as A m = some r) : km_cl9 (n + 1) M' as A m = some r := by
  unfold km_cl9 at h ⊢
  split at h
  · next q => rw [if_pos q]; exact km_lb_up h
  · next q =>
    rw [if_neg q]
    split at h
    · next q2 => rw [if_pos q2]; exact h
    · next q2 => rw [if_neg q2]; exact km_run_up n _ _ _ _ _ _ _ h
theorem km_cl9_le {n k : Nat} (hk : n ≤ k) {M' : km_Md} {as : List km_V} {A : km_Al} {m : km_Mm} {r : km_Rs} (h : km_cl9 n M' as A m = some r) : km_cl9 k M' as A m = some r := by
  induction hk with
  | refl => exact h
  | step _ ih => exact km_cl9_up ih
theorem km_rl_up : ∀ (n : Nat) (M : km_Md) (pc : Nat) (ls : km_Ls) (st : List km_V) (A : km_Al) (m : km_Mm) (r : km_Rs), km_rl n M pc ls st A m = some r → km_rl (n + 1) M pc ls st A m = some r
  | 0, M, pc, ls, st, A, m, r, h => by cases h
  | n + 1, M, pc, ls, st, A, m, r, h => by
    rw [km_rl] at h ⊢
    split at h
    · cases h
    · next pc1 ls1 st1 A1 m1 hs => exact km_rl_up n _ _ _ _ _ _ _ h
    · next M1 as nx rest hs =>
      split at h
      · cases h
      · next v A1 m1 hr =>
        rw [km_cl9_up hr]
        exact km_rl_up n _ _ _ _ _ _ _ h
    · exact h
theorem km_rl_le {n k : Nat} (hk : n ≤ k) {M : km_Md} {pc : Nat} {ls : km_Ls} {st : List km_V} {A : km_Al} {m : km_Mm} {r : km_Rs} (h : km_rl n M pc ls st A m = some r) : km_rl k M pc ls st A m = some r := by
  induction hk with
  | refl => exact h
  | step _ ih => exact km_rl_up _ _ _ _ _ _ _ _ ih
section GL
variable {M : km_Md} {pc nx : Nat} {ls ls' : km_Ls} {st st' r : List km_V} {A A' : km_Al} {m m' : km_Mm} {Q Q' : Option km_V → km_Al → km_Mm → Prop}
theorem km_GL.call9 {M1 : km_Md} {as rest : List km_V} (h : km_step M pc ls st A m = some (.inr (.inl (M1, as, nx, rest)))) : km_GL M pc ls st A m Q ↔ ∃ (n : Nat) (v : Option km_V) (A2 : km_Al) (m2 : km_Mm), km_cl9 n M1 as A m = some (v, A2, m2) ∧ km_GL M nx ls (v.toList ++ rest) A2 m2 Q := by
  constructor
  · rintro ⟨n, x1, A1, m1, h1, h2⟩
    cases n with
    | zero => cases h1
    | succ n =>
      rw [km_rl, h] at h1
      dsimp only at h1
      split at h1
      · cases h1
      · next v A2 m2 hr => exact ⟨n, v, A2, m2, hr, n, x1, A1, m1, h1, h2⟩
  · rintro ⟨n, v, A2, m2, hr, n2, x1, A1, m1, h1, h2⟩
    refine ⟨n + n2 + 1, x1, A1, m1, ?_, h2⟩
    rw [km_rl, h]
    dsimp only
    rw [km_cl9_le (Nat.le_add_right n n2) hr]
    exact km_rl_le (Nat.le_add_left _ _) h1
theorem km_GL.call {M1 : km_Md} {as rest : List km_V} (h : km_step M pc ls st A m = some (.inr (.inl (M1, as, nx, rest)))) (hf : M1.2.2.2.2.2.2.2 ≠ 31 := by decide) : km_GL M pc ls st A m Q ↔ km_E M1 as A m (fun v A' m' => km_GL M nx ls (v.toList ++ rest) A' m' Q) := by
  rw [km_GL.call9 h]
  unfold km_cl9 km_E
  simp only [if_neg hf]
theorem km_GL.callB {M1 : km_Md} {as rest : List km_V} (h : km_step M pc ls st A m = some (.inr (.inl (M1, as, nx, rest)))) (hf : M1.2.2.2.2.2.2.2 = 31) : km_GL M pc ls st A m Q ↔ km_EB as A m (fun v A' m' => km_GL M nx ls (v.toList ++ rest) A' m' Q) := by
  rw [km_GL.call9 h]
  unfold km_cl9 km_EB
  simp only [if_pos hf]
theorem km_GL.next {pc' : Nat} (h : km_step M pc ls st A m = some (.inl (pc', ls', st', A', m'))) : km_GL M pc ls st A m Q ↔ km_GL M pc' ls' st' A' m' Q := by
  constructor
  · rintro ⟨n, x, A1, m1, h1, h2⟩
    cases n with
    | zero => cases h1
    | succ n =>
      rw [km_rl, h] at h1
      exact ⟨n, x, A1, m1, h1, h2⟩
  · rintro ⟨n, x, A1, m1, h1, h2⟩
    exact ⟨n + 1, x, A1, m1, by rw [km_rl, h]; exact h1, h2⟩
theorem km_GL.ret {x : Option km_V} (h : km_step M pc ls st A m = some (.inr (.inr x))) : km_GL M pc ls st A m Q ↔ Q x A m := by
  constructor
  · rintro ⟨n, x1, A1, m1, h1, h2⟩
    cases n with
    | zero => cases h1
    | succ n =>
      rw [km_rl, h] at h1
      cases h1
      exact h2
  · intro h2
    exact ⟨1, x, A, m, by rw [km_rl, h], h2⟩
theorem km_GL.none (h : km_step M pc ls st A m = none) : km_GL M pc ls st A m Q ↔ False := by
  constructor
  · rintro ⟨n, x1, A1, m1, h1, h2⟩
    cases n with
    | zero => cases h1
    | succ n =>
      rw [km_rl, h] at h1
      cases h1
  · intro h2
    exact h2.elim
theorem kL_push {i : Instr} {k : Nat} {v : km_V} (d : km_at M pc i k) (h : km_ex M i pc (pc + k) ls st A m = km_nx (pc + k) ls (v :: st) A m) : km_GL M pc ls st A m Q ↔ km_GL M (pc + k) ls (v :: st) A m Q := km_GL.next (km_stepE d.1 d.2 h)
theorem kL_go {i : Instr} {k pc' : Nat} (d : km_at M pc i k) (h : km_ex M i pc (pc + k) ls st A m = some (.inl (pc', ls', st', A', m'))) : km_GL M pc ls st A m Q ↔ km_GL M pc' ls' st' A' m' Q := km_GL.next (km_stepE d.1 d.2 h)
theorem kL_if {i : Instr} {k pc' : Nat} {P : Prop} (d : km_at M pc i k) (h : P → km_ex M i pc (pc + k) ls st A m = some (.inl (pc', ls', st', A', m'))) (hn : ¬ P → km_ex M i pc (pc + k) ls st A m = none) : km_GL M pc ls st A m Q ↔ P ∧ km_GL M pc' ls' st' A' m' Q := by
  by_cases q : P
  · rw [km_GL.next (km_stepE d.1 d.2 (h q))]
    exact ⟨fun z => ⟨q, z⟩, fun z => z.2⟩
  · rw [km_GL.none (km_stepE d.1 d.2 (hn q))]
    exact ⟨fun z => z.elim, fun z => q z.1⟩
theorem kL_iload {i : Instr} {k j : Nat} {x : Int} (d : km_at M pc i k) (hi : km_ex M i pc (pc + k) ls st A m = km_iload j (pc + k) ls st A m) (hx : km_get ls j = some (.inl x)) : km_GL M pc ls st A m Q ↔ km_GL M (pc + k) ls (.inl x :: st) A m Q := kL_go d (by rw [hi]; unfold km_iload; rw [hx]; rfl)
theorem kL_aload {i : Instr} {k j : Nat} {x : Int} (d : km_at M pc i k) (hi : km_ex M i pc (pc + k) ls st A m = km_aload j (pc + k) ls st A m) (hx : km_get ls j = some (.inr (.inr x))) : km_GL M pc ls st A m Q ↔ x ≠ -1 ∧ km_GL M (pc + k) ls (.inr (.inr x) :: st) A m Q := kL_if d (fun q => by rw [hi]; unfold km_aload; rw [hx]; dsimp only; rw [if_neg q]; rfl) (fun q => by rw [hi]; unfold km_aload; rw [hx]; dsimp only; rw [if_pos (Classical.not_not.mp q)])
theorem kL_istore {i : Instr} {k j : Nat} {x : Int} (d : km_at M pc i k) (hi : km_ex M i pc (pc + k) ls (.inl x :: r) A m = km_istore j (pc + k) ls (.inl x :: r) A m) (hj : j < ls.length) : km_GL M pc ls (.inl x :: r) A m Q ↔ km_GL M (pc + k) (km_set1 j (.inl x) ls) r A m Q := kL_go d (by rw [hi]; unfold km_istore; dsimp only; rw [if_pos hj]; rfl)
theorem kL_astore {i : Instr} {k j : Nat} {x : Int} (d : km_at M pc i k) (hi : km_ex M i pc (pc + k) ls (.inr (.inr x) :: r) A m = km_astore j (pc + k) ls (.inr (.inr x) :: r) A m) (hj : j < ls.length) : km_GL M pc ls (.inr (.inr x) :: r) A m Q ↔ x ≠ -1 ∧ km_GL M (pc + k) (km_set1 j (.inr (.inr x)) ls) r A m Q := kL_if d (fun q => by rw [hi]; unfold km_astore; dsimp only; rw [if_pos ⟨hj, q⟩]; rfl) (fun q => by rw [hi]; unfold km_astore; dsimp only; rw [if_neg (fun z => q z.2)])
theorem kL_iinc {j : Nat} {z x : Int} (d : km_at M pc (.iinc j z) 3) (hx : km_get ls j = some (.inl x)) (hj : j < ls.length) : km_GL M pc ls st A m Q ↔ (-2147483648 ≤ x + z ∧ x + z ≤ 2147483647) ∧ km_GL M (pc + 3) (km_set1 j (.inl (x + z)) ls) st A m Q :=
  kL_if d (fun q => by simp only [km_ex]; unfold km_iinc; rw [hx]; dsimp only; rw [km_ckP q]; dsimp only; rw [if_pos hj]; rfl) (fun q => by simp only [km_ex]; unfold km_iinc; rw [hx]; dsimp only; rw [km_ckN q])
theorem kL_b2 {i : Instr} {f : Int → Int → Int} {x y : Int} (d : km_at M pc i 1) (hi : km_ex M i pc (pc + 1) ls (.inl y :: .inl x :: r) A m = km_b2 (fun x y => km_ck (f x y)) (pc + 1) ls (.inl y :: .inl x :: r) A m) : km_GL M pc ls (.inl y :: .inl x :: r) A m Q ↔ (-2147483648 ≤ f x y ∧ f x y ≤ 2147483647) ∧ km_GL M (pc + 1) ls (.inl (f x y) :: r) A m Q :=
  kL_if d (fun q => by rw [hi]; unfold km_b2; dsimp only; rw [km_ckP q]; rfl) (fun q => by rw [hi]; unfold km_b2; dsimp only; rw [km_ckN q])
theorem kL_b2s {i : Instr} {f : Int → Int → Int} {x y : Int} (d : km_at M pc i 1) (hi : km_ex M i pc (pc + 1) ls (.inl y :: .inl x :: r) A m = km_b2 (fun x y => some (f x y)) (pc + 1) ls (.inl y :: .inl x :: r) A m) : km_GL M pc ls (.inl y :: .inl x :: r) A m Q ↔ km_GL M (pc + 1) ls (.inl (f x y) :: r) A m Q :=
  kL_go d (by rw [hi]; rfl)
theorem kL_icmp {cc : Jvm.ClassFile.Cond} {o : Int} {x y : Int} {t : Nat} {P : Prop} (d : km_at M pc (.if_icmp cc o) 3) (ht : (pc : Int) + o = (t : Int)) (hP : km_cmp cc x y = true ↔ P) : km_GL M pc ls (.inl y :: .inl x :: r) A m Q ↔ (P → km_GL M t ls r A m Q) ∧ (¬ P → km_GL M (pc + 3) ls r A m Q) := by
  by_cases q : P
  · rw [kL_go d (pc' := t) (ls' := ls) (st' := r) (A' := A) (m' := m) (by simp only [km_ex]; unfold km_br; rw [if_pos (by omega), if_pos (hP.mpr q), ht, Int.toNat_natCast])]
    exact ⟨fun z => ⟨fun _ => z, fun z2 => absurd q z2⟩, fun z => z.1 q⟩
  · rw [kL_go d (pc' := pc + 3) (ls' := ls) (st' := r) (A' := A) (m' := m) (by simp only [km_ex]; unfold km_br; rw [if_pos (by omega), if_neg (fun z => q (hP.mp z))])]
    exact ⟨fun z => ⟨fun z2 => absurd z2 q, fun _ => z⟩, fun z => z.2 q⟩
theorem kL_ifc {cc : Jvm.ClassFile.Cond} {o : Int} {x : Int} {t : Nat} {P : Prop} (d : km_at M pc (.ifCond cc o) 3) (ht : (pc : Int) + o = (t : Int)) (hP : km_cmp cc x 0 = true ↔ P) : km_GL M pc ls (.inl x :: r) A m Q ↔ (P → km_GL M t ls r A m Q) ∧ (¬ P → km_GL M (pc + 3) ls r A m Q) := by
  by_cases q : P
  · rw [kL_go d (pc' := t) (ls' := ls) (st' := r) (A' := A) (m' := m) (by simp only [km_ex]; unfold km_br; rw [if_pos (by omega), if_pos (hP.mpr q), ht, Int.toNat_natCast])]
    exact ⟨fun z => ⟨fun _ => z, fun z2 => absurd q z2⟩, fun z => z.1 q⟩
  · rw [kL_go d (pc' := pc + 3) (ls' := ls) (st' := r) (A' := A) (m' := m) (by simp only [km_ex]; unfold km_br; rw [if_pos (by omega), if_neg (fun z => q (hP.mp z))])]
    exact ⟨fun z => ⟨fun z2 => absurd z2 q, fun _ => z⟩, fun z => z.2 q⟩
theorem kL_goto {o : Int} {t : Nat} (d : km_at M pc (.goto o) 3) (ht : (pc : Int) + o = (t : Int)) : km_GL M pc ls st A m Q ↔ km_GL M t ls st A m Q := kL_go d (by simp only [km_ex]; unfold km_jp; rw [if_pos (by omega), ht, Int.toNat_natCast])
theorem kL_sld {i : Int} (d : km_at M pc .iaload 1) : km_GL M pc ls (.inl i :: .inr (.inr (-2)) :: r) A m Q ↔ (0 ≤ i ∧ i < km_ln A (-2)) ∧ km_GL M (pc + 1) ls (.inl (m (-2) i) :: r) A m Q := by
  refine kL_if d (fun q => ?_) (fun q => ?_)
  · simp only [km_ex]; unfold km_sld; dsimp only; rw [if_pos rfl, if_pos q]; rfl
  · simp only [km_ex]; unfold km_sld; dsimp only; rw [if_pos rfl, if_neg q]
theorem kL_ald {a i t : Int} {ins : Instr} {v : km_V} (d : km_at M pc ins 1) (hi : km_ex M ins pc (pc + 1) ls (.inl i :: .inr (.inr a) :: r) A m = km_ald t (pc + 1) ls (.inl i :: .inr (.inr a) :: r) A m) (hv : (if t = 1 then .inr (.inl (m a i)) else if t = 3 then .inr (.inr (km_rf A a i)) else .inl (m a i) : km_V) = v) : km_GL M pc ls (.inl i :: .inr (.inr a) :: r) A m Q ↔ (0 ≤ a ∧ a < (A.1 : Int) ∧ km_kd A a = t ∧ 0 ≤ i ∧ i < km_ln A a) ∧ km_GL M (pc + 1) ls (v :: r) A m Q := by
  refine kL_if d (fun q => ?_) (fun q => ?_)
  · rw [hi]; unfold km_ald; dsimp only; rw [if_pos q, hv]; rfl
  · rw [hi]; unfold km_ald; dsimp only; rw [if_neg q]
theorem kL_call {i : Instr} {k kind j : Nat} {M1 : km_Md} {nest : Bool} {as rest : List km_V} (d : km_at M pc i k) (hi : km_ex M i pc (pc + k) ls st A m = km_call (km_mt M.2.1 j) kind (pc + k) st A M.2.2.2.2.2.1) (hm : km_mt M.2.1 j = some (M1, nest)) (hok : km_callOk M1 kind M.2.2.2.2.2.1 A st = true) (has : (st.take (km_na M1 kind)).reverse = as) (hre : st.drop (km_na M1 kind) = rest) (hf : M1.2.2.2.2.2.2.2 ≠ 31) :
    km_GL M pc ls st A m Q ↔ km_E M1 as A m (fun v A' m' => km_GL M (pc + k) ls (v.toList ++ rest) A' m' Q) := km_GL.call (km_stepE d.1 d.2 (by rw [hi, hm]; unfold km_call; dsimp only; rw [if_pos hok, has, hre])) hf
theorem kL_retZ {x : Int} (d : km_at M pc .ireturn 1) (hr : M.2.2.2.2.1 = some .boolean) : km_GL M pc ls [.inl x] A m Q ↔ (0 ≤ x ∧ x ≤ 1) ∧ Q (some (.inl x)) A m := by
  by_cases q : 0 ≤ x ∧ x ≤ 1
  · rw [km_GL.ret (x := some (.inl x)) (km_stepE d.1 d.2 (by simp only [km_ex]; rw [km_ret0, if_pos (Or.inr ⟨hr, q⟩)]))]
    exact ⟨fun z => ⟨q, z⟩, fun z => z.2⟩
  · rw [km_GL.none (km_stepE d.1 d.2 (by simp only [km_ex]; rw [km_ret0, hr, if_neg (fun h => q (h.resolve_left (fun h0 => by cases h0)).2)]))]
    exact ⟨fun z => z.elim, fun z => q z.1⟩
theorem kL_callV {k j : Nat} {M1 : km_Md} {nest : Bool} {a : Int} {vs rest : List km_V} (d : km_at M pc (.invokevirtual j) 3) (hm : km_mt M.2.1 j = some (M1, nest)) (hok : km_callOk M1 0 M.2.2.2.2.2.1 A st = decide (0 ≤ a ∧ a < (A.1 : Int) ∧ km_kd A a = 10 + (M1.2.1 : Int))) (hk : 10 + M1.2.1 = k) (has : (st.take (km_na M1 0)).reverse = .inr (.inr a) :: vs) (hre : st.drop (km_na M1 0) = rest) (hso : km_so M.2.1 j = none := by rfl) (hf : M1.2.2.2.2.2.2.2 ≠ 31) :
    km_GL M pc ls st A m Q ↔ (0 ≤ a ∧ a < (A.1 : Int) ∧ km_kd A a = (k : Int)) ∧ km_E M1 (.inr (.inr a) :: vs) A m (fun v A' m' => km_GL M (pc + 3) ls (v.toList ++ rest) A' m' Q) := by
  have e : (10 + (M1.2.1 : Int)) = (k : Int) := by omega
  rw [e] at hok
  by_cases q : 0 ≤ a ∧ a < (A.1 : Int) ∧ km_kd A a = (k : Int)
  · rw [kL_call (kind := 0) d (by simp only [km_ex, hso]) hm (by rw [hok]; exact decide_eq_true q) has hre hf]
    exact ⟨fun z => ⟨q, z⟩, fun z => z.2⟩
  · rw [km_GL.none (km_stepE d.1 d.2 (by simp only [km_ex, hso]; rw [hm]; unfold km_call; dsimp only; rw [if_neg (by rw [hok]; simpa using q)]))]
    exact ⟨fun z => z.elim, fun z => q z.1⟩
theorem kL_new {j ci nf : Nat} {kd n : Int} (d : km_at M pc (.new j) 3) (hf : km_nw M.2.1 j = some (ci, nf)) (hk : kd = 10 + (ci : Int)) (hn : n = (nf : Int) := by rfl) : km_GL M pc ls r A m Q ↔ A.2.2.2.2.1 = A.1 ∧ km_GL M (pc + 3) ls (.inr (.inr A.1) :: r) (km_new kd n nf A) (km_zero A m) Q := by
  subst hk; subst hn
  refine kL_if d (fun q => ?_) (fun q => ?_)
  · simp only [km_ex]; unfold km_newo; rw [hf]; dsimp only; rw [if_pos q]; rfl
  · simp only [km_ex]; unfold km_newo; rw [hf]; dsimp only; rw [if_neg q]
theorem kL_newa {at9 : ArrayType} {t n : Int} (d : km_at M pc (.newarray at9) 2) (hi : km_ex M (.newarray at9) pc (pc + 2) ls (.inl n :: r) A m = km_newa (some t) (pc + 2) ls (.inl n :: r) A m) : km_GL M pc ls (.inl n :: r) A m Q ↔ (0 ≤ n ∧ n ≤ 100000 ∧ A.2.2.2.2.1 = A.1) ∧ km_GL M (pc + 2) ls (.inr (.inr A.1) :: r) (km_new t n n.toNat A) (km_zero A m) Q := by
  refine kL_if d (fun q => ?_) (fun q => ?_)
  · rw [hi]; unfold km_newa; dsimp only; rw [if_pos q]; rfl
  · rw [hi]; unfold km_newa; dsimp only; rw [if_neg q]
theorem kL_callI {k j : Nat} {M1 : km_Md} {nest : Bool} {a : Int} {vs rest : List km_V} (d : km_at M pc (.invokespecial j) 3) (ho : km_isObjInit M.2.1 j = false) (hm : km_mt M.2.1 j = some (M1, nest)) (hok : km_callOk M1 2 M.2.2.2.2.2.1 A st = decide (0 ≤ a ∧ a < (A.1 : Int) ∧ km_kd A a = 10 + (M1.2.1 : Int))) (hk : 10 + M1.2.1 = k) (has : (st.take (km_na M1 2)).reverse = .inr (.inr a) :: vs) (hre : st.drop (km_na M1 2) = rest) (hf : M1.2.2.2.2.2.2.2 ≠ 31) :
    km_GL M pc ls st A m Q ↔ (0 ≤ a ∧ a < (A.1 : Int) ∧ km_kd A a = (k : Int)) ∧ km_E M1 (.inr (.inr a) :: vs) A m (fun v A' m' => km_GL M (pc + 3) ls (v.toList ++ rest) A' m' Q) := by
  have e : (10 + (M1.2.1 : Int)) = (k : Int) := by omega
  rw [e] at hok
  have hx : km_ex M (.invokespecial j) pc (pc + 3) ls st A m = km_call (km_mt M.2.1 j) 2 (pc + 3) st A M.2.2.2.2.2.1 := by simp only [km_ex]; rw [if_neg (by rw [ho]; decide)]
  by_cases q : 0 ≤ a ∧ a < (A.1 : Int) ∧ km_kd A a = (k : Int)
  · rw [kL_call (kind := 2) d hx hm (by rw [hok]; exact decide_eq_true q) has hre hf]
    exact ⟨fun z => ⟨q, z⟩, fun z => z.2⟩
  · rw [km_GL.none (km_stepE d.1 d.2 (by rw [hx, hm]; unfold km_call; dsimp only; rw [if_neg (by rw [hok]; simpa using q)]))]
    exact ⟨fun z => z.elim, fun z => q z.1⟩
theorem km_GL.mono (h : km_GL M pc ls st A m Q) (hQ : ∀ x A' m', Q x A' m' → Q' x A' m') : km_GL M pc ls st A m Q' := by
  obtain ⟨n, x, A1, m1, h1, h2⟩ := h
  exact ⟨n, x, A1, m1, h1, hQ _ _ _ h2⟩
theorem kL_callB {i : Instr} {k kind j : Nat} {M1 : km_Md} {nest : Bool} {as rest : List km_V} (d : km_at M pc i k) (hi : km_ex M i pc (pc + k) ls st A m = km_call (km_mt M.2.1 j) kind (pc + k) st A M.2.2.2.2.2.1) (hm : km_mt M.2.1 j = some (M1, nest)) (hok : km_callOk M1 kind M.2.2.2.2.2.1 A st = true) (has : (st.take (km_na M1 kind)).reverse = as) (hre : st.drop (km_na M1 kind) = rest) (hf : M1.2.2.2.2.2.2.2 = 31) :
    km_GL M pc ls st A m Q ↔ km_EB as A m (fun v A' m' => km_GL M (pc + k) ls (v.toList ++ rest) A' m' Q) := km_GL.callB (km_stepE d.1 d.2 (by rw [hi, hm]; unfold km_call; dsimp only; rw [if_pos hok, has, hre])) hf
end GL

