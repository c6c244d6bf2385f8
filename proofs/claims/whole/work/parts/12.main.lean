/-! ===== a run of the small machine is a run of the real one ===== -/
section ROWS
variable {p : Program} {l : Launch} {e : Env} {R : Room} {s : State} {me : MethodId} {args : Array Value} {below : List Frame} {meth : Method} {c : Code} {w : km_Pr} {M : km_Md} {c0 s0 : Nat} {Q : State → Prop}
variable {i9 : Instr} {pc nx pc' : Nat} {ls ls' : km_Ls} {st st' : List km_V} {A A' : km_Al} {m m' : km_Mm}
def km_Mo (A A' : km_Al) : Prop := A.2.2.2.2.1 ≤ A'.2.2.2.2.1 ∧ A.2.2.2.2.2 ≤ A'.2.2.2.2.2
theorem km_Mo.rf : km_Mo A A := ⟨Nat.le_refl _, Nat.le_refl _⟩
theorem km_mo_nx {st0 : List km_V} {ls0 : km_Ls} (h : km_nx nx ls0 st0 A m = some (.inl (pc', ls', st', A', m'))) : km_Mo A A' := by
  obtain ⟨rfl, rfl, rfl, rfl, rfl⟩ := km_nxe h
  exact km_Mo.rf
theorem km_mo_jp {o : Int} {st0 : List km_V} (h : km_jp pc o ls st0 A m = some (.inl (pc', ls', st', A', m'))) : km_Mo A A' := by
  obtain ⟨-, rfl, rfl, rfl, rfl⟩ := km_jpe h
  exact km_Mo.rf
theorem km_mo_br {b : Bool} {o : Int} {st0 : List km_V} (h : km_br b pc o nx ls st0 A m = some (.inl (pc', ls', st', A', m'))) : km_Mo A A' := by
  obtain ⟨-, -, -, -, rfl, rfl, rfl, rfl⟩ := km_bre h
  exact km_Mo.rf
theorem km_mo_iload {i : Nat} (h : km_iload i nx ls st A m = some (.inl (pc', ls', st', A', m'))) : km_Mo A A' := by
  unfold km_iload at h
  first | (obtain ⟨rfl, rfl, rfl, rfl, rfl⟩ := km_nxe h; exact km_Mo.rf) | (cases h; done) | (split at h <;> (first | (obtain ⟨rfl, rfl, rfl, rfl, rfl⟩ := km_nxe h; exact km_Mo.rf) | (cases h; done) | (split at h <;> (first | (obtain ⟨rfl, rfl, rfl, rfl, rfl⟩ := km_nxe h; exact km_Mo.rf) | (cases h; done) | (split at h <;> (first | (obtain ⟨rfl, rfl, rfl, rfl, rfl⟩ := km_nxe h; exact km_Mo.rf) | (cases h; done)))))))
theorem km_mo_lload {i : Nat} (h : km_lload i nx ls st A m = some (.inl (pc', ls', st', A', m'))) : km_Mo A A' := by
  unfold km_lload at h
  first | (obtain ⟨rfl, rfl, rfl, rfl, rfl⟩ := km_nxe h; exact km_Mo.rf) | (cases h; done) | (split at h <;> (first | (obtain ⟨rfl, rfl, rfl, rfl, rfl⟩ := km_nxe h; exact km_Mo.rf) | (cases h; done) | (split at h <;> (first | (obtain ⟨rfl, rfl, rfl, rfl, rfl⟩ := km_nxe h; exact km_Mo.rf) | (cases h; done) | (split at h <;> (first | (obtain ⟨rfl, rfl, rfl, rfl, rfl⟩ := km_nxe h; exact km_Mo.rf) | (cases h; done)))))))
theorem km_mo_aload {i : Nat} (h : km_aload i nx ls st A m = some (.inl (pc', ls', st', A', m'))) : km_Mo A A' := by
  unfold km_aload at h
  first | (obtain ⟨rfl, rfl, rfl, rfl, rfl⟩ := km_nxe h; exact km_Mo.rf) | (cases h; done) | (split at h <;> (first | (obtain ⟨rfl, rfl, rfl, rfl, rfl⟩ := km_nxe h; exact km_Mo.rf) | (cases h; done) | (split at h <;> (first | (obtain ⟨rfl, rfl, rfl, rfl, rfl⟩ := km_nxe h; exact km_Mo.rf) | (cases h; done) | (split at h <;> (first | (obtain ⟨rfl, rfl, rfl, rfl, rfl⟩ := km_nxe h; exact km_Mo.rf) | (cases h; done)))))))
theorem km_mo_istore {i : Nat} (h : km_istore i nx ls st A m = some (.inl (pc', ls', st', A', m'))) : km_Mo A A' := by
  unfold km_istore at h
  first | (obtain ⟨rfl, rfl, rfl, rfl, rfl⟩ := km_nxe h; exact km_Mo.rf) | (cases h; done) | (split at h <;> (first | (obtain ⟨rfl, rfl, rfl, rfl, rfl⟩ := km_nxe h; exact km_Mo.rf) | (cases h; done) | (split at h <;> (first | (obtain ⟨rfl, rfl, rfl, rfl, rfl⟩ := km_nxe h; exact km_Mo.rf) | (cases h; done) | (split at h <;> (first | (obtain ⟨rfl, rfl, rfl, rfl, rfl⟩ := km_nxe h; exact km_Mo.rf) | (cases h; done)))))))
theorem km_mo_lstore {i : Nat} (h : km_lstore i nx ls st A m = some (.inl (pc', ls', st', A', m'))) : km_Mo A A' := by
  unfold km_lstore at h
  first | (obtain ⟨rfl, rfl, rfl, rfl, rfl⟩ := km_nxe h; exact km_Mo.rf) | (cases h; done) | (split at h <;> (first | (obtain ⟨rfl, rfl, rfl, rfl, rfl⟩ := km_nxe h; exact km_Mo.rf) | (cases h; done) | (split at h <;> (first | (obtain ⟨rfl, rfl, rfl, rfl, rfl⟩ := km_nxe h; exact km_Mo.rf) | (cases h; done) | (split at h <;> (first | (obtain ⟨rfl, rfl, rfl, rfl, rfl⟩ := km_nxe h; exact km_Mo.rf) | (cases h; done)))))))
theorem km_mo_astore {i : Nat} (h : km_astore i nx ls st A m = some (.inl (pc', ls', st', A', m'))) : km_Mo A A' := by
  unfold km_astore at h
  first | (obtain ⟨rfl, rfl, rfl, rfl, rfl⟩ := km_nxe h; exact km_Mo.rf) | (cases h; done) | (split at h <;> (first | (obtain ⟨rfl, rfl, rfl, rfl, rfl⟩ := km_nxe h; exact km_Mo.rf) | (cases h; done) | (split at h <;> (first | (obtain ⟨rfl, rfl, rfl, rfl, rfl⟩ := km_nxe h; exact km_Mo.rf) | (cases h; done) | (split at h <;> (first | (obtain ⟨rfl, rfl, rfl, rfl, rfl⟩ := km_nxe h; exact km_Mo.rf) | (cases h; done)))))))
theorem km_mo_iinc {i : Nat} {k : Int} (h : km_iinc i k nx ls st A m = some (.inl (pc', ls', st', A', m'))) : km_Mo A A' := by
  unfold km_iinc at h
  first | (obtain ⟨rfl, rfl, rfl, rfl, rfl⟩ := km_nxe h; exact km_Mo.rf) | (cases h; done) | (split at h <;> (first | (obtain ⟨rfl, rfl, rfl, rfl, rfl⟩ := km_nxe h; exact km_Mo.rf) | (cases h; done) | (split at h <;> (first | (obtain ⟨rfl, rfl, rfl, rfl, rfl⟩ := km_nxe h; exact km_Mo.rf) | (cases h; done) | (split at h <;> (first | (obtain ⟨rfl, rfl, rfl, rfl, rfl⟩ := km_nxe h; exact km_Mo.rf) | (cases h; done)))))))
theorem km_mo_b2 {f : Int → Int → Option Int} (h : km_b2 f nx ls st A m = some (.inl (pc', ls', st', A', m'))) : km_Mo A A' := by
  unfold km_b2 at h
  first | (obtain ⟨rfl, rfl, rfl, rfl, rfl⟩ := km_nxe h; exact km_Mo.rf) | (cases h; done) | (split at h <;> (first | (obtain ⟨rfl, rfl, rfl, rfl, rfl⟩ := km_nxe h; exact km_Mo.rf) | (cases h; done) | (split at h <;> (first | (obtain ⟨rfl, rfl, rfl, rfl, rfl⟩ := km_nxe h; exact km_Mo.rf) | (cases h; done) | (split at h <;> (first | (obtain ⟨rfl, rfl, rfl, rfl, rfl⟩ := km_nxe h; exact km_Mo.rf) | (cases h; done)))))))
theorem km_mo_b2L {f : Int → Int → Option Int} (h : km_b2L f nx ls st A m = some (.inl (pc', ls', st', A', m'))) : km_Mo A A' := by
  unfold km_b2L at h
  first | (obtain ⟨rfl, rfl, rfl, rfl, rfl⟩ := km_nxe h; exact km_Mo.rf) | (cases h; done) | (split at h <;> (first | (obtain ⟨rfl, rfl, rfl, rfl, rfl⟩ := km_nxe h; exact km_Mo.rf) | (cases h; done) | (split at h <;> (first | (obtain ⟨rfl, rfl, rfl, rfl, rfl⟩ := km_nxe h; exact km_Mo.rf) | (cases h; done) | (split at h <;> (first | (obtain ⟨rfl, rfl, rfl, rfl, rfl⟩ := km_nxe h; exact km_Mo.rf) | (cases h; done)))))))
theorem km_mo_getf {f : Option (Nat × Nat × Nat × Bool)} (h : km_getf f nx ls st A m = some (.inl (pc', ls', st', A', m'))) : km_Mo A A' := by
  unfold km_getf at h
  first | (obtain ⟨rfl, rfl, rfl, rfl, rfl⟩ := km_nxe h; exact km_Mo.rf) | (cases h; done) | (split at h <;> (first | (obtain ⟨rfl, rfl, rfl, rfl, rfl⟩ := km_nxe h; exact km_Mo.rf) | (cases h; done) | (split at h <;> (first | (obtain ⟨rfl, rfl, rfl, rfl, rfl⟩ := km_nxe h; exact km_Mo.rf) | (cases h; done) | (split at h <;> (first | (obtain ⟨rfl, rfl, rfl, rfl, rfl⟩ := km_nxe h; exact km_Mo.rf) | (cases h; done)))))))
theorem km_mo_ald {t : Int} (h : km_ald t nx ls st A m = some (.inl (pc', ls', st', A', m'))) : km_Mo A A' := by
  unfold km_ald at h
  first | (obtain ⟨rfl, rfl, rfl, rfl, rfl⟩ := km_nxe h; exact km_Mo.rf) | (cases h; done) | (split at h <;> (first | (obtain ⟨rfl, rfl, rfl, rfl, rfl⟩ := km_nxe h; exact km_Mo.rf) | (cases h; done) | (split at h <;> (first | (obtain ⟨rfl, rfl, rfl, rfl, rfl⟩ := km_nxe h; exact km_Mo.rf) | (cases h; done) | (split at h <;> (first | (obtain ⟨rfl, rfl, rfl, rfl, rfl⟩ := km_nxe h; exact km_Mo.rf) | (cases h; done)))))))
theorem km_mo_ast {t : Int} (h : km_ast t nx ls st A m = some (.inl (pc', ls', st', A', m'))) : km_Mo A A' := by
  unfold km_ast at h
  first | (obtain ⟨rfl, rfl, rfl, rfl, rfl⟩ := km_nxe h; exact km_Mo.rf) | (cases h; done) | (split at h <;> (first | (obtain ⟨rfl, rfl, rfl, rfl, rfl⟩ := km_nxe h; exact km_Mo.rf) | (cases h; done) | (split at h <;> (first | (obtain ⟨rfl, rfl, rfl, rfl, rfl⟩ := km_nxe h; exact km_Mo.rf) | (cases h; done) | (split at h <;> (first | (obtain ⟨rfl, rfl, rfl, rfl, rfl⟩ := km_nxe h; exact km_Mo.rf) | (cases h; done)))))))
theorem km_mo_sld (h : km_sld nx ls st A m = some (.inl (pc', ls', st', A', m'))) : km_Mo A A' := by
  unfold km_sld at h
  split at h
  · split at h
    · split at h
      · obtain ⟨rfl, rfl, rfl, rfl, rfl⟩ := km_nxe h; exact km_Mo.rf
      · cases h
    · exact km_mo_ald h
  · cases h
theorem km_mo_alen (h : km_alen nx ls st A m = some (.inl (pc', ls', st', A', m'))) : km_Mo A A' := by
  unfold km_alen at h
  first | (obtain ⟨rfl, rfl, rfl, rfl, rfl⟩ := km_nxe h; exact km_Mo.rf) | (cases h; done) | (split at h <;> (first | (obtain ⟨rfl, rfl, rfl, rfl, rfl⟩ := km_nxe h; exact km_Mo.rf) | (cases h; done) | (split at h <;> (first | (obtain ⟨rfl, rfl, rfl, rfl, rfl⟩ := km_nxe h; exact km_Mo.rf) | (cases h; done) | (split at h <;> (first | (obtain ⟨rfl, rfl, rfl, rfl, rfl⟩ := km_nxe h; exact km_Mo.rf) | (cases h; done)))))))
theorem km_mo_mop {o dep : Nat} (h : km_mop o dep nx ls st A m = some (.inl (pc', ls', st', A', m'))) : km_Mo A A' := by
  unfold km_mop at h
  first | (obtain ⟨rfl, rfl, rfl, rfl, rfl⟩ := km_nxe h; exact km_Mo.rf) | (cases h; done) | (split at h <;> (first | (obtain ⟨rfl, rfl, rfl, rfl, rfl⟩ := km_nxe h; exact km_Mo.rf) | (cases h; done) | (split at h <;> (first | (obtain ⟨rfl, rfl, rfl, rfl, rfl⟩ := km_nxe h; exact km_Mo.rf) | (cases h; done) | (split at h <;> (first | (obtain ⟨rfl, rfl, rfl, rfl, rfl⟩ := km_nxe h; exact km_Mo.rf) | (cases h; done)))))))
theorem km_mo_sop {o dep : Nat} (h : km_sop o dep nx ls st A m = some (.inl (pc', ls', st', A', m'))) : km_Mo A A' := by
  unfold km_sop at h
  first | (obtain ⟨rfl, rfl, rfl, rfl, rfl⟩ := km_nxe h; exact km_Mo.rf) | (cases h; done) | (split at h <;> (first | (obtain ⟨rfl, rfl, rfl, rfl, rfl⟩ := km_nxe h; exact km_Mo.rf) | (cases h; done) | (split at h <;> (first | (obtain ⟨rfl, rfl, rfl, rfl, rfl⟩ := km_nxe h; exact km_Mo.rf) | (cases h; done) | (split at h <;> (first | (obtain ⟨rfl, rfl, rfl, rfl, rfl⟩ := km_nxe h; exact km_Mo.rf) | (cases h; done)))))))
theorem km_mo_newo {f : Option (Nat × Nat)} (h : km_newo f nx ls st A m = some (.inl (pc', ls', st', A', m'))) : km_Mo A A' := by
  unfold km_newo at h
  split at h
  · split at h
    · obtain ⟨rfl, rfl, rfl, rfl, rfl⟩ := km_nxe h
      exact ⟨Nat.le_add_right _ _, Nat.le_add_right _ _⟩
    · cases h
  · cases h
theorem km_mo_newa {t : Option Int} (h : km_newa t nx ls st A m = some (.inl (pc', ls', st', A', m'))) : km_Mo A A' := by
  unfold km_newa at h
  split at h
  · split at h
    · obtain ⟨rfl, rfl, rfl, rfl, rfl⟩ := km_nxe h
      exact ⟨Nat.le_add_right _ _, Nat.le_add_right _ _⟩
    · cases h
  · cases h
theorem km_mo_newm (h : km_newm nx ls st A m = some (.inl (pc', ls', st', A', m'))) : km_Mo A A' := by
  unfold km_newm at h
  split at h
  · split at h
    · obtain ⟨rfl, rfl, rfl, rfl, rfl⟩ := km_nxe h
      exact ⟨Nat.le_add_right _ _, Nat.le_add_right _ _⟩
    · cases h
  · cases h
theorem km_mo_putf {own flag : Nat} {f : Option (Nat × Nat × Nat × Bool)} (h : km_putf own flag f nx ls st A m = some (.inl (pc', ls', st', A', m'))) : km_Mo A A' := by
  unfold km_putf at h
  split at h
  · split at h
    · split at h <;> split at h <;> first | (cases h; done) | (obtain ⟨rfl, rfl, rfl, rfl, rfl⟩ := km_nxe h; exact ⟨Nat.le_refl _, Nat.le_refl _⟩)
    · cases h
  · cases h
theorem km_no_call {f : Option (km_Md × Bool)} {kind dep : Nat} {X : km_St} (h : km_call f kind nx st A dep = some (.inl X)) : False := by
  unfold km_call at h
  repeat' (first | (cases h; done) | split at h)
theorem km_no_ret {k : Nat} {ty : Option FieldType} {X : km_St} (h : km_ret k ty st = some (.inl X)) : False := by
  unfold km_ret at h
  repeat' (first | (cases h; done) | split at h)
theorem km_ex_mono {i : Instr} (h : km_ex M i pc nx ls st A m = some (.inl (pc', ls', st', A', m'))) : km_Mo A A' := by
  unfold km_ex at h
  split at h <;> first
    | exact km_mo_iload h | exact km_mo_lload h | exact km_mo_aload h | exact km_mo_istore h | exact km_mo_lstore h | exact km_mo_astore h | exact km_mo_iinc h | exact km_mo_b2 h | exact km_mo_b2L h | exact km_mo_getf h | exact km_mo_putf h
    | exact km_mo_sld h | exact km_mo_ald h | exact km_mo_ast h | exact km_mo_alen h | exact km_mo_newo h | exact km_mo_newa h | exact km_mo_jp h | exact (km_no_call h).elim | exact (km_no_ret h).elim
    | (cases h; done) | (exact km_mo_nx h)
    | (split at h <;> first | exact km_mo_newm h | exact km_mo_mop h | exact km_mo_sop h | exact (km_no_call h).elim | exact km_mo_nx h | exact km_mo_br h | (cases h; done) | (split at h <;> first | exact km_mo_nx h | exact km_mo_jp h | (cases h; done) | (split at h <;> first | exact km_mo_nx h | exact km_mo_jp h | (cases h; done) | (split at h <;> first | exact km_mo_nx h | (cases h; done)))))
theorem km_step_mono (h : km_step M pc ls st A m = some (.inl (pc', ls', st', A', m'))) : km_Mo A A' := by
  unfold km_step km_go at h
  split at h
  · split at h
    · exact km_ex_mono h
    · cases h
  · cases h
theorem km_intr_mono {as : List km_V} {x : Option km_V} (h : km_intr M as A m = some (x, A', m')) : km_Mo A A' := by
  unfold km_intr at h
  split at h
  · cases h; exact km_Mo.rf
  · cases h
theorem km_run_mono : ∀ (n : Nat) (M : km_Md) (pc : Nat) (ls : km_Ls) (st : List km_V) (A : km_Al) (m : km_Mm) (x : Option km_V) (A' : km_Al) (m' : km_Mm), km_run n M pc ls st A m = some (x, A', m') → km_Mo A A'
  | 0, M, pc, ls, st, A, m, x, A', m', h => by cases h
  | n + 1, M, pc, ls, st, A, m, x, A', m', h => by
    rw [km_run] at h
    split at h
    · cases h
    · next pc1 ls1 st1 A1 m1 hs =>
      have h1 := km_step_mono hs
      have h2 := km_run_mono n _ _ _ _ _ _ _ _ _ h
      exact ⟨Nat.le_trans h1.1 h2.1, Nat.le_trans h1.2 h2.2⟩
    · next M1 as nx rest hs =>
      split at h
      · cases h
      · next v A1 m1 hr =>
        have h1 : km_Mo A A1 := by
          split at hr
          · exact km_intr_mono hr
          · exact km_run_mono n _ _ _ _ _ _ _ _ _ hr
        have h2 := km_run_mono n _ _ _ _ _ _ _ _ _ h
        exact ⟨Nat.le_trans h1.1 h2.1, Nat.le_trans h1.2 h2.2⟩
    · cases h
      exact km_Mo.rf
end ROWS
