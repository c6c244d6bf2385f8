/-! ===== the world has never more cells than have been counted ===== -/
section ROWS
variable {p : Program} {l : Launch} {e : Env} {R : Room} {s : State} {me : MethodId} {args : Array Value} {below : List Frame} {meth : Method} {c : Code} {w : km_Pr} {M : km_Md} {c0 s0 : Nat} {Q : State → Prop}
variable {i9 : Instr} {pc nx pc' : Nat} {ls ls' : km_Ls} {st st' : List km_V} {A A' : km_Al} {m m' : km_Mm}
def km_Mq (A A' : km_Al) : Prop := A'.1 + A.2.2.2.2.1 ≤ A.1 + A'.2.2.2.2.1
theorem km_Mq.rf : km_Mq A A := Nat.le_refl _
theorem km_mq_nx {st0 : List km_V} {ls0 : km_Ls} (h : km_nx nx ls0 st0 A m = some (.inl (pc', ls', st', A', m'))) : km_Mq A A' := by
  obtain ⟨rfl, rfl, rfl, rfl, rfl⟩ := km_nxe h
  exact km_Mq.rf
theorem km_mq_jp {o : Int} {st0 : List km_V} (h : km_jp pc o ls st0 A m = some (.inl (pc', ls', st', A', m'))) : km_Mq A A' := by
  obtain ⟨-, rfl, rfl, rfl, rfl⟩ := km_jpe h
  exact km_Mq.rf
theorem km_mq_br {b : Bool} {o : Int} {st0 : List km_V} (h : km_br b pc o nx ls st0 A m = some (.inl (pc', ls', st', A', m'))) : km_Mq A A' := by
  obtain ⟨-, -, -, -, rfl, rfl, rfl, rfl⟩ := km_bre h
  exact km_Mq.rf
theorem km_mq_iload {i : Nat} (h : km_iload i nx ls st A m = some (.inl (pc', ls', st', A', m'))) : km_Mq A A' := by
  unfold km_iload at h
  first | (obtain ⟨rfl, rfl, rfl, rfl, rfl⟩ := km_nxe h; exact km_Mq.rf) | (cases h; done) | (split at h <;> (first | (obtain ⟨rfl, rfl, rfl, rfl, rfl⟩ := km_nxe h; exact km_Mq.rf) | (cases h; done) | (split at h <;> (first | (obtain ⟨rfl, rfl, rfl, rfl, rfl⟩ := km_nxe h; exact km_Mq.rf) | (cases h; done) | (split at h <;> (first | (obtain ⟨rfl, rfl, rfl, rfl, rfl⟩ := km_nxe h; exact km_Mq.rf) | (cases h; done)))))))
theorem km_mq_lload {i : Nat} (h : km_lload i nx ls st A m = some (.inl (pc', ls', st', A', m'))) : km_Mq A A' := by
  unfold km_lload at h
  first | (obtain ⟨rfl, rfl, rfl, rfl, rfl⟩ := km_nxe h; exact km_Mq.rf) | (cases h; done) | (split at h <;> (first | (obtain ⟨rfl, rfl, rfl, rfl, rfl⟩ := km_nxe h; exact km_Mq.rf) | (cases h; done) | (split at h <;> (first | (obtain ⟨rfl, rfl, rfl, rfl, rfl⟩ := km_nxe h; exact km_Mq.rf) | (cases h; done) | (split at h <;> (first | (obtain ⟨rfl, rfl, rfl, rfl, rfl⟩ := km_nxe h; exact km_Mq.rf) | (cases h; done)))))))
theorem km_mq_aload {i : Nat} (h : km_aload i nx ls st A m = some (.inl (pc', ls', st', A', m'))) : km_Mq A A' := by
  unfold km_aload at h
  first | (obtain ⟨rfl, rfl, rfl, rfl, rfl⟩ := km_nxe h; exact km_Mq.rf) | (cases h; done) | (split at h <;> (first | (obtain ⟨rfl, rfl, rfl, rfl, rfl⟩ := km_nxe h; exact km_Mq.rf) | (cases h; done) | (split at h <;> (first | (obtain ⟨rfl, rfl, rfl, rfl, rfl⟩ := km_nxe h; exact km_Mq.rf) | (cases h; done) | (split at h <;> (first | (obtain ⟨rfl, rfl, rfl, rfl, rfl⟩ := km_nxe h; exact km_Mq.rf) | (cases h; done)))))))
theorem km_mq_istore {i : Nat} (h : km_istore i nx ls st A m = some (.inl (pc', ls', st', A', m'))) : km_Mq A A' := by
  unfold km_istore at h
  first | (obtain ⟨rfl, rfl, rfl, rfl, rfl⟩ := km_nxe h; exact km_Mq.rf) | (cases h; done) | (split at h <;> (first | (obtain ⟨rfl, rfl, rfl, rfl, rfl⟩ := km_nxe h; exact km_Mq.rf) | (cases h; done) | (split at h <;> (first | (obtain ⟨rfl, rfl, rfl, rfl, rfl⟩ := km_nxe h; exact km_Mq.rf) | (cases h; done) | (split at h <;> (first | (obtain ⟨rfl, rfl, rfl, rfl, rfl⟩ := km_nxe h; exact km_Mq.rf) | (cases h; done)))))))
theorem km_mq_lstore {i : Nat} (h : km_lstore i nx ls st A m = some (.inl (pc', ls', st', A', m'))) : km_Mq A A' := by
  unfold km_lstore at h
  first | (obtain ⟨rfl, rfl, rfl, rfl, rfl⟩ := km_nxe h; exact km_Mq.rf) | (cases h; done) | (split at h <;> (first | (obtain ⟨rfl, rfl, rfl, rfl, rfl⟩ := km_nxe h; exact km_Mq.rf) | (cases h; done) | (split at h <;> (first | (obtain ⟨rfl, rfl, rfl, rfl, rfl⟩ := km_nxe h; exact km_Mq.rf) | (cases h; done) | (split at h <;> (first | (obtain ⟨rfl, rfl, rfl, rfl, rfl⟩ := km_nxe h; exact km_Mq.rf) | (cases h; done)))))))
theorem km_mq_astore {i : Nat} (h : km_astore i nx ls st A m = some (.inl (pc', ls', st', A', m'))) : km_Mq A A' := by
  unfold km_astore at h
  first | (obtain ⟨rfl, rfl, rfl, rfl, rfl⟩ := km_nxe h; exact km_Mq.rf) | (cases h; done) | (split at h <;> (first | (obtain ⟨rfl, rfl, rfl, rfl, rfl⟩ := km_nxe h; exact km_Mq.rf) | (cases h; done) | (split at h <;> (first | (obtain ⟨rfl, rfl, rfl, rfl, rfl⟩ := km_nxe h; exact km_Mq.rf) | (cases h; done) | (split at h <;> (first | (obtain ⟨rfl, rfl, rfl, rfl, rfl⟩ := km_nxe h; exact km_Mq.rf) | (cases h; done)))))))
theorem km_mq_iinc {i : Nat} {k : Int} (h : km_iinc i k nx ls st A m = some (.inl (pc', ls', st', A', m'))) : km_Mq A A' := by
  unfold km_iinc at h
  first | (obtain ⟨rfl, rfl, rfl, rfl, rfl⟩ := km_nxe h; exact km_Mq.rf) | (cases h; done) | (split at h <;> (first | (obtain ⟨rfl, rfl, rfl, rfl, rfl⟩ := km_nxe h; exact km_Mq.rf) | (cases h; done) | (split at h <;> (first | (obtain ⟨rfl, rfl, rfl, rfl, rfl⟩ := km_nxe h; exact km_Mq.rf) | (cases h; done) | (split at h <;> (first | (obtain ⟨rfl, rfl, rfl, rfl, rfl⟩ := km_nxe h; exact km_Mq.rf) | (cases h; done)))))))
theorem km_mq_b2 {f : Int → Int → Option Int} (h : km_b2 f nx ls st A m = some (.inl (pc', ls', st', A', m'))) : km_Mq A A' := by
  unfold km_b2 at h
  first | (obtain ⟨rfl, rfl, rfl, rfl, rfl⟩ := km_nxe h; exact km_Mq.rf) | (cases h; done) | (split at h <;> (first | (obtain ⟨rfl, rfl, rfl, rfl, rfl⟩ := km_nxe h; exact km_Mq.rf) | (cases h; done) | (split at h <;> (first | (obtain ⟨rfl, rfl, rfl, rfl, rfl⟩ := km_nxe h; exact km_Mq.rf) | (cases h; done) | (split at h <;> (first | (obtain ⟨rfl, rfl, rfl, rfl, rfl⟩ := km_nxe h; exact km_Mq.rf) | (cases h; done)))))))
theorem km_mq_b2L {f : Int → Int → Option Int} (h : km_b2L f nx ls st A m = some (.inl (pc', ls', st', A', m'))) : km_Mq A A' := by
  unfold km_b2L at h
  first | (obtain ⟨rfl, rfl, rfl, rfl, rfl⟩ := km_nxe h; exact km_Mq.rf) | (cases h; done) | (split at h <;> (first | (obtain ⟨rfl, rfl, rfl, rfl, rfl⟩ := km_nxe h; exact km_Mq.rf) | (cases h; done) | (split at h <;> (first | (obtain ⟨rfl, rfl, rfl, rfl, rfl⟩ := km_nxe h; exact km_Mq.rf) | (cases h; done) | (split at h <;> (first | (obtain ⟨rfl, rfl, rfl, rfl, rfl⟩ := km_nxe h; exact km_Mq.rf) | (cases h; done)))))))
theorem km_mq_getf {f : Option (Nat × Nat × Nat × Bool)} (h : km_getf f nx ls st A m = some (.inl (pc', ls', st', A', m'))) : km_Mq A A' := by
  unfold km_getf at h
  first | (obtain ⟨rfl, rfl, rfl, rfl, rfl⟩ := km_nxe h; exact km_Mq.rf) | (cases h; done) | (split at h <;> (first | (obtain ⟨rfl, rfl, rfl, rfl, rfl⟩ := km_nxe h; exact km_Mq.rf) | (cases h; done) | (split at h <;> (first | (obtain ⟨rfl, rfl, rfl, rfl, rfl⟩ := km_nxe h; exact km_Mq.rf) | (cases h; done) | (split at h <;> (first | (obtain ⟨rfl, rfl, rfl, rfl, rfl⟩ := km_nxe h; exact km_Mq.rf) | (cases h; done)))))))
theorem km_mq_ald {t : Int} (h : km_ald t nx ls st A m = some (.inl (pc', ls', st', A', m'))) : km_Mq A A' := by
  unfold km_ald at h
  first | (obtain ⟨rfl, rfl, rfl, rfl, rfl⟩ := km_nxe h; exact km_Mq.rf) | (cases h; done) | (split at h <;> (first | (obtain ⟨rfl, rfl, rfl, rfl, rfl⟩ := km_nxe h; exact km_Mq.rf) | (cases h; done) | (split at h <;> (first | (obtain ⟨rfl, rfl, rfl, rfl, rfl⟩ := km_nxe h; exact km_Mq.rf) | (cases h; done) | (split at h <;> (first | (obtain ⟨rfl, rfl, rfl, rfl, rfl⟩ := km_nxe h; exact km_Mq.rf) | (cases h; done)))))))
theorem km_mq_ast {t : Int} (h : km_ast t nx ls st A m = some (.inl (pc', ls', st', A', m'))) : km_Mq A A' := by
  unfold km_ast at h
  first | (obtain ⟨rfl, rfl, rfl, rfl, rfl⟩ := km_nxe h; exact km_Mq.rf) | (cases h; done) | (split at h <;> (first | (obtain ⟨rfl, rfl, rfl, rfl, rfl⟩ := km_nxe h; exact km_Mq.rf) | (cases h; done) | (split at h <;> (first | (obtain ⟨rfl, rfl, rfl, rfl, rfl⟩ := km_nxe h; exact km_Mq.rf) | (cases h; done) | (split at h <;> (first | (obtain ⟨rfl, rfl, rfl, rfl, rfl⟩ := km_nxe h; exact km_Mq.rf) | (cases h; done)))))))
theorem km_mq_sld (h : km_sld nx ls st A m = some (.inl (pc', ls', st', A', m'))) : km_Mq A A' := by
  unfold km_sld at h
  split at h
  · split at h
    · split at h
      · obtain ⟨rfl, rfl, rfl, rfl, rfl⟩ := km_nxe h; exact km_Mq.rf
      · cases h
    · exact km_mq_ald h
  · cases h
theorem km_mq_alen (h : km_alen nx ls st A m = some (.inl (pc', ls', st', A', m'))) : km_Mq A A' := by
  unfold km_alen at h
  first | (obtain ⟨rfl, rfl, rfl, rfl, rfl⟩ := km_nxe h; exact km_Mq.rf) | (cases h; done) | (split at h <;> (first | (obtain ⟨rfl, rfl, rfl, rfl, rfl⟩ := km_nxe h; exact km_Mq.rf) | (cases h; done) | (split at h <;> (first | (obtain ⟨rfl, rfl, rfl, rfl, rfl⟩ := km_nxe h; exact km_Mq.rf) | (cases h; done) | (split at h <;> (first | (obtain ⟨rfl, rfl, rfl, rfl, rfl⟩ := km_nxe h; exact km_Mq.rf) | (cases h; done)))))))
theorem km_mq_mop {o dep : Nat} (h : km_mop o dep nx ls st A m = some (.inl (pc', ls', st', A', m'))) : km_Mq A A' := by
  unfold km_mop at h
  first | (obtain ⟨rfl, rfl, rfl, rfl, rfl⟩ := km_nxe h; exact km_Mq.rf) | (cases h; done) | (split at h <;> (first | (obtain ⟨rfl, rfl, rfl, rfl, rfl⟩ := km_nxe h; exact km_Mq.rf) | (cases h; done) | (split at h <;> (first | (obtain ⟨rfl, rfl, rfl, rfl, rfl⟩ := km_nxe h; exact km_Mq.rf) | (cases h; done) | (split at h <;> (first | (obtain ⟨rfl, rfl, rfl, rfl, rfl⟩ := km_nxe h; exact km_Mq.rf) | (cases h; done)))))))
theorem km_mq_sop {o dep : Nat} (h : km_sop o dep nx ls st A m = some (.inl (pc', ls', st', A', m'))) : km_Mq A A' := by
  unfold km_sop at h
  first | (obtain ⟨rfl, rfl, rfl, rfl, rfl⟩ := km_nxe h; exact km_Mq.rf) | (cases h; done) | (split at h <;> (first | (obtain ⟨rfl, rfl, rfl, rfl, rfl⟩ := km_nxe h; exact km_Mq.rf) | (cases h; done) | (split at h <;> (first | (obtain ⟨rfl, rfl, rfl, rfl, rfl⟩ := km_nxe h; exact km_Mq.rf) | (cases h; done) | (split at h <;> (first | (obtain ⟨rfl, rfl, rfl, rfl, rfl⟩ := km_nxe h; exact km_Mq.rf) | (cases h; done)))))))
theorem km_mq_newo {f : Option (Nat × Nat)} (h : km_newo f nx ls st A m = some (.inl (pc', ls', st', A', m'))) : km_Mq A A' := by
  unfold km_newo at h
  split at h
  · split at h
    · obtain ⟨rfl, rfl, rfl, rfl, rfl⟩ := km_nxe h
      (show (A.1 + _) + A.2.2.2.2.1 ≤ A.1 + (A.2.2.2.2.1 + _); omega)
    · cases h
  · cases h
theorem km_mq_newa {t : Option Int} (h : km_newa t nx ls st A m = some (.inl (pc', ls', st', A', m'))) : km_Mq A A' := by
  unfold km_newa at h
  split at h
  · split at h
    · obtain ⟨rfl, rfl, rfl, rfl, rfl⟩ := km_nxe h
      (show (A.1 + _) + A.2.2.2.2.1 ≤ A.1 + (A.2.2.2.2.1 + _); omega)
    · cases h
  · cases h
theorem km_mq_newm (h : km_newm nx ls st A m = some (.inl (pc', ls', st', A', m'))) : km_Mq A A' := by
  unfold km_newm at h
  split at h
  · split at h
    · obtain ⟨rfl, rfl, rfl, rfl, rfl⟩ := km_nxe h
      (show (A.1 + 1 + _) + A.2.2.2.2.1 ≤ A.1 + (A.2.2.2.2.1 + (1 + _)); omega)
    · cases h
  · cases h
theorem km_mq_putf {own flag : Nat} {f : Option (Nat × Nat × Nat × Bool)} (h : km_putf own flag f nx ls st A m = some (.inl (pc', ls', st', A', m'))) : km_Mq A A' := by
  unfold km_putf at h
  split at h
  · split at h
    · split at h <;> split at h <;> first | (cases h; done) | (obtain ⟨rfl, rfl, rfl, rfl, rfl⟩ := km_nxe h; exact Nat.le_refl _)
    · cases h
  · cases h
theorem km_ex_mq {i : Instr} (h : km_ex M i pc nx ls st A m = some (.inl (pc', ls', st', A', m'))) : km_Mq A A' := by
  unfold km_ex at h
  split at h <;> first
    | exact km_mq_iload h | exact km_mq_lload h | exact km_mq_aload h | exact km_mq_istore h | exact km_mq_lstore h | exact km_mq_astore h | exact km_mq_iinc h | exact km_mq_b2 h | exact km_mq_b2L h | exact km_mq_getf h | exact km_mq_putf h
    | exact km_mq_sld h | exact km_mq_ald h | exact km_mq_ast h | exact km_mq_alen h | exact km_mq_newo h | exact km_mq_newa h | exact km_mq_jp h | exact (km_no_call h).elim | exact (km_no_ret h).elim
    | (cases h; done) | (exact km_mq_nx h)
    | (split at h <;> first | exact km_mq_newm h | exact km_mq_mop h | exact km_mq_sop h | exact (km_no_call h).elim | exact km_mq_nx h | exact km_mq_br h | (cases h; done) | (split at h <;> first | exact km_mq_nx h | exact km_mq_jp h | (cases h; done) | (split at h <;> first | exact km_mq_nx h | exact km_mq_jp h | (cases h; done) | (split at h <;> first | exact km_mq_nx h | (cases h; done)))))
theorem km_step_mq (h : km_step M pc ls st A m = some (.inl (pc', ls', st', A', m'))) : km_Mq A A' := by
  unfold km_step km_go at h
  split at h
  · split at h
    · exact km_ex_mq h
    · cases h
  · cases h
theorem km_intr_mq {as : List km_V} {x : Option km_V} (h : km_intr M as A m = some (x, A', m')) : km_Mq A A' := by
  unfold km_intr at h
  split at h
  · cases h; exact km_Mq.rf
  · cases h
theorem km_run_mq : ∀ (n : Nat) (M : km_Md) (pc : Nat) (ls : km_Ls) (st : List km_V) (A : km_Al) (m : km_Mm) (x : Option km_V) (A' : km_Al) (m' : km_Mm), km_run n M pc ls st A m = some (x, A', m') → km_Mq A A'
  | 0, M, pc, ls, st, A, m, x, A', m', h => by cases h
  | n + 1, M, pc, ls, st, A, m, x, A', m', h => by
    rw [km_run] at h
    split at h
    · cases h
    · next pc1 ls1 st1 A1 m1 hs =>
      have h1 := km_step_mq hs
      have h2 := km_run_mq n _ _ _ _ _ _ _ _ _ h
      (unfold km_Mq at h1 h2 ⊢; omega)
    · next M1 as nx rest hs =>
      split at h
      · cases h
      · next v A1 m1 hr =>
        have h1 : km_Mq A A1 := by
          split at hr
          · exact km_intr_mq hr
          · exact km_run_mq n _ _ _ _ _ _ _ _ _ hr
        have h2 := km_run_mq n _ _ _ _ _ _ _ _ _ h
        (unfold km_Mq at h1 h2 ⊢; omega)
    · cases h
      exact km_Mq.rf
theorem km_mq_lb {n : Nat} {as : List km_V} {A A' : km_Al} {m m' : km_Mm} {x : Option km_V} (h : km_lb n as A m = some (x, A', m')) : km_Mq A A' := by
  unfold km_lb at h
  split at h
  · split at h
    · split at h
      · cases h; (show A.1 + A.2.2.2.2.1 ≤ A.1 + (A.2.2.2.2.1 + 1); omega)
      · split at h
        · cases h; (show A.1 + A.2.2.2.2.1 ≤ A.1 + (A.2.2.2.2.1 + 1); omega)
        · split at h
          · next v A1 m1 hr =>
            split at h
            · cases h; exact km_run_mq _ _ _ _ _ _ _ _ _ _ hr
            · cases h
          · cases h
    · cases h
  · cases h
theorem km_mq_cl9 {n : Nat} {M1 : km_Md} {as : List km_V} {A A' : km_Al} {m m' : km_Mm} {x : Option km_V} (h : km_cl9 n M1 as A m = some (x, A', m')) : km_Mq A A' := by
  unfold km_cl9 at h
  split at h
  · exact km_mq_lb h
  · split at h
    · exact km_intr_mq h
    · exact km_run_mq _ _ _ _ _ _ _ _ _ _ h
end ROWS
