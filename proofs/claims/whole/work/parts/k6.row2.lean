/-! ===== no step writes the script ===== -/
section ROWS
variable {M : km_Md}
variable {i9 : Instr} {pc nx pc' : Nat} {ls ls' : km_Ls} {st st' : List km_V} {A A' : km_Al} {m m' : km_Mm}
theorem km_m2_nx {st0 : List km_V} {ls0 : km_Ls} (h : km_nx nx ls0 st0 A m = some (.inl (pc', ls', st', A', m'))) : m' (-2) = m (-2) := by
  obtain ⟨rfl, rfl, rfl, rfl, rfl⟩ := km_nxe h
  (first | rfl | (refine funext fun j => ?_; simp only [km_up, km_zero, km_zeros]; rw [if_neg (by omega)]))
theorem km_m2_jp {o : Int} {st0 : List km_V} (h : km_jp pc o ls st0 A m = some (.inl (pc', ls', st', A', m'))) : m' (-2) = m (-2) := by
  obtain ⟨-, rfl, rfl, rfl, rfl⟩ := km_jpe h
  (first | rfl | (refine funext fun j => ?_; simp only [km_up, km_zero, km_zeros]; rw [if_neg (by omega)]))
theorem km_m2_br {b : Bool} {o : Int} {st0 : List km_V} (h : km_br b pc o nx ls st0 A m = some (.inl (pc', ls', st', A', m'))) : m' (-2) = m (-2) := by
  obtain ⟨-, -, -, -, rfl, rfl, rfl, rfl⟩ := km_bre h
  (first | rfl | (refine funext fun j => ?_; simp only [km_up, km_zero, km_zeros]; rw [if_neg (by omega)]))
theorem km_m2_iload {i : Nat} (h : km_iload i nx ls st A m = some (.inl (pc', ls', st', A', m'))) : m' (-2) = m (-2) := by
  unfold km_iload at h
  first | (obtain ⟨rfl, rfl, rfl, rfl, rfl⟩ := km_nxe h; (first | rfl | (refine funext fun j => ?_; simp only [km_up, km_zero, km_zeros]; rw [if_neg (by omega)]))) | (cases h; done) | (split at h <;> (first | (obtain ⟨rfl, rfl, rfl, rfl, rfl⟩ := km_nxe h; (first | rfl | (refine funext fun j => ?_; simp only [km_up, km_zero, km_zeros]; rw [if_neg (by omega)]))) | (cases h; done) | (split at h <;> (first | (obtain ⟨rfl, rfl, rfl, rfl, rfl⟩ := km_nxe h; (first | rfl | (refine funext fun j => ?_; simp only [km_up, km_zero, km_zeros]; rw [if_neg (by omega)]))) | (cases h; done) | (split at h <;> (first | (obtain ⟨rfl, rfl, rfl, rfl, rfl⟩ := km_nxe h; (first | rfl | (refine funext fun j => ?_; simp only [km_up, km_zero, km_zeros]; rw [if_neg (by omega)]))) | (cases h; done)))))))
theorem km_m2_lload {i : Nat} (h : km_lload i nx ls st A m = some (.inl (pc', ls', st', A', m'))) : m' (-2) = m (-2) := by
  unfold km_lload at h
  first | (obtain ⟨rfl, rfl, rfl, rfl, rfl⟩ := km_nxe h; (first | rfl | (refine funext fun j => ?_; simp only [km_up, km_zero, km_zeros]; rw [if_neg (by omega)]))) | (cases h; done) | (split at h <;> (first | (obtain ⟨rfl, rfl, rfl, rfl, rfl⟩ := km_nxe h; (first | rfl | (refine funext fun j => ?_; simp only [km_up, km_zero, km_zeros]; rw [if_neg (by omega)]))) | (cases h; done) | (split at h <;> (first | (obtain ⟨rfl, rfl, rfl, rfl, rfl⟩ := km_nxe h; (first | rfl | (refine funext fun j => ?_; simp only [km_up, km_zero, km_zeros]; rw [if_neg (by omega)]))) | (cases h; done) | (split at h <;> (first | (obtain ⟨rfl, rfl, rfl, rfl, rfl⟩ := km_nxe h; (first | rfl | (refine funext fun j => ?_; simp only [km_up, km_zero, km_zeros]; rw [if_neg (by omega)]))) | (cases h; done)))))))
theorem km_m2_aload {i : Nat} (h : km_aload i nx ls st A m = some (.inl (pc', ls', st', A', m'))) : m' (-2) = m (-2) := by
  unfold km_aload at h
  first | (obtain ⟨rfl, rfl, rfl, rfl, rfl⟩ := km_nxe h; (first | rfl | (refine funext fun j => ?_; simp only [km_up, km_zero, km_zeros]; rw [if_neg (by omega)]))) | (cases h; done) | (split at h <;> (first | (obtain ⟨rfl, rfl, rfl, rfl, rfl⟩ := km_nxe h; (first | rfl | (refine funext fun j => ?_; simp only [km_up, km_zero, km_zeros]; rw [if_neg (by omega)]))) | (cases h; done) | (split at h <;> (first | (obtain ⟨rfl, rfl, rfl, rfl, rfl⟩ := km_nxe h; (first | rfl | (refine funext fun j => ?_; simp only [km_up, km_zero, km_zeros]; rw [if_neg (by omega)]))) | (cases h; done) | (split at h <;> (first | (obtain ⟨rfl, rfl, rfl, rfl, rfl⟩ := km_nxe h; (first | rfl | (refine funext fun j => ?_; simp only [km_up, km_zero, km_zeros]; rw [if_neg (by omega)]))) | (cases h; done)))))))
theorem km_m2_istore {i : Nat} (h : km_istore i nx ls st A m = some (.inl (pc', ls', st', A', m'))) : m' (-2) = m (-2) := by
  unfold km_istore at h
  first | (obtain ⟨rfl, rfl, rfl, rfl, rfl⟩ := km_nxe h; (first | rfl | (refine funext fun j => ?_; simp only [km_up, km_zero, km_zeros]; rw [if_neg (by omega)]))) | (cases h; done) | (split at h <;> (first | (obtain ⟨rfl, rfl, rfl, rfl, rfl⟩ := km_nxe h; (first | rfl | (refine funext fun j => ?_; simp only [km_up, km_zero, km_zeros]; rw [if_neg (by omega)]))) | (cases h; done) | (split at h <;> (first | (obtain ⟨rfl, rfl, rfl, rfl, rfl⟩ := km_nxe h; (first | rfl | (refine funext fun j => ?_; simp only [km_up, km_zero, km_zeros]; rw [if_neg (by omega)]))) | (cases h; done) | (split at h <;> (first | (obtain ⟨rfl, rfl, rfl, rfl, rfl⟩ := km_nxe h; (first | rfl | (refine funext fun j => ?_; simp only [km_up, km_zero, km_zeros]; rw [if_neg (by omega)]))) | (cases h; done)))))))
theorem km_m2_lstore {i : Nat} (h : km_lstore i nx ls st A m = some (.inl (pc', ls', st', A', m'))) : m' (-2) = m (-2) := by
  unfold km_lstore at h
  first | (obtain ⟨rfl, rfl, rfl, rfl, rfl⟩ := km_nxe h; (first | rfl | (refine funext fun j => ?_; simp only [km_up, km_zero, km_zeros]; rw [if_neg (by omega)]))) | (cases h; done) | (split at h <;> (first | (obtain ⟨rfl, rfl, rfl, rfl, rfl⟩ := km_nxe h; (first | rfl | (refine funext fun j => ?_; simp only [km_up, km_zero, km_zeros]; rw [if_neg (by omega)]))) | (cases h; done) | (split at h <;> (first | (obtain ⟨rfl, rfl, rfl, rfl, rfl⟩ := km_nxe h; (first | rfl | (refine funext fun j => ?_; simp only [km_up, km_zero, km_zeros]; rw [if_neg (by omega)]))) | (cases h; done) | (split at h <;> (first | (obtain ⟨rfl, rfl, rfl, rfl, rfl⟩ := km_nxe h; (first | rfl | (refine funext fun j => ?_; simp only [km_up, km_zero, km_zeros]; rw [if_neg (by omega)]))) | (cases h; done)))))))
theorem km_m2_astore {i : Nat} (h : km_astore i nx ls st A m = some (.inl (pc', ls', st', A', m'))) : m' (-2) = m (-2) := by
  unfold km_astore at h
  first | (obtain ⟨rfl, rfl, rfl, rfl, rfl⟩ := km_nxe h; (first | rfl | (refine funext fun j => ?_; simp only [km_up, km_zero, km_zeros]; rw [if_neg (by omega)]))) | (cases h; done) | (split at h <;> (first | (obtain ⟨rfl, rfl, rfl, rfl, rfl⟩ := km_nxe h; (first | rfl | (refine funext fun j => ?_; simp only [km_up, km_zero, km_zeros]; rw [if_neg (by omega)]))) | (cases h; done) | (split at h <;> (first | (obtain ⟨rfl, rfl, rfl, rfl, rfl⟩ := km_nxe h; (first | rfl | (refine funext fun j => ?_; simp only [km_up, km_zero, km_zeros]; rw [if_neg (by omega)]))) | (cases h; done) | (split at h <;> (first | (obtain ⟨rfl, rfl, rfl, rfl, rfl⟩ := km_nxe h; (first | rfl | (refine funext fun j => ?_; simp only [km_up, km_zero, km_zeros]; rw [if_neg (by omega)]))) | (cases h; done)))))))
theorem km_m2_iinc {i : Nat} {k : Int} (h : km_iinc i k nx ls st A m = some (.inl (pc', ls', st', A', m'))) : m' (-2) = m (-2) := by
  unfold km_iinc at h
  first | (obtain ⟨rfl, rfl, rfl, rfl, rfl⟩ := km_nxe h; (first | rfl | (refine funext fun j => ?_; simp only [km_up, km_zero, km_zeros]; rw [if_neg (by omega)]))) | (cases h; done) | (split at h <;> (first | (obtain ⟨rfl, rfl, rfl, rfl, rfl⟩ := km_nxe h; (first | rfl | (refine funext fun j => ?_; simp only [km_up, km_zero, km_zeros]; rw [if_neg (by omega)]))) | (cases h; done) | (split at h <;> (first | (obtain ⟨rfl, rfl, rfl, rfl, rfl⟩ := km_nxe h; (first | rfl | (refine funext fun j => ?_; simp only [km_up, km_zero, km_zeros]; rw [if_neg (by omega)]))) | (cases h; done) | (split at h <;> (first | (obtain ⟨rfl, rfl, rfl, rfl, rfl⟩ := km_nxe h; (first | rfl | (refine funext fun j => ?_; simp only [km_up, km_zero, km_zeros]; rw [if_neg (by omega)]))) | (cases h; done)))))))
theorem km_m2_b2 {f : Int → Int → Option Int} (h : km_b2 f nx ls st A m = some (.inl (pc', ls', st', A', m'))) : m' (-2) = m (-2) := by
  unfold km_b2 at h
  first | (obtain ⟨rfl, rfl, rfl, rfl, rfl⟩ := km_nxe h; (first | rfl | (refine funext fun j => ?_; simp only [km_up, km_zero, km_zeros]; rw [if_neg (by omega)]))) | (cases h; done) | (split at h <;> (first | (obtain ⟨rfl, rfl, rfl, rfl, rfl⟩ := km_nxe h; (first | rfl | (refine funext fun j => ?_; simp only [km_up, km_zero, km_zeros]; rw [if_neg (by omega)]))) | (cases h; done) | (split at h <;> (first | (obtain ⟨rfl, rfl, rfl, rfl, rfl⟩ := km_nxe h; (first | rfl | (refine funext fun j => ?_; simp only [km_up, km_zero, km_zeros]; rw [if_neg (by omega)]))) | (cases h; done) | (split at h <;> (first | (obtain ⟨rfl, rfl, rfl, rfl, rfl⟩ := km_nxe h; (first | rfl | (refine funext fun j => ?_; simp only [km_up, km_zero, km_zeros]; rw [if_neg (by omega)]))) | (cases h; done)))))))
theorem km_m2_b2L {f : Int → Int → Option Int} (h : km_b2L f nx ls st A m = some (.inl (pc', ls', st', A', m'))) : m' (-2) = m (-2) := by
  unfold km_b2L at h
  first | (obtain ⟨rfl, rfl, rfl, rfl, rfl⟩ := km_nxe h; (first | rfl | (refine funext fun j => ?_; simp only [km_up, km_zero, km_zeros]; rw [if_neg (by omega)]))) | (cases h; done) | (split at h <;> (first | (obtain ⟨rfl, rfl, rfl, rfl, rfl⟩ := km_nxe h; (first | rfl | (refine funext fun j => ?_; simp only [km_up, km_zero, km_zeros]; rw [if_neg (by omega)]))) | (cases h; done) | (split at h <;> (first | (obtain ⟨rfl, rfl, rfl, rfl, rfl⟩ := km_nxe h; (first | rfl | (refine funext fun j => ?_; simp only [km_up, km_zero, km_zeros]; rw [if_neg (by omega)]))) | (cases h; done) | (split at h <;> (first | (obtain ⟨rfl, rfl, rfl, rfl, rfl⟩ := km_nxe h; (first | rfl | (refine funext fun j => ?_; simp only [km_up, km_zero, km_zeros]; rw [if_neg (by omega)]))) | (cases h; done)))))))
theorem km_m2_getf {f : Option (Nat × Nat × Nat × Bool)} (h : km_getf f nx ls st A m = some (.inl (pc', ls', st', A', m'))) : m' (-2) = m (-2) := by
  unfold km_getf at h
  first | (obtain ⟨rfl, rfl, rfl, rfl, rfl⟩ := km_nxe h; (first | rfl | (refine funext fun j => ?_; simp only [km_up, km_zero, km_zeros]; rw [if_neg (by omega)]))) | (cases h; done) | (split at h <;> (first | (obtain ⟨rfl, rfl, rfl, rfl, rfl⟩ := km_nxe h; (first | rfl | (refine funext fun j => ?_; simp only [km_up, km_zero, km_zeros]; rw [if_neg (by omega)]))) | (cases h; done) | (split at h <;> (first | (obtain ⟨rfl, rfl, rfl, rfl, rfl⟩ := km_nxe h; (first | rfl | (refine funext fun j => ?_; simp only [km_up, km_zero, km_zeros]; rw [if_neg (by omega)]))) | (cases h; done) | (split at h <;> (first | (obtain ⟨rfl, rfl, rfl, rfl, rfl⟩ := km_nxe h; (first | rfl | (refine funext fun j => ?_; simp only [km_up, km_zero, km_zeros]; rw [if_neg (by omega)]))) | (cases h; done)))))))
theorem km_m2_ald {t : Int} (h : km_ald t nx ls st A m = some (.inl (pc', ls', st', A', m'))) : m' (-2) = m (-2) := by
  unfold km_ald at h
  first | (obtain ⟨rfl, rfl, rfl, rfl, rfl⟩ := km_nxe h; (first | rfl | (refine funext fun j => ?_; simp only [km_up, km_zero, km_zeros]; rw [if_neg (by omega)]))) | (cases h; done) | (split at h <;> (first | (obtain ⟨rfl, rfl, rfl, rfl, rfl⟩ := km_nxe h; (first | rfl | (refine funext fun j => ?_; simp only [km_up, km_zero, km_zeros]; rw [if_neg (by omega)]))) | (cases h; done) | (split at h <;> (first | (obtain ⟨rfl, rfl, rfl, rfl, rfl⟩ := km_nxe h; (first | rfl | (refine funext fun j => ?_; simp only [km_up, km_zero, km_zeros]; rw [if_neg (by omega)]))) | (cases h; done) | (split at h <;> (first | (obtain ⟨rfl, rfl, rfl, rfl, rfl⟩ := km_nxe h; (first | rfl | (refine funext fun j => ?_; simp only [km_up, km_zero, km_zeros]; rw [if_neg (by omega)]))) | (cases h; done)))))))
theorem km_m2_ast {t : Int} (h : km_ast t nx ls st A m = some (.inl (pc', ls', st', A', m'))) : m' (-2) = m (-2) := by
  unfold km_ast at h
  first | (obtain ⟨rfl, rfl, rfl, rfl, rfl⟩ := km_nxe h; (first | rfl | (refine funext fun j => ?_; simp only [km_up, km_zero, km_zeros]; rw [if_neg (by omega)]))) | (cases h; done) | (split at h <;> (first | (obtain ⟨rfl, rfl, rfl, rfl, rfl⟩ := km_nxe h; (first | rfl | (refine funext fun j => ?_; simp only [km_up, km_zero, km_zeros]; rw [if_neg (by omega)]))) | (cases h; done) | (split at h <;> (first | (obtain ⟨rfl, rfl, rfl, rfl, rfl⟩ := km_nxe h; (first | rfl | (refine funext fun j => ?_; simp only [km_up, km_zero, km_zeros]; rw [if_neg (by omega)]))) | (cases h; done) | (split at h <;> (first | (obtain ⟨rfl, rfl, rfl, rfl, rfl⟩ := km_nxe h; (first | rfl | (refine funext fun j => ?_; simp only [km_up, km_zero, km_zeros]; rw [if_neg (by omega)]))) | (cases h; done)))))))
theorem km_m2_sld (h : km_sld nx ls st A m = some (.inl (pc', ls', st', A', m'))) : m' (-2) = m (-2) := by
  unfold km_sld at h
  split at h
  · split at h
    · split at h
      · obtain ⟨rfl, rfl, rfl, rfl, rfl⟩ := km_nxe h; (first | rfl | (refine funext fun j => ?_; simp only [km_up, km_zero, km_zeros]; rw [if_neg (by omega)]))
      · cases h
    · exact km_m2_ald h
  · cases h
theorem km_m2_alen (h : km_alen nx ls st A m = some (.inl (pc', ls', st', A', m'))) : m' (-2) = m (-2) := by
  unfold km_alen at h
  first | (obtain ⟨rfl, rfl, rfl, rfl, rfl⟩ := km_nxe h; (first | rfl | (refine funext fun j => ?_; simp only [km_up, km_zero, km_zeros]; rw [if_neg (by omega)]))) | (cases h; done) | (split at h <;> (first | (obtain ⟨rfl, rfl, rfl, rfl, rfl⟩ := km_nxe h; (first | rfl | (refine funext fun j => ?_; simp only [km_up, km_zero, km_zeros]; rw [if_neg (by omega)]))) | (cases h; done) | (split at h <;> (first | (obtain ⟨rfl, rfl, rfl, rfl, rfl⟩ := km_nxe h; (first | rfl | (refine funext fun j => ?_; simp only [km_up, km_zero, km_zeros]; rw [if_neg (by omega)]))) | (cases h; done) | (split at h <;> (first | (obtain ⟨rfl, rfl, rfl, rfl, rfl⟩ := km_nxe h; (first | rfl | (refine funext fun j => ?_; simp only [km_up, km_zero, km_zeros]; rw [if_neg (by omega)]))) | (cases h; done)))))))
theorem km_m2_mop {o dep : Nat} (h : km_mop o dep nx ls st A m = some (.inl (pc', ls', st', A', m'))) : m' (-2) = m (-2) := by
  unfold km_mop at h
  first | (obtain ⟨rfl, rfl, rfl, rfl, rfl⟩ := km_nxe h; (first | rfl | (refine funext fun j => ?_; simp only [km_up, km_zero, km_zeros]; rw [if_neg (by omega)]))) | (cases h; done) | (split at h <;> (first | (obtain ⟨rfl, rfl, rfl, rfl, rfl⟩ := km_nxe h; (first | rfl | (refine funext fun j => ?_; simp only [km_up, km_zero, km_zeros]; rw [if_neg (by omega)]))) | (cases h; done) | (split at h <;> (first | (obtain ⟨rfl, rfl, rfl, rfl, rfl⟩ := km_nxe h; (first | rfl | (refine funext fun j => ?_; simp only [km_up, km_zero, km_zeros]; rw [if_neg (by omega)]))) | (cases h; done) | (split at h <;> (first | (obtain ⟨rfl, rfl, rfl, rfl, rfl⟩ := km_nxe h; (first | rfl | (refine funext fun j => ?_; simp only [km_up, km_zero, km_zeros]; rw [if_neg (by omega)]))) | (cases h; done)))))))
theorem km_m2_sop {o dep : Nat} (h : km_sop o dep nx ls st A m = some (.inl (pc', ls', st', A', m'))) : m' (-2) = m (-2) := by
  unfold km_sop at h
  first | (obtain ⟨rfl, rfl, rfl, rfl, rfl⟩ := km_nxe h; (first | rfl | (refine funext fun j => ?_; simp only [km_up, km_zero, km_zeros]; rw [if_neg (by omega)]))) | (cases h; done) | (split at h <;> (first | (obtain ⟨rfl, rfl, rfl, rfl, rfl⟩ := km_nxe h; (first | rfl | (refine funext fun j => ?_; simp only [km_up, km_zero, km_zeros]; rw [if_neg (by omega)]))) | (cases h; done) | (split at h <;> (first | (obtain ⟨rfl, rfl, rfl, rfl, rfl⟩ := km_nxe h; (first | rfl | (refine funext fun j => ?_; simp only [km_up, km_zero, km_zeros]; rw [if_neg (by omega)]))) | (cases h; done) | (split at h <;> (first | (obtain ⟨rfl, rfl, rfl, rfl, rfl⟩ := km_nxe h; (first | rfl | (refine funext fun j => ?_; simp only [km_up, km_zero, km_zeros]; rw [if_neg (by omega)]))) | (cases h; done)))))))
theorem km_m2_newo {f : Option (Nat × Nat)} (h : km_newo f nx ls st A m = some (.inl (pc', ls', st', A', m'))) : m' (-2) = m (-2) := by
  unfold km_newo at h
  split at h
  · split at h
    · obtain ⟨rfl, rfl, rfl, rfl, rfl⟩ := km_nxe h
      (first | rfl | (refine funext fun j => ?_; simp only [km_up, km_zero, km_zeros]; rw [if_neg (by omega)]))
    · cases h
  · cases h
theorem km_m2_newa {t : Option Int} (h : km_newa t nx ls st A m = some (.inl (pc', ls', st', A', m'))) : m' (-2) = m (-2) := by
  unfold km_newa at h
  split at h
  · split at h
    · obtain ⟨rfl, rfl, rfl, rfl, rfl⟩ := km_nxe h
      (first | rfl | (refine funext fun j => ?_; simp only [km_up, km_zero, km_zeros]; rw [if_neg (by omega)]))
    · cases h
  · cases h
theorem km_m2_newm (h : km_newm nx ls st A m = some (.inl (pc', ls', st', A', m'))) : m' (-2) = m (-2) := by
  unfold km_newm at h
  split at h
  · split at h
    · obtain ⟨rfl, rfl, rfl, rfl, rfl⟩ := km_nxe h
      (first | rfl | (refine funext fun j => ?_; simp only [km_up, km_zero, km_zeros]; rw [if_neg (by omega)]))
    · cases h
  · cases h
theorem km_m2_putf {own flag : Nat} {f : Option (Nat × Nat × Nat × Bool)} (h : km_putf own flag f nx ls st A m = some (.inl (pc', ls', st', A', m'))) : m' (-2) = m (-2) := by
  unfold km_putf at h
  split at h
  · split at h
    · split at h <;> split at h <;> first | (cases h; done) | (obtain ⟨rfl, rfl, rfl, rfl, rfl⟩ := km_nxe h; (first | rfl | (refine funext fun j => ?_; simp only [km_up, km_zero, km_zeros]; rw [if_neg (by omega)])))
    · cases h
  · cases h
theorem km_ex_m2 {i : Instr} (h : km_ex M i pc nx ls st A m = some (.inl (pc', ls', st', A', m'))) : m' (-2) = m (-2) := by
  unfold km_ex at h
  split at h <;> first
    | exact km_m2_iload h | exact km_m2_lload h | exact km_m2_aload h | exact km_m2_istore h | exact km_m2_lstore h | exact km_m2_astore h | exact km_m2_iinc h | exact km_m2_b2 h | exact km_m2_b2L h | exact km_m2_getf h | exact km_m2_putf h
    | exact km_m2_sld h | exact km_m2_ald h | exact km_m2_ast h | exact km_m2_alen h | exact km_m2_newo h | exact km_m2_newa h | exact km_m2_jp h | exact (km_no_call h).elim | exact (km_no_ret h).elim
    | (cases h; done) | (exact km_m2_nx h)
    | (split at h <;> first | exact km_m2_newm h | exact km_m2_mop h | exact km_m2_sop h | exact (km_no_call h).elim | exact km_m2_nx h | exact km_m2_br h | (cases h; done) | (split at h <;> first | exact km_m2_nx h | exact km_m2_jp h | (cases h; done) | (split at h <;> first | exact km_m2_nx h | exact km_m2_jp h | (cases h; done) | (split at h <;> first | exact km_m2_nx h | (cases h; done)))))
theorem km_step_m2 (h : km_step M pc ls st A m = some (.inl (pc', ls', st', A', m'))) : m' (-2) = m (-2) := by
  unfold km_step km_go at h
  split at h
  · split at h
    · exact km_ex_m2 h
    · cases h
  · cases h
theorem km_intr_m2 {as : List km_V} {x : Option km_V} (h : km_intr M as A m = some (x, A', m')) : m' (-2) = m (-2) := by
  unfold km_intr at h
  split at h
  · cases h; (first | rfl | (refine funext fun j => ?_; simp only [km_up, km_zero, km_zeros]; rw [if_neg (by omega)]))
  · cases h
theorem km_run_m2 : ∀ (n : Nat) (M : km_Md) (pc : Nat) (ls : km_Ls) (st : List km_V) (A : km_Al) (m : km_Mm) (x : Option km_V) (A' : km_Al) (m' : km_Mm), km_run n M pc ls st A m = some (x, A', m') → m' (-2) = m (-2)
  | 0, M, pc, ls, st, A, m, x, A', m', h => by cases h
  | n + 1, M, pc, ls, st, A, m, x, A', m', h => by
    rw [km_run] at h
    split at h
    · cases h
    · next pc1 ls1 st1 A1 m1 hs =>
      have h1 := km_step_m2 hs
      have h2 := km_run_m2 n _ _ _ _ _ _ _ _ _ h
      exact h2.trans h1
    · next M1 as nx rest hs =>
      split at h
      · cases h
      · next v A1 m1 hr =>
        have h1 : m1 (-2) = m (-2) := by
          split at hr
          · exact km_intr_m2 hr
          · exact km_run_m2 n _ _ _ _ _ _ _ _ _ hr
        have h2 := km_run_m2 n _ _ _ _ _ _ _ _ _ h
        exact h2.trans h1
    · cases h
      (first | rfl | (refine funext fun j => ?_; simp only [km_up, km_zero, km_zeros]; rw [if_neg (by omega)]))
end ROWS

