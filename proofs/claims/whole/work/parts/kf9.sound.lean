/-! ===== the run, with what it asks of Book.traitFits alone ===== -/
set_option maxRecDepth 100000 in
theorem kz_o20 : ∀ o : Nat, ∀ e ∈ km_mtL o, 10 ≤ e.2.1.2.2.2.2.2.2.2 → e.2.1.2.2.2.2.2.2.2 < 30 → o = 11 ∧ e.1 = 132
  | 0 => by decide
  | 1 => by decide
  | 2 => by decide
  | 3 => by decide
  | 4 => by decide
  | 5 => by decide
  | 6 => by decide
  | 7 => by decide
  | 8 => by decide
  | 9 => by decide
  | 10 => by decide
  | 11 => by decide
  | 12 => by decide
  | 13 => by decide
  | n + 14 => fun e h => by cases h
theorem kz_tf {o k : Nat} {M1 : km_Md} {nest : Bool} (hmt : km_mt o k = some (M1, nest)) (q : 10 ≤ M1.2.2.2.2.2.2.2) (hfl : M1.2.2.2.2.2.2.2 < 30) : M1 = M_X1_traitFits := by
  obtain ⟨ho, hk⟩ := kz_o20 o _ (km_find hmt) q hfl
  have hk2 : k = 132 := hk
  subst ho
  subst hk2
  have h2 : km_mt 11 132 = some (M_X1_traitFits, false) := rfl
  rw [h2] at hmt
  exact (Prod.mk.inj (Option.some.inj hmt)).1.symm
def km_In9 (l : Launch) (w : km_Pr) : Prop := ∀ (as : List km_V) (A : km_Al) (m : km_Mm) (x : Option km_V) (A' : km_Al) (m' : km_Mm), km_intr M_X1_traitFits as A m = some (x, A', m') → km_Met l w M_X1_traitFits as A m x A' m'
section ROWS
variable {p : Program} {l : Launch} {e : Env} {R : Room} {s : State} {me : MethodId} {args : Array Value} {below : List Frame} {meth : Method} {c : Code} {w : km_Pr} {M : km_Md} {c0 s0 : Nat} {Q : State → Prop}
variable {i9 : Instr} {pc nx pc' : Nat} {ls ls' : km_Ls} {st st' : List km_V} {A A' : km_Al} {m m' : km_Mm}
/-- THE RUN again: of the methods without bytecode here it asks only Book.traitFits -/
theorem km_sound9 (hq : km_Qx w) (hg : km_gd w) (hI : km_In9 l w) (hSx : km_Sx l w) : ∀ (n : Nat) (M : km_Md) (pc : Nat) (ls : km_Ls) (st : List km_V) (A : km_Al) (m : km_Mm) (x : Option km_V) (A' : km_Al) (m' : km_Mm), km_run n M pc ls st A m = some (x, A', m') →
    ∀ (p : Program) (e : Env) (R : Room) (s : State) (me : MethodId) (args : Array Value) (below : List Frame) (meth : Method) (c : Code) (c0 s0 : Nat) (Q : State → Prop), km_Cx p s me args meth c w M → km_Rm R M → (c0 ≤ A.2.2.2.2.1 ∧ s0 ≤ A.2.2.2.2.2) → (A'.2.2.2.2.1 - c0 ≤ R.cells ∧ A'.2.2.2.2.2 - s0 ≤ R.slots) →
      (∀ (pc : Nat) (ls : km_Ls) (st : List km_V), km_step M pc ls st A' m' = some (.inr (.inr x)) → km_W p l e R s me args below meth c w M c0 s0 Q pc ls st A' m') → km_W p l e R s me args below meth c w M c0 s0 Q pc ls st A m
  | 0, M, pc, ls, st, A, m, x, A', m', h => by cases h
  | n + 1, M, pc, ls, st, A, m, x, A', m', h => by
    intro p e R s me args below meth c c0 s0 Q C hRm hc hR hret
    rw [km_run] at h
    split at h
    · cases h
    · next pc1 ls1 st1 A1 m1 hs =>
      have hm1 := km_step_mono hs
      have hm2 := km_run_mono n _ _ _ _ _ _ _ _ _ h
      exact km_stepW hs hq hSx C hRm hc ⟨by have := hR.1; have := hm2.1; omega, by have := hR.2; have := hm2.2; omega⟩ (km_sound9 hq hg hI hSx n M pc1 ls1 st1 A1 m1 x A' m' h p e R s me args below meth c c0 s0 Q C hRm ⟨Nat.le_trans hc.1 hm1.1, Nat.le_trans hc.2 hm1.2⟩ hR hret)
    · next M1 as nx rest hs =>
      rcases km_step_kind hs with ⟨X, h1⟩ | ⟨k, kind, hd, h1⟩ | h1
      · cases h1
      · split at h
        · cases h
        · next v A1 m1 hr =>
          cases hmt : km_mt M.2.1 k with
          | none => rw [hmt] at h1; cases h1
          | some Mn =>
            obtain ⟨M2, nest⟩ := Mn
            rw [hmt] at h1
            have hco := h1
            unfold km_call at hco
            dsimp only at hco
            split at hco
            · next hok =>
              cases hco
              have hlen : (km_sl (st.take (km_na M1 kind)).reverse).length ≤ M1.2.2.2.1 := by
                unfold km_callOk at hok
                simp only [Bool.and_eq_true, decide_eq_true_eq] at hok
                exact hok.1.2.2.2.2
              obtain ⟨-, hok2, -⟩ := km_lk_all M.2.1 _ (km_find hmt)
              dsimp only at hok2
              have hmo : km_Mo A A1 := by
                split at hr
                · exact km_intr_mono hr
                · exact km_run_mono n _ _ _ _ _ _ _ _ _ hr
              have hm2 := km_run_mono n _ _ _ _ _ _ _ _ _ h
              have hfl : M1.2.2.2.2.2.2.2 < 30 := by
                rcases hok2 with q | q
                · split at hr
                  · have := km_intr_fl hr
                    omega
                  · next q2 => omega
                · by_cases q2 : 10 ≤ M1.2.2.2.2.2.2.2
                  · rw [if_pos q2] at hr
                    have := km_intr_fl hr
                    omega
                  · omega
              have ok1 : km_ok M1 := hok2.resolve_left (by omega)
              have hMet : km_Met l w M1 (st.take (km_na M1 kind)).reverse A m v A1 m1 := by
                split at hr
                · next q =>
                  have hTF : M1 = M_X1_traitFits := kz_tf hmt q hfl
                  subst hTF
                  exact hI _ A m v A1 m1 hr
                · next q =>
                  refine km_met ok1 hlen hg hq hmo (fun p' e' R' s' me' args' below' meth' c' Q' C' hRm' hR' hret' => ?_)
                  exact km_sound9 hq hg hI hSx n M1 0 _ [] A m v A1 m1 hr p' e' R' s' me' args' below' meth' c' _ _ Q' C' hRm' ⟨Nat.le_refl _, Nat.le_refl _⟩ hR' hret'
              exact km_r_call rfl hd hmt h1 hfl hq C hRm hc hmo ⟨by have := hR.1; have := hm2.1; omega, by have := hR.2; have := hm2.2; omega⟩ hMet (km_sound9 hq hg hI hSx n M (pc + 3) ls _ A1 m1 x A' m' h p e R s me args below meth c c0 s0 Q C hRm ⟨Nat.le_trans hc.1 hmo.1, Nat.le_trans hc.2 hmo.2⟩ hR hret)
            · cases hco
      · rcases h1 with ⟨-, h1⟩ | ⟨-, h1⟩ | ⟨-, h1⟩ <;> exact (km_ret_no h1).elim
    · next v hs =>
      cases h
      exact hret pc ls st hs
end ROWS
