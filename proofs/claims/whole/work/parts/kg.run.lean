/-! ===== the law's run: true, for every script ===== -/
theorem law_run {L : Nat} (hL : L ≤ 3072) (f : Int → Int) : ∃ (n : Nat) (A' : km_Al) (m' : km_Mm), km_rl n M_L_law 0 [some (.inr (.inr (-2))), none, none, none, none, none, none] [] (km_Ap 0 L kR00) (kmix f kM00) = some (some (.inl 1), A', m') ∧ A'.2.2.2.2.1 ≤ 697 ∧ A'.2.2.2.2.2 ≤ km_s9 185 + 3072 := by
  have h := law_loop 512 (L, 40, 46, -1, -1) 185 (km_s9 185) (kmix f kMx) 0 0 none none kIN_start (by decide) (by show (0 : Int) ≤ (L : Int); omega) (by show (L : Int) ≤ 3072; omega) (by show (L : Int) - 0 < 6 * ((512 : Nat) : Int) + 6; omega) (by decide)
  rw [← kAp_A0, ← law_start] at h
  obtain ⟨n, x, A', m', hr, hx, h1, h2⟩ := h
  exact ⟨n, A', m', by rw [hr, hx], h1, h2⟩
theorem km_mo_lb {n : Nat} {as : List km_V} {A A' : km_Al} {m m' : km_Mm} {x : Option km_V} (h : km_lb n as A m = some (x, A', m')) : km_Mo A A' := by
  unfold km_lb at h
  split at h
  · split at h
    · split at h
      · cases h; exact ⟨Nat.le_succ _, Nat.le_add_right _ _⟩
      · split at h
        · cases h; exact ⟨Nat.le_succ _, Nat.le_add_right _ _⟩
        · split at h
          · next v A1 m1 hr =>
            split at h
            · cases h; exact km_run_mono _ _ _ _ _ _ _ _ _ _ hr
            · cases h
          · cases h
    · cases h
  · cases h
theorem km_mo_cl9 {n : Nat} {M1 : km_Md} {as : List km_V} {A A' : km_Al} {m m' : km_Mm} {x : Option km_V} (h : km_cl9 n M1 as A m = some (x, A', m')) : km_Mo A A' := by
  unfold km_cl9 at h
  split at h
  · exact km_mo_lb h
  · split at h
    · exact km_intr_mono h
    · exact km_run_mono _ _ _ _ _ _ _ _ _ _ h
theorem km_rl_mono : ∀ (n : Nat) (M : km_Md) (pc : Nat) (ls : km_Ls) (st : List km_V) (A : km_Al) (m : km_Mm) (x : Option km_V) (A' : km_Al) (m' : km_Mm), km_rl n M pc ls st A m = some (x, A', m') → km_Mo A A'
  | 0, M, pc, ls, st, A, m, x, A', m', h => by cases h
  | n + 1, M, pc, ls, st, A, m, x, A', m', h => by
    rw [km_rl] at h
    split at h
    · cases h
    · next pc1 ls1 st1 A1 m1 hs =>
      have h1 := km_step_mono hs
      have h2 := km_rl_mono n _ _ _ _ _ _ _ _ _ h
      exact ⟨Nat.le_trans h1.1 h2.1, Nat.le_trans h1.2 h2.2⟩
    · next M1 as nx rest hs =>
      split at h
      · cases h
      · next v A1 m1 hr =>
        have h1 := km_mo_cl9 hr
        have h2 := km_rl_mono n _ _ _ _ _ _ _ _ _ h
        exact ⟨Nat.le_trans h1.1 h2.1, Nat.le_trans h1.2 h2.2⟩
    · cases h
      exact km_Mo.rf
/-- what is asked of the real machine at the law's call of branch -/
def km_Bx (l : Launch) (w : km_Pr) : Prop := ∀ (p : Program) (e : Env) (R : Room) (s : State) (me : MethodId) (args : Array Value) (below : List Frame) (meth : Method) (c : Code) (c0 s0 : Nat) (Q : State → Prop) (n pc : Nat) (ls : km_Ls) (as rest : List km_V) (v : Option km_V) (A A1 : km_Al) (m m1 : km_Mm),
  decode M_L_law.1 pc = .ok (.invokestatic 172, 3) → A.1 ≤ A.2.2.2.2.1 → (rest.map km_cat).sum ≤ 8 → as.length = 4 → km_lb n as A m = some (v, A1, m1) → km_Cx p s me args meth c w M_L_law → km_Rm R M_L_law → (c0 ≤ A.2.2.2.2.1 ∧ s0 ≤ A.2.2.2.2.2) → (A1.2.2.2.2.1 - c0 ≤ R.cells ∧ A1.2.2.2.2.2 - s0 ≤ R.slots) →
  km_W p l e R s me args below meth c w M_L_law c0 s0 Q (pc + 3) ls (v.toList ++ rest) A1 m1 → km_W p l e R s me args below meth c w M_L_law c0 s0 Q pc ls (as.reverse ++ rest) A m
theorem km_b31 : ∀ e ∈ km_mtL 13, e.2.1.2.2.2.2.2.2.2 = 31 → e.1 = 172 := by decide
section ROWS
variable {p : Program} {l : Launch} {e : Env} {R : Room} {s : State} {me : MethodId} {args : Array Value} {below : List Frame} {meth : Method} {c : Code} {w : km_Pr} {M : km_Md} {c0 s0 : Nat} {Q : State → Prop}
variable {i9 : Instr} {pc nx pc' : Nat} {ls ls' : km_Ls} {st st' : List km_V} {A A' : km_Al} {m m' : km_Mm}
set_option maxRecDepth 100000 in
/-- THE LAW'S RUN is the real machine's -/
theorem km_soundL (hq : km_Qx w) (hg : km_gd w) (hI : km_In9 l w) (hSx : km_Sx l w) (hB : km_Bx l w) : ∀ (n : Nat) (pc : Nat) (ls : km_Ls) (st : List km_V) (A : km_Al) (m : km_Mm) (x : Option km_V) (A' : km_Al) (m' : km_Mm), km_rl n M_L_law pc ls st A m = some (x, A', m') → A.1 ≤ A.2.2.2.2.1 →
    ∀ (p : Program) (e : Env) (R : Room) (s : State) (me : MethodId) (args : Array Value) (below : List Frame) (meth : Method) (c : Code) (c0 s0 : Nat) (Q : State → Prop), km_Cx p s me args meth c w M_L_law → km_Rm R M_L_law → (c0 ≤ A.2.2.2.2.1 ∧ s0 ≤ A.2.2.2.2.2) → (A'.2.2.2.2.1 - c0 ≤ R.cells ∧ A'.2.2.2.2.2 - s0 ≤ R.slots) →
      (∀ (pc : Nat) (ls : km_Ls) (st : List km_V), km_step M_L_law pc ls st A' m' = some (.inr (.inr x)) → km_W p l e R s me args below meth c w M_L_law c0 s0 Q pc ls st A' m') → km_W p l e R s me args below meth c w M_L_law c0 s0 Q pc ls st A m
  | 0, pc, ls, st, A, m, x, A', m', h => by cases h
  | n + 1, pc, ls, st, A, m, x, A', m', h => by
    intro h9 p e R s me args below meth c c0 s0 Q C hRm hc hR hret
    rw [km_rl] at h
    split at h
    · cases h
    · next pc1 ls1 st1 A1 m1 hs =>
      have hm1 := km_step_mono hs
      have hm2 := km_rl_mono n _ _ _ _ _ _ _ _ _ h
      exact km_stepW hs hq hSx C hRm hc ⟨by have := hR.1; have := hm2.1; omega, by have := hR.2; have := hm2.2; omega⟩ (km_soundL hq hg hI hSx hB n pc1 ls1 st1 A1 m1 x A' m' h (by have h8 := km_step_mq hs; unfold km_Mq at h8; omega) p e R s me args below meth c c0 s0 Q C hRm ⟨Nat.le_trans hc.1 hm1.1, Nat.le_trans hc.2 hm1.2⟩ hR hret)
    · next M1 as nx rest hs =>
      rcases km_step_kind hs with ⟨X, h1⟩ | ⟨k, kind, hd, h1⟩ | h1
      · cases h1
      · split at h
        · cases h
        · next v A1 m1 hr =>
          cases hmt : km_mt M_L_law.2.1 k with
          | none => rw [hmt] at h1; cases h1
          | some Mn =>
            obtain ⟨M2, nest⟩ := Mn
            rw [hmt] at h1
            have hco := h1
            unfold km_call at hco
            dsimp only at hco
            split at hco
            · next hok =>
              cases hco
              have hlen : (km_sl (st.take (km_na M1 kind)).reverse).length ≤ M1.2.2.2.1 := by
                unfold km_callOk at hok
                simp only [Bool.and_eq_true, decide_eq_true_eq] at hok
                exact hok.1.2.2.2.2
              have hmo := km_mo_cl9 hr
              have hm2 := km_rl_mono n _ _ _ _ _ _ _ _ _ h
              have K := km_soundL hq hg hI hSx hB n (pc + 3) ls _ A1 m1 x A' m' h (by have h8 := km_mq_cl9 hr; unfold km_Mq at h8; omega) p e R s me args below meth c c0 s0 Q C hRm ⟨Nat.le_trans hc.1 hmo.1, Nat.le_trans hc.2 hmo.2⟩ hR hret
              by_cases h31 : M1.2.2.2.2.2.2.2 = 31
              · have hk : k = 172 := km_b31 _ (km_find hmt) h31
                unfold km_cl9 at hr
                rw [if_pos h31] at hr
                have hM1 : M1 = M_L_branch := by
                  rw [hk] at hmt
                  exact (Prod.mk.inj (Option.some.inj hmt)).1.symm
                unfold km_callOk at hok
                simp only [Bool.and_eq_true, decide_eq_true_eq] at hok
                obtain ⟨⟨g1, g2, g3, g4, g5⟩, -⟩ := hok
                have hkind : kind = 1 := by rw [← g2, hM1]; rfl
                have hna : km_na M1 kind = 4 := by rw [hM1, hkind]; rfl
                rw [hna] at g1 g4 hr K
                have hd2 : decode M_L_law.1 pc = .ok (.invokestatic 172, 3) := by
                  rcases hd with ⟨a, b⟩ | ⟨a, b⟩ | ⟨a, b⟩
                  · omega
                  · rw [hk] at b; exact b
                  · omega
                have e1 : (st.take 4).reverse.reverse ++ st.drop 4 = st := by rw [List.reverse_reverse, List.take_append_drop]
                have := hB p e R s me args below meth c c0 s0 Q n pc ls (st.take 4).reverse (st.drop 4) v A A1 m m1 hd2 h9 g4 (by rw [List.length_reverse, List.length_take]; omega) hr C hRm hc ⟨by have := hR.1; have := hm2.1; omega, by have := hR.2; have := hm2.2; omega⟩ K
                rw [e1] at this
                exact this
              · unfold km_cl9 at hr
                rw [if_neg h31] at hr
                obtain ⟨-, hok2, -⟩ := km_lk_all M_L_law.2.1 _ (km_find hmt)
                dsimp only at hok2
                have hfl : M1.2.2.2.2.2.2.2 < 30 := by
                  rcases hok2 with q | q
                  · split at hr
                    · have := km_intr_fl hr
                      omega
                    · next q2 => omega
                  · by_cases q2 : 10 ≤ M1.2.2.2.2.2.2.2
                    · rw [if_pos q2] at hr
                      have := km_intr_fl hr
                      omega
                    · omega
                have ok1 : km_ok M1 := hok2.resolve_left (by omega)
                have hMet : km_Met l w M1 (st.take (km_na M1 kind)).reverse A m v A1 m1 := by
                  split at hr
                  · next q =>
                    have hTF : M1 = M_X1_traitFits := kz_tf hmt q hfl
                    subst hTF
                    exact hI _ A m v A1 m1 hr
                  · next q =>
                    refine km_met ok1 hlen hg hq hmo (fun p' e' R' s' me' args' below' meth' c' Q' C' hRm' hR' hret' => ?_)
                    exact km_sound9 hq hg hI hSx n M1 0 _ [] A m v A1 m1 hr p' e' R' s' me' args' below' meth' c' _ _ Q' C' hRm' ⟨Nat.le_refl _, Nat.le_refl _⟩ hR' hret'
                exact km_r_call rfl hd hmt h1 hfl hq C hRm hc hmo ⟨by have := hR.1; have := hm2.1; omega, by have := hR.2; have := hm2.2; omega⟩ hMet K
            · cases hco
      · rcases h1 with ⟨-, h1⟩ | ⟨-, h1⟩ | ⟨-, h1⟩ <;> exact (km_ret_no h1).elim
    · next v hs =>
      cases h
      exact hret pc ls st hs
end ROWS

