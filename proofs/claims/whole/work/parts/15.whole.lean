/-! ===== the theorem: what the small machine runs, the real one runs ===== -/
section ROWS
variable {p : Program} {l : Launch} {e : Env} {R : Room} {s : State} {me : MethodId} {args : Array Value} {below : List Frame} {meth : Method} {c : Code} {w : km_Pr} {M : km_Md} {c0 s0 : Nat} {Q : State → Prop}
variable {i9 : Instr} {pc nx pc' : Nat} {ls ls' : km_Ls} {st st' : List km_V} {A A' : km_Al} {m m' : km_Mm}
theorem km_intr_fl {as : List km_V} {x : Option km_V} (h : km_intr M as A m = some (x, A', m')) : M.2.2.2.2.2.2.2 < 30 := by
  unfold km_intr at h
  split at h
  · omega
  · cases h
theorem km_ex_kind {i : Instr} {o : km_O} (h : km_ex M i pc nx ls st A m = some o) : (∃ X, o = .inl X) ∨ (∃ k, (i = .invokevirtual k ∧ km_call (km_mt M.2.1 k) 0 nx st A M.2.2.2.2.2.1 = some o) ∨ (i = .invokestatic k ∧ km_call (km_mt M.2.1 k) 1 nx st A M.2.2.2.2.2.1 = some o) ∨ (i = .invokespecial k ∧ km_call (km_mt M.2.1 k) 2 nx st A M.2.2.2.2.2.1 = some o)) ∨
    ((i = .ireturn ∧ km_ret 0 M.2.2.2.2.1 st = some o) ∨ (i = .lreturn ∧ km_ret 1 M.2.2.2.2.1 st = some o) ∨ (i = .return_ ∧ km_ret 2 M.2.2.2.2.1 st = some o)) := by
  cases i with
  | invokevirtual k =>
    simp only [km_ex] at h
    split at h
    · unfold km_sop km_nx at h
      refine Or.inl ?_
      repeat' (first | (cases h; done) | (cases h; exact ⟨_, rfl⟩) | split at h)
    · exact Or.inr (Or.inl ⟨k, Or.inl ⟨rfl, h⟩⟩)
  | invokespecial k =>
    simp only [km_ex] at h
    split at h
    · split at h
      · split at h
        · unfold km_nx at h; cases h; exact Or.inl ⟨_, rfl⟩
        · cases h
      · cases h
    · exact Or.inr (Or.inl ⟨k, Or.inr (Or.inr ⟨rfl, h⟩)⟩)
  | invokestatic k =>
    simp only [km_ex] at h
    split at h
    · unfold km_mop km_nx at h
      refine Or.inl ?_
      repeat' (first | (cases h; done) | (cases h; exact ⟨_, rfl⟩) | split at h)
    · exact Or.inr (Or.inl ⟨k, Or.inr (Or.inl ⟨rfl, h⟩)⟩)
  | ireturn => simp only [km_ex] at h; exact Or.inr (Or.inr (Or.inl ⟨rfl, h⟩))
  | lreturn => simp only [km_ex] at h; exact Or.inr (Or.inr (Or.inr (Or.inl ⟨rfl, h⟩)))
  | return_ => simp only [km_ex] at h; exact Or.inr (Or.inr (Or.inr (Or.inr ⟨rfl, h⟩)))
  | _ =>
    refine Or.inl ?_
    simp only [km_ex, km_nx, km_jp, km_br, km_b2, km_b2L, km_iload, km_lload, km_aload, km_istore, km_lstore, km_astore, km_iinc, km_getf, km_putf, km_ald, km_ast, km_sld, km_alen, km_newo, km_newa, km_newm] at h
    repeat' (first | (cases h; done) | (cases h; exact ⟨_, rfl⟩) | split at h)
theorem km_step_kind {o : km_O} (h : km_step M pc ls st A m = some o) : (∃ X, o = .inl X) ∨ (∃ (k kind : Nat), ((kind = 0 ∧ decode M.1 pc = .ok (.invokevirtual k, 3)) ∨ (kind = 1 ∧ decode M.1 pc = .ok (.invokestatic k, 3)) ∨ (kind = 2 ∧ decode M.1 pc = .ok (.invokespecial k, 3))) ∧ km_call (km_mt M.2.1 k) kind (pc + 3) st A M.2.2.2.2.2.1 = some o) ∨
    ((decode M.1 pc = .ok (.ireturn, 1) ∧ km_ret 0 M.2.2.2.2.1 st = some o) ∨ (decode M.1 pc = .ok (.lreturn, 1) ∧ km_ret 1 M.2.2.2.2.1 st = some o) ∨ (decode M.1 pc = .ok (.return_, 1) ∧ km_ret 2 M.2.2.2.2.1 st = some o)) := by
  unfold km_step km_go at h
  split at h
  · next i n hd =>
    split at h
    · next hl =>
      rcases km_ex_kind h with h1 | ⟨k, h1⟩ | h1
      · exact Or.inl h1
      · rcases h1 with ⟨rfl, h1⟩ | ⟨rfl, h1⟩ | ⟨rfl, h1⟩
        · have hn : n = 3 := by simpa [km_len] using hl
          subst hn
          exact Or.inr (Or.inl ⟨k, 0, Or.inl ⟨rfl, hd⟩, h1⟩)
        · have hn : n = 3 := by simpa [km_len] using hl
          subst hn
          exact Or.inr (Or.inl ⟨k, 1, Or.inr (Or.inl ⟨rfl, hd⟩), h1⟩)
        · have hn : n = 3 := by simpa [km_len] using hl
          subst hn
          exact Or.inr (Or.inl ⟨k, 2, Or.inr (Or.inr ⟨rfl, hd⟩), h1⟩)
      · refine Or.inr (Or.inr ?_)
        rcases h1 with ⟨rfl, h2⟩ | ⟨rfl, h2⟩ | ⟨rfl, h2⟩
        · have hn : n = 1 := by simpa [km_len] using hl
          subst hn
          exact Or.inl ⟨hd, h2⟩
        · have hn : n = 1 := by simpa [km_len] using hl
          subst hn
          exact Or.inr (Or.inl ⟨hd, h2⟩)
        · have hn : n = 1 := by simpa [km_len] using hl
          subst hn
          exact Or.inr (Or.inr ⟨hd, h2⟩)
    · cases h
  · cases h
theorem km_ret_no {X : km_Md × List km_V × Nat × List km_V} {k : Nat} {ty : Option FieldType} (h : km_ret k ty st = some (.inr (.inl X))) : False := by
  unfold km_ret at h
  repeat' (first | (cases h; done) | split at h)
theorem km_call_no {f : Option (km_Md × Bool)} {kind dep : Nat} {x : Option km_V} (h : km_call f kind nx st A dep = some (.inr (.inr x))) : False := by
  unfold km_call at h
  repeat' (first | (cases h; done) | split at h)
theorem km_stepW (h : km_step M pc ls st A m = some (.inl (pc', ls', st', A', m')))
    (hq : km_Qx w) (hSx : km_Sx l w) (C : km_Cx p s me args meth c w M) (hRm : km_Rm R M) (hc : c0 ≤ A.2.2.2.2.1 ∧ s0 ≤ A.2.2.2.2.2) (hR : A'.2.2.2.2.1 - c0 ≤ R.cells ∧ A'.2.2.2.2.2 - s0 ≤ R.slots)
    (K : km_W p l e R s me args below meth c w M c0 s0 Q pc' ls' st' A' m') : km_W p l e R s me args below meth c w M c0 s0 Q pc ls st A m := by
  unfold km_step km_go at h
  split at h
  · next i n hd =>
    split at h
    · next hl => exact km_exW hd hl h hq hSx C hRm hc hR K
    · cases h
  · cases h
/-- a method's end -/
theorem km_retW {x : Option km_V} (h : km_step M pc ls st A m = some (.inr (.inr x))) (C : km_Cx p s me args meth c w M) (hr : meth.sig.returnType = M.2.2.2.2.1) :
    km_W p l e R s me args below meth c w M c0 s0 (MQ below (km_Qm w x A m) args s (A.2.2.2.2.1 - c0) (A.2.2.2.2.2 - s0) (km_A w)) pc ls st A m := by
  rcases km_step_kind h with ⟨X, h1⟩ | ⟨k, kind, -, h1⟩ | h1
  · cases h1
  · exact (km_call_no h1).elim
  · have hx := C.1
    have hb := C.2.1
    have hlk := C.2.2.2.2.2.1
    intro H locs lc h1' h2 h3 h4 h5 h6
    have hf : ∀ q ∈ locs, km_A w q.base := h5.2.2
    rcases h1 with ⟨hd, h1⟩ | ⟨hd, h1⟩ | ⟨hd, h1⟩
    · unfold km_ret at h1
      split at h1
      · next z _ =>
        split at h1
        · next hz =>
          cases h1
          have hqq : ∀ t : State, t.heap = H → s.WarmedH t.vm → km_Qm w (some (.inl z)) A m args s (.returned (some (.int (Int32.ofInt z)))) t := fun t ht hW => ⟨⟨rfl, fun v hv => (by cases hv; exact h2 _ List.mem_cons_self), h3, by rw [ht]; exact h4, by rw [ht]; exact h6⟩, h5.F ht⟩
          rcases hz with hz | ⟨hz, z0, z1⟩
          · exact W.iret hx hb (hr.trans hz) hqq hf hd hlk
          · exact W.zret hx hb (hr.trans hz) (km_nar_bool z0 z1).1 hqq hf hd hlk
        · cases h1
      · next q => cases q
      · next q => cases q
      · cases h1
    · unfold km_ret at h1
      split at h1
      · next q => cases q
      · next z _ =>
        split at h1
        · next hz =>
          cases h1
          have hqq : ∀ t : State, t.heap = H → s.WarmedH t.vm → km_Qm w (some (.inr (.inl z))) A m args s (.returned (some (.long (Int64.ofInt z)))) t := fun t ht hW => ⟨⟨rfl, fun v hv => (by cases hv; exact h2 _ List.mem_cons_self), h3, by rw [ht]; exact h4, by rw [ht]; exact h6⟩, h5.F ht⟩
          exact W.lret hx hb (hr.trans hz) hqq hf hd hlk
        · cases h1
      · next q => cases q
      · cases h1
    · unfold km_ret at h1
      split at h1
      · next q => cases q
      · next q => cases q
      · split at h1
        · next hz =>
          cases h1
          have hqq : ∀ t : State, t.heap = H → s.WarmedH t.vm → km_Qm w none A m args s (.returned none) t := fun t ht hW => ⟨⟨rfl, fun v hv => (by cases hv), h3, by rw [ht]; exact h4, by rw [ht]; exact h6⟩, h5.F ht⟩
          exact W.vret hx hb (hr.trans hz) hqq hf hd hlk
        · cases h1
      · cases h1
/-- what is asked of the methods without bytecode here -/
def km_In (l : Launch) (w : km_Pr) : Prop := ∀ (M : km_Md) (as : List km_V) (A : km_Al) (m : km_Mm) (x : Option km_V) (A' : km_Al) (m' : km_Mm), 10 ≤ M.2.2.2.2.2.2.2 → km_intr M as A m = some (x, A', m') → km_ok M → km_Met l w M as A m x A' m'
theorem km_met {as : List km_V} {x : Option km_V} (ok : km_ok M) (hlen : (km_sl as).length ≤ M.2.2.2.1) (hg : km_gd w) (hq : km_Qx w) (hmo : km_Mo A A')
    (body : ∀ (p : Program) (e : Env) (R : Room) (s : State) (me : MethodId) (args : Array Value) (below : List Frame) (meth : Method) (c : Code) (Q : State → Prop), km_Cx p s me args meth c w M → km_Rm R M → (A'.2.2.2.2.1 - A.2.2.2.2.1 ≤ R.cells ∧ A'.2.2.2.2.2 - A.2.2.2.2.2 ≤ R.slots) →
      (∀ (pc : Nat) (ls : km_Ls) (st : List km_V), km_step M pc ls st A' m' = some (.inr (.inr x)) → km_W p l e R s me args below meth c w M A.2.2.2.2.1 A.2.2.2.2.2 Q pc ls st A' m') → km_W p l e R s me args below meth c w M A.2.2.2.2.1 A.2.2.2.2.2 Q 0 (km_entry M.2.2.2.1 as) [] A m) :
    km_Met l w M as A m x A' m' := by
  obtain ⟨o1, o2, o3, o4, o5, o6, o7, o8, o9⟩ := ok
  unfold km_Met
  refine Met.ofW (cc := M.1) (maxL := M.2.2.2.1) (ret := M.2.2.2.2.1) (ws' := km_gw) o1 rfl ?_
  intro p e s me args below meth c s₁ B hml hv
  obtain ⟨rfl, b1, b2, b3, b4, b5, b6, b7⟩ := hv
  have hts := atoms_spec (ws := km_ws M) B.pre
  have hown : s.vm.findClass M.2.2.1.cls = some me.cls := findClass_of_methodNamed B.named
  rw [o5] at hown
  have C : km_Cx p s me (as.map (km_cv (km_ad w))).toArray meth c w M := ⟨B.exec, B.bytes, hml, hown, fun x hx => hts x (List.mem_cons_of_mem _ hx), B.notSynchronized, fun hfl => (name_of_methodNamed B.named B.method).1.trans (o9 (by omega)).1, b4, b5, hg, b6⟩
  rw [lg_entry_eq]
  have h := body p e (km_rm M (A'.2.2.2.2.1 - A.2.2.2.2.1) (A'.2.2.2.2.2 - A.2.2.2.2.2)) s me (as.map (km_cv (km_ad w))).toArray below meth c (MQ below (km_Qm w x A' m') (as.map (km_cv (km_ad w))).toArray s (A'.2.2.2.2.1 - A.2.2.2.2.1) (A'.2.2.2.2.2 - A.2.2.2.2.2) (km_A w)) C ⟨Nat.le_refl _, Nat.le_refl _⟩ ⟨Nat.le_refl _, Nat.le_refl _⟩ (fun pc ls st hs => km_retW hs C B.returns) s.heap [] _ (km_lm_entry (km_ad w) hlen b1) (fun v hv => by cases hv) b2 b3 va_S.rf b7
  rw [Nat.sub_self, Nat.sub_self] at h
  exact h
/-- THE RUN: induction on the steps -/
theorem km_sound (hq : km_Qx w) (hg : km_gd w) (hI : km_In l w) (hSx : km_Sx l w) : ∀ (n : Nat) (M : km_Md) (pc : Nat) (ls : km_Ls) (st : List km_V) (A : km_Al) (m : km_Mm) (x : Option km_V) (A' : km_Al) (m' : km_Mm), km_run n M pc ls st A m = some (x, A', m') →
    ∀ (p : Program) (e : Env) (R : Room) (s : State) (me : MethodId) (args : Array Value) (below : List Frame) (meth : Method) (c : Code) (c0 s0 : Nat) (Q : State → Prop), km_Cx p s me args meth c w M → km_Rm R M → (c0 ≤ A.2.2.2.2.1 ∧ s0 ≤ A.2.2.2.2.2) → (A'.2.2.2.2.1 - c0 ≤ R.cells ∧ A'.2.2.2.2.2 - s0 ≤ R.slots) →
      (∀ (pc : Nat) (ls : km_Ls) (st : List km_V), km_step M pc ls st A' m' = some (.inr (.inr x)) → km_W p l e R s me args below meth c w M c0 s0 Q pc ls st A' m') → km_W p l e R s me args below meth c w M c0 s0 Q pc ls st A m
  | 0, M, pc, ls, st, A, m, x, A', m', h => by cases h
  | n + 1, M, pc, ls, st, A, m, x, A', m', h => by
    intro p e R s me args below meth c c0 s0 Q C hRm hc hR hret
    rw [km_run] at h
    split at h
    · cases h
    · next pc1 ls1 st1 A1 m1 hs =>
      have hm1 := km_step_mono hs
      have hm2 := km_run_mono n _ _ _ _ _ _ _ _ _ h
      exact km_stepW hs hq hSx C hRm hc ⟨by have := hR.1; have := hm2.1; omega, by have := hR.2; have := hm2.2; omega⟩ (km_sound hq hg hI hSx n M pc1 ls1 st1 A1 m1 x A' m' h p e R s me args below meth c c0 s0 Q C hRm ⟨Nat.le_trans hc.1 hm1.1, Nat.le_trans hc.2 hm1.2⟩ hR hret)
    · next M1 as nx rest hs =>
      rcases km_step_kind hs with ⟨X, h1⟩ | ⟨k, kind, hd, h1⟩ | h1
      · cases h1
      · split at h
        · cases h
        · next v A1 m1 hr =>
          cases hmt : km_mt M.2.1 k with
          | none => rw [hmt] at h1; cases h1
          | some Mn =>
            obtain ⟨M2, nest⟩ := Mn
            rw [hmt] at h1
            have hco := h1
            unfold km_call at hco
            dsimp only at hco
            split at hco
            · next hok =>
              cases hco
              have hlen : (km_sl (st.take (km_na M1 kind)).reverse).length ≤ M1.2.2.2.1 := by
                unfold km_callOk at hok
                simp only [Bool.and_eq_true, decide_eq_true_eq] at hok
                exact hok.1.2.2.2.2
              obtain ⟨-, hok2, -⟩ := km_lk_all M.2.1 _ (km_find hmt)
              dsimp only at hok2
              have hmo : km_Mo A A1 := by
                split at hr
                · exact km_intr_mono hr
                · exact km_run_mono n _ _ _ _ _ _ _ _ _ hr
              have hm2 := km_run_mono n _ _ _ _ _ _ _ _ _ h
              have hfl : M1.2.2.2.2.2.2.2 < 30 := by
                rcases hok2 with q | q
                · split at hr
                  · have := km_intr_fl hr
                    omega
                  · next q2 => omega
                · by_cases q2 : 10 ≤ M1.2.2.2.2.2.2.2
                  · rw [if_pos q2] at hr
                    have := km_intr_fl hr
                    omega
                  · omega
              have ok1 : km_ok M1 := hok2.resolve_left (by omega)
              have hMet : km_Met l w M1 (st.take (km_na M1 kind)).reverse A m v A1 m1 := by
                split at hr
                · next q => exact hI M1 _ A m v A1 m1 q hr ok1
                · next q =>
                  refine km_met ok1 hlen hg hq hmo (fun p' e' R' s' me' args' below' meth' c' Q' C' hRm' hR' hret' => ?_)
                  exact km_sound hq hg hI hSx n M1 0 _ [] A m v A1 m1 hr p' e' R' s' me' args' below' meth' c' _ _ Q' C' hRm' ⟨Nat.le_refl _, Nat.le_refl _⟩ hR' hret'
              exact km_r_call rfl hd hmt h1 hfl hq C hRm hc hmo ⟨by have := hR.1; have := hm2.1; omega, by have := hR.2; have := hm2.2; omega⟩ hMet (km_sound hq hg hI hSx n M (pc + 3) ls _ A1 m1 x A' m' h p e R s me args below meth c c0 s0 Q C hRm ⟨Nat.le_trans hc.1 hmo.1, Nat.le_trans hc.2 hmo.2⟩ hR hret)
            · cases hco
      · rcases h1 with ⟨-, h1⟩ | ⟨-, h1⟩ | ⟨-, h1⟩ <;> exact (km_ret_no h1).elim
    · next v hs =>
      cases h
      exact hret pc ls st hs
end ROWS
