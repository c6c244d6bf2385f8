/-! ===== KinMeetLaw.branch: its handlers, its call in the law ===== -/
abbrev kz_hh : List (Nat × Nat × Nat × Nat) := [(0, 10, 13, 13), (0, 10, 17, 15)]
theorem kz_cw : Cond.codeWith yL_branch cL_branch 5 (some .int) kz_hh ∈ km_gw := km_in7 21 rfl rfl
theorem kz_mt7 : km_mt 13 7 = some (M_X11_branch, false) := rfl
section KZQ
variable {p : Program} {l : Launch} {e : Env} {R : Room} {s : State} {me : MethodId} {args : Array Value} {below : List Frame} {meth : Method} {c : Code} {w : km_Pr} {A A' : km_Al} {m m' : km_Mm} {Q : State → Prop} {a b x y v : Int}
theorem kz_LBof {as : List km_V} {x : Option km_V} (hlen : (km_sl as).length ≤ 5) (hg : km_gd w) (cs ss : Nat)
    (body : ∀ (p : Program) (e : Env) (s : State) (me : MethodId) (args : Array Value) (below : List Frame) (meth : Method) (c : Code), km_Cx p s me args meth c w M_L_branch → meth.sig.returnType = some .int → c.exceptionTable.toList = [⟨0, 10, 13, 13⟩, ⟨0, 10, 17, 15⟩] →
      km_W p l e (km_rm M_L_branch cs ss) s me args below meth c w M_L_branch A.2.2.2.2.1 A.2.2.2.2.2 (MQ below (km_Qm w x A' m') args s cs ss (km_A w)) 0 (km_entry 5 as) [] A m) :
    Met l yL_branch (Cond.codeWith yL_branch cL_branch 5 (some .int) kz_hh :: km_gw) (km_rm M_L_branch cs ss) (va_Pc (as.map (km_cv (km_ad w))) (km_Bs w as A m)) (km_Qm w x A' m') cs ss (km_A w) := by
  refine va_MetW (hh := kz_hh) (cc := cL_branch) (maxL := 5) (ret := some .int) (ws' := km_gw) (by decide +kernel) rfl ?_
  intro p e s me args below meth c s₁ B hml hv
  obtain ⟨rfl, b1, b2, b3, b4, b5, b6, b7⟩ := hv
  have hts := atoms_spec (ws := Cond.codeWith yL_branch cL_branch 5 (some .int) kz_hh :: km_gw) B.pre
  have hown : s.vm.findClass yL_branch.cls = some me.cls := findClass_of_methodNamed B.named
  have C : km_Cx p s me (as.map (km_cv (km_ad w))).toArray meth c w M_L_branch := ⟨B.exec, B.bytes, hml, hown, fun x hx => hts x (List.mem_cons_of_mem _ hx), B.notSynchronized, (fun h => absurd h (by decide)), b4, b5, hg, b6⟩
  have htab := vx_table (x := yL_branch) B (hts _ List.mem_cons_self)
  rw [lg_entry_eq]
  have h := body p e s me _ below meth c C B.returns htab s.heap [] _ (km_lm_entry (km_ad w) hlen b1) (fun v hv => by cases hv) b2 b3 va_S.rf b7
  rw [Nat.sub_self, Nat.sub_self] at h
  exact h
theorem kz_al {j pc' : Nat} {ls : km_Ls} {st : List km_V} {z : Int} (hx : km_get ls j = some (.inr (.inr z))) (h : ¬ z = -1) : km_aload j pc' ls st A m = some (.inl (pc', ls, .inr (.inr z) :: st, A, m)) := by
  unfold km_aload
  rw [hx]
  dsimp only
  rw [if_neg h]
  rfl
theorem kz_LB5 (hq : km_Qx w) (hSx : km_Sx l w) (C : km_Cx p s me args meth c w M_L_branch) {cs ss : Nat} (ha : 0 ≤ a) (hb : 0 ≤ b)
    (K : km_W p l e (km_rm M_L_branch cs ss) s me args below meth c w M_L_branch A.2.2.2.2.1 A.2.2.2.2.2 Q 5 [some (.inr (.inr a)), some (.inl x), some (.inl y), some (.inr (.inr b)), none] [.inl y, .inl x, .inr (.inr a), .inl 0, .inr (.inr b)] A m) :
    km_W p l e (km_rm M_L_branch cs ss) s me args below meth c w M_L_branch A.2.2.2.2.1 A.2.2.2.2.2 Q 0 [some (.inr (.inr a)), some (.inl x), some (.inl y), some (.inr (.inr b)), none] [] A m := by
  have S : ∀ {pc pc' : Nat} {ls : km_Ls} {st st' : List km_V}, km_step M_L_branch pc ls st A m = some (.inl (pc', ls, st', A, m)) → km_W p l e (km_rm M_L_branch cs ss) s me args below meth c w M_L_branch A.2.2.2.2.1 A.2.2.2.2.2 Q pc' ls st' A m → km_W p l e (km_rm M_L_branch cs ss) s me args below meth c w M_L_branch A.2.2.2.2.1 A.2.2.2.2.2 Q pc ls st A m := fun h K => km_stepW h hq hSx C ⟨Nat.le_refl _, Nat.le_refl _⟩ ⟨Nat.le_refl _, Nat.le_refl _⟩ ⟨by rw [Nat.sub_self]; exact Nat.zero_le _, by rw [Nat.sub_self]; exact Nat.zero_le _⟩ K
  have ha1 : ¬ a = -1 := by omega
  have hb1 : ¬ b = -1 := by omega
  refine S (pc' := 1) (st' := [.inr (.inr b)]) (km_stepE (i := .aload_n 3) (k := 1) (by decide +kernel) (by decide) (by
    have h1 : km_ex M_L_branch (.aload_n 3) 0 (0 + 1) [some (.inr (.inr a)), some (.inl x), some (.inl y), some (.inr (.inr b)), none] [] A m = km_aload 3 1 [some (.inr (.inr a)), some (.inl x), some (.inl y), some (.inr (.inr b)), none] [] A m := rfl
    rw [h1]
    exact kz_al rfl hb1)) ?_
  refine S (pc' := 2) (st' := [.inl 0, .inr (.inr b)]) (km_stepE (i := .iconst 0) (k := 1) (by decide +kernel) (by decide) rfl) ?_
  refine S (pc' := 3) (st' := [.inr (.inr a), .inl 0, .inr (.inr b)]) (km_stepE (i := .aload_n 0) (k := 1) (by decide +kernel) (by decide) (by
    have h1 : km_ex M_L_branch (.aload_n 0) 2 (2 + 1) [some (.inr (.inr a)), some (.inl x), some (.inl y), some (.inr (.inr b)), none] [.inl 0, .inr (.inr b)] A m = km_aload 0 3 [some (.inr (.inr a)), some (.inl x), some (.inl y), some (.inr (.inr b)), none] [.inl 0, .inr (.inr b)] A m := rfl
    rw [h1]
    exact kz_al rfl ha1)) ?_
  refine S (pc' := 4) (st' := [.inl x, .inr (.inr a), .inl 0, .inr (.inr b)]) (km_stepE (i := .iload_n 1) (k := 1) (by decide +kernel) (by decide) rfl) ?_
  exact S (pc' := 5) (st' := [.inl y, .inl x, .inr (.inr a), .inl 0, .inr (.inr b)]) (km_stepE (i := .iload_n 2) (k := 1) (by decide +kernel) (by decide) rfl) K
theorem kz_recvA (C : km_Cx p s me args meth c w M_L_branch) {H : Heap} (g4 : km_P w A m H) (ha : 0 ≤ a ∧ a < (A.1 : Int) ∧ km_kd A a = 21) : ∃ cell : Cell, H[km_ad w a]? = some cell ∧ cell.vm.isStatics = false ∧ s.vm.findClass (km_cn 11) = some cell.cls := by
  have hkd : km_kd A a = 10 + ((11 : Nat) : Int) := ha.2.2
  obtain ⟨q, hq1, hq2⟩ : ∃ q, vwCl[11]? = some q ∧ q.1 = km_cn 11 := by
    obtain ⟨r9, h9, -⟩ := g4 a.toNat _ (km_wd_at' w A m ha.1 ha.2.1 (km_en_o hkd))
    exact ⟨r9, h9, km_clsn _ _ h9⟩
  have hrec := va_recv C.2.2.2.2.2.2.2.1 g4 hq1 (km_wd_at' w A m ha.1 ha.2.1 (km_en_o hkd))
  rw [hq2] at hrec
  exact hrec
/-- thrown out of KinMeet.branch, caught here -/
theorem kz_ex5 {E : String} {k : Int} {hp : Nat} (C : km_Cx p s me args meth c w M_L_branch) (hr : meth.sig.returnType = some .int) (h9 : A.1 ≤ A.2.2.2.2.1) (ha : 0 ≤ a ∧ a < (A.1 : Int) ∧ km_kd A a = 21) (hk : 1 ≤ k ∧ k ≤ 2)
    (hM : vx_Met l yX11_branch (km_ws M_X11_branch) (km_rm M_X11_branch 1 6) (va_Pc (([.inr (.inr a), .inl x, .inl y] : List km_V).map (km_cv (km_ad w))) (km_Bs w [.inr (.inr a), .inl x, .inl y] A m)) (fun _ _ _ _ => False) (kz_X w A m E) 1 6 (km_A w))
    (hcatch : ∀ (H : Heap) (locs : List Loc) (Q : State → Prop) (lc : Array Slot) (rest : List Value) (ce : Cell) (q : Addr), H[q]? = some ce → ce.vm = .none → s.vm.findClass E = some ce.cls → W p l e (km_rm M_L_branch 1 6) s me args below meth c H locs (0 + 1) (0 + 6) Q (F0 me hp lc [.ref q]) → vx_W p l e (km_rm M_L_branch 1 6) s me args below meth c H locs (0 + 1) (0 + 6) Q (F0 me 5 lc rest) q)
    (d1 : decode cL_branch hp = .ok (.astore 4, 2)) (d2 : decode cL_branch (hp + 2) = .ok (.iconst k, 1)) (d3 : decode cL_branch (hp + 2 + 1) = .ok (.ireturn, 1)) :
    km_W p l e (km_rm M_L_branch 1 6) s me args below meth c w M_L_branch A.2.2.2.2.1 A.2.2.2.2.2 (MQ below (km_Qm w (some (.inl k)) (km_ex1 A) m) args s 1 6 (km_A w)) 5 [some (.inr (.inr a)), some (.inl x), some (.inl y), some (.inr (.inr b)), none] [.inl y, .inl x, .inr (.inr a), .inl 0, .inr (.inr b)] A m := by
  intro H locs lc g1 g2 g3 g4 g5 g6
  rw [Nat.sub_self, Nat.sub_self]
  have hg := C.2.2.2.2.2.2.2.2.2.1
  obtain ⟨o1, o2, o3, o4, o5, o6, o7, o8, o9⟩ := ok_X11_branch
  obtain ⟨i1, i2⟩ := o7 rfl
  have hva : ∀ u ∈ ([.inr (.inr a), .inl x, .inl y] : List km_V), km_vo u := fun u hu => by
    simp only [List.mem_cons, List.not_mem_nil, or_false] at hu
    rcases hu with rfl | rfl | rfl
    · exact trivial
    · exact g2 _ (by simp)
    · exact g2 _ (by simp)
  have ea : km_cv (km_ad w) (.inr (.inr a)) = Value.ref (km_ad w a) := by
    show km_rv (km_ad w) a = _
    unfold km_rv
    rw [if_neg (by omega)]
  have hrun := vx_runV (C := km_cn 11) (b := km_ad w a) (As := [.int (Int32.ofInt x), .int (Int32.ofInt y)]) (rest := [.int (Int32.ofInt 0), km_cv (km_ad w) (.inr (.inr b))]) (g := F0 me 5 lc (([.inl y, .inl x, .inr (.inr a), .inl 0, .inr (.inr b)] : List km_V).map (km_cv (km_ad w)))) (locs := locs) (cells := 0) (slots := 0) (p := p) (l := l) (e := e) (R := km_rm M_L_branch 1 6) (s := s) (m := me) (args := args) (below := below) (meth := meth) (c := c) (H := H)
    ⟨C.1, C.2.1, C.2.2.1, C.2.2.2.1, C.2.2.2.2.1⟩ hM (cwV (ws' := km_gw) 2 C.2.2.2.2.1 (km_gdIn _ (fun z hz => by
      unfold wsV at hz
      rcases List.mem_append.mp hz with hz | hz
      · simp only [List.mem_cons, List.not_mem_nil, or_false] at hz
        rcases hz with rfl | rfl | rfl | rfl
        · exact km_in7 24 rfl rfl
        · exact i1
        · exact i2
        · exact o3
      · rcases List.mem_cons.mp hz with rfl | hz
        · exact o2
        · exact hz)) rfl rfl rfl ⟨o5, o4⟩ ⟨by decide, by decide⟩)
    ⟨km_Bs.blind hg, kz_recvA C g4 ha, fun U hU hW => ⟨by rw [List.map_cons, ea]; rfl, km_start C hva g3 g4 g5 g6 U hU hW⟩⟩ rfl rfl g1.2.1.1 (by rw [List.map_cons, List.map_cons, List.map_cons, ea]; rfl) (by
      have hcat : (km_cv (km_ad w) (.inr (.inr b))).category = 1 := by
        show (km_rv (km_ad w) b).category = 1
        unfold km_rv
        split <;> rfl
      show 2 * 0 + (1 + ((km_cv (km_ad w) (.inr (.inr b))).category + 0)) ≤ 8
      omega) (show decode cL_branch 5 = .ok (.invokevirtual 7, 3) by decide +kernel) ⟨Nat.le_refl 1, Nat.le_refl 6⟩
  intro T hT X
  rcases hrun T hT X with ⟨v9, st₀, t, T', L, h0, X', hL, e1, e2, hf, st⟩ | ⟨q, st₀, t, T', L, E', ce, h0, X', hL, e1, e2, hXC, hce, hcv, hcl, st⟩
  · exact hf.elim
  · obtain ⟨hEE, hP, hF⟩ := hXC
    subst hEE
    have hce' : T'.heap[q]? = some ce := by rw [e1]; exact hce
    have hq9 : ∀ t2 : State, t2.heap = T'.heap → s.WarmedH t2.vm → km_Qm w (some (.inl k)) (km_ex1 A) m args s (.returned (some (.int (Int32.ofInt k)))) t2 := fun t2 ht2 hW2 => by
      refine ⟨⟨rfl, fun v hv => ?_, g3, ?_, fun h => ?_⟩, ?_, fun z z1 z2 => ?_⟩
      · cases hv
        show -2147483648 ≤ k ∧ k ≤ 2147483647
        omega
      · rw [ht2, e1]
        exact hP
      · have h8 : A.2.2.2.2.1 + 1 = A.1 := h
        omega
      · have f1 := hF.1
        rw [h0] at f1
        rw [ht2, e1]
        exact Nat.le_trans g5.1 f1
      · have f2 := hF.2
        rw [h0] at f2
        rw [ht2, e1, f2 z (Nat.lt_of_lt_of_le z1 g5.1) z2]
        exact g5.2.1 z z1 z2
    have hf9 : ∀ z ∈ locs ++ L, km_A w z.base := fun z hz => by
      rcases List.mem_append.mp hz with hz | hz
      · exact g5.2.2 z hz
      · exact hL z hz
    have key := hcatch T'.heap (locs ++ L) (MQ below (km_Qm w (some (.inl k)) (km_ex1 A) m) args s 1 6 (km_A w)) lc [.int (Int32.ofInt 0), km_cv (km_ad w) (.inr (.inr b))] ce q hce' hcv hcl (by
      refine lv_astore C.1 C.2.1 (i := 4) (x := q) d1 g1.2.1 (by decide) rfl (fun ls2 h2 => ?_)
      refine lv_iconst C.1 C.2.1 (v := Int32.ofInt k) d2 rfl ?_
      exact W.iret C.1 C.2.1 hr hq9 hf9 d3 C.2.2.2.2.2.1)
    obtain ⟨t2, a1, b1⟩ := key T' rfl X'
    exact ⟨t2, st.trans a1, b1⟩
end KZQ
