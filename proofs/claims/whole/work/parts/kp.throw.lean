/-! ===== KinMeet.branch throws: out of range branch, out of range what ===== -/
def kz_okw (w : Cond) : Bool := goodWord w || (match w with | .castable _ _ => true | .declares _ => true | .privateMethod _ => true | _ => false)
theorem kz_upP {x : MethodName} {s U : State} {args args' : Array Value} (hW : s.WarmedH U.vm) (h : (Cond.privateMethod x).before args s = true) : (Cond.privateMethod x).before args' U = true := by
  have hal := hW.alike
  have q1 : U.methodNamed? x = s.methodNamed? x := (show (s.setVm U.vm).methodNamed? x = _ from State.methodNamed?_setVm hal x)
  have q2 : U.vm.method? = s.vm.method? := funext hal.method?
  simp only [Cond.before, Cond.holds, Cond.value] at h ⊢
  rw [q1, q2]
  exact h
theorem kz_upw {w : Cond} (h : kz_okw w = true) {s U : State} {args args' : Array Value} (hE : kz_E s U) (hw : w.before args s = true) : w.before args' U = true := by
  simp only [kz_okw, Bool.or_eq_true] at h
  rcases h with h | h
  · exact word_at hE.1 (good_of_word h) hw
  · split at h
    · exact va_Nw.use rfl (va_Nw.warmC hE.1 (va_Nw.of rfl hw))
    · exact va_Nw.use rfl (va_Nw.warmD hE.1 (va_Nw.of rfl hw))
    · exact kz_upP hE.1 hw
    · cases h
abbrev kz_I : String := "java/lang/IndexOutOfBoundsException"
abbrev kz_ns : List String := ["java/lang/RuntimeException", "java/lang/Exception"]
theorem kz_aI : ∀ w ∈ vx_atS RX11 379 kz_I kz_ns, w ∈ lw_tbl := by decide +kernel
theorem kz_aN : ∀ w ∈ kz_xa.filter vx_no, w ∈ lw_tbl := by decide +kernel
theorem kz_oI : (vx_atS RX11 379 kz_I kz_ns).all kz_okw = true := by decide +kernel
theorem kz_oN : (kz_xa.filter vx_no).all kz_okw = true := by decide +kernel
theorem kz_gI : ∀ w ∈ Cond.classLink RX11 375 kz_I :: Cond.initialized kz_I :: vx_atS RX11 379 kz_I kz_ns, vx_ot w = true := by decide +kernel
theorem kz_gN : ∀ w ∈ Cond.classLink RX11 382 kz_N :: Cond.initialized kz_N :: kz_xa.filter vx_no, vx_ot w = true := by decide +kernel
def kz_T (s : State) : Prop := vx_Zq Bundle.tN "UNASSIGNED_STACK" Bundle.steD (kz_A s) s s.heap ∧ vx_Zq Bundle.tN "SUPPRESSED_SENTINEL" Bundle.listD (kz_A s) s s.heap
theorem kz_Th {args : Array Value} {s : State} (hts : ∀ w ∈ lw_tbl, w.before args s = true) (hgv : (Cond.and given_1 narrow_1).before args s = true) : kz_T s :=
  ⟨vx_Zqof (hts _ (km_sg7 _ (List.mem_of_getElem? (i := 55) rfl))) (hts _ (km_sg1 _ (List.mem_of_getElem? (i := 23) rfl))) (kz_at hgv 17 (by decide +kernel)) kz_nA,
    vx_Zqof (hts _ (km_sg7 _ (List.mem_of_getElem? (i := 57) rfl))) (hts _ (km_sg1 _ (List.mem_of_getElem? (i := 23) rfl))) (kz_at hgv 18 (by decide +kernel)) kz_nA⟩
theorem kz_upV {C n d : String} {s U : State} (h : vx_Zq C n d (kz_A s) s s.heap) (hE : kz_E s U) : vx_Zq C n d (kz_A s) U U.heap := vx_Zq.moved hE.1.alike (vx_Zq.kept h (kz_hq hE))
/-- how branch throws: the class, the world as it was -/
def kz_X (w : km_Pr) (A : km_Al) (m : km_Mm) (E0 : String) : String → State → State → Prop := fun E st t => E = E0 ∧ km_P w A m t.heap ∧ va_F (km_A w) st t
theorem kz_thr {l : Launch} (hl : l.stackTraces = false) {s0 : State} {w : km_Pr} (hw : km_E2 w = kz_E s0) (hbs : km_bs w = s0.heap.size) (hT : kz_T s0) {args0 : Array Value} (hts0 : ∀ w ∈ lw_tbl, w.before args0 s0 = true) {cls text : String} {ik is ic sa pc : Nat} (hcls : Bundle.fit cls = true)
    (a1 : ∀ w ∈ vx_atS RX11 ic cls kz_ns, w ∈ lw_tbl) (a2 : (vx_atS RX11 ic cls kz_ns).all kz_okw = true) (a3 : ∀ w ∈ Cond.classLink RX11 ik cls :: Cond.initialized cls :: vx_atS RX11 ic cls kz_ns, vx_ot w = true) (a4 : Cond.classLink RX11 ik cls ∈ km_gw) (a5 : Cond.initialized cls ∈ km_gw) (hR5 : vk_R RX11 is text sa s0)
    (d0 : decode cX11_branch pc = .ok (.new ik, 3)) (d3 : decode cX11_branch (pc + 3) = .ok (.dup, 1)) (d4 : decode cX11_branch (pc + 4) = .ok (.ldc_w is, 3)) (d7 : decode cX11_branch (pc + 7) = .ok (.invokespecial ic, 3)) (d10 : decode cX11_branch (pc + 10) = .ok (.athrow, 1))
    {p : Program} {e : Env} {s : State} {me : MethodId} {args : Array Value} {below : List Frame} {meth : Method} {c : Code} {A : km_Al} {m : km_Mm} {ls : km_Ls} (C : km_Cx p s me args meth c w M_X11_branch) (ht : ∀ x ∈ c.exceptionTable.toList, False) :
    km_W p l e (km_rm M_X11_branch 1 6) s me args below meth c w M_X11_branch A.2.2.2.2.1 A.2.2.2.2.2 (vx_MQ below (fun _ _ _ _ => False) (kz_X w A m cls) args s 1 6 (km_A w)) pc ls [] A m := by
  intro H locs lc g1 g2 g3 g4 g5 g6
  have hE := kz_cE hw C
  rw [Nat.sub_self, Nat.sub_self]
  exact vx_throwSW (s := s) C.1 C.2.1 hl (own := RX11) (cls := cls) (text := text) (names := kz_ns) (ik := ik) (is := is) (ic := ic) (sa := sa) (A := kz_A s0) C.2.2.2.1 hcls (by decide +kernel) (C.2.2.2.2.1 _ a4) (C.2.2.2.2.1 _ a5) (vk_R.warm hE.1 hR5) (fun w9 hw9 => kz_upw (List.all_eq_true.mp a2 w9 hw9) hE (hts0 _ (a1 w9 hw9))) a3 (kz_upV hT.1 hE) (kz_upV hT.2 hE) (kz_AA hbs g5) (g1.2.1.1.trans C.2.2.1.symm) d0 d3 d4 d7 d10 (fun x hx => (ht x hx).elim)
    (by show 2 + 3 < 7; omega) (by show 0 + (13 * (2 + 1) + 43) ≤ 280; omega) (Nat.le_refl 1) (Nat.le_refl 6) C.2.2.2.2.2.1
    (fun t _ h1 h2 => ⟨rfl, va_P.kept g4 (fun k q hk => h2 _ (g4 k q hk).lt), Nat.le_trans g5.1 h1, fun q q1 q2 => (h2 q (Nat.lt_of_lt_of_le q1 g5.1)).trans (g5.2.1 q q1 q2)⟩) g5.2.2 (Nat.le_refl 1) (Nat.le_refl 6)
theorem kz_thr2 {l : Launch} (hl : l.stackTraces = false) {s0 : State} {w : km_Pr} (hw : km_E2 w = kz_E s0) (hbs : km_bs w = s0.heap.size) (hT : kz_T s0) {args0 : Array Value} (hts0 : ∀ w ∈ lw_tbl, w.before args0 s0 = true) {sa : Nat} (hR5 : vk_R RX11 384 "no such what" sa s0)
    {p : Program} {e : Env} {s : State} {me : MethodId} {args : Array Value} {below : List Frame} {meth : Method} {c : Code} {A : km_Al} {m : km_Mm} {ls : km_Ls} (C : km_Cx p s me args meth c w M_X11_branch) (ht : ∀ x ∈ c.exceptionTable.toList, False) :
    km_W p l e (km_rm M_X11_branch 1 6) s me args below meth c w M_X11_branch A.2.2.2.2.1 A.2.2.2.2.2 (vx_MQ below (fun _ _ _ _ => False) (kz_X w A m kz_N) args s 1 6 (km_A w)) 29 ls [] A m := by
  intro H locs lc g1 g2 g3 g4 g5 g6
  have hE := kz_cE hw C
  rw [Nat.sub_self, Nat.sub_self]
  exact kz_throwN (s := s) C.1 C.2.1 hl (text := "no such what") (ik := 382) (is := 384) (sa := sa) (A := kz_A s0) C.2.2.2.1 (C.2.2.2.2.1 _ (km_in7 94 rfl rfl)) (C.2.2.2.2.1 _ (km_in1 27 rfl rfl)) (vk_R.warm hE.1 hR5) (fun w9 hw9 => kz_upw (List.all_eq_true.mp kz_oN w9 hw9) hE (hts0 _ (kz_aN w9 hw9))) kz_gN (kz_upV hT.1 hE) (kz_upV hT.2 hE) (kz_AA hbs g5) (g1.2.1.1.trans C.2.2.1.symm) (by decide +kernel) (by decide +kernel) (by decide +kernel) (by decide +kernel) (by decide +kernel) (fun x hx => (ht x hx).elim)
    (by show 2 + 3 < 7; omega) (by show 0 + (13 * (2 + 1) + 43) ≤ 280; omega) (Nat.le_refl 1) (Nat.le_refl 6) C.2.2.2.2.2.1
    (fun t _ h1 h2 => ⟨rfl, va_P.kept g4 (fun k q hk => h2 _ (g4 k q hk).lt), Nat.le_trans g5.1 h1, fun q q1 q2 => (h2 q (Nat.lt_of_lt_of_le q1 g5.1)).trans (g5.2.1 q q1 q2)⟩) g5.2.2 (Nat.le_refl 1) (Nat.le_refl 6)
/-- a body of branch that throws -/
theorem kz_thrOf {l : Launch} {w : km_Pr} {A : km_Al} {m : km_Mm} {a x y : Int} {E0 : String} (hg : km_gd w)
    (body : ∀ (p : Program) (e : Env) (s : State) (me : MethodId) (args : Array Value) (below : List Frame) (meth : Method) (c : Code), km_Cx p s me args meth c w M_X11_branch → (∀ x ∈ c.exceptionTable.toList, False) → km_W p l e (km_rm M_X11_branch 1 6) s me args below meth c w M_X11_branch A.2.2.2.2.1 A.2.2.2.2.2 (vx_MQ below (fun _ _ _ _ => False) (kz_X w A m E0) args s 1 6 (km_A w)) 0 [some (.inr (.inr a)), some (.inl x), some (.inl y)] [] A m) :
    vx_Met l yX11_branch (km_ws M_X11_branch) (km_rm M_X11_branch 1 6) (va_Pc (([.inr (.inr a), .inl x, .inl y] : List km_V).map (km_cv (km_ad w))) (km_Bs w [.inr (.inr a), .inl x, .inl y] A m)) (fun _ _ _ _ => False) (kz_X w A m E0) 1 6 (km_A w) := by
  refine vx_ofW (cc := cX11_branch) (maxL := 3) (ret := some .int) (ws' := km_gw) (by decide +kernel) rfl ?_
  intro p e s me args below meth c s₁ B hml ht hv
  obtain ⟨rfl, b1, b2, b3, b4, b5, b6, b7⟩ := hv
  have hts := atoms_spec (ws := km_ws M_X11_branch) B.pre
  have hown : s.vm.findClass yX11_branch.cls = some me.cls := findClass_of_methodNamed B.named
  have C : km_Cx p s me (([.inr (.inr a), .inl x, .inl y] : List km_V).map (km_cv (km_ad w))).toArray meth c w M_X11_branch := ⟨B.exec, B.bytes, hml, hown, fun x hx => hts x (List.mem_cons_of_mem _ hx), B.notSynchronized, (fun h => absurd h (by decide)), b4, b5, hg, b6⟩
  rw [lg_entry_eq]
  have h := body p e s me _ below meth c C ht s.heap [] _ (km_lm_entry (km_ad w) (n := 3) (as := [.inr (.inr a), .inl x, .inl y]) (Nat.le_refl 3) b1) (fun v hv => by cases hv) b2 b3 va_S.rf b7
  rw [Nat.sub_self, Nat.sub_self] at h
  exact h
section KZB
variable {l : Launch} {s0 : State} {w : km_Pr} {A : km_Al} {m : km_Mm} {a x y : Int} {args0 : Array Value} {sa : Nat}
theorem kz_thrI (hl : l.stackTraces = false) (hw : km_E2 w = kz_E s0) (hbs : km_bs w = s0.heap.size) (hT : kz_T s0) (hts0 : ∀ w ∈ lw_tbl, w.before args0 s0 = true) (hR5 : vk_R RX11 377 "no such branch" sa s0) (hg : km_gd w) (hq : km_Qx w) (hSx : km_Sx l w) (h : x < 0 ∨ 4 ≤ x) :
    vx_Met l yX11_branch (km_ws M_X11_branch) (km_rm M_X11_branch 1 6) (va_Pc (([.inr (.inr a), .inl x, .inl y] : List km_V).map (km_cv (km_ad w))) (km_Bs w [.inr (.inr a), .inl x, .inl y] A m)) (fun _ _ _ _ => False) (kz_X w A m kz_I) 1 6 (km_A w) := by
  refine kz_thrOf hg (fun p e s me args below meth c C ht => ?_)
  have S : ∀ {Q : State → Prop} {pc pc' : Nat} {ls : km_Ls} {st st' : List km_V}, km_step M_X11_branch pc ls st A m = some (.inl (pc', ls, st', A, m)) → km_W p l e (km_rm M_X11_branch 1 6) s me args below meth c w M_X11_branch A.2.2.2.2.1 A.2.2.2.2.2 Q pc' ls st' A m → km_W p l e (km_rm M_X11_branch 1 6) s me args below meth c w M_X11_branch A.2.2.2.2.1 A.2.2.2.2.2 Q pc ls st A m := fun h K => km_stepW h hq hSx C ⟨Nat.le_refl _, Nat.le_refl _⟩ ⟨Nat.le_refl _, Nat.le_refl _⟩ ⟨by rw [Nat.sub_self]; exact Nat.zero_le _, by rw [Nat.sub_self]; exact Nat.zero_le _⟩ K
  have K9 : km_W p l e (km_rm M_X11_branch 1 6) s me args below meth c w M_X11_branch A.2.2.2.2.1 A.2.2.2.2.2 (vx_MQ below (fun _ _ _ _ => False) (kz_X w A m kz_I) args s 1 6 (km_A w)) 9 [some (.inr (.inr a)), some (.inl x), some (.inl y)] [] A m :=
    kz_thr hl hw hbs hT hts0 (by decide +kernel) kz_aI kz_oI kz_gI (km_in7 28 rfl rfl) (km_in1 26 rfl rfl) hR5 (by decide +kernel) (by decide +kernel) (by decide +kernel) (by decide +kernel) (by decide +kernel) C ht
  refine S (pc' := 1) (st' := [.inl x]) (km_stepE (i := .iload_n 1) (k := 1) (by decide +kernel) (by decide) rfl) ?_
  by_cases q1 : x < 0
  · exact S (pc' := 9) (st' := []) (km_stepE (i := .ifCond .lt 8) (k := 3) (by decide +kernel) (by decide) (by simp [km_ex, km_br, km_cmp, q1])) K9
  refine S (pc' := 4) (st' := []) (km_stepE (i := .ifCond .lt 8) (k := 3) (by decide +kernel) (by decide) (by simp [km_ex, km_br, km_cmp, q1])) ?_
  refine S (pc' := 5) (st' := [.inl x]) (km_stepE (i := .iload_n 1) (k := 1) (by decide +kernel) (by decide) rfl) ?_
  refine S (pc' := 6) (st' := [.inl 4, .inl x]) (km_stepE (i := .iconst 4) (k := 1) (by decide +kernel) (by decide) rfl) ?_
  have q2 : ¬ x < 4 := by omega
  exact S (pc' := 9) (st' := []) (km_stepE (i := .if_icmp .lt 14) (k := 3) (by decide +kernel) (by decide) (by simp [km_ex, km_br, km_cmp, q2])) K9
theorem kz_thrN (hl : l.stackTraces = false) (hw : km_E2 w = kz_E s0) (hbs : km_bs w = s0.heap.size) (hT : kz_T s0) (hts0 : ∀ w ∈ lw_tbl, w.before args0 s0 = true) (hR6 : vk_R RX11 384 "no such what" sa s0) (hg : km_gd w) (hq : km_Qx w) (hSx : km_Sx l w) (h0 : ¬ (x < 0 ∨ 4 ≤ x)) (h : y < 0 ∨ 2 < y) :
    vx_Met l yX11_branch (km_ws M_X11_branch) (km_rm M_X11_branch 1 6) (va_Pc (([.inr (.inr a), .inl x, .inl y] : List km_V).map (km_cv (km_ad w))) (km_Bs w [.inr (.inr a), .inl x, .inl y] A m)) (fun _ _ _ _ => False) (kz_X w A m kz_N) 1 6 (km_A w) := by
  refine kz_thrOf hg (fun p e s me args below meth c C ht => ?_)
  have S : ∀ {Q : State → Prop} {pc pc' : Nat} {ls : km_Ls} {st st' : List km_V}, km_step M_X11_branch pc ls st A m = some (.inl (pc', ls, st', A, m)) → km_W p l e (km_rm M_X11_branch 1 6) s me args below meth c w M_X11_branch A.2.2.2.2.1 A.2.2.2.2.2 Q pc' ls st' A m → km_W p l e (km_rm M_X11_branch 1 6) s me args below meth c w M_X11_branch A.2.2.2.2.1 A.2.2.2.2.2 Q pc ls st A m := fun h K => km_stepW h hq hSx C ⟨Nat.le_refl _, Nat.le_refl _⟩ ⟨Nat.le_refl _, Nat.le_refl _⟩ ⟨by rw [Nat.sub_self]; exact Nat.zero_le _, by rw [Nat.sub_self]; exact Nat.zero_le _⟩ K
  have K29 : km_W p l e (km_rm M_X11_branch 1 6) s me args below meth c w M_X11_branch A.2.2.2.2.1 A.2.2.2.2.2 (vx_MQ below (fun _ _ _ _ => False) (kz_X w A m kz_N) args s 1 6 (km_A w)) 29 [some (.inr (.inr a)), some (.inl x), some (.inl y)] [] A m :=
    kz_thr2 hl hw hbs hT hts0 hR6 C ht
  have q1 : ¬ x < 0 := by omega
  have q2 : x < 4 := by omega
  refine S (pc' := 1) (st' := [.inl x]) (km_stepE (i := .iload_n 1) (k := 1) (by decide +kernel) (by decide) rfl) ?_
  refine S (pc' := 4) (st' := []) (km_stepE (i := .ifCond .lt 8) (k := 3) (by decide +kernel) (by decide) (by simp [km_ex, km_br, km_cmp, q1])) ?_
  refine S (pc' := 5) (st' := [.inl x]) (km_stepE (i := .iload_n 1) (k := 1) (by decide +kernel) (by decide) rfl) ?_
  refine S (pc' := 6) (st' := [.inl 4, .inl x]) (km_stepE (i := .iconst 4) (k := 1) (by decide +kernel) (by decide) rfl) ?_
  refine S (pc' := 20) (st' := []) (km_stepE (i := .if_icmp .lt 14) (k := 3) (by decide +kernel) (by decide) (by simp [km_ex, km_br, km_cmp, q2])) ?_
  refine S (pc' := 21) (st' := [.inl y]) (km_stepE (i := .iload_n 2) (k := 1) (by decide +kernel) (by decide) rfl) ?_
  by_cases q3 : y < 0
  · exact S (pc' := 29) (st' := []) (km_stepE (i := .ifCond .lt 8) (k := 3) (by decide +kernel) (by decide) (by simp [km_ex, km_br, km_cmp, q3])) K29
  refine S (pc' := 24) (st' := []) (km_stepE (i := .ifCond .lt 8) (k := 3) (by decide +kernel) (by decide) (by simp [km_ex, km_br, km_cmp, q3])) ?_
  refine S (pc' := 25) (st' := [.inl y]) (km_stepE (i := .iload_n 2) (k := 1) (by decide +kernel) (by decide) rfl) ?_
  refine S (pc' := 26) (st' := [.inl 2, .inl y]) (km_stepE (i := .iconst 2) (k := 1) (by decide +kernel) (by decide) rfl) ?_
  have q4 : ¬ y ≤ 2 := by omega
  exact S (pc' := 29) (st' := []) (km_stepE (i := .if_icmp .le 14) (k := 3) (by decide +kernel) (by decide) (by simp [km_ex, km_br, km_cmp, q4])) K29
end KZB
