/-! ===== the JDK's methods over the constant texts: pure, by the kit's rows ===== -/
def kz_L1 : String := "java/lang/StringLatin1"
def yz_pchk : MethodName := ⟨kz_P3, "checkIndex", "(IILjava/util/function/BiFunction;)I"⟩
def yz_cat1 : MethodName := ⟨kz_L1, "charAt", "([BI)C"⟩
def yz_can : MethodName := ⟨kz_L1, "canEncode", "(I)Z"⟩
def yz_ix1 : MethodName := ⟨kz_L1, "indexOf", "([BIII)I"⟩
def yz_ixc : MethodName := ⟨kz_L1, "indexOfChar", "([BIII)I"⟩
def yz_min : MethodName := ⟨"java/lang/Math", "min", "(II)I"⟩
def yz_max : MethodName := ⟨"java/lang/Math", "max", "(II)I"⟩
abbrev kz_rm (f n : Nat) : Room := { frames := f, cells := 0, slots := 0, locals := n }
def kz_Q (v : Option Value) : Array Value → State → Outcome → State → Prop := fun _ st oc t => oc = .returned v ∧ t.heap = st.heap
abbrev kz_Met (l : Launch) (s0 : State) (y : MethodName) (cc : ByteArray) (maxL : Nat) (ret : Option FieldType) (f n : Nat) (a : List Value) (v : Option Value) : Prop := Met l y (Cond.code y cc maxL ret :: km_gw) (kz_rm f n) (va_Pc a (kz_E s0)) (kz_Q v) 0 0 (fun _ => False)
theorem kz_bl {a : List Value} {s0 : State} : FrameBlind (va_Pc a (kz_E s0)) := fun _ _ _ _ h => ⟨h.1, h.2⟩
theorem kz_EU {s0 s : State} (hE : kz_E s0 s) : ∀ U : State, U.heap = s.heap → s.WarmedH U.vm → kz_E s0 U := fun U hU hW => kz_Est s U hW (fun q _ => by rw [hU]) hE
theorem kz_rec {C : String} {a : Nat} {A : Nat → Prop} {s : State} (h : va_O C a A s s.heap) : ∃ cellB : Cell, s.heap[a]? = some cellB ∧ cellB.vm.isStatics = false ∧ s.vm.findClass C = some cellB.cls := by
  obtain ⟨cell, h1, h2, h3, -⟩ := h
  exact ⟨cell, h1, h2, h3⟩
section KZ
variable {p : Program} {l : Launch} {e : Env} {R : Room} {s : State} {m : MethodId} {args : Array Value} {below : List Frame} {meth : Method} {c : Code} {H : Heap} {locs : List Loc} {cells slots : Nat} {Q : State → Prop}
variable {s0 : State} {cc bytes : ByteArray} {nL maxL index f n pc : Nat} {own : String} {y : MethodName} {ret : Option FieldType} {b : Nat} {As rest st0 : List Value} {v : Option Value} {ls : Array Slot} {a : Array Value} {r : Int32}
theorem kz_go (hr : va_Run p l e R s m args below meth c H locs cells slots 0 0 (F0 m pc ls st0) rest (kz_Q v a) (fun _ => False)) (kk : W p l e R s m args below meth c H locs cells slots Q (F0 m (pc + 3) ls (v.toList ++ rest))) : W p l e R s m args below meth c H locs cells slots Q (F0 m pc ls st0) := by
  intro T hT X
  obtain ⟨v1, st₀, t, T', L, h0, X', hL, e1, e2, ⟨hv, hh⟩, st⟩ := hr T hT X
  obtain rfl := Outcome.returned.inj hv
  have hLn : L = [] := by
    cases L with
    | nil => rfl
    | cons q r => exact (hL q List.mem_cons_self).elim
  subst hLn
  rw [List.append_nil] at X'
  obtain ⟨t2, a1, b1⟩ := kk T' (by rw [e1, hh, h0]) X'
  exact ⟨t2, st t2 a1, b1⟩
theorem kz_callS (S : CallFix p m c cc nL s args km_gw own) (hM : kz_Met l s0 y bytes maxL ret f n As v) (index : Nat) (k1 : Cond.methodLink own index y ∈ km_gw) (k2 : Cond.static y ∈ km_gw) (k3 : Cond.initialized y.cls ∈ km_gw) (k4 : Cond.code y bytes maxL ret ∈ km_gw)
    (hd : y.cls ≠ "java/lang/invoke/MethodHandle" ∧ y.cls ≠ "java/lang/invoke/VarHandle" ∧ (parseMethodDescriptor y.desc).map (fun d => d.parameters.length) = some As.length) (hR : f + 1 ≤ R.frames ∧ 8 + (maxL + 11) + n ≤ R.locals)
    (hE : ∀ U : State, U.heap = H → s.WarmedH U.vm → kz_E s0 U) (hls : ls.size = nL) (rest : List Value) (hst : st0 = As.reverse ++ rest) (hcat : (rest.map fun v => v.category).sum ≤ 8) (hf : cells ≤ R.cells ∧ slots ≤ R.slots) (hdg : decode cc pc = .ok (.invokestatic index, 3))
    (kk : W p l e R s m args below meth c H locs cells slots Q (F0 m (pc + 3) ls (v.toList ++ rest))) : W p l e R s m args below meth c H locs cells slots Q (F0 m pc ls st0) := by
  refine kz_go (va_runS (As := As) S hM (va_cwS (ws' := km_gw) As.length S.2.2.2.2 (km_gdIn _ (fun z hz => ?_)) rfl rfl rfl hd hR) ⟨kz_bl, fun U hU hW => ⟨rfl, hE U hU hW⟩⟩ rfl rfl hls hst (by show 2 * 0 + _ ≤ 8; omega) hdg hf) kk
  unfold va_wsS at hz
  rcases List.mem_append.mp hz with hz | hz
  · simp only [List.mem_cons, List.not_mem_nil, or_false] at hz
    rcases hz with rfl | rfl | rfl
    · exact k1
    · exact k2
    · exact k3
  · rcases List.mem_cons.mp hz with rfl | hz
    · exact k4
    · exact hz
theorem kz_callV (S : CallFix p m c cc nL s args km_gw own) (hM : kz_Met l s0 y bytes maxL ret f n (.ref b :: As) v) (index : Nat) (k1 : Cond.methodLink own index y ∈ km_gw) (k2 : Cond.instanceMethod y ∈ km_gw) (k6 : Cond.selects y.cls y y ∈ km_gw) (k3 : Cond.initialized y.cls ∈ km_gw) (k4 : Cond.code y bytes maxL ret ∈ km_gw)
    (hd : y.cls ≠ "java/lang/invoke/MethodHandle" ∧ y.cls ≠ "java/lang/invoke/VarHandle" ∧ (parseMethodDescriptor y.desc).map (fun d => d.parameters.length) = some As.length) (hR : f + 1 ≤ R.frames ∧ 8 + (maxL + 11) + n ≤ R.locals)
    (hrec : ∃ cellB : Cell, H[b]? = some cellB ∧ cellB.vm.isStatics = false ∧ s.vm.findClass y.cls = some cellB.cls) (hE : ∀ U : State, U.heap = H → s.WarmedH U.vm → kz_E s0 U) (hls : ls.size = nL) (rest : List Value) (hst : st0 = As.reverse ++ .ref b :: rest) (hcat : (rest.map fun v => v.category).sum ≤ 8) (hf : cells ≤ R.cells ∧ slots ≤ R.slots) (hdg : decode cc pc = .ok (.invokevirtual index, 3))
    (kk : W p l e R s m args below meth c H locs cells slots Q (F0 m (pc + 3) ls (v.toList ++ rest))) : W p l e R s m args below meth c H locs cells slots Q (F0 m pc ls st0) := by
  refine kz_go (va_runV (C := y.cls) (b := b) (As := As) S hM (cwV (ws' := km_gw) As.length S.2.2.2.2 (km_gdIn _ (fun z hz => ?_)) rfl rfl rfl ⟨rfl, hd⟩ hR) ⟨kz_bl, hrec, fun U hU hW => ⟨rfl, hE U hU hW⟩⟩ rfl rfl hls hst (by show 2 * 0 + _ ≤ 8; omega) hdg hf) kk
  unfold wsV at hz
  rcases List.mem_append.mp hz with hz | hz
  · simp only [List.mem_cons, List.not_mem_nil, or_false] at hz
    rcases hz with rfl | rfl | rfl | rfl
    · exact k1
    · exact k2
    · exact k6
    · exact k3
  · rcases List.mem_cons.mp hz with rfl | hz
    · exact k4
    · exact hz
theorem kz_of {y : MethodName} {cc : ByteArray} {maxL : Nat} {ret : Option FieldType} {f n : Nat} {a : List Value} {v : Option Value} (hy : plainName y.cls = true)
    (body : ∀ (p : Program) (e : Env) (s : State) (m : MethodId) (below : List Frame) (meth : Method) (c : Code), CallFix p m c cc maxL s a.toArray km_gw y.cls → kz_E s0 s → meth.sig.returnType = ret → meth.locks = false →
      W p l e (kz_rm f n) s m a.toArray below meth c s.heap [] 0 0 (MQ below (kz_Q v) a.toArray s 0 0 (fun _ => False)) (F0 m 0 ((lg_sl a ++ List.replicate (maxL - (lg_sl a).length) Slot.unset).toArray) [])) : kz_Met l s0 y cc maxL ret f n a v := by
  refine Met.ofW (cc := cc) (maxL := maxL) (ret := ret) (ws' := km_gw) hy rfl ?_
  intro p e s me args below meth c s₁ B hml hv
  obtain ⟨rfl, hE⟩ := hv
  have hts := atoms_spec (ws := Cond.code y cc maxL ret :: km_gw) B.pre
  have hown : s.vm.findClass y.cls = some me.cls := findClass_of_methodNamed B.named
  rw [lg_entry_eq]
  exact body p e s me below meth c ⟨B.exec, B.bytes, hml, hown, fun x hx => hts x (List.mem_cons_of_mem _ hx)⟩ hE B.returns B.notSynchronized
theorem kz_end {ty : FieldType} (S : CallFix p m c cc nL s args km_gw own) (hr : meth.sig.returnType = some ty) (hn : narrow ty (.int r) = .int r) (hlk : meth.locks = false) (hdg : decode cc pc = .ok (.ireturn, 1)) : W p l e R s m args below meth c s.heap [] 0 0 (MQ below (kz_Q (some (.int r))) args s 0 0 (fun _ => False)) (F0 m pc ls [.int r]) :=
  W.zret S.1 S.2.1 hr hn (fun t ht _ => ⟨rfl, ht⟩) (fun q h => by cases h) hdg hlk
theorem kz_endv (S : CallFix p m c cc nL s args km_gw own) (hr : meth.sig.returnType = none) (hlk : meth.locks = false) (hdg : decode cc pc = .ok (.return_, 1)) : W p l e R s m args below meth c s.heap [] 0 0 (MQ below (kz_Q none) args s 0 0 (fun _ => False)) (F0 m pc ls []) :=
  W.vret S.1 S.2.1 hr (fun t ht _ => ⟨rfl, ht⟩) (fun q h => by cases h) hdg hlk
end KZ
theorem kz_coder {l : Launch} {s0 : State} {a : Nat} (hZ : va_Z RJ0 "COMPACT_STRINGS" "Z" (.int 1) (kz_A s0) s0 s0.heap) (hO : va_OF RJ0 "coder" "B" (.int 0) a (kz_A s0) s0 s0.heap) : kz_Met l s0 yJ0_coder_7d493 cJ0_coder_7d493 1 (some .byte) 0 0 [.ref a] (some (.int 0)) := by
  refine kz_of (by decide +kernel) (fun p e s m below meth c S hE hr hlk => ?_)
  refine va_gets S.1 S.2.1 (index := 38) (ref := RJ0) (kz_upZ hZ hE) va_S.rf S.2.2.2.1 (S.2.2.2.2 _ (km_in3 166 rfl rfl)) (fun _ h => h) (by decide +kernel) ?_
  refine lv_if_eq S.1 S.2.1 (off := 10) (tgt := 13) (by decide +kernel) (by decide) (fun h => absurd h (by decide)) (fun _ => ?_)
  refine lv_aload_n S.1 S.2.1 (k := 0) (i := 0) (x := a) (by decide +kernel) rfl rfl ?_
  refine vk_getf S.1 S.2.1 (index := 15) (ref := RJ0) (kz_upOF hO hE) va_S.rf S.2.2.2.1 (S.2.2.2.2 _ (km_in10 202 rfl rfl)) (fun _ h => h) (by decide +kernel) ?_
  refine lv_goto S.1 S.2.1 (off := 4) (tgt := 14) (by decide +kernel) (by decide) ?_
  exact kz_end S hr rfl hlk (by decide +kernel)
theorem kz_isL {l : Launch} {s0 : State} {a : Nat} (hZ : va_Z RJ0 "COMPACT_STRINGS" "Z" (.int 1) (kz_A s0) s0 s0.heap) (hO : va_OF RJ0 "coder" "B" (.int 0) a (kz_A s0) s0 s0.heap) : kz_Met l s0 yJ0_isLatin1_aae02 cJ0_isLatin1_aae02 1 (some .boolean) 0 0 [.ref a] (some (.int 1)) := by
  refine kz_of (by decide +kernel) (fun p e s m below meth c S hE hr hlk => ?_)
  refine va_gets S.1 S.2.1 (index := 38) (ref := RJ0) (kz_upZ hZ hE) va_S.rf S.2.2.2.1 (S.2.2.2.2 _ (km_in3 166 rfl rfl)) (fun _ h => h) (by decide +kernel) ?_
  refine lv_if_eq S.1 S.2.1 (off := 14) (tgt := 17) (by decide +kernel) (by decide) (fun h => absurd h (by decide)) (fun _ => ?_)
  refine lv_aload_n S.1 S.2.1 (k := 0) (i := 0) (x := a) (by decide +kernel) rfl rfl ?_
  refine vk_getf S.1 S.2.1 (index := 15) (ref := RJ0) (kz_upOF hO hE) va_S.rf S.2.2.2.1 (S.2.2.2.2 _ (km_in10 202 rfl rfl)) (fun _ h => h) (by decide +kernel) ?_
  refine lv_if_ne S.1 S.2.1 (off := 7) (tgt := 17) (by decide +kernel) (by decide) (fun h => absurd h (by decide)) (fun _ => ?_)
  refine lv_iconst S.1 S.2.1 (n := 1) (v := 1) (by decide +kernel) (by decide) ?_
  refine lv_goto S.1 S.2.1 (off := 4) (tgt := 18) (by decide +kernel) (by decide) ?_
  exact kz_end S hr rfl hlk (by decide +kernel)
theorem kz_length {l : Launch} {s0 : State} {a d n : Nat} {byt : List Int32} (hZ : va_Z RJ0 "COMPACT_STRINGS" "Z" (.int 1) (kz_A s0) s0 s0.heap) (hT : kz_St (kz_A s0) s0 a d n byt) (hn : Int32.ofNat n >>> ((0 : Int32) &&& 31) = Int32.ofNat n) : kz_Met l s0 yJ0_length_8abf5 cJ0_length_8abf5 1 (some .int) 1 20 [.ref a] (some (.int (Int32.ofNat n))) := by
  refine kz_of (by decide +kernel) (fun p e s m below meth c S hE hr hlk => ?_)
  have hU := kz_upS hT hE
  refine lv_aload_n S.1 S.2.1 (k := 0) (i := 0) (x := a) (by decide +kernel) rfl rfl ?_
  refine vk_getf S.1 S.2.1 (index := 9) (ref := RJ0) hU.2.2.1 va_S.rf S.2.2.2.1 (S.2.2.2.2 _ (km_in10 201 rfl rfl)) (fun _ h => h) (by decide +kernel) ?_
  refine va_tlen S.1 S.2.1 hU.2.2.2 va_S.rf (v := Int32.ofNat n) rfl (by decide +kernel) ?_
  refine lv_aload_n S.1 S.2.1 (k := 0) (i := 0) (x := a) (by decide +kernel) rfl rfl ?_
  refine kz_callV S (kz_coder hZ hT.2.1) 335 (km_in3 162 rfl rfl) (km_in3 163 rfl rfl) (km_in3 164 rfl rfl) (km_in1 16 rfl rfl) (km_in3 165 rfl rfl) ⟨by decide, by decide, by show Option.map _ _ = some (0 : Nat); decide +kernel⟩ ⟨by decide, by decide⟩ (kz_rec hU.1) (kz_EU hE) rfl [.int (Int32.ofNat n)] rfl (Nat.le_of_ble_eq_true rfl) ⟨Nat.le_refl _, Nat.le_refl _⟩ (by decide +kernel) ?_
  refine lv_ishr S.1 S.2.1 (x := Int32.ofNat n) (y := 0) (rest := []) (by decide +kernel) ?_
  rw [hn]
  exact kz_end S hr rfl hlk (by decide +kernel)
theorem kz_pchkn {l : Launch} {s0 : State} {i n : Int32} (h0 : ¬ i < 0) (h1 : i < n) : kz_Met l s0 yz_pchk prog_33_method_11_code 3 (some .int) 0 0 [.int i, .int n, .null] (some (.int i)) := by
  refine kz_of (by decide +kernel) (fun p e s m below meth c S hE hr hlk => ?_)
  refine lv_iload_n S.1 S.2.1 (k := 0) (i := 0) (x := i) (by decide +kernel) rfl rfl ?_
  refine lv_if_lt S.1 S.2.1 (off := 8) (tgt := 9) (by decide +kernel) (by decide) (fun h => absurd h h0) (fun _ => ?_)
  refine lv_iload_n S.1 S.2.1 (k := 0) (i := 0) (x := i) (by decide +kernel) rfl rfl ?_
  refine lv_iload_n S.1 S.2.1 (k := 1) (i := 1) (x := n) (by decide +kernel) rfl rfl ?_
  refine lv_icmp_lt S.1 S.2.1 (off := 10) (tgt := 16) (by decide +kernel) (by decide) (fun _ => ?_) (fun h => absurd h1 h)
  refine lv_iload_n S.1 S.2.1 (k := 0) (i := 0) (x := i) (by decide +kernel) rfl rfl ?_
  exact kz_end S hr rfl hlk (by decide +kernel)
theorem kz_pchkr {l : Launch} {s0 : State} {t : Nat} {i n : Int32} (h0 : ¬ i < 0) (h1 : i < n) : kz_Met l s0 yz_pchk prog_33_method_11_code 3 (some .int) 0 0 [.int i, .int n, .ref t] (some (.int i)) := by
  refine kz_of (by decide +kernel) (fun p e s m below meth c S hE hr hlk => ?_)
  refine lv_iload_n S.1 S.2.1 (k := 0) (i := 0) (x := i) (by decide +kernel) rfl rfl ?_
  refine lv_if_lt S.1 S.2.1 (off := 8) (tgt := 9) (by decide +kernel) (by decide) (fun h => absurd h h0) (fun _ => ?_)
  refine lv_iload_n S.1 S.2.1 (k := 0) (i := 0) (x := i) (by decide +kernel) rfl rfl ?_
  refine lv_iload_n S.1 S.2.1 (k := 1) (i := 1) (x := n) (by decide +kernel) rfl rfl ?_
  refine lv_icmp_lt S.1 S.2.1 (off := 10) (tgt := 16) (by decide +kernel) (by decide) (fun _ => ?_) (fun h => absurd h1 h)
  refine lv_iload_n S.1 S.2.1 (k := 0) (i := 0) (x := i) (by decide +kernel) rfl rfl ?_
  exact kz_end S hr rfl hlk (by decide +kernel)
theorem kz_chk {l : Launch} {s0 : State} {i n : Int32} (hq : va_Zq kz_P3 "SIOOBE_FORMATTER" "Ljava/util/function/BiFunction;" (kz_A s0) s0 s0.heap) (h0 : ¬ i < 0) (h1 : i < n) : kz_Met l s0 yJ0_checkIndex_df160 cJ0_checkIndex_df160 2 none 1 22 [.int i, .int n] none := by
  refine kz_of (by decide +kernel) (fun p e s m below meth c S hE hr hlk => ?_)
  refine lv_iload_n S.1 S.2.1 (k := 0) (i := 0) (x := i) (by decide +kernel) rfl rfl ?_
  refine lv_iload_n S.1 S.2.1 (k := 1) (i := 1) (x := n) (by decide +kernel) rfl rfl ?_
  rcases kz_upZq hq hE with hz | ⟨t, hz⟩
  · refine va_gets S.1 S.2.1 (index := 1053) (ref := kz_P3) hz va_S.rf S.2.2.2.1 (S.2.2.2.2 _ (km_in3 182 rfl rfl)) (fun _ h => h) (by decide +kernel) ?_
    refine kz_callS S (kz_pchkn h0 h1) 1059 (km_in3 184 rfl rfl) (km_in3 185 rfl rfl) (km_in1 18 rfl rfl) (km_in3 186 rfl rfl) ⟨by decide, by decide, by show Option.map _ _ = some (3 : Nat); decide +kernel⟩ ⟨by decide, by decide⟩ (kz_EU hE) rfl [] rfl (Nat.le_of_ble_eq_true rfl) ⟨Nat.le_refl _, Nat.le_refl _⟩ (by decide +kernel) ?_
    refine lv_pop S.1 S.2.1 (va := .int i) (rest := []) (by decide +kernel) rfl ?_
    exact kz_endv S hr hlk (by decide +kernel)
  · refine va_gets S.1 S.2.1 (index := 1053) (ref := kz_P3) hz va_S.rf S.2.2.2.1 (S.2.2.2.2 _ (km_in3 182 rfl rfl)) (fun _ h => h) (by decide +kernel) ?_
    refine kz_callS S (kz_pchkr h0 h1) 1059 (km_in3 184 rfl rfl) (km_in3 185 rfl rfl) (km_in1 18 rfl rfl) (km_in3 186 rfl rfl) ⟨by decide, by decide, by show Option.map _ _ = some (3 : Nat); decide +kernel⟩ ⟨by decide, by decide⟩ (kz_EU hE) rfl [] rfl (Nat.le_of_ble_eq_true rfl) ⟨Nat.le_refl _, Nat.le_refl _⟩ (by decide +kernel) ?_
    refine lv_pop S.1 S.2.1 (va := .int i) (rest := []) (by decide +kernel) rfl ?_
    exact kz_endv S hr hlk (by decide +kernel)
theorem kz_ck3 : ∀ j : Nat, j < 132 → ((kz_b3.getD j 0 &&& 255).toUInt32 % 65536).toInt32 = kz_b3.getD j 0 ∧ narrow .char (.int (kz_b3.getD j 0)) = .int (kz_b3.getD j 0) := by decide +kernel
theorem kz_cat1 {l : Launch} {s0 : State} {a d j : Nat} (hq : va_Zq kz_P3 "SIOOBE_FORMATTER" "Ljava/util/function/BiFunction;" (kz_A s0) s0 s0.heap) (hT : kz_St (kz_A s0) s0 a d 132 kz_b3) (hj : j < 132) : kz_Met l s0 yz_cat1 prog_25_method_2_code 2 (some .char) 2 43 [.ref d, .int (nI j)] (some (.int (kz_b3.getD j 0))) := by
  refine kz_of (by decide +kernel) (fun p e s m below meth c S hE hr hlk => ?_)
  have hU := kz_upS hT hE
  refine lv_iload_n S.1 S.2.1 (k := 1) (i := 1) (x := nI j) (by decide +kernel) rfl rfl ?_
  refine lv_aload_n S.1 S.2.1 (k := 0) (i := 0) (x := d) (by decide +kernel) rfl rfl ?_
  refine va_tlen S.1 S.2.1 hU.2.2.2 va_S.rf (v := nI 132) rfl (by decide +kernel) ?_
  refine kz_callS S (kz_chk (i := nI j) (n := nI 132) hq (nI_pos (by omega)) (nI_lt hj (by decide))) 9 (km_in3 179 rfl rfl) (km_in3 180 rfl rfl) (km_in1 16 rfl rfl) (km_in3 181 rfl rfl) ⟨by decide, by decide, by show Option.map _ _ = some (2 : Nat); decide +kernel⟩ ⟨by decide, by decide⟩ (kz_EU hE) rfl [] rfl (Nat.le_of_ble_eq_true rfl) ⟨Nat.le_refl _, Nat.le_refl _⟩ (by decide +kernel) ?_
  refine lv_aload_n S.1 S.2.1 (k := 0) (i := 0) (x := d) (by decide +kernel) rfl rfl ?_
  refine lv_iload_n S.1 S.2.1 (k := 1) (i := 1) (x := nI j) (by decide +kernel) rfl rfl ?_
  refine va_tb S.1 S.2.1 (i := nI j) hU.2.2.2 va_S.rf (vp_in_nI hj (by decide)) (v := .int (kz_b3.getD j 0)) (by rw [nI_clamp (by omega)]) (by decide +kernel) ?_
  refine lv_sipush S.1 S.2.1 (n := 255) (v := 255) (by decide +kernel) (by decide) ?_
  refine lv_iand S.1 S.2.1 (rest := []) (by decide +kernel) ?_
  refine lv_i2c S.1 S.2.1 (v := kz_b3.getD j 0) (by decide +kernel) (kz_ck3 j hj).1 ?_
  exact kz_end S hr (kz_ck3 j hj).2 hlk (by decide +kernel)
theorem kz_charAt {l : Launch} {s0 : State} {a d j : Nat} (hZ : va_Z RJ0 "COMPACT_STRINGS" "Z" (.int 1) (kz_A s0) s0 s0.heap) (hq : va_Zq kz_P3 "SIOOBE_FORMATTER" "Ljava/util/function/BiFunction;" (kz_A s0) s0 s0.heap) (hT : kz_St (kz_A s0) s0 a d 132 kz_b3) (hj : j < 132) : kz_Met l s0 yJ0_charAt_5068e cJ0_charAt_5068e 2 (some .char) 3 64 [.ref a, .int (nI j)] (some (.int (kz_b3.getD j 0))) := by
  refine kz_of (by decide +kernel) (fun p e s m below meth c S hE hr hlk => ?_)
  have hU := kz_upS hT hE
  refine lv_aload_n S.1 S.2.1 (k := 0) (i := 0) (x := a) (by decide +kernel) rfl rfl ?_
  refine kz_callV S (kz_isL hZ hT.2.1) 492 (km_in3 172 rfl rfl) (km_in3 173 rfl rfl) (km_in3 174 rfl rfl) (km_in1 16 rfl rfl) (km_in3 175 rfl rfl) ⟨by decide, by decide, by show Option.map _ _ = some (0 : Nat); decide +kernel⟩ ⟨by decide, by decide⟩ (kz_rec hU.1) (kz_EU hE) rfl [] rfl (Nat.le_of_ble_eq_true rfl) ⟨Nat.le_refl _, Nat.le_refl _⟩ (by decide +kernel) ?_
  refine lv_if_eq S.1 S.2.1 (x := 1) (rest := []) (off := 12) (tgt := 16) (by decide +kernel) (by decide) (fun h => absurd h (by decide)) (fun _ => ?_)
  refine lv_aload_n S.1 S.2.1 (k := 0) (i := 0) (x := a) (by decide +kernel) rfl rfl ?_
  refine vk_getf S.1 S.2.1 (index := 9) (ref := RJ0) hU.2.2.1 va_S.rf S.2.2.2.1 (S.2.2.2.2 _ (km_in10 201 rfl rfl)) (fun _ h => h) (by decide +kernel) ?_
  refine lv_iload_n S.1 S.2.1 (k := 1) (i := 1) (x := nI j) (by decide +kernel) rfl rfl ?_
  refine kz_callS S (kz_cat1 hq hT hj) 495 (km_in3 176 rfl rfl) (km_in3 177 rfl rfl) (km_in1 17 rfl rfl) (km_in3 178 rfl rfl) ⟨by decide, by decide, by show Option.map _ _ = some (2 : Nat); decide +kernel⟩ ⟨by decide, by decide⟩ (kz_EU hE) rfl [] rfl (Nat.le_of_ble_eq_true rfl) ⟨Nat.le_refl _, Nat.le_refl _⟩ (by decide +kernel) ?_
  exact kz_end S hr (kz_ck3 j hj).2 hlk (by decide +kernel)
