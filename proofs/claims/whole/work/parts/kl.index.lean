/-! ===== String.indexOf over the text of signs ===== -/
theorem kz_can1 {l : Launch} {s0 : State} {i : Int32} (h0 : ¬ i < 0) (h1 : ¬ 255 < i) : kz_Met l s0 yz_can prog_25_method_4_code 1 (some .boolean) 0 0 [.int i] (some (.int 1)) := by
  refine kz_of (by decide +kernel) (fun p e s m below meth c S hE hr hlk => ?_)
  refine lv_iload_n S.1 S.2.1 (k := 0) (i := 0) (x := i) (by decide +kernel) rfl rfl ?_
  refine lv_if_lt S.1 S.2.1 (off := 14) (tgt := 15) (by decide +kernel) (by decide) (fun h => absurd h h0) (fun _ => ?_)
  refine lv_iload_n S.1 S.2.1 (k := 0) (i := 0) (x := i) (by decide +kernel) rfl rfl ?_
  refine lv_sipush S.1 S.2.1 (n := 255) (v := 255) (by decide +kernel) (by decide) ?_
  refine lv_icmp_gt S.1 S.2.1 (off := 7) (tgt := 15) (by decide +kernel) (by decide) (fun h => absurd h h1) (fun _ => ?_)
  refine lv_iconst S.1 S.2.1 (n := 1) (v := 1) (by decide +kernel) (by decide) ?_
  refine lv_goto S.1 S.2.1 (off := 4) (tgt := 16) (by decide +kernel) (by decide) ?_
  exact kz_end S hr rfl hlk (by decide +kernel)
theorem kz_can0 {l : Launch} {s0 : State} {i : Int32} (h0 : ¬ i < 0) (h1 : 255 < i) : kz_Met l s0 yz_can prog_25_method_4_code 1 (some .boolean) 0 0 [.int i] (some (.int 0)) := by
  refine kz_of (by decide +kernel) (fun p e s m below meth c S hE hr hlk => ?_)
  refine lv_iload_n S.1 S.2.1 (k := 0) (i := 0) (x := i) (by decide +kernel) rfl rfl ?_
  refine lv_if_lt S.1 S.2.1 (off := 14) (tgt := 15) (by decide +kernel) (by decide) (fun h => absurd h h0) (fun _ => ?_)
  refine lv_iload_n S.1 S.2.1 (k := 0) (i := 0) (x := i) (by decide +kernel) rfl rfl ?_
  refine lv_sipush S.1 S.2.1 (n := 255) (v := 255) (by decide +kernel) (by decide) ?_
  refine lv_icmp_gt S.1 S.2.1 (off := 7) (tgt := 15) (by decide +kernel) (by decide) (fun _ => ?_) (fun h => absurd h1 h)
  refine lv_iconst S.1 S.2.1 (n := 0) (v := 0) (by decide +kernel) (by decide) ?_
  exact kz_end S hr rfl hlk (by decide +kernel)
def kz_ixf (v : Int32) : List Int32 → Nat → Int32
  | [], _ => -1
  | b :: l, k => if b = v then nI k else kz_ixf v l (k + 1)
theorem kz_six : ∀ c : Nat, c < 256 → kz_ixf (nI c).toInt8.toInt32 kz_b4 0 = Int32.ofInt (km_six c) := by decide +kernel
section KZL
variable {p : Program} {l : Launch} {e : Env} {R : Room} {s : State} {m : MethodId} {args : Array Value} {below : List Frame} {meth : Method} {c : Code}
theorem kz_drop {k : Nat} {b : Int32} {l : List Int32} (h : kz_b4.drop k = b :: l) : k < 11 ∧ kz_b4.getD k 0 = b ∧ kz_b4.drop (k + 1) = l := by
  have h1 : k < kz_b4.length := by
    rcases Nat.lt_or_ge k kz_b4.length with q | q
    · exact q
    · rw [List.drop_eq_nil_of_le q] at h; cases h
  rw [List.drop_eq_getElem_cons h1] at h
  injection h with h2 h3
  refine ⟨h1, ?_, h3⟩
  rw [List.getD_eq_getElem?_getD, List.getElem?_eq_getElem h1]
  exact h2
theorem kz_ixL {nL : Nat} {own : String} {d : Nat} {A : Nat → Prop} {v c9 x2 r : Int32} (S : CallFix p m c prog_25_method_23_code nL s args km_gw own) (hU : va_T .byte d 11 (fun j => .int (kz_b4.getD j 0)) A s s.heap) (hr : meth.sig.returnType = some .int) (hlk : meth.locks = false) :
    ∀ (l9 : List Int32) (k : Nat) (ls : Array Slot), kz_b4.drop k = l9 → k ≤ 11 → kz_ixf v l9 k = r → lv_has ls 6 [(5, .int (nI k)), (4, .int v), (0, .ref d), (1, .int c9), (2, .int x2), (3, .int (nI 11))] →
      W p l e R s m args below meth c s.heap [] 0 0 (MQ below (kz_Q (some (.int r))) args s 0 0 (fun _ => False)) (F0 m 7 ls []) := by
  intro l9
  induction l9 with
  | nil =>
    intro k ls hd hk hx h
    have h11 : kz_b4.length ≤ k := List.drop_eq_nil_iff.mp hd
    have h12 : 11 ≤ k := h11
    obtain rfl : k = 11 := by omega
    subst hx
    refine lv_iload S.1 S.2.1 (i := 5) (x := nI 11) (by decide +kernel) (lv_at h 0 rfl) ?_
    refine lv_iload_n S.1 S.2.1 (k := 3) (i := 3) (x := nI 11) (by decide +kernel) rfl (lv_at h 5 rfl) ?_
    refine lv_icmp_ge S.1 S.2.1 (off := 21) (tgt := 31) (by decide +kernel) (by decide) (fun _ => ?_) (fun q => absurd (by decide) q)
    refine lv_iconst S.1 S.2.1 (n := -1) (v := -1) (by decide +kernel) (by decide) ?_
    exact kz_end S hr rfl hlk (by decide +kernel)
  | cons b l9 ih =>
    intro k ls hd hk hx h
    obtain ⟨h1, h2, h3⟩ := kz_drop hd
    refine lv_iload S.1 S.2.1 (i := 5) (x := nI k) (by decide +kernel) (lv_at h 0 rfl) ?_
    refine lv_iload_n S.1 S.2.1 (k := 3) (i := 3) (x := nI 11) (by decide +kernel) rfl (lv_at h 5 rfl) ?_
    refine lv_icmp_ge S.1 S.2.1 (off := 21) (tgt := 31) (by decide +kernel) (by decide) (fun q => absurd q (nI_ge h1 (by decide))) (fun _ => ?_)
    refine lv_aload_n S.1 S.2.1 (k := 0) (i := 0) (x := d) (by decide +kernel) rfl (lv_at h 2 rfl) ?_
    refine lv_iload S.1 S.2.1 (i := 5) (x := nI k) (by decide +kernel) (lv_at h 0 rfl) ?_
    refine va_tb S.1 S.2.1 (i := nI k) hU va_S.rf (vp_in_nI h1 (by decide)) (v := .int b) (by rw [nI_clamp (by omega), h2]) (by decide +kernel) ?_
    refine lv_iload S.1 S.2.1 (i := 4) (x := v) (by decide +kernel) (lv_at h 1 rfl) ?_
    rw [kz_ixf] at hx
    refine lv_icmp_ne S.1 S.2.1 (off := 6) (tgt := 25) (by decide +kernel) (by decide) (fun q => ?_) (fun q => ?_)
    · rw [if_neg q] at hx
      refine lv_iinc S.1 S.2.1 (i := 5) (n := 1) (k := 0) (v := nI (k + 1)) (by decide +kernel) h rfl (by rw [nI_succ]; rfl) (by decide) rfl (fun ls2 h4 => ?_)
      refine lv_goto S.1 S.2.1 (off := -21) (tgt := 7) (by decide +kernel) (by decide) ?_
      exact ih (k + 1) ls2 h3 h1 hx h4
    · rw [if_pos q] at hx
      refine lv_iload S.1 S.2.1 (i := 5) (x := nI k) (by decide +kernel) (lv_at h 0 rfl) ?_
      rw [hx]
      exact kz_end S hr rfl hlk (by decide +kernel)
end KZL
theorem kz_ixc {l : Launch} {s0 : State} {d : Nat} {i r : Int32} (hT : va_T .byte d 11 (fun j => .int (kz_b4.getD j 0)) (kz_A s0) s0 s0.heap) (hx : kz_ixf i.toInt8.toInt32 kz_b4 0 = r) : kz_Met l s0 yz_ixc prog_25_method_23_code 6 (some .int) 0 0 [.ref d, .int i, .int 0, .int (nI 11)] (some (.int r)) := by
  refine kz_of (by decide +kernel) (fun p e s m below meth c S hE hr hlk => ?_)
  have h : lv_has _ 6 _ := lv_entry [.ref d, .int i, .int 0, .int (nI 11)] (n := 6) (Nat.le_of_ble_eq_true rfl)
  refine lv_iload_n S.1 S.2.1 (k := 1) (i := 1) (x := i) (by decide +kernel) rfl rfl ?_
  refine lv_i2b S.1 S.2.1 (v := i.toInt8.toInt32) (by decide +kernel) rfl ?_
  refine lv_istore S.1 S.2.1 (i := 4) (by decide +kernel) h (by decide) rfl (fun ls2 h2 => ?_)
  refine lv_iload_n S.1 S.2.1 (k := 2) (i := 2) (x := 0) (by decide +kernel) rfl (lv_at h2 3 rfl) ?_
  refine lv_istore S.1 S.2.1 (i := 5) (by decide +kernel) h2 (by decide) rfl (fun ls3 h3 => ?_)
  exact kz_ixL S (kz_upT hT hE) hr hlk kz_b4 0 ls3 rfl (by decide) hx h3
theorem kz_ix1 {l : Launch} {s0 : State} {a d : Nat} {i r : Int32} (hT : kz_St (kz_A s0) s0 a d 11 kz_b4) (h0 : ¬ i < 0) (hx : (255 < i ∧ r = -1) ∨ (¬ 255 < i ∧ kz_ixf i.toInt8.toInt32 kz_b4 0 = r)) : kz_Met l s0 yz_ix1 prog_25_method_22_code 4 (some .int) 1 25 [.ref d, .int i, .int 0, .int (nI 11)] (some (.int r)) := by
  refine kz_of (by decide +kernel) (fun p e s m below meth c S hE hr hlk => ?_)
  have hU := kz_upS hT hE
  have h : lv_has _ 4 _ := lv_entry [.ref d, .int i, .int 0, .int (nI 11)] (n := 4) (Nat.le_of_ble_eq_true rfl)
  refine lv_iload_n S.1 S.2.1 (k := 1) (i := 1) (x := i) (by decide +kernel) rfl rfl ?_
  rcases hx with ⟨h1, rfl⟩ | ⟨h1, hx⟩
  · refine kz_callS S (kz_can0 h0 h1) 88 (km_in3 231 rfl rfl) (km_in3 232 rfl rfl) (km_in1 17 rfl rfl) (km_in3 233 rfl rfl) ⟨by decide, by decide, by show Option.map _ _ = some (1 : Nat); decide +kernel⟩ ⟨by decide, by decide⟩ (kz_EU hE) rfl [] rfl (Nat.le_of_ble_eq_true rfl) ⟨Nat.le_refl _, Nat.le_refl _⟩ (by decide +kernel) ?_
    refine lv_if_ne S.1 S.2.1 (x := 0) (rest := []) (off := 5) (tgt := 9) (by decide +kernel) (by decide) (fun h => absurd rfl h) (fun _ => ?_)
    refine lv_iconst S.1 S.2.1 (n := (-1)) (v := -1) (by decide +kernel) (by decide) ?_
    exact kz_end S hr rfl hlk (by decide +kernel)
  · refine kz_callS S (kz_can1 h0 h1) 88 (km_in3 231 rfl rfl) (km_in3 232 rfl rfl) (km_in1 17 rfl rfl) (km_in3 233 rfl rfl) ⟨by decide, by decide, by show Option.map _ _ = some (1 : Nat); decide +kernel⟩ ⟨by decide, by decide⟩ (kz_EU hE) rfl [] rfl (Nat.le_of_ble_eq_true rfl) ⟨Nat.le_refl _, Nat.le_refl _⟩ (by decide +kernel) ?_
    refine lv_if_ne S.1 S.2.1 (x := 1) (rest := []) (off := 5) (tgt := 9) (by decide +kernel) (by decide) (fun _ => ?_) (fun h => absurd h (by decide))
    refine lv_iload_n S.1 S.2.1 (k := 2) (i := 2) (x := 0) (by decide +kernel) rfl (lv_at h 2 rfl) ?_
    refine lv_iconst S.1 S.2.1 (n := 0) (v := 0) (by decide +kernel) (by decide) ?_
    refine va_mmax S.1 S.2.1 (S.2.2.1.trans rfl) S.2.2.2.1 (index := 92) (S.2.2.2.2 _ (km_in3 234 rfl rfl)) (S.2.2.2.2 _ km_opS1) (S.2.2.2.2 _ km_ini15) (S.2.2.2.2 _ km_opC1) (by decide) (Nat.le_of_ble_eq_true rfl) (Nat.le_refl _) (Nat.le_refl _) (x := 0) (y := 0) (by decide +kernel) ?_
    rw [show (if (0 : Int32) < 0 then (0 : Int32) else 0) = 0 from ite_self _]
    refine lv_istore_n S.1 S.2.1 (k := 2) (i := 2) (x := 0) (rest := []) (by decide +kernel) rfl h (by decide) rfl (fun ls2 h2 => ?_)
    refine lv_iload_n S.1 S.2.1 (k := 3) (i := 3) (x := nI 11) (by decide +kernel) rfl (lv_at h2 3 rfl) ?_
    refine lv_aload_n S.1 S.2.1 (k := 0) (i := 0) (x := d) (by decide +kernel) rfl (lv_at h2 1 rfl) ?_
    refine va_tlen S.1 S.2.1 hU.2.2.2 va_S.rf (v := nI 11) rfl (by decide +kernel) ?_
    refine va_mmin S.1 S.2.1 (S.2.2.1.trans h2.1.symm) S.2.2.2.1 (index := 38) (S.2.2.2.2 _ (km_in3 237 rfl rfl)) (S.2.2.2.2 _ km_opS2) (S.2.2.2.2 _ km_ini15) (S.2.2.2.2 _ km_opC2) (by decide) (Nat.le_of_ble_eq_true rfl) (Nat.le_refl _) (Nat.le_refl _) (x := nI 11) (y := nI 11) (by decide +kernel) ?_
    rw [show (if nI 11 < nI 11 then nI 11 else nI 11) = nI 11 from ite_self _]
    refine lv_istore_n S.1 S.2.1 (k := 3) (i := 3) (x := nI 11) (rest := []) (by decide +kernel) rfl h2 (by decide) rfl (fun ls3 h3 => ?_)
    refine lv_iload_n S.1 S.2.1 (k := 2) (i := 2) (x := 0) (by decide +kernel) rfl (lv_at h3 1 rfl) ?_
    refine lv_iload_n S.1 S.2.1 (k := 3) (i := 3) (x := nI 11) (by decide +kernel) rfl (lv_at h3 0 rfl) ?_
    refine lv_icmp_lt S.1 S.2.1 (off := 5) (tgt := 29) (by decide +kernel) (by decide) (fun _ => ?_) (fun h => absurd (by decide) h)
    refine lv_aload_n S.1 S.2.1 (k := 0) (i := 0) (x := d) (by decide +kernel) rfl (lv_at h3 2 rfl) ?_
    refine lv_iload_n S.1 S.2.1 (k := 1) (i := 1) (x := i) (by decide +kernel) rfl (lv_at h3 3 rfl) ?_
    refine lv_iload_n S.1 S.2.1 (k := 2) (i := 2) (x := 0) (by decide +kernel) rfl (lv_at h3 1 rfl) ?_
    refine lv_iload_n S.1 S.2.1 (k := 3) (i := 3) (x := nI 11) (by decide +kernel) rfl (lv_at h3 0 rfl) ?_
    refine kz_callS S (kz_ixc hT.2.2.2 hx) 95 (km_in3 238 rfl rfl) (km_in3 239 rfl rfl) (km_in1 17 rfl rfl) (km_in4 0 rfl rfl) ⟨by decide, by decide, by show Option.map _ _ = some (4 : Nat); decide +kernel⟩ ⟨by decide, by decide⟩ (kz_EU hE) h3.1 [] rfl (Nat.le_of_ble_eq_true rfl) ⟨Nat.le_refl _, Nat.le_refl _⟩ (by decide +kernel) ?_
    exact kz_end S hr rfl hlk (by decide +kernel)
theorem kz_ix2 {l : Launch} {s0 : State} {a d : Nat} {i r : Int32} (hZ : va_Z RJ0 "COMPACT_STRINGS" "Z" (.int 1) (kz_A s0) s0 s0.heap) (hT : kz_St (kz_A s0) s0 a d 11 kz_b4) (h0 : ¬ i < 0) (hx : (255 < i ∧ r = -1) ∨ (¬ 255 < i ∧ kz_ixf i.toInt8.toInt32 kz_b4 0 = r)) : kz_Met l s0 yJ0_indexOf_7cf53 cJ0_indexOf_7cf53 3 (some .int) 2 48 [.ref a, .int i, .int 0] (some (.int r)) := by
  refine kz_of (by decide +kernel) (fun p e s m below meth c S hE hr hlk => ?_)
  have hU := kz_upS hT hE
  refine lv_aload_n S.1 S.2.1 (k := 0) (i := 0) (x := a) (by decide +kernel) rfl rfl ?_
  refine kz_callV S (kz_isL hZ hT.2.1) 492 (km_in3 172 rfl rfl) (km_in3 173 rfl rfl) (km_in3 174 rfl rfl) (km_in1 16 rfl rfl) (km_in3 175 rfl rfl) ⟨by decide, by decide, by show Option.map _ _ = some (0 : Nat); decide +kernel⟩ ⟨by decide, by decide⟩ (kz_rec hU.1) (kz_EU hE) rfl [] rfl (Nat.le_of_ble_eq_true rfl) ⟨Nat.le_refl _, Nat.le_refl _⟩ (by decide +kernel) ?_
  refine lv_if_eq S.1 S.2.1 (x := 1) (rest := []) (off := 19) (tgt := 23) (by decide +kernel) (by decide) (fun h => absurd h (by decide)) (fun _ => ?_)
  refine lv_aload_n S.1 S.2.1 (k := 0) (i := 0) (x := a) (by decide +kernel) rfl rfl ?_
  refine vk_getf S.1 S.2.1 (index := 9) (ref := RJ0) hU.2.2.1 va_S.rf S.2.2.2.1 (S.2.2.2.2 _ (km_in10 201 rfl rfl)) (fun _ h => h) (by decide +kernel) ?_
  refine lv_iload_n S.1 S.2.1 (k := 1) (i := 1) (x := i) (by decide +kernel) rfl rfl ?_
  refine lv_iload_n S.1 S.2.1 (k := 2) (i := 2) (x := 0) (by decide +kernel) rfl rfl ?_
  refine lv_aload_n S.1 S.2.1 (k := 0) (i := 0) (x := a) (by decide +kernel) rfl rfl ?_
  refine kz_callV S (kz_length hZ hT (by decide)) 505 (km_in3 227 rfl rfl) (km_in3 159 rfl rfl) (km_in3 160 rfl rfl) (km_in1 16 rfl rfl) (km_in3 161 rfl rfl) ⟨by decide, by decide, by show Option.map _ _ = some (0 : Nat); decide +kernel⟩ ⟨by decide, by decide⟩ (kz_rec hU.1) (kz_EU hE) rfl [.int 0, .int i, .ref d] rfl (Nat.le_of_ble_eq_true rfl) ⟨Nat.le_refl _, Nat.le_refl _⟩ (by decide +kernel) ?_
  refine kz_callS S (kz_ix1 hT h0 hx) 637 (km_in3 228 rfl rfl) (km_in3 229 rfl rfl) (km_in1 17 rfl rfl) (km_in3 230 rfl rfl) ⟨by decide, by decide, by show Option.map _ _ = some (4 : Nat); decide +kernel⟩ ⟨by decide, by decide⟩ (kz_EU hE) rfl [] rfl (Nat.le_of_ble_eq_true rfl) ⟨Nat.le_refl _, Nat.le_refl _⟩ (by decide +kernel) ?_
  refine lv_goto S.1 S.2.1 (off := 16) (tgt := 36) (rest := [.int r]) (by decide +kernel) (by decide) ?_
  exact kz_end S hr rfl hlk (by decide +kernel)
theorem kz_ix0 {l : Launch} {s0 : State} {a d : Nat} {i r : Int32} (hZ : va_Z RJ0 "COMPACT_STRINGS" "Z" (.int 1) (kz_A s0) s0 s0.heap) (hT : kz_St (kz_A s0) s0 a d 11 kz_b4) (h0 : ¬ i < 0) (hx : (255 < i ∧ r = -1) ∨ (¬ 255 < i ∧ kz_ixf i.toInt8.toInt32 kz_b4 0 = r)) : kz_Met l s0 yJ0_indexOf_0f7a4 cJ0_indexOf_0f7a4 2 (some .int) 3 70 [.ref a, .int i] (some (.int r)) := by
  refine kz_of (by decide +kernel) (fun p e s m below meth c S hE hr hlk => ?_)
  have hU := kz_upS hT hE
  refine lv_aload_n S.1 S.2.1 (k := 0) (i := 0) (x := a) (by decide +kernel) rfl rfl ?_
  refine lv_iload_n S.1 S.2.1 (k := 1) (i := 1) (x := i) (by decide +kernel) rfl rfl ?_
  refine lv_iconst S.1 S.2.1 (n := 0) (v := 0) (by decide +kernel) (by decide) ?_
  refine kz_callV S (kz_ix2 hZ hT h0 hx) 633 (km_in3 223 rfl rfl) (km_in3 224 rfl rfl) (km_in3 225 rfl rfl) (km_in1 16 rfl rfl) (km_in3 226 rfl rfl) ⟨by decide, by decide, by show Option.map _ _ = some (2 : Nat); decide +kernel⟩ ⟨by decide, by decide⟩ (kz_rec hU.1) (kz_EU hE) rfl [] rfl (Nat.le_of_ble_eq_true rfl) ⟨Nat.le_refl _, Nat.le_refl _⟩ (by decide +kernel) ?_
  exact kz_end S hr rfl hlk (by decide +kernel)
