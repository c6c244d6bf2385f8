/-! ===== Integer ===== -/
/-- how many of the ten lowest bits are set -/
def km_pop (x : Int) : Int := ((List.range 10).filter (fun i => x.toNat.testBit i)).length
def km_bc1 (x : Int) : Int := x - km_and (km_ushr x 1) 1431655765
def km_bc2 (x : Int) : Int := km_and x 858993459 + km_and (km_ushr x 2) 858993459
def km_bc3 (x : Int) : Int := x + km_ushr x 4
def km_bc5 (x : Int) : Int := x + km_ushr x 8
def km_bc6 (x : Int) : Int := x + km_ushr x 16
def km_in32 (x : Int) : Bool := decide (-2147483648 ≤ x ∧ x ≤ 2147483647)
def km_bcT (x : Int) : Bool := let a := km_bc1 x; let b := km_bc2 a; let d := km_bc3 b; let e := km_and d 252645135; let f := km_bc5 e; let g := km_bc6 f
  km_in32 a && km_in32 b && km_in32 d && km_in32 f && km_in32 g && decide (km_and g 63 = km_pop x)
theorem km_bcT_all : ∀ n : Fin 1024, km_bcT (n.val : Int) = true := by decide +kernel
theorem sp_bitCount {x : Int} (h0 : 0 ≤ x) (h1 : x < 1024) {A : km_Al} {m : km_Mm} (Q : Option km_V → km_Al → km_Mm → Prop) : km_E M_J6_bitCount_0f7a4 [.inl x] A m Q ↔ Q (some (.inl (km_pop x))) A m := by
  have h := km_bcT_all ⟨x.toNat, by omega⟩
  have e : ((x.toNat : Nat) : Int) = x := by omega
  simp only [e] at h
  simp only [km_bcT, km_in32, Bool.and_eq_true, km_bc1, km_bc2, km_bc3, km_bc5, km_bc6] at h
  obtain ⟨⟨⟨⟨⟨a1, a2⟩, a3⟩, a4⟩, a5⟩, a6⟩ := h
  have a1 := of_decide_eq_true a1
  have a2 := of_decide_eq_true a2
  have a3 := of_decide_eq_true a3
  have a4 := of_decide_eq_true a4
  have a5 := of_decide_eq_true a5
  have a6 := of_decide_eq_true a6
  rw [km_E.of (by decide)]
  show km_G M_J6_bitCount_0f7a4 0 [some (.inl x)] [] A m _ ↔ _
  simp (config := { decide := true }) only [g_J6_bitCount_0f7a4, a1, a2, a3, a4, a5, a6, km_lay, km_unL, km_up_o, km_upx_i, km_upx_s, km_fl2_o, km_is, Option.some.injEq, Sum.inl.injEq, Sum.inr.injEq, Option.toList_some, Option.toList_none, List.cons_append, List.nil_append, ne_eq, true_and, and_true, and_self, not_true_eq_false, not_false_eq_true, true_implies, false_implies, reduceCtorEq]

