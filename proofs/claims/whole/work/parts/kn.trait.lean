/-! ===== Book.traitFits: the table of bounds, a static array ===== -/
def kz_bd (u : Int) : Int := if u = 0 then 6 else if u = 2 then 100 else if u = 4 then 2 else 4
theorem kz_bdj : ∀ j : Nat, j < 5 → kz_b5.getD j 0 = Int32.ofInt (kz_bd (j : Int)) := by decide +kernel
theorem kz_bdR (u : Int) : 2 ≤ kz_bd u ∧ kz_bd u ≤ 100 := by
  unfold kz_bd
  repeat' split
  all_goals omega
section KZT
variable {p : Program} {l : Launch} {e : Env} {R : Room} {s : State} {me : MethodId} {args : Array Value} {below : List Frame} {meth : Method} {c : Code} {w : km_Pr} {Q : State → Prop} {s0 : State} {t : Nat} {c0 s1 : Nat} {A : km_Al} {m : km_Mm} {z u v : Int}
theorem kz_AA (hbs : km_bs w = s0.heap.size) {H : Heap} {locs : List Loc} (h5 : va_S (km_A w) s.heap H locs) : va_S (kz_A s0) s.heap H locs := by
  have hA : km_A w = kz_A s0 := by
    funext q
    show (km_bs w ≤ q) = (s0.heap.size ≤ q)
    rw [hbs]
  rw [hA] at h5
  exact h5
theorem kz_t5 (hw : km_E2 w = kz_E s0) (hbs : km_bs w = s0.heap.size) (hZ : va_Z RX1 "TRAIT_BOUNDS" "[I" (.ref t) (kz_A s0) s0 s0.heap) (hT : va_T .int t 5 (fun j => .int (kz_b5.getD j 0)) (kz_A s0) s0 s0.heap) (C : km_Cx p s me args meth c w M_X1_traitFits)
    (K : km_W p l e R s me args below meth c w M_X1_traitFits c0 s1 Q 9 [some (.inr (.inr z)), some (.inl u), some (.inl v)] [.inl 5, .inl u] A m) : km_W p l e R s me args below meth c w M_X1_traitFits c0 s1 Q 5 [some (.inr (.inr z)), some (.inl u), some (.inl v)] [.inl u] A m := by
  intro H locs lc g1 g2 g3 g4 g5 g6
  have hE := kz_cE hw C
  have K1 := K H locs lc g1 (km_voc (v := .inl 5) (by show (-2147483648 : Int) ≤ 5 ∧ (5 : Int) ≤ 2147483647; omega) g2) g3 g4 g5 g6
  rw [List.map_cons, show km_cv (km_ad w) (.inl 5) = Value.int 5 from congrArg Value.int (by decide)] at K1
  refine va_gets C.1 C.2.1 (own := RX1) (ref := RX1) (index := 45) (kz_upZ hZ hE) (kz_AA hbs g5) C.2.2.2.1 (C.2.2.2.2.1 _ (km_in4 150 rfl rfl)) (fun _ h => h) (by decide +kernel) ?_
  exact va_tlen C.1 C.2.1 (kz_upT hT hE) (kz_AA hbs g5) (v := 5) (by decide) (by decide +kernel) K1
theorem kz_t17 (hw : km_E2 w = kz_E s0) (hbs : km_bs w = s0.heap.size) (hZ : va_Z RX1 "TRAIT_BOUNDS" "[I" (.ref t) (kz_A s0) s0 s0.heap) (hT : va_T .int t 5 (fun j => .int (kz_b5.getD j 0)) (kz_A s0) s0 s0.heap) (C : km_Cx p s me args meth c w M_X1_traitFits) (h0 : 0 ≤ u) (h1 : u < 5)
    (K : km_W p l e R s me args below meth c w M_X1_traitFits c0 s1 Q 22 [some (.inr (.inr z)), some (.inl u), some (.inl v)] [.inl (kz_bd u), .inl v] A m) : km_W p l e R s me args below meth c w M_X1_traitFits c0 s1 Q 17 [some (.inr (.inr z)), some (.inl u), some (.inl v)] [.inl v] A m := by
  obtain ⟨j, rfl⟩ := Int.eq_ofNat_of_zero_le h0
  have hj : j < 5 := by omega
  have hb := kz_bdR (j : Int)
  intro H locs lc g1 g2 g3 g4 g5 g6
  have hE := kz_cE hw C
  have K1 := K H locs lc g1 (km_voc (v := .inl (kz_bd (j : Int))) (by show -2147483648 ≤ _ ∧ _; omega) g2) g3 g4 g5 g6
  rw [List.map_cons, show km_cv (km_ad w) (.inl (kz_bd (j : Int))) = Value.int (kz_b5.getD j 0) from congrArg Value.int (kz_bdj j hj).symm] at K1
  refine va_gets C.1 C.2.1 (own := RX1) (ref := RX1) (index := 45) (kz_upZ hZ hE) (kz_AA hbs g5) C.2.2.2.1 (C.2.2.2.2.1 _ (km_in4 150 rfl rfl)) (fun _ h => h) (by decide +kernel) ?_
  have l1 := (km_lm.at g1 (i := 1) (v := .inl (j : Int)) rfl).1
  rw [show km_cv (km_ad w) (.inl (j : Int)) = Value.int (nI j) from by show Value.int (Int32.ofInt (j : Int)) = _; rw [Int32.ofInt_eq_ofNat]; rfl] at l1
  refine lv_iload_n C.1 C.2.1 (k := 1) (i := 1) (x := nI j) (by decide +kernel) rfl l1 ?_
  exact va_ti C.1 C.2.1 (i := nI j) (kz_upT hT hE) (kz_AA hbs g5) (vp_in_nI hj (by decide)) (v := .int (kz_b5.getD j 0)) (by rw [nI_clamp (by omega)]) (by decide +kernel) K1
end KZT
theorem kz_In {l : Launch} {s0 : State} {t : Nat} (w : km_Pr) (hw : km_E2 w = kz_E s0) (hbs : km_bs w = s0.heap.size) (hg : km_gd w) (hq : km_Qx w) (hSx : km_Sx l w) (hZ : va_Z RX1 "TRAIT_BOUNDS" "[I" (.ref t) (kz_A s0) s0 s0.heap) (hT : va_T .int t 5 (fun j => .int (kz_b5.getD j 0)) (kz_A s0) s0 s0.heap) : km_In9 l w := by
  intro as A m x A' m' h
  unfold km_intr at h
  split at h
  · next z u v _ =>
    cases h
    refine km_met ok_X1_traitFits (Nat.le_refl 3) hg hq km_Mo.rf (fun p e R s me args below meth c Q C hRm hR hret => ?_)
    have S : ∀ {pc pc' : Nat} {ls : km_Ls} {st st' : List km_V}, km_step M_X1_traitFits pc ls st A m = some (.inl (pc', ls, st', A, m)) → km_W p l e R s me args below meth c w M_X1_traitFits A.2.2.2.2.1 A.2.2.2.2.2 Q pc' ls st' A m → km_W p l e R s me args below meth c w M_X1_traitFits A.2.2.2.2.1 A.2.2.2.2.2 Q pc ls st A m := fun h K => km_stepW h hq hSx C hRm ⟨Nat.le_refl _, Nat.le_refl _⟩ hR K
    have hend : ∀ b : Int, (b = 0 ∨ b = 1) → (if 0 ≤ u ∧ u < 5 ∧ 0 ≤ v ∧ v < (if u = 0 then 6 else if u = 2 then 100 else if u = 4 then 2 else 4) then (1 : Int) else 0) = b → km_W p l e R s me args below meth c w M_X1_traitFits A.2.2.2.2.1 A.2.2.2.2.2 Q 30 [some (.inr (.inr z)), some (.inl u), some (.inl v)] [.inl b] A m := fun b hb hx => hret 30 _ [.inl b] (by
      rw [hx]
      refine km_stepE (i := .ireturn) (k := 1) (by decide +kernel) (by decide) ?_
      rcases hb with rfl | rfl <;> simp [km_ex, km_ret, M_X1_traitFits])
    have h29 : ¬ (0 ≤ u ∧ u < 5 ∧ 0 ≤ v ∧ v < kz_bd u) → km_W p l e R s me args below meth c w M_X1_traitFits A.2.2.2.2.1 A.2.2.2.2.2 Q 29 [some (.inr (.inr z)), some (.inl u), some (.inl v)] [] A m := fun hn => S (pc' := 30) (st' := [.inl 0]) (km_stepE (i := .iconst 0) (k := 1) (by decide +kernel) (by decide) rfl) (hend 0 (Or.inl rfl) (if_neg hn))
    show km_W p l e R s me args below meth c w M_X1_traitFits A.2.2.2.2.1 A.2.2.2.2.2 Q 0 [some (.inr (.inr z)), some (.inl u), some (.inl v)] [] A m
    refine S (pc' := 1) (st' := [.inl u]) (km_stepE (i := .iload_n 1) (k := 1) (by decide +kernel) (by decide) rfl) ?_
    by_cases q1 : u < 0
    · exact S (pc' := 29) (st' := []) (km_stepE (i := .ifCond .lt 28) (k := 3) (by decide +kernel) (by decide) (by simp [km_ex, km_br, km_cmp, q1])) (h29 (by omega))
    refine S (pc' := 4) (st' := []) (km_stepE (i := .ifCond .lt 28) (k := 3) (by decide +kernel) (by decide) (by simp [km_ex, km_br, km_cmp, q1])) ?_
    refine S (pc' := 5) (st' := [.inl u]) (km_stepE (i := .iload_n 1) (k := 1) (by decide +kernel) (by decide) rfl) ?_
    refine kz_t5 hw hbs hZ hT C ?_
    by_cases q2 : 5 ≤ u
    · exact S (pc' := 29) (st' := []) (km_stepE (i := .if_icmp .ge 20) (k := 3) (by decide +kernel) (by decide) (by simp [km_ex, km_br, km_cmp, q2])) (h29 (by omega))
    refine S (pc' := 12) (st' := []) (km_stepE (i := .if_icmp .ge 20) (k := 3) (by decide +kernel) (by decide) (by simp [km_ex, km_br, km_cmp, q2])) ?_
    refine S (pc' := 13) (st' := [.inl v]) (km_stepE (i := .iload_n 2) (k := 1) (by decide +kernel) (by decide) rfl) ?_
    by_cases q3 : v < 0
    · exact S (pc' := 29) (st' := []) (km_stepE (i := .ifCond .lt 16) (k := 3) (by decide +kernel) (by decide) (by simp [km_ex, km_br, km_cmp, q3])) (h29 (by omega))
    refine S (pc' := 16) (st' := []) (km_stepE (i := .ifCond .lt 16) (k := 3) (by decide +kernel) (by decide) (by simp [km_ex, km_br, km_cmp, q3])) ?_
    refine S (pc' := 17) (st' := [.inl v]) (km_stepE (i := .iload_n 2) (k := 1) (by decide +kernel) (by decide) rfl) ?_
    refine kz_t17 hw hbs hZ hT C (by omega) (by omega) ?_
    by_cases q4 : kz_bd u ≤ v
    · exact S (pc' := 29) (st' := []) (km_stepE (i := .if_icmp .ge 7) (k := 3) (by decide +kernel) (by decide) (by simp [km_ex, km_br, km_cmp, q4])) (h29 (by omega))
    refine S (pc' := 25) (st' := []) (km_stepE (i := .if_icmp .ge 7) (k := 3) (by decide +kernel) (by decide) (by simp [km_ex, km_br, km_cmp, q4])) ?_
    refine S (pc' := 26) (st' := [.inl 1]) (km_stepE (i := .iconst 1) (k := 1) (by decide +kernel) (by decide) rfl) ?_
    refine S (pc' := 30) (st' := [.inl 1]) (km_stepE (i := .goto 4) (k := 3) (by decide +kernel) (by decide) (by simp [km_ex, km_jp])) ?_
    have h9 : 0 ≤ u ∧ u < 5 ∧ 0 ≤ v ∧ v < kz_bd u := ⟨by omega, by omega, by omega, by omega⟩
    exact hend 1 (Or.inr rfl) (if_pos h9)
  · cases h
