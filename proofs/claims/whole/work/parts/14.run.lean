/-! ===== calls and whole runs ===== -/
def km_rm (M : km_Md) (cs ss : Nat) : Room := { frames := M.2.2.2.2.2.1, cells := cs, slots := ss, locals := 40 * M.2.2.2.2.2.1 }
def km_ws (M : km_Md) : List Cond := .code M.2.2.1 M.1 M.2.2.2.1 M.2.2.2.2.1 :: km_gw
/-- a start of a method with these values in this world -/
def km_Bs (w : km_Pr) (as : List km_V) (A : km_Al) (m : km_Mm) (U : State) : Prop := (∀ v ∈ as, km_vo v) ∧ km_Rg w A m ∧ km_P w A m U.heap ∧ va_K (km_D w) vwCl (km_tys w) U ∧ (va_X (km_ad w (-2)) (km_L w) (km_xs w) U U.heap ∧ km_E2 w U) ∧ km_bs w ≤ U.heap.size ∧ (A.2.2.2.2.1 = A.1 → U.heap.size = km_bs w + A.1)
/-- its end -/
def km_Qs (w : km_Pr) (x : Option km_V) (A' : km_Al) (m' : km_Mm) (t : State) : Prop := (∀ v, x = some v → km_vo v) ∧ km_Rg w A' m' ∧ km_P w A' m' t.heap ∧ (A'.2.2.2.2.1 = A'.1 → t.heap.size = km_bs w + A'.1)
def km_Qm (w : km_Pr) (x : Option km_V) (A' : km_Al) (m' : km_Mm) : Array Value → State → Outcome → State → Prop := fun _ st oc t => (oc = .returned (x.map (km_cv (km_ad w))) ∧ km_Qs w x A' m' t) ∧ va_F (km_A w) st t
/-- METHOD M does to these values and this world what the small machine says: the answer x, the world A' m' -/
def km_Met (l : Launch) (w : km_Pr) (M : km_Md) (as : List km_V) (A : km_Al) (m : km_Mm) (x : Option km_V) (A' : km_Al) (m' : km_Mm) : Prop :=
  Met l M.2.2.1 (km_ws M) (km_rm M (A'.2.2.2.2.1 - A.2.2.2.2.1) (A'.2.2.2.2.2 - A.2.2.2.2.2)) (va_Pc (as.map (km_cv (km_ad w))) (km_Bs w as A m)) (km_Qm w x A' m') (A'.2.2.2.2.1 - A.2.2.2.2.1) (A'.2.2.2.2.2 - A.2.2.2.2.2) (km_A w)
section ROWS
variable {p : Program} {l : Launch} {e : Env} {R : Room} {s : State} {me : MethodId} {args : Array Value} {below : List Frame} {meth : Method} {c : Code} {w : km_Pr} {M : km_Md} {c0 s0 : Nat} {Q : State → Prop}
variable {i9 : Instr} {pc nx pc' : Nat} {ls ls' : km_Ls} {st st' : List km_V} {A A' : km_Al} {m m' : km_Mm}
theorem km_gw_good : ∀ x ∈ km_gw, goodWord x = true := fun x hx => (List.mem_filter.mp hx).2
theorem km_gdIn (ws : List Cond) (h : ∀ x ∈ ws, x ∈ km_gw) : GoodIn km_gw ws := fun x hx => ⟨h x hx, good_of_word (km_gw_good x (h x hx))⟩
theorem km_callg {mc ms : Nat} {lc : Array Slot} {H : Heap} {locs : List Loc} {q1 q2 : Nat} {rest st0 : List Value} {x : Option km_V} {a : Array Value} (hr : va_Run p l e R s me args below meth c H locs q1 q2 mc ms (F0 me pc lc st0) rest (km_Qm w x A' m' a) (km_A w)) (hS : va_S (km_A w) s.heap H locs)
    (kk : ∀ (t : State) (H1 : Heap) (locs1 : List Loc), t.heap = H1 → km_Qs w x A' m' t → va_S (km_A w) s.heap H1 locs1 → W p l e R s me args below meth c H1 locs1 (q1 + mc) (q2 + ms) Q (F0 me (pc + 3) lc ((x.map (km_cv (km_ad w))).toList ++ rest))) : W p l e R s me args below meth c H locs q1 q2 Q (F0 me pc lc st0) := by
  intro T hT X
  obtain ⟨v, st₀, t, T', L, h0, X', hL, e1, e2, ⟨⟨hv, hq⟩, hz, hk⟩, st⟩ := hr T hT X
  cases hv
  rw [h0] at hz hk
  obtain ⟨t2, a1, b1⟩ := kk t T'.heap (locs ++ L) e1.symm hq ⟨Nat.le_trans hS.1 (by rw [e1]; exact hz), fun q h1 h2 => by rw [e1, hk q (Nat.lt_of_lt_of_le h1 hS.1) h2]; exact hS.2.1 q h1 h2, fun q hq => by
      rcases List.mem_append.mp hq with h | h
      · exact hS.2.2 q h
      · exact hL q h⟩ T' rfl X'
  exact ⟨t2, st t2 a1, b1⟩
theorem km_Bs.blind {as : List km_V} (hg : km_gd w) : FrameBlind (va_Pc (as.map (km_cv (km_ad w))) (km_Bs w as A m)) := by
  intro a U g mk h
  exact ⟨h.1, h.2.1, h.2.2.1, h.2.2.2.1, va_K.moved (u := U) (U := U.calling g mk a) (Vm.Alike.refl U.vm) h.2.2.2.2.1, ⟨va_X.moved (u := U) (U := U.calling g mk a) (Vm.Alike.refl U.vm) h.2.2.2.2.2.1.1, hg.2.2.2 U (U.calling g mk a) (State.WarmedH.refl U) (fun _ _ => rfl) h.2.2.2.2.2.1.2⟩, h.2.2.2.2.2.2⟩
/-- a callee's start, out of the caller's walk -/
theorem km_start {as : List km_V} (C : km_Cx p s me args meth c w M) {H : Heap} {locs : List Loc} (hv : ∀ v ∈ as, km_vo v) (h3 : km_Rg w A m) (h4 : km_P w A m H) (h5 : va_S (km_A w) s.heap H locs) (h6 : A.2.2.2.2.1 = A.1 → H.size = km_bs w + A.1) (U : State) (hU : U.heap = H) (hW : s.WarmedH U.vm) : km_Bs w as A m U := by
  have hg := C.2.2.2.2.2.2.2.2.2.1
  have hbs := C.2.2.2.2.2.2.2.2.2.2
  have hX := C.2.2.2.2.2.2.2.2.1
  have low : ∀ q : Nat, q < km_bs w → U.heap[q]? = s.heap[q]? := fun q hq => by
    rw [hU]
    exact h5.2.1 q (by omega) (by show ¬ km_bs w ≤ q; omega)
  refine ⟨hv, h3, by rw [hU]; exact h4, va_K.moved hW.alike C.2.2.2.2.2.2.2.1, ⟨?_, hg.2.2.2 s U hW low hX.2⟩, by rw [hU]; exact Nat.le_trans hbs h5.1, by rw [hU]; exact h6⟩
  exact va_X.kept (va_X.moved hW.alike hX.1) (low _ hg.2.1)
theorem km_r_call {n k kind : Nat} {M1 : km_Md} {as rest : List km_V} {x : Option km_V} {A1 : km_Al} {m1 : km_Mm} {nest : Bool} (hn : n = 3) (d : (kind = 0 ∧ decode M.1 pc = .ok (.invokevirtual k, 3)) ∨ (kind = 1 ∧ decode M.1 pc = .ok (.invokestatic k, 3)) ∨ (kind = 2 ∧ decode M.1 pc = .ok (.invokespecial k, 3)))
    (hf : km_mt M.2.1 k = some (M1, nest)) (h : km_call (some (M1, nest)) kind (pc + 3) st A M.2.2.2.2.2.1 = some (.inr (.inl (M1, as, nx, rest)))) (hfl : M1.2.2.2.2.2.2.2 < 30)
    (hq : km_Qx w) (C : km_Cx p s me args meth c w M) (hRm : km_Rm R M) (hc : c0 ≤ A.2.2.2.2.1 ∧ s0 ≤ A.2.2.2.2.2) (hmo : km_Mo A A1) (hR : A1.2.2.2.2.1 - c0 ≤ R.cells ∧ A1.2.2.2.2.2 - s0 ≤ R.slots) (hM : km_Met l w M1 as A m x A1 m1)
    (K : km_W p l e R s me args below meth c w M c0 s0 Q nx ls (x.toList ++ rest) A1 m1) : km_W p l e R s me args below meth c w M c0 s0 Q pc ls st A m := by
  obtain ⟨hlk, hok, hnest⟩ := km_lk_all M.2.1 _ (km_find hf)
  dsimp only at hlk hok hnest
  have ok : km_ok M1 := by
    rcases hok with hok | hok
    · omega
    · exact hok
  obtain ⟨o1, o2, o3, o4, o5, o6, o7, o8, o9⟩ := ok
  unfold km_call at h
  dsimp only at h
  split at h
  · next hg =>
    unfold km_callOk at hg
    simp only [Bool.and_eq_true, Bool.or_eq_true, decide_eq_true_eq] at hg
    obtain ⟨⟨g1, g2, g3, g4, g5⟩, g6⟩ := hg
    generalize hna : km_na M1 kind = na at g1 g4 g5 g6 h
    unfold km_na at hna
    cases h
    have hts := C.2.2.2.2.1
    have hgd := C.2.2.2.2.2.2.2.2.2.1
    have hst : st = st.take na ++ st.drop na := (List.take_append_drop na st).symm
    have hsplit : st.map (km_cv (km_ad w)) = ((st.take na).reverse.map (km_cv (km_ad w))).reverse ++ (st.drop na).map (km_cv (km_ad w)) := by
      rw [← List.map_reverse, List.reverse_reverse, ← List.map_append, List.take_append_drop]
    have hasl : (st.take na).reverse.length = na := by rw [List.length_reverse, List.length_take]; omega
    obtain ⟨a1, a2⟩ := hRm
    intro H locs lc h1 h2 h3 h4 h5 h6
    have hva : ∀ v ∈ (st.take na).reverse, km_vo v := fun v hv => h2 v (List.mem_of_mem_take (List.mem_reverse.mp hv))
    have hvr : ∀ v ∈ st.drop na, km_vo v := fun v hv => h2 v (List.mem_of_mem_drop hv)
    have hroom : (km_rm M1 (A1.2.2.2.2.1 - A.2.2.2.2.1) (A1.2.2.2.2.2 - A.2.2.2.2.2)).frames + 1 ≤ R.frames ∧ 8 + (M1.2.2.2.1 + 11) + (km_rm M1 (A1.2.2.2.2.1 - A.2.2.2.2.1) (A1.2.2.2.2.2 - A.2.2.2.2.2)).locals ≤ R.locals := by
      show M1.2.2.2.2.2.1 + 1 ≤ _ ∧ 8 + (M1.2.2.2.1 + 11) + 40 * M1.2.2.2.2.2.1 ≤ _
      constructor <;> omega
    have e1 : A.2.2.2.2.1 - c0 + (A1.2.2.2.2.1 - A.2.2.2.2.1) = A1.2.2.2.2.1 - c0 := by have := hmo.1; omega
    have e2 : A.2.2.2.2.2 - s0 + (A1.2.2.2.2.2 - A.2.2.2.2.2) = A1.2.2.2.2.2 - s0 := by have := hmo.2; omega
    have hcell : A.2.2.2.2.1 - c0 + (A1.2.2.2.2.1 - A.2.2.2.2.1) ≤ R.cells ∧ A.2.2.2.2.2 - s0 + (A1.2.2.2.2.2 - A.2.2.2.2.2) ≤ R.slots := by rw [e1, e2]; exact hR
    have hlc : lc.size = M.2.2.2.1 := h1.2.1.1
    have hfix : CallFix p me c M.1 M.2.2.2.1 s args km_gw (km_cn M.2.1) := ⟨C.1, C.2.1, C.2.2.1, C.2.2.2.1, hts⟩
    have hstart := fun U hU hW => km_start (as := (st.take na).reverse) C hva h3 h4 h5 h6 U hU hW
    have hgws : ∀ z ∈ km_ws M1, z ∈ km_gw := fun z hz => by
      rcases List.mem_cons.mp hz with rfl | hz
      · exact o2
      · exact hz
    have hcats : 2 * (F0 me pc lc (st.map (km_cv (km_ad w)))).monitorRoom + (((st.drop na).map (km_cv (km_ad w))).map fun v => v.category).sum ≤ 8 := by
      rw [km_cats]
      show 2 * 0 + _ ≤ 8
      omega
    have fin : ∀ a : Array Value, va_Run p l e R s me args below meth c H locs (A.2.2.2.2.1 - c0) (A.2.2.2.2.2 - s0) (A1.2.2.2.2.1 - A.2.2.2.2.1) (A1.2.2.2.2.2 - A.2.2.2.2.2) (F0 me pc lc (st.map (km_cv (km_ad w)))) ((st.drop na).map (km_cv (km_ad w))) (km_Qm w x A1 m1 a) (km_A w) →
        W p l e R s me args below meth c H locs (A.2.2.2.2.1 - c0) (A.2.2.2.2.2 - s0) Q (F0 me pc lc (st.map (km_cv (km_ad w)))) := by
      intro a hr
      refine km_callg hr h5 (fun t H1 locs1 ht hqs hS1 => ?_)
      obtain ⟨y1, y2, y3, y4⟩ := hqs
      subst ht
      have K1 := K t.heap locs1 lc h1 (fun v hv => by
        rcases List.mem_append.mp hv with hv | hv
        · cases x with
          | none => cases hv
          | some v1 => rw [List.mem_singleton.mp hv]; exact y1 v1 rfl
        · exact hvr v hv) y2 y3 hS1 y4
      rw [e1, e2]
      rw [List.map_append] at K1
      cases x with
      | none => exact K1
      | some v1 => exact K1
    rcases d with ⟨rfl, d⟩ | ⟨rfl, d⟩ | ⟨rfl, d⟩
    · -- virtual
      have h16 := g6.resolve_left (by decide)
      obtain ⟨b1, b2⟩ := o7 g2
      simp only [if_neg (show ¬ (0 : Nat) = 1 by decide)] at hna
      unfold km_rcv at h16
      split at h16
      · next z zs hz =>
        have h17 : 0 ≤ z ∧ z < (A.1 : Int) ∧ km_kd A z = 10 + (M1.2.1 : Int) := by simpa using h16
        obtain ⟨z0, z1, z2⟩ := h17
        have hzs : zs.length = M1.2.2.2.2.2.2.1 := by
          have := hasl
          rw [hz, List.length_cons] at this
          omega
        rw [hz, List.map_cons, km_rvne (by omega)] at hsplit
        have hcl9 : ∃ q, vwCl[M1.2.1]? = some q ∧ q.1 = km_cn M1.2.1 := by
          obtain ⟨r9, h9, -⟩ := h4 z.toNat _ (km_wd_at' w A m z0 z1 (km_en_o z2))
          exact ⟨r9, h9, km_clsn _ _ h9⟩
        obtain ⟨q, hq1, hq2⟩ := hcl9
        have hrec := va_recv C.2.2.2.2.2.2.2.1 h4 hq1 (km_wd_at' w A m z0 z1 (km_en_o z2))
        rw [hq2] at hrec
        refine fin _ (va_runV (C := km_cn M1.2.1) (b := km_ad w z) (As := zs.map (km_cv (km_ad w))) hfix hM (cwV (ws' := km_gw) M1.2.2.2.2.2.2.1 hts ?_ rfl rfl rfl ⟨o5, o4⟩ hroom) ⟨km_Bs.blind hgd, hrec, fun U hU hW => ⟨by rw [hz, List.map_cons, km_rvne (by omega)], hstart U hU hW⟩⟩ rfl (by rw [List.length_map]; exact hzs) hlc (by
          show st.map (km_cv (km_ad w)) = _
          rw [hsplit, List.reverse_cons, List.append_assoc]
          rfl) hcats d hcell)
        refine km_gdIn _ (fun y hy => ?_)
        rcases List.mem_append.mp hy with hy | hy
        · simp only [List.mem_cons, List.not_mem_nil, or_false] at hy
          rcases hy with rfl | rfl | rfl | rfl
          · exact hlk (by cases nest with | false => rfl | true => exact absurd (hnest rfl) (by omega))
          · exact b1
          · exact b2
          · rw [← o5]; exact o3
        · exact hgws y hy
      · cases h16
    · -- static
      have b1 := o8 g2
      simp only [if_true] at hna
      refine fin _ (va_runS (As := (st.take na).reverse.map (km_cv (km_ad w))) hfix hM ⟨callB_of (ws' := km_gw) M1.2.2.2.2.2.2.1 hts (km_gdIn _ hgws) rfl rfl rfl (hts _ o3) (hts _ (hlk (by cases nest with | false => rfl | true => exact absurd (hnest rfl) (by omega)))) o4 hroom, hts _ b1⟩ ⟨km_Bs.blind hgd, fun U hU hW => ⟨rfl, hstart U hU hW⟩⟩ rfl (n := M1.2.2.2.2.2.2.1) (by rw [List.length_map, hasl]; omega) hlc (by
          show st.map (km_cv (km_ad w)) = _
          rw [hsplit]) hcats d hcell)
    · -- constructor
      have h16 := g6.resolve_left (by decide)
      obtain ⟨b1, b2, b3⟩ := o9 g2
      simp only [if_neg (show ¬ (2 : Nat) = 1 by decide)] at hna
      unfold km_rcv at h16
      split at h16
      · next z zs hz =>
        have h17 : 0 ≤ z ∧ z < (A.1 : Int) ∧ km_kd A z = 10 + (M1.2.1 : Int) := by simpa using h16
        obtain ⟨z0, z1, z2⟩ := h17
        have hzs : zs.length = M1.2.2.2.2.2.2.1 := by
          have := hasl
          rw [hz, List.length_cons] at this
          omega
        rw [hz, List.map_cons, km_rvne (by omega)] at hsplit
        have hstk : (F0 me pc lc (st.map (km_cv (km_ad w)))).stack = (zs.map (km_cv (km_ad w))).reverse ++ .ref (km_ad w z) :: (st.drop na).map (km_cv (km_ad w)) := by
          show st.map (km_cv (km_ad w)) = _
          rw [hsplit, List.reverse_cons, List.append_assoc]
          rfl
        have hpre : PreS s H (va_Pc ((st.take na).reverse.map (km_cv (km_ad w))) (km_Bs w (st.take na).reverse A m)) (.ref (km_ad w z) :: zs.map (km_cv (km_ad w))) := ⟨km_Bs.blind hgd, fun U hU hW => ⟨by rw [hz, List.map_cons, km_rvne (by omega)], hstart U hU hW⟩⟩
        have hret : M1.2.2.2.2.1 = none := b3
        have hlen9 : (zs.map (km_cv (km_ad w))).length = M1.2.2.2.2.2.2.1 := by rw [List.length_map]; exact hzs
        have hnm : M1.2.2.1.name = "<init>" := b1
        have hws9 : km_ws M1 = Cond.code M1.2.2.1 M1.1 M1.2.2.2.1 none :: km_gw := by unfold km_ws; rw [hret]
        cases nest with
        | false =>
          exact fin _ (va_runI (b := km_ad w z) (As := zs.map (km_cv (km_ad w))) hfix hM (cwI (ws' := km_gw) M1.2.2.2.2.2.2.1 hts (km_gdIn _ hgws) hws9 rfl rfl (hts _ o3) (hts _ (hlk rfl)) (hts _ b2) hnm o4 hroom) hpre rfl hlen9 hlc hstk hcats d hcell)
        | true =>
          have hnl := (hq s C.2.2.2.2.2.2.2.2.1.2).2 M.2.1 _ (km_find hf) rfl
          exact fin _ (va_runIN (host := "KinMeet") (b := km_ad w z) (As := zs.map (km_cv (km_ad w))) hfix hM ⟨va_cnB (ws' := km_gw) M1.2.2.2.2.2.2.1 hts (km_gdIn _ hgws) hws9 rfl rfl hnl (hts _ o3) o4 hroom, hnm, hts _ b2⟩ hpre rfl hlen9 hlc hstk hcats d hcell)
      · cases h16
  · cases h
end ROWS
