/-! THE CLAIM OUT OF ONE WALK OF THE LAW'S BODY. Your part is whole_start (and what it stands on); all else here is the same for every law, but numbers. -/
def R_law : String := "KinMeetLaw"
def lw_P (b : Addr) (xs : List Int32) (args : Array Value) (s : State) : Prop := args = #[.ref b] ∧ s.IntsAt b xs ∧ xs.length ≤ 3072 ∧ (Jvm.Cond.and given_1 narrow_1).before args s = true
def lw_Q (_ : Array Value) (s : State) (o : Outcome) (t : State) : Prop := o = .returned (some (.int 1)) ∧ Framed s o t [] 601024 7293034
def lw_Z (below : List Frame) (a : Array Value) (s : State) : State → Prop := fun t => ∃ o, t.status = .running ∧ Ended t below o ∧ lw_Q a s o t
/-- the law's own end, with 1 on the stack, nothing written that was there before, its room as the claim has it -/
theorem lw_ret {p : Program} {l : Launch} {e : Env} {s : State} {m : MethodId} {below : List Frame} {meth : Method} {c : Code} {b : Nat} (hx : p.tables.exec = Jvm.exec) (hb : c.code = code) (hr : meth.sig.returnType = ret) (hlocks : meth.locks = false) {pc : Nat} {H : Heap} {ls : Array Slot} (hdg : decode code pc = .ok (.ireturn, 1)) : W p l e room_1 s m #[Value.ref b] below meth c H [] 601024 7293034 (lw_Z below #[Value.ref b] s) (F0 m pc ls [.int 1]) := by
  intro T hT X
  obtain ⟨fs, hret, hrun, hended, hW, hframe⟩ := X.leave (v := some (.int 1)) (hlocks := hlocks) (fun h => by rw [hr] at h; cases h)
  have hmeth' : T.vm.method? m = some meth := X.method'
  refine ⟨T.setFrames fs, ?_, .returned (some (.int 1)), hrun, hended, rfl, ⟨_, rfl⟩, hW, hframe⟩
  jvm_step X.here [X.here.top, hx, hb, hdg, hmeth', hr, ret, narrow_b1]
  (try refine ⟨rfl, ?_⟩); (try refine ⟨rfl, ?_⟩)
  first | (intro acts; rw [hret _ acts rfl rfl rfl]) | rw [hret _ _ rfl rfl rfl]
  exact Steps.refl _
/-- what holds at the law's entry: the machine, the code, the tables' words (any of lw_tbl by 'hts w (by decide +kernel)'), the script of L ints xs at the cell b, what the Statement gives of the start (any of its parts by flat_of_before) -/
def lw_At (p : Program) (s : State) (m : MethodId) (meth : Method) (c : Code) (b L : Nat) (xs : Nat → Int32) : Prop :=
  p.tables.exec = Jvm.exec ∧ c.code = code ∧ meth.sig.returnType = ret ∧ c.maxLocals = 7 ∧ s.vm.findClass R_law = some m.cls ∧ (∀ w ∈ lw_tbl, w.before #[Value.ref b] s = true) ∧ va_X b L xs s s.heap ∧ b < s.heap.size ∧ meth.locks = false ∧ (Jvm.Cond.and given_1 narrow_1).before #[Value.ref b] s = true

/-- the world of a start of the law -/
abbrev kw9 (D1 : Nat → ClassId) (D2 : Nat → Nat → Nat) (dA : Nat → ClassId) (b L ad3 ad4 bs : Nat) (xs : Nat → Int32) (E2 : State → Prop) : km_Pr := ((D1, D2), dA, (fun k => if k = -2 then b else if k = -3 then ad3 else if k = -4 then ad4 else bs + k.toNat), bs, L, xs, E2)
theorem kw9_gd {D1 : Nat → ClassId} {D2 : Nat → Nat → Nat} {dA : Nat → ClassId} {b L ad3 ad4 bs : Nat} {xs : Nat → Int32} {E2 : State → Prop} (hL : L ≤ 3072) (hb : b < bs) (hst : ∀ u U : State, u.WarmedH U.vm → (∀ q : Nat, q < bs → U.heap[q]? = u.heap[q]?) → E2 u → E2 U) : km_gd (kw9 D1 D2 dA b L ad3 ad4 bs xs E2) := by
  refine ⟨fun k k0 => ?_, ?_, hL, hst⟩
  · show (if k = -2 then b else if k = -3 then ad3 else if k = -4 then ad4 else bs + k.toNat) = bs + k.toNat
    rw [if_neg (by omega), if_neg (by omega), if_neg (by omega)]
  · exact hb
theorem km_step_1 {pc : Nat} {ls : km_Ls} {st : List km_V} {A : km_Al} {m : km_Mm} (h : km_step M_L_law pc ls st A m = some (.inr (.inr (some (.inl 1))))) : decode M_L_law.1 pc = .ok (.ireturn, 1) ∧ st = [.inl 1] := by
  rcases km_step_kind h with ⟨X, h1⟩ | ⟨k, kind, -, h1⟩ | h1
  · cases h1
  · exact (km_call_no h1).elim
  · rcases h1 with ⟨hd, h1⟩ | ⟨hd, h1⟩ | ⟨hd, h1⟩
    · unfold km_ret at h1
      split at h1
      · split at h1
        · cases h1; exact ⟨hd, rfl⟩
        · cases h1
      · next q => cases q
      · next q => cases q
      · cases h1
    · unfold km_ret at h1
      split at h1
      · next q => cases q
      · split at h1
        · cases h1
        · cases h1
      · next q => cases q
      · cases h1
    · unfold km_ret at h1
      split at h1
      · next q => cases q
      · next q => cases q
      · split at h1 <;> cases h1
      · cases h1
set_option maxRecDepth 100000 in
theorem start_open {p : Program} {e : Env} {s : State} {m : MethodId} {below : List Frame} {meth : Method} {c : Code} (l : Launch) {b L : Nat} {xs : Nat → Int32} (hL : L ≤ 3072) (C0 : lw_At p s m meth c b L xs)
    {D1 : Nat → ClassId} {D2 : Nat → Nat → Nat} {dA : Nat → ClassId} {ad3 ad4 : Nat} {E2 : State → Prop} (hK : va_K (D1, D2) vwCl [(dA 0, .int), (dA 1, .long), (dA 2, .boolean), (dA 3, .array .int)] s)
    (hst : ∀ u U : State, u.WarmedH U.vm → (∀ q : Nat, q < s.heap.size → U.heap[q]? = u.heap[q]?) → E2 u → E2 U) (h0 : E2 s)
    (hq : km_Qx (kw9 D1 D2 dA b L ad3 ad4 s.heap.size xs E2)) (hI : km_In9 l (kw9 D1 D2 dA b L ad3 ad4 s.heap.size xs E2)) (hSx : km_Sx l (kw9 D1 D2 dA b L ad3 ad4 s.heap.size xs E2)) (hB : km_Bx l (kw9 D1 D2 dA b L ad3 ad4 s.heap.size xs E2)) :
    W p l e room_1 s m #[Value.ref b] below meth c s.heap [] 0 0 (lw_Z below #[Value.ref b] s) (entryFrame m ([Value.ref b] : List Value).toArray 7) := by
  obtain ⟨hx, hb, hr, hml, hown, hts, hX, hbl, hlocks, hgv⟩ := id C0
  obtain ⟨w, dw⟩ : ∃ w : km_Pr, w = kw9 D1 D2 dA b L ad3 ad4 s.heap.size xs E2 := ⟨_, rfl⟩
  have hg : km_gd w := by rw [dw]; exact kw9_gd hL hbl hst
  rw [← dw] at hq hI hSx hB
  have w1 : km_bs w = s.heap.size := by rw [dw]
  have w2 : km_ad w (-2) = b := by rw [dw]; rfl
  have w3 : km_L w = L := by rw [dw]
  have w4 : km_xs w = xs := by rw [dw]
  have C : km_Cx p s m #[Value.ref b] meth c w M_L_law := ⟨hx, hb, hml, hown, fun x h => hts x (List.mem_filter.mp h).1, hlocks, (fun h => absurd h (by decide)), (by rw [dw]; exact hK), ⟨(by rw [w2, w3, w4]; exact hX), (by rw [dw]; exact h0)⟩, hg, (by rw [w1]; exact Nat.le_refl _)⟩
  obtain ⟨n, A', m', hrun, h1, h2⟩ := law_run hL (fun j => if 0 ≤ j ∧ j < L then (xs j.toNat).toInt else 0)
  have s9 : km_s9 185 + 3072 ≤ 7293034 := by decide +kernel
  have key := km_soundL hq hg hI hSx hB n 0 _ [] _ _ _ _ _ hrun (Nat.zero_le _) p e room_1 s m #[Value.ref b] below meth c 0 0 (lw_Z below #[Value.ref b] s) C ⟨by decide, by decide⟩ ⟨Nat.zero_le _, Nat.zero_le _⟩ ⟨by show A'.2.2.2.2.1 - 0 ≤ 601024; omega, by show A'.2.2.2.2.2 - 0 ≤ 7293034; omega⟩ (fun pc ls st hs => by
    obtain ⟨hd, rfl⟩ := km_step_1 hs
    intro H locs lc g1 g2 g3 g4 g5 g6
    refine va_forget (fun q hq => by have := g5.2.2 q hq; rw [← w1]; exact this) ?_
    refine W.widen (k := 601024) (n := 7293034) (by omega) (by omega) ?_
    exact lw_ret hx hb hr hlocks hd)
  rw [lg_entry_eq]
  have hv : ∀ v ∈ ([.inr (.inr (-2))] : List km_V), km_vo v := fun v h => by
    cases h with
    | head => trivial
    | tail _ h => cases h
  have l0 := km_lm_entry (km_ad w) (n := 7) (as := [.inr (.inr (-2))]) (by decide) hv
  have e0 : ([.inr (.inr (-2))] : List km_V).map (km_cv (km_ad w)) = [Value.ref b] := by
    show [km_rv (km_ad w) (-2)] = _
    unfold km_rv
    rw [if_neg (by decide), w2]
  rw [e0] at l0
  refine key s.heap [] _ l0 (fun v h => by cases h) ⟨fun a i => ?_, fun a => ?_, ?_, fun j hj => ?_⟩ (fun k q h => ?_) va_S.rf (fun _ => ?_)
  · have r : -2147483648 ≤ kmix (fun j => if 0 ≤ j ∧ j < (L : Int) then (xs j.toNat).toInt else 0) kM00 a i ∧ kmix (fun j => if 0 ≤ j ∧ j < (L : Int) then (xs j.toNat).toInt else 0) kM00 a i ≤ 2147483647 := by
      unfold kmix kM00
      dsimp only
      split
      · split
        · exact km_rng _
        · omega
      · omega
    exact ⟨fun _ => ⟨by omega, by omega⟩, fun _ => r⟩
  · show 0 ≤ (if 0 ≤ a ∧ a < ((0 : Nat) : Int) then km_lnL.getD a.toNat 0 else if a = -2 then (L : Int) else 0) ∧ (if 0 ≤ a ∧ a < ((0 : Nat) : Int) then km_lnL.getD a.toNat 0 else if a = -2 then (L : Int) else 0) ≤ 100000
    rw [if_neg (by omega)]
    split <;> omega
  · rw [w3]; rfl
  · rw [w3] at hj
    rw [w4]
    show (if (-2 : Int) = -2 then (if 0 ≤ (j : Int) ∧ (j : Int) < (L : Int) then (xs ((j : Int)).toNat).toInt else 0) else 0) = _
    rw [if_pos rfl, if_pos (by omega), Int.toNat_natCast]
  · cases h
  · rw [w1]; rfl

