/-! ===== what the law's start gives: classes, array classes, nest links; the states like it ===== -/
theorem kz_gw {args : Array Value} {s : State} (hts : ∀ w ∈ lw_tbl, w.before args s = true) : ∀ w ∈ km_gw, w.before args s = true := fun w h => hts w (List.mem_filter.mp h).1
theorem kz_kn {args : Array Value} {s : State} (hts : ∀ w ∈ lw_tbl, w.before args s = true) : ∀ c : Nat, ∃ x : ClassId × (Nat → Nat), ∀ q : vw_C, vwCl[c]? = some q → u_Kn s q.1 q.2.1 q.2.2 x.1 x.2
  | 0 => by
    obtain ⟨a, i, h⟩ := u_known (C := RX0) (T := TX0) (N := 10) (n := 10) hts iX0 (kz_gw hts _ (km_in2 40 rfl rfl))
    exact ⟨(a, i), fun q hq => by cases hq; exact h⟩
  | 1 => by
    obtain ⟨a, i, h⟩ := u_known (C := RX1) (T := TX1) (N := 13) (n := 13) hts iX1 (kz_gw hts _ (km_in1 70 rfl rfl))
    exact ⟨(a, i), fun q hq => by cases hq; exact h⟩
  | 2 => by
    obtain ⟨a, i, h⟩ := u_known (C := RX2) (T := TX2) (N := 12) (n := 12) hts iX2 (kz_gw hts _ (km_in2 78 rfl rfl))
    exact ⟨(a, i), fun q hq => by cases hq; exact h⟩
  | 3 => by
    obtain ⟨a, i, h⟩ := u_known (C := RX3) (T := TX3) (N := 12) (n := 12) hts iX3 (kz_gw hts _ (km_in2 183 rfl rfl))
    exact ⟨(a, i), fun q hq => by cases hq; exact h⟩
  | 4 => by
    obtain ⟨a, i, h⟩ := u_known (C := RX4) (T := TX4) (N := 16) (n := 16) hts iX4 (kz_gw hts _ (km_in2 125 rfl rfl))
    exact ⟨(a, i), fun q hq => by cases hq; exact h⟩
  | 5 => by
    obtain ⟨a, i, h⟩ := u_known (C := RX5) (T := TX5) (N := 7) (n := 7) hts iX5 (kz_gw hts _ (km_in2 231 rfl rfl))
    exact ⟨(a, i), fun q hq => by cases hq; exact h⟩
  | 6 => by
    obtain ⟨a, i, h⟩ := u_known (C := RX6) (T := TX6) (N := 7) (n := 7) hts iX6 (kz_gw hts _ (km_in1 135 rfl rfl))
    exact ⟨(a, i), fun q hq => by cases hq; exact h⟩
  | 7 => by
    obtain ⟨a, i, h⟩ := u_known (C := RX7) (T := TX7) (N := 15) (n := 15) hts iX7 (kz_gw hts _ (km_in1 171 rfl rfl))
    exact ⟨(a, i), fun q hq => by cases hq; exact h⟩
  | 8 => by
    obtain ⟨a, i, h⟩ := u_known (C := RX8) (T := TX8) (N := 10) (n := 10) hts iX8 (kz_gw hts _ (km_in1 225 rfl rfl))
    exact ⟨(a, i), fun q hq => by cases hq; exact h⟩
  | 9 => by
    obtain ⟨a, i, h⟩ := u_known (C := RX9) (T := TX9) (N := 10) (n := 10) hts iX9 (kz_gw hts _ (km_in3 28 rfl rfl))
    exact ⟨(a, i), fun q hq => by cases hq; exact h⟩
  | 10 => by
    obtain ⟨a, i, h⟩ := u_known (C := RX10) (T := TX10) (N := 7) (n := 7) hts iX10 (kz_gw hts _ (km_in1 37 rfl rfl))
    exact ⟨(a, i), fun q hq => by cases hq; exact h⟩
  | 11 => by
    obtain ⟨a, i, h⟩ := u_known (C := RX11) (T := TX11) (N := 14) (n := 14) hts iX11 (kz_gw hts _ (km_in1 29 rfl rfl))
    exact ⟨(a, i), fun q hq => by cases hq; exact h⟩
  | 12 => by
    obtain ⟨a, i, h⟩ := u_known (C := RX12) (T := TX12) (N := 109) (n := 109) hts iX12 (kz_gw hts _ (km_in7 111 rfl rfl))
    exact ⟨(a, i), fun q hq => by cases hq; exact h⟩
  | n + 13 => ⟨(0, fun _ => 0), fun q h => absurd h (by simp [vwCl])⟩
theorem kz_ao {args : Array Value} {s : State} (hts : ∀ w ∈ lw_tbl, w.before args s = true) : (Cond.arrayOver (.array .int)).before args s = true := hts _ (km_sg1 _ (List.mem_of_getElem? (i := 76) rfl))
theorem kz_K {args : Array Value} {s : State} (hts : ∀ w ∈ lw_tbl, w.before args s = true) : ∃ (D1 : Nat → ClassId) (D2 : Nat → Nat → Nat) (dA : Nat → ClassId), va_K (D1, D2) vwCl [(dA 0, .int), (dA 1, .long), (dA 2, .boolean), (dA 3, .array .int)] s := by
  obtain ⟨f, hf⟩ := Classical.axiomOfChoice (kz_kn hts)
  obtain ⟨c0, k0, p0, a1, a2, a3⟩ := Cond.arrayClass_spec (kz_gw hts _ km_acI)
  obtain ⟨c1, k1, p1, b1, b2, b3⟩ := Cond.arrayClass_spec (kz_gw hts _ km_acJ)
  obtain ⟨c2, k2, p2, d1, d2, d3⟩ := Cond.arrayClass_spec (kz_gw hts _ km_acZ)
  obtain ⟨p3, c3, k3, e0, -, e2, e3, e1⟩ := kw_over (kz_ao hts)
  refine ⟨fun c => (f c).1, fun c => (f c).2, fun j => if j = 0 then c0 else if j = 1 then c1 else if j = 2 then c2 else c3, hf, ?_⟩
  intro k q hk
  match k, hk with
  | 0, hk => cases hk; exact ⟨fun n z => ⟨(fun k h => by cases h), k0, a2, p0, a3⟩, a1⟩
  | 1, hk => cases hk; exact ⟨fun n z => ⟨(fun k h => by cases h), k1, b2, p1, b3⟩, b1⟩
  | 2, hk => cases hk; exact ⟨fun n z => ⟨(fun k h => by cases h), k2, d2, p2, d3⟩, d1⟩
  | 3, hk => cases hk; exact ⟨fun n z => ⟨(fun k h => by cases h), k3, e2, p3, e3⟩, e1⟩
  | n + 4, hk => simp at hk
/-- a state like the start s: its tables warmer, its cells where they were -/
def kz_E (s : State) : State → Prop := fun U => s.WarmedH U.vm ∧ ∀ q : Nat, q < s.heap.size → U.heap[q]? = s.heap[q]?
theorem kz_E0 {s : State} : kz_E s s := ⟨State.WarmedH.refl s, fun _ _ => rfl⟩
theorem kz_Est {s : State} : ∀ u U : State, u.WarmedH U.vm → (∀ q : Nat, q < s.heap.size → U.heap[q]? = u.heap[q]?) → kz_E s u → kz_E s U := fun u U h1 h2 h => ⟨State.WarmedH.trans h.1 h1, fun q hq => (h2 q hq).trans (h.2 q hq)⟩
set_option maxRecDepth 100000 in
theorem kz_nn : ∀ o : Nat, o ≠ 11 → ∀ e ∈ km_mtL o, e.2.2 = false
  | 0, _ => by decide
  | 1, _ => by decide
  | 2, _ => by decide
  | 3, _ => by decide
  | 4, _ => by decide
  | 5, _ => by decide
  | 6, _ => by decide
  | 7, _ => by decide
  | 8, _ => by decide
  | 9, _ => by decide
  | 10, _ => by decide
  | 11, h => absurd rfl h
  | 12, _ => by decide
  | 13, _ => by decide
  | n + 14, _ => fun e h => by cases h
set_option maxRecDepth 100000 in
theorem kz_n11 : ∀ e ∈ km_mtL 11, e.2.2 = true → Cond.methodLinkNest (km_cn 11) e.1 e.2.1.2.2.1 "KinMeet" ∈ lw_tbl := (List.forall_mem_cons.mpr ⟨(fun _ => km_sg1 _ (List.mem_of_getElem? (i := 38) rfl)), (List.forall_mem_cons.mpr ⟨(fun _ => km_sg1 _ (List.mem_of_getElem? (i := 71) rfl)), (List.forall_mem_cons.mpr ⟨(fun h => absurd h (by decide)), (List.forall_mem_cons.mpr ⟨(fun h => absurd h (by decide)), (List.forall_mem_cons.mpr ⟨(fun h => absurd h (by decide)), (List.forall_mem_cons.mpr ⟨(fun _ => km_sg2 _ (List.mem_of_getElem? (i := 41) rfl)), (List.forall_mem_cons.mpr ⟨(fun _ => km_sg2 _ (List.mem_of_getElem? (i := 79) rfl)), (List.forall_mem_cons.mpr ⟨(fun h => absurd h (by decide)), (List.forall_mem_cons.mpr ⟨(fun _ => km_sg2 _ (List.mem_of_getElem? (i := 184) rfl)), (List.forall_mem_cons.mpr ⟨(fun h => absurd h (by decide)), (List.forall_mem_cons.mpr ⟨(fun _ => km_sg3 _ (List.mem_of_getElem? (i := 29) rfl)), (List.forall_mem_cons.mpr ⟨(fun h => absurd h (by decide)), (List.forall_mem_cons.mpr ⟨(fun h => absurd h (by decide)), (List.forall_mem_cons.mpr ⟨(fun h => absurd h (by decide)), (List.forall_mem_cons.mpr ⟨(fun h => absurd h (by decide)), (List.forall_mem_cons.mpr ⟨(fun h => absurd h (by decide)), (List.forall_mem_cons.mpr ⟨(fun h => absurd h (by decide)), (List.forall_mem_cons.mpr ⟨(fun h => absurd h (by decide)), (List.forall_mem_cons.mpr ⟨(fun h => absurd h (by decide)), (List.forall_mem_cons.mpr ⟨(fun h => absurd h (by decide)), (List.forall_mem_cons.mpr ⟨(fun h => absurd h (by decide)), (List.forall_mem_cons.mpr ⟨(fun h => absurd h (by decide)), (List.forall_mem_cons.mpr ⟨(fun h => absurd h (by decide)), (List.forall_mem_cons.mpr ⟨(fun h => absurd h (by decide)), (List.forall_mem_cons.mpr ⟨(fun h => absurd h (by decide)), (List.forall_mem_cons.mpr ⟨(fun h => absurd h (by decide)), (List.forall_mem_cons.mpr ⟨(fun h => absurd h (by decide)), (List.forall_mem_cons.mpr ⟨(fun h => absurd h (by decide)), (List.forall_mem_cons.mpr ⟨(fun h => absurd h (by decide)), (List.forall_mem_cons.mpr ⟨(fun h => absurd h (by decide)), (List.forall_mem_cons.mpr ⟨(fun h => absurd h (by decide)), (List.forall_mem_cons.mpr ⟨(fun h => absurd h (by decide)), (List.forall_mem_cons.mpr ⟨(fun h => absurd h (by decide)), (List.forall_mem_cons.mpr ⟨(fun h => absurd h (by decide)), (List.forall_mem_cons.mpr ⟨(fun h => absurd h (by decide)), (List.forall_mem_cons.mpr ⟨(fun h => absurd h (by decide)), (List.forall_mem_cons.mpr ⟨(fun h => absurd h (by decide)), (List.forall_mem_cons.mpr ⟨(fun h => absurd h (by decide)), (List.forall_mem_cons.mpr ⟨(fun h => absurd h (by decide)), (List.forall_mem_cons.mpr ⟨(fun h => absurd h (by decide)), (List.forall_mem_cons.mpr ⟨(fun h => absurd h (by decide)), (List.forall_mem_cons.mpr ⟨(fun h => absurd h (by decide)), (List.forall_mem_cons.mpr ⟨(fun h => absurd h (by decide)), (List.forall_mem_cons.mpr ⟨(fun h => absurd h (by decide)), (List.forall_mem_cons.mpr ⟨(fun h => absurd h (by decide)), (List.forall_mem_cons.mpr ⟨(fun h => absurd h (by decide)), (List.forall_mem_cons.mpr ⟨(fun h => absurd h (by decide)), (List.forall_mem_cons.mpr ⟨(fun h => absurd h (by decide)), (List.forall_mem_cons.mpr ⟨(fun h => absurd h (by decide)), (List.forall_mem_cons.mpr ⟨(fun h => absurd h (by decide)), (List.forall_mem_cons.mpr ⟨(fun h => absurd h (by decide)), (List.forall_mem_cons.mpr ⟨(fun h => absurd h (by decide)), (List.forall_mem_cons.mpr ⟨(fun h => absurd h (by decide)), (List.forall_mem_cons.mpr ⟨(fun h => absurd h (by decide)), (List.forall_mem_cons.mpr ⟨(fun h => absurd h (by decide)), (List.forall_mem_cons.mpr ⟨(fun h => absurd h (by decide)), (List.forall_mem_cons.mpr ⟨(fun h => absurd h (by decide)), (List.forall_mem_cons.mpr ⟨(fun h => absurd h (by decide)), (List.forall_mem_cons.mpr ⟨(fun h => absurd h (by decide)), (List.forall_mem_cons.mpr ⟨(fun h => absurd h (by decide)), (List.forall_mem_cons.mpr ⟨(fun h => absurd h (by decide)), (List.forall_mem_cons.mpr ⟨(fun h => absurd h (by decide)), (List.forall_mem_cons.mpr ⟨(fun h => absurd h (by decide)), (List.forall_mem_cons.mpr ⟨(fun h => absurd h (by decide)), (List.forall_mem_cons.mpr ⟨(fun h => absurd h (by decide)), (List.forall_mem_cons.mpr ⟨(fun h => absurd h (by decide)), (List.forall_mem_cons.mpr ⟨(fun h => absurd h (by decide)), (List.forall_mem_cons.mpr ⟨(fun h => absurd h (by decide)), (List.forall_mem_cons.mpr ⟨(fun h => absurd h (by decide)), (List.forall_mem_cons.mpr ⟨(fun h => absurd h (by decide)), (List.forall_mem_cons.mpr ⟨(fun h => absurd h (by decide)), (List.forall_mem_cons.mpr ⟨(fun h => absurd h (by decide)), (List.forall_mem_cons.mpr ⟨(fun h => absurd h (by decide)), (List.forall_mem_cons.mpr ⟨(fun h => absurd h (by decide)), (fun _ h => absurd h List.not_mem_nil)⟩)⟩)⟩)⟩)⟩)⟩)⟩)⟩)⟩)⟩)⟩)⟩)⟩)⟩)⟩)⟩)⟩)⟩)⟩)⟩)⟩)⟩)⟩)⟩)⟩)⟩)⟩)⟩)⟩)⟩)⟩)⟩)⟩)⟩)⟩)⟩)⟩)⟩)⟩)⟩)⟩)⟩)⟩)⟩)⟩)⟩)⟩)⟩)⟩)⟩)⟩)⟩)⟩)⟩)⟩)⟩)⟩)⟩)⟩)⟩)⟩)⟩)⟩)⟩)⟩)⟩)⟩)⟩)⟩)⟩)⟩)⟩)⟩)⟩)
theorem kz_ne (o : Nat) (e : Nat × km_Md × Bool) (he : e ∈ km_mtL o) (h : e.2.2 = true) : Cond.methodLinkNest (km_cn o) e.1 e.2.1.2.2.1 "KinMeet" ∈ lw_tbl := by
  by_cases ho : o = 11
  · subst ho
    exact kz_n11 e he h
  · rw [kz_nn o ho e he] at h
    cases h
theorem kz_Qx {args : Array Value} {s : State} (hts : ∀ w ∈ lw_tbl, w.before args s = true) (w : km_Pr) (hw : km_E2 w = kz_E s) : km_Qx w := by
  intro U hU
  rw [hw] at hU
  refine ⟨kw_over_at hU.1.alike (kz_ao hts), fun o e he h2 => ?_⟩
  exact va_Nw.warmM hU.1 (va_Nw.of rfl (hts _ (kz_ne o e he h2)))
