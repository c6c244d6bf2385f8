theorem km_find {α : Type} {L : List (Nat × α)} {i : Nat} {x : α} (h : (L.find? (fun e => e.1 == i)).map (fun e => e.2) = some x) : (i, x) ∈ L := by
  cases hf : L.find? (fun e => e.1 == i) with
  | none => rw [hf] at h; cases h
  | some e =>
    rw [hf] at h
    have h1 := List.find?_some hf
    have h2 := List.mem_of_find?_eq_some hf
    have h3 : e.2 = x := Option.some.inj h
    have h4 : e.1 = i := by simpa using h1
    rw [← h3, ← h4]
    exact h2
theorem km_lk_all (o : Nat) : ∀ e ∈ km_mtL o, km_lk o e := by
  match o with
  | 0 => exact lk_0
  | 1 => exact lk_1
  | 2 => exact lk_2
  | 3 => exact lk_3
  | 4 => exact lk_4
  | 5 => exact lk_5
  | 6 => exact lk_6
  | 7 => exact lk_7
  | 8 => exact lk_8
  | 9 => exact lk_9
  | 10 => exact lk_10
  | 11 => exact lk_11
  | 12 => exact lk_12
  | 13 => exact lk_13
  | n + 14 => exact fun _ h => absurd h List.not_mem_nil
theorem km_lf_all (o : Nat) : ∀ e ∈ km_flL o, km_lf o e := by
  match o with
  | 0 => exact lf_0
  | 1 => exact lf_1
  | 2 => exact lf_2
  | 3 => exact lf_3
  | 4 => exact lf_4
  | 5 => exact lf_5
  | 6 => exact lf_6
  | 7 => exact lf_7
  | 8 => exact lf_8
  | 9 => exact lf_9
  | 10 => exact lf_10
  | 11 => exact lf_11
  | 12 => exact lf_12
  | n + 13 => exact fun _ h => absurd h List.not_mem_nil
theorem km_lc_all (o : Nat) : ∀ e ∈ km_csL o, km_lc o e := by
  match o with
  | 0 => exact fun _ h => absurd h List.not_mem_nil
  | 1 => exact fun _ h => absurd h List.not_mem_nil
  | 2 => exact lc_2
  | 3 => exact lc_3
  | 4 => exact lc_4
  | 5 => exact fun _ h => absurd h List.not_mem_nil
  | 6 => exact fun _ h => absurd h List.not_mem_nil
  | 7 => exact lc_7
  | 8 => exact fun _ h => absurd h List.not_mem_nil
  | 9 => exact fun _ h => absurd h List.not_mem_nil
  | 10 => exact lc_10
  | 11 => exact lc_11
  | 12 => exact lc_12
  | 13 => exact fun _ h => absurd h List.not_mem_nil
  | 14 => exact lc_14
  | n + 15 => exact fun _ h => absurd h List.not_mem_nil
theorem km_ld_all (o : Nat) : ∀ e ∈ km_clL o, km_ld o e := by
  match o with
  | 0 => exact fun _ h => absurd h List.not_mem_nil
  | 1 => exact fun _ h => absurd h List.not_mem_nil
  | 2 => exact fun _ h => absurd h List.not_mem_nil
  | 3 => exact fun _ h => absurd h List.not_mem_nil
  | 4 => exact ld_4
  | 5 => exact fun _ h => absurd h List.not_mem_nil
  | 6 => exact fun _ h => absurd h List.not_mem_nil
  | 7 => exact fun _ h => absurd h List.not_mem_nil
  | 8 => exact fun _ h => absurd h List.not_mem_nil
  | 9 => exact fun _ h => absurd h List.not_mem_nil
  | 10 => exact fun _ h => absurd h List.not_mem_nil
  | 11 => exact ld_11
  | 12 => exact ld_12
  | n + 13 => exact fun _ h => absurd h List.not_mem_nil
theorem km_lnw_all (o : Nat) : ∀ e ∈ km_nwL o, km_ln_ok o e := by
  match o with
  | 0 => exact fun _ h => absurd h List.not_mem_nil
  | 1 => exact fun _ h => absurd h List.not_mem_nil
  | 2 => exact fun _ h => absurd h List.not_mem_nil
  | 3 => exact fun _ h => absurd h List.not_mem_nil
  | 4 => exact fun _ h => absurd h List.not_mem_nil
  | 5 => exact fun _ h => absurd h List.not_mem_nil
  | 6 => exact fun _ h => absurd h List.not_mem_nil
  | 7 => exact fun _ h => absurd h List.not_mem_nil
  | 8 => exact fun _ h => absurd h List.not_mem_nil
  | 9 => exact fun _ h => absurd h List.not_mem_nil
  | 10 => exact fun _ h => absurd h List.not_mem_nil
  | 11 => exact lnw_11
  | 12 => exact fun _ h => absurd h List.not_mem_nil
  | 13 => exact lnw_13
  | n + 14 => exact fun _ h => absurd h List.not_mem_nil
theorem km_lo_all (o : Nat) : ∀ e ∈ km_oi o, km_lo o e := by
  match o with
  | 0 => exact lo_0
  | 1 => exact lo_1
  | 2 => exact lo_2
  | 3 => exact lo_3
  | 4 => exact lo_4
  | 5 => exact lo_5
  | 6 => exact lo_6
  | 7 => exact lo_7
  | 8 => exact lo_8
  | 9 => exact lo_9
  | 10 => exact lo_10
  | 11 => exact lo_11
  | 12 => exact lo_12
  | n + 13 => exact fun _ h => absurd h List.not_mem_nil
theorem km_lp_all (o : Nat) : ∀ e ∈ km_opL o, km_lp o e := by
  match o with
  | 0 => exact lp_0
  | 1 => exact lp_1
  | 2 => exact fun _ h => absurd h List.not_mem_nil
  | 3 => exact lp_3
  | 4 => exact lp_4
  | 5 => exact fun _ h => absurd h List.not_mem_nil
  | 6 => exact fun _ h => absurd h List.not_mem_nil
  | 7 => exact lp_7
  | 8 => exact fun _ h => absurd h List.not_mem_nil
  | 9 => exact lp_9
  | 10 => exact lp_10
  | 11 => exact lp_11
  | n + 12 => exact fun _ h => absurd h List.not_mem_nil
theorem km_lm2_all (o : Nat) : ∀ e ∈ km_mi o, km_lm2 o e := by
  match o with
  | 0 => exact fun _ h => absurd h List.not_mem_nil
  | 1 => exact lm2_1
  | 2 => exact fun _ h => absurd h List.not_mem_nil
  | 3 => exact lm2_3
  | 4 => exact lm2_4
  | 5 => exact lm2_5
  | 6 => exact lm2_6
  | n + 7 => exact fun _ h => absurd h List.not_mem_nil
theorem km_uok {C : String} {T : u_T} {N : Nat} (h : ∀ w ∈ u_ws C T N, w ∈ lw_tbl) : ∀ w ∈ u_ws C T N, w ∈ km_gw := fun w hw => List.mem_filter.mpr ⟨h w hw, by
  obtain ⟨k, -, rfl⟩ := List.mem_map.mp hw
  unfold u_lay
  split <;> rfl⟩
def km_clsOk (ci : Nat) (q : vw_C) : Prop := (∀ w ∈ u_ws q.1 q.2.1 q.2.2, w ∈ km_gw) ∧ (km_ftL.getD ci []).length = q.2.2 ∧ (∀ a, a < q.2.2 → ∀ b, b < q.2.2 → a ≠ b → (q.2.1 a).2.1 ≠ (q.2.1 b).2.1) ∧ ∃ ty : Nat → FieldType, (∀ k, k < q.2.2 → parseFieldDescriptor (q.2.1 k).2.2.1 = some (ty k)) ∧
  (∀ k, k < q.2.2 → (km_ft ci k = 0 → ty k = .int) ∧ (km_ft ci k = 1 → ty k = .long) ∧ (km_ft ci k = 3 → ty k = .boolean) ∧ (km_ft ci k = 2 → (ty k).isReference = true))
theorem km_cls (ci : Nat) (q : vw_C) (h : vwCl[ci]? = some q) : km_clsOk ci q := by
  match ci, h with
  | 0, h => cases h; exact ⟨km_uok iX0, rfl, nmX0, tyX0, tyX0_ok, by decide +kernel⟩
  | 1, h => cases h; exact ⟨km_uok iX1, rfl, nmX1, tyX1, tyX1_ok, by decide +kernel⟩
  | 2, h => cases h; exact ⟨km_uok iX2, rfl, nmX2, tyX2, tyX2_ok, by decide +kernel⟩
  | 3, h => cases h; exact ⟨km_uok iX3, rfl, nmX3, tyX3, tyX3_ok, by decide +kernel⟩
  | 4, h => cases h; exact ⟨km_uok iX4, rfl, nmX4, tyX4, tyX4_ok, by decide +kernel⟩
  | 5, h => cases h; exact ⟨km_uok iX5, rfl, nmX5, tyX5, tyX5_ok, by decide +kernel⟩
  | 6, h => cases h; exact ⟨km_uok iX6, rfl, nmX6, tyX6, tyX6_ok, by decide +kernel⟩
  | 7, h => cases h; exact ⟨km_uok iX7, rfl, nmX7, tyX7, tyX7_ok, by decide +kernel⟩
  | 8, h => cases h; exact ⟨km_uok iX8, rfl, nmX8, tyX8, tyX8_ok, by decide +kernel⟩
  | 9, h => cases h; exact ⟨km_uok iX9, rfl, nmX9, tyX9, tyX9_ok, by decide +kernel⟩
  | 10, h => cases h; exact ⟨km_uok iX10, rfl, nmX10, tyX10, tyX10_ok, by decide +kernel⟩
  | 11, h => cases h; exact ⟨km_uok iX11, rfl, nmX11, tyX11, tyX11_ok, by decide +kernel⟩
  | 12, h => cases h; exact ⟨km_uok iX12, rfl, nmX12, tyX12, tyX12_ok, by decide +kernel⟩
  | n + 13, h => exact absurd h (by simp [vwCl])
theorem km_clsn (ci : Nat) (q : vw_C) (h : vwCl[ci]? = some q) : q.1 = km_cn ci := by
  match ci, h with
  | 0, h => cases h; rfl
  | 1, h => cases h; rfl
  | 2, h => cases h; rfl
  | 3, h => cases h; rfl
  | 4, h => cases h; rfl
  | 5, h => cases h; rfl
  | 6, h => cases h; rfl
  | 7, h => cases h; rfl
  | 8, h => cases h; rfl
  | 9, h => cases h; rfl
  | 10, h => cases h; rfl
  | 11, h => cases h; rfl
  | 12, h => cases h; rfl
  | n + 13, h => exact absurd h (by simp [vwCl])
theorem km_nar_ref {ty : FieldType} (h : ty.isReference = true) (a : Nat) : narrow ty (.ref a) = .ref a ∧ fits ty (.ref a) = true := by
  cases ty <;> first | exact ⟨rfl, rfl⟩ | cases h
theorem km_nar_bool {x : Int} (h0 : 0 ≤ x) (h1 : x ≤ 1) : narrow .boolean (.int (Int32.ofInt x)) = .int (Int32.ofInt x) ∧ fits .boolean (.int (Int32.ofInt x)) = true := by
  rcases (show x = 0 ∨ x = 1 by omega) with rfl | rfl <;> exact ⟨rfl, rfl⟩
section ROWS
variable {p : Program} {l : Launch} {e : Env} {R : Room} {s : State} {me : MethodId} {args : Array Value} {below : List Frame} {meth : Method} {c : Code} {w : km_Pr} {M : km_Md} {c0 s0 : Nat} {Q : State → Prop}
variable {i9 : Instr} {pc nx pc' : Nat} {ls ls' : km_Ls} {st st' : List km_V} {A A' : km_Al} {m m' : km_Mm}
theorem km_kd_ty {A : km_Al} {a : Int} {ci k : Nat} (h : km_kd A a = 10 + (ci : Int)) : km_ty A a k = km_ft ci k := by
  unfold km_ty
  rw [h, if_neg (by omega), if_pos (by omega), if_pos (by omega), show (10 + (ci : Int) - 10).toNat = ci by omega]
  rfl
theorem km_r_getf {k : Nat} (C : km_Cx p s me args meth c w M) (d : decode M.1 pc = .ok (.getfield k, 3)) (h : km_getf (km_fl M.2.1 k) (pc + 3) ls st A m = some (.inl (pc', ls', st', A', m')))
    (K : km_W p l e R s me args below meth c w M c0 s0 Q pc' ls' st' A' m') : km_W p l e R s me args below meth c w M c0 s0 Q pc ls st A m := by
  unfold km_getf at h
  split at h
  · next a r ci kk t fin hf =>
    split at h
    · next hg =>
      obtain ⟨g0, g1, g2⟩ := hg
      obtain ⟨rfl, rfl, rfl, rfl, rfl⟩ := km_nxe h
      obtain ⟨q, hq, hkq, hlink, hfin, hft, hcls, -⟩ := km_lf_all M.2.1 _ (km_find hf)
      obtain ⟨hin, hlen, hnm, ty, hty, hcode⟩ := km_cls ci q hq
      dsimp only at hq hkq hlink hfin hft hcls
      intro H locs lc h1 h2 h3 h4 h5 h6
      obtain ⟨-, v2⟩ := km_vos h2
      have hv : km_vo (km_tv t (m a kk) (km_rf A a kk)) := by
        unfold km_tv
        have h3a := h3.1 a kk
        rw [km_kd_ty g2, hft] at h3a
        split
        · exact h3a.1 (by assumption)
        · split
          · trivial
          · exact h3a.2 (by assumption)
      have K1 := K H locs lc h1 (km_voc hv v2) h3 h4 h5 h6
      have e1 : km_cv (km_ad w) (km_tv t (m a kk) (km_rf A a kk)) = km_fv (km_ad w) t (m a kk) (km_rf A a kk) := by
        unfold km_tv km_fv
        split
        · rfl
        · split <;> rfl
      rw [List.map_cons, e1] at K1
      rw [List.map_cons, km_rvne (by omega)]
      refine va_get (C := q.1) (T := q.2.1) (N := q.2.2) (ci := ci) C.1 C.2.1 C.2.2.2.2.1 hin C.2.2.2.1 C.2.2.2.2.2.2.2.1 h4 a.toNat (km_wd_at' w A m g0 g1 (km_en_o g2)) hq kk hkq (C.2.2.2.2.1 _ hlink) (fun x hx => hx) ?_ d K1
      rw [km_fs_at (by rw [hlen]; exact hkq), hft]
    · cases h
  · cases h
theorem km_putW {a : Int} {ci kk t k : Nat} {fin : Bool} (C : km_Cx p s me args meth c w M) (d : decode M.1 pc = .ok (.putfield k, 3)) (hf : km_fl M.2.1 k = some (ci, kk, t, fin)) (g0 : 0 ≤ a) (g1 : a < (A.1 : Int)) (g2 : km_kd A a = 10 + (ci : Int)) (g3 : fin = true → M.2.2.2.2.2.2.2 = 2 ∧ M.2.1 = ci)
    {vv : Value} (hn : ∀ ty : FieldType, (t = 0 → ty = .int) ∧ (t = 1 → ty = .long) ∧ (t = 3 → ty = .boolean) ∧ (t = 2 → ty.isReference = true) → narrow ty vv = vv ∧ fits ty vv = true)
    {H : Heap} {locs : List Loc} {lc : Array Slot} {q1 q2 : Nat} {r : List Value} (h4 : km_P w A m H) (h5 : va_S (km_A w) s.heap H locs)
    (K : ∀ (H1 : Heap) (locs1 : List Loc), H1.size = H.size → va_P (km_D w) vwCl ((km_wd w A m).set a.toNat (km_ad w a, .inr (ci, (km_fs (km_ad w) A m ci a).set kk vv))) H1 → va_S (km_A w) s.heap H1 locs1 → W p l e R s me args below meth c H1 locs1 q1 q2 Q (F0 me (pc + 3) lc r)) :
    W p l e R s me args below meth c H locs q1 q2 Q (F0 me pc lc (vv :: .ref (km_ad w a) :: r)) := by
  obtain ⟨q, hq, hkq, hlink, hfin, hft, hcls, hcn⟩ := km_lf_all M.2.1 _ (km_find hf)
  obtain ⟨hin, hlen, hnm, ty, hty, hcode⟩ := km_cls ci q hq
  dsimp only at hq hkq hlink hfin hft hcls hcn
  have hg := C.2.2.2.2.2.2.2.2.2.1
  have hts := C.2.2.2.2.1
  have hown := C.2.2.2.1
  have hc := hcode kk hkq
  rw [hft] at hc
  obtain ⟨n1, n2⟩ := hn _ hc
  have he := km_wd_at' w A m g0 g1 (km_en_o (w := w) (m := m) g2)
  have hap := va_apart (own := km_cn M.2.1) hts hin ty hty hnm C.2.2.2.2.2.2.2.1 hq
  obtain ⟨r9, h1, cell, c1, c2, c3, c4⟩ := h4 a.toNat _ he
  have hr : r9 = q := Option.some.inj (h1.symm.trans hq)
  subst hr
  obtain ⟨hS, hfc, kC, hkC, hkind⟩ := C.2.2.2.2.2.2.2.1.1 ci _ hq
  obtain ⟨cf, kf, fi, f, hi, hsl⟩ := hS kk hkq
  have hlay := hts _ (hin _ (u_in_lay hkq))
  have hst := (u_facts hfc hkC (u_lays hts hin hkq) hi).1
  have hD := km_wd_D hg A m
  have hlt : f.slot < cell.slots.size := by rw [hsl]; exact k2_hasslot (c4 kk hkq)
  have fin1 : ∀ (H' : Heap), H'[km_ad w a]? = some (cell.setSlot f.slot vv) → H'.size = H.size → (∀ q : Nat, q ≠ km_ad w a → H'[q]? = H[q]?) → W p l e R s me args below meth c H' (locs ++ [⟨km_ad w a, f.slot⟩]) q1 q2 Q (F0 me (pc + 3) lc r) := by
    intro H' e1 e2 e3
    rw [hsl] at e1
    refine K H' _ e2 (h4.set hD he ⟨_, hq, t_OB.to (V := updV (vp_V (km_fs (km_ad w) A m ci a)) kk vv) ⟨_, e1, c2, c3, t_set c4 hap hkq vv⟩ (fun j _ => vp_updV_set (by unfold km_fs; rw [List.length_mapIdx, hlen]; exact hkq) vv j)⟩ e3) (h5.put e2 e3 ?_)
    have := hg.1 a g0
    show km_bs w ≤ km_ad w a
    omega
  unfold u_lay at hlay
  by_cases hfb : fin = true
  · obtain ⟨b1, b2⟩ := g3 hfb
    rw [if_pos (by rw [hfin]; exact hfb)] at hlay
    have hcf : me.cls = cf := by
      obtain ⟨_, _, c', _, _, _, -, -, hf', -, -, -, hown2, -⟩ := Cond.laysFinal_spec hlay
      have e1 : c' = cf := by have := hi.symm.trans hf'; simp at this; exact this.1.symm
      rw [hcls, ← hcn, ← b2] at hown2
      rw [← e1]; exact Option.some.inj (hown.symm.trans hown2)
    have h6 := u_fits hfc hkC hkind (Or.inr hlay) hi (hty kk hkq) n1 n2
    exact W.putFinK C.1 C.2.1 hown (hts _ hlink) hi hst hcf (C.2.2.2.2.2.2.1 b1) (by rw [c2]; exact h6) c1 c3 hlt rfl rfl d fin1
  · rw [if_neg (by rw [hfin]; exact hfb)] at hlay
    have h6 := u_store hfc hkC hkind hlay hi (hty kk hkq) n1 n2
    exact W.putK C.1 C.2.1 (f := f) ⟨hown, hts _ hlink, ⟨_, _, _, hi⟩, hst⟩ (by rw [c2]; exact h6) c1 c3 hlt rfl rfl d fin1
theorem km_r_putf {k : Nat} (C : km_Cx p s me args meth c w M) (d : decode M.1 pc = .ok (.putfield k, 3)) (h : km_putf M.2.1 M.2.2.2.2.2.2.2 (km_fl M.2.1 k) (pc + 3) ls st A m = some (.inl (pc', ls', st', A', m')))
    (K : km_W p l e R s me args below meth c w M c0 s0 Q pc' ls' st' A' m') : km_W p l e R s me args below meth c w M c0 s0 Q pc ls st A m := by
  unfold km_putf at h
  split at h
  · next v a r ci kk t fin hf =>
    split at h
    · next hg =>
      obtain ⟨g0, g1, g2, g3⟩ := hg
      obtain ⟨q, hq, hkq, hlink, hfin, hft, hcls, hcn⟩ := km_lf_all M.2.1 _ (km_find hf)
      obtain ⟨hin, hlen, hnm, ty, hty, hcode⟩ := km_cls ci q hq
      dsimp only at hq hkq hlink hfin hft hcls hcn
      have hg := C.2.2.2.2.2.2.2.2.2.1
      have main : ∀ (A2 : km_Al) (m2 : km_Mm) (vv : Value), A2.1 = A.1 → A2.2.2.2.2 = A.2.2.2.2 → km_kd A2 = km_kd A → km_ln A2 = km_ln A → (∀ ty : FieldType, (t = 0 → ty = .int) ∧ (t = 1 → ty = .long) ∧ (t = 3 → ty = .boolean) ∧ (t = 2 → ty.isReference = true) → narrow ty vv = vv ∧ fits ty vv = true) → vv = km_fv (km_ad w) t (m2 a kk) (km_rf A2 a kk) →
          (∀ j : Nat, j ≠ kk → m2 a j = m a j ∧ km_rf A2 a j = km_rf A a j) → (∀ b : Int, b ≠ a → km_en w A2 m2 b = km_en w A m b) → (km_Rg w A m → km_Rg w A2 m2) →
          km_W p l e R s me args below meth c w M c0 s0 Q (pc + 3) ls r A2 m2 → ∀ (H : Heap) (locs : List Loc) (lc : Array Slot), km_lm (km_ad w) M.2.2.2.1 ls lc → (∀ v ∈ r, km_vo v) → km_Rg w A m → km_P w A m H → va_S (km_A w) s.heap H locs → (A.2.2.2.2.1 = A.1 → H.size = km_bs w + A.1) →
          W p l e R s me args below meth c H locs (A.2.2.2.2.1 - c0) (A.2.2.2.2.2 - s0) Q (F0 me pc lc (vv :: .ref (km_ad w a) :: r.map (km_cv (km_ad w)))) := by
        intro A2 m2 vv n1 n2 n3 n4 n5 n7 n8 n9 n10 K H locs lc h1 h2 h3 h4 h5 h6
        have e1 : (km_wd w A m).set a.toNat (km_ad w a, .inr (ci, (km_fs (km_ad w) A m ci a).set kk vv)) = km_wd w A2 m2 := by
          refine km_wd_set w A A2 m m2 g0 g1 n1 ?_ n9
          rw [km_en_o (ci := ci) (by rw [n3]; exact g2), km_fs_set (by rw [hlen]; exact hkq) (by rw [hft]; exact n7) n8]
        have key : ∀ (H1 : Heap) (locs1 : List Loc), H1.size = H.size → va_P (km_D w) vwCl ((km_wd w A m).set a.toNat (km_ad w a, .inr (ci, (km_fs (km_ad w) A m ci a).set kk vv))) H1 → va_S (km_A w) s.heap H1 locs1 → W p l e R s me args below meth c H1 locs1 (A.2.2.2.2.1 - c0) (A.2.2.2.2.2 - s0) Q (F0 me (pc + 3) lc (r.map (km_cv (km_ad w)))) := by
          intro H1 locs1 z1 hP1 hS1
          rw [e1] at hP1
          rw [← n2]
          exact K H1 locs1 lc h1 h2 (n10 h3) hP1 hS1 (fun q => by rw [z1, n1]; exact h6 (by rw [← n2, ← n1]; exact q))
        exact km_putW C d hf g0 g1 g2 g3 n5 h4 h5 key
      split at h
      · next x =>
        split at h
        · next ht =>
          obtain ⟨rfl, rfl, rfl, rfl, rfl⟩ := km_nxe h
          intro H locs lc h1 h2 h3 h4 h5 h6
          obtain ⟨v1, v2⟩ := km_vos h2
          obtain ⟨-, v3⟩ := km_vos v2
          rw [List.map_cons, List.map_cons, km_rvne (x := a) (by omega)]
          have htn : t ≠ 1 ∧ t ≠ 2 := by rcases ht with ht | ⟨ht, -, -⟩ <;> subst ht <;> decide
          have hnf : ∀ ty : FieldType, (t = 0 → ty = .int) ∧ (t = 1 → ty = .long) ∧ (t = 3 → ty = .boolean) ∧ (t = 2 → ty.isReference = true) → narrow ty (.int (Int32.ofInt x)) = .int (Int32.ofInt x) ∧ fits ty (.int (Int32.ofInt x)) = true := by
            intro ty hc
            rcases ht with ht | ⟨ht, x0, x1⟩
            · rw [hc.1 ht]; exact ⟨rfl, rfl⟩
            · rw [hc.2.2.1 ht]; exact km_nar_bool x0 x1
          refine main A (km_up m a kk x) (.int (Int32.ofInt x)) rfl rfl rfl rfl hnf ?_ (fun j hj => ⟨km_up_i (by omega), rfl⟩) (fun b hb => km_en_up hb) (fun hR => hR.up g0 ?_ (fun _ => v1)) K H locs lc h1 v3 h3 h4 h5 h6
          · unfold km_fv; rw [if_neg htn.1, if_neg htn.2, km_up_s]
          · rw [km_kd_ty g2, hft]; exact fun q => absurd q htn.1
        · cases h
      · next x =>
        split at h
        · next ht =>
          obtain ⟨rfl, rfl, rfl, rfl, rfl⟩ := km_nxe h
          intro H locs lc h1 h2 h3 h4 h5 h6
          obtain ⟨v1, v2⟩ := km_vos h2
          obtain ⟨-, v3⟩ := km_vos v2
          rw [List.map_cons, List.map_cons, km_rvne (x := a) (by omega)]
          have hnf : ∀ ty : FieldType, (t = 0 → ty = .int) ∧ (t = 1 → ty = .long) ∧ (t = 3 → ty = .boolean) ∧ (t = 2 → ty.isReference = true) → narrow ty (.long (Int64.ofInt x)) = .long (Int64.ofInt x) ∧ fits ty (.long (Int64.ofInt x)) = true := by
            intro ty hc
            rw [hc.2.1 ht]; exact ⟨rfl, rfl⟩
          refine main A (km_up m a kk x) (.long (Int64.ofInt x)) rfl rfl rfl rfl hnf ?_ (fun j hj => ⟨km_up_i (by omega), rfl⟩) (fun b hb => km_en_up hb) (fun hR => hR.up g0 (fun _ => v1) ?_) K H locs lc h1 v3 h3 h4 h5 h6
          · unfold km_fv; rw [if_pos ht, km_up_s]
          · rw [km_kd_ty g2, hft]; exact fun q => absurd ht q
        · cases h
      · next b =>
        split at h
        · next ht =>
          obtain ⟨ht, b0, b1⟩ := ht
          obtain ⟨rfl, rfl, rfl, rfl, rfl⟩ := km_nxe h
          intro H locs lc h1 h2 h3 h4 h5 h6
          obtain ⟨v1, v2⟩ := km_vos h2
          obtain ⟨-, v3⟩ := km_vos v2
          rw [List.map_cons, List.map_cons, km_rvne (x := a) (by omega), km_rvne (x := b) (by omega)]
          have hnf : ∀ ty : FieldType, (t = 0 → ty = .int) ∧ (t = 1 → ty = .long) ∧ (t = 3 → ty = .boolean) ∧ (t = 2 → ty.isReference = true) → narrow ty (.ref (km_ad w b)) = .ref (km_ad w b) ∧ fits ty (.ref (km_ad w b)) = true := fun ty hc => km_nar_ref (hc.2.2.2 ht) (km_ad w b)
          refine main (A.1, A.2.1, A.2.2.1, km_up A.2.2.2.1 a kk b, A.2.2.2.2) m (.ref (km_ad w b)) rfl rfl rfl rfl hnf ?_ (fun j hj => ⟨rfl, km_up_i (by omega)⟩) (fun b' hb => ?_) (fun hR => hR) K H locs lc h1 v3 h3 h4 h5 h6
          · unfold km_fv
            rw [if_neg (by omega), if_pos ht]
            show _ = km_rv _ (km_up A.2.2.2.1 a kk b a kk)
            rw [km_up_s]
            unfold km_rv
            rw [if_neg (by omega)]
          · have e : ∀ j : Int, km_rf (A.1, A.2.1, A.2.2.1, km_up A.2.2.2.1 a kk b, A.2.2.2.2) b' j = km_rf A b' j := fun j => km_up_a hb
            unfold km_en km_fs
            simp only [e]
            rfl
        · cases h
    · cases h
  · cases h
theorem km_tyO {A : km_Al} {a i : Int} {k : Int} (h : km_kd A a = k) (hk : k < 10) (h1 : k ≠ 1) : km_ty A a i ≠ 1 := by
  unfold km_ty
  rw [h, if_neg h1, if_neg (by omega)]
  decide
theorem km_ty1 {A : km_Al} {a i : Int} (h : km_kd A a = 1) : km_ty A a i = 1 := by
  unfold km_ty
  rw [h, if_pos rfl]
theorem km_r_ald {t : Int} (ht : t = 0 ∧ i9 = Instr.iaload ∨ t = 1 ∧ i9 = Instr.laload ∨ t = 2 ∧ i9 = Instr.baload ∨ t = 3 ∧ i9 = Instr.aaload) (C : km_Cx p s me args meth c w M) (d : decode M.1 pc = .ok (i9, 1)) (h : km_ald t (pc + 1) ls st A m = some (.inl (pc', ls', st', A', m')))
    (K : km_W p l e R s me args below meth c w M c0 s0 Q pc' ls' st' A' m') : km_W p l e R s me args below meth c w M c0 s0 Q pc ls st A m := by
  unfold km_ald at h
  split at h
  · next i a r =>
    split at h
    · next hg =>
      obtain ⟨g0, g1, g2, g3, g4⟩ := hg
      obtain ⟨rfl, rfl, rfl, rfl, rfl⟩ := km_nxe h
      intro H locs lc h1 h2 h3 h4 h5 h6
      obtain ⟨-, v2⟩ := km_vos h2
      obtain ⟨-, v3⟩ := km_vos v2
      have hl := h3.2.1 a
      have hin : vp_in (Int32.ofInt i) (km_ln A a).toNat := km_vin g3 (by omega) (by omega)
      have hcl : ((Int32.ofInt i).toNatClampNeg : Int) = i := by rw [km_clamp g3 (by omega)]; omega
      rw [List.map_cons, List.map_cons, km_rvne (x := a) (by omega)]
      have hK := C.2.2.2.2.2.2.2.1
      rcases ht with ⟨ht, rfl⟩ | ⟨ht, rfl⟩ | ⟨ht, rfl⟩ | ⟨ht, rfl⟩ <;> subst ht
      · have K1 := K H locs lc h1 (km_voc (v := .inl (m a i)) ((h3.1 a i).2 (km_tyO g2 (by omega) (by omega))) v3) h3 h4 h5 h6
        exact va_iald C.1 C.2.1 hK h4 a.toNat 0 (km_wd_at' w A m g0 g1 (km_en_0 g2)) rfl hin d (by simp only [hcl]; exact K1)
      · have K1 := K H locs lc h1 (km_voc (v := .inr (.inl (m a i))) ((h3.1 a i).1 (km_ty1 g2)) v3) h3 h4 h5 h6
        exact va_lald C.1 C.2.1 hK h4 a.toNat 1 (km_wd_at' w A m g0 g1 (km_en_1 g2)) rfl hin d (by simp only [hcl]; exact K1)
      · have K1 := K H locs lc h1 (km_voc (v := .inl (m a i)) ((h3.1 a i).2 (km_tyO g2 (by omega) (by omega))) v3) h3 h4 h5 h6
        exact va_zald C.1 C.2.1 hK h4 a.toNat 2 (km_wd_at' w A m g0 g1 (km_en_2 g2)) rfl hin d (by simp only [hcl]; exact K1)
      · have K1 := K H locs lc h1 (km_voc (v := .inr (.inr (km_rf A a i))) trivial v3) h3 h4 h5 h6
        have hlt : (Int32.ofInt i).toNatClampNeg < (km_ln A a).toNat := Nat.not_le.mp fun q => hin (Or.inr q)
        refine W.aald (v := km_cv (km_ad w) (.inr (.inr (km_rf A a i)))) (ty := .array .int) C.1 C.2.1 (h4 a.toNat _ (km_wd_at' w A m g0 g1 (km_en_3 g2))) ((hK.2 3 _ rfl).1 (km_ln A a).toNat _) rfl (fun q => by cases q) (by show ¬ (_ ∨ (arrV _ _ _).slots.size ≤ _); rw [arrV_size]; exact hin) ?_ rfl rfl d K1
        show (arrV _ _ _).slots[_]? = _
        rw [arrV_read _ _ hlt]
        simp only [hcl]
        congr 1
        show va_rf _ = km_rv _ _
        unfold km_rv
        split <;> rfl
    · cases h
  · cases h
theorem km_r_sld (C : km_Cx p s me args meth c w M) (d : decode M.1 pc = .ok (.iaload, 1)) (h : km_sld (pc + 1) ls st A m = some (.inl (pc', ls', st', A', m')))
    (K : km_W p l e R s me args below meth c w M c0 s0 Q pc' ls' st' A' m') : km_W p l e R s me args below meth c w M c0 s0 Q pc ls st A m := by
  unfold km_sld at h
  split at h
  · next i a r =>
    split at h
    · next ha =>
      subst ha
      split at h
      · next hg =>
        obtain ⟨g3, g4⟩ := hg
        obtain ⟨rfl, rfl, rfl, rfl, rfl⟩ := km_nxe h
        intro H locs lc h1 h2 h3 h4 h5 h6
        obtain ⟨-, v2⟩ := km_vos h2
        obtain ⟨-, v3⟩ := km_vos v2
        have hg := C.2.2.2.2.2.2.2.2.2.1
        have hL := hg.2.2.1
        have hb := hg.2.1
        have e1 := h3.2.2.1
        have hin : vp_in (Int32.ofInt i) (km_L w) := km_vin g3 (by omega) (by omega)
        have hcl : ((Int32.ofInt i).toNatClampNeg : Int) = i := by rw [km_clamp g3 (by omega)]; omega
        have hlt : (Int32.ofInt i).toNatClampNeg < km_L w := Nat.not_le.mp fun q => hin (Or.inr q)
        have e2 := h3.2.2.2 _ hlt
        rw [hcl] at e2
        have K1 := K H locs lc h1 (km_voc (v := .inl (m (-2) i)) (by rw [e2]; exact km_rng _) v3) h3 h4 h5 h6
        rw [List.map_cons, List.map_cons, km_rvne (x := -2) (by omega)]
        refine va_sld (A := km_A w) C.1 C.2.1 C.2.2.2.2.2.2.2.2.1.1 (by have := C.2.2.2.2.2.2.2.2.2.2; omega) (by show ¬ km_bs w ≤ km_ad w (-2); omega) h5 hin d ?_
        rw [List.map_cons] at K1
        have e3 : km_cv (km_ad w) (.inl (m (-2) i)) = .int (km_xs w (Int32.ofInt i).toNatClampNeg) := by
          show Value.int _ = _
          rw [e2, km_back]
        rw [e3] at K1
        exact K1
      · cases h
    · exact km_r_ald (Or.inl ⟨rfl, rfl⟩) C d h K
  · cases h
theorem km_r_alen (C : km_Cx p s me args meth c w M) (d : decode M.1 pc = .ok (.arraylength, 1)) (h : km_alen (pc + 1) ls st A m = some (.inl (pc', ls', st', A', m')))
    (K : km_W p l e R s me args below meth c w M c0 s0 Q pc' ls' st' A' m') : km_W p l e R s me args below meth c w M c0 s0 Q pc ls st A m := by
  unfold km_alen at h
  split at h
  · next a r =>
    split at h
    · next ha =>
      subst ha
      obtain ⟨rfl, rfl, rfl, rfl, rfl⟩ := km_nxe h
      intro H locs lc h1 h2 h3 h4 h5 h6
      obtain ⟨-, v2⟩ := km_vos h2
      have hg := C.2.2.2.2.2.2.2.2.2.1
      have hb := hg.2.1
      have hl := h3.2.1 (-2)
      have K1 := K H locs lc h1 (km_voc (v := .inl (km_ln A (-2))) (by constructor <;> omega) v2) h3 h4 h5 h6
      rw [List.map_cons, km_rvne (x := -2) (by omega)]
      refine va_slen (A := km_A w) C.1 C.2.1 C.2.2.2.2.2.2.2.2.1.1 (by have := C.2.2.2.2.2.2.2.2.2.2; omega) (by show ¬ km_bs w ≤ km_ad w (-2); omega) h5 d ?_
      rw [List.map_cons] at K1
      have e3 : km_cv (km_ad w) (.inl (km_ln A (-2))) = .int (Int32.ofNat (km_L w)) := by
        show Value.int _ = _
        rw [h3.2.2.1]
        rfl
      rw [e3] at K1
      exact K1
    · split at h
      · next hg =>
        obtain ⟨g0, g1, g2, g3⟩ := hg
        obtain ⟨rfl, rfl, rfl, rfl, rfl⟩ := km_nxe h
        intro H locs lc h1 h2 h3 h4 h5 h6
        obtain ⟨-, v2⟩ := km_vos h2
        have hl := h3.2.1 a
        have K1 := K H locs lc h1 (km_voc (v := .inl (km_ln A a)) (by constructor <;> omega) v2) h3 h4 h5 h6
        rw [List.map_cons, km_rvne (x := a) (by omega)]
        have hK := C.2.2.2.2.2.2.2.1
        have e4 : Int32.ofNat (km_ln A a).toNat = Int32.ofInt (km_ln A a) := by
          rw [show km_ln A a = (((km_ln A a).toNat : Nat) : Int) by omega]
          rfl
        rcases (show km_kd A a = 0 ∨ km_kd A a = 1 ∨ km_kd A a = 2 ∨ km_kd A a = 3 by omega) with g | g | g | g
        · exact va_alen C.1 C.2.1 hK h4 a.toNat 0 (km_wd_at' w A m g0 g1 (km_en_0 g)) rfl e4 d K1
        · exact va_alen C.1 C.2.1 hK h4 a.toNat 1 (km_wd_at' w A m g0 g1 (km_en_1 g)) rfl e4 d K1
        · exact va_alen C.1 C.2.1 hK h4 a.toNat 2 (km_wd_at' w A m g0 g1 (km_en_2 g)) rfl e4 d K1
        · exact va_alen C.1 C.2.1 hK h4 a.toNat 3 (km_wd_at' w A m g0 g1 (km_en_3 g)) rfl e4 d K1
      · cases h
  · cases h
/-- behind a store into the array a -/
theorem km_arr_set {a i v : Int} {ee : va_E} (C : km_Cx p s me args meth c w M) (g0 : 0 ≤ a) (g1 : a < (A.1 : Int)) {e0 : va_E} (he0 : km_en w A m a = e0) (he : km_en w A (km_up m a i v) a = ee) {H H1 : Heap} {locs : List Loc} {k : Nat} (h4 : km_P w A m H) (h5 : va_S (km_A w) s.heap H locs)
    (e1 : va_at (km_D w) vwCl (km_ad w a, ee) H1) (z : H1.size = H.size) (oq : ∀ q : Nat, q ≠ km_ad w a → H1[q]? = H[q]?) : km_P w A (km_up m a i v) H1 ∧ va_S (km_A w) s.heap H1 (locs ++ [⟨km_ad w a, k⟩]) := by
  have hg := C.2.2.2.2.2.2.2.2.2.1
  refine ⟨?_, h5.put z oq ?_⟩
  · have h := h4.set (km_wd_D hg A m) (km_wd_at' w A m g0 g1 he0) e1 oq
    rw [km_wd_set w A A m (km_up m a i v) g0 g1 rfl he (fun b hb => km_en_up hb)] at h
    exact h
  · have := hg.1 a g0
    show km_bs w ≤ km_ad w a
    omega
theorem km_r_ast {t : Int} (ht : t = 0 ∧ i9 = Instr.iastore ∨ t = 1 ∧ i9 = Instr.lastore ∨ t = 2 ∧ i9 = Instr.bastore) (C : km_Cx p s me args meth c w M) (d : decode M.1 pc = .ok (i9, 1)) (h : km_ast t (pc + 1) ls st A m = some (.inl (pc', ls', st', A', m')))
    (K : km_W p l e R s me args below meth c w M c0 s0 Q pc' ls' st' A' m') : km_W p l e R s me args below meth c w M c0 s0 Q pc ls st A m := by
  have hK := C.2.2.2.2.2.2.2.1
  unfold km_ast at h
  split at h
  · next x i a r =>
    split at h
    · next hg =>
      obtain ⟨g0, g1, g2, g3, g4, g5⟩ := hg
      obtain ⟨rfl, rfl, rfl, rfl, rfl⟩ := km_nxe h
      intro H locs lc h1 h2 h3 h4 h5 h6
      obtain ⟨v1, v2⟩ := km_vos h2
      obtain ⟨-, v3⟩ := km_vos v2
      obtain ⟨-, v4⟩ := km_vos v3
      have hl := h3.2.1 a
      have hin : vp_in (Int32.ofInt i) (km_ln A a).toNat := km_vin g3 (by omega) (by omega)
      have hcl : (Int32.ofInt i).toNatClampNeg = i.toNat := km_clamp g3 (by omega)
      rw [List.map_cons, List.map_cons, List.map_cons, km_rvne (x := a) (by omega)]
      have hR : km_Rg w A (km_up m a i x) := h3.up g0 (fun q => absurd q (by rcases g5 with g5 | ⟨g5, -, -⟩ <;> subst g5 <;> exact km_tyO g2 (by omega) (by omega))) (fun _ => v1)
      have ef : (fun j : Nat => Value.int (Int32.ofInt (km_up m a i x a j))) = updV (fun j : Nat => Value.int (Int32.ofInt (m a j))) i.toNat (.int (Int32.ofInt x)) := by
        funext j
        unfold updV
        by_cases hj : j = i.toNat
        · rw [if_pos hj, show (j : Int) = i by omega, km_up_s]
        · rw [if_neg hj, km_up_i (by omega)]
      rcases ht with ⟨ht, rfl⟩ | ⟨ht, rfl⟩ | ⟨ht, rfl⟩ <;> subst ht
      · refine W.iast C.1 C.2.1 (h4 a.toNat _ (km_wd_at' w A m g0 g1 (km_en_0 g2))) ((hK.2 0 _ rfl).1 (km_ln A a).toNat (fun j => .int (Int32.ofInt (m a j)))) (fun q => by cases q) (by show ¬ (_ ∨ (arrV _ _ _).slots.size ≤ _); rw [arrV_size]; exact hin) rfl rfl d fun H1 e1 z oq => ?_
        obtain ⟨hP1, hS1⟩ := km_arr_set (i := i) (v := x) (k := (Int32.ofInt i).toNatClampNeg) C g0 g1 (km_en_0 g2) (km_en_0 g2) h4 h5 (by show H1[_]? = some (vp_cell _ _); rw [e1, vp_cell_i, vp_cell_i, arrV_store, ef, hcl]) z oq
        exact K H1 _ lc h1 v4 hR hP1 hS1 (fun q => by rw [z]; exact h6 q)
      · rcases g5 with g5 | ⟨g5, -, -⟩ <;> cases g5
      · have hx : narrow .boolean (.int (Int32.ofInt x)) = .int (Int32.ofInt x) := by rcases g5 with g5 | ⟨-, b0, b1⟩; cases g5; exact (km_nar_bool b0 b1).1
        refine W.zast C.1 C.2.1 (h4 a.toNat _ (km_wd_at' w A m g0 g1 (km_en_2 g2))) ((hK.2 2 _ rfl).1 (km_ln A a).toNat (fun j => .int (Int32.ofInt (m a j)))) (fun q => by cases q) (by show ¬ (_ ∨ (arrV _ _ _).slots.size ≤ _); rw [arrV_size]; exact hin) rfl rfl d fun H1 e1 z oq => ?_
        obtain ⟨hP1, hS1⟩ := km_arr_set (i := i) (v := x) (k := (Int32.ofInt i).toNatClampNeg) C g0 g1 (km_en_2 g2) (km_en_2 g2) h4 h5 (by show H1[_]? = some (vp_cell _ _); rw [e1, vp_cell_i, vp_cell_i, arrV_store, ef, hcl, hx]) z oq
        exact K H1 _ lc h1 v4 hR hP1 hS1 (fun q => by rw [z]; exact h6 q)
    · cases h
  · next x i a r =>
    split at h
    · next hg =>
      obtain ⟨g0, g1, g2, g3, g4, g5⟩ := hg
      obtain ⟨rfl, rfl, rfl, rfl, rfl⟩ := km_nxe h
      intro H locs lc h1 h2 h3 h4 h5 h6
      obtain ⟨v1, v2⟩ := km_vos h2
      obtain ⟨-, v3⟩ := km_vos v2
      obtain ⟨-, v4⟩ := km_vos v3
      subst g5
      have hl := h3.2.1 a
      have hin : vp_in (Int32.ofInt i) (km_ln A a).toNat := km_vin g3 (by omega) (by omega)
      have hcl : (Int32.ofInt i).toNatClampNeg = i.toNat := km_clamp g3 (by omega)
      rw [List.map_cons, List.map_cons, List.map_cons, km_rvne (x := a) (by omega)]
      have hR : km_Rg w A (km_up m a i x) := h3.up g0 (fun _ => v1) (fun q => absurd (km_ty1 g2) q)
      have ef : (fun j : Nat => Value.long (Int64.ofInt (km_up m a i x a j))) = updV (fun j : Nat => Value.long (Int64.ofInt (m a j))) i.toNat (.long (Int64.ofInt x)) := by
        funext j
        unfold updV
        by_cases hj : j = i.toNat
        · rw [if_pos hj, show (j : Int) = i by omega, km_up_s]
        · rw [if_neg hj, km_up_i (by omega)]
      rcases ht with ⟨ht, rfl⟩ | ⟨ht, rfl⟩ | ⟨ht, rfl⟩
      · cases ht
      · refine W.last C.1 C.2.1 (h4 a.toNat _ (km_wd_at' w A m g0 g1 (km_en_1 g2))) ((hK.2 1 _ rfl).1 (km_ln A a).toNat (fun j => .long (Int64.ofInt (m a j)))) (fun q => by cases q) (by show ¬ (_ ∨ (arrV _ _ _).slots.size ≤ _); rw [arrV_size]; exact hin) rfl rfl d fun H1 e1 z oq => ?_
        obtain ⟨hP1, hS1⟩ := km_arr_set (i := i) (v := x) (k := (Int32.ofInt i).toNatClampNeg) C g0 g1 (km_en_1 g2) (km_en_1 g2) h4 h5 (by show H1[_]? = some (vp_cell _ _); rw [e1, vp_cell_l, vp_cell_l, arrV_store, ef, hcl]) z oq
        exact K H1 _ lc h1 v4 hR hP1 hS1 (fun q => by rw [z]; exact h6 q)
      · cases ht
    · cases h
  · cases h
end ROWS

