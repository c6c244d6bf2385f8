/-! ===== KinMeetLaw.branch, all three ways; the law's call of it ===== -/
theorem kz_LB {l : Launch} {s0 : State} {w : km_Pr} {args0 : Array Value} {sa sb : Nat} (hl : l.stackTraces = false) (hw : km_E2 w = kz_E s0) (hbs : km_bs w = s0.heap.size) (hT : kz_T s0) (hts0 : ∀ w ∈ lw_tbl, w.before args0 s0 = true) (hR5 : vk_R RX11 377 "no such branch" sa s0) (hR6 : vk_R RX11 384 "no such what" sb s0) (hnc : va_Nc kz_N kz_I s0)
    (hg : km_gd w) (hq : km_Qx w) (hI : km_In9 l w) (hSx : km_Sx l w) {n : Nat} {as : List km_V} {A A1 : km_Al} {m m1 : km_Mm} {v : Option km_V} (h : km_lb n as A m = some (v, A1, m1)) (h9 : A.1 ≤ A.2.2.2.2.1) :
    Met l yL_branch (Cond.codeWith yL_branch cL_branch 5 (some .int) kz_hh :: km_gw) (km_rm M_L_branch (A1.2.2.2.2.1 - A.2.2.2.2.1) (A1.2.2.2.2.2 - A.2.2.2.2.2)) (va_Pc (as.map (km_cv (km_ad w))) (km_Bs w as A m)) (km_Qm w v A1 m1) (A1.2.2.2.2.1 - A.2.2.2.2.1) (A1.2.2.2.2.2 - A.2.2.2.2.2) (km_A w) := by
  unfold km_lb at h
  split at h
  · next a x y b =>
    split at h
    · next g =>
      obtain ⟨ga, gb0, gb1, gb2, gb3⟩ := g
      have e1 : (km_ex1 A).2.2.2.2.1 - A.2.2.2.2.1 = 1 := by show A.2.2.2.2.1 + 1 - A.2.2.2.2.1 = 1; omega
      have e2 : (km_ex1 A).2.2.2.2.2 - A.2.2.2.2.2 = 6 := by show A.2.2.2.2.2 + 6 - A.2.2.2.2.2 = 6; omega
      split at h
      · next g1 =>
        cases h
        rw [e1, e2]
        refine kz_LBof (by show 4 ≤ 5; omega) hg 1 6 (fun p e s me args below meth c C hr ht => ?_)
        refine kz_LB5 hq hSx C ga.1 gb0 ?_
        refine kz_ex5 (E := kz_I) (k := 1) (hp := 13) C hr h9 ga ⟨by decide, by decide⟩ (kz_thrI hl hw hbs hT hts0 hR5 hg hq hSx g1) (fun H locs Q lc rest ce q c1 c2 c3 k9 => ?_) (by decide +kernel) (by decide +kernel) (by decide +kernel)
        exact vx_catch (own := RL) (name := kz_I) (E := kz_I) C.2.2.2.1 [] ⟨0, 10, 13, 13⟩ [⟨0, 10, 17, 15⟩] ht (fun z hz => by cases hz) (by decide) (by decide) (C.2.2.2.2.1 _ (km_in7 22 rfl rfl)) (kz_upw rfl (kz_cE hw C) (hts0 _ (km_sg7 _ (List.mem_of_getElem? (i := 30) rfl)))) c1 c2 c3 k9
      · next g1 =>
        split at h
        · next g2 =>
          cases h
          rw [e1, e2]
          refine kz_LBof (by show 4 ≤ 5; omega) hg 1 6 (fun p e s me args below meth c C hr ht => ?_)
          refine kz_LB5 hq hSx C ga.1 gb0 ?_
          refine kz_ex5 (E := kz_N) (k := 2) (hp := 17) C hr h9 ga ⟨by decide, by decide⟩ (kz_thrN hl hw hbs hT hts0 hR6 hg hq hSx g1 g2) (fun H locs Q lc rest ce q c1 c2 c3 k9 => ?_) (by decide +kernel) (by decide +kernel) (by decide +kernel)
          exact vx_catch (own := RL) (name := kz_N) (E := kz_N) C.2.2.2.1 [⟨0, 10, 13, 13⟩] ⟨0, 10, 17, 15⟩ [] ht (fun z hz => by
              rw [List.mem_singleton.mp hz]
              exact Or.inr ⟨by decide, kz_I, C.2.2.2.2.1 _ (km_in7 22 rfl rfl), hnc.moved (kz_cE hw C).1.alike⟩) (by decide) (by decide) (C.2.2.2.2.1 _ (km_in7 23 rfl rfl)) (kz_upw rfl (kz_cE hw C) (hts0 _ (km_sg7 _ (List.mem_of_getElem? (i := 96) rfl)))) c1 c2 c3 k9
        · next g2 =>
          split at h
          · next v1 A' m' hrun =>
            split at h
            · next g3 =>
              cases h
              refine kz_LBof (by show 4 ≤ 5; omega) hg _ _ (fun p e s me args below meth c C hr ht => ?_)
              refine kz_LB5 hq hSx C ga.1 gb0 ?_
              have hmo := km_run_mono n _ _ _ _ _ _ _ _ _ hrun
              have hM : km_Met l w M_X11_branch [.inr (.inr a), .inl x, .inl y] A m (some (.inl v1)) A1 m' := km_met ok_X11_branch (Nat.le_refl 3) hg hq hmo (fun p' e' R' s' me' args' below' meth' c' Q' C' hRm' hR' hret' => km_sound9 hq hg hI hSx n M_X11_branch 0 _ [] A m _ A1 m' hrun p' e' R' s' me' args' below' meth' c' _ _ Q' C' hRm' ⟨Nat.le_refl _, Nat.le_refl _⟩ hR' hret')
              have hcall : km_call (some (M_X11_branch, false)) 0 (5 + 3) [.inl y, .inl x, .inr (.inr a), .inl 0, .inr (.inr b)] A M_L_branch.2.2.2.2.2.1 = some (.inr (.inl (M_X11_branch, [.inr (.inr a), .inl x, .inl y], 8, [.inl 0, .inr (.inr b)]))) := by
                have hok : km_callOk M_X11_branch 0 M_L_branch.2.2.2.2.2.1 A [.inl y, .inl x, .inr (.inr a), .inl 0, .inr (.inr b)] = true := by
                  unfold km_callOk
                  simp only [Bool.and_eq_true, Bool.or_eq_true, decide_eq_true_eq]
                  refine ⟨⟨by show 3 ≤ 5; omega, by decide, by decide, by show 1 + (1 + 0) ≤ 8; omega, by show 3 ≤ 3; omega⟩, Or.inr ?_⟩
                  show decide (0 ≤ a ∧ a < (A.1 : Int) ∧ km_kd A a = 10 + ((11 : Nat) : Int)) = true
                  exact decide_eq_true ⟨ga.1, ga.2.1, by rw [ga.2.2]; rfl⟩
                unfold km_call
                dsimp only
                rw [if_pos hok]
                rfl
              refine km_r_call (n := 3) (k := 7) (kind := 0) (M1 := M_X11_branch) (as := [.inr (.inr a), .inl x, .inl y]) (rest := [.inl 0, .inr (.inr b)]) (nx := 8) (x := some (.inl v1)) (nest := false) rfl (Or.inl ⟨rfl, by decide +kernel⟩) kz_mt7 hcall (by decide) hq C ⟨Nat.le_refl _, Nat.le_refl _⟩ ⟨Nat.le_refl _, Nat.le_refl _⟩ hmo ⟨Nat.le_refl _, Nat.le_refl _⟩ hM ?_
              have S : ∀ {Q : State → Prop} {pc pc' : Nat} {ls : km_Ls} {st st' : List km_V} {k k' : km_Mm}, km_step M_L_branch pc ls st A1 k = some (.inl (pc', ls, st', A1, k')) → km_W p l e (km_rm M_L_branch (A1.2.2.2.2.1 - A.2.2.2.2.1) (A1.2.2.2.2.2 - A.2.2.2.2.2)) s me args below meth c w M_L_branch A.2.2.2.2.1 A.2.2.2.2.2 Q pc' ls st' A1 k' → km_W p l e (km_rm M_L_branch (A1.2.2.2.2.1 - A.2.2.2.2.1) (A1.2.2.2.2.2 - A.2.2.2.2.2)) s me args below meth c w M_L_branch A.2.2.2.2.1 A.2.2.2.2.2 Q pc ls st A1 k := fun h K => km_stepW h hq hSx C ⟨Nat.le_refl _, Nat.le_refl _⟩ hmo ⟨Nat.le_refl _, Nat.le_refl _⟩ K
              have hc1 : 0 ≤ b ∧ b < (A1.1 : Int) ∧ km_kd A1 b = 1 ∧ 0 < km_ln A1 b := ⟨gb0, g3.1, g3.2.1, g3.2.2⟩
              refine S (pc' := 9) (st' := [.inr (.inl v1), .inl 0, .inr (.inr b)]) (k' := m') (km_stepE (i := .i2l) (k := 1) (by decide +kernel) (by decide) rfl) ?_
              refine S (pc' := 10) (st' := []) (k' := km_up m' b 0 v1) (km_stepE (i := .lastore) (k := 1) (by decide +kernel) (by decide) (by
                simp only [km_ex, km_ast]
                rw [if_pos ⟨hc1.1, hc1.2.1, hc1.2.2.1, by decide, hc1.2.2.2, trivial⟩]
                rfl)) ?_
              refine S (pc' := 21) (st' := []) (k' := km_up m' b 0 v1) (km_stepE (i := .goto 11) (k := 3) (by decide +kernel) (by decide) (by simp [km_ex, km_jp])) ?_
              refine S (pc' := 22) (st' := [.inl 0]) (k' := km_up m' b 0 v1) (km_stepE (i := .iconst 0) (k := 1) (by decide +kernel) (by decide) rfl) ?_
              exact km_retW (x := some (.inl 0)) (km_stepE (i := .ireturn) (k := 1) (by decide +kernel) (by decide) (by simp [km_ex, km_ret, M_L_branch])) C hr
            · cases h
          · cases h
    · cases h
  · cases h
theorem kz_Bx {l : Launch} {s0 : State} {w : km_Pr} {args0 : Array Value} {sa sb : Nat} (hl : l.stackTraces = false) (hw : km_E2 w = kz_E s0) (hbs : km_bs w = s0.heap.size) (hT : kz_T s0) (hts0 : ∀ w ∈ lw_tbl, w.before args0 s0 = true) (hR5 : vk_R RX11 377 "no such branch" sa s0) (hR6 : vk_R RX11 384 "no such what" sb s0) (hnc : va_Nc kz_N kz_I s0)
    (hg : km_gd w) (hq : km_Qx w) (hI : km_In9 l w) (hSx : km_Sx l w) : km_Bx l w := by
  intro p e R s me args below meth c c0 s1 Q n pc ls as rest v A A1 m m1 hd h9 hcat has h C hRm hc hR K
  have hMet := kz_LB hl hw hbs hT hts0 hR5 hR6 hnc hg hq hI hSx h h9
  have hmo := km_mo_lb h
  have hts := C.2.2.2.2.1
  obtain ⟨a1, a2⟩ := hRm
  have a1' : 13 ≤ R.frames := a1
  have a2' : 40 * 13 ≤ R.locals := a2
  intro H locs lc h1 h2 h3 h4 h5 h6
  have hva : ∀ v ∈ as, km_vo v := fun v hv => h2 v (List.mem_append_left _ (List.mem_reverse.mpr hv))
  have hvr : ∀ v ∈ rest, km_vo v := fun v hv => h2 v (List.mem_append_right _ hv)
  have e1 : A.2.2.2.2.1 - c0 + (A1.2.2.2.2.1 - A.2.2.2.2.1) = A1.2.2.2.2.1 - c0 := by have := hmo.1; omega
  have e2 : A.2.2.2.2.2 - s1 + (A1.2.2.2.2.2 - A.2.2.2.2.2) = A1.2.2.2.2.2 - s1 := by have := hmo.2; omega
  have hcell : A.2.2.2.2.1 - c0 + (A1.2.2.2.2.1 - A.2.2.2.2.1) ≤ R.cells ∧ A.2.2.2.2.2 - s1 + (A1.2.2.2.2.2 - A.2.2.2.2.2) ≤ R.slots := by rw [e1, e2]; exact hR
  have hfix : CallFix p me c M_L_law.1 M_L_law.2.2.2.1 s args km_gw (km_cn M_L_law.2.1) := ⟨C.1, C.2.1, C.2.2.1, C.2.2.2.1, hts⟩
  have hr := vx_runSW (As := as.map (km_cv (km_ad w))) (rest := rest.map (km_cv (km_ad w))) (g := F0 me pc lc ((as.reverse ++ rest).map (km_cv (km_ad w)))) (H := H) (locs := locs) (cells := A.2.2.2.2.1 - c0) (slots := A.2.2.2.2.2 - s1) (p := p) (e := e) (R := R) (below := below) (meth := meth) hfix hMet (vx_cwSW (ws' := km_gw) 4 hts (km_gdIn _ (fun z hz => by
      unfold va_wsS at hz
      rcases List.mem_append.mp hz with hz | hz
      · simp only [List.mem_cons, List.not_mem_nil, or_false] at hz
        rcases hz with rfl | rfl | rfl
        · exact km_in7 19 rfl rfl
        · exact km_in7 20 rfl rfl
        · exact km_in1 0 rfl rfl
      · rcases List.mem_cons.mp hz with rfl | hz
        · exact kz_cw
        · exact hz)) rfl rfl rfl ⟨by decide, by decide, by decide +kernel⟩ ⟨by show 8 + 1 ≤ R.frames; omega, by show 8 + (5 + 11) + 40 * 8 ≤ R.locals; omega⟩) ⟨km_Bs.blind hg, fun U hU hW => ⟨rfl, km_start C hva h3 h4 h5 h6 U hU hW⟩⟩ rfl (by rw [List.length_map]; exact has) h1.2.1.1 (by
      show (as.reverse ++ rest).map (km_cv (km_ad w)) = _
      rw [List.map_append, List.map_reverse]) (by
      rw [km_cats]
      show 2 * 0 + _ ≤ 8
      omega) hd hcell
  refine km_callg hr h5 (fun t H1 locs1 ht hqs hS1 => ?_)
  obtain ⟨y1, y2, y3, y4⟩ := hqs
  subst ht
  have K1 := K t.heap locs1 lc h1 (fun u hu => by
    rcases List.mem_append.mp hu with hu | hu
    · cases v with
      | none => cases hu
      | some v1 =>
        rw [List.mem_singleton.mp hu]
        exact y1 v1 rfl
    · exact hvr u hu) y2 y3 hS1 y4
  rw [e1, e2]
  rw [List.map_append] at K1
  cases v with
  | none => exact K1
  | some v1 => exact K1
