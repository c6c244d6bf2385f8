/-! ===== the house: choose, arrange ===== -/
theorem cl_choose6 {q : Nat × Int × Int × Int × Int} {c s : Nat} {M Y : km_Mm} {w cr : Int} {n : Nat} {x : Int → Int → Int} {f : Int → Int → Prop} (hw : ten w) (hc : kcr q c s n cr) (n4 : n ≤ 4) (hH : kHs M w cr n x f) (fY : kfr M Y) (aY : kAi x f M w cr n 0 Y) :
    ∀ (k j : Nat) (l v : Int) (X : km_Mm), j + k = n → ksb l w → km_pop (w - l) ≤ kdsp (M cr) j 0 → kdD x f k j l v → (∀ b i : Int, b ≠ 93 → b ≠ 99 → X b i = Y b i) →
    ∃ M' : km_Mm, (∀ b i : Int, b ≠ 93 → b ≠ 99 → M' b i = Y b i) ∧ (∀ i : Int, i < j → M' 99 i = X 99 i) ∧ kdS x f (M' 99) k j l ∧ ∀ Q : Option km_V → km_Al → km_Mm → Prop, (km_G M_X3_choose 6 [some (.inr (.inr 85)), some (.inl w), some (.inl (n : Int)), some (.inr (.inr cr)), some (.inl l), some (.inl (j : Int))] [] (km_A0 q c s) X Q ↔ Q none (km_A0 q c s) M') := by
  obtain ⟨⟨c0, c1⟩, c2, c3⟩ := hc
  obtain ⟨⟨H1, H2⟩, H3, H4, H5, H6, H7⟩ := hH
  have nn : ¬ cr = -1 := by omega
  have r94 := km_row94 q c s
  intro k
  induction k with
  | zero =>
    intro j l v X h hl hp hv fr
    refine ⟨X, fr, fun _ _ => rfl, trivial, fun Q => ?_⟩
    have e : j = n := by omega
    subst e
    rw [g_X3_choose_6]
    simp (config := { decide := true }) (disch := first | decide | assumption | omega | (simp (config := { decide := true }) only [km_sr_sf, km_sr_of, km_up_of, km_up_o, km_upx_i, km_upx_s, km_fl2_o, ne_eq, not_true_eq_false, not_false_eq_true] <;> omega) | fail) only [g_X3_choose, ka_lt, ka_le, ka_nlt, ka_nle, ka_ne, ka_eq, Int.add_sub_cancel, true_or, or_true, false_or, or_false, false_and, and_false, if_true, if_false, ka_lo, ka_hi, ka_nn, km_sr_sf, km_sr_of, km_up_of, km_sr_us, km_sr_uo, km_sr_sr, km_sr_fl, km_sr_flo, km_up_up, km_up_lt, km_lay, km_unL, km_up_o, km_upx_i, km_upx_s, km_fl2_o, km_is, Option.some.injEq, Sum.inl.injEq, Sum.inr.injEq, Option.toList_some, Option.toList_none, List.cons_append, List.nil_append, ne_eq, true_and, and_true, and_self, not_true_eq_false, not_false_eq_true, true_implies, false_implies, reduceCtorEq]
  | succ k ih =>
    intro j l v X h hl hp hv fr
    have tl := ksb_ten hw hl
    have hj := H3 j (by omega) (by omega)
    have ecr : X cr = M cr := funext fun i => (fr cr i (by omega) (by omega)).trans (fY cr i (by omega) (by omega))
    have e4 : ((j + 1 : Nat) : Int) = (j : Int) + 1 := by omega
    have fst : ∀ t : Int, kdF x f k j l t → ∀ Z : km_Mm, (∀ b i : Int, b ≠ 93 → b ≠ 99 → Z b i = Y b i) → (∀ i : Int, i < j → Z 99 i = X 99 i) → Z 99 j = t → (∀ Q : Option km_V → km_Al → km_Mm → Prop, km_G M_X3_choose 6 [some (.inr (.inr 85)), some (.inl w), some (.inl (n : Int)), some (.inr (.inr cr)), some (.inl l), some (.inl (j : Int))] [] (km_A0 q c s) X Q ↔ km_G M_X3_choose 6 [some (.inr (.inr 85)), some (.inl w), some (.inl (n : Int)), some (.inr (.inr cr)), some (.inl (l - t)), some (.inl ((j : Int) + 1))] [] (km_A0 q c s) Z Q) → ∃ M' : km_Mm, (∀ b i : Int, b ≠ 93 → b ≠ 99 → M' b i = Y b i) ∧ (∀ i : Int, i < j → M' 99 i = X 99 i) ∧ kdS x f (M' 99) (k + 1) j l ∧ ∀ Q : Option km_V → km_Al → km_Mm → Prop, (km_G M_X3_choose 6 [some (.inr (.inr 85)), some (.inl w), some (.inl (n : Int)), some (.inr (.inr cr)), some (.inl l), some (.inl (j : Int))] [] (km_A0 q c s) X Q ↔ Q none (km_A0 q c s) M') := by
      intro t ht Z z1 z2 z3 z4
      obtain ⟨⟨t1, t2, u, t3, t4⟩, t5⟩ := id ht
      obtain ⟨p1, p2⟩ := ksb_pop3 hw hl t1
      have ps : kdsp (M cr) (j + 1) 0 = kdsp (M cr) j 0 + M cr j := by have := @kdsp_top (M cr) j 0; rw [Int.zero_add] at this; exact this
      have pc := H2 _ _ t2
      obtain ⟨M', a1, a2, a3, a4⟩ := ih (j + 1) (l - t) u Z (by omega) p1 (by omega) t3 z1
      refine ⟨M', a1, fun i hi => (a2 i (by omega)).trans (z2 i hi), ?_, fun Q => ?_⟩
      · have e : M' 99 j = t := (a2 j (by omega)).trans z3
        exact ⟨by rw [e]; exact ht, by rw [e]; exact a3⟩
      · rw [z4, ← a4 Q, e4]
    by_cases last : j + 1 = n
    · have ek : k = 0 := by omega
      subst ek
      obtain ⟨f1, f2⟩ := (kdD_one tl).mp hv
      have ej : (j : Int) = (n : Int) - 1 := by omega
      refine fst l ⟨⟨ksb_rf tl, f1, 0, ⟨by omega, rfl⟩, by rw [Int.add_zero, ← f2]; exact hv⟩, fun t' h' w' => ?_⟩ (km_up X 99 j l) (fun b i b1 b2 => by rw [km_up_ne (fun z => b2 z.1)]; exact fr b i b1 b2) (fun i hi => km_up_ne (fun z => by omega)) (km_up_eq ⟨rfl, rfl⟩) (fun Q => ?_)
      · obtain ⟨_, _, u, ⟨u1, _⟩, _⟩ := w'
        omega
      · have xs : km_xor l l = l - l := ksb_xor tl (ksb_rf tl)
        rw [g_X3_choose_6]
        simp (config := { decide := true }) (disch := first | decide | assumption | omega | (simp (config := { decide := true }) only [km_sr_sf, km_sr_of, km_up_of, km_up_o, km_upx_i, km_upx_s, km_fl2_o, ne_eq, not_true_eq_false, not_false_eq_true] <;> omega) | fail) only [g_X3_choose, xs, ka_lt, ka_le, ka_nlt, ka_nle, ka_ne, ka_eq, Int.add_sub_cancel, true_or, or_true, false_or, or_false, false_and, and_false, if_true, if_false, ka_lo, ka_hi, ka_nn, km_sr_sf, km_sr_of, km_up_of, km_sr_us, km_sr_uo, km_sr_sr, km_sr_fl, km_sr_flo, km_up_up, km_up_lt, km_lay, km_unL, km_up_o, km_upx_i, km_upx_s, km_fl2_o, km_is, Option.some.injEq, Sum.inl.injEq, Sum.inr.injEq, Option.toList_some, Option.toList_none, List.cons_append, List.nil_append, ne_eq, true_and, and_true, and_self, not_true_eq_false, not_false_eq_true, true_implies, false_implies, reduceCtorEq]
    · have ej : ¬ (j : Int) = (n : Int) - 1 := by omega
      obtain ⟨Z, y1, y2, y3⟩ := @cl_pricePlace q c s X l j (M cr j) tl (by omega) (by omega) (by rw [fr 91 _ (by decide) (by decide), fY 91 _ (by decide) (by decide)]; exact hj.2) (by rw [fr 89 _ (by decide) (by decide), fY 89 _ (by decide) (by decide)]; exact H4) (fun t ht => by rw [fr 92 _ (by decide) (by decide), fY 92 _ (by decide) (by decide)]; exact H5 t (ksb_tr tl hw ht hl))
      have yk : ∀ t : Int, ksb t l → Z 93 t = kpc M j (M cr j) t := fun t ht => by
        rw [y2 t ht]; unfold kpc
        rw [fr 92 _ (by decide) (by decide), fY 92 _ (by decide) (by decide), fr 89 _ (by decide) (by decide), fY 89 _ (by decide) (by decide), fr 91 _ (by decide) (by decide), fY 91 _ (by decide) (by decide)]
      have h1 : ∀ t : Int, ksb t l → (f j t → Z 93 t = x j t) ∧ (¬ f j t → 995545 ≤ Z 93 t) := fun t ht => by rw [yk t ht]; exact H6 j t (by omega) (by omega) (ksb_tr tl hw ht hl)
      have h7 : ∀ t : Int, ksb t l → Z 93 t ≤ 1005445 := fun t ht => by rw [yk t ht]; exact H7 j t (by omega) (by omega) (ksb_tr tl hw ht hl)
      have lo : ∀ t : Int, ksb t l → -5445 ≤ Z 93 t := fun t ht => by
        have := h1 t ht
        by_cases z : f j t
        · have := this.1 z; have := H1 j t z; omega
        · have := this.2 z; omega
      have zr : ∀ S : Int, Z (94 + 1 + ((j : Int) + 1)) S = Y (94 + 1 + ((j + 1 : Nat) : Int)) S := fun S => (y1 _ _ (by omega)).trans ((fr _ _ (by omega) (by omega)).trans (by rw [e4]))
      have zj : Z (94 + 1 + (j : Int)) l = v := by
        have : Z (94 + 1 + (j : Int)) l = Y (94 + 1 + (j : Int)) l := (y1 _ _ (by omega)).trans (fr _ _ (by omega) (by omega))
        rw [this]
        have nk : n - j = k + 1 := by omega
        have a := aY.1 j (by omega) (by omega) l hl hp
        rw [nk] at a
        rcases a with a | a
        · exact kdD_un a hv
        · exact absurd ⟨v, hv⟩ a.1
      have nk : n - (j + 1) = k := by omega
      have ps : kdsp (M cr) (j + 1) 0 = kdsp (M cr) j 0 + M cr j := by have := @kdsp_top (M cr) j 0; rw [Int.zero_add] at this; exact this
      have h2 : ∀ S : Int, ksb S l → km_pop (l - S) ≤ 0 + M cr j → kdE x f k ((j : Int) + 1) S (Z (94 + 1 + ((j : Int) + 1)) S) := fun S hS hp2 => by
        have b0 := ksb_pop tl hS
        have b1 := ksb_pop hw hl
        have b2 := ksb_pop hw (ksb_tr tl hw hS hl)
        have := aY.1 (j + 1) (Nat.zero_le _) (by omega) S (ksb_tr tl hw hS hl) (by omega)
        rw [nk] at this
        rw [zr]; exact this
      have h3 : ∀ S : Int, ksb S l → -5445 * ((k : Nat) : Int) ≤ Z (94 + 1 + ((j : Int) + 1)) S ∧ Z (94 + 1 + ((j : Int) + 1)) S ≤ 1005445 := fun S hS => by
        have := aY.2 (j + 1) (Nat.zero_le _) (by omega) (by omega) S (ksb_tr tl hw hS hl)
        rw [nk] at this
        rw [zr]; exact this
      have p0 : km_pop (l - l) ≤ 0 := by rw [Int.sub_self]; decide
      have eqv := fun t (ht : ksb t l) => @kdE_first x f k j l v l 0 (M cr j) t (Z 93) (Z (94 + 1 + ((j : Int) + 1))) H1 (by omega) tl (fun t ft => H2 _ t ft) h1 h2 (fun S hS => (h3 S hS).1) (ksb_rf tl) p0 hv ht
      obtain ⟨t0, k0⟩ := kdO_ex hv
      obtain ⟨t, ⟨t1, t2, t3⟩, t4⟩ := @cl_firstFor q c s Z l v ((j : Int) + 1) tl (by omega) (by omega) (fun t ht => by
        have := lo t ht; have := h7 t ht; have := h3 (l - t) (ksb_dsub tl ht); omega) ⟨t0, k0.1, (eqv t0 k0.1).mpr k0⟩
      have ra := @km_rowc94 q c s j (by omega) (by omega)
      have an : ¬ (94 + 1 + (j : Int) = -1) := by omega
      have lb : 0 ≤ l ∧ l < 1024 := tl
      have xs : km_xor l t = l - t := ksb_xor tl t1
      refine fst t ⟨(eqv t t1).mp t2, fun t' h' w' => t3 t' w'.1 h' ((eqv t' w'.1).mpr w')⟩ (km_up Z 99 j t) (fun b i b1 b2 => by rw [km_up_ne (fun z => b2 z.1)]; exact (y1 b i b1).trans (fr b i b1 b2)) (fun i hi => by rw [km_up_ne (fun z => by omega)]; exact y1 _ _ (by omega)) (km_up_eq ⟨rfl, rfl⟩) (fun Q => ?_)
      rw [g_X3_choose_6]
      simp (config := { decide := true }) (disch := first | decide | assumption | omega | (simp (config := { decide := true }) only [km_sr_sf, km_sr_of, km_up_of, km_up_o, km_upx_i, km_upx_s, km_fl2_o, ne_eq, not_true_eq_false, not_false_eq_true] <;> omega) | fail) only [g_X3_choose, nn, c2, ecr, ej, y3, r94, ra.1, ra.2, an, zj, t4, xs, ka_lt, ka_le, ka_nlt, ka_nle, ka_ne, ka_eq, Int.add_sub_cancel, true_or, or_true, false_or, or_false, false_and, and_false, if_true, if_false, ka_lo, ka_hi, ka_nn, km_sr_sf, km_sr_of, km_up_of, km_sr_us, km_sr_uo, km_sr_sr, km_sr_fl, km_sr_flo, km_up_up, km_up_lt, km_lay, km_unL, km_up_o, km_upx_i, km_upx_s, km_fl2_o, km_is, Option.some.injEq, Sum.inl.injEq, Sum.inr.injEq, Option.toList_some, Option.toList_none, List.cons_append, List.nil_append, ne_eq, true_and, and_true, and_self, not_true_eq_false, not_false_eq_true, true_implies, false_implies, reduceCtorEq]
theorem cl_arrange {q : Nat × Int × Int × Int × Int} {c s : Nat} {M : km_Mm} {w cr : Int} {n : Nat} {x : Int → Int → Int} {f : Int → Int → Prop} (hw : ten w) (hc : kcr q c s n cr) (n4 : n ≤ 4) (hH : kHs M w cr n x f) :
    ∃ (v : Int) (M' : km_Mm), (∀ b j : Int, b ≠ 93 → ¬ (95 ≤ b ∧ b ≤ 99) → M' b j = M b j) ∧ kdE x f n 0 w v ∧ (kdD x f n 0 w v → kdS x f (M' 99) n 0 w) ∧ ∀ Q : Option km_V → km_Al → km_Mm → Prop, (km_E M_X3_arrange [.inr (.inr 85), .inl w, .inl (n : Int), .inr (.inr cr)] (km_A0 q c s) M Q ↔ Q (some (.inl v)) (km_A0 q c s) M') := by
  by_cases n0 : n = 0
  · subst n0
    by_cases w0 : w = 0
    · refine ⟨0, M, fun _ _ _ _ => rfl, Or.inl ⟨w0, rfl⟩, fun _ => trivial, fun Q => ?_⟩
      rw [e_X3_arrange]
      simp (config := { decide := true }) (disch := first | decide | assumption | omega | (simp (config := { decide := true }) only [km_sr_sf, km_sr_of, km_up_of, km_up_o, km_upx_i, km_upx_s, km_fl2_o, ne_eq, not_true_eq_false, not_false_eq_true] <;> omega) | fail) only [g_X3_arrange, w0, Int.natCast_zero, Int.add_sub_cancel, true_or, or_true, false_or, or_false, false_and, and_false, if_true, if_false, ka_lo, ka_hi, ka_nn, km_sr_sf, km_sr_of, km_up_of, km_sr_us, km_sr_uo, km_sr_sr, km_sr_fl, km_sr_flo, km_up_up, km_up_lt, km_lay, km_unL, km_up_o, km_upx_i, km_upx_s, km_fl2_o, km_is, Option.some.injEq, Sum.inl.injEq, Sum.inr.injEq, Option.toList_some, Option.toList_none, List.cons_append, List.nil_append, ne_eq, true_and, and_true, and_self, not_true_eq_false, not_false_eq_true, true_implies, false_implies, reduceCtorEq]
    · refine ⟨1000000, M, fun _ _ _ _ => rfl, Or.inr ⟨fun ⟨v, hv⟩ => w0 hv.1, by omega, by omega⟩, fun h => trivial, fun Q => ?_⟩
      rw [e_X3_arrange]
      simp (config := { decide := true }) (disch := first | decide | assumption | omega | (simp (config := { decide := true }) only [km_sr_sf, km_sr_of, km_up_of, km_up_o, km_upx_i, km_upx_s, km_fl2_o, ne_eq, not_true_eq_false, not_false_eq_true] <;> omega) | fail) only [g_X3_arrange, w0, Int.natCast_zero, Int.add_sub_cancel, true_or, or_true, false_or, or_false, false_and, and_false, if_true, if_false, ka_lo, ka_hi, ka_nn, km_sr_sf, km_sr_of, km_up_of, km_sr_us, km_sr_uo, km_sr_sr, km_sr_fl, km_sr_flo, km_up_up, km_up_lt, km_lay, km_unL, km_up_o, km_upx_i, km_upx_s, km_fl2_o, km_is, Option.some.injEq, Sum.inl.injEq, Sum.inr.injEq, Option.toList_some, Option.toList_none, List.cons_append, List.nil_append, ne_eq, true_and, and_true, and_self, not_true_eq_false, not_false_eq_true, true_implies, false_implies, reduceCtorEq]
  · have nz : ¬ (n : Int) = 0 := by omega
    obtain ⟨Y, fY, aY, wY⟩ := @cl_arr50 q c s M w cr n x f hw hc n4 (by omega) hH n M (Nat.le_refl _) (fun _ _ _ _ => rfl) ⟨fun p p0 p1 => by omega, fun p p0 p1 => by omega⟩
    rw [Nat.sub_self] at wY
    have k0 : kdsp (M cr) 0 (n : Int) = 0 := rfl
    rw [k0] at wY
    have l21 := fun Q => @lp_arr21 q c s M w cr n hc (fun j a b => (hH.2.1 j a b).1) n4 Q n 0 (by omega)
    have k1 : kdsp (M cr) 0 0 = 0 := rfl
    simp only [k1, Int.natCast_zero] at l21
    have pw : km_pop (w - w) ≤ kdsp (M cr) 0 0 := by rw [Int.sub_self]; show km_pop 0 ≤ 0; decide
    have hv := aY.1 0 (Nat.le_refl _) (by omega) w (ksb_rf hw) pw
    rw [Nat.sub_zero] at hv
    have e95 : (94 + 1 + ((0 : Nat) : Int)) = 95 := by decide
    rw [e95] at hv
    have tw := hw
    unfold ten at tw
    have r94 := km_row94 q c s
    have nn : ¬ cr = -1 := by have := hc.1; omega
    have walk : ∀ Q : Option km_V → km_Al → km_Mm → Prop, (km_E M_X3_arrange [.inr (.inr 85), .inl w, .inl (n : Int), .inr (.inr cr)] (km_A0 q c s) M Q ↔ km_G M_X3_arrange 161 [some (.inr (.inr 85)), some (.inl w), some (.inl (n : Int)), some (.inr (.inr cr)), some (.inl 0), some (.inl (kdsp (M cr) n 0)), some (.inl (-1))] [] (km_A0 q c s) Y Q) := fun Q => by
      rw [← wY, e_X3_arrange]
      simp (config := { decide := true }) (disch := first | decide | assumption | omega | (simp (config := { decide := true }) only [km_sr_sf, km_sr_of, km_up_of, km_up_o, km_upx_i, km_upx_s, km_fl2_o, ne_eq, not_true_eq_false, not_false_eq_true] <;> omega) | fail) only [g_X3_arrange, nz, Int.add_sub_cancel, true_or, or_true, false_or, or_false, false_and, and_false, if_true, if_false, ka_lo, ka_hi, ka_nn, km_sr_sf, km_sr_of, km_up_of, km_sr_us, km_sr_uo, km_sr_sr, km_sr_fl, km_sr_flo, km_up_up, km_up_lt, km_lay, km_unL, km_up_o, km_upx_i, km_upx_s, km_fl2_o, km_is, Option.some.injEq, Sum.inl.injEq, Sum.inr.injEq, Option.toList_some, Option.toList_none, List.cons_append, List.nil_append, ne_eq, true_and, and_true, and_self, not_true_eq_false, not_false_eq_true, true_implies, false_implies, reduceCtorEq]
      rw [l21]
      simp (config := { decide := true }) (disch := first | decide | assumption | omega | (simp (config := { decide := true }) only [km_sr_sf, km_sr_of, km_up_of, km_up_o, km_upx_i, km_upx_s, km_fl2_o, ne_eq, not_true_eq_false, not_false_eq_true] <;> omega) | fail) only [g_X3_arrange, Int.add_sub_cancel, true_or, or_true, false_or, or_false, false_and, and_false, if_true, if_false, ka_lo, ka_hi, ka_nn, km_sr_sf, km_sr_of, km_up_of, km_sr_us, km_sr_uo, km_sr_sr, km_sr_fl, km_sr_flo, km_up_up, km_up_lt, km_lay, km_unL, km_up_o, km_upx_i, km_upx_s, km_fl2_o, km_is, Option.some.injEq, Sum.inl.injEq, Sum.inr.injEq, Option.toList_some, Option.toList_none, List.cons_append, List.nil_append, ne_eq, true_and, and_true, and_self, not_true_eq_false, not_false_eq_true, true_implies, false_implies, reduceCtorEq]
    rcases hv with hv | hv
    · have vb := kdD_b hH.1.1 _ _ _ _ hv
      obtain ⟨M', a1, a2, a3, a4⟩ := @cl_choose6 q c s M Y w cr n x f hw hc n4 hH fY aY n 0 w (Y 95 w) Y (by omega) (ksb_rf hw) pw hv (fun _ _ _ _ => rfl)
      have le : Y 95 w ≤ 500000 := by omega
      refine ⟨Y 95 w, M', fun b j b1 b2 => (a1 b j b1 (by omega)).trans (fY b j b1 (by omega)), Or.inl hv, fun _ => a3, fun Q => ?_⟩
      rw [walk]
      rw [Int.natCast_zero] at a4
      simp (config := { decide := true }) (disch := first | decide | assumption | omega | (simp (config := { decide := true }) only [km_sr_sf, km_sr_of, km_up_of, km_up_o, km_upx_i, km_upx_s, km_fl2_o, ne_eq, not_true_eq_false, not_false_eq_true] <;> omega) | fail) only [g_X3_arrange, r94, Int.reduceAdd, nn, le, e_X3_choose, g_X3_choose, a4, ka_lt, ka_le, ka_nlt, ka_nle, ka_ne, ka_eq, Int.add_sub_cancel, true_or, or_true, false_or, or_false, false_and, and_false, if_true, if_false, ka_lo, ka_hi, ka_nn, km_sr_sf, km_sr_of, km_up_of, km_sr_us, km_sr_uo, km_sr_sr, km_sr_fl, km_sr_flo, km_up_up, km_up_lt, km_lay, km_unL, km_up_o, km_upx_i, km_upx_s, km_fl2_o, km_is, Option.some.injEq, Sum.inl.injEq, Sum.inr.injEq, Option.toList_some, Option.toList_none, List.cons_append, List.nil_append, ne_eq, true_and, and_true, and_self, not_true_eq_false, not_false_eq_true, true_implies, false_implies, reduceCtorEq]
    · have gt : ¬ Y 95 w ≤ 500000 := by have := hv.2.1; omega
      refine ⟨Y 95 w, Y, fun b j b1 b2 => fY b j b1 (by omega), Or.inr hv, fun h => absurd ⟨_, h⟩ hv.1, fun Q => ?_⟩
      rw [walk]
      simp (config := { decide := true }) (disch := first | decide | assumption | omega | (simp (config := { decide := true }) only [km_sr_sf, km_sr_of, km_up_of, km_up_o, km_upx_i, km_upx_s, km_fl2_o, ne_eq, not_true_eq_false, not_false_eq_true] <;> omega) | fail) only [g_X3_arrange, r94, Int.reduceAdd, gt, ka_lt, ka_le, ka_nlt, ka_nle, ka_ne, ka_eq, Int.add_sub_cancel, true_or, or_true, false_or, or_false, false_and, and_false, if_true, if_false, ka_lo, ka_hi, ka_nn, km_sr_sf, km_sr_of, km_up_of, km_sr_us, km_sr_uo, km_sr_sr, km_sr_fl, km_sr_flo, km_up_up, km_up_lt, km_lay, km_unL, km_up_o, km_upx_i, km_upx_s, km_fl2_o, km_is, Option.some.injEq, Sum.inl.injEq, Sum.inr.injEq, Option.toList_some, Option.toList_none, List.cons_append, List.nil_append, ne_eq, true_and, and_true, and_self, not_true_eq_false, not_false_eq_true, true_implies, false_implies, reduceCtorEq]

