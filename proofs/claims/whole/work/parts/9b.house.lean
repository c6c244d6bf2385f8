/-! ===== one place more ===== -/
theorem kdsp_top {c : Int → Int} : ∀ (n : Nat) (p : Int), kdsp c (n + 1) p = kdsp c n p + c (p + n) := by
  intro n
  induction n with
  | zero => intro p; show c p + 0 = 0 + c (p + 0); rw [Int.add_zero, Int.add_zero]; omega
  | succ n ih =>
    intro p
    have := ih (p + 1)
    have e : p + 1 + (n : Int) = p + ((n + 1 : Nat) : Int) := by omega
    rw [e] at this
    show c p + kdsp c (n + 1) (p + 1) = c p + kdsp c n (p + 1) + c (p + ((n + 1 : Nat) : Int))
    omega
theorem kdsp_b {c : Int → Int} : ∀ (n : Nat) (p : Int), (∀ j : Int, p ≤ j → j < p + n → 0 ≤ c j ∧ c j ≤ 6) → 0 ≤ kdsp c n p ∧ kdsp c n p ≤ 6 * n := by
  intro n
  induction n with
  | zero => intro p _; show (0 : Int) ≤ 0 ∧ (0 : Int) ≤ 6 * 0; omega
  | succ n ih =>
    intro p h
    have a := ih (p + 1) (fun j a b => h j (by omega) (by omega))
    have b := h p (by omega) (by omega)
    show 0 ≤ c p + kdsp c n (p + 1) ∧ c p + kdsp c n (p + 1) ≤ 6 * ((n + 1 : Nat) : Int)
    omega
theorem ksb_pop3 {S t w : Int} (hw : ten w) (hS : ksb S w) (ht : ksb t S) : ksb (S - t) w ∧ km_pop (w - (S - t)) = km_pop (w - S) + km_pop t := by
  have tS := ksb_ten hw hS
  have d := ksb_tr tS hw (ksb_dsub tS ht) hS
  have a := ksb_pop hw hS
  have b := ksb_pop tS ht
  have c := ksb_pop hw d
  exact ⟨d, by omega⟩
theorem kdE_fill1 {x : Int → Int → Int} {f : Int → Int → Prop} {n : Nat} {p S v w B cp : Int} {h g : Int → Int} (hx : ∀ p t : Int, f p t → -5445 ≤ x p t ∧ x p t ≤ 5445) (n4 : n ≤ 3)
    (hw : ten w) (hc : ∀ t : Int, f p t → km_pop t ≤ cp)
    (h1 : ∀ t : Int, ksb t w → (f p t → h t = x p t) ∧ (¬ f p t → 995545 ≤ h t))
    (h2 : ∀ S : Int, ksb S w → km_pop (w - S) ≤ B + cp → kdE x f n (p + 1) S (g S))
    (h3 : ∀ S : Int, ksb S w → -5445 * (n : Int) ≤ g S)
    (hS : ksb S w) (hB : km_pop (w - S) ≤ B)
    (hv : kdmn S 1000000 v (fun t => h t + g (S - t))) : kdE x f (n + 1) p S v := by
  have tS := ksb_ten hw hS
  refine kdE_step hx n4 (fun t ht => h1 t (ksb_tr tS hw ht hS)) (fun t ht ft => ?_) (fun t ht => ?_) hv
  · obtain ⟨a, b⟩ := ksb_pop3 hw hS ht
    have := hc t ft
    exact h2 _ a (by omega)
  · exact h3 _ (ksb_pop3 hw hS ht).1
theorem kdE_lo {x : Int → Int → Int} {f : Int → Int → Prop} {n : Nat} {p S v w : Int} {h g : Int → Int} (hx : ∀ p t : Int, f p t → -5445 ≤ x p t ∧ x p t ≤ 5445) (n4 : n ≤ 3)
    (hw : ten w)
    (h1 : ∀ t : Int, ksb t w → (f p t → h t = x p t) ∧ (¬ f p t → 995545 ≤ h t))
    (h3 : ∀ S : Int, ksb S w → -5445 * (n : Int) ≤ g S)
    (hS : ksb S w) (hv : kdmn S 1000000 v (fun t => h t + g (S - t))) : -5445 * ((n + 1 : Nat) : Int) ≤ v ∧ v ≤ 1005445 := by
  have tS := ksb_ten hw hS
  obtain ⟨v1, v2, v3⟩ := hv
  refine ⟨?_, by omega⟩
  rcases v3 with e | ⟨t, t1, t2⟩
  · omega
  · have a := h1 t (ksb_tr tS hw t1 hS)
    have b := h3 _ (ksb_pop3 hw hS t1).1
    simp only [] at t2
    by_cases ft : f p t
    · have := a.1 ft; have := hx p t ft; omega
    · have := a.2 ft; omega
theorem kdE_over {x : Int → Int → Int} {f : Int → Int → Prop} {n : Nat} {p S : Int} {c : Int → Int} (n4 : n ≤ 4) (hc : ∀ p t : Int, f p t → km_pop t ≤ c p) (hS : ten S) (h : ¬ km_pop S ≤ kdsp c n p) : kdE x f n p S 1000000 :=
  Or.inr ⟨fun ⟨v, hv⟩ => h (kdD_cap hc n p S v hS hv), by omega, by omega⟩
theorem kdE_last {x : Int → Int → Int} {f : Int → Int → Prop} {p S v : Int} (hS : ten S) (h : (f p S → v = x p S) ∧ (¬ f p S → 995545 ≤ v ∧ v ≤ 1005445)) : kdE x f 1 p S v := by
  by_cases fs : f p S
  · left; rw [kdD_one hS]; exact ⟨fs, h.1 fs⟩
  · right
    refine ⟨fun ⟨v, hv⟩ => fs ((kdD_one hS).mp hv).1, ?_, (h.2 fs).2⟩
    have := (h.2 fs).1; omega
/-- of what the class keeps, the first that gives the least -/
theorem kdE_first {x : Int → Int → Int} {f : Int → Int → Prop} {n : Nat} {p S v w B cp t : Int} {h g : Int → Int} (hx : ∀ p t : Int, f p t → -5445 ≤ x p t ∧ x p t ≤ 5445) (n4 : n ≤ 3)
    (hw : ten w) (hc : ∀ t : Int, f p t → km_pop t ≤ cp)
    (h1 : ∀ t : Int, ksb t w → (f p t → h t = x p t) ∧ (¬ f p t → 995545 ≤ h t))
    (h2 : ∀ S : Int, ksb S w → km_pop (w - S) ≤ B + cp → kdE x f n (p + 1) S (g S))
    (h3 : ∀ S : Int, ksb S w → -5445 * (n : Int) ≤ g S)
    (hS : ksb S w) (hB : km_pop (w - S) ≤ B) (hv : kdD x f (n + 1) p S v) (ht : ksb t S) : h t + g (S - t) = v ↔ kdO x f n p S t := by
  have tS := ksb_ten hw hS
  have a := h1 t (ksb_tr tS hw ht hS)
  obtain ⟨b1, b2⟩ := ksb_pop3 hw hS ht
  have b := h3 _ b1
  have vb := kdD_b hx _ _ _ _ hv
  constructor
  · intro e
    by_cases ft : f p t
    · have := a.1 ft
      have xb := hx p t ft
      rcases h2 _ b1 (by have := hc t ft; omega) with k | k
      · exact ⟨ht, ft, _, k, by rw [← this, e]; exact hv⟩
      · have := k.2.1; omega
    · have := a.2 ft; omega
  · rintro ⟨_, ft, u, u1, u2⟩
    have := a.1 ft
    have e1 := kdD_un hv u2
    rcases h2 _ b1 (by have := hc t ft; omega) with k | k
    · have := kdD_un k u1; omega
    · exact absurd ⟨u, u1⟩ k.1
theorem kdO_ex {x : Int → Int → Int} {f : Int → Int → Prop} {n : Nat} {p S v : Int} (hv : kdD x f (n + 1) p S v) : ∃ t : Int, kdO x f n p S t := by
  obtain ⟨⟨t, u, a1, a2, a3, a4⟩, a5⟩ := id hv
  exact ⟨t, a1, a2, u, a3, by rw [← a4]; exact hv⟩
/-! ===== the house: arrange, its loops ===== -/
def kcr (q : Nat × Int × Int × Int × Int) (c s : Nat) (n : Nat) (cr : Int) : Prop := (0 ≤ cr ∧ cr < 90) ∧ km_kd (km_A0 q c s) cr = 0 ∧ (n : Int) ≤ km_ln (km_A0 q c s) cr
theorem lp_arr21 {q : Nat × Int × Int × Int × Int} {c s : Nat} {M : km_Mm} {w cr : Int} {n : Nat} (hc : kcr q c s n cr) (hb : ∀ j : Int, 0 ≤ j → j < n → 0 ≤ M cr j ∧ M cr j ≤ 6) (n4 : n ≤ 4) (Q : Option km_V → km_Al → km_Mm → Prop) :
    ∀ (k j : Nat), j + k = n → (km_G M_X3_arrange 21 [some (.inr (.inr 85)), some (.inl w), some (.inl (n : Int)), some (.inr (.inr cr)), some (.inl (kdsp (M cr) j 0)), some (.inl (j : Int)), none] [] (km_A0 q c s) M Q ↔ km_G M_X3_arrange 42 [some (.inr (.inr 85)), some (.inl w), some (.inl (n : Int)), some (.inr (.inr cr)), some (.inl (kdsp (M cr) n 0)), some (.inl (n : Int)), none] [] (km_A0 q c s) M Q) := by
  obtain ⟨⟨c0, c1⟩, c2, c3⟩ := hc
  have nn : ¬ cr = -1 := by omega
  intro k
  induction k with
  | zero =>
    intro j h
    have e : j = n := by omega
    subst e
    rw [g_X3_arrange_21]
    simp (config := { decide := true }) (disch := first | decide | assumption | omega | (simp (config := { decide := true }) only [km_sr_sf, km_sr_of, km_up_of, km_up_o, km_upx_i, km_upx_s, km_fl2_o, ne_eq, not_true_eq_false, not_false_eq_true] <;> omega) | fail) only [g_X3_arrange, ka_lt, ka_le, ka_nlt, ka_nle, ka_ne, ka_eq, Int.add_sub_cancel, true_or, or_true, false_or, or_false, false_and, and_false, if_true, if_false, ka_lo, ka_hi, ka_nn, km_sr_sf, km_sr_of, km_up_of, km_sr_us, km_sr_uo, km_sr_sr, km_sr_fl, km_sr_flo, km_up_up, km_up_lt, km_lay, km_unL, km_up_o, km_upx_i, km_upx_s, km_fl2_o, km_is, Option.some.injEq, Sum.inl.injEq, Sum.inr.injEq, Option.toList_some, Option.toList_none, List.cons_append, List.nil_append, ne_eq, true_and, and_true, and_self, not_true_eq_false, not_false_eq_true, true_implies, false_implies, reduceCtorEq]
  | succ k ih =>
    intro j h
    have i1 := ih (j + 1) (by omega)
    have e := @kdsp_top (M cr) j 0
    rw [Int.zero_add] at e
    have sb := @kdsp_b (M cr) j 0 (fun i a b => hb i (by omega) (by omega))
    have hj := hb j (by omega) (by omega)
    have e4 : ((j + 1 : Nat) : Int) = (j : Int) + 1 := by omega
    rw [e4, e] at i1
    rw [← i1, g_X3_arrange_21]
    simp (config := { decide := true }) (disch := first | decide | assumption | omega | (simp (config := { decide := true }) only [km_sr_sf, km_sr_of, km_up_of, km_up_o, km_upx_i, km_upx_s, km_fl2_o, ne_eq, not_true_eq_false, not_false_eq_true] <;> omega) | fail) only [g_X3_arrange, nn, c2, ka_lt, ka_le, ka_nlt, ka_nle, ka_ne, ka_eq, Int.add_sub_cancel, true_or, or_true, false_or, or_false, false_and, and_false, if_true, if_false, ka_lo, ka_hi, ka_nn, km_sr_sf, km_sr_of, km_up_of, km_sr_us, km_sr_uo, km_sr_sr, km_sr_fl, km_sr_flo, km_up_up, km_up_lt, km_lay, km_unL, km_up_o, km_upx_i, km_upx_s, km_fl2_o, km_is, Option.some.injEq, Sum.inl.injEq, Sum.inr.injEq, Option.toList_some, Option.toList_none, List.cons_append, List.nil_append, ne_eq, true_and, and_true, and_self, not_true_eq_false, not_false_eq_true, true_implies, false_implies, reduceCtorEq]
/-- what arrange is given -/
def kHs (M : km_Mm) (w cr : Int) (n : Nat) (x : Int → Int → Int) (f : Int → Int → Prop) : Prop :=
  ((∀ p t : Int, f p t → -5445 ≤ x p t ∧ x p t ≤ 5445) ∧ (∀ p t : Int, f p t → km_pop t ≤ M cr p)) ∧ (∀ j : Int, 0 ≤ j → j < n → (0 ≤ M cr j ∧ M cr j ≤ 6) ∧ (0 ≤ M 91 j ∧ M 91 j < 1024)) ∧ (0 ≤ M 89 2 ∧ M 89 2 ≤ 99) ∧ (∀ t : Int, ksb t w → -2000000 ≤ M 92 t ∧ M 92 t ≤ 2000000) ∧
  (∀ p t : Int, 0 ≤ p → p < n → ksb t w → (f p t → kpc M p (M cr p) t = x p t) ∧ (¬ f p t → 995545 ≤ kpc M p (M cr p) t)) ∧ (∀ p t : Int, 0 ≤ p → p < n → ksb t w → kpc M p (M cr p) t ≤ 1005445)
def kfr (M X : km_Mm) : Prop := ∀ b j : Int, b ≠ 93 → ¬ (95 ≤ b ∧ b ≤ 98) → X b j = M b j
def kAi (x : Int → Int → Int) (f : Int → Int → Prop) (M : km_Mm) (w cr : Int) (n k : Nat) (X : km_Mm) : Prop :=
  (∀ p : Nat, k ≤ p → p < n → ∀ S : Int, ksb S w → km_pop (w - S) ≤ kdsp (M cr) p 0 → kdE x f (n - p) p S (X (94 + 1 + p) S)) ∧
  (∀ p : Nat, k ≤ p → p < n → 1 ≤ p → ∀ S : Int, ksb S w → -5445 * ((n - p : Nat) : Int) ≤ X (94 + 1 + p) S ∧ X (94 + 1 + p) S ≤ 1005445)
theorem kpc_cg {M X : km_Mm} {p cap t : Int} (h : kfr M X) : kpc X p cap t = kpc M p cap t := by
  unfold kpc
  rw [h 92 t (by decide) (by decide), h 89 2 (by decide) (by decide), h 91 p (by decide) (by decide)]
theorem ksb_p0 {w S : Int} (hw : ten w) (hS : ksb S w) (h : km_pop (w - S) ≤ 0) : S = w := by
  have d := ksb_diff hw hS
  have e : w - S = 0 := by
    rw [tb_eq0 d.1]
    intro k k0 k1
    cases z : tb (w - S) k
    · rfl
    · exfalso
      have c : kcnt (fun j => tb (w - S) j = true) 10 ≤ 0 := by rw [← km_pop_cnt]; exact h
      have : ∀ n : Nat, k < n → 1 ≤ kcnt (fun j => tb (w - S) j = true) n := by
        intro n
        induction n with
        | zero => intro h; omega
        | succ n ih =>
          intro h
          have nb := (@kcnt_b (fun j => tb (w - S) j = true) n).1
          by_cases e : k = n
          · rw [kcnt, if_pos (by rw [← e]; exact z)]; omega
          · have := ih (by omega)
            unfold kcnt; split <;> omega
      have := this 10 (by omega)
      omega
  omega
theorem cl_arr50 {q : Nat × Int × Int × Int × Int} {c s : Nat} {M : km_Mm} {w cr : Int} {n : Nat} {x : Int → Int → Int} {f : Int → Int → Prop} (hw : ten w) (hc : kcr q c s n cr) (n4 : n ≤ 4) (n1 : 1 ≤ n) (hH : kHs M w cr n x f) :
    ∀ (k : Nat) (X : km_Mm), k ≤ n → kfr M X → kAi x f M w cr n k X →
    ∃ M' : km_Mm, kfr M M' ∧ kAi x f M w cr n 0 M' ∧ ∀ Q : Option km_V → km_Al → km_Mm → Prop, (km_G M_X3_arrange 50 [some (.inr (.inr 85)), some (.inl w), some (.inl (n : Int)), some (.inr (.inr cr)), some (.inl (kdsp (M cr) k 0)), some (.inl (kdsp (M cr) (n - k) k)), some (.inl ((k : Int) - 1))] [] (km_A0 q c s) X Q ↔ km_G M_X3_arrange 161 [some (.inr (.inr 85)), some (.inl w), some (.inl (n : Int)), some (.inr (.inr cr)), some (.inl 0), some (.inl (kdsp (M cr) n 0)), some (.inl (-1))] [] (km_A0 q c s) M' Q) := by
  obtain ⟨⟨c0, c1⟩, c2, c3⟩ := hc
  obtain ⟨⟨H1, H2⟩, H3, H4, H5, H6, H7⟩ := hH
  have nn : ¬ cr = -1 := by omega
  have r94 := km_row94 q c s
  have hw' := hw
  unfold ten at hw'
  intro k
  induction k with
  | zero =>
    intro X kn fr ai
    refine ⟨X, fr, ai, fun Q => ?_⟩
    rw [g_X3_arrange_50]
    show km_G M_X3_arrange 52 _ _ _ _ _ ↔ _
    have e1 : kdsp (M cr) 0 0 = 0 := rfl
    have e2 : ((0 : Nat) : Int) - 1 = -1 := by omega
    rw [e1, e2]
    simp (config := { decide := true }) (disch := first | decide | assumption | omega | (simp (config := { decide := true }) only [km_sr_sf, km_sr_of, km_up_of, km_up_o, km_upx_i, km_upx_s, km_fl2_o, ne_eq, not_true_eq_false, not_false_eq_true] <;> omega) | fail) only [g_X3_arrange, Nat.sub_zero, ka_lt, ka_le, ka_nlt, ka_nle, ka_ne, ka_eq, Int.add_sub_cancel, true_or, or_true, false_or, or_false, false_and, and_false, if_true, if_false, ka_lo, ka_hi, ka_nn, km_sr_sf, km_sr_of, km_up_of, km_sr_us, km_sr_uo, km_sr_sr, km_sr_fl, km_sr_flo, km_up_up, km_up_lt, km_lay, km_unL, km_up_o, km_upx_i, km_upx_s, km_fl2_o, km_is, Option.some.injEq, Sum.inl.injEq, Sum.inr.injEq, Option.toList_some, Option.toList_none, List.cons_append, List.nil_append, ne_eq, true_and, and_true, and_self, not_true_eq_false, not_false_eq_true, true_implies, false_implies, reduceCtorEq]
    exact Iff.rfl
  | succ k ih =>
    intro X kn fr ai
    have hk := H3 k (by omega) (by omega)
    have e1 : ((k + 1 : Nat) : Int) - 1 = (k : Int) := by omega
    have ecr : X cr = M cr := funext fun j => fr cr j (by omega) (by omega)
    have sp1 : kdsp (M cr) (k + 1) 0 = kdsp (M cr) k 0 + M cr k := by have := @kdsp_top (M cr) k 0; rw [Int.zero_add] at this; exact this
    have sp2 : kdsp (M cr) (n - k) k = M cr k + kdsp (M cr) (n - (k + 1)) ((k + 1 : Nat) : Int) := by
      have : n - k = (n - (k + 1)) + 1 := by omega
      rw [this]; exact rfl
    have b1 := @kdsp_b (M cr) k 0 (fun i a b => (H3 i (by omega) (by omega)).1)
    have b2 := @kdsp_b (M cr) (n - (k + 1)) ((k + 1 : Nat) : Int) (fun i a b => (H3 i (by omega) (by omega)).1)
    have fr' : ∀ b j : Int, b < 93 → X b j = M b j := fun b j h => fr b j (by omega) (by omega)
    obtain ⟨Y, y1, y2, y3⟩ := @cl_pricePlace q c s X w k (M cr k) hw (by omega) (by omega) (by rw [fr' 91 _ (by decide)]; exact hk.2) (by rw [fr' 89 _ (by decide)]; exact H4) (by rw [show X 92 = M 92 from funext fun j => fr' 92 j (by decide)]; exact H5)
    have yk : ∀ t : Int, ksb t w → Y 93 t = kpc M k (M cr k) t := fun t ht => by rw [y2 t ht, kpc_cg fr]
    have fy : kfr M Y := fun b j h1 h2 => (y1 b j h1).trans (fr b j h1 h2)
    have h1 : ∀ t : Int, ksb t w → (f k t → Y 93 t = x k t) ∧ (¬ f k t → 995545 ≤ Y 93 t) := fun t ht => by rw [yk t ht]; exact H6 k t (by omega) (by omega) ht
    have h7 : ∀ t : Int, ksb t w → Y 93 t ≤ 1005445 := fun t ht => by rw [yk t ht]; exact H7 k t (by omega) (by omega) ht
    have lo : ∀ t : Int, ksb t w → -5445 ≤ Y 93 t := fun t ht => by
      have := h1 t ht
      by_cases z : f k t
      · have := this.1 z; have := H1 k t z; omega
      · have := this.2 z; omega
    -- what stands for the rows behind
    have keep : ∀ X' : km_Mm, (∀ b j : Int, b ≠ 94 + 1 + k → X' b j = Y b j) → (∀ S : Int, ksb S w → km_pop (w - S) ≤ kdsp (M cr) k 0 → kdE x f (n - k) k S (X' (94 + 1 + k) S)) → (1 ≤ k → ∀ S : Int, ksb S w → -5445 * ((n - k : Nat) : Int) ≤ X' (94 + 1 + k) S ∧ X' (94 + 1 + k) S ≤ 1005445) → kfr M X' ∧ kAi x f M w cr n k X' := by
      intro X' q1 q2 q3
      refine ⟨fun b j h1 h2 => (q1 b j (by omega)).trans (fy b j h1 h2), fun p p0 p1 S hS hp => ?_, fun p p0 p1 p2 S hS => ?_⟩
      · by_cases e : p = k
        · subst e; exact q2 S hS hp
        · rw [q1 _ _ (by omega), y1 _ _ (by omega)]; exact ai.1 p (by omega) p1 S hS hp
      · by_cases e : p = k
        · subst e; exact q3 p2 S hS
        · rw [q1 _ _ (by omega), y1 _ _ (by omega)]; exact ai.2 p (by omega) p1 p2 S hS
    have done : ∀ X' : km_Mm, kfr M X' → kAi x f M w cr n k X' → (∀ Q : Option km_V → km_Al → km_Mm → Prop, km_G M_X3_arrange 50 [some (.inr (.inr 85)), some (.inl w), some (.inl (n : Int)), some (.inr (.inr cr)), some (.inl (kdsp (M cr) (k + 1) 0)), some (.inl (kdsp (M cr) (n - (k + 1)) ((k + 1 : Nat) : Int))), some (.inl (((k + 1 : Nat) : Int) - 1))] [] (km_A0 q c s) X Q ↔ km_G M_X3_arrange 50 [some (.inr (.inr 85)), some (.inl w), some (.inl (n : Int)), some (.inr (.inr cr)), some (.inl (kdsp (M cr) k 0)), some (.inl (kdsp (M cr) (n - k) k)), some (.inl ((k : Int) - 1))] [] (km_A0 q c s) X' Q) → ∃ M' : km_Mm, kfr M M' ∧ kAi x f M w cr n 0 M' ∧ ∀ Q : Option km_V → km_Al → km_Mm → Prop, (km_G M_X3_arrange 50 [some (.inr (.inr 85)), some (.inl w), some (.inl (n : Int)), some (.inr (.inr cr)), some (.inl (kdsp (M cr) (k + 1) 0)), some (.inl (kdsp (M cr) (n - (k + 1)) ((k + 1 : Nat) : Int))), some (.inl (((k + 1 : Nat) : Int) - 1))] [] (km_A0 q c s) X Q ↔ km_G M_X3_arrange 161 [some (.inr (.inr 85)), some (.inl w), some (.inl (n : Int)), some (.inr (.inr cr)), some (.inl 0), some (.inl (kdsp (M cr) n 0)), some (.inl (-1))] [] (km_A0 q c s) M' Q) := by
      intro X' a1 a2 a3
      obtain ⟨M', d1, d2, d3⟩ := ih X' (by omega) a1 a2
      exact ⟨M', d1, d2, fun Q => (a3 Q).trans (d3 Q)⟩
    have ra := @km_rowc94 q c s k (by omega) (by omega)
    have an : ¬ (94 + 1 + (k : Int) = -1) := by omega
    rw [e1, sp1, sp2] at done
    rw [e1, sp1]
    have s5 : kdsp (M cr) k 0 + M cr k - M cr k = kdsp (M cr) k 0 := by omega
    have s6 : kdsp (M cr) (n - (k + 1)) ((k + 1 : Nat) : Int) + M cr k = M cr k + kdsp (M cr) (n - (k + 1)) ((k + 1 : Nat) : Int) := by omega
    by_cases last : k + 1 = n
    · have e3 : n - k = 1 := by omega
      have e4 : n - (k + 1) = 0 := by omega
      have ek : (k : Int) = (n : Int) - 1 := by omega
      obtain ⟨g1, g2⟩ := keep (fun c j => if c = 94 + 1 + (k : Int) ∧ 0 ≤ j ∧ j < 0 + 1024 then Y 93 (j - 0 + 0) else Y c j) (fun b j h => if_neg (fun z => h z.1)) (fun S hS hp => by
        have tS := ksb_ten hw hS
        unfold ten at tS
        show kdE x f (n - k) k S (if 94 + 1 + (k : Int) = 94 + 1 + (k : Int) ∧ 0 ≤ S ∧ S < 0 + 1024 then Y 93 (S - 0 + 0) else Y (94 + 1 + (k : Int)) S)
        rw [if_pos ⟨rfl, tS.1, by omega⟩, e3, Int.sub_zero, Int.add_zero]
        exact kdE_last tS ⟨(h1 S hS).1, fun z => ⟨(h1 S hS).2 z, h7 S hS⟩⟩) (fun _ S hS => by
        have tS := ksb_ten hw hS
        unfold ten at tS
        show _ ≤ (if 94 + 1 + (k : Int) = 94 + 1 + (k : Int) ∧ 0 ≤ S ∧ S < 0 + 1024 then Y 93 (S - 0 + 0) else Y (94 + 1 + (k : Int)) S) ∧ (if 94 + 1 + (k : Int) = 94 + 1 + (k : Int) ∧ 0 ≤ S ∧ S < 0 + 1024 then Y 93 (S - 0 + 0) else Y (94 + 1 + (k : Int)) S) ≤ _
        rw [if_pos ⟨rfl, tS.1, by omega⟩, e3, Int.sub_zero, Int.add_zero]
        have := lo S hS; have := h7 S hS; omega)
      refine done _ g1 g2 (fun Q => ?_)
      rw [g_X3_arrange_50]
      simp (config := { decide := true }) (disch := first | decide | assumption | omega | (simp (config := { decide := true }) only [km_sr_sf, km_sr_of, km_up_of, km_up_o, km_upx_i, km_upx_s, km_fl2_o, ne_eq, not_true_eq_false, not_false_eq_true] <;> omega) | fail) only [g_X3_arrange, nn, c2, ecr, y3, s5, s6, r94, ra.1, ra.2, an, ka_lt, ka_le, ka_nlt, ka_nle, ka_ne, ka_eq, Int.add_sub_cancel, true_or, or_true, false_or, or_false, false_and, and_false, if_true, if_false, ka_lo, ka_hi, ka_nn, km_sr_sf, km_sr_of, km_up_of, km_sr_us, km_sr_uo, km_sr_sr, km_sr_fl, km_sr_flo, km_up_up, km_up_lt, km_lay, km_unL, km_up_o, km_upx_i, km_upx_s, km_fl2_o, km_is, Option.some.injEq, Sum.inl.injEq, Sum.inr.injEq, Option.toList_some, Option.toList_none, List.cons_append, List.nil_append, ne_eq, true_and, and_true, and_self, not_true_eq_false, not_false_eq_true, true_implies, false_implies, reduceCtorEq]
      rw [show (k : Int) + -1 = (k : Int) - 1 from rfl]
    · have ln : ¬ (k : Int) = (n : Int) - 1 := by omega
      have e5 : n - k = (n - (k + 1)) + 1 := by omega
      have rb := @km_rowc94 q c s ((k : Int) + 1) (by omega) (by omega)
      have ex : ∀ S : Int, Y (94 + 1 + ((k : Int) + 1)) S = X (94 + 1 + ((k + 1 : Nat) : Int)) S := fun S => y1 _ _ (by omega)
      have h2 : ∀ S : Int, ksb S w → km_pop (w - S) ≤ kdsp (M cr) k 0 + M cr k → kdE x f (n - (k + 1)) ((k : Int) + 1) S (Y (94 + 1 + ((k : Int) + 1)) S) := fun S hS hp => by
        have := ai.1 (k + 1) (Nat.le_refl _) (by omega) S hS (by rw [sp1]; exact hp)
        rw [ex]; exact this
      have h3 : ∀ S : Int, ksb S w → -5445 * ((n - (k + 1) : Nat) : Int) ≤ Y (94 + 1 + ((k : Int) + 1)) S ∧ Y (94 + 1 + ((k : Int) + 1)) S ≤ 1005445 := fun S hS => by
        rw [ex]; exact ai.2 (k + 1) (Nat.le_refl _) (by omega) (by omega) S hS
      have hrr : ∀ t u : Int, ksb t w → ksb u w → -1000000000 ≤ Y 93 t + Y (94 + 1 + ((k : Int) + 1)) u ∧ Y 93 t + Y (94 + 1 + ((k : Int) + 1)) u ≤ 1000000000 := fun t u ht hu => by
        have := lo t ht; have := h7 t ht; have := h3 u hu; omega
      by_cases k0 : k = 0
      · subst k0
        obtain ⟨v, v1, v2⟩ := @cl_leastFrom q c s Y w (94 + 1 + 1) hw (by omega) (by omega) (@km_rowc94 q c s 1 (by omega) (by omega)).1 (@km_rowc94 q c s 1 (by omega) (by omega)).2 (fun t ht => hrr t (w - t) ht (ksb_dsub hw ht))
        have pw : km_pop (w - w) ≤ kdsp (M cr) 0 0 := by rw [Int.sub_self]; show km_pop 0 ≤ 0; decide
        have kv : kdE x f (n - 0) ((0 : Nat) : Int) w v := by
          rw [e5]
          exact kdE_fill1 H1 (by omega) hw (fun t ft => H2 _ t ft) h1 h2 (fun S hS => (h3 S hS).1) (ksb_rf hw) pw v1
        obtain ⟨g1, g2⟩ := keep (km_up Y (94 + 1 + ((0 : Nat) : Int)) w v) (fun b j h => km_up_ne (fun z => h z.1)) (fun S hS hp => by
          have : S = w := ksb_p0 hw hS hp
          subst this
          rw [km_up_eq ⟨rfl, rfl⟩]; exact kv) (fun z => by omega)
        refine done _ g1 g2 (fun Q => ?_)
        have rz := @km_rowc94 q c s 0 (by omega) (by omega)
        rw [g_X3_arrange_50]
        simp (config := { decide := true }) (disch := first | decide | assumption | omega | (simp (config := { decide := true }) only [km_sr_sf, km_sr_of, km_up_of, km_up_o, km_upx_i, km_upx_s, km_fl2_o, ne_eq, not_true_eq_false, not_false_eq_true] <;> omega) | fail) only [g_X3_arrange, nn, c2, ecr, y3, s5, s6, r94, rz.1, rz.2, an, ln, v2, ka_lt, ka_le, ka_nlt, ka_nle, ka_ne, ka_eq, Int.add_sub_cancel, true_or, or_true, false_or, or_false, false_and, and_false, if_true, if_false, ka_lo, ka_hi, ka_nn, km_sr_sf, km_sr_of, km_up_of, km_sr_us, km_sr_uo, km_sr_sr, km_sr_fl, km_sr_flo, km_up_up, km_up_lt, km_lay, km_unL, km_up_o, km_upx_i, km_upx_s, km_fl2_o, km_is, Option.some.injEq, Sum.inl.injEq, Sum.inr.injEq, Option.toList_some, Option.toList_none, List.cons_append, List.nil_append, ne_eq, true_and, and_true, and_self, not_true_eq_false, not_false_eq_true, true_implies, false_implies, reduceCtorEq]
        exact Iff.rfl
      · obtain ⟨Z, z1, z2, z3⟩ := @cl_fillLeast q c s Y w k (M cr k + kdsp (M cr) (n - (k + 1)) ((k + 1 : Nat) : Int)) (kdsp (M cr) k 0) hw (by omega) (by omega) hrr
        have z0 : ¬ (k : Int) ≤ 0 := by omega
        obtain ⟨g1, g2⟩ := keep Z z1 (fun S hS hp => by
          have tS := ksb_ten hw hS
          obtain ⟨f1, f2⟩ := z2 S hS
          by_cases fit : km_pop S ≤ M cr k + kdsp (M cr) (n - (k + 1)) ((k + 1 : Nat) : Int) ∧ km_pop (w - S) ≤ kdsp (M cr) k 0
          · rw [e5]
            exact kdE_fill1 H1 (by omega) hw (fun t ft => H2 _ t ft) h1 h2 (fun S hS => (h3 S hS).1) hS hp (f1 fit)
          · rw [f2 fit]
            refine kdE_over (by omega) H2 tS (fun w => fit ⟨?_, hp⟩)
            rw [← sp2]; exact w) (fun _ S hS => by
          obtain ⟨f1, f2⟩ := z2 S hS
          by_cases fit : km_pop S ≤ M cr k + kdsp (M cr) (n - (k + 1)) ((k + 1 : Nat) : Int) ∧ km_pop (w - S) ≤ kdsp (M cr) k 0
          · rw [e5]
            exact kdE_lo H1 (by omega) hw h1 (fun S hS => (h3 S hS).1) hS (f1 fit)
          · rw [f2 fit]; omega)
        refine done _ g1 g2 (fun Q => ?_)
        rw [g_X3_arrange_50]
        simp (config := { decide := true }) (disch := first | decide | assumption | omega | (simp (config := { decide := true }) only [km_sr_sf, km_sr_of, km_up_of, km_up_o, km_upx_i, km_upx_s, km_fl2_o, ne_eq, not_true_eq_false, not_false_eq_true] <;> omega) | fail) only [g_X3_arrange, nn, c2, ecr, y3, s5, s6, r94, ra.1, ra.2, an, ln, z0, z3, ka_lt, ka_le, ka_nlt, ka_nle, ka_ne, ka_eq, Int.add_sub_cancel, true_or, or_true, false_or, or_false, false_and, and_false, if_true, if_false, ka_lo, ka_hi, ka_nn, km_sr_sf, km_sr_of, km_up_of, km_sr_us, km_sr_uo, km_sr_sr, km_sr_fl, km_sr_flo, km_up_up, km_up_lt, km_lay, km_unL, km_up_o, km_upx_i, km_upx_s, km_fl2_o, km_is, Option.some.injEq, Sum.inl.injEq, Sum.inr.injEq, Option.toList_some, Option.toList_none, List.cons_append, List.nil_append, ne_eq, true_and, and_true, and_self, not_true_eq_false, not_false_eq_true, true_implies, false_implies, reduceCtorEq]
        rw [show (k : Int) + -1 = (k : Int) - 1 from rfl]

