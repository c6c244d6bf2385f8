/-! ===== promise 24: settle: the groups, as mathematics ===== -/
/-- the balances of a set together -/
def kbs (b : Int → Int) (S : Int) : Int := ksm (fun k => if tb S k = true then b k else 0) 10
def kz0 (b : Int → Int) (S : Int) : Int := if kbs b S = 0 then 1 else 0
theorem kz0_b {b : Int → Int} {S : Int} : 0 ≤ kz0 b S ∧ kz0 b S ≤ 1 := by unfold kz0; split <;> omega
theorem kbs_0 {b : Int → Int} : kbs b 0 = 0 := by
  unfold kbs
  have : (fun k => if tb 0 k = true then b k else 0) = fun _ => 0 := by
    funext k
    rw [tb_zero]
    rfl
  rw [this, ksm_zero]
theorem kbs_split {b : Int → Int} {t w : Int} (hw : ten w) (h : ksb t w) : kbs b w = kbs b t + kbs b (w - t) := by
  unfold kbs
  rw [← ksm_add]
  refine ksm_cong 10 fun k k0 k1 => ?_
  have d := (ksb_diff hw h).2 k k0
  have s := (ksb_tb hw).mp h
  rw [d]
  cases e : tb t k with
  | true => rw [s.2 k k0 e]; simp
  | false => simp
/-- one alone -/
theorem ksb_one {S k : Int} (hS : ten S) (k0 : 0 ≤ k) (k1 : k < 10) (h : tb S k = true) : ksb (km_shl 1 k) S ∧ 0 < km_shl 1 k := by
  have t1 := ten_one k0 k1
  refine ⟨(ksb_tb hS).mpr ⟨t1, fun j j0 e => ?_⟩, ?_⟩
  · rw [tb_one k0 (by omega) j0] at e
    have : j = k := by simpa using e
    rw [this]; exact h
  · have : km_shl 1 k ≠ 0 := fun e => by
      have := tb_one (j := k) (k := k) k0 (by omega) k0
      rw [e, tb_zero] at this
      simp at this
    have := t1.1
    omega
theorem kdf_tb {S k j : Int} (hS : ten S) (k0 : 0 ≤ k) (k1 : k < 10) (h : tb S k = true) (j0 : 0 ≤ j) : tb (S - km_shl 1 k) j = (tb S j && !decide (j = k)) := by
  rw [(ksb_diff hS (ksb_one hS k0 k1 h).1).2 j j0, tb_one k0 (by omega) j0]
/-- a proper part misses somebody -/
theorem ksb_miss {T S : Int} (hS : ten S) (h : ksb T S) (ne : T ≠ S) : ∃ k : Int, 0 ≤ k ∧ k < 10 ∧ tb S k = true ∧ ksb T (S - km_shl 1 k) := by
  have hT := ksb_ten hS h
  have s := ((ksb_tb hS).mp h).2
  have ex : ∃ k : Int, 0 ≤ k ∧ k < 10 ∧ tb S k = true ∧ tb T k = false := by
    refine Classical.byContradiction fun no => ne (ten_ext hT hS fun k k0 k1 => ?_)
    cases e : tb T k with
    | true => exact (s k k0 e).symm
    | false =>
      cases e2 : tb S k with
      | true => exact absurd ⟨k, k0, k1, e2, e⟩ no
      | false => rfl
  obtain ⟨k, k0, k1, a, d⟩ := ex
  refine ⟨k, k0, k1, a, ?_⟩
  have dd := ksb_diff hS (ksb_one hS k0 k1 a).1
  refine (ksb_tb dd.1).mpr ⟨hT, fun j j0 e => ?_⟩
  rw [kdf_tb hS k0 k1 a j0, s j j0 e]
  have : j ≠ k := fun w => by rw [w, d] at e; cases e
  simp [this]
theorem ksb_ddd {t u w : Int} (hw : ten w) (h : ksb t w) (h2 : ksb u (w - t)) : ksb u w ∧ ksb t (w - u) := by
  have d := ksb_diff hw h
  have hu : ksb u w := ksb_tr d.1 hw h2 (ksb_dsub hw h)
  have du := ksb_diff hw hu
  refine ⟨hu, (ksb_tb du.1).mpr ⟨ksb_ten hw h, fun j j0 e => ?_⟩⟩
  rw [du.2 j j0, ((ksb_tb hw).mp h).2 j j0 e]
  cases e2 : tb u j with
  | false => rfl
  | true =>
    have := ((ksb_tb d.1).mp h2).2 j j0 e2
    rw [d.2 j j0, e] at this
    simp at this
/-- what the class's groups are -/
def kgG (b G : Int → Int) (w : Int) : Prop := G 0 = 0 ∧ ∀ S : Int, ksb S w → S ≠ 0 → (∃ k : Int, 0 ≤ k ∧ k < 10 ∧ tb S k = true ∧ G S = G (S - km_shl 1 k) + kz0 b S) ∧ ∀ k : Int, 0 ≤ k → k < 10 → tb S k = true → G (S - km_shl 1 k) + kz0 b S ≤ G S
def kO1 (b R : Int → Int) (S t : Int) : Prop := ksb t S ∧ tb t (klw S) = true ∧ kbs b t = 0 ∧ 0 ≤ R (S - t)
/-- what the reference's groups are -/
def kgR (b R O : Int → Int) (w : Int) : Prop := R 0 = 0 ∧ ∀ S : Int, ksb S w → S ≠ 0 → (∀ t : Int, kO1 b R S t → R (S - t) + 1 ≤ R S) ∧ (R S = -1 ∨ (kO1 b R S (O S) ∧ R S = R (S - O S) + 1 ∧ ∀ t : Int, t < O S → kO1 b R S t → R (S - t) + 1 < R S))
section GR
variable {b G R O : Int → Int} {w : Int}
theorem kgG_0 (hw : ten w) (h : kgG b G w) : ∀ (n : Nat) (S : Int), S ≤ n → ksb S w → 0 ≤ G S := by
  intro n
  induction n with
  | zero =>
    intro S hn hs
    have := (ksb_le hw hs).1
    rw [show S = 0 by omega, h.1]; omega
  | succ n ih =>
    intro S hn hs
    by_cases z : S = 0
    · rw [z, h.1]; omega
    · obtain ⟨k, k0, k1, a, e⟩ := (h.2 S hs z).1
      have hS := ksb_ten hw hs
      have o := ksb_one hS k0 k1 a
      have := ih (S - km_shl 1 k) (by omega) (ksb_tr hS hw (ksb_dsub hS o.1) hs)
      have := kz0_b (b := b) (S := S)
      omega
theorem kgG_mono (hw : ten w) (h : kgG b G w) {T : Int} : ∀ (n : Nat) (S : Int), S ≤ n → ksb S w → ksb T S → G T ≤ G S := by
  intro n
  induction n with
  | zero =>
    intro S hn hs ht
    have := (ksb_le hw hs).1
    have := ksb_le (ksb_ten hw hs) ht
    rw [show S = 0 by omega, show T = 0 by omega]; omega
  | succ n ih =>
    intro S hn hs ht
    have hS := ksb_ten hw hs
    by_cases z : T = S
    · rw [z]; omega
    · obtain ⟨k, k0, k1, a, e⟩ := ksb_miss hS ht z
      have o := ksb_one hS k0 k1 a
      have i := ih (S - km_shl 1 k) (by omega) (ksb_tr hS hw (ksb_dsub hS o.1) hs) e
      have nz : S ≠ 0 := fun u => by rw [u, tb_zero] at a; cases a
      have := (h.2 S hs nz).2 k k0 k1 a
      have := kz0_b (b := b) (S := S)
      omega
theorem kgG_zero (hw : ten w) (h : kgG b G w) : ∀ (n : Nat) (S : Int), S ≤ n → ksb S w → ∃ T : Int, ksb T S ∧ kbs b T = 0 ∧ G S = G T := by
  intro n
  induction n with
  | zero =>
    intro S hn hs
    have := (ksb_le hw hs).1
    have e : S = 0 := by omega
    subst e
    exact ⟨0, ksb_0, kbs_0, rfl⟩
  | succ n ih =>
    intro S hn hs
    have hS := ksb_ten hw hs
    by_cases z : kbs b S = 0
    · exact ⟨S, ksb_rf hS, z, rfl⟩
    · have nz : S ≠ 0 := fun u => z (by rw [u]; exact kbs_0)
      obtain ⟨k, k0, k1, a, e⟩ := (h.2 S hs nz).1
      have o := ksb_one hS k0 k1 a
      obtain ⟨T, t1, t2, t3⟩ := ih (S - km_shl 1 k) (by omega) (ksb_tr hS hw (ksb_dsub hS o.1) hs)
      have e0 : kz0 b S = 0 := by unfold kz0; rw [if_neg z]
      exact ⟨T, ksb_tr (ksb_diff hS o.1).1 hS t1 (ksb_dsub hS o.1), t2, by rw [e, e0, t3, Int.add_zero]⟩
theorem kgG_up (hw : ten w) (h : kgG b G w) {S T : Int} (hs : ksb S w) (z : kbs b S = 0) (ht : ksb T S) (ne : T ≠ S) : G T + 1 ≤ G S := by
  have hS := ksb_ten hw hs
  obtain ⟨k, k0, k1, a, e⟩ := ksb_miss hS ht ne
  have o := ksb_one hS k0 k1 a
  have hx := ksb_tr hS hw (ksb_dsub hS o.1) hs
  have := kgG_mono hw h (S - km_shl 1 k).toNat (S - km_shl 1 k) (by omega) hx e
  have nz : S ≠ 0 := fun u => by rw [u, tb_zero] at a; cases a
  have := (h.2 S hs nz).2 k k0 k1 a
  have e1 : kz0 b S = 1 := by unfold kz0; rw [if_pos z]
  omega
theorem kgG_dn (hw : ten w) (h : kgG b G w) {S : Int} (hs : ksb S w) (z : kbs b S = 0) (nz : S ≠ 0) : ∃ T : Int, ksb T S ∧ T < S ∧ kbs b T = 0 ∧ G S = G T + 1 := by
  have hS := ksb_ten hw hs
  obtain ⟨k, k0, k1, a, e⟩ := (h.2 S hs nz).1
  have o := ksb_one hS k0 k1 a
  have hx := ksb_tr hS hw (ksb_dsub hS o.1) hs
  obtain ⟨T, t1, t2, t3⟩ := kgG_zero hw h (S - km_shl 1 k).toNat (S - km_shl 1 k) (by omega) hx
  have e1 : kz0 b S = 1 := by unfold kz0; rw [if_pos z]
  have dd := ksb_diff hS o.1
  have le := (ksb_le dd.1 t1).2
  exact ⟨T, ksb_tr dd.1 hS t1 (ksb_dsub hS o.1), by omega, t2, by rw [e, e1, t3]⟩
theorem kgR_S (hw : ten w) (h : kgR b R O w) {S : Int} (hs : ksb S w) (z : kbs b S = 0) (nz : S ≠ 0) : 1 ≤ R S := by
  have hS := ksb_ten hw hs
  have e : S - S = 0 := by omega
  have := (h.2 S hs nz).1 S ⟨ksb_rf hS, (klw_p hS nz).1.2.2, z, by rw [e, h.1]; omega⟩
  rw [e, h.1] at this
  omega
theorem kgR_Z (hw : ten w) (h : kgR b R O w) {S : Int} (hs : ksb S w) (z : kbs b S = 0) : 0 ≤ R S := by
  by_cases nz : S = 0
  · rw [nz, h.1]; omega
  · have := kgR_S hw h hs z nz; omega
theorem kgR_O (hw : ten w) (h : kgR b R O w) {S : Int} (hs : ksb S w) (z : kbs b S = 0) (nz : S ≠ 0) : kO1 b R S (O S) ∧ R S = R (S - O S) + 1 ∧ ∀ t : Int, t < O S → kO1 b R S t → R (S - t) + 1 < R S := by
  have := kgR_S hw h hs z nz
  exact (h.2 S hs nz).2.resolve_left (by omega)
theorem kbs_d0 {S t : Int} (hS : ten S) (h : ksb t S) (z : kbs b S = 0) (y : kbs b t = 0) : kbs b (S - t) = 0 := by
  have := kbs_split (b := b) hS h; omega
theorem kO1_lt {S t : Int} (hS : ten S) (nz : S ≠ 0) (h : kO1 b R S t) : 0 < t ∧ t ≤ S := by
  have := ksb_le hS h.1
  have : t ≠ 0 := fun u => by have := h.2.1; rw [u, tb_zero] at this; cases this
  omega
theorem kgR_T (hw : ten w) (h : kgR b R O w) {D : Int} (zD : kbs b D = 0) (nD : D ≠ 0) : ∀ (n : Nat) (S : Int), S ≤ n → ksb S w → kbs b S = 0 → ksb D S → R (S - D) + 1 ≤ R S := by
  intro n
  induction n with
  | zero =>
    intro S hn hs z hd
    have := (ksb_le hw hs).1
    have := ksb_le (ksb_ten hw hs) hd
    omega
  | succ n ih =>
    intro S hn hs z hd
    have hS := ksb_ten hw hs
    have nz : S ≠ 0 := fun u => by have := ksb_le hS hd; omega
    have dd := ksb_diff hS hd
    have hT := ksb_tr hS hw (ksb_dsub hS hd) hs
    have zT := kbs_d0 hS hd z zD
    obtain ⟨⟨l0, l1, l2⟩, l3, l4⟩ := klw_p hS nz
    cases e : tb D (klw S) with
    | true => exact (h.2 S hs nz).1 D ⟨hd, e, zD, kgR_Z hw h hT zT⟩
    | false =>
      have bT : tb (S - D) (klw S) = true := by rw [dd.2 _ l0, l2, e]; rfl
      have nT : S - D ≠ 0 := fun u => by rw [u, tb_zero] at bT; cases bT
      obtain ⟨⟨p0, p1, p2⟩, p3, p4⟩ := klw_p dd.1 nT
      have le : klw (S - D) = klw S := by
        refine Classical.byContradiction fun ne => ?_
        by_cases c : klw (S - D) < klw S
        · have a := l3 _ p0 c
          have := dd.2 _ p0
          rw [p2, a] at this
          simp at this
        · have := p3 (klw S) l0 (by omega)
          rw [bT] at this; cases this
      obtain ⟨⟨t1, t2, t3, t4⟩, t5, t6⟩ := kgR_O hw h hT zT nT
      rw [le] at t2
      obtain ⟨t, et⟩ : ∃ t : Int, t = O (S - D) := ⟨_, rfl⟩
      rw [← et] at t1 t2 t3 t4 t5
      have x := ksb_ddd hS hd t1
      have zr := kbs_d0 hS x.1 z t3
      have hr := ksb_tr hS hw (ksb_dsub hS x.1) hs
      have a := (h.2 S hs nz).1 t ⟨x.1, t2, t3, kgR_Z hw h hr zr⟩
      have tp : t ≠ 0 := fun u => by rw [u, tb_zero] at t2; cases t2
      have tl := ksb_le hS x.1
      have i := ih (S - t) (by omega) hr zr x.2
      have e2 : S - t - D = S - D - t := by omega
      rw [e2] at i
      omega
/-- both count alike -/
theorem kgE (hw : ten w) (hG : kgG b G w) (hR : kgR b R O w) : ∀ (n : Nat) (S : Int), S ≤ n → ksb S w → kbs b S = 0 → G S = R S := by
  intro n
  induction n with
  | zero =>
    intro S hn hs z
    have := (ksb_le hw hs).1
    rw [show S = 0 by omega, hG.1, hR.1]
  | succ n ih =>
    intro S hn hs z
    have hS := ksb_ten hw hs
    by_cases nz : S = 0
    · rw [nz, hG.1, hR.1]
    · obtain ⟨T, t1, t2, t3, t4⟩ := kgG_dn hw hG hs z nz
      have i := ih T (by omega) (ksb_tr hS hw t1 hs) t3
      have d := kgR_T hw hR (D := S - T) (kbs_d0 hS t1 z t3) (by omega) S.toNat S (by omega) hs z (ksb_dsub hS t1)
      rw [show S - (S - T) = T by omega] at d
      obtain ⟨o1, o2, o3⟩ := kgR_O hw hR hs z nz
      have ol := kO1_lt hS nz o1
      have hy := ksb_tr hS hw (ksb_dsub hS o1.1) hs
      have zy := kbs_d0 hS o1.1 z o1.2.2.1
      have j := ih (S - O S) (by omega) hy zy
      have u := kgG_up hw hG hs z (ksb_dsub hS o1.1) (by omega)
      omega
/-- the class's first group is the reference's -/
theorem kgF (hw : ten w) (hG : kgG b G w) (hR : kgR b R O w) {S : Int} (hs : ksb S w) (z : kbs b S = 0) (nz : S ≠ 0) : (ksb (O S) S ∧ tb (O S) (klw S) = true ∧ kbs b (O S) = 0 ∧ G (S - O S) = G S - 1 ∧ 0 < O S) ∧ ∀ t : Int, t < O S → ksb t S → tb t (klw S) = true → ¬ (kbs b t = 0 ∧ G (S - t) = G S - 1) := by
  have hS := ksb_ten hw hs
  obtain ⟨o1, o2, o3⟩ := kgR_O hw hR hs z nz
  have eS := kgE hw hG hR S.toNat S (by have := hS.1; omega) hs z
  have f : ∀ t : Int, ksb t S → kbs b t = 0 → G (S - t) = R (S - t) := fun t h1 h2 => by
    have le := ksb_le hS h1
    exact kgE hw hG hR (S - t).toNat (S - t) (by omega) (ksb_tr hS hw (ksb_dsub hS h1) hs) (kbs_d0 hS h1 z h2)
  refine ⟨⟨o1.1, o1.2.1, o1.2.2.1, by rw [f _ o1.1 o1.2.2.1, eS]; omega, (kO1_lt hS nz o1).1⟩, fun t lt h1 h2 h3 => ?_⟩
  have := o3 t lt ⟨h1, h2, h3.1, kgR_Z hw hR (ksb_tr hS hw (ksb_dsub hS h1) hs) (kbs_d0 hS h1 z h3.1)⟩
  rw [f t h1 h3.1, eS] at h3
  omega
end GR

