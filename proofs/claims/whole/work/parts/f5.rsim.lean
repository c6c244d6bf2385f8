/-! ===== the reference works out an expression: pieces ===== -/
/-- what the reference's evaluation keeps: all but scratch, and where it stands -/
def kRy (m C : km_Mm) (o p b : Int) (Y : km_Mm) : Prop := kMj m Y ∧ (∀ d j : Int, d < 123 ∨ (174 ≤ d ∧ d ≤ 181) → Y d j = C d j) ∧ Y 123 55 = o ∧ Y 123 57 = p ∧ Y 123 58 = b
/-- how a knot ends -/
def kdR (q : Nat × Int × Int × Int × Int) (c s : Nat) (m C : km_Mm) (o p b n0 h : Int) (M : km_Mm) (g t x hs hm ha : Int) (ν ς σ : Int → Int) (r : Option Int) : Prop :=
  (r = none → ∃ (Y' : km_Mm) (g' t' x' hs' hm' ha' : Int) (ν' ς' σ' : Int → Int), kRy m C o p b Y' ∧ kvT q c s n0 M 0 (kmR Y' g' t' 1 x' hs' hm' ha' ν' ς' σ')) ∧
  (∀ v : Int, r = some v → ∃ (Y' : km_Mm) (hs' hm' ha' : Int) (ν' ς' σ' : Int → Int), kRy m C o p b Y' ∧ (h = 1 → hs' = hs ∧ hm' = hm ∧ ha' = ha) ∧ (∀ j : Int, j < g → ν' j = ν j ∧ ς' j = ς j) ∧ (∀ j : Int, j < t → σ' j = σ j) ∧ σ' t = v ∧ kvE q c s n0 M (kmR Y' g (t + 1) 0 x hs' hm' ha' ν' ς' σ'))
/-- what is asked of the names -/
def kNr (q : Nat × Int × Int × Int × Int) (c s : Nat) (m C : km_Mm) (o p b : Int) (V : Int → Int → Int) (al : List Int) (ln : Int) : Prop := ∀ (x v h g t hs hm ha : Int) (ν ς σ : Int → Int) (Y : km_Mm), kRy m C o p b Y → kok ln v h → ((h = 1 ∧ x ∈ al) ∨ (h = 0 ∧ x = -1)) → ∃ Y' : km_Mm, kRy m C o p b Y' ∧ ∀ Q : Option km_V → km_Al → km_Mm → Prop, km_E M_X12_nameValue [.inr (.inr 123), .inl v] (km_A0 q c s) (kmR Y g t 0 x hs hm ha ν ς σ) Q ↔ Q (some (.inr (.inl (V x v)))) (km_A0 q c s) (kmR Y' g t 0 x hs hm ha ν ς σ)
/-- what is asked of the next kin: a has the bits of those alive, K how many kin -/
def khd : List Int → Int
  | [] => -1
  | y :: _ => y
def kNx (q : Nat × Int × Int × Int × Int) (c s : Nat) (m C : km_Mm) (o p b a K : Int) : Prop := ∀ (x g t er hs hm ha : Int) (ν ς σ : Int → Int) (Y : km_Mm), kRy m C o p b Y → -1 ≤ x → x < K → ∃ Y' : km_Mm, kRy m C o p b Y' ∧ ∀ Q : Option km_V → km_Al → km_Mm → Prop, km_E M_X12_nextKin [.inr (.inr 123), .inl x] (km_A0 q c s) (kmR Y g t er x hs hm ha ν ς σ) Q ↔ Q (some (.inl (khd (kal a (K - (x + 1)).toNat (x + 1))))) (km_A0 q c s) (kmR Y' g t er x hs hm ha ν ς σ)
def kzS (q : Nat × Int × Int × Int × Int) (c s : Nat) (m C X : km_Mm) (o p b n0 P ln : Int) (N : Int → Prop) (V : Int → Int → Int) (al : List Int) (f : Nat) : Prop := ∀ (h n a e k : Int), kcd X m P ln N f h n a e k → ∀ (x g t hs hm ha : Int) (ν ς σ : Int → Int) (Y : km_Mm), kRy m C o p b Y → ((h = 1 ∧ x ∈ al) ∨ (h = 0 ∧ x = -1)) → 0 ≤ g → g + k ≤ 290 → 0 ≤ t → t + k ≤ 290 → ν g = n → ς g = 0 → kdR q c s m C o p b n0 h (kmR Y (g + 1) t 0 x hs hm ha ν ς σ) g t x hs hm ha ν ς σ (kev m V al f x n)
section KD
variable {q : Nat × Int × Int × Int × Int} {c s : Nat} {m C X Y M : km_Mm} {o p b n0 h g t x hs hm ha n k1 k2 : Int} {ν ς σ : Int → Int} {N : Int → Prop} {V : Int → Int → Int} {al : List Int} {f : Nat}
theorem kRy_r (h : kRy m C o p b Y) (r : Int) (r1 : 138 ≤ r) (r2 : r ≤ 141) : Y r = m r := funext fun j => h.1 r j (by omega) (by unfold kJ; omega)
theorem sd_none {r : Option Int} {M1 : km_Mm} {h1 g1 t1 x1 hs1 hm1 ha1 : Int} {ν1 ς1 σ1 : Int → Int} (k : kdR q c s m C o p b n0 h1 M1 g1 t1 x1 hs1 hm1 ha1 ν1 ς1 σ1 r) (hr : r = none) (e : kvE q c s n0 M M1) : kdR q c s m C o p b n0 h M g t x hs hm ha ν ς σ none := by
  refine ⟨fun _ => ?_, fun v w => (by cases w)⟩
  obtain ⟨Y', g', t', x', hs', hm', ha', ν', ς', σ', a1, a2⟩ := k.1 hr
  exact ⟨Y', g', t', x', hs', hm', ha', ν', ς', σ', a1, kvT_of e a2⟩
/-- a sign ahead -/
theorem sd_ahead {r : Option Int} {gg : Int → Int} (hY : kRy m C o p b Y) (hn : 0 ≤ n ∧ n < 120) (hg : 0 ≤ g ∧ g < 289) (ht : 0 ≤ t ∧ t < 289) (hk : (m 138 n = 6 ∧ ∀ v, gg v = if v = 0 then 1 else 0) ∨ (m 138 n = 7 ∧ ∀ v, gg v = -v)) (hν : ν g = n) (hς : ς g = 0) (k : ∀ (ν1 ς1 : Int → Int), ν1 (g + 1) = m 139 n → ς1 (g + 1) = 0 → kdR q c s m C o p b n0 h (kmR Y (g + 1 + 1) t 0 x hs hm ha ν1 ς1 σ) (g + 1) t x hs hm ha ν1 ς1 σ r) (h12 : ∀ v, r = some v → k12 v) : kdR q c s m C o p b n0 h (kmR Y (g + 1) t 0 x hs hm ha ν ς σ) g t x hs hm ha ν ς σ (kah gg r) := by
  have r8 := kRy_r hY 138 (by decide) (by decide)
  have r9 := kRy_r hY 139 (by decide) (by decide)
  have e1 : kvE q c s n0 (kmR Y (g + 1) t 0 x hs hm ha ν ς σ) (kmR Y (g + 1 + 1) t 0 x hs hm ha (km_u1 ν (g + 1) (Y 139 n)) (km_u1 (km_u1 ς g 1) (g + 1) 0) σ) := v_sign (by omega) (by omega) hν (by rw [r8]; omega) (fun Q => by rw [hς]; exact g_sg0 (by omega) (by omega))
  rw [r9] at e1
  have kk := k (km_u1 ν (g + 1) (m 139 n)) (km_u1 (km_u1 ς g 1) (g + 1) 0) km_u1_s km_u1_s
  cases hr : r with
  | none => exact sd_none kk hr e1
  | some v =>
    refine ⟨fun w => (by cases w), fun w hw => ?_⟩
    obtain ⟨Y1, hs1, hm1, ha1, ν1, ς1, σ1, a1, a2, a3, a4, a5, a6⟩ := kk.2 v hr
    have v12 := h12 v hr
    have s8 := kRy_r a1 138 (by decide) (by decide)
    have nu : ν1 g = n := by rw [(a3 g (by omega)).1, km_u1_o (by omega)]; exact hν
    have st : ς1 g = 1 := by rw [(a3 g (by omega)).2, km_u1_o (by omega), km_u1_s]
    have e2 : kvE q c s n0 (kmR Y1 (g + 1) (t + 1) 0 x hs1 hm1 ha1 ν1 ς1 σ1) (kmR Y1 g (t + 1) 0 x hs1 hm1 ha1 ν1 ς1 (km_u1 σ1 t (if Y1 138 n = 6 then (if σ1 t = 0 then 1 else 0) else -(σ1 t)))) := v_sign (by omega) (by omega) nu (by rw [s8]; omega) (fun Q => by rw [st]; exact g_sg1u (by omega) (by omega) (by omega) (by rw [s8]; omega) (by rw [a5]; exact v12))
    have hw : some (gg v) = some w := hw
    cases hw
    refine ⟨Y1, hs1, hm1, ha1, ν1, ς1, _, a1, a2, fun j hj => ⟨?_, ?_⟩, fun j hj => ?_, ?_, kvE_tr e1 (kvE_tr a6 e2)⟩
    · rw [(a3 j (by omega)).1, km_u1_o (by omega)]
    · rw [(a3 j (by omega)).2, km_u1_o (by omega), km_u1_o (by omega)]
    · rw [km_u1_o (by omega)]; exact a4 j hj
    · rw [km_u1_s, a5, s8]
      rcases hk with ⟨h1, h2⟩ | ⟨h1, h2⟩
      · rw [if_pos h1, h2]
      · rw [if_neg (by omega), h2]
/-- and, or -/
theorem sd_join {r1 r2 : Option Int} {oo : Int} (hY : kRy m C o p b Y) (hn : 0 ≤ n ∧ n < 120) (hg : 0 ≤ g ∧ g < 289) (ht : 0 ≤ t ∧ t < 288) (hk : (m 138 n = 8 ∧ oo = 24) ∨ (m 138 n = 9 ∧ oo = 25)) (hν : ν g = n) (hς : ς g = 0) (k : ∀ (ν1 ς1 : Int → Int), ν1 (g + 1) = m 139 n → ς1 (g + 1) = 0 → kdR q c s m C o p b n0 h (kmR Y (g + 1 + 1) t 0 x hs hm ha ν1 ς1 σ) (g + 1) t x hs hm ha ν1 ς1 σ r1)
    (k2 : ∀ (Y : km_Mm) (hs hm ha : Int) (ν1 ς1 σ : Int → Int), kRy m C o p b Y → ν1 (g + 1) = m 140 n → ς1 (g + 1) = 0 → kdR q c s m C o p b n0 h (kmR Y (g + 1 + 1) (t + 1) 0 x hs hm ha ν1 ς1 σ) (g + 1) (t + 1) x hs hm ha ν1 ς1 σ r2) : kdR q c s m C o p b n0 h (kmR Y (g + 1) t 0 x hs hm ha ν ς σ) g t x hs hm ha ν ς σ (kjn oo r1 r2) := by
  have r8 := kRy_r hY 138 (by decide) (by decide)
  have r9 := kRy_r hY 139 (by decide) (by decide)
  have e1 : kvE q c s n0 (kmR Y (g + 1) t 0 x hs hm ha ν ς σ) (kmR Y (g + 1 + 1) t 0 x hs hm ha (km_u1 ν (g + 1) (Y 139 n)) (km_u1 (km_u1 ς g 1) (g + 1) 0) σ) := v_sign (by omega) (by omega) hν (by rw [r8]; omega) (fun Q => by rw [hς]; exact g_sg0 (by omega) (by omega))
  rw [r9] at e1
  have kk := k (km_u1 ν (g + 1) (m 139 n)) (km_u1 (km_u1 ς g 1) (g + 1) 0) km_u1_s km_u1_s
  cases hr : r1 with
  | none => exact sd_none kk hr e1
  | some v =>
    obtain ⟨Y1, hs1, hm1, ha1, ν1, ς1, σ1, a1, a2, a3, a4, a5, a6⟩ := kk.2 v hr
    have s8 := kRy_r a1 138 (by decide) (by decide)
    have s0 := kRy_r a1 140 (by decide) (by decide)
    have nu : ν1 g = n := by rw [(a3 g (by omega)).1, km_u1_o (by omega)]; exact hν
    have st : ς1 g = 1 := by rw [(a3 g (by omega)).2, km_u1_o (by omega), km_u1_s]
    show kdR q c s m C o p b n0 h (kmR Y (g + 1) t 0 x hs hm ha ν ς σ) g t x hs hm ha ν ς σ (if (v = 0) = (oo = 25) then some (if oo = 25 then 0 else 1) else kmt r2)
    by_cases z : (v = 0) = (oo = 25)
    · rw [if_pos z]
      have dz : (Y1 138 n = 8 ∧ σ1 t ≠ 0) ∨ (Y1 138 n = 9 ∧ σ1 t = 0) := by
        rw [s8, a5]
        rcases hk with ⟨h1, h2⟩ | ⟨h1, h2⟩
        · exact Or.inl ⟨h1, fun w => by rw [h2, eq_true w] at z; exact absurd z.symm (by decide)⟩
        · exact Or.inr ⟨h1, by rw [h2] at z; exact z.mpr rfl⟩
      have e2 : kvE q c s n0 (kmR Y1 (g + 1) (t + 1) 0 x hs1 hm1 ha1 ν1 ς1 σ1) (kmR Y1 g (t + 1) 0 x hs1 hm1 ha1 ν1 ς1 (km_u1 σ1 t (if Y1 138 n = 8 then 1 else 0))) := v_sign (by omega) (by omega) nu (by rw [s8]; omega) (fun Q => by rw [st]; exact g_sg1d (by omega) (by omega) (by omega) dz)
      refine ⟨fun w => (by cases w), fun w hw => ?_⟩
      cases hw
      refine ⟨Y1, hs1, hm1, ha1, ν1, ς1, _, a1, a2, fun j hj => ⟨?_, ?_⟩, fun j hj => ?_, ?_, kvE_tr e1 (kvE_tr a6 e2)⟩
      · rw [(a3 j (by omega)).1, km_u1_o (by omega)]
      · rw [(a3 j (by omega)).2, km_u1_o (by omega), km_u1_o (by omega)]
      · rw [km_u1_o (by omega)]; exact a4 j hj
      · rw [km_u1_s, s8]
        rcases hk with ⟨h1, h2⟩ | ⟨h1, h2⟩
        · rw [if_pos h1, if_neg (by omega)]
        · rw [if_neg (by omega), if_pos h2]
    · rw [if_neg z]
      have dz : (Y1 138 n = 8 ∧ σ1 t = 0) ∨ (Y1 138 n = 9 ∧ σ1 t ≠ 0) ∨ 10 ≤ Y1 138 n := by
        rw [s8, a5]
        rcases hk with ⟨h1, h2⟩ | ⟨h1, h2⟩
        · refine Or.inl ⟨h1, ?_⟩
          by_cases w : v = 0
          · exact w
          · exact absurd (by rw [eq_false w, h2]; decide) z
        · exact Or.inr (Or.inl ⟨h1, fun w => z (by rw [eq_true w, eq_true h2])⟩)
      have e2 : kvE q c s n0 (kmR Y1 (g + 1) (t + 1) 0 x hs1 hm1 ha1 ν1 ς1 σ1) (kmR Y1 (g + 1 + 1) (t + 1) 0 x hs1 hm1 ha1 (km_u1 ν1 (g + 1) (Y1 140 n)) (km_u1 (km_u1 ς1 g 2) (g + 1) 0) σ1) := v_sign (by omega) (by omega) nu (by rw [s8]; omega) (fun Q => by rw [st]; exact g_sg1g (by omega) (by omega) (by omega) dz)
      rw [s0] at e2
      have kk2 := k2 Y1 hs1 hm1 ha1 (km_u1 ν1 (g + 1) (m 140 n)) (km_u1 (km_u1 ς1 g 2) (g + 1) 0) σ1 a1 km_u1_s km_u1_s
      cases hr2 : r2 with
      | none => exact sd_none kk2 hr2 (kvE_tr e1 (kvE_tr a6 e2))
      | some u =>
        obtain ⟨Y2, hs2, hm2, ha2, ν2, ς2, σ2, b1, b2, b3, b4, b5, b6⟩ := kk2.2 u hr2
        have u8 := kRy_r b1 138 (by decide) (by decide)
        have nu2 : ν2 g = n := by rw [(b3 g (by omega)).1, km_u1_o (by omega)]; exact nu
        have st2 : ς2 g = 2 := by rw [(b3 g (by omega)).2, km_u1_o (by omega), km_u1_s]
        have e3 : kvE q c s n0 (kmR Y2 (g + 1) (t + 1 + 1) 0 x hs2 hm2 ha2 ν2 ς2 σ2) (kmR Y2 g (t + 1) 0 x hs2 hm2 ha2 ν2 ς2 (km_u1 σ2 t (ktr (σ2 (t + 1))))) := v_sign (by omega) (by omega) nu2 (by rw [u8]; omega) (fun Q => by rw [st2]; exact g_sg2j (by omega) (by omega) (by omega) (by rw [u8]; omega))
        refine ⟨fun w => (by cases w), fun w hw => ?_⟩
        have hw : some (ktr u) = some w := hw
        cases hw
        refine ⟨Y2, hs2, hm2, ha2, ν2, ς2, _, b1, fun w => by have := a2 w; have := b2 w; omega, fun j hj => ⟨?_, ?_⟩, fun j hj => ?_, ?_, kvE_tr e1 (kvE_tr a6 (kvE_tr e2 (kvE_tr b6 e3)))⟩
        · rw [(b3 j (by omega)).1, km_u1_o (by omega), (a3 j (by omega)).1, km_u1_o (by omega)]
        · rw [(b3 j (by omega)).2, km_u1_o (by omega), km_u1_o (by omega), (a3 j (by omega)).2, km_u1_o (by omega), km_u1_o (by omega)]
        · rw [km_u1_o (by omega), b4 j (by omega)]; exact a4 j hj
        · rw [km_u1_s, b5]
/-- a sign between -/
theorem sd_sign {r1 r2 : Option Int} (hY : kRy m C o p b Y) (hn : 0 ≤ n ∧ n < 120) (hg : 0 ≤ g ∧ g < 289) (ht : 0 ≤ t ∧ t < 288) (hk : 10 ≤ m 138 n ∧ m 138 n ≤ 20) (hν : ν g = n) (hς : ς g = 0) (k : ∀ (ν1 ς1 : Int → Int), ν1 (g + 1) = m 139 n → ς1 (g + 1) = 0 → kdR q c s m C o p b n0 h (kmR Y (g + 1 + 1) t 0 x hs hm ha ν1 ς1 σ) (g + 1) t x hs hm ha ν1 ς1 σ r1) (h11 : ∀ v, r1 = some v → k12 v)
    (k2 : ∀ (Y : km_Mm) (hs hm ha : Int) (ν1 ς1 σ : Int → Int), kRy m C o p b Y → ν1 (g + 1) = m 140 n → ς1 (g + 1) = 0 → kdR q c s m C o p b n0 h (kmR Y (g + 1 + 1) (t + 1) 0 x hs hm ha ν1 ς1 σ) (g + 1) (t + 1) x hs hm ha ν1 ς1 σ r2) (h12 : ∀ v, r2 = some v → k12 v) : kdR q c s m C o p b n0 h (kmR Y (g + 1) t 0 x hs hm ha ν ς σ) g t x hs hm ha ν ς σ (ksn (m 138 n) r1 r2) := by
  have r8 := kRy_r hY 138 (by decide) (by decide)
  have r9 := kRy_r hY 139 (by decide) (by decide)
  have e1 : kvE q c s n0 (kmR Y (g + 1) t 0 x hs hm ha ν ς σ) (kmR Y (g + 1 + 1) t 0 x hs hm ha (km_u1 ν (g + 1) (Y 139 n)) (km_u1 (km_u1 ς g 1) (g + 1) 0) σ) := v_sign (by omega) (by omega) hν (by rw [r8]; omega) (fun Q => by rw [hς]; exact g_sg0 (by omega) (by omega))
  rw [r9] at e1
  have kk := k (km_u1 ν (g + 1) (m 139 n)) (km_u1 (km_u1 ς g 1) (g + 1) 0) km_u1_s km_u1_s
  cases hr : r1 with
  | none => exact sd_none kk hr e1
  | some v =>
    obtain ⟨Y1, hs1, hm1, ha1, ν1, ς1, σ1, a1, a2, a3, a4, a5, a6⟩ := kk.2 v hr
    have v12 := h11 v hr
    have s8 := kRy_r a1 138 (by decide) (by decide)
    have s0 := kRy_r a1 140 (by decide) (by decide)
    have nu : ν1 g = n := by rw [(a3 g (by omega)).1, km_u1_o (by omega)]; exact hν
    have st : ς1 g = 1 := by rw [(a3 g (by omega)).2, km_u1_o (by omega), km_u1_s]
    have e2 : kvE q c s n0 (kmR Y1 (g + 1) (t + 1) 0 x hs1 hm1 ha1 ν1 ς1 σ1) (kmR Y1 (g + 1 + 1) (t + 1) 0 x hs1 hm1 ha1 (km_u1 ν1 (g + 1) (Y1 140 n)) (km_u1 (km_u1 ς1 g 2) (g + 1) 0) σ1) := v_sign (by omega) (by omega) nu (by rw [s8]; omega) (fun Q => by rw [st]; exact g_sg1g (by omega) (by omega) (by omega) (Or.inr (Or.inr (by rw [s8]; exact hk.1))))
    rw [s0] at e2
    have kk2 := k2 Y1 hs1 hm1 ha1 (km_u1 ν1 (g + 1) (m 140 n)) (km_u1 (km_u1 ς1 g 2) (g + 1) 0) σ1 a1 km_u1_s km_u1_s
    cases hr2 : r2 with
    | none => exact sd_none kk2 hr2 (kvE_tr e1 (kvE_tr a6 e2))
    | some u =>
      obtain ⟨Y2, hs2, hm2, ha2, ν2, ς2, σ2, b1, b2, b3, b4, b5, b6⟩ := kk2.2 u hr2
      have u12 := h12 u hr2
      have u8 := kRy_r b1 138 (by decide) (by decide)
      have nu2 : ν2 g = n := by rw [(b3 g (by omega)).1, km_u1_o (by omega)]; exact nu
      have st2 : ς2 g = 2 := by rw [(b3 g (by omega)).2, km_u1_o (by omega), km_u1_s]
      have lv : σ2 t = v := (b4 t (by omega)).trans a5
      obtain ⟨y, y1, y2⟩ := @d_made q c s Y2 g t x hs2 hm2 ha2 (σ2 t) (σ2 (t + 1)) (Y2 138 n) ν2 ς2 σ2 (by rw [u8]; exact hk) (by rw [lv]; exact v12) (by rw [b5]; exact u12)
      have e3 : kvE q c s n0 (kmR Y2 (g + 1) (t + 1 + 1) 0 x hs2 hm2 ha2 ν2 ς2 σ2) (kmR Y2 g (t + 1) (if kmd (Y2 138 n) (σ2 t) (σ2 (t + 1)) = none then 1 else 0) x hs2 hm2 ha2 ν2 ς2 (km_u1 σ2 t y)) := v_sign (by omega) (by omega) nu2 (by rw [u8]; omega) (fun Q => by rw [st2]; exact g_sg2s (by omega) (by omega) (by omega) (by rw [u8]; exact hk.1) y2)
      rw [u8, lv, b5] at y1 e3
      have eAll := kvE_tr e1 (kvE_tr a6 (kvE_tr e2 (kvE_tr b6 e3)))
      refine ⟨fun w => ?_, fun w hw => ?_⟩
      · have w : kmd (m 138 n) v u = none := w
        rw [if_pos w] at eAll
        exact ⟨Y2, _, _, _, _, _, _, _, _, _, b1, kvT_of eAll v_err⟩
      · have hw : kmd (m 138 n) v u = some w := hw
        rw [if_neg (by rw [hw]; exact fun w => by cases w)] at eAll
        refine ⟨Y2, hs2, hm2, ha2, ν2, ς2, _, b1, fun w => by have := a2 w; have := b2 w; omega, fun j hj => ⟨?_, ?_⟩, fun j hj => ?_, ?_, eAll⟩
        · rw [(b3 j (by omega)).1, km_u1_o (by omega), (a3 j (by omega)).1, km_u1_o (by omega)]
        · rw [(b3 j (by omega)).2, km_u1_o (by omega), km_u1_o (by omega), (a3 j (by omega)).2, km_u1_o (by omega), km_u1_o (by omega)]
        · rw [km_u1_o (by omega), b4 j (by omega)]; exact a4 j hj
        · rw [km_u1_s]; exact y1 w hw
end KD

