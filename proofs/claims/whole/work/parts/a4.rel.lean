/-! ===== RULES: the class's steps and the reference's knots ===== -/
def ksg (k : Int) : Int := if k = 10 then 11 else if k = 11 then 14 else if k = 12 then 12 else if k = 13 then 16 else if k = 14 then 13 else if k = 15 then 15 else if k = 16 then 6 else if k = 17 then 7 else if k = 18 then 8 else if k = 19 then 9 else 10
/-- the name v may stand in a line, within a HEAP (h 1) or not -/
def kok (ln v h : Int) : Prop := (12 ≤ v ∧ v ≤ 26) ∧ ((ln = 3 ∧ ((23 ≤ v ∧ v ≤ 25) ∨ (h = 1 ∧ ((16 ≤ v ∧ v ≤ 19) ∨ v = 26)))) ∨ (ln ≠ 3 ∧ v ≤ 22 ∧ (v ≤ 15 ∨ ln = 2 ∨ h = 1)))
/-- the steps from a to b of the program P (cells X) are those of the knot n (cells Y), t knots in all, all in N -/
def kcd (X Y : km_Mm) (P ln : Int) (N : Int → Prop) : Nat → Int → Int → Int → Int → Int → Prop
  | 0, _, _, _, _, _ => False
  | f + 1, h, n, a, b, t => N n ∧ (
    (Y 138 n = 0 ∧ t = 1 ∧ b = a + 1 ∧ X (P + 1) a = 2 ∧ X (P + 2) a = Y 141 n ∧ 0 ≤ Y 141 n ∧ Y 141 n ≤ 999999) ∨
    (Y 138 n = 1 ∧ t = 1 ∧ b = a + 1 ∧ X (P + 1) a = 52 ∧ X (P + 2) a = Y 141 n + 20 ∧ kok ln (Y 141 n) h ∧ tb (X P 9) (Y 141 n - 12) = true) ∨
    (((Y 138 n = 6 ∧ X (P + 1) (b - 1) = 26) ∨ (Y 138 n = 7 ∧ X (P + 1) (b - 1) = 50)) ∧ kcd X Y P ln N f h (Y 139 n) a (b - 1) (t - 1)) ∨
    (∃ c t1 t2 : Int, ((Y 138 n = 8 ∧ X (P + 1) c = 24) ∨ (Y 138 n = 9 ∧ X (P + 1) c = 25)) ∧ t = t1 + t2 + 1 ∧ kcd X Y P ln N f h (Y 139 n) a c t1 ∧ X (P + 2) c = b ∧ kcd X Y P ln N f h (Y 140 n) (c + 1) (b - 1) t2 ∧ X (P + 1) (b - 1) = 51) ∨
    ((10 ≤ Y 138 n ∧ Y 138 n ≤ 20) ∧ X (P + 1) (b - 1) = ksg (Y 138 n) ∧ ∃ c t1 t2 : Int, t = t1 + t2 + 1 ∧ kcd X Y P ln N f h (Y 139 n) a c t1 ∧ kcd X Y P ln N f h (Y 140 n) c (b - 1) t2) ∨
    ((2 ≤ Y 138 n ∧ Y 138 n ≤ 5) ∧ h = 0 ∧ X (P + 1) a = 53 ∧ X (P + 2) a = Y 138 n + 26 ∧ X (P + 4) a = b ∧
      ((Y 140 n = -1 ∧ X (P + 3) a = -1 ∧ X (P + 1) (b - 1) = 54 ∧ kcd X Y P ln N f 1 (Y 139 n) (a + 1) (b - 1) (t - 1)) ∨
       (Y 138 n ≠ 5 ∧ 0 ≤ Y 140 n ∧ X (P + 1) (b - 1) = 55 ∧ ∃ c t1 t2 : Int, t = t1 + t2 + 1 ∧ kcd X Y P ln N f 1 (Y 139 n) (a + 1) c t1 ∧ X (P + 1) c = 54 ∧ X (P + 3) a = c + 1 ∧ kcd X Y P ln N f 1 (Y 140 n) (c + 1) (b - 1) t2))))
theorem kcd_b {X Y : km_Mm} {P ln : Int} {N : Int → Prop} : ∀ (f : Nat) (h n a b t : Int), kcd X Y P ln N f h n a b t → a < b ∧ b - a ≤ 3 * t ∧ 1 ≤ t ∧ N n := by
  intro f
  induction f with
  | zero => intro h n a b t k; exact k.elim
  | succ f ih =>
    intro h n a b t k
    obtain ⟨kN, k⟩ := k
    rcases k with ⟨_, k1, k2, _⟩ | ⟨_, k1, k2, _⟩ | ⟨_, k1⟩ | ⟨c, t1, t2, _, k0, k1, _, k2, _⟩ | ⟨_, _, c, t1, t2, k0, k1, k2⟩ | ⟨_, _, _, _, _, k⟩
    · exact ⟨by omega, by omega, by omega, kN⟩
    · exact ⟨by omega, by omega, by omega, kN⟩
    · have := ih _ _ _ _ _ k1; exact ⟨by omega, by omega, by omega, kN⟩
    · have := ih _ _ _ _ _ k1; have := ih _ _ _ _ _ k2; exact ⟨by omega, by omega, by omega, kN⟩
    · have := ih _ _ _ _ _ k1; have := ih _ _ _ _ _ k2; exact ⟨by omega, by omega, by omega, kN⟩
    · rcases k with ⟨_, _, _, k1⟩ | ⟨_, _, _, c, t1, t2, k0, k1, _, _, k2⟩
      · have := ih _ _ _ _ _ k1; exact ⟨by omega, by omega, by omega, kN⟩
      · have := ih _ _ _ _ _ k1; have := ih _ _ _ _ _ k2; exact ⟨by omega, by omega, by omega, kN⟩
theorem kcd_up {X Y : km_Mm} {P ln : Int} {N : Int → Prop} : ∀ (f : Nat) (h n a b t : Int), kcd X Y P ln N f h n a b t → kcd X Y P ln N (f + 1) h n a b t := by
  intro f
  induction f with
  | zero => intro h n a b t k; exact k.elim
  | succ f ih =>
    intro h n a b t k
    obtain ⟨kN, k⟩ := k
    refine ⟨kN, ?_⟩
    rcases k with k | k | ⟨k0, k1⟩ | ⟨c, t1, t2, k0, k1, k2, k3, k4, k5⟩ | ⟨k0, k1, c, t1, t2, k2, k3, k4⟩ | ⟨k0, k1, k2, k3, k4, k⟩
    · exact Or.inl k
    · exact Or.inr (Or.inl k)
    · exact Or.inr (Or.inr (Or.inl ⟨k0, ih _ _ _ _ _ k1⟩))
    · exact Or.inr (Or.inr (Or.inr (Or.inl ⟨c, t1, t2, k0, k1, ih _ _ _ _ _ k2, k3, ih _ _ _ _ _ k4, k5⟩)))
    · exact Or.inr (Or.inr (Or.inr (Or.inr (Or.inl ⟨k0, k1, c, t1, t2, k2, ih _ _ _ _ _ k3, ih _ _ _ _ _ k4⟩))))
    · refine Or.inr (Or.inr (Or.inr (Or.inr (Or.inr ⟨k0, k1, k2, k3, k4, ?_⟩))))
      rcases k with ⟨k5, k6, k7, k8⟩ | ⟨k5, k6, k7, c, t1, t2, k8, k9, ka, kb, kc⟩
      · exact Or.inl ⟨k5, k6, k7, ih _ _ _ _ _ k8⟩
      · exact Or.inr ⟨k5, k6, k7, c, t1, t2, k8, ih _ _ _ _ _ k9, ka, kb, ih _ _ _ _ _ kc⟩
theorem kcd_le {X Y : km_Mm} {P ln : Int} {N : Int → Prop} {f g : Nat} (fg : f ≤ g) {h n a b t : Int} (k : kcd X Y P ln N f h n a b t) : kcd X Y P ln N g h n a b t := by
  induction fg with
  | refl => exact k
  | step _ ih => exact kcd_up _ _ _ _ _ _ ih
/-- as many knots as there are are deep enough -/
theorem kcd_fl {X Y : km_Mm} {P ln : Int} {N : Int → Prop} : ∀ (f : Nat) (h n a b t : Int), kcd X Y P ln N f h n a b t → kcd X Y P ln N t.toNat h n a b t := by
  intro f
  induction f with
  | zero => intro h n a b t k; exact k.elim
  | succ f ih =>
    intro h n a b t k
    have kb := kcd_b _ _ _ _ _ _ k
    obtain ⟨kN, k⟩ := k
    rw [show t.toNat = (t - 1).toNat + 1 by omega]
    refine ⟨kN, ?_⟩
    have go : ∀ (h n a b u : Int), u ≤ t - 1 → kcd X Y P ln N f h n a b u → kcd X Y P ln N (t - 1).toNat h n a b u := fun h n a b u ut k => kcd_le (by have := kcd_b _ _ _ _ _ _ k; omega) (ih _ _ _ _ _ k)
    rcases k with k | k | ⟨k0, k1⟩ | ⟨c, t1, t2, k0, k1, k2, k3, k4, k5⟩ | ⟨k0, k1, c, t1, t2, k2, k3, k4⟩ | ⟨k0, k1, k2, k3, k4, k⟩
    · exact Or.inl k
    · exact Or.inr (Or.inl k)
    · exact Or.inr (Or.inr (Or.inl ⟨k0, go _ _ _ _ _ (Int.le_refl _) k1⟩))
    · have b1 := kcd_b _ _ _ _ _ _ k2; have b2 := kcd_b _ _ _ _ _ _ k4
      exact Or.inr (Or.inr (Or.inr (Or.inl ⟨c, t1, t2, k0, k1, go _ _ _ _ _ (by omega) k2, k3, go _ _ _ _ _ (by omega) k4, k5⟩)))
    · have b1 := kcd_b _ _ _ _ _ _ k3; have b2 := kcd_b _ _ _ _ _ _ k4
      exact Or.inr (Or.inr (Or.inr (Or.inr (Or.inl ⟨k0, k1, c, t1, t2, k2, go _ _ _ _ _ (by omega) k3, go _ _ _ _ _ (by omega) k4⟩))))
    · refine Or.inr (Or.inr (Or.inr (Or.inr (Or.inr ⟨k0, k1, k2, k3, k4, ?_⟩))))
      rcases k with ⟨k5, k6, k7, k8⟩ | ⟨k5, k6, k7, c, t1, t2, k8, k9, ka, kb, kc⟩
      · exact Or.inl ⟨k5, k6, k7, go _ _ _ _ _ (Int.le_refl _) k8⟩
      · have b1 := kcd_b _ _ _ _ _ _ k9; have b2 := kcd_b _ _ _ _ _ _ kc
        exact Or.inr ⟨k5, k6, k7, c, t1, t2, k8, go _ _ _ _ _ (by omega) k9, ka, kb, go _ _ _ _ _ (by omega) kc⟩
/-- what a piece of code looks at -/
theorem kcd_cg {X Y X' Y' : km_Mm} {P ln : Int} {N N' : Int → Prop} {lo hi : Int} (hX : ∀ r j : Int, 1 ≤ r → r ≤ 4 → lo ≤ j → j < hi → X' (P + r) j = X (P + r) j) (hn : ∀ k : Int, 0 ≤ k → tb (X P 9) k = true → tb (X' P 9) k = true) (hN : ∀ x, N x → N' x ∧ ∀ r : Int, 138 ≤ r → r ≤ 141 → Y' r x = Y r x) : ∀ (f : Nat) (h n a b t : Int), lo ≤ a → b ≤ hi → kcd X Y P ln N f h n a b t → kcd X' Y' P ln N' f h n a b t := by
  intro f
  induction f with
  | zero => intro h n a b t _ _ k; exact k.elim
  | succ f ih =>
    intro h n a b t la bh k
    have kb := kcd_b _ _ _ _ _ _ k
    obtain ⟨kN, k⟩ := k
    obtain ⟨kN', yy⟩ := hN n kN
    have y0 := yy 138 (by decide) (by decide)
    have y1 := yy 139 (by decide) (by decide)
    have y2 := yy 140 (by decide) (by decide)
    have y3 := yy 141 (by decide) (by decide)
    refine ⟨kN', ?_⟩
    rw [y0, y1, y2, y3]
    have xa : ∀ r : Int, 1 ≤ r → r ≤ 4 → X' (P + r) a = X (P + r) a := fun r r1 r4 => hX r a r1 r4 la (by omega)
    have xb : X' (P + 1) (b - 1) = X (P + 1) (b - 1) := hX 1 (b - 1) (by decide) (by decide) (by omega) (by omega)
    rw [xa 1 (by decide) (by decide), xa 2 (by decide) (by decide), xa 3 (by decide) (by decide), xa 4 (by decide) (by decide), xb]
    rcases k with k | ⟨k0, k1, k2, k3, k4, k5, k6⟩ | ⟨k0, k1⟩ | ⟨c, t1, t2, k0, k1, k2, k3, k4, k5⟩ | ⟨k0, k1, c, t1, t2, k2, k3, k4⟩ | ⟨k0, k1, k2, k3, k4, k⟩
    · exact Or.inl k
    · exact Or.inr (Or.inl ⟨k0, k1, k2, k3, k4, k5, hn _ (by have := k5.1; omega) k6⟩)
    · have b1 := kcd_b _ _ _ _ _ _ k1
      exact Or.inr (Or.inr (Or.inl ⟨k0, ih _ _ _ _ _ la (by omega) k1⟩))
    · have b1 := kcd_b _ _ _ _ _ _ k2; have b2 := kcd_b _ _ _ _ _ _ k4
      refine Or.inr (Or.inr (Or.inr (Or.inl ⟨c, t1, t2, ?_, k1, ih _ _ _ _ _ la (by omega) k2, ?_, ih _ _ _ _ _ (by omega) (by omega) k4, k5⟩)))
      · rw [hX 1 c (by decide) (by decide) (by omega) (by omega)]; exact k0
      · rw [hX 2 c (by decide) (by decide) (by omega) (by omega)]; exact k3
    · have b1 := kcd_b _ _ _ _ _ _ k3; have b2 := kcd_b _ _ _ _ _ _ k4
      exact Or.inr (Or.inr (Or.inr (Or.inr (Or.inl ⟨k0, k1, c, t1, t2, k2, ih _ _ _ _ _ la (by omega) k3, ih _ _ _ _ _ (by omega) (by omega) k4⟩))))
    · refine Or.inr (Or.inr (Or.inr (Or.inr (Or.inr ⟨k0, k1, k2, k3, k4, ?_⟩))))
      rcases k with ⟨k5, k6, k7, k8⟩ | ⟨k5, k6, k7, c, t1, t2, k8, k9, ka, kb, kc⟩
      · have b1 := kcd_b _ _ _ _ _ _ k8
        exact Or.inl ⟨k5, k6, k7, ih _ _ _ _ _ (by omega) (by omega) k8⟩
      · have b1 := kcd_b _ _ _ _ _ _ k9; have b2 := kcd_b _ _ _ _ _ _ kc
        refine Or.inr ⟨k5, k6, k7, c, t1, t2, k8, ih _ _ _ _ _ (by omega) (by omega) k9, ?_, kb, ih _ _ _ _ _ (by omega) (by omega) kc⟩
        rw [hX 1 c (by decide) (by decide) (by omega) (by omega)]; exact ka
/-- a comparison stands at hand: 1, 0 -/
def khc (W : Int → Int) : Nat → Int
  | 0 => 0
  | k + 1 => if W k = 7 ∨ (16 ≤ W k ∧ W k ≤ 20) then khc W k else if 10 ≤ W k ∧ W k ≤ 15 then 1 else 0
def kinH (hb : Int) : Int := if hb = 0 then 0 else 1
/-- what waits (k of it), what is held (h of it) below the steps from e on; o brackets are open, the HEAP's is the hb-th; t knots -/
def kcx (X Y : km_Mm) (P ln : Int) (N : Int → Prop) (a0 : Int) : Nat → Int → Int → Int → Int → Int → Prop
  | 0, h, e, o, hb, t => h = 0 ∧ e = a0 ∧ o = 0 ∧ hb = 0 ∧ t = 0
  | k + 1, h, e, o, hb, t =>
    (((Y 143 k = 6 ∧ X 38 k = 26) ∨ (Y 143 k = 7 ∧ X 38 k = 50)) ∧ Y 138 (Y 144 k) = Y 143 k ∧ kcx X Y P ln N a0 k h e o hb (t - 1)) ∨
    ((Y 143 k = 100 ∧ X 38 k = 4 ∧ Y 144 k = -1) ∧ (1 ≤ o ∧ hb ≤ o - 1 ∧ Y 146 (o - 1) = khc (Y 143) k) ∧ kcx X Y P ln N a0 k h e (o - 1) hb t) ∨
    (((Y 143 k = 101 ∧ Y 138 (Y 144 k) ≠ 5) ∨ (Y 143 k = 103 ∧ Y 138 (Y 144 k) = 5)) ∧ (X 38 k = 4 ∧ 2 ≤ Y 138 (Y 144 k) ∧ Y 138 (Y 144 k) ≤ 5 ∧ Y 140 (Y 144 k) = -1) ∧ (1 ≤ o ∧ hb = o ∧ Y 146 (o - 1) = khc (Y 143) k) ∧ (X 37 11 = e - 1 ∧ X 37 12 = Y 138 (Y 144 k) + 26 ∧ X 37 14 = 0) ∧ (X (P + 1) (e - 1) = 53 ∧ X (P + 2) (e - 1) = Y 138 (Y 144 k) + 26 ∧ X (P + 3) (e - 1) = -1) ∧ kcx X Y P ln N a0 k h (e - 1) (o - 1) 0 (t - 1)) ∨
    ((Y 143 k = 102 ∧ X 38 k = 4 ∧ 2 ≤ Y 138 (Y 144 k) ∧ Y 138 (Y 144 k) ≤ 4) ∧ (1 ≤ o ∧ hb = o ∧ Y 146 (o - 1) = khc (Y 143) k) ∧ (X 37 12 = Y 138 (Y 144 k) + 26 ∧ X 37 14 = 1) ∧ (X (P + 1) (X 37 11) = 53 ∧ X (P + 2) (X 37 11) = Y 138 (Y 144 k) + 26 ∧ X (P + 3) (X 37 11) = e ∧ X (P + 1) (e - 1) = 54) ∧ ∃ (f : Nat) (t1 : Int), kcd X Y P ln N f 1 (Y 139 (Y 144 k)) (X 37 11 + 1) (e - 1) t1 ∧ kcx X Y P ln N a0 k h (X 37 11) (o - 1) 0 (t - 1 - t1)) ∨
    ((10 ≤ Y 143 k ∧ Y 143 k ≤ 20) ∧ X 38 k = ksg (Y 143 k) ∧ Y 138 (Y 144 k) = Y 143 k ∧ 1 ≤ h ∧ ∃ (a : Int) (f : Nat) (t1 : Int), kcd X Y P ln N f (kinH hb) (Y 145 (h - 1)) a e t1 ∧ kcx X Y P ln N a0 k (h - 1) a o hb (t - 1 - t1)) ∨
    (((Y 143 k = 8 ∧ X 38 k = 24) ∨ (Y 143 k = 9 ∧ X 38 k = 25)) ∧ Y 138 (Y 144 k) = Y 143 k ∧ X 39 k = e - 1 ∧ X (P + 1) (e - 1) = X 38 k ∧ 1 ≤ h ∧ ∃ (a : Int) (f : Nat) (t1 : Int), kcd X Y P ln N f (kinH hb) (Y 145 (h - 1)) a (e - 1) t1 ∧ kcx X Y P ln N a0 k (h - 1) a o hb (t - 1 - t1))
theorem kcx_b {X Y : km_Mm} {P ln a0 : Int} {N : Int → Prop} : ∀ (k : Nat) (h e o hb t : Int), kcx X Y P ln N a0 k h e o hb t → 0 ≤ h ∧ h ≤ k ∧ h ≤ t ∧ 0 ≤ o ∧ o ≤ k ∧ 0 ≤ hb ∧ hb ≤ o ∧ 0 ≤ t ∧ (k : Int) ≤ t + o ∧ a0 ≤ e ∧ e - a0 ≤ 3 * t := by
  intro k
  induction k with
  | zero => intro h e o hb t c; obtain ⟨rfl, rfl, rfl, rfl, rfl⟩ := c; omega
  | succ k ih =>
    intro h e o hb t c
    rcases c with ⟨_, _, c⟩ | ⟨_, c1, c⟩ | ⟨_, _, c1, _, _, c⟩ | ⟨_, c1, _, _, f, t1, c2, c⟩ | ⟨_, _, _, c1, a, f, t1, c2, c⟩ | ⟨_, _, _, _, c1, a, f, t1, c2, c⟩
    · have := ih _ _ _ _ _ c; omega
    · have := ih _ _ _ _ _ c; omega
    · have := ih _ _ _ _ _ c; omega
    · have := ih _ _ _ _ _ c; have := kcd_b _ _ _ _ _ _ c2; omega
    · have := ih _ _ _ _ _ c; have := kcd_b _ _ _ _ _ _ c2; omega
    · have := ih _ _ _ _ _ c; have := kcd_b _ _ _ _ _ _ c2; omega
theorem khc_cg {W W' : Int → Int} : ∀ (k : Nat), (∀ j : Int, 0 ≤ j → j < k → W' j = W j) → khc W' k = khc W k := by
  intro k
  induction k with
  | zero => intro _; rfl
  | succ k ih =>
    intro h
    unfold khc
    rw [h k (by omega) (by omega), ih (fun j j0 j1 => h j j0 (by omega))]
theorem kcx_cg {X Y X' Y' : km_Mm} {P ln a0 : Int} {N N' : Int → Prop} {K H E O : Int}
    (hX : ∀ r j : Int, 1 ≤ r → r ≤ 4 → a0 ≤ j → j < E → X' (P + r) j = X (P + r) j) (hn : ∀ k : Int, 0 ≤ k → tb (X P 9) k = true → tb (X' P 9) k = true) (hN : ∀ x, N x → N' x ∧ ∀ r : Int, 138 ≤ r → r ≤ 141 → Y' r x = Y r x)
    (hw : ∀ j : Int, 0 ≤ j → j < K → X' 38 j = X 38 j ∧ X' 39 j = X 39 j ∧ Y' 143 j = Y 143 j ∧ Y' 144 j = Y 144 j ∧ (Y 144 j ≠ -1 → ∀ r : Int, 138 ≤ r → r ≤ 140 → Y' r (Y 144 j) = Y r (Y 144 j))) (hh : ∀ j : Int, 0 ≤ j → j < H → Y' 145 j = Y 145 j) (ho : ∀ j : Int, 0 ≤ j → j < O → Y' 146 j = Y 146 j) :
    ∀ (k : Nat) (h e o hb t : Int), (k : Int) ≤ K → h ≤ H → e ≤ E → o ≤ O → (hb ≠ 0 → X' 37 11 = X 37 11 ∧ X' 37 12 = X 37 12 ∧ X' 37 14 = X 37 14) → (∀ j : Int, 0 ≤ j → j < k → Y 143 j ≠ 100 → Y 144 j ≠ -1) → kcx X Y P ln N a0 k h e o hb t → kcx X' Y' P ln N' a0 k h e o hb t := by
  intro k
  induction k with
  | zero => intro h e o hb t _ _ _ _ _ _ c; exact c
  | succ k ih =>
    intro h e o hb t kK hH eE oO hp hne c
    have cb := kcx_b _ _ _ _ _ _ c
    obtain ⟨w1, w2, w3, w4, w5⟩ := hw k (by omega) (by omega)
    have kc : khc (Y' 143) k = khc (Y 143) k := khc_cg k (fun j j0 j1 => (hw j j0 (by omega)).2.2.1)
    have hne' : ∀ j : Int, 0 ≤ j → j < k → Y 143 j ≠ 100 → Y 144 j ≠ -1 := fun j j0 j1 => hne j j0 (by omega)
    have nd : Y 143 k ≠ 100 → (Y' 138 (Y 144 k) = Y 138 (Y 144 k) ∧ Y' 139 (Y 144 k) = Y 139 (Y 144 k) ∧ Y' 140 (Y 144 k) = Y 140 (Y 144 k)) := fun z => ⟨w5 (hne k (by omega) (by omega) z) 138 (by decide) (by decide), w5 (hne k (by omega) (by omega) z) 139 (by decide) (by decide), w5 (hne k (by omega) (by omega) z) 140 (by decide) (by decide)⟩
    have cd : ∀ (f : Nat) (h n a b t : Int), a0 ≤ a → b ≤ E → kcd X Y P ln N f h n a b t → kcd X' Y' P ln N' f h n a b t := fun f h n a b t la lb z => kcd_cg (lo := a0) (hi := E) hX hn hN f h n a b t la lb z
    unfold kcx
    rw [w1, w2, w3, w4, kc]
    rcases c with ⟨c0, c1, c⟩ | ⟨c0, c1, c⟩ | ⟨c0, c1, c2, c3, c4, c⟩ | ⟨c0, c1, c2, c3, f, t1, c4, c⟩ | ⟨c0, c1, c2, c3, a, f, t1, c4, c⟩ | ⟨c0, c1, c2, c3, c4, a, f, t1, c5, c⟩
    · obtain ⟨n1, n2, n3⟩ := nd (by omega)
      exact Or.inl ⟨c0, by rw [n1]; exact c1, ih _ _ _ _ _ (by omega) hH eE oO hp hne' c⟩
    · refine Or.inr (Or.inl ⟨c0, ⟨c1.1, c1.2.1, ?_⟩, ih _ _ _ _ _ (by omega) hH eE (by omega) hp hne' c⟩)
      rw [ho _ (by omega) (by omega)]; exact c1.2.2
    · obtain ⟨n1, n2, n3⟩ := nd (by omega)
      obtain ⟨p1, p2, p3⟩ := hp (by omega)
      have kb2 := kcx_b _ _ _ _ _ _ c
      refine Or.inr (Or.inr (Or.inl ?_))
      rw [n1, n3, p1, p2, p3, ho _ (by omega) (by omega), hX 1 _ (by decide) (by decide) (by omega) (by omega), hX 2 _ (by decide) (by decide) (by omega) (by omega), hX 3 _ (by decide) (by decide) (by omega) (by omega)]
      exact ⟨c0, c1, c2, c3, c4, ih _ _ _ _ _ (by omega) hH (by omega) (by omega) (fun z => absurd rfl z) hne' c⟩
    · obtain ⟨n1, n2, n3⟩ := nd (by omega)
      obtain ⟨p1, p2, p3⟩ := hp (by omega)
      have kb2 := kcx_b _ _ _ _ _ _ c
      have kb3 := kcd_b _ _ _ _ _ _ c4
      refine Or.inr (Or.inr (Or.inr (Or.inl ?_)))
      rw [n1, n2, p1, p2, p3, ho _ (by omega) (by omega), hX 1 (X 37 11) (by decide) (by decide) (by omega) (by omega), hX 2 _ (by decide) (by decide) (by omega) (by omega), hX 3 _ (by decide) (by decide) (by omega) (by omega), hX 1 (e - 1) (by decide) (by decide) (by omega) (by omega)]
      exact ⟨c0, c1, c2, c3, f, t1, cd _ _ _ _ _ _ (by omega) (by omega) c4, ih _ _ _ _ _ (by omega) hH (by omega) (by omega) (fun z => absurd rfl z) hne' c⟩
    · obtain ⟨n1, n2, n3⟩ := nd (by omega)
      have kb2 := kcx_b _ _ _ _ _ _ c
      have kb3 := kcd_b _ _ _ _ _ _ c4
      refine Or.inr (Or.inr (Or.inr (Or.inr (Or.inl ?_))))
      rw [n1, hh _ (by omega) (by omega)]
      exact ⟨c0, c1, c2, c3, a, f, t1, cd _ _ _ _ _ _ (by omega) (by omega) c4, ih _ _ _ _ _ (by omega) (by omega) (by omega) oO hp hne' c⟩
    · obtain ⟨n1, n2, n3⟩ := nd (by omega)
      have kb2 := kcx_b _ _ _ _ _ _ c
      have kb3 := kcd_b _ _ _ _ _ _ c5
      refine Or.inr (Or.inr (Or.inr (Or.inr (Or.inr ?_))))
      rw [n1, hh _ (by omega) (by omega), hX 1 (e - 1) (by decide) (by decide) (by omega) (by omega)]
      exact ⟨c0, c1, c2, c3, c4, a, f, t1, cd _ _ _ _ _ _ (by omega) (by omega) c5, ih _ _ _ _ _ (by omega) (by omega) (by omega) oO hp hne' c⟩

