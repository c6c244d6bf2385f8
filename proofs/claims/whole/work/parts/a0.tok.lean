/-! ===== tokens: words, their tables ===== -/
def kwS : List Int := [0, 6, 10, 14, 19, 22, 26, 30, 33, 37, 41, 45, 51, 56, 60, 65, 70, 75, 82, 86, 92, 96, 103, 109, 115, 120, 127, 132]
def kwL : List Int := [5, 3, 3, 4, 2, 3, 3, 2, 3, 3, 3, 5, 4, 3, 4, 4, 4, 6, 3, 5, 3, 6, 5, 5, 4, 6, 4]
def krS : List Int := [0, 6, 10, 14, 19, 23, 26, 30, 33, 37, 41, 45, 51, 56, 60, 65, 70, 75, 82, 86, 92, 96, 103, 109, 115, 120, 127, 132]
def krL : List Int := [5, 3, 3, 4, 3, 2, 3, 2, 3, 3, 3, 5, 4, 3, 4, 4, 4, 6, 3, 5, 3, 6, 5, 5, 4, 6, 4]
/-- the words as the reference holds them -/
def kr_wl : List Int := [115, 99, 111, 114, 101, 32, 98, 97, 114, 32, 112, 97, 121, 32, 104, 111, 115, 116, 32, 97, 110, 100, 32, 111, 114, 32, 110, 111, 116, 32, 105, 102, 32, 115, 117, 109, 32, 109, 97, 120, 32, 109, 105, 110, 32, 99, 111, 117, 110, 116, 32, 108, 97, 110, 100, 32, 100, 97, 121, 32, 102, 97, 114, 101, 32, 99, 111, 109, 101, 32, 104, 111, 109, 101, 32, 98, 114, 97, 110, 99, 104, 32, 97, 103, 101, 32, 109, 101, 97, 110, 115, 32, 99, 97, 110, 32, 114, 101, 103, 114, 101, 116, 32, 109, 105, 108, 101, 115, 32, 116, 105, 109, 101, 115, 32, 108, 97, 115, 116, 32, 112, 101, 111, 112, 108, 101, 32, 109, 105, 110, 101, 32]
/-- the place of a word with the other -/
def kwP (w : Nat) : Nat := if w = 4 then 5 else if w = 5 then 4 else w
theorem kw_tab : ∀ w : Fin 27, kwS.getD (w.val + 1) 0 = kwS.getD w.val 0 + kwL.getD w.val 0 + 1 ∧ km_wl.getD (kwS.getD w.val 0 + kwL.getD w.val 0).toNat 0 = 32 ∧ (1 ≤ kwL.getD w.val 0 ∧ kwL.getD w.val 0 ≤ 6 ∧ 0 ≤ kwS.getD w.val 0 ∧ kwS.getD w.val 0 + kwL.getD w.val 0 < 132) ∧ ∀ j : Fin 6, ((j.val : Int) < kwL.getD w.val 0 → ¬ km_wl.getD (kwS.getD w.val 0 + (j.val : Int)).toNat 0 = 32) := by decide +kernel
theorem kr_tab : ∀ w : Fin 27, krS.getD (w.val + 1) 0 = krS.getD w.val 0 + krL.getD w.val 0 + 1 ∧ kr_wl.getD (krS.getD w.val 0 + krL.getD w.val 0).toNat 0 = 32 ∧ (1 ≤ krL.getD w.val 0 ∧ krL.getD w.val 0 ≤ 6 ∧ 0 ≤ krS.getD w.val 0 ∧ krS.getD w.val 0 + krL.getD w.val 0 < 132) ∧ ∀ j : Fin 6, ((j.val : Int) < krL.getD w.val 0 → ¬ kr_wl.getD (krS.getD w.val 0 + (j.val : Int)).toNat 0 = 32) := by decide +kernel
theorem kw_perm : ∀ w : Fin 27, kwP w.val < 27 ∧ kwP (kwP w.val) = w.val ∧ krL.getD (kwP w.val) 0 = kwL.getD w.val 0 ∧ ∀ j : Fin 6, ((j.val : Int) < kwL.getD w.val 0 → kr_wl.getD (krS.getD (kwP w.val) 0 + (j.val : Int)).toNat 0 = km_wl.getD (kwS.getD w.val 0 + (j.val : Int)).toNat 0) := by decide +kernel
theorem kw_one : ∀ w v : Fin 27, w ≠ v → kwL.getD w.val 0 ≠ kwL.getD v.val 0 ∨ ∃ j : Fin 6, (j.val : Int) < kwL.getD w.val 0 ∧ km_wl.getD (kwS.getD w.val 0 + (j.val : Int)).toNat 0 ≠ km_wl.getD (kwS.getD v.val 0 + (j.val : Int)).toNat 0 := by decide +kernel
/-- the word w stands from k to e -/
def kcm (B : Int → Int) (k e : Int) (w : Nat) : Prop := e = k + kwL.getD w 0 ∧ ∀ x : Int, 0 ≤ x → x < kwL.getD w 0 → km_wl.getD (kwS.getD w 0 + x).toNat 0 = B (k + x)
def krm (B : Int → Int) (k e : Int) (w : Nat) : Prop := krL.getD w 0 = e - k ∧ ∀ x : Int, 0 ≤ x → x < krL.getD w 0 → kr_wl.getD (krS.getD w 0 + x).toNat 0 = B (k + x)
theorem kcm_krm {B : Int → Int} {k e : Int} {w : Nat} (hw : w < 27) : kcm B k e w ↔ krm B k e (kwP w) := by
  obtain ⟨-, -, h3, h4⟩ := kw_perm ⟨w, hw⟩
  have lw := (kw_tab ⟨w, hw⟩).2.2.1
  unfold kcm krm
  simp only [] at h3 h4 lw
  rw [h3]
  constructor
  · rintro ⟨a, b⟩
    refine ⟨by omega, fun x x0 x1 => ?_⟩
    have := h4 ⟨x.toNat, by omega⟩
    simp only [show ((x.toNat : Nat) : Int) = x by omega] at this
    rw [this x1]; exact b x x0 x1
  · rintro ⟨a, b⟩
    refine ⟨by omega, fun x x0 x1 => ?_⟩
    have := h4 ⟨x.toNat, by omega⟩
    simp only [show ((x.toNat : Nat) : Int) = x by omega] at this
    rw [← this x1]; exact b x x0 x1
theorem kcm_un {B : Int → Int} {k e : Int} {w v : Nat} (hw : w < 27) (hv : v < 27) (h1 : kcm B k e w) (h2 : kcm B k e v) : w = v := by
  refine Classical.byContradiction fun n => ?_
  have lw := (kw_tab ⟨w, hw⟩).2.2.1
  rcases kw_one ⟨w, hw⟩ ⟨v, hv⟩ (fun e => n (Fin.mk.inj e)) with h | ⟨j, j1, j2⟩
  · apply h
    have := h1.1; have := h2.1
    show kwL.getD w 0 = kwL.getD v 0
    omega
  · simp only [] at j1 j2 lw
    have e1 := h1.2 j.val (by omega) j1
    have l : kwL.getD w 0 = kwL.getD v 0 := by have := h1.1; have := h2.1; omega
    have e2 := h2.2 j.val (by omega) (by omega)
    exact j2 (e1.trans e2.symm)
/-- the class's walk along a word -/
def kat (B : Int → Int) (k e : Int) (w : Nat) : Nat → Int
  | 0 => k
  | j + 1 => if kat B k e w j < e ∧ B (kat B k e w j) = km_wl.getD (kwS.getD w 0 + (j : Int)).toNat 0 then kat B k e w j + 1 else e + 1
theorem kat_b {B : Int → Int} {k e : Int} {w : Nat} (ke : k ≤ e) : ∀ j : Nat, (kat B k e w j = k + j ∧ k + j ≤ e ∧ ∀ x : Int, 0 ≤ x → x < j → km_wl.getD (kwS.getD w 0 + x).toNat 0 = B (k + x)) ∨ (kat B k e w j = e + 1 ∧ ¬ (k + j ≤ e ∧ ∀ x : Int, 0 ≤ x → x < j → km_wl.getD (kwS.getD w 0 + x).toNat 0 = B (k + x))) := by
  intro j
  induction j with
  | zero => left; exact ⟨by show k = _; omega, by omega, fun x a b => by omega⟩
  | succ j ih =>
    unfold kat
    rcases ih with ⟨i1, i2, i3⟩ | ⟨i1, i2⟩
    · rw [i1]
      by_cases z : k + (j : Int) < e ∧ B (k + j) = km_wl.getD (kwS.getD w 0 + (j : Int)).toNat 0
      · rw [if_pos z]
        left
        refine ⟨by omega, by omega, fun x x0 x1 => ?_⟩
        by_cases y : x = j
        · subst y; exact z.2.symm
        · exact i3 x x0 (by omega)
      · rw [if_neg z]
        right
        refine ⟨rfl, fun w => z ⟨by omega, (w.2 j (by omega) (by omega)).symm⟩⟩
    · rw [i1, if_neg (fun w => by omega)]
      right
      exact ⟨rfl, fun w => i2 ⟨by omega, fun x x0 x1 => w.2 x x0 (by omega)⟩⟩
theorem kat_m {B : Int → Int} {k e : Int} {w : Nat} (hw : w < 27) (ke : k ≤ e) : kat B k e w (kwL.getD w 0).toNat = e ↔ kcm B k e w := by
  have lw := (kw_tab ⟨w, hw⟩).2.2.1
  simp only [] at lw
  have el : (((kwL.getD w 0).toNat : Nat) : Int) = kwL.getD w 0 := by omega
  have b := @kat_b B k e w ke (kwL.getD w 0).toNat
  rw [el] at b
  unfold kcm
  rcases b with ⟨b1, b2, b3⟩ | ⟨b1, b2⟩
  · rw [b1]
    exact ⟨fun h => ⟨h.symm, b3⟩, fun h => h.1.symm⟩
  · rw [b1]
    exact ⟨fun h => by omega, fun h => absurd ⟨by omega, h.2⟩ b2⟩
/-- the token of the word from k to e: n words from the w-th on -/
def kwt (B : Int → Int) (k e : Int) : Nat → Nat → Int
  | 0, _ => 1
  | n + 1, w => if kat B k e w (kwL.getD w 0).toNat = e then 20 + (w : Int) else kwt B k e n (w + 1)
theorem kwt_b {B : Int → Int} {k e : Int} (ke : k ≤ e) : ∀ (n w : Nat), w + n = 27 → (∃ v : Nat, w ≤ v ∧ v < 27 ∧ kwt B k e n w = 20 + v ∧ kcm B k e v) ∨ (kwt B k e n w = 1 ∧ ∀ v : Nat, w ≤ v → v < 27 → ¬ kcm B k e v) := by
  intro n
  induction n with
  | zero => intro w h; right; exact ⟨rfl, fun v a b => by omega⟩
  | succ n ih =>
    intro w h
    have m := @kat_m B k e w (by omega) ke
    unfold kwt
    by_cases z : kat B k e w (kwL.getD w 0).toNat = e
    · rw [if_pos z]; exact Or.inl ⟨w, Nat.le_refl _, by omega, rfl, m.mp z⟩
    · rw [if_neg z]
      rcases ih (w + 1) (by omega) with ⟨v, v1, v2, v3, v4⟩ | ⟨v1, v2⟩
      · exact Or.inl ⟨v, by omega, v2, v3, v4⟩
      · refine Or.inr ⟨v1, fun v a b => ?_⟩
        by_cases y : v = w
        · subst y; exact fun u => z (m.mpr u)
        · exact v2 v (by omega) b
/-- the reference's: n words from the r-th on -/
noncomputable def kwr (B : Int → Int) (k e : Int) : Nat → Nat → Int
  | 0, _ => -1
  | n + 1, r => @ite Int (krm B k e r) (Classical.propDecidable _) (r : Int) (kwr B k e n (r + 1))
theorem kwr_b {B : Int → Int} {k e : Int} : ∀ (n w : Nat), w + n = 27 → (∃ v : Nat, w ≤ v ∧ v < 27 ∧ kwr B k e n w = v ∧ krm B k e v) ∨ (kwr B k e n w = -1 ∧ ∀ v : Nat, w ≤ v → v < 27 → ¬ krm B k e v) := by
  intro n
  induction n with
  | zero => intro w h; right; exact ⟨rfl, fun v a b => by omega⟩
  | succ n ih =>
    intro w h
    unfold kwr
    by_cases z : krm B k e w
    · rw [if_pos z]; exact Or.inl ⟨w, Nat.le_refl _, by omega, rfl, z⟩
    · rw [if_neg z]
      rcases ih (w + 1) (by omega) with ⟨v, v1, v2, v3, v4⟩ | ⟨v1, v2⟩
      · exact Or.inl ⟨v, by omega, v2, v3, v4⟩
      · refine Or.inr ⟨v1, fun v a b => ?_⟩
        by_cases y : v = w
        · subst y; exact z
        · exact v2 v (by omega) b
/-- which word the reference takes for a token of the class -/
def kww (t : Int) : Int := if t = 24 then 5 else if t = 25 then 4 else t - 20
theorem kwt_kwr {B : Int → Int} {k e : Int} (ke : k ≤ e) : (kwt B k e 27 0 = 1 ∧ kwr B k e 27 0 = -1) ∨ ((20 ≤ kwt B k e 27 0 ∧ kwt B k e 27 0 ≤ 46) ∧ kwr B k e 27 0 = kww (kwt B k e 27 0)) := by
  rcases @kwt_b B k e ke 27 0 rfl with ⟨v, v1, v2, v3, v4⟩ | ⟨v1, v2⟩ <;> rcases @kwr_b B k e 27 0 rfl with ⟨u, u1, u2, u3, u4⟩ | ⟨u1, u2⟩
  · right
    refine ⟨by omega, ?_⟩
    have p := (kw_perm ⟨u, u2⟩)
    simp only [] at p
    have c : kcm B k e (kwP u) := (kcm_krm p.1).mpr (by rw [p.2.1]; exact u4)
    have := kcm_un p.1 v2 c v4
    rw [u3, v3]
    unfold kwP at this
    unfold kww
    split at this
    · rw [if_neg (by omega), if_pos (by omega)]; omega
    · split at this
      · rw [if_pos (by omega)]; omega
      · rw [if_neg (by omega), if_neg (by omega)]; omega
  · exact absurd ((kcm_krm v2).mp v4) (u2 _ (Nat.zero_le _) (kw_perm ⟨v, v2⟩).1)
  · have p := (kw_perm ⟨u, u2⟩)
    simp only [] at p
    exact absurd ((kcm_krm p.1).mpr (by rw [p.2.1]; exact u4)) (v2 _ (Nat.zero_le _) p.1)
  · exact Or.inl ⟨v1, u1⟩
/-! where a text goes on: blanks, letters, digits -/
def ksk (B : Int → Int) (n : Int) : Nat → Int → Int
  | 0, p => p
  | f + 1, p => if p < n ∧ (B p = 32 ∨ B p = 10) then ksk B n f (p + 1) else p
def kle (B : Int → Int) (n : Int) : Nat → Int → Int
  | 0, p => p
  | f + 1, p => if p < n ∧ 97 ≤ B p ∧ B p ≤ 122 then kle B n f (p + 1) else p
def kde (B : Int → Int) (n : Int) : Nat → Int → Int
  | 0, p => p
  | f + 1, p => if p < n ∧ 48 ≤ B p ∧ B p ≤ 57 then kde B n f (p + 1) else p
theorem ksk_b {B : Int → Int} {n : Int} : ∀ (f : Nat) (p : Int), p ≤ n → p ≤ ksk B n f p ∧ ksk B n f p ≤ n ∧ (n - p ≤ f → ¬ (ksk B n f p < n ∧ (B (ksk B n f p) = 32 ∨ B (ksk B n f p) = 10))) := by
  intro f
  induction f with
  | zero => intro p h; exact ⟨Int.le_refl _, h, fun a w => by have := w.1; unfold ksk at this; omega⟩
  | succ f ih =>
    intro p h
    unfold ksk
    by_cases z : p < n ∧ (B p = 32 ∨ B p = 10)
    · rw [if_pos z]; have := ih (p + 1) (by omega); exact ⟨by omega, this.2.1, fun a => this.2.2 (by omega)⟩
    · rw [if_neg z]; exact ⟨Int.le_refl _, h, fun _ => z⟩
theorem kle_b {B : Int → Int} {n : Int} : ∀ (f : Nat) (p : Int), p ≤ n → p ≤ kle B n f p ∧ kle B n f p ≤ n := by
  intro f
  induction f with
  | zero => intro p h; exact ⟨Int.le_refl _, h⟩
  | succ f ih =>
    intro p h
    unfold kle
    by_cases z : p < n ∧ 97 ≤ B p ∧ B p ≤ 122
    · rw [if_pos z]; have := ih (p + 1) (by omega); omega
    · rw [if_neg z]; exact ⟨Int.le_refl _, h⟩
theorem kde_b {B : Int → Int} {n : Int} : ∀ (f : Nat) (p : Int), p ≤ n → p ≤ kde B n f p ∧ kde B n f p ≤ n := by
  intro f
  induction f with
  | zero => intro p h; exact ⟨Int.le_refl _, h⟩
  | succ f ih =>
    intro p h
    unfold kde
    by_cases z : p < n ∧ 48 ≤ B p ∧ B p ≤ 57
    · rw [if_pos z]; have := ih (p + 1) (by omega); omega
    · rw [if_neg z]; exact ⟨Int.le_refl _, h⟩
/-- the numbers read: the class's is cut short, the reference's stands still when too great -/
def kdc (B : Int → Int) (n : Int) : Nat → Int → Int → Int
  | 0, _, v => v
  | f + 1, p, v => if p < n ∧ 48 ≤ B p ∧ B p ≤ 57 then kdc B n f (p + 1) (if 1000000 < v * 10 + B p - 48 then 1000000 else v * 10 + B p - 48) else v
def kdr (B : Int → Int) (n : Int) : Nat → Int → Int → Int
  | 0, _, v => v
  | f + 1, p, v => if p < n ∧ 48 ≤ B p ∧ B p ≤ 57 then kdr B n f (p + 1) (if 999999 < v then v else 10 * v + B p - 48) else v
def kdq (v r : Int) : Prop := (v = r ∧ 0 ≤ r ∧ r ≤ 999999) ∨ (v = 1000000 ∧ 999999 < r ∧ r ≤ 99999999)
theorem kdc_kdr {B : Int → Int} {n : Int} : ∀ (f : Nat) (p v r : Int), kdq v r → kdq (kdc B n f p v) (kdr B n f p r) := by
  intro f
  induction f with
  | zero => intro p v r h; exact h
  | succ f ih =>
    intro p v r h
    unfold kdc kdr
    by_cases z : p < n ∧ 48 ≤ B p ∧ B p ≤ 57
    · rw [if_pos z, if_pos z]
      refine ih _ _ _ ?_
      unfold kdq at *
      split <;> split <;> omega
    · rw [if_neg z, if_neg z]; exact h
/-- the token at k, where the next one begins -/
def kb1 (B : Int → Int) (n k : Int) : Int := if k + 1 < n then B (k + 1) else -1
def ksgn (B : Int → Int) (n k : Int) : Int :=
  if B k = 60 ∧ kb1 B n k = 61 then 14 else if B k = 62 ∧ kb1 B n k = 61 then 15 else if B k = 60 ∧ kb1 B n k = 62 then 16 else if km_six (B k) < 0 then 1 else 3 + km_six (B k)
def kcT (B : Int → Int) (n k : Int) : Int := if n ≤ k then 0 else if 97 ≤ B k ∧ B k ≤ 122 then kwt B k (kle B n 600 k) 27 0 else if 48 ≤ B k ∧ B k ≤ 57 then 2 else ksgn B n k
def kcN (B : Int → Int) (n k : Int) : Int := if n ≤ k then k else if 97 ≤ B k ∧ B k ≤ 122 then kle B n 600 k else if 48 ≤ B k ∧ B k ≤ 57 then kde B n 600 k else if ksgn B n k = 14 ∨ ksgn B n k = 15 ∨ ksgn B n k = 16 then k + 2 else k + 1
/-- the reference's kind and which for the class's token and number -/
def ktk (T v kind which : Int) : Prop :=
  (T = 0 ∧ kind = 0) ∨ (T = 1 ∧ kind = 4) ∨ (T = 2 ∧ kind = 2 ∧ kdq v which) ∨ ((20 ≤ T ∧ T ≤ 46) ∧ kind = 1 ∧ which = kww T) ∨
  (kind = 3 ∧ ((T = 3 ∧ which = 59) ∨ (T = 4 ∧ which = 40) ∨ (T = 5 ∧ which = 41) ∨ (T = 6 ∧ which = 16) ∨ (T = 7 ∧ which = 17) ∨ (T = 8 ∧ which = 18) ∨ (T = 9 ∧ which = 19) ∨ (T = 10 ∧ which = 20) ∨ (T = 11 ∧ which = 10) ∨ (T = 14 ∧ which = 11) ∨ (T = 12 ∧ which = 12) ∨ (T = 16 ∧ which = 13) ∨ (T = 13 ∧ which = 14) ∨ (T = 15 ∧ which = 15)))
theorem kcN_b {B : Int → Int} {n k : Int} (h : k ≤ n) : k ≤ kcN B n k ∧ kcN B n k ≤ n ∧ (k < n → k + 1 ≤ kcN B n k) := by
  unfold kcN
  by_cases z : n ≤ k
  · rw [if_pos z]; omega
  · rw [if_neg z]
    by_cases a : 97 ≤ B k ∧ B k ≤ 122
    · rw [if_pos a]
      have := kle_b (B := B) (n := n) 599 (k + 1) (by omega)
      have e : kle B n 600 k = kle B n 599 (k + 1) := by show (if _ then _ else _) = _; rw [if_pos ⟨by omega, a⟩]
      omega
    · rw [if_neg a]
      by_cases b : 48 ≤ B k ∧ B k ≤ 57
      · rw [if_pos b]
        have := kde_b (B := B) (n := n) 599 (k + 1) (by omega)
        have e : kde B n 600 k = kde B n 599 (k + 1) := by show (if _ then _ else _) = _; rw [if_pos ⟨by omega, b⟩]
        omega
      · rw [if_neg b]
        by_cases d : ksgn B n k = 14 ∨ ksgn B n k = 15 ∨ ksgn B n k = 16
        · rw [if_pos d]
          have : kb1 B n k = 61 ∨ kb1 B n k = 62 := by
            unfold ksgn at d
            by_cases e1 : B k = 60 ∧ kb1 B n k = 61
            · exact Or.inl e1.2
            · by_cases e2 : B k = 62 ∧ kb1 B n k = 61
              · exact Or.inl e2.2
              · by_cases e3 : B k = 60 ∧ kb1 B n k = 62
                · exact Or.inr e3.2
                · rw [if_neg e1, if_neg e2, if_neg e3] at d
                  exfalso
                  unfold km_six at d
                  repeat' split at d
                  all_goals omega
          unfold kb1 at this
          split at this <;> omega
        · rw [if_neg d]; omega

