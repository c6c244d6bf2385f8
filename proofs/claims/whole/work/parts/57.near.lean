/-! ===== near: the reference's family is the class's ===== -/
theorem kf_1_rng {C S a b d : Int → Int} (hn : ∀ i : Int, 0 ≤ i → i < 100 → C i ≠ 0 → S i = 0 → (0 ≤ a i ∧ a i < 10) ∧ 0 ≤ b i ∧ b i < 10) : ∀ (n : Nat) (i : Int) (t : (Int → Int) × (Int → Int)), 0 ≤ i → i + n ≤ 100 → (∀ y : Int, 0 ≤ y → y < 10 → (0 ≤ t.1 y ∧ t.1 y ≤ 2) ∧ ∀ j : Int, 0 ≤ j → j < t.1 y → 0 ≤ t.2 (2 * y + j) ∧ t.2 (2 * y + j) < 10) →
    (∀ y : Int, 0 ≤ y → y < 10 → (0 ≤ (kf_1 C S a b d n i t).1 y ∧ (kf_1 C S a b d n i t).1 y ≤ 2) ∧ ∀ j : Int, 0 ≤ j → j < (kf_1 C S a b d n i t).1 y → 0 ≤ (kf_1 C S a b d n i t).2 (2 * y + j) ∧ (kf_1 C S a b d n i t).2 (2 * y + j) < 10) := by
  intro n
  induction n with
  | zero => intro i t h0 h1 h2; exact h2
  | succ n ih =>
    intro i t h0 h1 h2
    unfold kf_1
    refine ih (i + 1) _ (by omega) (by omega) (fun y y0 y1 => ?_)
    by_cases z : (C i ≠ 0 ∧ S i = 0 ∧ d i = 0) ∧ ¬ (t.1 (a i) = 2) ∧ kf_is t.1 t.2 (a i) (b i) = false
    · rw [if_pos z]
      obtain ⟨⟨a0, a1⟩, b0, b1⟩ := hn i h0 (by omega) z.1.1 z.1.2.1
      have ha := (h2 _ a0 a1).1
      have z2 := z.2.1
      dsimp only
      refine ⟨?_, fun j j0 j1 => ?_⟩
      · unfold km_u1
        by_cases e : y = a i
        · rw [if_pos e]; omega
        · rw [if_neg e]; exact (h2 y y0 y1).1
      · unfold km_u1 at j1 ⊢
        by_cases e : 2 * y + j = 2 * a i + t.1 (a i)
        · rw [if_pos e]; exact ⟨b0, b1⟩
        · rw [if_neg e]
          by_cases g : y = a i
          · rw [if_pos g] at j1; subst g; exact (h2 _ y0 y1).2 j j0 (by omega)
          · rw [if_neg g] at j1; exact (h2 y y0 y1).2 j j0 j1
    · rw [if_neg z]; exact h2 y y0 y1
/-- notes that don't count change nothing -/
theorem kf_1_skip {C S a b d : Int → Int} : ∀ (n : Nat) (i : Int) (t : (Int → Int) × (Int → Int)), (∀ j : Int, i ≤ j → j < i + n → C j = 0) → kf_1 C S a b d n i t = t := by
  intro n
  induction n with
  | zero => intro i t _; rfl
  | succ n ih => intro i t h; unfold kf_1; rw [if_neg (fun q => q.1.1 (h i (by omega) (by omega)))]; exact ih _ _ (fun j p r => h j (by omega) (by omega))
theorem kf_1_add {C S a b d : Int → Int} : ∀ (n e : Nat) (i : Int) (t : (Int → Int) × (Int → Int)), kf_1 C S a b d (n + e) i t = kf_1 C S a b d e (i + n) (kf_1 C S a b d n i t) := by
  intro n
  induction n with
  | zero => intro e i t; rw [Nat.zero_add, show i + ((0 : Nat) : Int) = i by omega]; rfl
  | succ n ih =>
    intro e i t
    rw [show n + 1 + e = (n + e) + 1 by omega]
    show kf_1 C S a b d (n + e) (i + 1) _ = _
    rw [ih, show i + 1 + (n : Int) = i + ((n + 1 : Nat) : Int) by omega]
    rfl
theorem kf_2_skip {C S a b d pn pr : Int → Int} : ∀ (n : Nat) (i : Int) (t : (Int → Int) × (Int → Int) × Int), (∀ j : Int, i ≤ j → j < i + n → C j = 0) → kf_2 C S a b d pn pr n i t = t := by
  intro n
  induction n with
  | zero => intro i t _; rfl
  | succ n ih =>
    intro i t h
    unfold kf_2
    split
    · rfl
    · rw [if_neg (fun q => q.1.1 (h i (by omega) (by omega)))]; exact ih _ _ (fun j p r => h j (by omega) (by omega))
theorem kf_2_full {C S a b d pn pr : Int → Int} : ∀ (n : Nat) (i : Int) (t : (Int → Int) × (Int → Int) × Int), 6 ≤ t.2.2 → kf_2 C S a b d pn pr n i t = t := by
  intro n
  cases n with
  | zero => intro i t _; rfl
  | succ n => intro i t h; unfold kf_2; rw [if_pos h]
theorem kf_2_add {C S a b d pn pr : Int → Int} : ∀ (n e : Nat) (i : Int) (t : (Int → Int) × (Int → Int) × Int), kf_2 C S a b d pn pr (n + e) i t = kf_2 C S a b d pn pr e (i + n) (kf_2 C S a b d pn pr n i t) := by
  intro n
  induction n with
  | zero => intro e i t; rw [Nat.zero_add, show i + ((0 : Nat) : Int) = i by omega]; rfl
  | succ n ih =>
    intro e i t
    rw [show n + 1 + e = (n + e) + 1 by omega]
    by_cases g : 6 ≤ t.2.2
    · rw [kf_2_full _ _ _ g, kf_2_full _ _ _ g, kf_2_full _ _ _ g]
    · show (if 6 ≤ t.2.2 then t else kf_2 C S a b d pn pr (n + e) (i + 1) _) = kf_2 C S a b d pn pr e _ (if 6 ≤ t.2.2 then t else kf_2 C S a b d pn pr n (i + 1) _)
      rw [if_neg g, if_neg g, ih, show i + 1 + (n : Int) = i + ((n + 1 : Nat) : Int) by omega]
/-- only the maybes so far matter -/
def kf_sm (t t' : (Int → Int) × (Int → Int) × Int) : Prop := t.2.2 = t'.2.2 ∧ ∀ i : Int, 0 ≤ i → i < t.2.2 → t.1 i = t'.1 i ∧ t.2.1 i = t'.2.1 i
theorem kn_has_cong {A B A' B' : Int → Int} {a b : Int} : ∀ (n : Nat) (i : Int), (∀ j : Int, i ≤ j → j < i + n → A j = A' j ∧ B j = B' j) → kn_has A B a b n i = kn_has A' B' a b n i := by
  intro n
  induction n with
  | zero => intro i _; rfl
  | succ n ih =>
    intro i h
    unfold kn_has
    rw [(h i (by omega) (by omega)).1, (h i (by omega) (by omega)).2, ih (i + 1) (fun j p r => h j (by omega) (by omega))]
theorem kf_2_cong {C S a b d pn pr : Int → Int} : ∀ (n : Nat) (i : Int) (t t' : (Int → Int) × (Int → Int) × Int), 0 ≤ t.2.2 → kf_sm t t' → kf_sm (kf_2 C S a b d pn pr n i t) (kf_2 C S a b d pn pr n i t') := by
  intro n
  induction n with
  | zero => intro i t t' _ h; exact h
  | succ n ih =>
    intro i t t' h0 h
    obtain ⟨h1, h2⟩ := h
    have hh : kn_has t.1 t.2.1 (a i) (b i) t.2.2.toNat 0 = kn_has t'.1 t'.2.1 (a i) (b i) t.2.2.toNat 0 := kn_has_cong _ _ (fun j p r => h2 j p (by omega))
    unfold kf_2
    rw [← h1, hh]
    split
    · exact ⟨h1, h2⟩
    · refine ih _ _ _ ?_ ?_
      · split
        · dsimp only; omega
        · exact h0
      · split
        · refine ⟨rfl, fun j p r => ?_⟩
          dsimp only at r ⊢
          unfold km_u1
          by_cases e : j = t.2.2
          · rw [if_pos e, if_pos e, if_pos e, if_pos e]; exact ⟨rfl, rfl⟩
          · rw [if_neg e, if_neg e, if_neg e, if_neg e]; exact h2 j p (by omega)
        · exact ⟨h1, h2⟩
theorem kf_c_cong {w : Int} {A A' : Int → Int} {a : Int} : ∀ (n : Nat) (i : Int), (∀ j : Int, i ≤ j → j < i + n → A j = A' j) → kf_c w A a n i = kf_c w A' a n i := by
  intro n
  induction n with
  | zero => intro i _; rfl
  | succ n ih => intro i h; unfold kf_c; rw [h i (by omega) (by omega), ih (i + 1) (fun j p r => h j (by omega) (by omega))]
theorem kf_c_none {w : Int} {A : Int → Int} {a : Int} : ∀ (n : Nat) (i : Int), (∀ j : Int, i ≤ j → j < i + n → A j ≠ a) → kf_c w A a n i = 0 := by
  intro n
  induction n with
  | zero => intro i _; rfl
  | succ n ih => intro i h; unfold kf_c; rw [if_neg (fun q => h i (by omega) (by omega) q.2), ih (i + 1) (fun j p r => h j (by omega) (by omega))]; rfl
/-- worlds are the same ones -/
theorem kn_W_eq {f A B A' pn pr : Int → Int} {k w kins : Int} (hk10 : 0 ≤ kins ∧ kins ≤ 10) (hw : 0 ≤ w ∧ w < 2147483648) (hg : kf_good f A B k) (ho : kf_ok f (pn, pr)) (hA : ∀ i : Int, 0 ≤ i → i < k → A' i = A i ∧ A i < kins) : kq_w w A' pn k kins.toNat 0 = kn_W f A B k w := by
  obtain ⟨g0, g1, g2, g3, g4⟩ := hg
  have h1 := @kn_ent_world w A B k hw.1 hw.2 g0.2 g1 g2 k.toNat 0 f (by omega) (by omega) (fun a a0 a1 => by obtain ⟨o1, o2, o3, -⟩ := ho a a0 a1; dsimp only at o2 o3; exact ⟨o1, by omega⟩) (fun j p r => g3 j p r)
  have h2 := @kq_w_eq w A' pn k hw.1 hw.2 g0 kins.toNat 0
  have h3 : kq_w w A' pn k kins.toNat 0 = true ↔ kn_W f A B k w = true := by
    unfold kn_W
    rw [h1, h2]
    constructor
    · intro h a a0 a1
      obtain ⟨o1, o2, o3, -⟩ := ho a a0 a1
      dsimp only at o2 o3
      by_cases e : a < kins
      · have := h a a0 (by omega)
        rw [kf_c_cong (A' := A) _ _ (fun j p r => (hA j p (by omega)).1)] at this
        omega
      · rw [kf_c_none _ _ (fun j p r => by have := (hA j p (by omega)).2; omega)]
        omega
    · intro h a a0 a1
      obtain ⟨o1, o2, o3, -⟩ := ho a a0 (by omega)
      dsimp only at o2 o3
      rw [kf_c_cong (A' := A) _ _ (fun j p r => (hA j p (by omega)).1)]
      have := h a a0 (by omega)
      omega
  cases x : kq_w w A' pn k kins.toNat 0 <;> cases y : kn_W f A B k w <;> simp_all
theorem kr_PQ {f A B A' B' pn pr : Int → Int} {k w : Int} (hw : 0 ≤ w ∧ w < 2147483648) (hg : kf_good f A B k) (ho : kf_ok f (pn, pr)) (hr : ∀ y : Int, 0 ≤ y → y < 10 → (0 ≤ pn y ∧ pn y ≤ 2) ∧ ∀ j : Int, 0 ≤ j → j < pn y → 0 ≤ pr (2 * y + j) ∧ pr (2 * y + j) < 10) (hA : ∀ i : Int, 0 ≤ i → i < k → A' i = A i ∧ B' i = B i) (hW : kn_W f A B k w = true) (y x : Int) :
    kr_P (kn_ent w A B k.toNat 0 f).2 y x ↔ (0 ≤ y ∧ y < 10) ∧ kr_Q w pn pr A' B' k y x := by
  obtain ⟨g0, g1, g2, g3, g4⟩ := hg
  have hb := kn_ent_bits (w := w) (A := A) (B := B) (k := k) hw.1 hw.2 g0.2 g1 k.toNat 0 f (by omega) (by omega) (fun a p r => (ho a p r).1) hW
  have bit : ∀ i : Int, 0 ≤ i → i < k → (km_and (km_shr w i) 1 = 1 ↔ tb w i = true) := fun i i0 i1 => by
    rw [ks_bit hw.1 hw.2 i0 (by omega)]; cases tb w i <;> simp
  unfold kr_P kr_Q
  constructor
  · rintro ⟨p, r, t⟩
    refine ⟨p, ?_⟩
    rcases (hb y x p.1 p.2 r.1 r.2).mp t with t | ⟨j, j0, j1, j2, j3, j4⟩
    · left
      have := ((ho y p.1 p.2).2.2.2 x r.1 r.2).mp t
      unfold kf_is at this
      simp only [Bool.or_eq_true, Bool.and_eq_true, decide_eq_true_eq] at this
      rcases this with ⟨u, v⟩ | ⟨u, v⟩
      · exact ⟨0, by omega, u, by rw [Int.add_zero]; exact v⟩
      · exact ⟨1, by omega, u, v⟩
    · exact Or.inr ⟨j, j0, j1, (bit j j0 j1).mpr j2, by rw [(hA j j0 j1).1]; exact j3, by rw [(hA j j0 j1).2]; exact j4⟩
  · rintro ⟨p, ⟨i, i0, i1, i2⟩ | ⟨j, j0, j1, j2, j3, j4⟩⟩
    · have hx := (hr y p.1 p.2).2 i i0 i1
      rw [i2] at hx
      refine ⟨p, hx, (hb y x p.1 p.2 hx.1 hx.2).mpr (Or.inl (((ho y p.1 p.2).2.2.2 x hx.1 hx.2).mpr ?_))⟩
      unfold kf_is
      simp only [Bool.or_eq_true, Bool.and_eq_true, decide_eq_true_eq]
      have := (hr y p.1 p.2).1
      have : i = 0 ∨ i = 1 := by omega
      rcases this with e | e
      · subst e; rw [Int.add_zero] at i2; exact Or.inl ⟨i1, i2⟩
      · subst e; exact Or.inr ⟨i1, i2⟩
    · rw [(hA j j0 j1).1] at j3
      rw [(hA j j0 j1).2] at j4
      have := (g1 j j0 j1).2
      rw [j4] at this
      exact ⟨p, this, (hb y x p.1 p.2 this.1 this.2).mpr (Or.inr ⟨j, j0, j1, (bit j j0 j1).mp j2, j3, j4⟩)⟩
/-- the reference's nearest is the class's -/
theorem kq_T_eq {f A B A' B' pn pr U D : Int → Int} {k w a b kins : Int} (hk10 : 0 ≤ kins ∧ kins ≤ 10) (hw : 0 ≤ w ∧ w < 2147483648) (hf : ∀ a : Int, 0 ≤ a → a < 10 → ten (f a) ∧ ∀ x : Int, 0 ≤ x → tb (f a) x = true → x < a) (hg : kf_good f A B k) (ho : kf_ok f (pn, pr)) (hr : ∀ y : Int, 0 ≤ y → y < 10 → (0 ≤ pn y ∧ pn y ≤ 2) ∧ ∀ j : Int, 0 ≤ j → j < pn y → 0 ≤ pr (2 * y + j) ∧ pr (2 * y + j) < 10) (hA : ∀ i : Int, 0 ≤ i → i < k → A' i = A i ∧ B' i = B i) (hW : kn_W f A B k w = true)
    (ha : 0 ≤ a ∧ a < kins) (hb : 0 ≤ b ∧ b < kins) {g h : Int → Int} (hg0 : ∀ x : Int, 0 ≤ x → x < 10 → g x = if x = a then 0 else 1000000) (hh0 : ∀ x : Int, 0 ≤ x → x < 10 → h x = if x = b then 0 else 1000000) (eU : U = kq_c w pn pr A' B' k (a + 1).toNat g) (eD : D = kq_c w pn pr A' B' k (b + 1).toNat h) (hU0 : ∀ x : Int, 0 ≤ x → x < 10 → 0 ≤ U x) (hD0 : ∀ x : Int, 0 ≤ x → x < 10 → 0 ≤ D x) :
    kn_eq (kn_T f A B k a b w) (kq_fn U D kins.toNat 0 (1000000, 1000000, 0)) := by
  have hpq := kr_PQ hw hg ho hr hA hW
  have hlt : ∀ y x, kr_P (kn_ent w A B k.toNat 0 f).2 y x → 0 ≤ x ∧ x < y := by
    rintro y x q
    obtain ⟨p, r, t⟩ := q
    refine ⟨r.1, ?_⟩
    rcases (kn_ent_bits (w := w) (A := A) (B := B) (k := k) hw.1 hw.2 hg.1.2 hg.2.1 k.toNat 0 f (by have := hg.1; omega) (by have := hg.1; omega) (fun a p r => (hf a p r).1) hW y x p.1 p.2 r.1 r.2).mp t with t | ⟨j, j0, j1, -, j2, j3⟩
    · exact (hf y p.1 p.2).2 x r.1 t
    · have := hg.2.2.2.2 j j0 j1; omega
  have hd : ∀ y x, 0 ≤ y → y < 10 → kr_Q w pn pr A' B' k y x → 0 ≤ x ∧ x < y := fun y x y0 y1 q => hlt y x ((hpq y x).mpr ⟨⟨y0, y1⟩, q⟩)
  have hAB : ∀ j, 0 ≤ j → j < k → B' j < A' j := fun j j0 j1 => by rw [(hA j j0 j1).1, (hA j j0 j1).2]; exact hg.2.2.2.2 j j0 j1
  have cU : ∀ x : Int, 0 ≤ x → x < 10 → kr_U (kr_P (kn_ent w A B k.toNat 0 f).2) a x = if U x = 1000000 then -1 else U x := fun x x0 x1 => by
    subst eU
    exact (kr_U_eq (kr_D_cong (fun y x => (hpq y x).symm) (kq_c_D hg.1.1 ⟨ha.1, by omega⟩ (fun y p r => (hr y p r).1.1) hd hAB hg0 x x0 x1))).symm
  have cD : ∀ x : Int, 0 ≤ x → x < 10 → kr_U (kr_P (kn_ent w A B k.toNat 0 f).2) b x = if D x = 1000000 then -1 else D x := fun x x0 x1 => by
    subst eD
    exact (kr_U_eq (kr_D_cong (fun y x => (hpq y x).symm) (kq_c_D hg.1.1 ⟨hb.1, by omega⟩ (fun y p r => (hr y p r).1.1) hd hAB hh0 x x0 x1))).symm
  have big : ∀ x : Int, kins ≤ x → x < 10 → kr_U (kr_P (kn_ent w A B k.toNat 0 f).2) a x = -1 := fun x x0 x1 => by
    refine (kr_U_eq (Or.inl ⟨rfl, fun t q => ?_⟩)).symm
    have := kr_R_le (fun y x q => (hlt y x q).2) t x q
    omega
  have key := kq_fn_eq (U := kr_U (kr_P (kn_ent w A B k.toNat 0 f).2) a) (D := kr_U (kr_P (kn_ent w A B k.toNat 0 f).2) b) (U' := U) (D' := D) kins.toNat (10 - kins.toNat) 0 (0, 0, 0) (1000000, 1000000, 0) (by omega) (by omega) (fun y p r => ⟨cU y p r, cD y p r, hU0 y p r, hD0 y p r⟩) (fun y p r => big y (by omega) r) ⟨by decide, rfl, fun z => absurd rfl z⟩
  rw [show kins.toNat + (10 - kins.toNat) = 10 by omega] at key
  exact key
