/-! ===== near: the reference counts the same ===== -/
/-- the same triple: how many, and where there is one, the steps -/
def kn_eq (s t : Int × Int × Int) : Prop := 0 ≤ s.2.2 ∧ s.2.2 = t.2.2 ∧ (s.2.2 ≠ 0 → s.1 = t.1 ∧ s.2.1 = t.2.1)
theorem kq_fn_eq {U D U' D' : Int → Int} : ∀ (n e : Nat) (x : Int) (s t : Int × Int × Int), 0 ≤ x → x + n + e = 10 → (∀ y : Int, 0 ≤ y → y < 10 → U y = (if U' y = 1000000 then -1 else U' y) ∧ D y = (if D' y = 1000000 then -1 else D' y) ∧ 0 ≤ U' y ∧ 0 ≤ D' y) → (∀ y : Int, x + n ≤ y → y < 10 → U y = -1) → kn_eq s t →
    kn_eq (kn_fn U D (n + e) x s) (kq_fn U' D' n x t) := by
  intro n
  induction n with
  | zero =>
    intro e
    induction e with
    | zero => intro x s t h0 h1 h2 h3 h4; exact h4
    | succ e ih =>
      intro x s t h0 h1 h2 h3 h4
      have hx := h3 x (by omega) (by omega)
      show kn_eq (kn_fn U D (0 + e + 1) x s) _
      unfold kn_fn
      rw [if_pos (Or.inl hx)]
      exact ih (x + 1) s t (by omega) (by omega) h2 (fun y a b => h3 y (by omega) b) h4
  | succ n ih =>
    intro e x s t h0 h1 h2 h3 h4
    obtain ⟨e1, e2, e3, e4⟩ := h2 x h0 (by omega)
    have en : n + 1 + e = (n + e) + 1 := by omega
    rw [en]
    unfold kn_fn kq_fn
    refine ih e (x + 1) _ _ (by omega) (by omega) h2 (fun y a b => h3 y (by omega) b) ?_
    obtain ⟨g1, g2, g3⟩ := h4
    by_cases z : U' x = 1000000 ∨ D' x = 1000000
    · rw [if_pos z, if_pos (by rcases z with z | z; exact Or.inl (by rw [e1, if_pos z]); exact Or.inr (by rw [e2, if_pos z]))]
      exact ⟨g1, g2, g3⟩
    · have z1 : ¬ U' x = 1000000 := fun w => z (Or.inl w)
      have z2 : ¬ D' x = 1000000 := fun w => z (Or.inr w)
      rw [if_neg z1] at e1
      rw [if_neg z2] at e2
      rw [if_neg z, if_neg (by omega), e1, e2]
      obtain ⟨s1, s2, s3⟩ := s
      obtain ⟨t1, t2, t3⟩ := t
      dsimp only at g1 g2 g3 ⊢
      subst g2
      by_cases y : s3 = 0
      · rw [if_pos (Or.inl y), if_neg (by omega), if_neg (by omega)]
        exact ⟨by show (0 : Int) ≤ 1; decide, rfl, fun _ => ⟨rfl, rfl⟩⟩
      · obtain ⟨g4, g5⟩ := g3 y
        subst g4; subst g5
        by_cases v : U' x + D' x - s1 - s2 < 0 ∨ U' x + D' x - s1 - s2 = 0 ∧ U' x < s1
        · rw [if_pos (Or.inr v), if_neg (by omega), if_neg (by omega)]
          exact ⟨by show (0 : Int) ≤ 1; decide, rfl, fun _ => ⟨rfl, rfl⟩⟩
        · rw [if_neg (by omega)]
          by_cases r : U' x = s1 ∧ D' x = s2
          · rw [if_pos r, if_neg (by omega), if_pos (by omega)]
            exact ⟨by dsimp only; omega, rfl, fun _ => ⟨r.1.symm, r.2.symm⟩⟩
          · rw [if_neg r, if_pos (by omega)]
            exact ⟨g1, rfl, fun _ => ⟨rfl, rfl⟩⟩
theorem kq_n_eq {w : Int} {A : Int → Int} {a : Int} (w0 : 0 ≤ w) (w1 : w < 2147483648) : ∀ (n : Nat) (i x : Int), 0 ≤ i → i + n ≤ 31 → kq_n w A a n i x = x + kf_c w A a n i := by
  intro n
  induction n with
  | zero => intro i x _ _; unfold kq_n kf_c; omega
  | succ n ih =>
    intro i x h0 h1
    unfold kq_n kf_c
    rw [ih (i + 1) _ (by omega) (by omega)]
    have hb := ks_bit w0 w1 h0 (by omega)
    by_cases z : tb w i = true
    · rw [if_pos z] at hb
      by_cases y : A i = a
      · rw [if_pos ⟨hb, y⟩, if_pos ⟨z, y⟩]; omega
      · rw [if_neg (fun q => y q.2), if_neg (fun q => y q.2)]; omega
    · rw [if_neg z] at hb
      rw [if_neg (fun q => by rw [hb] at q; exact absurd q.1 (by decide)), if_neg (fun q => z q.1)]; omega
theorem kq_w_eq {w : Int} {A pn : Int → Int} {mb : Int} (w0 : 0 ≤ w) (w1 : w < 2147483648) (hm : 0 ≤ mb ∧ mb ≤ 6) : ∀ (n : Nat) (a : Int), (kq_w w A pn mb n a = true ↔ ∀ b : Int, a ≤ b → b < a + n → pn b + kf_c w A b mb.toNat 0 ≤ 2) := by
  intro n
  induction n with
  | zero => intro a; unfold kq_w; exact ⟨fun _ b _ _ => by omega, fun _ => rfl⟩
  | succ n ih =>
    intro a
    unfold kq_w
    rw [kq_n_eq w0 w1 _ _ _ (by omega) (by omega)]
    by_cases z : 2 < pn a + kf_c w A a mb.toNat 0
    · rw [if_pos z]
      exact ⟨fun h => Bool.noConfusion h, fun h => by have := h a (by omega) (by omega); omega⟩
    · rw [if_neg z, ih (a + 1)]
      constructor
      · intro h b p r
        by_cases e : b = a
        · subst e; omega
        · exact h b (by omega) (by omega)
      · intro h b p r
        exact h b (by omega) (by omega)
/-- maybes that were added: no two alike, none sure -/
def kf_good (f A B : Int → Int) (k : Int) : Prop := (0 ≤ k ∧ k ≤ 6) ∧ (∀ i : Int, 0 ≤ i → i < k → (0 ≤ A i ∧ A i < 10) ∧ 0 ≤ B i ∧ B i < 10) ∧ (∀ i j : Int, 0 ≤ i → i < j → j < k → ¬ (A i = A j ∧ B i = B j)) ∧ (∀ i : Int, 0 ≤ i → i < k → tb (f (A i)) (B i) = false) ∧ (∀ i : Int, 0 ≤ i → i < k → B i < A i)
theorem kn_has_no {A B : Int → Int} {a b : Int} : ∀ (n : Nat) (i : Int), (kn_has A B a b n i = false ↔ ∀ j : Int, i ≤ j → j < i + n → ¬ (A j = a ∧ B j = b)) := by
  intro n
  induction n with
  | zero => intro i; unfold kn_has; exact ⟨fun _ j _ _ => by omega, fun _ => rfl⟩
  | succ n ih =>
    intro i
    unfold kn_has
    rw [Bool.or_eq_false_iff, ih (i + 1)]
    constructor
    · rintro ⟨h1, h2⟩ j p r ⟨q1, q2⟩
      by_cases e : j = i
      · subst e; simp [q1, q2] at h1
      · exact h2 j (by omega) (by omega) ⟨q1, q2⟩
    · intro h
      refine ⟨?_, fun j p r => h j (by omega) (by omega)⟩
      have := h i (by omega) (by omega)
      by_cases e : A i = a
      · by_cases g : B i = b
        · exact absurd ⟨e, g⟩ this
        · simp [g]
      · simp [e]
theorem kn_may_good {m : km_Mm} (hn : ∀ i : Int, 0 ≤ i → i < 100 → m 16 i ≠ 0 → m 12 i = 0 → (0 ≤ m 13 i ∧ m 13 i < 10) ∧ (0 ≤ m 14 i ∧ m 14 i < 10) ∧ (i < m 5 8 → m 14 i < m 13 i)) (hk : m 5 8 ≤ 100) (hs : ∀ a : Int, 0 ≤ a → a < 10 → ten (m 53 a)) : ∀ (n : Nat) (i : Int) (t : (Int → Int) × (Int → Int) × Int), 0 ≤ i → i + n = m 5 8 → kf_good (m 53) t.1 t.2.1 t.2.2 → kf_good (m 53) (kn_may m n i t).1 (kn_may m n i t).2.1 (kn_may m n i t).2.2 := by
  intro n
  induction n with
  | zero => intro i t h0 h1 h2; exact h2
  | succ n ih =>
    intro i t h0 h1 h2
    unfold kn_may
    refine ih (i + 1) _ (by omega) (by omega) ?_
    by_cases z : (m 16 i ≠ 0 ∧ m 12 i = 0 ∧ m 15 i = 1) ∧ ¬ (6 ≤ t.2.2) ∧ km_and (km_shr (m 53 (m 13 i)) (m 14 i)) 1 = 0 ∧ kn_has t.1 t.2.1 (m 13 i) (m 14 i) t.2.2.toNat 0 = false
    · rw [if_pos z]
      obtain ⟨⟨z1, z2, z3⟩, z4, z5, z6⟩ := z
      obtain ⟨⟨a0, a1⟩, ⟨b0, b1⟩, b2⟩ := hn i h0 (by omega) z1 z2
      have b2 := b2 (by omega)
      have hT := hs _ a0 a1
      have z7 := (ks_bit0 hT.1 (by have := hT.2; omega) b0 (by omega)).mp z5
      have z8 := (kn_has_no _ _).mp z6
      obtain ⟨g0, g1, g2, g3, g4⟩ := h2
      dsimp only
      refine ⟨by omega, fun j p r => ?_, fun j l p r s => ?_, fun j p r => ?_, fun j p r => ?_⟩
      · by_cases e : j = t.2.2
        · rw [e]; simp only [km_u1, if_true]; exact ⟨⟨a0, a1⟩, b0, b1⟩
        · simp only [km_u1, if_neg e]; exact g1 j p (by omega)
      · have ej : j ≠ t.2.2 := by omega
        by_cases e : l = t.2.2
        · rw [e]; simp only [km_u1, if_true, if_neg ej]; exact z8 j p (by omega)
        · simp only [km_u1, if_neg e, if_neg ej]; exact g2 j l p r (by omega)
      · by_cases e : j = t.2.2
        · rw [e]; simp only [km_u1, if_true]; exact z7
        · simp only [km_u1, if_neg e]; exact g3 j p (by omega)
      · by_cases e : j = t.2.2
        · rw [e]; simp only [km_u1, if_true]; exact b2
        · simp only [km_u1, if_neg e]; exact g4 j p (by omega)
    · rw [if_neg z]; exact h2
/-! ===== near: strikes and what is sure ===== -/
theorem kc_stk {S A : Int → Int} {n0 : Int} (h100 : n0 ≤ 100) : ∀ (n : Nat) (m : km_Mm) (C : Int → Int), (n : Int) ≤ n0 → (∀ i : Int, 0 ≤ i → i < n0 → (m 12 i = 5 ↔ S i = 9) ∧ (S i = 9 → A i = m 13 i)) →
    (∀ i : Int, 0 ≤ i → i < n0 → (m 16 i ≠ 0 ↔ C i ≠ 0)) → (∀ i : Int, n0 ≤ i → i < 100 → C i = 0) →
    (∀ i : Int, 0 ≤ i → i < n0 → (km_stk n m 16 i ≠ 0 ↔ kq_kn S A n C i ≠ 0)) ∧ (∀ i : Int, n0 ≤ i → i < 100 → kq_kn S A n C i = 0) := by
  intro n
  induction n with
  | zero => intro m C h0 h1 h2 h3; exact ⟨h2, h3⟩
  | succ n ih =>
    intro m C h0 h1 h2 h3
    unfold km_stk kq_kn
    have hn := h1 n (by omega) (by omega)
    have hc := h2 n (by omega) (by omega)
    by_cases z : m 16 n ≠ 0 ∧ m 12 n = 5
    · have z2 : S n = 9 ∧ C n ≠ 0 := ⟨hn.1.mp z.2, hc.mp z.1⟩
      have z3 := hn.2 z2.1
      rw [if_pos z, if_pos z2, z3]
      refine ih _ _ (by omega) (fun i a b => ?_) (fun i a b => ?_) (fun i a b => ?_)
      · have := h1 i a b
        unfold km_up
        exact this
      · have := h2 i a b
        unfold km_up km_u1
        rw [if_pos rfl]
        by_cases e : i = m 13 n
        · rw [if_pos e, if_pos e]
        · rw [if_neg e, if_neg e]; exact this
      · unfold km_u1
        by_cases e : i = m 13 n
        · rw [if_pos e]
        · rw [if_neg e]; exact h3 i a b
    · rw [if_neg z, if_neg (fun w => z ⟨hc.mpr w.2, hn.1.mpr w.1⟩)]
      exact ih _ _ (by omega) h1 h2 h3
/-- the sure parents have lesser numbers -/
theorem kn_sure_lt {m : km_Mm} (hn : ∀ i : Int, 0 ≤ i → i < m 5 8 → m 16 i ≠ 0 → m 12 i = 0 → (0 ≤ m 13 i ∧ m 13 i < 10) ∧ (0 ≤ m 14 i ∧ m 14 i < 10) ∧ m 14 i < m 13 i) : ∀ (n : Nat) (i : Int) (f : Int → Int), 0 ≤ i → i + n = m 5 8 → (∀ a : Int, 0 ≤ a → a < 10 → ten (f a) ∧ ∀ x : Int, 0 ≤ x → tb (f a) x = true → x < a) →
    (∀ a : Int, 0 ≤ a → a < 10 → ten (kn_sure m n i f a) ∧ ∀ x : Int, 0 ≤ x → tb (kn_sure m n i f a) x = true → x < a) := by
  intro n
  induction n with
  | zero => intro i f h0 h1 h2; exact h2
  | succ n ih =>
    intro i f h0 h1 h2
    unfold kn_sure
    refine ih (i + 1) _ (by omega) (by omega) (fun a a0 a1 => ?_)
    by_cases z : (m 16 i ≠ 0 ∧ m 12 i = 0 ∧ m 15 i = 0) ∧ km_pop (f (m 13 i)) < 2
    · rw [if_pos z]
      obtain ⟨⟨c0, c1⟩, ⟨b0, b1⟩, b2⟩ := hn i h0 (by omega) z.1.1 z.1.2.1
      by_cases e : a = m 13 i
      · rw [e, km_u1_s]
        obtain ⟨k1, k2⟩ := h2 _ c0 c1
        have t2 := ten_one b0 b1
        refine ⟨ten_or k1 t2, fun x x0 hx => ?_⟩
        rw [tb_or k1.1 (by have := k1.2; omega) t2.1 (by have := t2.2; omega), tb_one b0 (by omega) x0, Bool.or_eq_true, decide_eq_true_eq] at hx
        rcases hx with hx | hx
        · exact k2 x x0 hx
        · omega
      · rw [km_u1_o e]; exact h2 a a0 a1
    · rw [if_neg z]; exact h2 a a0 a1
theorem kn_fn_b {U D : Int → Int} (hU : ∀ x : Int, 0 ≤ x → x < 10 → -1 ≤ U x ∧ U x ≤ 20) (hD : ∀ x : Int, 0 ≤ x → x < 10 → -1 ≤ D x ∧ D x ≤ 20) : ∀ (n : Nat) (x : Int) (t : Int × Int × Int), 0 ≤ x → x + n = 10 → (0 ≤ t.1 ∧ t.1 ≤ 20) → (0 ≤ t.2.1 ∧ t.2.1 ≤ 20) → (0 ≤ (kn_fn U D n x t).1 ∧ (kn_fn U D n x t).1 ≤ 20) ∧ (0 ≤ (kn_fn U D n x t).2.1 ∧ (kn_fn U D n x t).2.1 ≤ 20) := by
  intro n
  induction n with
  | zero => intro x t h0 h1 h2 h3; exact ⟨h2, h3⟩
  | succ n ih =>
    intro x t h0 h1 h2 h3
    have hu := hU x h0 (by omega)
    have hd := hD x h0 (by omega)
    unfold kn_fn
    refine ih (x + 1) _ (by omega) (by omega) ?_ ?_
    · split
      · exact h2
      · split
        · dsimp only; omega
        · split
          · exact h2
          · exact h2
    · split
      · exact h3
      · split
        · dsimp only; omega
        · split
          · exact h3
          · exact h3
theorem kr_U_b {par : Int → Int → Prop} {fr x : Int} (hf : 0 ≤ fr ∧ fr < 10) (hp : ∀ y x, par y x → 0 ≤ x ∧ x < y) : -1 ≤ kr_U par fr x ∧ kr_U par fr x ≤ 20 := by
  classical
  unfold kr_U
  by_cases h : ∃ d, kr_D par fr x d
  · rw [dif_pos h]
    rcases h.choose_spec with ⟨a, -⟩ | ⟨a, b, -⟩
    · omega
    · have := kr_R_le (fun y x q => (hp y x q).2) _ _ b
      have hx : 0 ≤ x := by
        cases ht : h.choose.toNat with
        | zero => rw [ht] at b; unfold kr_R at b; omega
        | succ t => rw [ht] at b; obtain ⟨y, -, q⟩ := b; exact (hp y x q).1
      omega
  · rw [dif_neg h]; omega
/-- the class's worlds and what is near in them -/
def kn_W (f A B : Int → Int) (k w : Int) : Bool := (kn_ent w A B k.toNat 0 f).1
noncomputable def kn_T (f A B : Int → Int) (k a b w : Int) : Int × Int × Int := kn_fn (kr_U (kr_P (kn_ent w A B k.toNat 0 f).2) a) (kr_U (kr_P (kn_ent w A B k.toNat 0 f).2) b) 10 0 (0, 0, 0)
theorem kr_P_cong {P P' : Int → Int} (h : ∀ a : Int, 0 ≤ a → a < 10 → P a = P' a) (y x : Int) : kr_P P y x ↔ kr_P P' y x := by
  unfold kr_P
  constructor
  · rintro ⟨a, b, d⟩; rw [h y a.1 a.2] at d; exact ⟨a, b, d⟩
  · rintro ⟨a, b, d⟩; rw [← h y a.1 a.2] at d; exact ⟨a, b, d⟩
theorem kr_D_cong {par par' : Int → Int → Prop} {fr x d : Int} (h : ∀ y x, par y x ↔ par' y x) (k : kr_D par fr x d) : kr_D par' fr x d := by
  have hc := kr_R_cong (fr := fr) h
  rcases k with ⟨a, b⟩ | ⟨a, b, e⟩
  · exact Or.inl ⟨a, fun t q => b t ((hc t x).mpr q)⟩
  · exact Or.inr ⟨a, (hc _ x).mp b, fun s hs q => e s hs ((hc s x).mpr q)⟩
theorem kn_T_spec {f A B : Int → Int} {k a b w u d : Int} {P g h : Int → Int} (hf : ∀ a : Int, 0 ≤ a → a < 10 → ten (f a) ∧ ∀ x : Int, 0 ≤ x → tb (f a) x = true → x < a) (hg : kf_good f A B k) (hw : 0 ≤ w ∧ w < 2147483648) (hW : kn_W f A B k w = true) (ha : 0 ≤ a ∧ a < 10) (hb : 0 ≤ b ∧ b < 10) (hu : 0 ≤ u ∧ u ≤ 20) (hd : 0 ≤ d ∧ d ≤ 20)
    (hP : ∀ y : Int, 0 ≤ y → y < 10 → P y = (kn_ent w A B k.toNat 0 f).2 y) (hgg : ∀ x : Int, 0 ≤ x → x < 10 → g x = -1) (hh : ∀ x : Int, 0 ≤ x → x < 10 → h x = -1) :
    (∀ x : Int, 0 ≤ x → x < 10 → -1 ≤ kn_cl2 P 10 0 (km_shl 1 a) g x ∧ kn_cl2 P 10 0 (km_shl 1 a) g x ≤ 20) ∧ (∀ x : Int, 0 ≤ x → x < 10 → -1 ≤ kn_cl2 P 10 0 (km_shl 1 b) h x ∧ kn_cl2 P 10 0 (km_shl 1 b) h x ≤ 20) ∧
      kn_eq (kn_fn (kn_cl2 P 10 0 (km_shl 1 a) g) (kn_cl2 P 10 0 (km_shl 1 b) h) 10 0 (u, d, 0)) (kn_T f A B k a b w) := by
  obtain ⟨g0, g1, g2, g3, g4⟩ := hg
  have hten := kn_ent_ten (w := w) (A := A) (B := B) (k := k) g1 k.toNat 0 f (by omega) (by omega) (fun a p r => (hf a p r).1)
  have hbit := kn_ent_bits (w := w) (A := A) (B := B) (k := k) hw.1 hw.2 g0.2 g1 k.toNat 0 f (by omega) (by omega) (fun a p r => (hf a p r).1) hW
  have hlt : ∀ y x, kr_P (kn_ent w A B k.toNat 0 f).2 y x → 0 ≤ x ∧ x < y := by
    rintro y x ⟨p, r, t⟩
    refine ⟨r.1, ?_⟩
    rcases (hbit y x p.1 p.2 r.1 r.2).mp t with t | ⟨j, j0, j1, -, j2, j3⟩
    · exact (hf y p.1 p.2).2 x r.1 t
    · have := g4 j j0 j1; omega
  have hc := kr_P_cong hP
  have tP : ∀ a : Int, 0 ≤ a → a < 10 → ten (P a) := fun y p r => by rw [hP y p r]; exact hten y p r
  have dP : ∀ y x, kr_P P y x → x < y := fun y x q => (hlt y x ((hc y x).mp q)).2
  have eU : ∀ x : Int, 0 ≤ x → x < 10 → kn_cl2 P 10 0 (km_shl 1 a) g x = kr_U (kr_P (kn_ent w A B k.toNat 0 f).2) a x := fun x p r => kr_U_eq (kr_D_cong hc (kn_cl2_D ha tP dP hgg x p r))
  have eD : ∀ x : Int, 0 ≤ x → x < 10 → kn_cl2 P 10 0 (km_shl 1 b) h x = kr_U (kr_P (kn_ent w A B k.toNat 0 f).2) b x := fun x p r => kr_U_eq (kr_D_cong hc (kn_cl2_D hb tP dP hh x p r))
  refine ⟨fun x p r => by rw [eU x p r]; exact kr_U_b ha hlt, fun x p r => by rw [eD x p r]; exact kr_U_b hb hlt, ?_⟩
  have := kn_fn_cong (U := kn_cl2 P 10 0 (km_shl 1 a) g) (D := kn_cl2 P 10 0 (km_shl 1 b) h) 10 0 u d 0 0 0 0 (by omega) (by omega) (fun y p r => ⟨eU y p r, eD y p r⟩) (by omega) rfl (fun z => absurd rfl z)
  exact ⟨this.1, this.2.1, this.2.2⟩
/-- the answers over all worlds -/
def kn_ow (W : Int → Bool) (T : Int → Int × Int × Int) : Nat → Int → Int × Int × Int → Int × Int × Int
  | 0, _, r => r
  | n + 1, w, r => kn_ow W T n (w + 1) (if W w = true then (r.1 + 1, if 0 < (T w).2.2 then (r.2.1 + 1, if r.2.2 = -1 then (T w).1 + (T w).2.1 else if (T w).1 + (T w).2.1 < r.2.2 then (T w).1 + (T w).2.1 else r.2.2) else (r.2.1, r.2.2)) else r)
def kn_sn (T : Int → Int × Int × Int) (what : Int) : Int := if what = 2 then (T 0).2.2 else if (T 0).2.2 = 0 then -1 else if what = 0 then (T 0).1 else (T 0).2.1
def kn_an (r : Int × Int × Int) (what : Int) : Int := if what = 3 then r.1 else if what = 4 then r.2.1 else r.2.2
