/-! ===== the world's cells ===== -/
/-- what a start of the law fixes: the classes' numbers and slots, the array classes' numbers, the addresses, where new cells begin, the script, what else stands outside -/
abbrev km_Pr : Type := ((Nat → ClassId) × (Nat → Nat → Nat)) × (Nat → ClassId) × (Int → Nat) × Nat × Nat × (Nat → Int32) × (State → Prop)
abbrev km_D (w : km_Pr) : va_G := w.1
abbrev km_dA (w : km_Pr) : Nat → ClassId := w.2.1
abbrev km_ad (w : km_Pr) : Int → Nat := w.2.2.1
abbrev km_bs (w : km_Pr) : Nat := w.2.2.2.1
abbrev km_L (w : km_Pr) : Nat := w.2.2.2.2.1
abbrev km_xs (w : km_Pr) : Nat → Int32 := w.2.2.2.2.2.1
abbrev km_E2 (w : km_Pr) : State → Prop := w.2.2.2.2.2.2
def km_A (w : km_Pr) : Nat → Prop := fun q => km_bs w ≤ q
def km_gd (w : km_Pr) : Prop := (∀ k : Int, 0 ≤ k → km_ad w k = km_bs w + k.toNat) ∧ km_ad w (-2) < km_bs w ∧ km_L w ≤ 3072 ∧
  ∀ u U : State, u.WarmedH U.vm → (∀ q : Nat, q < km_bs w → U.heap[q]? = u.heap[q]?) → km_E2 w u → km_E2 w U
def km_tys (w : km_Pr) : List (ClassId × FieldType) := [(km_dA w 0, .int), (km_dA w 1, .long), (km_dA w 2, .boolean), (km_dA w 3, .array .int)]
def km_fv (ad : Int → Nat) (t : Nat) (x r : Int) : Value := if t = 1 then .long (Int64.ofInt x) else if t = 2 then km_rv ad r else .int (Int32.ofInt x)
def km_fs (ad : Int → Nat) (A : km_Al) (m : km_Mm) (ci : Nat) (a : Int) : List Value := (km_ftL.getD ci []).mapIdx (fun j t => km_fv ad t (m a j) (km_rf A a j))
def km_en (w : km_Pr) (A : km_Al) (m : km_Mm) (a : Int) : va_E :=
  if km_kd A a = 0 then .inl (km_dA w 0, (km_ln A a).toNat, .inl (fun j => Int32.ofInt (m a j)))
  else if km_kd A a = 1 then .inl (km_dA w 1, (km_ln A a).toNat, .inr (.inl (fun j => Int64.ofInt (m a j))))
  else if km_kd A a = 2 then .inl (km_dA w 2, (km_ln A a).toNat, .inl (fun j => Int32.ofInt (m a j)))
  else if km_kd A a = 3 then .inl (km_dA w 3, (km_ln A a).toNat, .inr (.inr (.inr (.inr (fun j => if km_rf A a j = -1 then none else some (km_ad w (km_rf A a j)))))))
  else .inr ((km_kd A a - 10).toNat, km_fs (km_ad w) A m (km_kd A a - 10).toNat a)
def km_wd (w : km_Pr) (A : km_Al) (m : km_Mm) : va_W := (List.range A.1).map (fun j : Nat => (km_ad w (j : Int), km_en w A m (j : Int)))
def km_P (w : km_Pr) (A : km_Al) (m : km_Mm) (H : Heap) : Prop := va_P (km_D w) vwCl (km_wd w A m) H
/-- 1 where a long stands -/
def km_ty (A : km_Al) (a i : Int) : Nat := if km_kd A a = 1 then 1 else if 10 ≤ km_kd A a then (if 0 ≤ i then km_ft (km_kd A a - 10).toNat i.toNat else 0) else 0
def km_Rg (w : km_Pr) (A : km_Al) (m : km_Mm) : Prop := (∀ a i : Int, (km_ty A a i = 1 → -9223372036854775808 ≤ m a i ∧ m a i ≤ 9223372036854775807) ∧ (km_ty A a i ≠ 1 → -2147483648 ≤ m a i ∧ m a i ≤ 2147483647)) ∧
  (∀ a : Int, 0 ≤ km_ln A a ∧ km_ln A a ≤ 100000) ∧ km_ln A (-2) = (km_L w : Int) ∧ ∀ j : Nat, j < km_L w → m (-2) (j : Int) = (km_xs w j).toInt
theorem km_wd_at (w : km_Pr) (A : km_Al) (m : km_Mm) {q : Nat} (h : q < A.1) : (km_wd w A m)[q]? = some (km_ad w (q : Int), km_en w A m (q : Int)) := by
  unfold km_wd
  rw [List.getElem?_map, List.getElem?_range h]
  rfl
theorem km_wd_at' (w : km_Pr) (A : km_Al) (m : km_Mm) {a : Int} (h0 : 0 ≤ a) (h : a < (A.1 : Int)) {e : va_E} (he : km_en w A m a = e) : (km_wd w A m)[a.toNat]? = some (km_ad w a, e) := by
  have h1 := km_wd_at w A m (q := a.toNat) (by omega)
  rw [show ((a.toNat : Nat) : Int) = a by omega, he] at h1
  exact h1
theorem km_wd_len (w : km_Pr) (A : km_Al) (m : km_Mm) : (km_wd w A m).length = A.1 := by
  unfold km_wd
  rw [List.length_map, List.length_range]
theorem km_wd_none (w : km_Pr) (A : km_Al) (m : km_Mm) {q : Nat} (h : ¬ q < A.1) : (km_wd w A m)[q]? = none := List.getElem?_eq_none (by rw [km_wd_len]; omega)
theorem km_wd_D {w : km_Pr} (g : km_gd w) (A : km_Al) (m : km_Mm) : va_D (km_A w) (km_wd w A m) := by
  have key : ∀ (k : Nat) (q : Nat × va_E), (km_wd w A m)[k]? = some q → q.1 = km_bs w + k := by
    intro k q hk
    by_cases h : k < A.1
    · rw [km_wd_at w A m h] at hk
      cases hk
      exact g.1 k (by omega)
    · rw [km_wd_none w A m h] at hk
      cases hk
  refine ⟨fun i j p q hi hj hpq => ?_, fun k q hk => ?_⟩
  · have h1 := key i p hi
    have h2 := key j q hj
    omega
  · show km_bs w ≤ q.1
    rw [key k q hk]
    omega
theorem km_wd_set (w : km_Pr) (A A' : km_Al) (m m' : km_Mm) {a : Int} (h0 : 0 ≤ a) (h : a < (A.1 : Int)) (hA : A'.1 = A.1) {e : va_E} (he : km_en w A' m' a = e) (ho : ∀ b : Int, b ≠ a → km_en w A' m' b = km_en w A m b) :
    (km_wd w A m).set a.toNat (km_ad w a, e) = km_wd w A' m' := by
  apply List.ext_getElem?
  intro k
  rw [List.getElem?_set]
  by_cases hk : k < A.1
  · rw [km_wd_at w A' m' (hA ▸ hk)]
    by_cases hak : a.toNat = k
    · subst hak
      rw [if_pos rfl, if_pos (by rw [km_wd_len]; exact hk), show ((a.toNat : Nat) : Int) = a by omega, he]
    · rw [if_neg hak, km_wd_at w A m hk, ho (k : Int) (by omega)]
  · rw [km_wd_none w A' m' (hA ▸ hk), km_wd_none w A m hk]
    by_cases hak : a.toNat = k
    · exact absurd hak (by omega)
    · rw [if_neg hak]
theorem km_en_o {w : km_Pr} {A : km_Al} {m : km_Mm} {a : Int} {ci : Nat} (h : km_kd A a = 10 + (ci : Int)) : km_en w A m a = .inr (ci, km_fs (km_ad w) A m ci a) := by
  unfold km_en
  rw [h, if_neg (by omega), if_neg (by omega), if_neg (by omega), if_neg (by omega), show (10 + (ci : Int) - 10).toNat = ci by omega]
theorem km_en_0 {w : km_Pr} {A : km_Al} {m : km_Mm} {a : Int} (h : km_kd A a = 0) : km_en w A m a = .inl (km_dA w 0, (km_ln A a).toNat, .inl (fun j => Int32.ofInt (m a j))) := by
  unfold km_en
  rw [h, if_pos rfl]
theorem km_en_1 {w : km_Pr} {A : km_Al} {m : km_Mm} {a : Int} (h : km_kd A a = 1) : km_en w A m a = .inl (km_dA w 1, (km_ln A a).toNat, .inr (.inl (fun j => Int64.ofInt (m a j)))) := by
  unfold km_en
  rw [h, if_neg (by omega), if_pos rfl]
theorem km_en_2 {w : km_Pr} {A : km_Al} {m : km_Mm} {a : Int} (h : km_kd A a = 2) : km_en w A m a = .inl (km_dA w 2, (km_ln A a).toNat, .inl (fun j => Int32.ofInt (m a j))) := by
  unfold km_en
  rw [h, if_neg (by omega), if_neg (by omega), if_pos rfl]
theorem km_en_3 {w : km_Pr} {A : km_Al} {m : km_Mm} {a : Int} (h : km_kd A a = 3) : km_en w A m a = .inl (km_dA w 3, (km_ln A a).toNat, .inr (.inr (.inr (.inr (fun j => if km_rf A a j = -1 then none else some (km_ad w (km_rf A a j))))))) := by
  unfold km_en
  rw [h, if_neg (by omega), if_neg (by omega), if_neg (by omega), if_pos rfl]
theorem km_getD {L : List Nat} {k : Nat} (h : k < L.length) : L[k] = L.getD k 0 := by
  rw [List.getD_eq_getElem?_getD, List.getElem?_eq_getElem h]
  rfl
theorem km_fs_at {ad : Int → Nat} {A : km_Al} {m : km_Mm} {ci k : Nat} {a : Int} (h : k < (km_ftL.getD ci []).length) : (km_fs ad A m ci a)[k]? = some (km_fv ad (km_ft ci k) (m a k) (km_rf A a k)) := by
  unfold km_fs km_ft
  rw [List.getElem?_mapIdx, List.getElem?_eq_getElem h, km_getD h]
  rfl
theorem km_fs_set {ad : Int → Nat} {A A' : km_Al} {m m' : km_Mm} {ci k : Nat} {a : Int} {v : Value} (h : k < (km_ftL.getD ci []).length) (hv : v = km_fv ad (km_ft ci k) (m' a k) (km_rf A' a k)) (ho : ∀ j : Nat, j ≠ k → m' a j = m a j ∧ km_rf A' a j = km_rf A a j) :
    (km_fs ad A m ci a).set k v = km_fs ad A' m' ci a := by
  apply List.ext_getElem?
  intro j
  have hl : (km_fs ad A m ci a).length = (km_ftL.getD ci []).length := by unfold km_fs; rw [List.length_mapIdx]
  rw [List.getElem?_set]
  by_cases hj : j < (km_ftL.getD ci []).length
  · rw [km_fs_at hj, km_fs_at hj]
    by_cases hk : k = j
    · subst hk
      rw [if_pos rfl, if_pos (by rw [hl]; exact h), hv]
    · rw [if_neg hk, (ho j (fun q => hk q.symm)).1, (ho j (fun q => hk q.symm)).2]
  · have n1 : (km_fs ad A m ci a)[j]? = none := List.getElem?_eq_none (by rw [hl]; omega)
    have n2 : (km_fs ad A' m' ci a)[j]? = none := List.getElem?_eq_none (by unfold km_fs; rw [List.length_mapIdx]; omega)
    rw [if_neg (by omega), n1, n2]
theorem km_en_up {w : km_Pr} {A : km_Al} {m : km_Mm} {a i v b : Int} (h : b ≠ a) : km_en w A (km_up m a i v) b = km_en w A m b := by
  have e : ∀ j : Int, km_up m a i v b j = m b j := fun j => by unfold km_up; rw [if_neg h]
  unfold km_en km_fs
  simp only [e]
theorem km_up_s {m : km_Mm} {a i v : Int} : km_up m a i v a i = v := by unfold km_up; rw [if_pos rfl, if_pos rfl]
theorem km_up_i {m : km_Mm} {a i v j : Int} (h : j ≠ i) : km_up m a i v a j = m a j := by unfold km_up; rw [if_pos rfl, if_neg h]
theorem km_up_a {m : km_Mm} {a i v b j : Int} (h : b ≠ a) : km_up m a i v b j = m b j := by unfold km_up; rw [if_neg h]
theorem km_Rg.up {w : km_Pr} {A : km_Al} {m : km_Mm} {a i v : Int} (h : km_Rg w A m) (ha : 0 ≤ a) (h1 : km_ty A a i = 1 → -9223372036854775808 ≤ v ∧ v ≤ 9223372036854775807) (h2 : km_ty A a i ≠ 1 → -2147483648 ≤ v ∧ v ≤ 2147483647) : km_Rg w A (km_up m a i v) := by
  refine ⟨fun b j => ?_, h.2.1, h.2.2.1, fun j hj => by rw [km_up_a (by omega)]; exact h.2.2.2 j hj⟩
  by_cases hb : b = a
  · subst hb
    by_cases hj : j = i
    · subst hj
      rw [km_up_s]
      exact ⟨h1, h2⟩
    · rw [km_up_i hj]
      exact h.1 b j
  · rw [km_up_a hb]
    exact h.1 b j
