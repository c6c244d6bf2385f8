/-! ===== how the small machine's numbers lie in the heap ===== -/
theorem km_i32 {x : Int} (h : -2147483648 ≤ x ∧ x ≤ 2147483647) : (Int32.ofInt x).toInt = x := by
  rw [Int32.toInt_ofInt, show Int32.size = 2 ^ 32 from rfl, Int.bmod_eq_of_le (by omega) (by omega)]
theorem km_i64 {x : Int} (h : -9223372036854775808 ≤ x ∧ x ≤ 9223372036854775807) : (Int64.ofInt x).toInt = x := by
  rw [Int64.toInt_ofInt, show Int64.size = 2 ^ 64 from rfl, Int.bmod_eq_of_le (by omega) (by omega)]
theorem km_rng (x : Int32) : -2147483648 ≤ x.toInt ∧ x.toInt ≤ 2147483647 := by
  have h1 := Int32.le_toInt x
  have h2 := Int32.toInt_lt x
  omega
theorem km_back (x : Int32) : Int32.ofInt x.toInt = x := Int32.ofInt_toInt x
theorem km_clamp {i : Int} (h0 : 0 ≤ i) (h1 : i ≤ 2147483647) : (Int32.ofInt i).toNatClampNeg = i.toNat := by
  rw [← Int32.toNat_toInt, km_i32 ⟨by omega, h1⟩]
theorem km_vin {i : Int} {n : Nat} (h0 : 0 ≤ i) (h1 : i < n) (hn : (n : Int) ≤ 2147483647) : vp_in (Int32.ofInt i) n := by
  unfold vp_in
  rw [km_clamp h0 (by omega), Int32.lt_iff_toInt_lt, km_i32 ⟨by omega, by omega⟩, Int32.toInt_zero]
  omega
theorem km_ckS {z w : Int} (h : km_ck z = some w) : w = z ∧ -2147483648 ≤ z ∧ z ≤ 2147483647 := by
  unfold km_ck at h
  split at h
  · cases h; exact ⟨rfl, by assumption⟩
  · cases h
theorem km_ckLS {z w : Int} (h : km_ckL z = some w) : w = z ∧ -9223372036854775808 ≤ z ∧ z ≤ 9223372036854775807 := by
  unfold km_ckL at h
  split at h
  · cases h; exact ⟨rfl, by assumption⟩
  · cases h
def km_rv (ad : Int → Nat) (r : Int) : Value := if r = -1 then .null else .ref (ad r)
def km_cv (ad : Int → Nat) : km_V → Value
  | .inl x => .int (Int32.ofInt x)
  | .inr (.inl x) => .long (Int64.ofInt x)
  | .inr (.inr r) => km_rv ad r
def km_vo : km_V → Prop
  | .inl x => -2147483648 ≤ x ∧ x ≤ 2147483647
  | .inr (.inl x) => -9223372036854775808 ≤ x ∧ x ≤ 9223372036854775807
  | .inr (.inr _) => True
theorem km_cat_cv (ad : Int → Nat) (v : km_V) : (km_cv ad v).category = km_cat v := by
  rcases v with x | x | x
  · rfl
  · rfl
  · show (km_rv ad x).category = 1
    unfold km_rv
    split <;> rfl
theorem km_cats (ad : Int → Nat) (r : List km_V) : ((r.map (km_cv ad)).map fun v => v.category).sum = (r.map km_cat).sum := by
  rw [List.map_map]
  congr 1
  apply List.map_congr_left
  intro v _
  exact km_cat_cv ad v
/-- the locals that hold a value, by their places -/
def km_lv (ad : Int → Nat) : Nat → km_Ls → List (Nat × Value)
  | _, [] => []
  | i, some v :: t => (i, km_cv ad v) :: km_lv ad (i + 1) t
  | i, none :: t => km_lv ad (i + 1) t
theorem km_lv_mem {ad : Int → Nat} : ∀ {ls : km_Ls} {i : Nat} {q : Nat × Value}, q ∈ km_lv ad i ls ↔ ∃ (k : Nat) (v : km_V), ls[k]? = some (some v) ∧ q = (i + k, km_cv ad v)
  | [], i, q => by simp [km_lv]
  | none :: t, i, q => by
    rw [km_lv, km_lv_mem]
    constructor
    · rintro ⟨k, v, h1, h2⟩
      exact ⟨k + 1, v, by simpa using h1, by rw [h2, Nat.add_assoc, Nat.add_comm 1 k]⟩
    · rintro ⟨k, v, h1, h2⟩
      cases k with
      | zero => simp at h1
      | succ k => exact ⟨k, v, by simpa using h1, by rw [h2, Nat.add_assoc, Nat.add_comm 1 k]⟩
  | some u :: t, i, q => by
    rw [km_lv, List.mem_cons, km_lv_mem]
    constructor
    · rintro (rfl | ⟨k, v, h1, h2⟩)
      · exact ⟨0, u, rfl, rfl⟩
      · exact ⟨k + 1, v, by simpa using h1, by rw [h2, Nat.add_assoc, Nat.add_comm 1 k]⟩
    · rintro ⟨k, v, h1, h2⟩
      cases k with
      | zero =>
        left
        have h3 : u = v := by simpa using h1
        rw [h2, h3, Nat.add_zero]
      | succ k => exact Or.inr ⟨k, v, by simpa using h1, by rw [h2, Nat.add_assoc, Nat.add_comm 1 k]⟩
/-- the locals of the frame are those of the small machine -/
def km_lm (ad : Int → Nat) (nL : Nat) (ls : km_Ls) (lc : Array Slot) : Prop := ls.length = nL ∧ lv_has lc nL (km_lv ad 0 ls) ∧ ∀ (k : Nat) (v : km_V), ls[k]? = some (some v) → km_vo v
theorem km_lm.at {ad : Int → Nat} {nL : Nat} {ls : km_Ls} {lc : Array Slot} (h : km_lm ad nL ls lc) {i : Nat} {v : km_V} (hi : km_get ls i = some v) : lc[i]? = some (.val (km_cv ad v)) ∧ km_vo v := by
  have h1 : ls[i]? = some (some v) := by
    unfold km_get at hi
    rw [List.getD_eq_getElem?_getD] at hi
    cases hq : ls[i]? with
    | none => rw [hq] at hi; cases hi
    | some o => rw [hq] at hi; exact congrArg some hi
  exact ⟨h.2.1.2.2 (i, km_cv ad v) (km_lv_mem.mpr ⟨i, v, h1, by rw [Nat.zero_add]⟩), h.2.2 i v h1⟩
theorem km_un_s {a : Option km_V} {u : km_V} (h : km_un a = some u) : a = some u ∧ km_cat u = 1 := by
  rcases a with _ | x | x | x
  · cases h
  · cases h; exact ⟨rfl, rfl⟩
  · cases h
  · cases h; exact ⟨rfl, rfl⟩
theorem km_set1_len : ∀ (i : Nat) (v : km_V) (ls : km_Ls), (km_set1 i v ls).length = ls.length
  | 0, v, [] => rfl
  | 0, v, _ :: t => rfl
  | 1, v, [] => rfl
  | 1, v, [a] => rfl
  | 1, v, a :: b :: t => rfl
  | n + 2, v, [] => rfl
  | n + 2, v, a :: t => by rw [km_set1, List.length_cons, List.length_cons, km_set1_len (n + 1) v t]
theorem km_set1_s : ∀ (i : Nat) (v : km_V) (ls : km_Ls) (_ : i < ls.length) (j : Nat) (u : km_V), (km_set1 i v ls)[j]? = some (some u) → (j = i ∧ u = v) ∨ (j ≠ i ∧ ls[j]? = some (some u) ∧ ¬ (j + 1 = i ∧ km_cat u = 2))
  | 0, v, _ :: t, _, j, u, h => by
    cases j with
    | zero => left; have : v = u := by simpa [km_set1] using h
              exact ⟨rfl, this.symm⟩
    | succ j => right; exact ⟨by omega, by simpa [km_set1] using h, by omega⟩
  | 1, v, a :: b :: t, _, j, u, h => by
    match j, h with
    | 0, h =>
      right
      have h1 : km_un a = some u := by simpa [km_set1] using h
      obtain ⟨h2, h3⟩ := km_un_s h1
      exact ⟨by omega, by simp [h2], by omega⟩
    | 1, h => left; have : v = u := by simpa [km_set1] using h
              exact ⟨rfl, this.symm⟩
    | j + 2, h => right; exact ⟨by omega, by simpa [km_set1] using h, by omega⟩
  | n + 2, v, a :: t, hl, j, u, h => by
    cases j with
    | zero => right; exact ⟨by omega, by simpa [km_set1] using h, by omega⟩
    | succ j =>
      have h1 : (km_set1 (n + 1) v t)[j]? = some (some u) := by simpa [km_set1] using h
      rcases km_set1_s (n + 1) v t (by simp at hl; omega) j u h1 with ⟨e1, e2⟩ | ⟨e1, e2, e3⟩
      · left; exact ⟨by omega, e2⟩
      · right; exact ⟨by omega, by simpa using e2, by omega⟩
  | 0, v, [], hl, _, _, _ => by simp at hl
  | 1, v, [], hl, _, _, _ => by simp at hl
  | 1, v, [_], hl, _, _, _ => by simp at hl
  | n + 2, v, [], hl, _, _, _ => by simp at hl
theorem km_set2_len : ∀ (i : Nat) (v : km_V) (ls : km_Ls), (km_set2 i v ls).length = ls.length
  | 0, v, [] => rfl
  | 0, v, [_] => rfl
  | 0, v, _ :: _ :: t => rfl
  | 1, v, [] => rfl
  | 1, v, [a] => rfl
  | 1, v, [a, b] => rfl
  | 1, v, a :: b :: _ :: t => rfl
  | n + 2, v, [] => rfl
  | n + 2, v, a :: t => by rw [km_set2, List.length_cons, List.length_cons, km_set2_len (n + 1) v t]
theorem km_set2_s : ∀ (i : Nat) (v : km_V) (ls : km_Ls) (_ : i + 1 < ls.length) (j : Nat) (u : km_V), (km_set2 i v ls)[j]? = some (some u) → (j = i ∧ u = v) ∨ (j ≠ i ∧ j ≠ i + 1 ∧ ls[j]? = some (some u) ∧ ¬ (j + 1 = i ∧ km_cat u = 2))
  | 0, v, _ :: _ :: t, _, j, u, h => by
    match j, h with
    | 0, h => left; have : v = u := by simpa [km_set2] using h
              exact ⟨rfl, this.symm⟩
    | 1, h => simp [km_set2] at h
    | j + 2, h => right; exact ⟨by omega, by omega, by simpa [km_set2] using h, by omega⟩
  | 1, v, a :: b :: c :: t, _, j, u, h => by
    match j, h with
    | 0, h =>
      right
      have h1 : km_un a = some u := by simpa [km_set2] using h
      obtain ⟨h2, h3⟩ := km_un_s h1
      exact ⟨by omega, by omega, by simp [h2], by omega⟩
    | 1, h => left; have : v = u := by simpa [km_set2] using h
              exact ⟨rfl, this.symm⟩
    | 2, h => simp [km_set2] at h
    | j + 3, h => right; exact ⟨by omega, by omega, by simpa [km_set2] using h, by omega⟩
  | n + 2, v, a :: t, hl, j, u, h => by
    cases j with
    | zero => right; exact ⟨by omega, by omega, by simpa [km_set2] using h, by omega⟩
    | succ j =>
      have h1 : (km_set2 (n + 1) v t)[j]? = some (some u) := by simpa [km_set2] using h
      rcases km_set2_s (n + 1) v t (by simp at hl; omega) j u h1 with ⟨e1, e2⟩ | ⟨e1, e2, e3, e4⟩
      · left; exact ⟨by omega, e2⟩
      · right; exact ⟨by omega, by omega, by simpa using e3, by omega⟩
  | 0, v, [], hl, _, _, _ => by simp at hl
  | 0, v, [_], hl, _, _, _ => by simp at hl
  | 1, v, [], hl, _, _, _ => by simp at hl
  | 1, v, [_], hl, _, _, _ => by simp at hl
  | 1, v, [_, _], hl, _, _, _ => by simp at hl
  | n + 2, v, [], hl, _, _, _ => by simp at hl
theorem km_lm.set1 {ad : Int → Nat} {nL : Nat} {ls : km_Ls} {lc lc' : Array Slot} (h : km_lm ad nL ls lc) {i : Nat} {v : km_V} (hi : i < ls.length) (hv : km_vo v)
    (h' : lv_has lc' nL ((i, km_cv ad v) :: (km_lv ad 0 ls).filter (fun q => !(q.1 == i) && !(q.1 + 1 == i && q.2.category == 2)))) : km_lm ad nL (km_set1 i v ls) lc' := by
  refine ⟨(km_set1_len i v ls).trans h.1, ⟨h'.1, h'.2.1, fun q hq => ?_⟩, fun k u hk => ?_⟩
  · obtain ⟨k, u, h1, rfl⟩ := km_lv_mem.mp hq
    rw [Nat.zero_add]
    rcases km_set1_s i v ls hi k u h1 with ⟨rfl, rfl⟩ | ⟨e1, e2, e3⟩
    · exact h'.2.2 _ List.mem_cons_self
    · refine h'.2.2 _ (List.mem_cons_of_mem _ (List.mem_filter.mpr ⟨km_lv_mem.mpr ⟨k, u, e2, by rw [Nat.zero_add]⟩, ?_⟩))
      simp only [km_cat_cv]
      simp [e1]
      omega
  · rcases km_set1_s i v ls hi k u hk with ⟨rfl, rfl⟩ | ⟨-, e2, -⟩
    · exact hv
    · exact h.2.2 k u e2
theorem km_lm.set2 {ad : Int → Nat} {nL : Nat} {ls : km_Ls} {lc lc' : Array Slot} (h : km_lm ad nL ls lc) {i : Nat} {v : km_V} (hi : i + 1 < ls.length) (hv : km_vo v)
    (h' : lv_has lc' nL ((i, km_cv ad v) :: (km_lv ad 0 ls).filter (fun q => !(q.1 == i) && (!(q.1 == i + 1) && !(q.1 + 1 == i && q.2.category == 2))))) : km_lm ad nL (km_set2 i v ls) lc' := by
  refine ⟨(km_set2_len i v ls).trans h.1, ⟨h'.1, h'.2.1, fun q hq => ?_⟩, fun k u hk => ?_⟩
  · obtain ⟨k, u, h1, rfl⟩ := km_lv_mem.mp hq
    rw [Nat.zero_add]
    rcases km_set2_s i v ls hi k u h1 with ⟨rfl, rfl⟩ | ⟨e1, e2, e3, e4⟩
    · exact h'.2.2 _ List.mem_cons_self
    · refine h'.2.2 _ (List.mem_cons_of_mem _ (List.mem_filter.mpr ⟨km_lv_mem.mpr ⟨k, u, e3, by rw [Nat.zero_add]⟩, ?_⟩))
      simp only [km_cat_cv]
      simp [e1, e2]
      omega
  · rcases km_set2_s i v ls hi k u hk with ⟨rfl, rfl⟩ | ⟨-, -, e2, -⟩
    · exact hv
    · exact h.2.2 k u e2
theorem km_lv_none (ad : Int → Nat) : ∀ (n i : Nat), km_lv ad i (List.replicate n none) = []
  | 0, i => rfl
  | n + 1, i => by rw [List.replicate_succ, km_lv, km_lv_none ad n (i + 1)]
theorem km_lv_app (ad : Int → Nat) : ∀ (a b : km_Ls) (i : Nat), km_lv ad i (a ++ b) = km_lv ad i a ++ km_lv ad (i + a.length) b
  | [], b, i => by simp [km_lv]
  | none :: t, b, i => by
    rw [List.cons_append, km_lv, km_lv, km_lv_app ad t b (i + 1), List.length_cons]
    congr 2; omega
  | some v :: t, b, i => by
    rw [List.cons_append, km_lv, km_lv, km_lv_app ad t b (i + 1), List.length_cons, List.cons_append]
    congr 3; omega
theorem km_lv_sl (ad : Int → Nat) : ∀ (as : List km_V) (i : Nat), km_lv ad i (km_sl as) = lv_args i (as.map (km_cv ad))
  | [], i => rfl
  | .inl x :: t, i => by
    rw [km_sl, km_lv, List.map_cons, lv_args, km_lv_sl ad t]
    · rw [if_neg (by rw [km_cat_cv]; exact fun h => by cases h)]
    · intro x h; cases h
  | .inr (.inl x) :: t, i => by
    rw [km_sl, km_lv, km_lv, List.map_cons, lv_args, km_lv_sl ad t]
    rw [if_pos (by rw [km_cat_cv]; rfl)]
  | .inr (.inr x) :: t, i => by
    rw [km_sl, km_lv, List.map_cons, lv_args, km_lv_sl ad t]
    · rw [if_neg (by rw [km_cat_cv]; exact fun h => by cases h)]
    · intro x h; cases h
theorem km_sl_len (ad : Int → Nat) : ∀ as : List km_V, (lg_sl (as.map (km_cv ad))).length = (km_sl as).length
  | [] => rfl
  | .inl x :: t => by
    have h := km_sl_len ad t
    unfold lg_sl at h ⊢
    rw [km_sl, List.map_cons, List.flatMap_cons, List.length_append, h, if_neg (by rw [km_cat_cv]; exact fun h => by cases h)]
    · simp only [List.length_cons, List.length_nil]; omega
    · intro x h; cases h
  | .inr (.inl x) :: t => by
    have h := km_sl_len ad t
    unfold lg_sl at h ⊢
    rw [km_sl, List.map_cons, List.flatMap_cons, List.length_append, h, if_pos (by rw [km_cat_cv]; rfl)]
    simp only [List.length_cons, List.length_nil]; omega
  | .inr (.inr x) :: t => by
    have h := km_sl_len ad t
    unfold lg_sl at h ⊢
    rw [km_sl, List.map_cons, List.flatMap_cons, List.length_append, h, if_neg (by rw [km_cat_cv]; exact fun h => by cases h)]
    · simp only [List.length_cons, List.length_nil]; omega
    · intro x h; cases h
theorem km_sl_mem : ∀ (as : List km_V) (k : Nat) (v : km_V), (km_sl as)[k]? = some (some v) → v ∈ as
  | [], k, v, h => by simp [km_sl] at h
  | .inl x :: t, k, v, h => by
    rw [km_sl] at h
    · cases k with
      | zero => simp at h; rw [← h]; exact List.mem_cons_self
      | succ k => exact List.mem_cons_of_mem _ (km_sl_mem t k v (by simpa using h))
    · intro x h; cases h
  | .inr (.inl x) :: t, k, v, h => by
    rw [km_sl] at h
    match k, h with
    | 0, h => simp at h; rw [← h]; exact List.mem_cons_self
    | 1, h => simp at h
    | k + 2, h => exact List.mem_cons_of_mem _ (km_sl_mem t k v (by simpa using h))
  | .inr (.inr x) :: t, k, v, h => by
    rw [km_sl] at h
    · cases k with
      | zero => simp at h; rw [← h]; exact List.mem_cons_self
      | succ k => exact List.mem_cons_of_mem _ (km_sl_mem t k v (by simpa using h))
    · intro x h; cases h
theorem km_lm_entry (ad : Int → Nat) {n : Nat} {as : List km_V} (h : (km_sl as).length ≤ n) (hv : ∀ v ∈ as, km_vo v) : km_lm ad n (km_entry n as) ((lg_sl (as.map (km_cv ad)) ++ List.replicate (n - (lg_sl (as.map (km_cv ad))).length) Slot.unset).toArray) := by
  refine ⟨by unfold km_entry; simp; omega, ?_, fun k v hk => ?_⟩
  · have h1 := lv_entry (as.map (km_cv ad)) (n := n) (by rw [km_sl_len]; exact h)
    rw [← km_lv_sl] at h1
    unfold km_entry
    rw [km_lv_app, km_lv_none, List.append_nil]
    exact h1
  · unfold km_entry at hk
    by_cases hl : k < (km_sl as).length
    · rw [List.getElem?_append_left hl] at hk
      exact hv v (km_sl_mem as k v hk)
    · rw [List.getElem?_append_right (by omega), List.getElem?_replicate] at hk
      split at hk <;> cases hk
