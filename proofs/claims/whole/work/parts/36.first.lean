/-! ===== what the methods do, leaves first ===== -/
/-- the end is this one -/
def km_is (x : Option km_V) (B : km_Al) (k : km_Mm) : Option km_V → km_Al → km_Mm → Prop := fun y B' k' => y = x ∧ B' = B ∧ k' = k
theorem km_is_rf {x : Option km_V} {B : km_Al} {k k' : km_Mm} (h : k' = k) : km_is x B k x B k' := ⟨rfl, rfl, h⟩
theorem km_E.rule {M : km_Md} {as : List km_V} {A B : km_Al} {m k : km_Mm} {x : Option km_V} (h : km_E M as A m (km_is x B k)) (Q : Option km_V → km_Al → km_Mm → Prop) : km_E M as A m Q ↔ Q x B k := km_E.det h
/-- the row a holds v from place i to n -/
def km_fl2 (m : km_Mm) (a i n v : Int) : km_Mm := fun b j => if b = a ∧ i ≤ j ∧ j < n then v else m b j
theorem km_fl2_end {m : km_Mm} {a i n v : Int} (h : n ≤ i) : km_fl2 m a i n v = m := by
  funext b j
  unfold km_fl2
  rw [if_neg (by omega)]
theorem km_fl2_up {m : km_Mm} {a i n v : Int} (h : i < n) : km_fl2 (km_up m a i v) a (i + 1) n v = km_fl2 m a i n v := by
  funext b j
  unfold km_fl2 km_up
  by_cases hb : b = a
  · by_cases hj : j = i
    · subst hj
      rw [if_neg (by omega), if_pos hb, if_pos rfl, if_pos ⟨hb, by omega, h⟩]
    · by_cases hc : i ≤ j ∧ j < n
      · rw [if_pos ⟨hb, by omega, hc.2⟩, if_pos ⟨hb, hc⟩]
      · rw [if_neg (by omega), if_pos hb, if_neg hj, if_neg (fun z => hc z.2)]
  · rw [if_neg (fun z => hb z.1), if_neg hb, if_neg (fun z => hb z.1)]
theorem sp_fill {a v : Int} {A : km_Al} {m : km_Mm} (h0 : 0 ≤ a) (h1 : a < (A.1 : Int)) (hk : km_kd A a = 0) (hl : 0 ≤ km_ln A a ∧ km_ln A a ≤ 100000) : km_E M_J7_fill_53178 [.inr (.inr a), .inl v] A m (km_is none A (km_fl2 m a 0 (km_ln A a) v)) := by
  have key : ∀ (n : Nat) (i : Int) (m' : km_Mm), 0 ≤ i → i + (n : Int) = km_ln A a → km_fl2 m' a i (km_ln A a) v = km_fl2 m a 0 (km_ln A a) v →
      km_G M_J7_fill_53178 5 [some (.inr (.inr a)), some (.inl v), some (.inl i), some (.inl (km_ln A a))] [] A m' (km_is none A (km_fl2 m a 0 (km_ln A a) v)) := by
    intro n
    induction n with
    | zero =>
      intro i m' hi hn hm
      have hle : km_ln A a ≤ i := by omega
      rw [g_J7_fill_53178_5]
      simp only [g_J7_fill_53178, km_unL, hle, not_true_eq_false, false_implies, true_implies, and_true]
      exact km_is_rf (by rw [← hm, km_fl2_end hle])
    | succ n ih =>
      intro i m' hi hn hm
      have hle : ¬ km_ln A a ≤ i := by omega
      rw [g_J7_fill_53178_5]
      simp only [g_J7_fill_53178, km_unL, hle, not_false_eq_true, false_implies, true_implies, true_and]
      refine ⟨by omega, ⟨h0, h1, hk, hi, by omega⟩, by omega, ?_⟩
      exact ih (i + 1) (km_up m' a i v) (by omega) (by omega) (by rw [km_fl2_up (by omega), hm])
  rw [km_E.of (by decide)]
  show km_G M_J7_fill_53178 0 [some (.inr (.inr a)), some (.inl v), none, none] [] A m _
  simp only [g_J7_fill_53178, h0, h1, hk, km_unL, Int.reduceLE, Int.reduceLT, true_and, and_true]
  refine ⟨by omega, ?_⟩
  exact key (km_ln A a).toNat 0 m (by omega) (by omega) rfl
theorem km_up_o {m : km_Mm} {a i v b j : Int} (h : b ≠ a) : km_up m a i v b j = m b j := by unfold km_up; rw [if_neg h]
theorem km_upx_i {m : km_Mm} {a i v j : Int} (h : j ≠ i) : km_up m a i v a j = m a j := by unfold km_up; rw [if_pos rfl, if_neg h]
theorem km_upx_s {m : km_Mm} {a i v : Int} : km_up m a i v a i = v := by unfold km_up; rw [if_pos rfl, if_pos rfl]
theorem km_fl2_o {m : km_Mm} {a b i n v j : Int} (h : b ≠ a) : km_fl2 m a i n v b j = m b j := by unfold km_fl2; rw [if_neg (fun z => h z.1)]
