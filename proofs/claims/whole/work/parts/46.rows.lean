/-! ===== rows of the memory as functions ===== -/
def km_sr (m : km_Mm) (a : Int) (f : Int → Int) : km_Mm := fun b j => if b = a then f j else m b j
theorem km_sr_s {m : km_Mm} {a j : Int} {f : Int → Int} : km_sr m a f a j = f j := by unfold km_sr; rw [if_pos rfl]
theorem km_sr_o {m : km_Mm} {a b j : Int} {f : Int → Int} (h : b ≠ a) : km_sr m a f b j = m b j := by unfold km_sr; rw [if_neg h]
theorem km_sr_us {m : km_Mm} {a i v : Int} {f : Int → Int} : km_up (km_sr m a f) a i v = km_sr m a (km_u1 f i v) := by
  funext b j; unfold km_up km_sr km_u1; by_cases h : b = a <;> simp [h]
theorem km_sr_uo {m : km_Mm} {a b i v : Int} {f : Int → Int} (h : b ≠ a) : km_up (km_sr m a f) b i v = km_sr (km_up m b i v) a f := by
  funext d j; unfold km_up km_sr; by_cases e : d = a
  · subst e; simp [Ne.symm h]
  · simp [e]
theorem km_sr_sr {m : km_Mm} {a : Int} {f g : Int → Int} : km_sr (km_sr m a f) a g = km_sr m a g := by
  funext b j; unfold km_sr; by_cases h : b = a <;> simp [h]
theorem km_sr_swap {m : km_Mm} {a b : Int} {f g : Int → Int} (h : a ≠ b) : km_sr (km_sr m a f) b g = km_sr (km_sr m b g) a f := by
  funext d j; unfold km_sr; by_cases e : d = a
  · subst e; simp [h]
  · simp [e]
theorem km_sr_id {m : km_Mm} {a : Int} : km_sr m a (m a) = m := by
  funext b j; unfold km_sr; by_cases h : b = a <;> simp [h]
theorem km_sr_fl {m : km_Mm} {a n v : Int} {f : Int → Int} : km_fl2 (km_sr m a f) a 0 n v = km_sr m a (fun j => if 0 ≤ j ∧ j < n then v else f j) := by
  funext b j; unfold km_fl2 km_sr; by_cases h : b = a <;> simp [h]
theorem km_sr_flo {m : km_Mm} {a b n v : Int} {f : Int → Int} (h : b ≠ a) : km_fl2 (km_sr m a f) b 0 n v = km_sr (km_fl2 m b 0 n v) a f := by
  funext d j; unfold km_fl2 km_sr; by_cases e : d = a
  · subst e; simp [Ne.symm h]
  · simp [e]
theorem km_fl_sr {m : km_Mm} {a n v : Int} : km_fl2 m a 0 n v = km_sr m a (fun j => if 0 ≤ j ∧ j < n then v else m a j) := by
  funext b j; unfold km_fl2 km_sr; by_cases h : b = a <;> simp [h]
theorem km_up_sr {m : km_Mm} {a i v : Int} : km_up m a i v = km_sr m a (km_u1 (m a) i v) := by
  funext b j; unfold km_up km_sr km_u1; by_cases h : b = a <;> simp [h]
theorem km_up_up {m : km_Mm} {a i v w : Int} : km_up (km_up m a i v) a i w = km_up m a i w := by
  funext b j; unfold km_up; by_cases h : b = a <;> by_cases k : j = i <;> simp [h, k]
theorem km_up_swap {m : km_Mm} {a i v b j w : Int} (h : ¬ (a = b ∧ i = j)) : km_up (km_up m a i v) b j w = km_up (km_up m b j w) a i v := by
  funext d k; unfold km_up; grind
theorem km_u1_s {f : Int → Int} {i v : Int} : km_u1 f i v i = v := by unfold km_u1; rw [if_pos rfl]
theorem km_u1_o {f : Int → Int} {i j v : Int} (h : j ≠ i) : km_u1 f i v j = f j := by unfold km_u1; rw [if_neg h]
/-- writes in order of their places -/
theorem km_up_lt {m : km_Mm} {a i v b j w : Int} (h : b < a ∨ (b = a ∧ j < i)) : km_up (km_up m a i v) b j w = km_up (km_up m b j w) a i v := km_up_swap (by omega)
theorem km_sr_sf {m : km_Mm} {a : Int} {f : Int → Int} : km_sr m a f a = f := by funext j; exact km_sr_s
theorem km_sr_of {m : km_Mm} {a b : Int} {f : Int → Int} (h : b ≠ a) : km_sr m a f b = m b := by funext j; exact km_sr_o h
theorem km_up_of {m : km_Mm} {a i v b : Int} (h : b ≠ a) : km_up m a i v b = m b := by funext j; exact km_up_o h
/-! linear facts for simp: the side goal is omega's -/
theorem ka_lo {x : Int} (h : -2147483648 ≤ x) : (-2147483648 ≤ x) = True := eq_true h
theorem ka_hi {x : Int} (h : x ≤ 2147483647) : (x ≤ 2147483647) = True := eq_true h
theorem ka_nn {x : Int} (h : 0 ≤ x) : (0 ≤ x) = True := eq_true h
theorem ka_lt {x y : Int} (h : x < y) : (x < y) = True := eq_true h
theorem ka_le {x y : Int} (h : x ≤ y) : (x ≤ y) = True := eq_true h
theorem ka_nlt {x y : Int} (h : ¬ x < y) : (x < y) = False := eq_false h
theorem ka_nle {x y : Int} (h : ¬ x ≤ y) : (x ≤ y) = False := eq_false h
theorem ka_ne {x y : Int} (h : ¬ x = y) : (x = y) = False := eq_false h

