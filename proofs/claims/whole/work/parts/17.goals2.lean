/-! ===== more rules over goals: references written, checked reads, calls of instances ===== -/
section GL
variable {M : km_Md} {pc nx : Nat} {ls ls' : km_Ls} {st st' r : List km_V} {A A' : km_Al} {m m' : km_Mm} {Q Q' : Option km_V → km_Al → km_Mm → Prop}
/-- the reference x is written to the field k of the cell a -/
def km_upR (A : km_Al) (a k x : Int) : km_Al := (A.1, A.2.1, A.2.2.1, km_up A.2.2.2.1 a k x, A.2.2.2.2)
theorem kG_putfR {j : Nat} {a x : Int} {ci kk : Nat} (d : km_at M pc (.putfield j) 3) (hf : km_fl M.2.1 j = some (ci, kk, 2, false)) : km_G M pc ls (.inr (.inr x) :: .inr (.inr a) :: r) A m Q ↔ (0 ≤ a ∧ a < (A.1 : Int) ∧ km_kd A a = 10 + (ci : Int) ∧ 0 ≤ x ∧ x < (A.1 : Int)) ∧ km_G M (pc + 3) ls r (km_upR A a kk x) m Q := by
  refine kG_if d (fun q => ?_) (fun q => ?_)
  · simp only [km_ex]; unfold km_putf; rw [hf]; dsimp only; rw [if_pos ⟨q.1, q.2.1, q.2.2.1, fun z => by cases z⟩, if_pos ⟨rfl, q.2.2.2⟩]; rfl
  · simp only [km_ex]; unfold km_putf; rw [hf]; dsimp only
    by_cases z : 0 ≤ a ∧ a < (A.1 : Int) ∧ km_kd A a = 10 + (ci : Int)
    · rw [if_pos ⟨z.1, z.2.1, z.2.2, fun z => by cases z⟩, if_neg (fun h => q ⟨z.1, z.2.1, z.2.2, h.2⟩)]
    · rw [if_neg (fun z2 => z ⟨z2.1, z2.2.1, z2.2.2.1⟩)]
theorem kG_iald9 {a i : Int} (d : km_at M pc .iaload 1) (ha : 0 ≤ a) : km_G M pc ls (.inl i :: .inr (.inr a) :: r) A m Q ↔ (a < (A.1 : Int) ∧ km_kd A a = 0 ∧ 0 ≤ i ∧ i < km_ln A a) ∧ km_G M (pc + 1) ls (.inl (m a i) :: r) A m Q := by
  rw [kG_iald d (by omega)]
  exact ⟨fun h => ⟨h.1.2, h.2⟩, fun h => ⟨⟨ha, h.1⟩, h.2⟩⟩
theorem kG_l2i {x : Int} (d : km_at M pc .l2i 1) : km_G M pc ls (.inr (.inl x) :: r) A m Q ↔ (-2147483648 ≤ x ∧ x ≤ 2147483647) ∧ km_G M (pc + 1) ls (.inl x :: r) A m Q :=
  kG_if d (fun q => by simp only [km_ex]; rw [km_ckP q]; rfl) (fun q => by simp only [km_ex]; rw [km_ckN q])
theorem kG_i2c {x : Int} (d : km_at M pc .i2c 1) : km_G M pc ls (.inl x :: r) A m Q ↔ (0 ≤ x ∧ x < 65536) ∧ km_G M (pc + 1) ls (.inl x :: r) A m Q :=
  kG_if d (fun q => by simp only [km_ex]; rw [if_pos q]; rfl) (fun q => by simp only [km_ex]; rw [if_neg q])
theorem kG_ineg {x : Int} (d : km_at M pc .ineg 1) : km_G M pc ls (.inl x :: r) A m Q ↔ (-2147483648 ≤ -x ∧ -x ≤ 2147483647) ∧ km_G M (pc + 1) ls (.inl (-x) :: r) A m Q :=
  kG_if d (fun q => by simp only [km_ex]; rw [km_ckP q]; rfl) (fun q => by simp only [km_ex]; rw [km_ckN q])
theorem kG_lneg {x : Int} (d : km_at M pc .lneg 1) : km_G M pc ls (.inr (.inl x) :: r) A m Q ↔ (-9223372036854775808 ≤ -x ∧ -x ≤ 9223372036854775807) ∧ km_G M (pc + 1) ls (.inr (.inl (-x)) :: r) A m Q :=
  kG_if d (fun q => by simp only [km_ex]; rw [km_ckLP q]; rfl) (fun q => by simp only [km_ex]; rw [km_ckLN q])
theorem kG_alen9 {a : Int} (d : km_at M pc .arraylength 1) (ha : 0 ≤ a) : km_G M pc ls (.inr (.inr a) :: r) A m Q ↔ (a < (A.1 : Int) ∧ 0 ≤ km_kd A a ∧ km_kd A a < 4) ∧ km_G M (pc + 1) ls (.inl (km_ln A a) :: r) A m Q :=
  kG_if d (fun q => by simp only [km_ex]; unfold km_alen; dsimp only; rw [if_neg (by omega), if_pos ⟨ha, q⟩]; rfl) (fun q => by simp only [km_ex]; unfold km_alen; dsimp only; rw [if_neg (by omega), if_neg (fun z => q z.2)])
theorem km_mop5 (dep nx : Nat) (ls : km_Ls) (x : Int) (r : List km_V) (A : km_Al) (m : km_Mm) : km_mop 5 dep nx ls (.inr (.inl x) :: r) A m = if (r.map km_cat).sum ≤ 8 ∧ 1 ≤ dep ∧ x ≠ -9223372036854775808 then km_nx nx ls (.inr (.inl (if 0 < x then x else -x)) :: r) A m else none := rfl
theorem km_mop6 (dep nx : Nat) (ls : km_Ls) (n j b i a : Int) (r : List km_V) (A : km_Al) (m : km_Mm) : km_mop 6 dep nx ls (.inl n :: .inl j :: .inr (.inr b) :: .inl i :: .inr (.inr a) :: r) A m = if (r.map km_cat).sum ≤ 8 ∧ 1 ≤ dep ∧ 0 ≤ a ∧ a < (A.1 : Int) ∧ km_kd A a = 0 ∧ 0 ≤ b ∧ b < (A.1 : Int) ∧ km_kd A b = 0 ∧ 0 ≤ i ∧ 0 ≤ j ∧ 0 ≤ n ∧ i + n ≤ km_ln A a ∧ j + n ≤ km_ln A b then
      km_nx nx ls r A (fun c k => if c = b ∧ j ≤ k ∧ k < j + n then m a (k - j + i) else m c k) else none := rfl
theorem kG_abs {k : Nat} {x : Int} (d : km_at M pc (.invokestatic k) 3) (ho : km_op M.2.1 k = some 5) (hd : 1 ≤ M.2.2.2.2.2.1) (hc : (r.map km_cat).sum ≤ 8) : km_G M pc ls (.inr (.inl x) :: r) A m Q ↔ x ≠ -9223372036854775808 ∧ km_G M (pc + 3) ls (.inr (.inl (if 0 < x then x else -x)) :: r) A m Q :=
  kG_if d (fun q => by simp only [km_ex]; rw [ho]; dsimp only; rw [km_mop5, if_pos ⟨hc, hd, q⟩]; rfl) (fun q => by simp only [km_ex]; rw [ho]; dsimp only; rw [km_mop5, if_neg (fun z => q z.2.2)])
theorem kG_copy {k : Nat} {n j b i a : Int} (d : km_at M pc (.invokestatic k) 3) (ho : km_op M.2.1 k = some 6) (hd : 1 ≤ M.2.2.2.2.2.1) : km_G M pc ls [.inl n, .inl j, .inr (.inr b), .inl i, .inr (.inr a)] A m Q ↔ (0 ≤ a ∧ a < (A.1 : Int) ∧ km_kd A a = 0 ∧ 0 ≤ b ∧ b < (A.1 : Int) ∧ km_kd A b = 0 ∧ 0 ≤ i ∧ 0 ≤ j ∧ 0 ≤ n ∧ i + n ≤ km_ln A a ∧ j + n ≤ km_ln A b) ∧ km_G M (pc + 3) ls [] A (fun c k => if c = b ∧ j ≤ k ∧ k < j + n then m a (k - j + i) else m c k) Q :=
  kG_if d (fun q => by simp only [km_ex]; rw [ho]; dsimp only; rw [km_mop6, if_pos ⟨by decide, hd, q⟩]; rfl) (fun q => by simp only [km_ex]; rw [ho]; dsimp only; rw [km_mop6, if_neg (fun z => q z.2.2)])
theorem kG_callV {k j : Nat} {M1 : km_Md} {nest : Bool} {a : Int} {vs rest : List km_V} (d : km_at M pc (.invokevirtual j) 3) (hm : km_mt M.2.1 j = some (M1, nest)) (hok : km_callOk M1 0 M.2.2.2.2.2.1 A st = decide (0 ≤ a ∧ a < (A.1 : Int) ∧ km_kd A a = 10 + (M1.2.1 : Int))) (hk : 10 + M1.2.1 = k) (has : (st.take (km_na M1 0)).reverse = .inr (.inr a) :: vs) (hre : st.drop (km_na M1 0) = rest) (hso : km_so M.2.1 j = none := by rfl) :
    km_G M pc ls st A m Q ↔ (0 ≤ a ∧ a < (A.1 : Int) ∧ km_kd A a = (k : Int)) ∧ km_E M1 (.inr (.inr a) :: vs) A m (fun v A' m' => km_G M (pc + 3) ls (v.toList ++ rest) A' m' Q) := by
  have e : (10 + (M1.2.1 : Int)) = (k : Int) := by omega
  rw [e] at hok
  by_cases q : 0 ≤ a ∧ a < (A.1 : Int) ∧ km_kd A a = (k : Int)
  · rw [kG_call (kind := 0) d (by simp only [km_ex, hso]) hm (by rw [hok]; exact decide_eq_true q) has hre]
    exact ⟨fun z => ⟨q, z⟩, fun z => z.2⟩
  · rw [km_G.none (km_stepE d.1 d.2 (by simp only [km_ex, hso]; rw [hm]; unfold km_call; dsimp only; rw [if_neg (by rw [hok]; simpa using q)]))]
    exact ⟨fun z => z.elim, fun z => q z.1⟩
theorem km_sop2 (dep nx : Nat) (ls : km_Ls) (i a : Int) (r : List km_V) (A : km_Al) (m : km_Mm) : km_sop 2 dep nx ls (.inl i :: .inr (.inr a) :: r) A m = if (r.map km_cat).sum ≤ 8 ∧ 6 < dep ∧ a = -3 ∧ 0 ≤ i ∧ i < 132 then km_nx nx ls (.inl (km_wl.getD i.toNat 0) :: r) A m else none := rfl
theorem km_sop3 (dep nx : Nat) (ls : km_Ls) (i a : Int) (r : List km_V) (A : km_Al) (m : km_Mm) : km_sop 3 dep nx ls (.inl i :: .inr (.inr a) :: r) A m = if (r.map km_cat).sum ≤ 8 ∧ 6 < dep ∧ a = -4 ∧ 0 ≤ i ∧ i < 65536 then km_nx nx ls (.inl (km_six i) :: r) A m else none := rfl
theorem kG_chr {k : Nat} {i : Int} (d : km_at M pc (.invokevirtual k) 3) (ho : km_so M.2.1 k = some 2) (hd : 6 < M.2.2.2.2.2.1) (hc : (r.map km_cat).sum ≤ 8) : km_G M pc ls (.inl i :: .inr (.inr (-3)) :: r) A m Q ↔ (0 ≤ i ∧ i < 132) ∧ km_G M (pc + 3) ls (.inl (km_wl.getD i.toNat 0) :: r) A m Q :=
  kG_if d (fun q => by simp only [km_ex, ho]; rw [km_sop2, if_pos ⟨hc, hd, rfl, q⟩]; rfl) (fun q => by simp only [km_ex, ho]; rw [km_sop2, if_neg (fun z => q z.2.2.2)])
theorem kG_idx {k : Nat} {i : Int} (d : km_at M pc (.invokevirtual k) 3) (ho : km_so M.2.1 k = some 3) (hd : 6 < M.2.2.2.2.2.1) (hc : (r.map km_cat).sum ≤ 8) : km_G M pc ls (.inl i :: .inr (.inr (-4)) :: r) A m Q ↔ (0 ≤ i ∧ i < 65536) ∧ km_G M (pc + 3) ls (.inl (km_six i) :: r) A m Q :=
  kG_if d (fun q => by simp only [km_ex, ho]; rw [km_sop3, if_pos ⟨hc, hd, rfl, q⟩]; rfl) (fun q => by simp only [km_ex, ho]; rw [km_sop3, if_neg (fun z => q z.2.2.2)])
end GL
theorem km_sw_yes {c P Q R : Prop} (h : c) (k : R ↔ P) : R ↔ (c → P) ∧ (¬ c → Q) := ⟨fun z => ⟨fun _ => k.mp z, fun q => absurd h q⟩, fun z => k.mpr (z.1 h)⟩
theorem km_sw_no {c P Q R : Prop} (h : ¬ c) (k : R ↔ Q) : R ↔ (c → P) ∧ (¬ c → Q) := ⟨fun z => ⟨fun q => absurd q h, fun _ => k.mp z⟩, fun z => k.mpr (z.2 h)⟩
