/-! ===== the class's machine works out an expression ===== -/
def kmt (r : Option Int) : Option Int := match r with
  | none => none
  | some u => some (ktr u)
def kjn (o : Int) (r1 r2 : Option Int) : Option Int := match r1 with
  | none => none
  | some v => if (v = 0) = (o = 25) then some (if o = 25 then 0 else 1) else kmt r2
def ksn (k : Int) (r1 r2 : Option Int) : Option Int := match r1 with
  | none => none
  | some v => match r2 with
    | none => none
    | some u => kmd k v u
def kah (g : Int → Int) (r : Option Int) : Option Int := match r with
  | none => none
  | some v => some (g v)
/-- what a HEAP does with one: its value, the rest -/
def kno (k : Int) (s : Int × Int) (r : Option Int) (R : Int × Int → Option (Int × Int)) : Option (Int × Int) := match r with
  | none => none
  | some v => match kac k s v with
    | none => none
    | some s' => R s'
def kTm (h d : Int) : Int := if h = 1 then d else 11 * d
theorem kTm_e {h d : Int} : (h = 1 ∧ kTm h d = d) ∨ (h ≠ 1 ∧ kTm h d = 11 * d) := by
  unfold kTm
  by_cases z : h = 1
  · rw [if_pos z]; exact Or.inl ⟨z, rfl⟩
  · rw [if_neg z]; exact Or.inr ⟨z, rfl⟩
theorem kal_m {a : Int} : ∀ (n : Nat) (j y : Int), y ∈ kal a n j → j ≤ y ∧ y < j + n ∧ tb a y = true := by
  intro n
  induction n with
  | zero => intro j y h; cases h
  | succ n ih =>
    intro j y h
    unfold kal at h
    split at h
    · next z =>
      rcases List.mem_cons.mp h with h | h
      · subst h; exact ⟨Int.le_refl _, by omega, z⟩
      · have := ih _ _ h; exact ⟨by omega, by omega, this.2.2⟩
    · have := ih _ _ h; exact ⟨by omega, by omega, this.2.2⟩
theorem kal_l {a : Int} : ∀ (n : Nat) (j : Int), (kal a n j).length ≤ n := by
  intro n
  induction n with
  | zero => intro j; exact Nat.le_refl _
  | succ n ih =>
    intro j
    unfold kal
    split
    · rw [List.length_cons]; have := ih (j + 1); omega
    · have := ih (j + 1); omega
theorem kal_c {a y K : Int} {l : List Int} : ∀ (n : Nat) (j : Int), n = (K - j).toNat → j ≤ K → kal a n j = y :: l → (j ≤ y ∧ y < K) ∧ l = kal a (K - (y + 1)).toNat (y + 1) := by
  intro n
  induction n with
  | zero => intro j _ _ h; cases h
  | succ n ih =>
    intro j hn hj h
    unfold kal at h
    split at h
    · injection h with h1 h2
      subst h1
      refine ⟨by omega, ?_⟩
      rw [← h2, show (K - (j + 1)).toNat = n by omega]
    · have := ih (j + 1) (by omega) (by omega) h
      exact ⟨by omega, this.2⟩
/-- how a piece of the program ends -/
def kcR (q : Nat × Int × Int × Int × Int) (c s : Nat) (X : km_Mm) (P ln h x a b i T top hp hv ht : Int) (σ : Int → Int) (r : Option Int) : Prop :=
  (r = none → ∃ (a1 t1 s1 p1 k1 v1 c1 : Int) (σ1 : Int → Int), ∀ Q : Option km_V → km_Al → km_Mm → Prop, km_G M_X4_value 37 [some (.inr (.inr 69)), some (.inr (.inr P)), some (.inl ln), some (.inl i)] [] (km_A0 q c s) (kmM X a top 0 0 hp x hv ht σ) Q ↔ Q (some (.inr (.inl (-9223372036854775808)))) (km_A0 q c s) (kmM X a1 t1 1 s1 p1 k1 v1 c1 σ1)) ∧
  (∀ v : Int, r = some v → ∃ (i' hp' hv' ht' : Int) (σ' : Int → Int), (i ≤ i' ∧ i' ≤ i + T) ∧ (h = 1 → hp' = hp ∧ hv' = hv ∧ ht' = ht) ∧ (∀ j : Int, j < top → σ' j = σ j) ∧ σ' top = v ∧ ∀ Q : Option km_V → km_Al → km_Mm → Prop, km_G M_X4_value 37 [some (.inr (.inr 69)), some (.inr (.inr P)), some (.inl ln), some (.inl i)] [] (km_A0 q c s) (kmM X a top 0 0 hp x hv ht σ) Q ↔ km_G M_X4_value 37 [some (.inr (.inr 69)), some (.inr (.inr P)), some (.inl ln), some (.inl i')] [] (km_A0 q c s) (kmM X b (top + 1) 0 0 hp' x hv' ht' σ') Q)
/-- what is asked of the names -/
def kNa (q : Nat × Int × Int × Int × Int) (c s : Nat) (X : km_Mm) (P : Int) (V : Int → Int → Int) (ln : Int) : Prop := ∀ (x v h at0 top hp hv ht : Int) (σ : Int → Int), kok ln v h → tb (X P 9) (v - 12) = true → ((h = 1 ∧ 0 ≤ x ∧ x < X 5 1) ∨ (h = 0 ∧ x = -1)) → ∀ Q : Option km_V → km_Al → km_Mm → Prop, km_E M_X4_nameValue [.inr (.inr 69), .inl (v + 20)] (km_A0 q c s) (kmM X at0 top 0 0 hp x hv ht σ) Q ↔ Q (some (.inr (.inl (V x v)))) (km_A0 q c s) (kmM X at0 top 0 0 hp x hv ht σ)
def kcS (q : Nat × Int × Int × Int × Int) (c s : Nat) (X W : km_Mm) (P lr ln : Int) (N : Int → Prop) (V : Int → Int → Int) (al : List Int) (f : Nat) : Prop := ∀ (h n a b t : Int), kcd X W P lr N f h n a b t → ∀ (x top hp hv ht i : Int) (σ : Int → Int), 0 ≤ a → b ≤ X P 4 → ((h = 1 ∧ 0 ≤ x ∧ x < X 5 1) ∨ (h = 0 ∧ x = -1)) → 0 ≤ top → top + t ≤ 121 → 0 ≤ i → i + kTm h (b - a) ≤ 99999 → kcR q c s X P ln h x a b i (kTm h (b - a)) top hp hv ht σ (kev W V al f x n)
section KC
variable {q q' : Nat × Int × Int × Int × Int} {c s : Nat} {X W : km_Mm} {P ln h n a b t x top hp hv ht i : Int} {N : Int → Prop} {V : Int → Int → Int} {al : List Int} {f : Nat} {σ : Int → Int} {Q : Option km_V → km_Al → km_Mm → Prop}
theorem c4_fail {at0 st kn : Int} (hi : 0 ≤ i ∧ i ≤ 100000) : km_G M_X4_value 37 [some (.inr (.inr 69)), some (.inr (.inr P)), some (.inl ln), some (.inl i)] [] (km_A0 q c s) (kmM X at0 top 1 st hp kn hv ht σ) Q ↔ Q (some (.inr (.inl (-9223372036854775808)))) (km_A0 q c s) (kmM X at0 top 1 st hp kn hv ht σ) := by
  rw [g_X4_value_37]
  by_cases z : i < 100000
  · have z2 : ¬ 100000 ≤ i := by omega
    simp (config := { decide := true }) (disch := first | decide | assumption | omega | (simp (config := { decide := true }) only [km_sr_sf, km_sr_of, km_up_of, km_up_o, km_upx_i, km_upx_s, km_fl2_o, ne_eq, not_true_eq_false, not_false_eq_true] <;> omega) | fail) only [g_X4_value, kM10, z, z2, ka_lt, ka_le, ka_nlt, ka_nle, ka_ne, ka_eq, Int.add_sub_cancel, true_or, or_true, false_or, or_false, false_and, and_false, if_true, if_false, ka_lo, ka_hi, ka_nn, km_sr_sf, km_sr_of, km_up_of, km_sr_us, km_sr_uo, km_sr_sr, km_sr_fl, km_sr_flo, km_up_up, km_up_lt, km_lay, km_unL, km_up_o, km_upx_i, km_upx_s, km_fl2_o, km_is, Option.some.injEq, Sum.inl.injEq, Sum.inr.injEq, Option.toList_some, Option.toList_none, List.cons_append, List.nil_append, ne_eq, true_and, and_true, and_self, not_true_eq_false, not_false_eq_true, true_implies, false_implies, reduceCtorEq]
  · have z2 : 100000 ≤ i := by omega
    simp (config := { decide := true }) (disch := first | decide | assumption | omega | (simp (config := { decide := true }) only [km_sr_sf, km_sr_of, km_up_of, km_up_o, km_upx_i, km_upx_s, km_fl2_o, ne_eq, not_true_eq_false, not_false_eq_true] <;> omega) | fail) only [g_X4_value, kM10, z, z2, ka_lt, ka_le, ka_nlt, ka_nle, ka_ne, ka_eq, Int.add_sub_cancel, true_or, or_true, false_or, or_false, false_and, and_false, if_true, if_false, ka_lo, ka_hi, ka_nn, km_sr_sf, km_sr_of, km_up_of, km_sr_us, km_sr_uo, km_sr_sr, km_sr_fl, km_sr_flo, km_up_up, km_up_lt, km_lay, km_unL, km_up_o, km_upx_i, km_upx_s, km_fl2_o, km_is, Option.some.injEq, Sum.inl.injEq, Sum.inr.injEq, Option.toList_some, Option.toList_none, List.cons_append, List.nil_append, ne_eq, true_and, and_true, and_self, not_true_eq_false, not_false_eq_true, true_implies, false_implies, reduceCtorEq]
theorem c4_done {at0 kn : Int} (hi : 0 ≤ i ∧ i ≤ 100000) : km_G M_X4_value 37 [some (.inr (.inr 69)), some (.inr (.inr P)), some (.inl ln), some (.inl i)] [] (km_A0 q c s) (kmM X at0 1 0 1 hp kn hv ht σ) Q ↔ Q (some (.inr (.inl (σ 0)))) (km_A0 q c s) (kmM X at0 1 0 1 hp kn hv ht σ) := by
  rw [g_X4_value_37]
  by_cases z : i < 100000
  · have z2 : ¬ 100000 ≤ i := by omega
    simp (config := { decide := true }) (disch := first | decide | assumption | omega | (simp (config := { decide := true }) only [km_sr_sf, km_sr_of, km_up_of, km_up_o, km_upx_i, km_upx_s, km_fl2_o, ne_eq, not_true_eq_false, not_false_eq_true] <;> omega) | fail) only [g_X4_value, kM10, kM11, kM8, kM84, z, z2, ka_lt, ka_le, ka_nlt, ka_nle, ka_ne, ka_eq, Int.add_sub_cancel, true_or, or_true, false_or, or_false, false_and, and_false, if_true, if_false, ka_lo, ka_hi, ka_nn, km_sr_sf, km_sr_of, km_up_of, km_sr_us, km_sr_uo, km_sr_sr, km_sr_fl, km_sr_flo, km_up_up, km_up_lt, km_lay, km_unL, km_up_o, km_upx_i, km_upx_s, km_fl2_o, km_is, Option.some.injEq, Sum.inl.injEq, Sum.inr.injEq, Option.toList_some, Option.toList_none, List.cons_append, List.nil_append, ne_eq, true_and, and_true, and_self, not_true_eq_false, not_false_eq_true, true_implies, false_implies, reduceCtorEq]
  · have z2 : 100000 ≤ i := by omega
    simp (config := { decide := true }) (disch := first | decide | assumption | omega | (simp (config := { decide := true }) only [km_sr_sf, km_sr_of, km_up_of, km_up_o, km_upx_i, km_upx_s, km_fl2_o, ne_eq, not_true_eq_false, not_false_eq_true] <;> omega) | fail) only [g_X4_value, kM10, kM11, kM8, kM84, z, z2, ka_lt, ka_le, ka_nlt, ka_nle, ka_ne, ka_eq, Int.add_sub_cancel, true_or, or_true, false_or, or_false, false_and, and_false, if_true, if_false, ka_lo, ka_hi, ka_nn, km_sr_sf, km_sr_of, km_up_of, km_sr_us, km_sr_uo, km_sr_sr, km_sr_fl, km_sr_flo, km_up_up, km_up_lt, km_lay, km_unL, km_up_o, km_upx_i, km_upx_s, km_fl2_o, km_is, Option.some.injEq, Sum.inl.injEq, Sum.inr.injEq, Option.toList_some, Option.toList_none, List.cons_append, List.nil_append, ne_eq, true_and, and_true, and_self, not_true_eq_false, not_false_eq_true, true_implies, false_implies, reduceCtorEq]
theorem c4_begin {at0 fl st kn : Int} (hP : P = 40 ∨ P = 46) (hl : 0 ≤ ln ∧ ln < 7) (up : km_upR (km_A0 q c s) 69 6 P = km_A0 q' c s) : km_E M_X4_value [.inr (.inr 69), .inr (.inr P), .inl ln] (km_A0 q c s) (kmM X at0 top fl st hp kn hv ht σ) Q ↔ km_G M_X4_value 37 [some (.inr (.inr 69)), some (.inr (.inr P)), some (.inl ln), some (.inl 0)] [] (km_A0 q' c s) (kmM X (X (P + 5) ln) 0 0 0 hp (-1) hv ht σ) Q := by
  rw [e_X4_value]
  rcases hP with rfl | rfl
  · simp only [Int.reduceAdd]
    simp (config := { decide := true }) (disch := first | decide | assumption | omega | (simp (config := { decide := true }) only [km_sr_sf, km_sr_of, km_up_of, km_up_o, km_upx_i, km_upx_s, km_fl2_o, ne_eq, not_true_eq_false, not_false_eq_true] <;> omega) | fail) only [g_X4_value, up, kMr, kU9, kU8, kU10, kU11, kU13, hl, ka_lt, ka_le, ka_nlt, ka_nle, ka_ne, ka_eq, Int.add_sub_cancel, true_or, or_true, false_or, or_false, false_and, and_false, if_true, if_false, ka_lo, ka_hi, ka_nn, km_sr_sf, km_sr_of, km_up_of, km_sr_us, km_sr_uo, km_sr_sr, km_sr_fl, km_sr_flo, km_up_up, km_up_lt, km_lay, km_unL, km_up_o, km_upx_i, km_upx_s, km_fl2_o, km_is, Option.some.injEq, Sum.inl.injEq, Sum.inr.injEq, Option.toList_some, Option.toList_none, List.cons_append, List.nil_append, ne_eq, true_and, and_true, and_self, not_true_eq_false, not_false_eq_true, true_implies, false_implies, reduceCtorEq]
  · simp only [Int.reduceAdd]
    simp (config := { decide := true }) (disch := first | decide | assumption | omega | (simp (config := { decide := true }) only [km_sr_sf, km_sr_of, km_up_of, km_up_o, km_upx_i, km_upx_s, km_fl2_o, ne_eq, not_true_eq_false, not_false_eq_true] <;> omega) | fail) only [g_X4_value, up, kMr, kU9, kU8, kU10, kU11, kU13, hl, ka_lt, ka_le, ka_nlt, ka_nle, ka_ne, ka_eq, Int.add_sub_cancel, true_or, or_true, false_or, or_false, false_and, and_false, if_true, if_false, ka_lo, ka_hi, ka_nn, km_sr_sf, km_sr_of, km_up_of, km_sr_us, km_sr_uo, km_sr_sr, km_sr_fl, km_sr_flo, km_up_up, km_up_lt, km_lay, km_unL, km_up_o, km_upx_i, km_upx_s, km_fl2_o, km_is, Option.some.injEq, Sum.inl.injEq, Sum.inr.injEq, Option.toList_some, Option.toList_none, List.cons_append, List.nil_append, ne_eq, true_and, and_true, and_self, not_true_eq_false, not_false_eq_true, true_implies, false_implies, reduceCtorEq]
theorem kM_id : kmM X (X 69 9) (X 69 8) (X 69 10) (X 69 11) (X 69 12) (X 69 13) (X 69 14) (X 69 15) (X 84) = X := by
  funext b j
  unfold kmM
  grind
/-- a leaf -/
theorem sc_one {o y v : Int} (hq : q.2.2.2.2 = P) (hP : P = 40 ∨ P = 46) (h4 : X P 4 ≤ 367) (ha : 0 ≤ a ∧ a + 1 = b ∧ b ≤ X P 4) (hi : 0 ≤ i ∧ i + kTm h (b - a) ≤ 99999) (h1 : X (P + 1) a = o) (h2 : X (P + 2) a = y) (hd : ∀ Q : Option km_V → km_Al → km_Mm → Prop, km_E M_X4_doStep [.inr (.inr 69), .inl o, .inl y] (km_A0 q c s) (kmM X a top 0 0 hp x hv ht σ) Q ↔ Q none (km_A0 q c s) (kmM X (a + 1) (top + 1) 0 0 hp x hv ht (km_u1 σ top v))) : kcR q c s X P ln h x a b i (kTm h (b - a)) top hp hv ht σ (some v) := by
  have T := @kTm_e h (b - a)
  refine ⟨fun z => (by cases z), fun w hw => ⟨i + 1, hp, hv, ht, km_u1 σ top v, by omega, fun _ => ⟨rfl, rfl, rfl⟩, fun j hj => km_u1_o (by omega), by cases hw; exact km_u1_s, fun Q => ?_⟩⟩
  rw [c4_it hq hP (by omega) (by omega) h4 h1 h2 hd, ha.2.1]
/-- one piece behind another -/
theorem sc_none {r : Option Int} {b' T T' : Int} (k : kcR q c s X P ln h x a b i T top hp hv ht σ r) (hr : r = none) : kcR q c s X P ln h x a b' i T' top hp hv ht σ none := ⟨fun _ => k.1 hr, fun v hv => (by cases hv)⟩
theorem sc_then {a1 i1 hp1 hv1 ht1 T1 T T2 : Int} {σ1 : Int → Int} {r : Option Int} (e : ∀ Q : Option km_V → km_Al → km_Mm → Prop, km_G M_X4_value 37 [some (.inr (.inr 69)), some (.inr (.inr P)), some (.inl ln), some (.inl i)] [] (km_A0 q c s) (kmM X a top 0 0 hp x hv ht σ) Q ↔ km_G M_X4_value 37 [some (.inr (.inr 69)), some (.inr (.inr P)), some (.inl ln), some (.inl i1)] [] (km_A0 q c s) (kmM X a1 top 0 0 hp1 x hv1 ht1 σ1) Q) (h1 : h = 1 → hp1 = hp ∧ hv1 = hv ∧ ht1 = ht) (hs : ∀ j : Int, j < top → σ1 j = σ j) (hi : i ≤ i1 ∧ i1 ≤ i + T1) (hT : T1 + T2 ≤ T) (k : kcR q c s X P ln h x a1 b i1 T2 top hp1 hv1 ht1 σ1 r) : kcR q c s X P ln h x a b i T top hp hv ht σ r := by
  refine ⟨fun z => ?_, fun v z => ?_⟩
  · obtain ⟨b1, b2, b3, b4, b5, b6, b7, b8, b9⟩ := k.1 z
    exact ⟨b1, b2, b3, b4, b5, b6, b7, b8, fun Q => (e Q).trans (b9 Q)⟩
  · obtain ⟨i', hp', hv', ht', σ', b1, b2, b3, b4, b5⟩ := k.2 v z
    exact ⟨i', hp', hv', ht', σ', by omega, fun w => by have := b2 w; have := h1 w; omega, fun j hj => (b3 j hj).trans (hs j hj), b4, fun Q => (e Q).trans (b5 Q)⟩
/-- a sign ahead -/
theorem sc_ahead {o : Int} {g : Int → Int} (hq : q.2.2.2.2 = P) (hP : P = 40 ∨ P = 46) (h4 : X P 4 ≤ 367) (hb : 0 ≤ a ∧ a < b - 1 ∧ b ≤ X P 4) (ht0 : 0 ≤ top ∧ top + t ≤ 121 ∧ 2 ≤ t) (hi : 0 ≤ i ∧ i + kTm h (b - a) ≤ 99999) {r : Option Int} (k : kcR q c s X P ln h x a (b - 1) i (kTm h (b - 1 - a)) top hp hv ht σ r) (h12 : ∀ v, r = some v → k12 v) (h1 : X (P + 1) (b - 1) = o) (ho : (o = 50 ∧ ∀ v, g v = -v) ∨ (o = 26 ∧ ∀ v, g v = if v = 0 then 1 else 0)) : kcR q c s X P ln h x a b i (kTm h (b - a)) top hp hv ht σ (kah g r) := by
  have T1 := @kTm_e h (b - a)
  have T2 := @kTm_e h (b - 1 - a)
  cases r with
  | none => exact sc_none k rfl
  | some v =>
    refine ⟨fun z => (by cases z), fun w hw => ?_⟩
    obtain ⟨i', hp', hv', ht', σ', b1, b2, b3, b4, b5⟩ := k.2 v rfl
    have v12 := h12 v rfl
    refine ⟨i' + 1, hp', hv', ht', km_u1 σ' top w, by omega, b2, fun j hj => by rw [km_u1_o (by omega)]; exact b3 j hj, km_u1_s, fun Q => ?_⟩
    rw [b5 Q, c4_it hq hP (by omega) (by omega) h4 h1 rfl (fun Q => t4_one (u := w) (by omega) (by omega) (by rw [show top + 1 - 1 = top by omega, b4]; exact v12) (by
      rw [show top + 1 - 1 = top by omega, b4]
      cases hw
      rcases ho with ⟨o1, o2⟩ | ⟨o1, o2⟩
      · exact Or.inl ⟨o1, o2 v⟩
      · exact Or.inr (Or.inl ⟨o1, o2 v⟩)))]
    rw [show b - 1 + 1 = b by omega, show top + 1 - 1 = top by omega]
end KC

