/-! ===== the reference has a meal ===== -/
theorem lp_meal35 {q : Nat × Int × Int × Int × Int} {c s : Nat} {Y : km_Mm} {F : Int → Int} {w r : Int} {V : Int → Int → Int} (hw : ten w) (e82 : Y 123 82 = w) (hs : ∀ a b : Int, 0 ≤ a → a < 10 → 0 ≤ b → b < 10 → tb (F b) a = tb (F a) b) (hf : ∀ a b : Int, 0 ≤ b → b < a → a < 10 → Y 164 (10 * a + b) = if tb (F a) b = true then 1 else 0) (hd : ∀ k : Int, 0 ≤ k → tb w k = true → 0 ≤ Y 125 (5 * k + 3) ∧ Y 125 (5 * k + 3) < 4) (r0 : 0 ≤ r) (r1 : r < 3)
    (hV : ∀ t : Int, ten t → V r t = @ite Int (ksb t w) (Classical.propDecidable _) (@ite Int (Y 167 r < km_pop t ∨ kfd F t ∨ Y 123 87 < km_pop (kor Y t 10)) (Classical.propDecidable _) (-1) (ksm (kgf Y t) 10)) (-1)) :
    ∀ (N : Nat) (t : Int) (X : km_Mm), t + N = 1024 → 0 ≤ t → (∀ e j : Int, e ≠ 171 → X e j = Y e j) → (∀ x t' : Int, 0 ≤ x → ten t' → x < r ∨ (x = r ∧ t' < t) → X 171 (1024 * x + t') = V x t') →
    ∃ M' : km_Mm, (∀ e j : Int, e ≠ 171 → M' e j = Y e j) ∧ (∀ x t' : Int, 0 ≤ x → ten t' → x < r + 1 → M' 171 (1024 * x + t') = V x t') ∧ ∀ Q : Option km_V → km_Al → km_Mm → Prop, (km_G M_X12_meal 35 [some (.inr (.inr 123)), some (.inl r), some (.inl t), none, none, none, none] [] (km_A0 q c s) X Q ↔ km_G M_X12_meal 25 [some (.inr (.inr 123)), some (.inl (r + 1)), some (.inl 1024), none, none, none, none] [] (km_A0 q c s) M' Q) := by
  intro N
  induction N with
  | zero =>
    intro t X h t0 f1 f2
    have e : t = 1024 := by omega
    subst e
    refine ⟨X, f1, fun x t' x0 ht' xr => f2 x t' x0 ht' (by unfold ten at ht'; omega), fun Q => ?_⟩
    rw [g_X12_meal_35]
    simp (config := { decide := true }) (disch := first | decide | assumption | omega | (simp (config := { decide := true }) only [km_sr_sf, km_sr_of, km_up_of, km_up_o, km_upx_i, km_upx_s, km_fl2_o, ne_eq, not_true_eq_false, not_false_eq_true] <;> omega) | fail) only [g_X12_meal, ka_lt, ka_le, ka_nlt, ka_nle, ka_ne, ka_eq, Int.add_sub_cancel, true_or, or_true, false_or, or_false, false_and, and_false, if_true, if_false, ka_lo, ka_hi, ka_nn, km_sr_sf, km_sr_of, km_up_of, km_sr_us, km_sr_uo, km_sr_sr, km_sr_fl, km_sr_flo, km_up_up, km_up_lt, km_lay, km_unL, km_up_o, km_upx_i, km_upx_s, km_fl2_o, km_is, Option.some.injEq, Sum.inl.injEq, Sum.inr.injEq, Option.toList_some, Option.toList_none, List.cons_append, List.nil_append, ne_eq, true_and, and_true, and_self, not_true_eq_false, not_false_eq_true, true_implies, false_implies, reduceCtorEq]
  | succ N ih =>
    intro t X h t0 f1 f2
    have tt : ten t := ⟨t0, by omega⟩
    have X82 : X 123 82 = w := (f1 _ _ (by decide)).trans e82
    obtain ⟨M', d1, d2, d3⟩ := ih (t + 1) (km_up X 171 (1024 * r + t) (V r t)) (by omega) (by omega) (fun e j z => by rw [km_up_ne (fun w => z w.1)]; exact f1 e j z) (fun x t' x0 ht' xt => by
      unfold ten at ht'
      by_cases z : x = r ∧ t' = t
      · rw [km_up_eq ⟨rfl, by rw [z.1, z.2]⟩, z.1, z.2]
      · rw [km_up_ne (fun w => by omega)]; exact f2 x t' x0 ht' (by omega))
    refine ⟨M', d1, d2, fun Q => ?_⟩
    rw [← d3 Q, g_X12_meal_35, hV t tt]
    have n0 := ksb_n0 tt hw
    by_cases z : ksb t w
    · have z0 := n0.mpr z
      have sub := ((ksb_tb hw).mp z).2
      have r167 : X 167 = Y 167 := funext fun j => f1 167 j (by decide)
      have r164 : X 164 = Y 164 := funext fun j => f1 164 j (by decide)
      have r169 : X 169 = Y 169 := funext fun j => f1 169 j (by decide)
      have r125 : X 125 = Y 125 := funext fun j => f1 125 j (by decide)
      have r87 : X 123 87 = Y 123 87 := f1 123 87 (by decide)
      have go : ∀ n, kor X t n = kor Y t n := fun n => by
        induction n with
        | zero => rfl
        | succ n ih => unfold kor; rw [ih, r125]
      have gf : kgf X t = kgf Y t := by funext k; unfold kgf; rw [r169]
      have bc := fun Q => @md_fresh q c s X F r t tt hs (by rw [r164]; exact hf) (by rw [r125]; exact fun k k0 hk => hd k k0 (sub k k0 hk)) r0 r1 Q
      rw [go, gf, r167, r87] at bc
      rw [if_pos z]
      simp (config := { decide := true }) (disch := first | decide | assumption | omega | (simp (config := { decide := true }) only [km_sr_sf, km_sr_of, km_up_of, km_up_o, km_upx_i, km_upx_s, km_fl2_o, ne_eq, not_true_eq_false, not_false_eq_true] <;> omega) | fail) only [g_X12_meal, X82, z0, bc, ka_lt, ka_le, ka_nlt, ka_nle, ka_ne, ka_eq, Int.add_sub_cancel, true_or, or_true, false_or, or_false, false_and, and_false, if_true, if_false, ka_lo, ka_hi, ka_nn, km_sr_sf, km_sr_of, km_up_of, km_sr_us, km_sr_uo, km_sr_sr, km_sr_fl, km_sr_flo, km_up_up, km_up_lt, km_lay, km_unL, km_up_o, km_upx_i, km_upx_s, km_fl2_o, km_is, Option.some.injEq, Sum.inl.injEq, Sum.inr.injEq, Option.toList_some, Option.toList_none, List.cons_append, List.nil_append, ne_eq, true_and, and_true, and_self, not_true_eq_false, not_false_eq_true, true_implies, false_implies, reduceCtorEq]
    · have z0 : ¬ km_and t (km_xor w (-1)) = 0 := fun y => z (n0.mp y)
      rw [if_neg z]
      simp (config := { decide := true }) (disch := first | decide | assumption | omega | (simp (config := { decide := true }) only [km_sr_sf, km_sr_of, km_up_of, km_up_o, km_upx_i, km_upx_s, km_fl2_o, ne_eq, not_true_eq_false, not_false_eq_true] <;> omega) | fail) only [g_X12_meal, X82, z0, ka_lt, ka_le, ka_nlt, ka_nle, ka_ne, ka_eq, Int.add_sub_cancel, true_or, or_true, false_or, or_false, false_and, and_false, if_true, if_false, ka_lo, ka_hi, ka_nn, km_sr_sf, km_sr_of, km_up_of, km_sr_us, km_sr_uo, km_sr_sr, km_sr_fl, km_sr_flo, km_up_up, km_up_lt, km_lay, km_unL, km_up_o, km_upx_i, km_upx_s, km_fl2_o, km_is, Option.some.injEq, Sum.inl.injEq, Sum.inr.injEq, Option.toList_some, Option.toList_none, List.cons_append, List.nil_append, ne_eq, true_and, and_true, and_self, not_true_eq_false, not_false_eq_true, true_implies, false_implies, reduceCtorEq]
theorem lp_meal25 {q : Nat × Int × Int × Int × Int} {c s : Nat} {Y : km_Mm} {F : Int → Int} {w : Int} {V : Int → Int → Int} (hw : ten w) (e82 : Y 123 82 = w) (hn : 0 ≤ Y 123 89 ∧ Y 123 89 ≤ 3) (hs : ∀ a b : Int, 0 ≤ a → a < 10 → 0 ≤ b → b < 10 → tb (F b) a = tb (F a) b) (hf : ∀ a b : Int, 0 ≤ b → b < a → a < 10 → Y 164 (10 * a + b) = if tb (F a) b = true then 1 else 0) (hd : ∀ k : Int, 0 ≤ k → tb w k = true → 0 ≤ Y 125 (5 * k + 3) ∧ Y 125 (5 * k + 3) < 4)
    (hV : ∀ r t : Int, 0 ≤ r → r < Y 123 89 → ten t → V r t = @ite Int (ksb t w) (Classical.propDecidable _) (@ite Int (Y 167 r < km_pop t ∨ kfd F t ∨ Y 123 87 < km_pop (kor Y t 10)) (Classical.propDecidable _) (-1) (ksm (kgf Y t) 10)) (-1)) :
    ∀ (N : Nat) (r : Int) (o : Option km_V) (X : km_Mm), r + N = Y 123 89 → 0 ≤ r → (∀ e j : Int, e ≠ 171 → X e j = Y e j) → (∀ x t' : Int, 0 ≤ x → ten t' → x < r → X 171 (1024 * x + t') = V x t') →
    ∃ (M' : km_Mm) (p : Option km_V), (∀ e j : Int, e ≠ 171 → M' e j = Y e j) ∧ (∀ x t' : Int, 0 ≤ x → ten t' → x < Y 123 89 → M' 171 (1024 * x + t') = V x t') ∧ ∀ Q : Option km_V → km_Al → km_Mm → Prop, (km_G M_X12_meal 25 [some (.inr (.inr 123)), some (.inl r), o, none, none, none, none] [] (km_A0 q c s) X Q ↔ km_G M_X12_meal 25 [some (.inr (.inr 123)), some (.inl (Y 123 89)), p, none, none, none, none] [] (km_A0 q c s) M' Q) := by
  intro N
  induction N with
  | zero =>
    intro r o X h r0 f1 f2
    have e : r = Y 123 89 := by omega
    subst e
    exact ⟨X, o, f1, f2, fun Q => Iff.rfl⟩
  | succ N ih =>
    intro r o X h r0 f1 f2
    have X89 : X 123 89 = Y 123 89 := f1 _ _ (by decide)
    obtain ⟨M1, c1, c2, c3⟩ := @lp_meal35 q c s Y F w r V hw e82 hs hf hd r0 (by omega) (fun t ht => hV r t r0 (by omega) ht) 1024 0 X (by omega) (by decide) f1 (fun x t' x0 ht' xt => f2 x t' x0 ht' (by unfold ten at ht'; omega))
    obtain ⟨M', p, d1, d2, d3⟩ := ih (r + 1) (some (.inl 1024)) M1 (by omega) (by omega) c1 c2
    refine ⟨M', p, d1, d2, fun Q => ?_⟩
    have lt : r < Y 123 89 := by omega
    rw [← d3 Q, g_X12_meal_25]
    simp (config := { decide := true }) (disch := first | decide | assumption | omega | (simp (config := { decide := true }) only [km_sr_sf, km_sr_of, km_up_of, km_up_o, km_upx_i, km_upx_s, km_fl2_o, ne_eq, not_true_eq_false, not_false_eq_true] <;> omega) | fail) only [g_X12_meal, X89, lt, c3, ka_lt, ka_le, ka_nlt, ka_nle, ka_ne, ka_eq, Int.add_sub_cancel, true_or, or_true, false_or, or_false, false_and, and_false, if_true, if_false, ka_lo, ka_hi, ka_nn, km_sr_sf, km_sr_of, km_up_of, km_sr_us, km_sr_uo, km_sr_sr, km_sr_fl, km_sr_flo, km_up_up, km_up_lt, km_lay, km_unL, km_up_o, km_upx_i, km_upx_s, km_fl2_o, km_is, Option.some.injEq, Sum.inl.injEq, Sum.inr.injEq, Option.toList_some, Option.toList_none, List.cons_append, List.nil_append, ne_eq, true_and, and_true, and_self, not_true_eq_false, not_false_eq_true, true_implies, false_implies, reduceCtorEq]
theorem lp_meal110 {q : Nat × Int × Int × Int × Int} {c s : Nat} {Y : km_Mm} {n left d : Int} (d0 : 0 ≤ d) (d1 : d < 8) (hd : Y 123 91 = d) :
    ∀ (N : Nat) (k : Int) (X : km_Mm), k + N = 10 → 0 ≤ k → (∀ e j : Int, ¬ (e = 168 ∧ 10 * d ≤ j ∧ j < 10 * d + 10) → X e j = Y e j) → (∀ j : Int, 0 ≤ j → j < k → X 168 (10 * d + j) = -1) →
    ∃ (M' : km_Mm), (∀ e j : Int, ¬ (e = 168 ∧ 10 * d ≤ j ∧ j < 10 * d + 10) → M' e j = Y e j) ∧ (∀ j : Int, 0 ≤ j → j < 10 → M' 168 (10 * d + j) = -1) ∧ ∀ Q : Option km_V → km_Al → km_Mm → Prop, (km_G M_X12_meal 110 [some (.inr (.inr 123)), some (.inl n), some (.inl left), some (.inl k), none, none, none] [] (km_A0 q c s) X Q ↔ km_G M_X12_meal 139 [some (.inr (.inr 123)), some (.inl n), some (.inl left), some (.inl 0), none, none, none] [] (km_A0 q c s) M' Q) := by
  intro N
  induction N with
  | zero =>
    intro k X h k0 f1 f2
    have e : k = 10 := by omega
    subst e
    refine ⟨X, f1, f2, fun Q => ?_⟩
    rw [g_X12_meal_110]
    simp (config := { decide := true }) (disch := first | decide | assumption | omega | (simp (config := { decide := true }) only [km_sr_sf, km_sr_of, km_up_of, km_up_o, km_upx_i, km_upx_s, km_fl2_o, ne_eq, not_true_eq_false, not_false_eq_true] <;> omega) | fail) only [g_X12_meal, ka_lt, ka_le, ka_nlt, ka_nle, ka_ne, ka_eq, Int.add_sub_cancel, true_or, or_true, false_or, or_false, false_and, and_false, if_true, if_false, ka_lo, ka_hi, ka_nn, km_sr_sf, km_sr_of, km_up_of, km_sr_us, km_sr_uo, km_sr_sr, km_sr_fl, km_sr_flo, km_up_up, km_up_lt, km_lay, km_unL, km_up_o, km_upx_i, km_upx_s, km_fl2_o, km_is, Option.some.injEq, Sum.inl.injEq, Sum.inr.injEq, Option.toList_some, Option.toList_none, List.cons_append, List.nil_append, ne_eq, true_and, and_true, and_self, not_true_eq_false, not_false_eq_true, true_implies, false_implies, reduceCtorEq]
  | succ N ih =>
    intro k X h k0 f1 f2
    have X91 : X 123 91 = d := (f1 _ _ (by omega)).trans hd
    obtain ⟨M', e1, e2, e3⟩ := ih (k + 1) (km_up X 168 (10 * d + k) (-1)) (by omega) (by omega) (fun e j z => by rw [km_up_ne (fun w => z (by omega))]; exact f1 e j z) (fun j j0 j1 => by
      by_cases z : j = k
      · rw [km_up_eq ⟨rfl, by rw [z]⟩]
      · rw [km_up_ne (fun w => by omega)]; exact f2 j j0 (by omega))
    refine ⟨M', e1, e2, fun Q => ?_⟩
    rw [← e3 Q, g_X12_meal_110]
    simp (config := { decide := true }) (disch := first | decide | assumption | omega | (simp (config := { decide := true }) only [km_sr_sf, km_sr_of, km_up_of, km_up_o, km_upx_i, km_upx_s, km_fl2_o, ne_eq, not_true_eq_false, not_false_eq_true] <;> omega) | fail) only [g_X12_meal, X91, ka_lt, ka_le, ka_nlt, ka_nle, ka_ne, ka_eq, Int.add_sub_cancel, true_or, or_true, false_or, or_false, false_and, and_false, if_true, if_false, ka_lo, ka_hi, ka_nn, km_sr_sf, km_sr_of, km_up_of, km_sr_us, km_sr_uo, km_sr_sr, km_sr_fl, km_sr_flo, km_up_up, km_up_lt, km_lay, km_unL, km_up_o, km_upx_i, km_upx_s, km_fl2_o, km_is, Option.some.injEq, Sum.inl.injEq, Sum.inr.injEq, Option.toList_some, Option.toList_none, List.cons_append, List.nil_append, ne_eq, true_and, and_true, and_self, not_true_eq_false, not_false_eq_true, true_implies, false_implies, reduceCtorEq]
/-- two sat at one TABLE -/
def kss (cc : Int → Int) (r x y : Int) : Prop := ∃ p : Int, 0 ≤ p ∧ p < r ∧ tb (cc p) x = true ∧ tb (cc p) y = true
theorem kss_up {cc : Int → Int} {r x y : Int} (r0 : 0 ≤ r) : kss cc (r + 1) x y ↔ kss cc r x y ∨ (tb (cc r) x = true ∧ tb (cc r) y = true) := by
  constructor
  · rintro ⟨p, h1, h2, h3⟩
    by_cases e : p = r
    · subst e; exact Or.inr h3
    · exact Or.inl ⟨p, h1, by omega, h3⟩
  · rintro (⟨p, h1, h2, h3⟩ | h)
    · exact ⟨p, h1, by omega, h3⟩
    · exact ⟨r, r0, by omega, h⟩
noncomputable def kNV (Y : km_Mm) (cc : Int → Int) (r x y : Int) : Int := @ite Int (Y 169 (10 * x + y) ≠ 0 ∨ kss cc r x y) (Classical.propDecidable _) 1 0
theorem lp_meal197 {q : Nat × Int × Int × Int × Int} {c s : Nat} {Y Z : km_Mm} {n left S a : Int} {cc : Int → Int} {r : Nat} (tS : ten S) (hS : cc r = S) (r1 : r < 3) (a0 : 0 ≤ a) (a1 : a < 10) (ta : tb S a = true) (hZ : ∀ y : Int, 0 ≤ y → y < a → Z 169 (10 * a + y) = kNV Y cc r a y) :
    ∀ (N : Nat) (b : Int) (X : km_Mm), b + N = a → 0 ≤ b → (∀ e j : Int, ¬ (e = 169 ∧ 10 * a ≤ j ∧ j < 10 * a + a) → X e j = Z e j) → (∀ y : Int, 0 ≤ y → y < b → X 169 (10 * a + y) = kNV Y cc (r + 1) a y) → (∀ y : Int, b ≤ y → y < a → X 169 (10 * a + y) = kNV Y cc r a y) →
    ∃ (M' : km_Mm), (∀ e j : Int, ¬ (e = 169 ∧ 10 * a ≤ j ∧ j < 10 * a + a) → M' e j = Z e j) ∧ (∀ y : Int, 0 ≤ y → y < a → M' 169 (10 * a + y) = kNV Y cc (r + 1) a y) ∧ ∀ Q : Option km_V → km_Al → km_Mm → Prop, (km_G M_X12_meal 197 [some (.inr (.inr 123)), some (.inl n), some (.inl left), some (.inl (r : Int)), some (.inl S), some (.inl a), some (.inl b)] [] (km_A0 q c s) X Q ↔ km_G M_X12_meal 158 [some (.inr (.inr 123)), some (.inl n), some (.inl left), some (.inl (r : Int)), some (.inl S), some (.inl (a + 1)), some (.inl a)] [] (km_A0 q c s) M' Q) := by
  intro N
  have S2 : S < 2147483648 := by unfold ten at tS; omega
  induction N with
  | zero =>
    intro b X h b0 f1 f2 f3
    have e : b = a := by omega
    subst e
    refine ⟨X, f1, f2, fun Q => ?_⟩
    rw [g_X12_meal_197]
    simp (config := { decide := true }) (disch := first | decide | assumption | omega | (simp (config := { decide := true }) only [km_sr_sf, km_sr_of, km_up_of, km_up_o, km_upx_i, km_upx_s, km_fl2_o, ne_eq, not_true_eq_false, not_false_eq_true] <;> omega) | fail) only [g_X12_meal, Int.le_refl, ka_lt, ka_le, ka_nlt, ka_nle, ka_ne, ka_eq, Int.add_sub_cancel, true_or, or_true, false_or, or_false, false_and, and_false, if_true, if_false, ka_lo, ka_hi, ka_nn, km_sr_sf, km_sr_of, km_up_of, km_sr_us, km_sr_uo, km_sr_sr, km_sr_fl, km_sr_flo, km_up_up, km_up_lt, km_lay, km_unL, km_up_o, km_upx_i, km_upx_s, km_fl2_o, km_is, Option.some.injEq, Sum.inl.injEq, Sum.inr.injEq, Option.toList_some, Option.toList_none, List.cons_append, List.nil_append, ne_eq, true_and, and_true, and_self, not_true_eq_false, not_false_eq_true, true_implies, false_implies, reduceCtorEq]
  | succ N ih =>
    intro b X h b0 f1 f2 f3
    have bb := ks_bit (x := S) (k := b) tS.1 S2 b0 (by omega)
    have old := f3 b (Int.le_refl _) (by omega)
    have nv : kNV Y cc (r + 1) a b = if X 169 (10 * a + b) ≠ 0 ∨ tb S b = true then 1 else 0 := by
      rw [old]
      unfold kNV
      have ku := kss_up (cc := cc) (r := r) (x := a) (y := b) (by omega)
      rw [hS] at ku
      by_cases z : Y 169 (10 * a + b) ≠ 0 ∨ kss cc r a b
      · rw [if_pos z, if_pos (show Y 169 (10 * a + b) ≠ 0 ∨ kss cc (r + 1) a b from z.imp id (fun w => ku.mpr (Or.inl w))), if_pos (Or.inl (by decide))]
      · rw [if_neg z]
        by_cases y : tb S b = true
        · rw [if_pos (show Y 169 (10 * a + b) ≠ 0 ∨ kss cc (r + 1) a b from Or.inr (ku.mpr (Or.inr ⟨ta, y⟩))), if_pos (Or.inr y)]
        · rw [if_neg (show ¬ (Y 169 (10 * a + b) ≠ 0 ∨ kss cc (r + 1) a b) from fun w => w.elim (fun u => z (Or.inl u)) (fun u => (ku.mp u).elim (fun u => z (Or.inr u)) (fun u => y u.2))), if_neg (fun w => w.elim (fun u => u rfl) y)]
    obtain ⟨M', d1, d2, d3⟩ := ih (b + 1) (km_up X 169 (10 * a + b) (kNV Y cc (r + 1) a b)) (by omega) (by omega) (fun e j z => by rw [km_up_ne (fun w => z (by omega))]; exact f1 e j z) (fun y y0 y1 => by
      by_cases z : y = b
      · rw [km_up_eq ⟨rfl, by rw [z]⟩, z]
      · rw [km_up_ne (fun w => by omega)]; exact f2 y y0 (by omega)) (fun y y0 y1 => by rw [km_up_ne (fun w => by omega)]; exact f3 y (by omega) y1)
    refine ⟨M', d1, d2, fun Q => ?_⟩
    rw [← d3 Q, g_X12_meal_197, nv]
    by_cases z : X 169 (10 * a + b) = 0
    · by_cases y : tb S b = true
      · rw [if_pos (Or.inr y)]
        rw [if_pos y] at bb
        simp (config := { decide := true }) (disch := first | decide | assumption | omega | (simp (config := { decide := true }) only [km_sr_sf, km_sr_of, km_up_of, km_up_o, km_upx_i, km_upx_s, km_fl2_o, ne_eq, not_true_eq_false, not_false_eq_true] <;> omega) | fail) only [g_X12_meal, z, bb, ka_lt, ka_le, ka_nlt, ka_nle, ka_ne, ka_eq, Int.add_sub_cancel, true_or, or_true, false_or, or_false, false_and, and_false, if_true, if_false, ka_lo, ka_hi, ka_nn, km_sr_sf, km_sr_of, km_up_of, km_sr_us, km_sr_uo, km_sr_sr, km_sr_fl, km_sr_flo, km_up_up, km_up_lt, km_lay, km_unL, km_up_o, km_upx_i, km_upx_s, km_fl2_o, km_is, Option.some.injEq, Sum.inl.injEq, Sum.inr.injEq, Option.toList_some, Option.toList_none, List.cons_append, List.nil_append, ne_eq, true_and, and_true, and_self, not_true_eq_false, not_false_eq_true, true_implies, false_implies, reduceCtorEq]
      · rw [if_neg (fun w => w.elim (fun u => u z) y)]
        rw [if_neg y] at bb
        simp (config := { decide := true }) (disch := first | decide | assumption | omega | (simp (config := { decide := true }) only [km_sr_sf, km_sr_of, km_up_of, km_up_o, km_upx_i, km_upx_s, km_fl2_o, ne_eq, not_true_eq_false, not_false_eq_true] <;> omega) | fail) only [g_X12_meal, z, bb, ka_lt, ka_le, ka_nlt, ka_nle, ka_ne, ka_eq, Int.add_sub_cancel, true_or, or_true, false_or, or_false, false_and, and_false, if_true, if_false, ka_lo, ka_hi, ka_nn, km_sr_sf, km_sr_of, km_up_of, km_sr_us, km_sr_uo, km_sr_sr, km_sr_fl, km_sr_flo, km_up_up, km_up_lt, km_lay, km_unL, km_up_o, km_upx_i, km_upx_s, km_fl2_o, km_is, Option.some.injEq, Sum.inl.injEq, Sum.inr.injEq, Option.toList_some, Option.toList_none, List.cons_append, List.nil_append, ne_eq, true_and, and_true, and_self, not_true_eq_false, not_false_eq_true, true_implies, false_implies, reduceCtorEq]
    · rw [if_pos (Or.inl z)]
      simp (config := { decide := true }) (disch := first | decide | assumption | omega | (simp (config := { decide := true }) only [km_sr_sf, km_sr_of, km_up_of, km_up_o, km_upx_i, km_upx_s, km_fl2_o, ne_eq, not_true_eq_false, not_false_eq_true] <;> omega) | fail) only [g_X12_meal, z, ka_lt, ka_le, ka_nlt, ka_nle, ka_ne, ka_eq, Int.add_sub_cancel, true_or, or_true, false_or, or_false, false_and, and_false, if_true, if_false, ka_lo, ka_hi, ka_nn, km_sr_sf, km_sr_of, km_up_of, km_sr_us, km_sr_uo, km_sr_sr, km_sr_fl, km_sr_flo, km_up_up, km_up_lt, km_lay, km_unL, km_up_o, km_upx_i, km_upx_s, km_fl2_o, km_is, Option.some.injEq, Sum.inl.injEq, Sum.inr.injEq, Option.toList_some, Option.toList_none, List.cons_append, List.nil_append, ne_eq, true_and, and_true, and_self, not_true_eq_false, not_false_eq_true, true_implies, false_implies, reduceCtorEq]
theorem lp_meal158 {q : Nat × Int × Int × Int × Int} {c s : Nat} {Y : km_Mm} {n left S d : Int} {cc : Int → Int} {r : Nat} (tS : ten S) (hS : cc r = S) (hl : ten left) (hsl : ksb S left) (r1 : r < 3) (d0 : 0 ≤ d) (d1 : d < 8) (hd : Y 123 91 = d) :
    ∀ (N : Nat) (a : Int) (o : Option km_V) (X : km_Mm), a + N = 10 → 0 ≤ a → (∀ e j : Int, ¬ (e = 168 ∧ 10 * d ≤ j ∧ j < 10 * d + 10) → e ≠ 169 → X e j = Y e j) → (∀ j : Int, 0 ≤ j → j < a → X 168 (10 * d + j) = kdP cc (r + 1) j) → (∀ j : Int, a ≤ j → j < 10 → X 168 (10 * d + j) = kdP cc r j) → (∀ x y : Int, 0 ≤ y → y < x → x < a → X 169 (10 * x + y) = kNV Y cc (r + 1) x y) → (∀ x y : Int, 0 ≤ y → y < x → a ≤ x → x < 10 → X 169 (10 * x + y) = kNV Y cc r x y) →
    ∃ (M' : km_Mm) (p : Option km_V), (∀ e j : Int, ¬ (e = 168 ∧ 10 * d ≤ j ∧ j < 10 * d + 10) → e ≠ 169 → M' e j = Y e j) ∧ (∀ j : Int, 0 ≤ j → j < 10 → M' 168 (10 * d + j) = kdP cc (r + 1) j) ∧ (∀ x y : Int, 0 ≤ y → y < x → x < 10 → M' 169 (10 * x + y) = kNV Y cc (r + 1) x y) ∧ ∀ Q : Option km_V → km_Al → km_Mm → Prop, (km_G M_X12_meal 158 [some (.inr (.inr 123)), some (.inl n), some (.inl left), some (.inl (r : Int)), some (.inl S), some (.inl a), o] [] (km_A0 q c s) X Q ↔ km_G M_X12_meal 139 [some (.inr (.inr 123)), some (.inl n), some (.inl (left - S)), some (.inl ((r : Int) + 1)), some (.inl S), some (.inl 10), p] [] (km_A0 q c s) M' Q) := by
  intro N
  have S2 : S < 2147483648 := by unfold ten at tS; omega
  have an := ksb_andn hl hsl
  induction N with
  | zero =>
    intro a o X h a0 f1 f2 f3 f4 f5
    have e : a = 10 := by omega
    subst e
    refine ⟨X, o, f1, f2, f4, fun Q => ?_⟩
    rw [g_X12_meal_158]
    simp (config := { decide := true }) (disch := first | decide | assumption | omega | (simp (config := { decide := true }) only [km_sr_sf, km_sr_of, km_up_of, km_up_o, km_upx_i, km_upx_s, km_fl2_o, ne_eq, not_true_eq_false, not_false_eq_true] <;> omega) | fail) only [g_X12_meal, an, ka_lt, ka_le, ka_nlt, ka_nle, ka_ne, ka_eq, Int.add_sub_cancel, true_or, or_true, false_or, or_false, false_and, and_false, if_true, if_false, ka_lo, ka_hi, ka_nn, km_sr_sf, km_sr_of, km_up_of, km_sr_us, km_sr_uo, km_sr_sr, km_sr_fl, km_sr_flo, km_up_up, km_up_lt, km_lay, km_unL, km_up_o, km_upx_i, km_upx_s, km_fl2_o, km_is, Option.some.injEq, Sum.inl.injEq, Sum.inr.injEq, Option.toList_some, Option.toList_none, List.cons_append, List.nil_append, ne_eq, true_and, and_true, and_self, not_true_eq_false, not_false_eq_true, true_implies, false_implies, reduceCtorEq]
  | succ N ih =>
    intro a o X h a0 f1 f2 f3 f4 f5
    have X91 : X 123 91 = d := (f1 _ _ (by omega) (by decide)).trans hd
    have ba := ks_bit (x := S) (k := a) tS.1 S2 a0 (by omega)
    have kd : ∀ j : Int, kdP cc (r + 1) j = if tb S j = true then (r : Int) else kdP cc r j := fun j => by rw [← hS]; rfl
    by_cases z : tb S a = true
    · rw [if_pos z] at ba
      obtain ⟨M1, c1, c2, c3⟩ := @lp_meal197 q c s Y (km_up X 168 (10 * d + a) r) n left S a cc r tS hS r1 a0 (by omega) z (fun y y0 y1 => by rw [km_up_ne (by omega)]; exact f5 a y y0 y1 (Int.le_refl _) (by omega)) a.toNat 0 (km_up X 168 (10 * d + a) r) (by omega) (by decide) (fun _ _ _ => rfl) (fun y y0 y1 => by omega) (fun y y0 y1 => by rw [km_up_ne (by omega)]; exact f5 a y y0 y1 (Int.le_refl _) (by omega))
      obtain ⟨M', p, d1, d2, d3, d4⟩ := ih (a + 1) (some (.inl a)) M1 (by omega) (by omega) (fun e j y1 y2 => by rw [c1 e j (fun w => y2 w.1), km_up_ne (fun w => y1 (by omega))]; exact f1 e j y1 y2) (fun j j0 j1 => by
        rw [c1 168 _ (by omega)]
        by_cases y : j = a
        · rw [km_up_eq ⟨rfl, by rw [y]⟩, kd, y, if_pos z]
        · rw [km_up_ne (fun w => by omega)]; exact f2 j j0 (by omega)) (fun j j0 j1 => by
        rw [c1 168 _ (by omega), km_up_ne (fun w => by omega)]; exact f3 j (by omega) j1) (fun x y y0 y1 xa => by
        by_cases e : x = a
        · subst e; exact c2 y y0 y1
        · rw [c1 169 _ (by omega), km_up_ne (by omega)]; exact f4 x y y0 y1 (by omega)) (fun x y y0 y1 xa x1 => by
        rw [c1 169 _ (by omega), km_up_ne (by omega)]; exact f5 x y y0 y1 (by omega) x1)
      refine ⟨M', p, d1, d2, d3, fun Q => ?_⟩
      rw [← d4 Q, g_X12_meal_158]
      simp (config := { decide := true }) (disch := first | decide | assumption | omega | (simp (config := { decide := true }) only [km_sr_sf, km_sr_of, km_up_of, km_up_o, km_upx_i, km_upx_s, km_fl2_o, ne_eq, not_true_eq_false, not_false_eq_true] <;> omega) | fail) only [g_X12_meal, X91, ba, c3, ka_lt, ka_le, ka_nlt, ka_nle, ka_ne, ka_eq, Int.add_sub_cancel, true_or, or_true, false_or, or_false, false_and, and_false, if_true, if_false, ka_lo, ka_hi, ka_nn, km_sr_sf, km_sr_of, km_up_of, km_sr_us, km_sr_uo, km_sr_sr, km_sr_fl, km_sr_flo, km_up_up, km_up_lt, km_lay, km_unL, km_up_o, km_upx_i, km_upx_s, km_fl2_o, km_is, Option.some.injEq, Sum.inl.injEq, Sum.inr.injEq, Option.toList_some, Option.toList_none, List.cons_append, List.nil_append, ne_eq, true_and, and_true, and_self, not_true_eq_false, not_false_eq_true, true_implies, false_implies, reduceCtorEq]
    · rw [if_neg z] at ba
      obtain ⟨M', p, d1, d2, d3, d4⟩ := ih (a + 1) o X (by omega) (by omega) f1 (fun j j0 j1 => by
        by_cases y : j = a
        · rw [kd, y, if_neg z]; exact f3 a (Int.le_refl _) (by omega)
        · exact f2 j j0 (by omega)) (fun j j0 j1 => f3 j (by omega) j1) (fun x y y0 y1 xa => by
        by_cases e : x = a
        · subst e
          rw [f5 x y y0 y1 (Int.le_refl _) (by omega)]
          unfold kNV
          have ku := kss_up (cc := cc) (r := r) (x := x) (y := y) (by omega)
          rw [hS] at ku
          exact @km_ite_iff _ _ _ _ _ _ ⟨fun w => w.imp id (fun u => ku.mpr (Or.inl u)), fun w => w.imp id (fun u => (ku.mp u).resolve_right (fun v => z v.1))⟩
        · exact f4 x y y0 y1 (by omega)) (fun x y y0 y1 xa x1 => f5 x y y0 y1 (by omega) x1)
      refine ⟨M', p, d1, d2, d3, fun Q => ?_⟩
      rw [← d4 Q, g_X12_meal_158]
      simp (config := { decide := true }) (disch := first | decide | assumption | omega | (simp (config := { decide := true }) only [km_sr_sf, km_sr_of, km_up_of, km_up_o, km_upx_i, km_upx_s, km_fl2_o, ne_eq, not_true_eq_false, not_false_eq_true] <;> omega) | fail) only [g_X12_meal, ba, ka_lt, ka_le, ka_nlt, ka_nle, ka_ne, ka_eq, Int.add_sub_cancel, true_or, or_true, false_or, or_false, false_and, and_false, if_true, if_false, ka_lo, ka_hi, ka_nn, km_sr_sf, km_sr_of, km_up_of, km_sr_us, km_sr_uo, km_sr_sr, km_sr_fl, km_sr_flo, km_up_up, km_up_lt, km_lay, km_unL, km_up_o, km_upx_i, km_upx_s, km_fl2_o, km_is, Option.some.injEq, Sum.inl.injEq, Sum.inr.injEq, Option.toList_some, Option.toList_none, List.cons_append, List.nil_append, ne_eq, true_and, and_true, and_self, not_true_eq_false, not_false_eq_true, true_implies, false_implies, reduceCtorEq]
theorem lp_meal139 {q : Nat × Int × Int × Int × Int} {c s : Nat} {Y : km_Mm} {W : Int → Int} {cc : Int → Int} {v0 w d : Int} {n : Nat} (n4 : n ≤ 3) (hn : Y 123 89 = n) (d0 : 0 ≤ d) (d1 : d < 8) (hd : Y 123 91 = d) (hw : ten w) (hW : Y 171 = W) (hb : ∀ r t : Int, 0 ≤ r → r < n → ten t → W (1024 * r + t) ≤ 8000 ∧ -1 ≤ W (1024 * r + t)) (hB : ∀ k : Nat, k ≤ n → ∀ S : Int, ten S → klB W (-1) (-1) (n - k) k S (Y 172 (1024 * k + S))) :
    ∀ (N r : Nat) (left : Int) (o4 o5 o6 : Option km_V) (X : km_Mm), r + N = n → ten left → kdS (klX W (-1)) (klF W) cc N r left → (∀ e j : Int, ¬ (e = 168 ∧ 10 * d ≤ j ∧ j < 10 * d + 10) → e ≠ 169 → X e j = Y e j) → (∀ j : Int, 0 ≤ j → j < 10 → X 168 (10 * d + j) = kdP cc r j) → (∀ x y : Int, 0 ≤ y → y < x → x < 10 → X 169 (10 * x + y) = kNV Y cc r x y) →
    ∃ (M' : km_Mm), (∀ e j : Int, ¬ (e = 168 ∧ 10 * d ≤ j ∧ j < 10 * d + 10) → e ≠ 169 → ¬ (e = 123 ∧ j = 91) → M' e j = Y e j) ∧ (∀ j : Int, 0 ≤ j → j < 10 → M' 168 (10 * d + j) = kdP cc n j) ∧ (∀ x y : Int, 0 ≤ y → y < x → x < 10 → M' 169 (10 * x + y) = kNV Y cc n x y) ∧ M' 123 91 = d + 1 ∧ ∀ Q : Option km_V → km_Al → km_Mm → Prop, (km_G M_X12_meal 139 [some (.inr (.inr 123)), some (.inl v0), some (.inl left), some (.inl (r : Int)), o4, o5, o6] [] (km_A0 q c s) X Q ↔ Q (some (.inl v0)) (km_A0 q c s) M') := by
  intro N
  induction N with
  | zero =>
    intro r left o4 o5 o6 X h hl hk f1 f2 f3
    have e : r = n := by omega
    subst e
    have X89 : X 123 89 = r := (f1 _ _ (by omega) (by decide)).trans hn
    have X91 : X 123 91 = d := (f1 _ _ (by omega) (by decide)).trans hd
    refine ⟨km_up X 123 91 (d + 1), fun e j y1 y2 y3 => by rw [km_up_ne y3]; exact f1 e j y1 y2, fun j j0 j1 => by rw [km_up_ne (by omega)]; exact f2 j j0 j1, fun x y y0 y1 x1 => by rw [km_up_ne (by omega)]; exact f3 x y y0 y1 x1, km_up_eq ⟨rfl, rfl⟩, fun Q => ?_⟩
    rw [g_X12_meal_139]
    simp (config := { decide := true }) (disch := first | decide | assumption | omega | (simp (config := { decide := true }) only [km_sr_sf, km_sr_of, km_up_of, km_up_o, km_upx_i, km_upx_s, km_fl2_o, ne_eq, not_true_eq_false, not_false_eq_true] <;> omega) | fail) only [g_X12_meal, X89, X91, Int.le_refl, ka_lt, ka_le, ka_nlt, ka_nle, ka_ne, ka_eq, Int.add_sub_cancel, true_or, or_true, false_or, or_false, false_and, and_false, if_true, if_false, ka_lo, ka_hi, ka_nn, km_sr_sf, km_sr_of, km_up_of, km_sr_us, km_sr_uo, km_sr_sr, km_sr_fl, km_sr_flo, km_up_up, km_up_lt, km_lay, km_unL, km_up_o, km_upx_i, km_upx_s, km_fl2_o, km_is, Option.some.injEq, Sum.inl.injEq, Sum.inr.injEq, Option.toList_some, Option.toList_none, List.cons_append, List.nil_append, ne_eq, true_and, and_true, and_self, not_true_eq_false, not_false_eq_true, true_implies, false_implies, reduceCtorEq]
  | succ N ih =>
    intro r left o4 o5 o6 X h hl hk f1 f2 f3
    obtain ⟨k1, k2⟩ := hk
    have s1 := k1.1.1
    have X89 : X 123 89 = n := (f1 _ _ (by omega) (by decide)).trans hn
    have e171 : X 171 = W := (funext fun j => f1 171 j (by omega) (by decide)).trans hW
    have e172 : X 172 = Y 172 := funext fun j => f1 172 j (by omega) (by decide)
    have nk : n - (r + 1) = N := by omega
    have nk2 : n - r = N + 1 := by omega
    have fo := fun Q => @md_firstOf q c s X W 1 (-1) (-1) r left (cc r) N (Or.inr ⟨rfl, rfl, rfl⟩) (by omega) e171 (by omega) (by omega) hl (fun t ht => hb r t (by omega) (by omega) ht) (fun t ht => by
      have := hB (r + 1) (by omega) (left - t) (ksb_diff hl ht).1
      rw [nk, show 1024 * ((r + 1 : Nat) : Int) + (left - t) = 1024 * (r : Int) + 1024 + (left - t) by omega, show ((r + 1 : Nat) : Int) = (r : Int) + 1 by omega] at this
      rw [e172]; exact this) (by
      have := hB r (by omega) left hl
      rw [nk2] at this
      rw [e172]; exact this) k1 Q
    obtain ⟨M1, p, c1, c2, c3, c4⟩ := @lp_meal158 q c s Y v0 left (cc r) d cc r (ksb_ten hl s1) rfl hl s1 (by omega) d0 d1 hd 10 0 o6 X (by omega) (by decide) f1 (fun j j0 j1 => by omega) f2 (fun x y y0 y1 x1 => by omega) (fun x y y0 y1 x0 x1 => f3 x y y0 y1 x1)
    have er : ((r + 1 : Nat) : Int) = (r : Int) + 1 := by omega
    obtain ⟨M', d1, d2, d3, d4, d5⟩ := ih (r + 1) (left - cc r) (some (.inl (cc r))) (some (.inl 10)) p M1 (by omega) (ksb_diff hl s1).1 (by rw [er]; exact k2) c1 c2 (by rw [er]; exact c3)
    refine ⟨M', d1, d2, d3, d4, fun Q => ?_⟩
    rw [← d5 Q, g_X12_meal_139, er]
    simp (config := { decide := true }) (disch := first | decide | assumption | omega | (simp (config := { decide := true }) only [km_sr_sf, km_sr_of, km_up_of, km_up_o, km_upx_i, km_upx_s, km_fl2_o, ne_eq, not_true_eq_false, not_false_eq_true] <;> omega) | fail) only [g_X12_meal, X89, fo, c4, ka_lt, ka_le, ka_nlt, ka_nle, ka_ne, ka_eq, Int.add_sub_cancel, true_or, or_true, false_or, or_false, false_and, and_false, if_true, if_false, ka_lo, ka_hi, ka_nn, km_sr_sf, km_sr_of, km_up_of, km_sr_us, km_sr_uo, km_sr_sr, km_sr_fl, km_sr_flo, km_up_up, km_up_lt, km_lay, km_unL, km_up_o, km_upx_i, km_upx_s, km_fl2_o, km_is, Option.some.injEq, Sum.inl.injEq, Sum.inr.injEq, Option.toList_some, Option.toList_none, List.cons_append, List.nil_append, ne_eq, true_and, and_true, and_self, not_true_eq_false, not_false_eq_true, true_implies, false_implies, reduceCtorEq]

