/-! ===== the house in the class: couples, movers ===== -/
theorem km_cpl_sym {m : km_Mm} {a b y : Int} : ∀ (n : Nat) (i l : Int), km_cpl m a b y n i l = km_cpl m b a y n i l := by
  intro n
  induction n with
  | zero => intro i l; rfl
  | succ n ih =>
    intro i l
    unfold km_cpl
    rw [ih]
    congr 1
    exact km_ite_iff (by rw [@or_comm (m 13 i = a ∧ m 14 i = b)])
theorem kLc_sym {m : km_Mm} {n a b y : Int} : kLc m n a b y ↔ kLc m n b a y := by
  unfold kLc
  rw [km_cpl_sym]
theorem cl_couple {q : Nat × Int × Int × Int × Int} {c s : Nat} {m M X : km_Mm} {a b : Int} (hb : kI_book m) (hj : km_jk m M) (hN : kN m M) (fr : ∀ b : Int, 12 ≤ b → b ≤ 16 → X b = M b) (f5 : X 5 8 = M 5 8) (Q : Option km_V → km_Al → km_Mm → Prop) : km_E M_X1_coupleIn [.inr (.inr 5), .inl a, .inl b, .inl (m 5 2)] (km_A0 q c s) X Q ↔ Q (some (.inl (@ite Int (kLc m (m 5 3) a b (m 5 2)) (Classical.propDecidable _) 1 0))) (km_A0 q c s) X := by
  obtain ⟨n1, n2, n3, n4⟩ := hN
  have b3 := hb.2.2.1
  rw [r_coupleIn (by rw [f5, n1]; omega), f5, n1]
  have e : ∀ b : Int, b ≠ 16 → b ≠ 17 → b ≠ 18 → b ≠ 5 → km_read (m 5 3) m b = m b := fun b h1 h2 h3 h4 => funext fun j => km_read_at h1 h2 h3 (fun q => h4 q.1)
  have g : ∀ b : Int, 12 ≤ b → b ≤ 15 → X b = m b := fun b h1 h2 => (fr b h1 (by omega)).trans (funext fun j => hj b j (kJ_no (by omega)))
  have h := @km_cpl_cong X (km_read (m 5 3) m) a b (m 5 2) (m 5 3) (fun i i0 i1 => by
    rw [e 12 (by decide) (by decide) (by decide) (by decide), e 13 (by decide) (by decide) (by decide) (by decide), e 14 (by decide) (by decide) (by decide) (by decide), e 15 (by decide) (by decide) (by decide) (by decide), g 12 (by decide) (by decide), g 13 (by decide) (by decide), g 14 (by decide) (by decide), g 15 (by decide) (by decide), fr 16 (by decide) (by decide), n2 i i0 i1]
    exact ⟨Iff.rfl, fun _ => ⟨Iff.rfl, rfl, fun _ => ⟨rfl, rfl⟩⟩⟩) (m 5 3).toNat 0 (-1) (by omega) (by omega) (by omega) (fun z => absurd rfl z)
  rw [h.1, g 12 (by decide) (by decide)]
  have := @km_ite_iff (km_cpl (km_read (m 5 3) m) a b (m 5 2) (m 5 3).toNat 0 (-1) ≠ -1 ∧ m 12 (km_cpl (km_read (m 5 3) m) a b (m 5 2) (m 5 3).toNat 0 (-1)) = 1) (kLc m (m 5 3) a b (m 5 2)) inferInstance (Classical.propDecidable _) 1 0 Iff.rfl
  rw [this]
theorem ks_bit2 {x a b : Int} (hx : ten x) (a0 : 0 ≤ a) (a1 : a < 10) (b0 : 0 ≤ b) (b1 : b < 10) : km_and (km_and (km_shr x a) (km_shr x b)) 1 = if tb x a = true ∧ tb x b = true then 1 else 0 := by
  have x2 : x < 2147483648 := by unfold ten at hx; omega
  have ha := ks_bit hx.1 x2 a0 (by omega : a < 32)
  have hb := ks_bit hx.1 x2 b0 (by omega : b < 32)
  rw [ks_shr hx.1 x2 a0 (by omega)] at ha
  rw [ks_shr hx.1 x2 b0 (by omega)] at hb
  rw [ks_shr hx.1 x2 a0 (by omega), ks_shr hx.1 x2 b0 (by omega)]
  have la : x.toNat >>> a.toNat ≤ x.toNat := Nat.shiftRight_le _ _
  have lb : x.toNat >>> b.toNat ≤ x.toNat := Nat.shiftRight_le _ _
  have hx1 := hx.1
  generalize x.toNat >>> a.toNat = A at *
  generalize x.toNat >>> b.toNat = B at *
  have sA : (A : Int) < 2147483648 := by omega
  have sB : (B : Int) < 2147483648 := by omega
  rw [ks_and (Int.natCast_nonneg _) sA (by decide)] at ha
  rw [ks_and (Int.natCast_nonneg _) sB (by decide)] at hb
  rw [ks_and (Int.natCast_nonneg _) sA (Int.natCast_nonneg _)]
  simp only [Int.toNat_natCast] at *
  have lc : (A &&& B) ≤ A := Nat.and_le_left
  rw [ks_and (Int.natCast_nonneg _) (by omega) (by decide)]
  simp only [Int.toNat_natCast, show (1 : Int).toNat = 1 from rfl, Nat.and_one_is_mod] at *
  have h2 : (A &&& B) % 2 = 1 ↔ A % 2 = 1 ∧ B % 2 = 1 := Nat.and_mod_two_eq_one
  have h3 : (A &&& B) % 2 < 2 := Nat.mod_lt _ (by decide)
  by_cases ea : tb x a = true
  · rw [if_pos ea] at ha
    by_cases eb : tb x b = true
    · rw [if_pos eb] at hb
      rw [if_pos ⟨ea, eb⟩]; omega
    · rw [if_neg eb] at hb
      rw [if_neg (fun w => eb w.2)]; omega
  · rw [if_neg ea] at ha
    rw [if_neg (fun w => ea w.1)]; omega
/-- the twos of couples that were looked at -/
def kpd (D : Int → Int → Prop) (A B : Int) (a b : Int) : Prop := b < a ∧ 0 ≤ b ∧ (a < A ∨ (a = A ∧ b < B)) ∧ D a b
/-- who makes a couple with whom, in the row f -/
def kpm (D : Int → Int → Prop) (A B : Int) (f : Int → Int) : Prop := ∀ j : Int, 0 ≤ j → j < 10 → ten (f j) ∧ ∀ k : Int, 0 ≤ k → (tb (f j) k = true ↔ kpd D A B j k ∨ kpd D A B k j)
theorem kpm_no {D : Int → Int → Prop} {A B : Int} {f : Int → Int} (h : kpm D A B f) (hd : ¬ D A B) : kpm D A (B + 1) f := by
  intro j j0 j1
  refine ⟨(h j j0 j1).1, fun k k0 => ?_⟩
  rw [(h j j0 j1).2 k k0]
  have e : ∀ a b : Int, kpd D A B a b ↔ kpd D A (B + 1) a b := fun a b => by
    unfold kpd
    constructor
    · rintro ⟨w1, w2, w3, w4⟩; exact ⟨w1, w2, by omega, w4⟩
    · rintro ⟨w1, w2, w3, w4⟩
      refine ⟨w1, w2, ?_, w4⟩
      by_cases z : a = A ∧ b = B
      · obtain ⟨rfl, rfl⟩ := z; exact absurd w4 hd
      · omega
  rw [e, e]
theorem kpm_yes {D : Int → Int → Prop} {A B : Int} {f : Int → Int} (h : kpm D A B f) (hd : D A B) (b0 : 0 ≤ B) (ba : B < A) (a1 : A < 10) : kpm D A (B + 1) (km_u1 (km_u1 f A (km_or (f A) (km_shl 1 B))) B (km_or (f B) (km_shl 1 A))) := by
  have tA := ten_one (k := A) (by omega) a1
  have tB := ten_one (k := B) b0 (by omega)
  have e : ∀ a b : Int, kpd D A (B + 1) a b ↔ kpd D A B a b ∨ (a = A ∧ b = B) := fun a b => by
    unfold kpd
    constructor
    · rintro ⟨w1, w2, w3, w4⟩
      by_cases z : a = A ∧ b = B
      · exact Or.inr z
      · exact Or.inl ⟨w1, w2, by omega, w4⟩
    · rintro (⟨w1, w2, w3, w4⟩ | ⟨rfl, rfl⟩)
      · exact ⟨w1, w2, by omega, w4⟩
      · exact ⟨ba, b0, by omega, hd⟩
  intro j j0 j1
  obtain ⟨h1, h2⟩ := h j j0 j1
  by_cases zb : j = B
  · subst zb
    rw [km_u1_s]
    refine ⟨ten_or h1 tA, fun k k0 => ?_⟩
    rw [tb_or h1.1 (by unfold ten at h1; omega) tA.1 (by unfold ten at tA; omega), tb_one (by omega) (by omega) k0, Bool.or_eq_true, decide_eq_true_eq, h2 k k0, e, e]
    constructor
    · rintro ((w | w) | w)
      · exact Or.inl (Or.inl w)
      · exact Or.inr (Or.inl w)
      · exact Or.inr (Or.inr ⟨w, rfl⟩)
    · rintro ((w | w) | (w | w))
      · exact Or.inl (Or.inl w)
      · omega
      · exact Or.inl (Or.inr w)
      · exact Or.inr w.1
  · rw [km_u1_o zb]
    by_cases za : j = A
    · subst za
      rw [km_u1_s]
      refine ⟨ten_or h1 tB, fun k k0 => ?_⟩
      rw [tb_or h1.1 (by unfold ten at h1; omega) tB.1 (by unfold ten at tB; omega), tb_one b0 (by omega) k0, Bool.or_eq_true, decide_eq_true_eq, h2 k k0, e, e]
      constructor
      · rintro ((w | w) | w)
        · exact Or.inl (Or.inl w)
        · exact Or.inr (Or.inl w)
        · exact Or.inl (Or.inr ⟨rfl, w⟩)
      · rintro ((w | w) | (w | w))
        · exact Or.inl (Or.inl w)
        · exact Or.inr w.2
        · exact Or.inl (Or.inr w)
        · omega
    · rw [km_u1_o za]
      refine ⟨h1, fun k k0 => ?_⟩
      rw [h2 k k0, e, e]
      constructor
      · rintro (w | w)
        · exact Or.inl (Or.inl w)
        · exact Or.inr (Or.inl w)
      · rintro ((w | w) | (w | w))
        · exact Or.inl w
        · omega
        · exact Or.inr w
        · omega
theorem kpm_row {D : Int → Int → Prop} {A : Int} {f : Int → Int} (h : kpm D A A f) : kpm D (A + 1) 0 f := by
  intro j j0 j1
  refine ⟨(h j j0 j1).1, fun k k0 => ?_⟩
  rw [(h j j0 j1).2 k k0]
  have e : ∀ a b : Int, kpd D A A a b ↔ kpd D (A + 1) 0 a b := fun a b => by
    unfold kpd
    constructor
    · rintro ⟨w1, w2, w3, w4⟩; exact ⟨w1, w2, by omega, w4⟩
    · rintro ⟨w1, w2, w3, w4⟩; exact ⟨w1, w2, by omega, w4⟩
  rw [e, e]
theorem kpm_0 {D : Int → Int → Prop} {f : Int → Int} (h : ∀ j : Int, 0 ≤ j → j < 10 → f j = 0) : kpm D 0 0 f := by
  intro j j0 j1
  rw [h j j0 j1]
  refine ⟨ten_0, fun k k0 => ?_⟩
  rw [tb_zero]
  unfold kpd
  constructor
  · intro w; cases w
  · rintro (⟨w1, w2, w3, w4⟩ | ⟨w1, w2, w3, w4⟩) <;> omega
theorem cl_pair25 {q : Nat × Int × Int × Int × Int} {c s : Nat} {m M : km_Mm} {w : Int} {D : Int → Int → Prop} (hb : kI_book m) (hj : km_jk m M) (hN : kN m M) (hw : ten w) (hD : ∀ a b : Int, D a b ↔ tb w a = true ∧ tb w b = true ∧ kLc m (m 5 3) a b (m 5 2)) {a : Nat} {cc : Int} (a1 : (a : Int) < m 5 1) (c0 : 0 ≤ cc ∧ cc ≤ 100) :
    ∀ (n b : Nat) (f : Int → Int) (o : Option km_V), b + n = a → kpm D a b f →
    ∃ (g : Int → Int) (p : Option km_V), kpm D a a g ∧ ∀ Q : Option km_V → km_Al → km_Mm → Prop, (km_G M_X3_pairCouples 25 [some (.inr (.inr 85)), some (.inl w), some (.inr (.inr 5)), some (.inl (cc + kcnt (D a) b)), some (.inl (a : Int)), some (.inl (b : Int)), o] [] (km_A0 q c s) (km_sr M 90 f) Q ↔ km_G M_X3_pairCouples 25 [some (.inr (.inr 85)), some (.inl w), some (.inr (.inr 5)), some (.inl (cc + kcnt (D a) a)), some (.inl (a : Int)), some (.inl (a : Int)), p] [] (km_A0 q c s) (km_sr M 90 g) Q) := by
  have b1 := hb.1
  intro n
  induction n with
  | zero => intro b f o h k; have e : b = a := by omega
            subst e; exact ⟨f, o, k, fun Q => Iff.rfl⟩
  | succ n ih =>
    intro b f o h k
    have ba : (b : Int) < a := by omega
    have M51 : M 5 1 = m 5 1 := hj 5 1 (by unfold kJ; omega)
    have M52 : M 5 2 = m 5 2 := hj 5 2 (by unfold kJ; omega)
    have kb := @kcnt_b (D a) b
    have bt := ks_bit2 hw (by omega : 0 ≤ (a : Int)) (by omega) (by omega : 0 ≤ (b : Int)) (by omega)
    have cp := fun (f : Int → Int) Q => @cl_couple q c s m M (km_sr M 90 f) a b hb hj hN (fun b h1 h2 => km_sr_of (by omega)) (by rw [km_sr_of (by decide)]) Q
    have eb : ((b + 1 : Nat) : Int) = (b : Int) + 1 := by omega
    by_cases d : D a b
    · obtain ⟨d1, d2, d3⟩ := (hD a b).mp d
      have k' := kpm_yes k d (by omega) ba (by omega)
      obtain ⟨g, p, g1, g2⟩ := ih (b + 1) (km_u1 (km_u1 f a (km_or (f a) (km_shl 1 b))) b (km_or (f b) (km_shl 1 a))) (some (.inl 1)) (by omega) (by rw [eb]; exact k')
      refine ⟨g, p, g1, fun Q => ?_⟩
      rw [← g2 Q, g_X3_pairCouples_25]
      rw [if_pos ⟨d1, d2⟩] at bt
      have ne : ¬ (b : Int) = a := by omega
      have uo : km_u1 f a (km_or (f a) (km_shl 1 b)) b = f b := km_u1_o ne
      have ka := kcnt_yes d
      have aa : cc + (kcnt (D a) b + 1) = cc + kcnt (D a) b + 1 := by omega
      have cpy : @ite Int (kLc m (m 5 3) a b (m 5 2)) (Classical.propDecidable _) 1 0 = 1 := if_pos d3
      simp (config := { decide := true }) (disch := first | decide | assumption | omega | (simp (config := { decide := true }) only [km_sr_sf, km_sr_of, km_up_of, km_up_o, km_upx_i, km_upx_s, km_fl2_o, ne_eq, not_true_eq_false, not_false_eq_true] <;> omega) | fail) only [g_X3_pairCouples, bt, cp, cpy, M52, uo, ka, eb, aa, ka_lt, ka_le, ka_nlt, ka_nle, ka_ne, ka_eq, Int.add_sub_cancel, true_or, or_true, false_or, or_false, false_and, and_false, if_true, if_false, ka_lo, ka_hi, ka_nn, km_sr_sf, km_sr_of, km_up_of, km_sr_us, km_sr_uo, km_sr_sr, km_sr_fl, km_sr_flo, km_up_up, km_up_lt, km_lay, km_unL, km_up_o, km_upx_i, km_upx_s, km_fl2_o, km_is, Option.some.injEq, Sum.inl.injEq, Sum.inr.injEq, Option.toList_some, Option.toList_none, List.cons_append, List.nil_append, ne_eq, true_and, and_true, and_self, not_true_eq_false, not_false_eq_true, true_implies, false_implies, reduceCtorEq]
    · have k' := kpm_no k d
      have ka := kcnt_no d
      by_cases dd : tb w a = true ∧ tb w b = true
      · have d3 : ¬ kLc m (m 5 3) a b (m 5 2) := fun z => d ((hD a b).mpr ⟨dd.1, dd.2, z⟩)
        obtain ⟨g, p, g1, g2⟩ := ih (b + 1) f (some (.inl 1)) (by omega) (by rw [eb]; exact k')
        refine ⟨g, p, g1, fun Q => ?_⟩
        rw [← g2 Q, g_X3_pairCouples_25]
        rw [if_pos dd] at bt
        have cpy : @ite Int (kLc m (m 5 3) a b (m 5 2)) (Classical.propDecidable _) 1 0 = 0 := if_neg d3
        simp (config := { decide := true }) (disch := first | decide | assumption | omega | (simp (config := { decide := true }) only [km_sr_sf, km_sr_of, km_up_of, km_up_o, km_upx_i, km_upx_s, km_fl2_o, ne_eq, not_true_eq_false, not_false_eq_true] <;> omega) | fail) only [g_X3_pairCouples, bt, cp, cpy, M52, ka, eb, ka_lt, ka_le, ka_nlt, ka_nle, ka_ne, ka_eq, Int.add_sub_cancel, true_or, or_true, false_or, or_false, false_and, and_false, if_true, if_false, ka_lo, ka_hi, ka_nn, km_sr_sf, km_sr_of, km_up_of, km_sr_us, km_sr_uo, km_sr_sr, km_sr_fl, km_sr_flo, km_up_up, km_up_lt, km_lay, km_unL, km_up_o, km_upx_i, km_upx_s, km_fl2_o, km_is, Option.some.injEq, Sum.inl.injEq, Sum.inr.injEq, Option.toList_some, Option.toList_none, List.cons_append, List.nil_append, ne_eq, true_and, and_true, and_self, not_true_eq_false, not_false_eq_true, true_implies, false_implies, reduceCtorEq]
      · obtain ⟨g, p, g1, g2⟩ := ih (b + 1) f (some (.inl 0)) (by omega) (by rw [eb]; exact k')
        refine ⟨g, p, g1, fun Q => ?_⟩
        rw [← g2 Q, g_X3_pairCouples_25]
        rw [if_neg dd] at bt
        simp (config := { decide := true }) (disch := first | decide | assumption | omega | (simp (config := { decide := true }) only [km_sr_sf, km_sr_of, km_up_of, km_up_o, km_upx_i, km_upx_s, km_fl2_o, ne_eq, not_true_eq_false, not_false_eq_true] <;> omega) | fail) only [g_X3_pairCouples, bt, ka, eb, ka_lt, ka_le, ka_nlt, ka_nle, ka_ne, ka_eq, Int.add_sub_cancel, true_or, or_true, false_or, or_false, false_and, and_false, if_true, if_false, ka_lo, ka_hi, ka_nn, km_sr_sf, km_sr_of, km_up_of, km_sr_us, km_sr_uo, km_sr_sr, km_sr_fl, km_sr_flo, km_up_up, km_up_lt, km_lay, km_unL, km_up_o, km_upx_i, km_upx_s, km_fl2_o, km_is, Option.some.injEq, Sum.inl.injEq, Sum.inr.injEq, Option.toList_some, Option.toList_none, List.cons_append, List.nil_append, ne_eq, true_and, and_true, and_self, not_true_eq_false, not_false_eq_true, true_implies, false_implies, reduceCtorEq]
theorem ksm_kb {D : Int → Int → Prop} : ∀ (n : Nat), n ≤ 10 → 0 ≤ ksm (fun a => kcnt (D a) a.toNat) n ∧ ksm (fun a => kcnt (D a) a.toNat) n ≤ 9 * n := by
  intro n hn
  exact ksm_b n (fun k k0 k1 => by have := @kcnt_b (D k) k.toNat; omega)
theorem cl_pair13 {q : Nat × Int × Int × Int × Int} {c s : Nat} {m M : km_Mm} {w : Int} {D : Int → Int → Prop} (hb : kI_book m) (hj : km_jk m M) (hN : kN m M) (hw : ten w) (hD : ∀ a b : Int, D a b ↔ tb w a = true ∧ tb w b = true ∧ kLc m (m 5 3) a b (m 5 2)) :
    ∀ (n a : Nat) (f : Int → Int) (o5 o6 : Option km_V), (a : Int) + n = m 5 1 → kpm D a 0 f →
    ∃ (g : Int → Int), kpm D (m 5 1) 0 g ∧ ∀ Q : Option km_V → km_Al → km_Mm → Prop, (km_G M_X3_pairCouples 13 [some (.inr (.inr 85)), some (.inl w), some (.inr (.inr 5)), some (.inl (ksm (fun a => kcnt (D a) a.toNat) a)), some (.inl (a : Int)), o5, o6] [] (km_A0 q c s) (km_sr M 90 f) Q ↔ Q (some (.inl (ksm (fun a => kcnt (D a) a.toNat) (m 5 1).toNat))) (km_A0 q c s) (km_sr M 90 g)) := by
  have b1 := hb.1
  have M51 : M 5 1 = m 5 1 := hj 5 1 (by unfold kJ; omega)
  intro n
  induction n with
  | zero =>
    intro a f o5 o6 h k
    have e : (a : Int) = m 5 1 := by omega
    have e2 : (m 5 1).toNat = a := by omega
    refine ⟨f, by rw [← e]; exact k, fun Q => ?_⟩
    rw [g_X3_pairCouples_13, e2]
    simp (config := { decide := true }) (disch := first | decide | assumption | omega | (simp (config := { decide := true }) only [km_sr_sf, km_sr_of, km_up_of, km_up_o, km_upx_i, km_upx_s, km_fl2_o, ne_eq, not_true_eq_false, not_false_eq_true] <;> omega) | fail) only [g_X3_pairCouples, e, M51, ka_lt, ka_le, ka_nlt, ka_nle, ka_ne, ka_eq, Int.add_sub_cancel, true_or, or_true, false_or, or_false, false_and, and_false, if_true, if_false, ka_lo, ka_hi, ka_nn, km_sr_sf, km_sr_of, km_up_of, km_sr_us, km_sr_uo, km_sr_sr, km_sr_fl, km_sr_flo, km_up_up, km_up_lt, km_lay, km_unL, km_up_o, km_upx_i, km_upx_s, km_fl2_o, km_is, Option.some.injEq, Sum.inl.injEq, Sum.inr.injEq, Option.toList_some, Option.toList_none, List.cons_append, List.nil_append, ne_eq, true_and, and_true, and_self, not_true_eq_false, not_false_eq_true, true_implies, false_implies, reduceCtorEq]
  | succ n ih =>
    intro a f o5 o6 h k
    have kb := @ksm_kb D a (by omega)
    have k0 := @kcnt_b (D a) 0
    have k9 := @kcnt_b (D a) a
    obtain ⟨g, p, g1, g2⟩ := @cl_pair25 q c s m M w D hb hj hN hw hD a (ksm (fun a => kcnt (D a) a.toNat) a) (by omega) (by omega) a 0 f o6 (by omega) k
    have k' := kpm_row g1
    have ea : ((a + 1 : Nat) : Int) = (a : Int) + 1 := by omega
    obtain ⟨z, z1, z2⟩ := ih (a + 1) g (some (.inl (a : Int))) p (by omega) (by rw [ea]; exact k')
    refine ⟨z, z1, fun Q => ?_⟩
    have s1 : ksm (fun a => kcnt (D a) a.toNat) (a + 1) = ksm (fun a => kcnt (D a) a.toNat) a + kcnt (D a) a := by
      show _ + kcnt (D a) (a : Int).toNat = _
      rw [show ((a : Int)).toNat = a by omega]
    have z0 : kcnt (D a) 0 = 0 := rfl
    have g3 := g2 Q
    rw [z0, Int.add_zero] at g3
    have nz : ((0 : Nat) : Int) = 0 := rfl
    rw [nz] at g3
    rw [← z2 Q, g_X3_pairCouples_13, s1, ea]
    simp (config := { decide := true }) (disch := first | decide | assumption | omega | (simp (config := { decide := true }) only [km_sr_sf, km_sr_of, km_up_of, km_up_o, km_upx_i, km_upx_s, km_fl2_o, ne_eq, not_true_eq_false, not_false_eq_true] <;> omega) | fail) only [g_X3_pairCouples, M51, g3, ka_lt, ka_le, ka_nlt, ka_nle, ka_ne, ka_eq, Int.add_sub_cancel, true_or, or_true, false_or, or_false, false_and, and_false, if_true, if_false, ka_lo, ka_hi, ka_nn, km_sr_sf, km_sr_of, km_up_of, km_sr_us, km_sr_uo, km_sr_sr, km_sr_fl, km_sr_flo, km_up_up, km_up_lt, km_lay, km_unL, km_up_o, km_upx_i, km_upx_s, km_fl2_o, km_is, Option.some.injEq, Sum.inl.injEq, Sum.inr.injEq, Option.toList_some, Option.toList_none, List.cons_append, List.nil_append, ne_eq, true_and, and_true, and_self, not_true_eq_false, not_false_eq_true, true_implies, false_implies, reduceCtorEq]
    rw [g_X3_pairCouples_25]
    simp (config := { decide := true }) (disch := first | decide | assumption | omega | (simp (config := { decide := true }) only [km_sr_sf, km_sr_of, km_up_of, km_up_o, km_upx_i, km_upx_s, km_fl2_o, ne_eq, not_true_eq_false, not_false_eq_true] <;> omega) | fail) only [g_X3_pairCouples, ka_lt, ka_le, ka_nlt, ka_nle, ka_ne, ka_eq, Int.le_refl, Int.add_sub_cancel, true_or, or_true, false_or, or_false, false_and, and_false, if_true, if_false, ka_lo, ka_hi, ka_nn, km_sr_sf, km_sr_of, km_up_of, km_sr_us, km_sr_uo, km_sr_sr, km_sr_fl, km_sr_flo, km_up_up, km_up_lt, km_lay, km_unL, km_up_o, km_upx_i, km_upx_s, km_fl2_o, km_is, Option.some.injEq, Sum.inl.injEq, Sum.inr.injEq, Option.toList_some, Option.toList_none, List.cons_append, List.nil_append, ne_eq, true_and, and_true, and_self, not_true_eq_false, not_false_eq_true, true_implies, false_implies, reduceCtorEq]
theorem cl_pairCouples {q : Nat × Int × Int × Int × Int} {c s : Nat} {m M : km_Mm} {w : Int} {D : Int → Int → Prop} (hb : kI_book m) (hj : km_jk m M) (hN : kN m M) (hw : ten w) (hD : ∀ a b : Int, D a b ↔ tb w a = true ∧ tb w b = true ∧ kLc m (m 5 3) a b (m 5 2)) :
    ∃ (g : Int → Int), kpm D (m 5 1) 0 g ∧ ∀ Q : Option km_V → km_Al → km_Mm → Prop, (km_E M_X3_pairCouples [.inr (.inr 85), .inl w, .inr (.inr 5)] (km_A0 q c s) M Q ↔ Q (some (.inl (ksm (fun a => kcnt (D a) a.toNat) (m 5 1).toNat))) (km_A0 q c s) (km_sr M 90 g)) := by
  have b1 := hb.1
  obtain ⟨g, g1, g2⟩ := @cl_pair13 q c s m M w D hb hj hN hw hD (m 5 1).toNat 0 (fun j => if 0 ≤ j ∧ j < 10 then 0 else M 90 j) none none (by omega) (kpm_0 (fun j j0 j1 => if_pos ⟨j0, j1⟩))
  refine ⟨g, g1, fun Q => ?_⟩
  have fr := fun Q => @r_fill q c s M 90 0 10 (by decide) (by simp (config := { decide := true }) only [km_lay, km_unL, km_up_o, km_upx_i, km_upx_s, km_fl2_o, km_is, Option.some.injEq, Sum.inl.injEq, Sum.inr.injEq, Option.toList_some, Option.toList_none, List.cons_append, List.nil_append, ne_eq, true_and, and_true, and_self, not_true_eq_false, not_false_eq_true, true_implies, false_implies, reduceCtorEq]) (by simp (config := { decide := true }) only [km_lay, km_unL, km_up_o, km_upx_i, km_upx_s, km_fl2_o, km_is, Option.some.injEq, Sum.inl.injEq, Sum.inr.injEq, Option.toList_some, Option.toList_none, List.cons_append, List.nil_append, ne_eq, true_and, and_true, and_self, not_true_eq_false, not_false_eq_true, true_implies, false_implies, reduceCtorEq]) (by simp (config := { decide := true }) only [km_lay, km_unL, km_up_o, km_upx_i, km_upx_s, km_fl2_o, km_is, Option.some.injEq, Sum.inl.injEq, Sum.inr.injEq, Option.toList_some, Option.toList_none, List.cons_append, List.nil_append, ne_eq, true_and, and_true, and_self, not_true_eq_false, not_false_eq_true, true_implies, false_implies, reduceCtorEq]) (by decide) Q
  have g3 := g2 Q
  have nz : ((0 : Nat) : Int) = 0 := rfl
  rw [nz, show ksm (fun a => kcnt (D a) a.toNat) 0 = 0 from rfl] at g3
  rw [e_X3_pairCouples]
  simp (config := { decide := true }) (disch := first | decide | assumption | omega | (simp (config := { decide := true }) only [km_sr_sf, km_sr_of, km_up_of, km_up_o, km_upx_i, km_upx_s, km_fl2_o, ne_eq, not_true_eq_false, not_false_eq_true] <;> omega) | fail) only [g_X3_pairCouples, fr, km_fl_sr, g3, Int.add_sub_cancel, true_or, or_true, false_or, or_false, false_and, and_false, if_true, if_false, ka_lo, ka_hi, ka_nn, km_sr_sf, km_sr_of, km_up_of, km_sr_us, km_sr_uo, km_sr_sr, km_sr_fl, km_sr_flo, km_up_up, km_up_lt, km_lay, km_unL, km_up_o, km_upx_i, km_upx_s, km_fl2_o, km_is, Option.some.injEq, Sum.inl.injEq, Sum.inr.injEq, Option.toList_some, Option.toList_none, List.cons_append, List.nil_append, ne_eq, true_and, and_true, and_self, not_true_eq_false, not_false_eq_true, true_implies, false_implies, reduceCtorEq]
theorem cl_move19 {q : Nat × Int × Int × Int × Int} {c s : Nat} {Z : km_Mm} {p : Int} (p0 : 0 ≤ p) (p1 : p < 4) (Q : Option km_V → km_Al → km_Mm → Prop) :
    ∀ (n i : Nat), i + n = 10 → (km_G M_X3_noteMovers 19 [some (.inr (.inr 85)), some (.inr (.inr 102)), some (.inl p), some (.inl (i : Int))] [] (km_A0 q c s) (km_up Z 91 p (kset (fun i => Z 102 i ≠ -1 ∧ Z 102 i ≠ p) i)) Q ↔ km_G M_X3_noteMovers 2 [some (.inr (.inr 85)), some (.inr (.inr 102)), some (.inl (p + 1)), some (.inl 10)] [] (km_A0 q c s) (km_up Z 91 p (kset (fun i => Z 102 i ≠ -1 ∧ Z 102 i ≠ p) 10)) Q) := by
  intro n
  induction n with
  | zero =>
    intro i h
    have e : i = 10 := by omega
    subst e
    rw [g_X3_noteMovers_19, show ((10 : Nat) : Int) = 10 from rfl]
    simp (config := { decide := true }) (disch := first | decide | assumption | omega | (simp (config := { decide := true }) only [km_sr_sf, km_sr_of, km_up_of, km_up_o, km_upx_i, km_upx_s, km_fl2_o, ne_eq, not_true_eq_false, not_false_eq_true] <;> omega) | fail) only [g_X3_noteMovers, ka_lt, ka_le, ka_nlt, ka_nle, ka_ne, ka_eq, Int.add_sub_cancel, true_or, or_true, false_or, or_false, false_and, and_false, if_true, if_false, ka_lo, ka_hi, ka_nn, km_sr_sf, km_sr_of, km_up_of, km_sr_us, km_sr_uo, km_sr_sr, km_sr_fl, km_sr_flo, km_up_up, km_up_lt, km_lay, km_unL, km_up_o, km_upx_i, km_upx_s, km_fl2_o, km_is, Option.some.injEq, Sum.inl.injEq, Sum.inr.injEq, Option.toList_some, Option.toList_none, List.cons_append, List.nil_append, ne_eq, true_and, and_true, and_self, not_true_eq_false, not_false_eq_true, true_implies, false_implies, reduceCtorEq]
  | succ n ih =>
    intro i h
    have i1 := ih (i + 1) (by omega)
    have ei : ((i + 1 : Nat) : Int) = (i : Int) + 1 := by omega
    rw [← i1, g_X3_noteMovers_19, ei]
    by_cases z1 : Z 102 i = -1
    · have ks : kset (fun i => Z 102 i ≠ -1 ∧ Z 102 i ≠ p) (i + 1) = kset (fun i => Z 102 i ≠ -1 ∧ Z 102 i ≠ p) i := kset_no (fun w => w.1 z1)
      simp (config := { decide := true }) (disch := first | decide | assumption | omega | (simp (config := { decide := true }) only [km_sr_sf, km_sr_of, km_up_of, km_up_o, km_upx_i, km_upx_s, km_fl2_o, ne_eq, not_true_eq_false, not_false_eq_true] <;> omega) | fail) only [g_X3_noteMovers, z1, ks, ka_lt, ka_le, ka_nlt, ka_nle, ka_ne, ka_eq, Int.add_sub_cancel, true_or, or_true, false_or, or_false, false_and, and_false, if_true, if_false, ka_lo, ka_hi, ka_nn, km_sr_sf, km_sr_of, km_up_of, km_sr_us, km_sr_uo, km_sr_sr, km_sr_fl, km_sr_flo, km_up_up, km_up_lt, km_lay, km_unL, km_up_o, km_upx_i, km_upx_s, km_fl2_o, km_is, Option.some.injEq, Sum.inl.injEq, Sum.inr.injEq, Option.toList_some, Option.toList_none, List.cons_append, List.nil_append, ne_eq, true_and, and_true, and_self, not_true_eq_false, not_false_eq_true, true_implies, false_implies, reduceCtorEq]
    · by_cases z2 : Z 102 i = p
      · have ks : kset (fun i => Z 102 i ≠ -1 ∧ Z 102 i ≠ p) (i + 1) = kset (fun i => Z 102 i ≠ -1 ∧ Z 102 i ≠ p) i := kset_no (fun w => w.2 z2)
        have z3 : ¬ p = -1 := by omega
        simp (config := { decide := true }) (disch := first | decide | assumption | omega | (simp (config := { decide := true }) only [km_sr_sf, km_sr_of, km_up_of, km_up_o, km_upx_i, km_upx_s, km_fl2_o, ne_eq, not_true_eq_false, not_false_eq_true] <;> omega) | fail) only [g_X3_noteMovers, z2, z3, ks, ka_lt, ka_le, ka_nlt, ka_nle, ka_ne, ka_eq, Int.add_sub_cancel, true_or, or_true, false_or, or_false, false_and, and_false, if_true, if_false, ka_lo, ka_hi, ka_nn, km_sr_sf, km_sr_of, km_up_of, km_sr_us, km_sr_uo, km_sr_sr, km_sr_fl, km_sr_flo, km_up_up, km_up_lt, km_lay, km_unL, km_up_o, km_upx_i, km_upx_s, km_fl2_o, km_is, Option.some.injEq, Sum.inl.injEq, Sum.inr.injEq, Option.toList_some, Option.toList_none, List.cons_append, List.nil_append, ne_eq, true_and, and_true, and_self, not_true_eq_false, not_false_eq_true, true_implies, false_implies, reduceCtorEq]
      · have ks : kset (fun i => Z 102 i ≠ -1 ∧ Z 102 i ≠ p) (i + 1) = km_or (kset (fun i => Z 102 i ≠ -1 ∧ Z 102 i ≠ p) i) (km_shl 1 i) := kset_yes ⟨z1, z2⟩
        simp (config := { decide := true }) (disch := first | decide | assumption | omega | (simp (config := { decide := true }) only [km_sr_sf, km_sr_of, km_up_of, km_up_o, km_upx_i, km_upx_s, km_fl2_o, ne_eq, not_true_eq_false, not_false_eq_true] <;> omega) | fail) only [g_X3_noteMovers, z1, z2, ks, ka_lt, ka_le, ka_nlt, ka_nle, ka_ne, ka_eq, Int.add_sub_cancel, true_or, or_true, false_or, or_false, false_and, and_false, if_true, if_false, ka_lo, ka_hi, ka_nn, km_sr_sf, km_sr_of, km_up_of, km_sr_us, km_sr_uo, km_sr_sr, km_sr_fl, km_sr_flo, km_up_up, km_up_lt, km_lay, km_unL, km_up_o, km_upx_i, km_upx_s, km_fl2_o, km_is, Option.some.injEq, Sum.inl.injEq, Sum.inr.injEq, Option.toList_some, Option.toList_none, List.cons_append, List.nil_append, ne_eq, true_and, and_true, and_self, not_true_eq_false, not_false_eq_true, true_implies, false_implies, reduceCtorEq]
theorem cl_move2 {q : Nat × Int × Int × Int × Int} {c s : Nat} {M : km_Mm} (h4 : 0 ≤ M 85 0 ∧ M 85 0 ≤ 4) :
    ∀ (n p : Nat) (o : Option km_V) (X : km_Mm), (p : Int) + n = M 85 0 → (∀ b j : Int, b ≠ 91 → X b j = M b j) → (∀ r : Int, 0 ≤ r → r < p → X 91 r = kset (fun i => M 102 i ≠ -1 ∧ M 102 i ≠ r) 10) →
    ∃ M' : km_Mm, (∀ b j : Int, b ≠ 91 → M' b j = M b j) ∧ (∀ r : Int, 0 ≤ r → r < M 85 0 → M' 91 r = kset (fun i => M 102 i ≠ -1 ∧ M 102 i ≠ r) 10) ∧ ∀ Q : Option km_V → km_Al → km_Mm → Prop, (km_G M_X3_noteMovers 2 [some (.inr (.inr 85)), some (.inr (.inr 102)), some (.inl (p : Int)), o] [] (km_A0 q c s) X Q ↔ Q none (km_A0 q c s) M') := by
  intro n
  induction n with
  | zero =>
    intro p o X h f1 f2
    refine ⟨X, f1, fun r r0 r1 => f2 r r0 (by omega), fun Q => ?_⟩
    have e : X 85 0 = M 85 0 := f1 _ _ (by decide)
    rw [g_X3_noteMovers_2]
    simp (config := { decide := true }) (disch := first | decide | assumption | omega | (simp (config := { decide := true }) only [km_sr_sf, km_sr_of, km_up_of, km_up_o, km_upx_i, km_upx_s, km_fl2_o, ne_eq, not_true_eq_false, not_false_eq_true] <;> omega) | fail) only [g_X3_noteMovers, e, ka_lt, ka_le, ka_nlt, ka_nle, ka_ne, ka_eq, Int.add_sub_cancel, true_or, or_true, false_or, or_false, false_and, and_false, if_true, if_false, ka_lo, ka_hi, ka_nn, km_sr_sf, km_sr_of, km_up_of, km_sr_us, km_sr_uo, km_sr_sr, km_sr_fl, km_sr_flo, km_up_up, km_up_lt, km_lay, km_unL, km_up_o, km_upx_i, km_upx_s, km_fl2_o, km_is, Option.some.injEq, Sum.inl.injEq, Sum.inr.injEq, Option.toList_some, Option.toList_none, List.cons_append, List.nil_append, ne_eq, true_and, and_true, and_self, not_true_eq_false, not_false_eq_true, true_implies, false_implies, reduceCtorEq]
  | succ n ih =>
    intro p o X h f1 f2
    have e : X 85 0 = M 85 0 := f1 _ _ (by decide)
    have e102 : X 102 = M 102 := funext fun j => f1 102 j (by decide)
    have ei : ((p + 1 : Nat) : Int) = (p : Int) + 1 := by omega
    obtain ⟨M', a1, a2, a3⟩ := ih (p + 1) (some (.inl 10)) (km_up X 91 p (kset (fun i => X 102 i ≠ -1 ∧ X 102 i ≠ p) 10)) (by omega) (fun b j h => by rw [km_up_ne (fun z => h z.1)]; exact f1 b j h) (fun r r0 r1 => by
      by_cases z : r = p
      · rw [km_up_eq ⟨rfl, z⟩, e102, z]
      · rw [km_up_ne (fun w => z w.2)]; exact f2 r r0 (by omega))
    refine ⟨M', a1, a2, fun Q => ?_⟩
    have m19 := @cl_move19 q c s X p (by omega) (by omega) Q 10 0 (by omega)
    have nz : ((0 : Nat) : Int) = 0 := rfl
    rw [nz, show kset (fun i => X 102 i ≠ -1 ∧ X 102 i ≠ (p : Int)) 0 = 0 from rfl] at m19
    rw [← a3 Q, g_X3_noteMovers_2, ei]
    simp (config := { decide := true }) (disch := first | decide | assumption | omega | (simp (config := { decide := true }) only [km_sr_sf, km_sr_of, km_up_of, km_up_o, km_upx_i, km_upx_s, km_fl2_o, ne_eq, not_true_eq_false, not_false_eq_true] <;> omega) | fail) only [g_X3_noteMovers, e, m19, ka_lt, ka_le, ka_nlt, ka_nle, ka_ne, ka_eq, Int.add_sub_cancel, true_or, or_true, false_or, or_false, false_and, and_false, if_true, if_false, ka_lo, ka_hi, ka_nn, km_sr_sf, km_sr_of, km_up_of, km_sr_us, km_sr_uo, km_sr_sr, km_sr_fl, km_sr_flo, km_up_up, km_up_lt, km_lay, km_unL, km_up_o, km_upx_i, km_upx_s, km_fl2_o, km_is, Option.some.injEq, Sum.inl.injEq, Sum.inr.injEq, Option.toList_some, Option.toList_none, List.cons_append, List.nil_append, ne_eq, true_and, and_true, and_self, not_true_eq_false, not_false_eq_true, true_implies, false_implies, reduceCtorEq]
theorem cl_noteMovers {q : Nat × Int × Int × Int × Int} {c s : Nat} {M : km_Mm} (h4 : 0 ≤ M 85 0 ∧ M 85 0 ≤ 4) :
    ∃ M' : km_Mm, (∀ b j : Int, b ≠ 91 → M' b j = M b j) ∧ (∀ r : Int, 0 ≤ r → r < M 85 0 → M' 91 r = kset (fun i => M 102 i ≠ -1 ∧ M 102 i ≠ r) 10) ∧ ∀ Q : Option km_V → km_Al → km_Mm → Prop, (km_E M_X3_noteMovers [.inr (.inr 85), .inr (.inr 102)] (km_A0 q c s) M Q ↔ Q none (km_A0 q c s) M') := by
  obtain ⟨M', a1, a2, a3⟩ := @cl_move2 q c s M h4 (M 85 0).toNat 0 none M (by omega) (fun _ _ _ => rfl) (fun r r0 r1 => by omega)
  refine ⟨M', a1, a2, fun Q => ?_⟩
  have a4 := a3 Q
  rw [show ((0 : Nat) : Int) = 0 from rfl] at a4
  rw [e_X3_noteMovers]
  simp (config := { decide := true }) (disch := first | decide | assumption | omega | (simp (config := { decide := true }) only [km_sr_sf, km_sr_of, km_up_of, km_up_o, km_upx_i, km_upx_s, km_fl2_o, ne_eq, not_true_eq_false, not_false_eq_true] <;> omega) | fail) only [g_X3_noteMovers, a4, Int.add_sub_cancel, true_or, or_true, false_or, or_false, false_and, and_false, if_true, if_false, ka_lo, ka_hi, ka_nn, km_sr_sf, km_sr_of, km_up_of, km_sr_us, km_sr_uo, km_sr_sr, km_sr_fl, km_sr_flo, km_up_up, km_up_lt, km_lay, km_unL, km_up_o, km_upx_i, km_upx_s, km_fl2_o, km_is, Option.some.injEq, Sum.inl.injEq, Sum.inr.injEq, Option.toList_some, Option.toList_none, List.cons_append, List.nil_append, ne_eq, true_and, and_true, and_self, not_true_eq_false, not_false_eq_true, true_implies, false_implies, reduceCtorEq]

