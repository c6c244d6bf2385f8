/-! ===== the frames of the small steps ===== -/
section PF
variable {P a0 : Int} {X Z : km_Mm} {N : Int → Prop} {Y M : km_Mm}
theorem kFX_rf : kFX P a0 X X := ⟨fun _ _ _ _ _ _ _ _ => rfl, fun _ _ _ _ _ => rfl, fun _ _ h => h⟩
theorem kFY_rf : kFY N Y Y := ⟨fun _ _ _ _ _ => rfl, fun _ _ _ _ _ => rfl, fun _ _ _ _ _ => rfl, fun _ _ _ _ h => h⟩
theorem kFX_Z (hP : P = 40 ∨ P = 46) (h : ∀ b j : Int, ¬ (b = 3 ∧ 3 ≤ j ∧ j ≤ 6) → Z b j = X b j) : kFX P a0 X Z := ⟨fun b j a _ _ _ _ _ => h b j a, fun r j a b _ => h _ _ (by omega), fun k _ hk => by rw [h P 9 (by omega)]; exact hk⟩
theorem kFX_37 (hP : P = 40 ∨ P = 46) {j v : Int} (hj : j = 4 ∨ j = 6 ∨ (9 ≤ j ∧ j ≤ 14)) : kFX P a0 X (km_up X 37 j v) := ⟨fun b i _ a _ _ _ _ => km_up_ne (fun w => a ⟨w.1, by rw [w.2]; exact hj⟩), fun r i a b _ => km_up_ne (by omega), fun k _ hk => by rw [km_up_ne (by omega)]; exact hk⟩
theorem kFX_38 (hP : P = 40 ∨ P = 46) {b j v : Int} (hb : b = 38 ∨ b = 39) : kFX P a0 X (km_up X b j v) := ⟨fun b' i _ _ a1 a2 _ _ => km_up_ne (by omega), fun r i a b _ => km_up_ne (by omega), fun k _ hk => by rw [km_up_ne (by omega)]; exact hk⟩
theorem kFX_P (hP : P = 40 ∨ P = 46) {j v : Int} (hj : j = 4 ∨ j = 8) : kFX P a0 X (km_up X P j v) := ⟨fun b' i _ _ _ _ a _ => km_up_ne (by omega), fun r i a b _ => km_up_ne (by omega), fun k _ hk => by rw [km_up_ne (by omega)]; exact hk⟩
theorem kFX_row (hP : P = 40 ∨ P = 46) {r j v : Int} (hr : 1 ≤ r ∧ r ≤ 4) (hj : a0 ≤ j) : kFX P a0 X (km_up X (P + r) j v) := ⟨fun b' i _ _ _ _ _ a => km_up_ne (by omega), fun r i a b c => km_up_ne (by omega), fun k _ hk => by rw [km_up_ne (by omega)]; exact hk⟩
theorem kFX_9 (hP : P = 40 ∨ P = 46) {v : Int} (hv : ∀ k : Int, 0 ≤ k → tb (X P 9) k = true → tb v k = true) : kFX P a0 X (km_up X P 9 v) := ⟨fun b' i _ _ _ _ a _ => km_up_ne (by omega), fun r i a b _ => km_up_ne (by omega), fun k k0 hk => by rw [km_upx_s]; exact hv k k0 hk⟩
theorem kFX_kTi (hP : P = 40 ∨ P = 46) : kFX P a0 X (kTi P X) := kFX_P hP (Or.inr rfl)
theorem kFX_kXo (hP : P = 40 ∨ P = 46) {w : Int} : kFX P a0 X (kXo w X) := kFX_tr (kFX_37 hP (by omega)) (kFX_37 hP (by omega))
theorem kFX_kFa (hP : P = 40 ∨ P = 46) {f : Int} : kFXl P a0 X (kFa f X) := by
  have e : ∀ b j : Int, ¬ (b = 37 ∧ (j = 2 ∨ j = 3)) → kFa f X b j = X b j := fun b j h => by unfold kFa; rw [km_up_ne (by omega), km_up_ne (by omega)]
  exact ⟨fun b j _ a _ _ _ _ => e b j (by omega), fun r j a b _ => e _ j (by omega), fun k _ hk => by rw [e P 9 (by omega)]; exact hk⟩
theorem kFX_kKw (hP : P = 40 ∨ P = 46) {x y : Int} : kFX P a0 X (kKw x y X) := kFX_tr (kFX_tr (kFX_38 hP (Or.inl rfl)) (kFX_38 hP (Or.inr rfl))) (kFX_37 hP (by omega))
theorem kFX_kEm (hP : P = 40 ∨ P = 46) {x y : Int} (h : a0 ≤ X P 4) : kFX P a0 X (kEm P x y X) := kFX_tr (kFX_tr (kFX_tr (kFX_tr (kFX_row hP (by omega) h) (kFX_row hP (by omega) h)) (kFX_row hP (by omega) h)) (kFX_row hP (by omega) h)) (kFX_P hP (Or.inl rfl))
theorem kFX_of {X' : km_Mm} (hP : P = 40 ∨ P = 46) (h : kfX P a0 X X') : kFX P a0 X X' := ⟨fun b j _ a _ _ d e => h.1 b j (by omega) (by omega) (by omega), h.2, fun k _ hk => by rw [h.1 P 9 (by omega) (by omega) (by omega)]; exact hk⟩
theorem kFY_M (h : ∀ b j : Int, ¬ (b = 123 ∧ 26 ≤ j ∧ j ≤ 29) → M b j = Y b j) : kFY N Y M := ⟨fun b j a _ _ => h b j (by omega), fun r j a b _ => h r j (by omega), fun x _ r a b => h r x (by omega), fun r x _ _ hr => by rw [h r x (by omega)]; exact hr⟩
theorem kFY_123 {j v : Int} (hj : (26 ≤ j ∧ j ≤ 29) ∨ j = 36 ∨ j = 39 ∨ j = 41 ∨ (43 ≤ j ∧ j ≤ 47)) : kFY N Y (km_up Y 123 j v) := ⟨fun b i a _ _ => km_up_ne (fun w => a ⟨w.1, by rw [w.2]; exact hj⟩), fun r i a b _ => km_up_ne (by omega), fun x _ r a b => km_up_ne (by omega), fun r x _ _ hr => by rw [km_up_ne (by omega)]; exact hr⟩
theorem kFY_143 {b j v : Int} (hb : 143 ≤ b ∧ b ≤ 146) : kFY N Y (km_up Y b j v) := ⟨fun b' i _ _ a => km_up_ne (by omega), fun r i a b _ => km_up_ne (by omega), fun x _ r a b => km_up_ne (by omega), fun r x _ _ hr => by rw [km_up_ne (by omega)]; exact hr⟩
theorem kFY_138 {b w v : Int} (hb : 138 ≤ b ∧ b ≤ 141) (hw : 120 ≤ w) (hN : ¬ N w) (hv : b = 139 ∨ b = 140 → v < 240) : kFY N Y (km_up Y b w v) := ⟨fun b' i _ a _ => km_up_ne (by omega), fun r i a b c => km_up_ne (by omega), fun x hx r a b => km_up_ne (fun u => hN (by rw [← u.2]; exact hx)), fun r x _ _ hr => by
  by_cases z : r = b ∧ x = w
  · rw [z.1, z.2, km_upx_s]; exact hv (by omega)
  · rw [km_up_ne z]; exact hr⟩
theorem kFY_id (hN : ∀ x, N x → N x) : True := trivial
theorem kFY_kWr {f : Int} : kFYl N Y (kWr f Y) := by
  have e : ∀ b j : Int, ¬ (b = 123 ∧ (j = 23 ∨ j = 24)) → kWr f Y b j = Y b j := fun b j h => by unfold kWr; rw [km_up_ne (by omega), km_up_ne (by omega)]
  exact ⟨fun b j a _ _ => e b j (by omega), fun r j a b _ => e _ j (by omega), fun x _ r a b => e r x (by omega), fun r x _ _ hr => by rw [e r x (by omega)]; exact hr⟩
theorem kFY_kHo {x : Int} : kFY N Y (kHo x Y) := kFY_tr (fun _ h => h) (kFY_143 (by omega)) (kFY_123 (by omega))
theorem kFY_kDr : kFY N Y (kDr Y) := kFY_123 (by omega)
theorem kFY_kWf {x y : Int} : kFY N Y (kWf x y Y) := kFY_tr (fun _ h => h) (kFY_tr (fun _ h => h) (kFY_143 (by omega)) (kFY_143 (by omega))) (kFY_123 (by omega))
theorem kFY_kOb {x y : Int} : kFY N Y (kOb x y Y) := kFY_tr (fun _ h => h) (kFY_tr (fun _ h => h) (kFY_tr (fun _ h => h) (kFY_tr (fun _ h => h) kFY_kWf (kFY_143 (by omega))) (kFY_123 (by omega))) (kFY_123 (by omega))) (kFY_123 (by omega))
theorem kFY_kGr {x y : Int} (h : 0 ≤ Y 123 36) (hN : ¬ N (120 + Y 123 36)) : kFY N Y (kGr x y Y) := kFY_tr (fun _ h => h) (kFY_tr (fun _ h => h) (kFY_tr (fun _ h => h) (kFY_tr (fun _ h => h) (kFY_123 (by omega)) (kFY_138 (by omega) (by omega) hN (by omega))) (kFY_138 (by omega) (by omega) hN (by omega))) (kFY_138 (by omega) (by omega) hN (by omega))) (kFY_138 (by omega) (by omega) hN (by omega))
theorem kFY_of {k : Nat} {Y' : km_Mm} (h : kfY N k Y Y') : kFY N Y Y' := by
  obtain ⟨h1, h2, h3, h4⟩ := h
  have go : ∀ r x : Int, 138 ≤ r → r ≤ 141 → (N x ∨ x < 120) → Y' r x = Y r x := fun r x a b hx => by
    by_cases z : r = 139
    · rw [z]; exact (h2 x hx).1
    · by_cases y : r = 140
      · rw [y]; exact (h2 x hx).2
      · exact h1 r x (by omega) z y (by omega)
  exact ⟨fun b j a d e => h1 b j (by omega) (by omega) (by omega) (by omega), fun r j a b c => go r j a b (Or.inr c), fun x hx r a b => go r x a b (Or.inl hx), h4⟩
end PF
/-! tokens as the reference has them -/
theorem ktk_0 {v kd w : Int} (h : ktk 0 v kd w) : kd = 0 := by unfold ktk at h; omega
theorem ktk_1 {v kd w : Int} (h : ktk 1 v kd w) : kd = 4 := by unfold ktk at h; omega
theorem ktk_2 {v kd w : Int} (h : ktk 2 v kd w) : kd = 2 ∧ kdq v w := by
  unfold ktk at h
  rcases h with ⟨a, _⟩ | ⟨a, _⟩ | ⟨_, b, d⟩ | ⟨a, _⟩ | ⟨_, a⟩
  · omega
  · omega
  · exact ⟨b, d⟩
  · omega
  · omega
theorem ktk_w {T v kd w : Int} (hT : 20 ≤ T ∧ T ≤ 46) (h : ktk T v kd w) : kd = 1 ∧ w = kww T := by
  unfold ktk at h
  rcases h with ⟨a, _⟩ | ⟨a, _⟩ | ⟨a, _⟩ | ⟨_, b, d⟩ | ⟨_, a⟩
  · omega
  · omega
  · omega
  · exact ⟨b, d⟩
  · omega
/-- a sign as the reference numbers it -/
def ksw (T : Int) : Int := if T = 3 then 59 else if T = 4 then 40 else if T = 5 then 41 else if T = 6 then 16 else if T = 7 then 17 else if T = 8 then 18 else if T = 9 then 19 else if T = 10 then 20 else if T = 11 then 10 else if T = 14 then 11 else if T = 12 then 12 else if T = 16 then 13 else if T = 13 then 14 else 15
theorem ktk_s {T v kd w : Int} (hT : 3 ≤ T ∧ T ≤ 16) (h : ktk T v kd w) : kd = 3 ∧ w = ksw T := by
  unfold ktk at h
  rcases h with ⟨a, _⟩ | ⟨a, _⟩ | ⟨a, _⟩ | ⟨a, _⟩ | ⟨b, d⟩
  · omega
  · omega
  · omega
  · omega
  · refine ⟨b, ?_⟩
    rcases d with d | d | d | d | d | d | d | d | d | d | d | d | d | d <;> rw [d.1, d.2] <;> rfl
/-- which tokens there are -/
theorem kcT_b {B : Int → Int} {n k : Int} : (n ≤ k ∧ kcT B n k = 0) ∨ (k < n ∧ ((1 ≤ kcT B n k ∧ kcT B n k ≤ 16) ∨ (20 ≤ kcT B n k ∧ kcT B n k ≤ 46))) := by
  unfold kcT
  by_cases z : n ≤ k
  · rw [if_pos z]; exact Or.inl ⟨z, rfl⟩
  · rw [if_neg z]
    refine Or.inr ⟨by omega, ?_⟩
    by_cases a : 97 ≤ B k ∧ B k ≤ 122
    · rw [if_pos a]
      rcases kwt_kwr (B := B) (kle_b (B := B) (n := n) 600 k (by omega)).1 with ⟨w1, _⟩ | ⟨w1, _⟩ <;> omega
    · rw [if_neg a]
      by_cases b : 48 ≤ B k ∧ B k ≤ 57
      · rw [if_pos b]; omega
      · rw [if_neg b]
        unfold ksgn
        have := @km_six_b (B k)
        repeat' split
        all_goals omega
theorem kTk_p {X Y : km_Mm} {B : Int → Int} {n p : Int} (h : kTk X Y B n p) (hT : kcT B n (ksk B n 600 p) ≠ 0) : p + 1 ≤ kcN B n (ksk B n 600 p) ∧ kcN B n (ksk B n 600 p) ≤ n := by
  obtain ⟨⟨_, _, _, p0, pn⟩, _⟩ := h
  have a := ksk_b (B := B) (n := n) 600 p pn
  have b := kcN_b (B := B) (n := n) a.2.1
  rcases kcT_b (B := B) (n := n) (k := ksk B n 600 p) with u | u
  · exact absurd u.2 hT
  · have := b.2.2 u.1; omega
theorem kEnd_flt {q qY : Nat × Int × Int × Int × Int} {c s : Nat} {P ln a0 z0 : Int} {B : Int → Int} {n : Int} {u : Int} {N : Int → Prop} {i f κ : Int} {X Y W V : km_Mm} {G : (Option km_V → km_Al → km_Mm → Prop) → Prop} (hP : P = 40 ∨ P = 46) (hf : f ≠ 0) (fx : kFX P a0 X W) (hW : W 3 5 = κ) (fy : kFY N Y V) (hV : V 123 29 = κ) (hX : ∀ Q : Option km_V → km_Al → km_Mm → Prop, km_G M_X7_parse 52 [some (.inr (.inr 37)), some (.inl n), some (.inr (.inr u)), some (.inl i)] [] (km_A0 q c s) X Q ↔ Q none (km_A0 q c s) (kFa f W)) (hG : ∀ Q, G Q ↔ Q (some (.inl (-1))) (km_A0 qY c s) (kWr f V)) : kEnd q qY c s P ln a0 z0 B n u N i X Y G := by
  refine ⟨kFa f W, kWr f V, kFXl_tr (kFXl_of fx) (kFX_kFa hP), kFYl_tr (fun _ h => h) (kFYl_of fy) kFY_kWr, Or.inl ⟨f, hf, ?_, ?_, ?_, hX, hG⟩⟩
  · unfold kFa; rw [km_upx_i (by decide), km_upx_s]
  · unfold kWr; rw [km_upx_i (by decide), km_upx_s]
  · unfold kFa kWr; rw [km_upx_s, km_upx_s, hW, hV]

