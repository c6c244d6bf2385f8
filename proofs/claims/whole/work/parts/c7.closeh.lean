/-! ===== the bracket of a HEAP closes ===== -/
/-- pieces carried over where one knot w, neither settled nor waiting, is settled -/
theorem kpieces_cg {X Y X1 Y1 : km_Mm} {P ln a0 z w : Int} {N : Int → Prop} {k : Nat} {E H O : Int} (hw : kwn Y N z k) (nN : ¬ N w) (nw : ∀ j : Int, 0 ≤ j → j < k → Y 144 j ≠ w) (hX : ∀ r j : Int, 1 ≤ r → r ≤ 4 → a0 ≤ j → j < E → X1 (P + r) j = X (P + r) j) (h9 : ∀ k : Int, 0 ≤ k → tb (X P 9) k = true → tb (X1 P 9) k = true) (h38 : ∀ j : Int, 0 ≤ j → j < k → X1 38 j = X 38 j ∧ X1 39 j = X 39 j) (hY : ∀ r x : Int, 138 ≤ r → r ≤ 141 → x ≠ w → Y1 r x = Y r x) (hYw : ∀ j : Int, 0 ≤ j → j < k → Y1 143 j = Y 143 j ∧ Y1 144 j = Y 144 j) (h145 : ∀ j : Int, 0 ≤ j → j < H → Y1 145 j = Y 145 j) (h146 : ∀ j : Int, 0 ≤ j → j < O → Y1 146 j = Y 146 j) :
    (∀ (g : Nat) (fl n a b u : Int), a0 ≤ a → b ≤ E → kcd X Y P ln N g fl n a b u → kcd X1 Y1 P ln (fun x => N x ∨ x = w) g fl n a b u) ∧ ∀ (h e o t : Int), h ≤ H → e ≤ E → o ≤ O → kcx X Y P ln N a0 k h e o 0 t → kcx X1 Y1 P ln (fun x => N x ∨ x = w) a0 k h e o 0 t := by
  have hN : ∀ x, N x → (N x ∨ x = w) ∧ ∀ r : Int, 138 ≤ r → r ≤ 141 → Y1 r x = Y r x := fun x hx => ⟨Or.inl hx, fun r r1 r2 => hY r x r1 r2 (fun u => nN (by rw [← u]; exact hx))⟩
  refine ⟨fun g fl n a b u la lb cd => kcd_cg (lo := a0) (hi := E) hX h9 hN g fl n a b u la lb cd, fun h e o t lh le lo cx => ?_⟩
  refine kcx_cg (K := k) (H := H) (E := E) (O := O) hX h9 hN (fun j j0 j1 => ⟨(h38 j j0 j1).1, (h38 j j0 j1).2, (hYw j j0 j1).1, (hYw j j0 j1).2, fun _ r r1 r2 => hY r _ r1 (by omega) (nw j j0 j1)⟩) h145 h146 k h e o 0 t (Int.le_refl _) lh le lo (fun z => absurd rfl z) (fun j j0 j1 hj => ?_) cx
  rcases hw.2.1 j j0 j1 with u | u
  · exact absurd u.1 hj
  · omega
/-- what the bracket of a HEAP that closes writes in the class -/
theorem kC_f {P w d a e o : Int} {U : km_Mm} (hP : P = 40 ∨ P = 46) (h4 : U P 4 = e) (W : km_Mm) (hW : W = km_up (km_up (km_up (km_up (kEm P w 0 (km_up U 37 9 d)) (P + 4) a (e + 1)) 37 13 0) 37 10 o) 37 4 2) : (∀ b j : Int, ¬ (b = P ∧ j = 4) → ¬ (P + 1 ≤ b ∧ b ≤ P + 4) → ¬ (b = 37 ∧ (j = 4 ∨ j = 9 ∨ j = 10 ∨ j = 13)) → W b j = U b j) ∧ (W 37 4 = 2 ∧ W 37 9 = d ∧ W 37 10 = o ∧ W 37 13 = 0) ∧ W P 4 = e + 1 ∧ (∀ r j : Int, 1 ≤ r → r ≤ 4 → j ≠ e → ¬ (r = 4 ∧ j = a) → W (P + r) j = U (P + r) j) ∧ W (P + 4) a = e + 1 ∧ W (P + 1) e = w := by
  subst hW
  have k4 : km_up U 37 9 d P 4 = e := by rw [km_up_o (by omega)]; exact h4
  refine ⟨fun b j h1 h2 h3 => ?_, ⟨km_upx_s, ?_, ?_, ?_⟩, ?_, fun r j r1 r2 hj hr => ?_, ?_, ?_⟩
  · rw [km_up_ne (by omega), km_up_ne (by omega), km_up_ne (by omega), km_up_ne (by omega)]
    by_cases z : b = P
    · rw [z, kEm_P, if_neg (by omega), km_up_o (by omega)]
    · rw [kEm_o z (by omega) (by omega) (by omega) (by omega), km_up_ne (by omega)]
  · rw [km_upx_i (by decide), km_upx_i (by decide), km_upx_i (by decide), km_up_o (by omega), kEm_o (by omega) (by omega) (by omega) (by omega) (by omega), km_upx_s]
  · rw [km_upx_i (by decide), km_upx_s]
  · rw [km_upx_i (by decide), km_upx_i (by decide), km_upx_s]
  · rw [km_up_o (by omega), km_up_o (by omega), km_up_o (by omega), km_up_o (by omega), kEm_P, if_pos rfl, k4]
  · rw [km_up_o (by omega), km_up_o (by omega), km_up_o (by omega), km_up_ne (by omega)]
    obtain ⟨v1, v2, v3, v4, -⟩ := @kEm_r P w 0 j (km_up U 37 9 d)
    rw [k4] at v1 v2 v3 v4
    have rr : r = 1 ∨ r = 2 ∨ r = 3 ∨ r = 4 := by omega
    rcases rr with rfl | rfl | rfl | rfl
    · rw [v1, if_neg hj, km_up_o (by omega)]
    · rw [v2, if_neg hj, km_up_o (by omega)]
    · rw [v3, if_neg hj, km_up_o (by omega)]
    · rw [v4, if_neg hj, km_up_o (by omega)]
  · rw [km_up_o (by omega), km_up_o (by omega), km_up_o (by omega), km_upx_s]
  · have v := (@kEm_r P w 0 e (km_up U 37 9 d)).1
    rw [k4, if_pos rfl] at v
    rw [km_up_o (by omega), km_up_o (by omega), km_up_o (by omega), km_up_o (by omega), v]
/-- and in the reference, g 139 or 140 -/
theorem kD_f {g d w x o y : Int} {U : km_Mm} (hg : g = 139 ∨ g = 140) {h : Int} (h41 : U 123 41 = h) (V : km_Mm) (hV : V = km_up (km_up (km_up (kHo w (km_up (kDr (km_up U 123 39 d)) g w x)) 123 44 0) 123 43 o) 123 45 y) : (∀ b j : Int, ¬ (b = 123 ∧ (j = 39 ∨ j = 41 ∨ j = 43 ∨ j = 44 ∨ j = 45)) → ¬ (b = g ∧ j = w) → ¬ (b = 145 ∧ j = h - 1) → V b j = U b j) ∧ V 123 39 = d ∧ V 123 41 = h ∧ V 123 43 = o ∧ V 123 44 = 0 ∧ V 123 45 = y ∧ V g w = x ∧ V 145 (h - 1) = w := by
  subst hV
  have e41 : km_up (kDr (km_up U 123 39 d)) g w x 123 41 = h - 1 := by rw [km_up_o (by omega), kDr_41, km_upx_i (by decide), h41]
  unfold kHo
  rw [e41]
  refine ⟨fun b j h1 h2 h3 => ?_, ?_, ?_, ?_, ?_, km_upx_s, ?_, ?_⟩
  · rw [km_up_ne (by omega), km_up_ne (by omega), km_up_ne (by omega), km_up_ne (by omega), km_up_ne (by omega), km_up_ne (by omega), kDr_o (by omega), km_up_ne (by omega)]
  · rw [km_upx_i (by decide), km_upx_i (by decide), km_upx_i (by decide), km_upx_i (by decide), km_up_o (by decide), km_up_o (by omega), kDr_o (by omega), km_upx_s]
  · rw [km_upx_i (by decide), km_upx_i (by decide), km_upx_i (by decide), km_upx_s]; omega
  · rw [km_upx_i (by decide), km_upx_s]
  · rw [km_upx_i (by decide), km_upx_i (by decide), km_upx_s]
  · rw [km_up_o (by omega), km_up_o (by omega), km_up_o (by omega), km_up_o (by omega), km_up_o (by omega), km_upx_s]
  · rw [km_up_o (by decide), km_up_o (by decide), km_up_o (by decide), km_up_o (by decide), km_upx_s]

