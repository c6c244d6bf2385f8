/-! ===== release and bind keep what stands ===== -/
theorem kB1_f {k w : Int} {Y : km_Mm} : (∀ b j : Int, ¬ (b = 123 ∧ (j = 39 ∨ j = 41)) → ¬ (b = 139 ∧ j = w) → ¬ (b = 145 ∧ j = Y 123 41 - 1) → kB1 k w Y b j = Y b j) ∧ kB1 k w Y 123 39 = k ∧ kB1 k w Y 123 41 = Y 123 41 ∧ kB1 k w Y 139 w = Y 145 (Y 123 41 - 1) ∧ kB1 k w Y 145 (Y 123 41 - 1) = w := by
  unfold kB1 kHo
  have e41 : ∀ v, km_up (kDr (km_up Y 123 39 k)) 139 w v 123 41 = Y 123 41 - 1 := fun v => by rw [km_up_o (by decide), kDr_41, km_upx_i (by decide)]
  rw [e41]
  refine ⟨fun b j h1 h2 h3 => ?_, ?_, ?_, ?_, ?_⟩
  · rw [km_up_ne (by omega), km_up_ne h3, km_up_ne h2, kDr_o (by omega), km_up_ne (by omega)]
  · rw [km_upx_i (by decide), km_up_o (by decide), km_up_o (by decide), kDr_o (by omega), km_upx_s]
  · rw [km_upx_s]; omega
  · rw [km_up_o (by decide), km_up_o (by decide), km_upx_s]
  · rw [km_up_o (by decide), km_upx_s]
theorem kB2_f {k w : Int} {Y : km_Mm} : (∀ b j : Int, ¬ (b = 123 ∧ (j = 39 ∨ j = 41)) → ¬ ((b = 139 ∨ b = 140) ∧ j = w) → ¬ (b = 145 ∧ j = Y 123 41 - 2) → kB2 k w Y b j = Y b j) ∧ kB2 k w Y 123 39 = k ∧ kB2 k w Y 123 41 = Y 123 41 - 1 ∧ kB2 k w Y 139 w = Y 145 (Y 123 41 - 2) ∧ kB2 k w Y 140 w = Y 145 (Y 123 41 - 1) ∧ kB2 k w Y 145 (Y 123 41 - 2) = w := by
  unfold kB2 kHo
  have e41 : ∀ v u, km_up (kDr (km_up (kDr (km_up Y 123 39 k)) 140 w v)) 139 w u 123 41 = Y 123 41 - 2 := fun v u => by rw [km_up_o (by decide), kDr_41, km_up_o (by decide), kDr_41, km_upx_i (by decide)]; omega
  rw [e41]
  refine ⟨fun b j h1 h2 h3 => ?_, ?_, ?_, ?_, ?_, ?_⟩
  · rw [km_up_ne (by omega), km_up_ne h3, km_up_ne (by omega), kDr_o (by omega), km_up_ne (by omega), kDr_o (by omega), km_up_ne (by omega)]
  · rw [km_upx_i (by decide), km_up_o (by decide), km_up_o (by decide), kDr_o (by omega), km_up_o (by decide), kDr_o (by omega), km_upx_s]
  · rw [km_upx_s]; omega
  · rw [km_up_o (by decide), km_up_o (by decide), km_upx_s]
  · rw [km_up_o (by decide), km_up_o (by decide), km_up_o (by decide), kDr_o (by omega), km_upx_s]
  · rw [km_up_o (by decide), km_upx_s]
theorem kfX_rf {P a0 : Int} {X : km_Mm} : kfX P a0 X X := ⟨fun _ _ _ _ _ => rfl, fun _ _ _ _ _ => rfl⟩
theorem kfX_tr {P a0 : Int} {X X1 X2 : km_Mm} (h1 : kfX P a0 X X1) (h2 : kfX P a0 X1 X2) : kfX P a0 X X2 := ⟨fun b j a b' c => (h2.1 b j a b' c).trans (h1.1 b j a b' c), fun r j a b c => (h2.2 r j a b c).trans (h1.2 r j a b c)⟩
theorem kfY_rf {N : Int → Prop} {k : Nat} {Y : km_Mm} : kfY N k Y Y := ⟨fun _ _ _ _ _ _ => rfl, fun _ _ => ⟨rfl, rfl⟩, fun _ _ _ _ => ⟨rfl, rfl⟩, fun _ _ _ _ h => h⟩
theorem kfY_tr {N N1 : Int → Prop} {k k1 : Nat} {Y Y1 Y2 : km_Mm} (hk : k ≤ k1) (hN : ∀ x, N x → N1 x) (h1 : kfY N k1 Y Y1) (h2 : kfY N1 k Y1 Y2) : kfY N k Y Y2 := by
  obtain ⟨a1, a2, a3, a4⟩ := h1
  obtain ⟨b1, b2, b3, b4⟩ := h2
  refine ⟨fun b j z1 z2 z3 z4 => (b1 b j z1 z2 z3 z4).trans (a1 b j z1 z2 z3 z4), fun x hx => ⟨(b2 x (hx.imp (hN x) id)).1.trans (a2 x hx).1, (b2 x (hx.imp (hN x) id)).2.trans (a2 x hx).2⟩, fun j j0 j1 hj => ?_, fun r x r1 r2 h => b4 r x r1 r2 (a4 r x r1 r2 h)⟩
  have e3 : Y1 143 j = Y 143 j := a1 143 j (by omega) (by decide) (by decide) (by decide)
  have e4 : Y1 144 j = Y 144 j := a1 144 j (by omega) (by decide) (by decide) (by decide)
  have c := b3 j j0 j1 (by rw [e3]; exact hj)
  rw [e4] at c
  have d := a3 j j0 (by omega) hj
  exact ⟨c.1.trans d.1, c.2.trans d.2⟩
theorem kxS_ksg {w : Int} (h : 10 ≤ w ∧ w ≤ 20) : kxS (ksg w) = kwg w ∧ ksg w ≠ 24 ∧ ksg w ≠ 25 ∧ kwg w = (if 18 ≤ w then 6 else if 16 ≤ w then 5 else 4) := by
  have e : w = 10 ∨ w = 11 ∨ w = 12 ∨ w = 13 ∨ w = 14 ∨ w = 15 ∨ w = 16 ∨ w = 17 ∨ w = 18 ∨ w = 19 ∨ w = 20 := by omega
  rcases e with rfl | rfl | rfl | rfl | rfl | rfl | rfl | rfl | rfl | rfl | rfl <;> decide
theorem kB_rng {Y Y1 : km_Mm} {w : Int} (g : ∀ b j : Int, ¬ (b = 123 ∧ (j = 39 ∨ j = 41)) → ¬ ((b = 139 ∨ b = 140) ∧ j = w) → b ≠ 145 → Y1 b j = Y b j) (h9 : Y1 139 w < 240) (h0 : Y1 140 w = Y 140 w ∨ Y1 140 w < 240) : ∀ r x : Int, 139 ≤ r → r ≤ 140 → Y r x < 240 → Y1 r x < 240 := fun r x r1 r2 h => by
  by_cases z : x = w
  · have rr : r = 139 ∨ r = 140 := by omega
    rcases rr with rfl | rfl
    · rw [z]; exact h9
    · rw [z] at h ⊢
      rcases h0 with h0 | h0
      · rw [h0]; exact h
      · exact h0
  · rw [g r x (by omega) (by omega) (by omega)]; exact h
/-- the popped knot is settled, those that wait below it stay -/
theorem kwn_pop {Y Y1 : km_Mm} {N : Int → Prop} {z w : Int} {k : Nat} (h : kwn Y N z (k + 1)) (hw : Y 144 k = w) (h1 : Y 143 k ≠ 100) (e3 : ∀ j : Int, Y1 143 j = Y 143 j) (e4 : ∀ j : Int, Y1 144 j = Y 144 j) : kwn Y1 (fun x => N x ∨ x = w) z k ∧ (120 ≤ w ∧ w < z) ∧ ¬ N w ∧ ∀ j : Int, 0 ≤ j → j < k → Y 144 j ≠ w := by
  obtain ⟨a1, a2, a3⟩ := h
  have c := (a2 k (by omega) (by omega)).resolve_left (fun u => h1 u.1)
  rw [hw] at c
  have ne : ∀ j : Int, 0 ≤ j → j < k → Y 144 j ≠ w := fun j j0 j1 => by
    rcases a2 j j0 (by omega) with u | u
    · omega
    · have := a3 j k j0 (by omega) (by omega) u.1 h1; omega
  refine ⟨⟨fun x hx => ?_, fun j j0 j1 => ?_, fun i j i0 ij jk => ?_⟩, c.2.1, c.2.2, ne⟩
  · rcases hx with hx | hx
    · exact a1 x hx
    · rw [hx]; exact c.2.1
  · rw [e3, e4]
    rcases a2 j j0 (by omega) with u | u
    · exact Or.inl u
    · exact Or.inr ⟨u.1, u.2.1, fun v => v.elim u.2.2 (ne j j0 j1)⟩
  · rw [e3, e3, e4, e4]; exact a3 i j i0 ij (by omega)
theorem sim_bind {q qY : Nat × Int × Int × Int × Int} {c s : Nat} {P ln a0 o hb z lc lr : Int} (hP : kPq q P) (hl : 1 ≤ lr ∧ 1 ≤ lc) (hz : z ≤ 240) (ha : 0 ≤ a0) : ∀ (k : Nat) (X Y : km_Mm) (N : Int → Prop) (h e t : Int) (o1 o2 : Option km_V), k ≤ 128 → X 37 9 = k → Y 123 39 = k → Y 123 41 = h → X P 4 = e → a0 + 3 * t ≤ 366 → kOp X Y P ln N a0 k h e o hb t → kwn Y N z k → (lc = lr ∨ (lc = 5 ∧ lr = 4 ∧ khc (Y 143) k = 0)) →
    ∃ (X' Y' : km_Mm) (N' : Int → Prop) (k' : Nat) (h' e' : Int), k' ≤ k ∧ X' 37 9 = k' ∧ Y' 123 39 = k' ∧ Y' 123 41 = h' ∧ X' P 4 = e' ∧ kOp X' Y' P ln N' a0 k' h' e' o hb t ∧ kwn Y' N' z k' ∧ (∀ x, N x → N' x) ∧ kfX P a0 X X' ∧ kfY N k' Y Y' ∧ (k' = 0 ∨ 100 ≤ Y 143 ((k' : Int) - 1) ∨ kwg (Y 143 ((k' : Int) - 1)) < lr) ∧ (5 ≤ lc → khc (Y 143) k' = khc (Y 143) k) ∧ (∀ Q : Option km_V → km_Al → km_Mm → Prop, km_G M_X7_release 5 [some (.inr (.inr 37)), some (.inl lc), some (.inl (k : Int)), o1] [] (km_A0 q c s) X Q ↔ Q none (km_A0 q c s) X') ∧ (∀ Q : Option km_V → km_Al → km_Mm → Prop, km_G M_X12_bind 0 [some (.inr (.inr 123)), some (.inl lr), o2] [] (km_A0 qY c s) Y Q ↔ Q none (km_A0 qY c s) Y') := by
  intro k
  have hPo := hP.1
  induction k with
  | zero =>
    intro X Y N h e t o1 o2 k128 hX hY h41 h4 h3 hop hw hlr
    refine ⟨X, Y, N, 0, h, e, Nat.le_refl _, hX, hY, h41, h4, hop, hw, fun _ hx => hx, kfX_rf, kfY_rf, Or.inl rfl, fun _ => rfl, fun Q => ?_, fun Q => ?_⟩
    · exact cl_relS (by omega) (Or.inl (by omega)) Q
    · exact md_bindS hY (by omega) (Or.inl (by omega)) Q
  | succ k ih =>
    intro X Y N h e t o1 o2 k128 hX hY h41 h4 h3 hop hw hlr
    have ek : ((k + 1 : Nat) : Int) = (k : Int) + 1 := by omega
    have ek1 : ((k + 1 : Nat) : Int) - 1 = (k : Int) := by omega
    have stop : Unit → (100 ≤ Y 143 k ∨ kwg (Y 143 k) < lr) → kxS (X 38 k) < lc → ∃ (X' Y' : km_Mm) (N' : Int → Prop) (k' : Nat) (h' e' : Int), k' ≤ k + 1 ∧ X' 37 9 = k' ∧ Y' 123 39 = k' ∧ Y' 123 41 = h' ∧ X' P 4 = e' ∧ kOp X' Y' P ln N' a0 k' h' e' o hb t ∧ kwn Y' N' z k' ∧ (∀ x, N x → N' x) ∧ kfX P a0 X X' ∧ kfY N k' Y Y' ∧ (k' = 0 ∨ 100 ≤ Y 143 ((k' : Int) - 1) ∨ kwg (Y 143 ((k' : Int) - 1)) < lr) ∧ (5 ≤ lc → khc (Y 143) k' = khc (Y 143) (k + 1)) ∧ (∀ Q : Option km_V → km_Al → km_Mm → Prop, km_G M_X7_release 5 [some (.inr (.inr 37)), some (.inl lc), some (.inl ((k + 1 : Nat) : Int)), o1] [] (km_A0 q c s) X Q ↔ Q none (km_A0 q c s) X') ∧ (∀ Q : Option km_V → km_Al → km_Mm → Prop, km_G M_X12_bind 0 [some (.inr (.inr 123)), some (.inl lr), o2] [] (km_A0 qY c s) Y Q ↔ Q none (km_A0 qY c s) Y') := fun _ s1 s2 => by
      refine ⟨X, Y, N, k + 1, h, e, Nat.le_refl _, hX, hY, h41, h4, hop, hw, fun _ hx => hx, kfX_rf, kfY_rf, Or.inr (by rw [ek1]; exact s1), fun _ => rfl, fun Q => ?_, fun Q => ?_⟩
      · exact cl_relS (by omega) (Or.inr (by rw [ek1]; exact s2)) Q
      · exact md_bindS hY (by omega) (Or.inr (by rw [ek1]; exact s1)) Q
    obtain ⟨h1, a, f, t1, cv, cx⟩ := id hop
    have bv := kcd_b _ _ _ _ _ _ cv
    have bx := kcx_b _ _ _ _ _ _ cx
    have hkc : khc (Y 143) (k + 1) = if Y 143 k = 7 ∨ (16 ≤ Y 143 k ∧ Y 143 k ≤ 20) then khc (Y 143) k else if 10 ≤ Y 143 k ∧ Y 143 k ≤ 15 then 1 else 0 := rfl
    -- one entry put out
    have go : ∀ (X1 Y1 : km_Mm) (w h' : Int) (st : Int), Y 144 k = w → Y 143 k ≠ 100 → X1 37 9 = k → Y1 123 39 = k → Y1 123 41 = h' → X1 P 4 = e + 1 → kfX P a0 X X1 →
        (∀ b j : Int, ¬ (b = 123 ∧ (j = 39 ∨ j = 41)) → ¬ ((b = 139 ∨ b = 140) ∧ j = w) → b ≠ 145 → Y1 b j = Y b j) → kOp X1 Y1 P ln (fun x => N x ∨ x = w) a0 k h' (e + 1) o hb t → (5 ≤ lc → khc (Y 143) k = khc (Y 143) (k + 1)) → (lc = lr ∨ khc (Y 143) k = khc (Y 143) (k + 1)) →
        (∀ Q : Option km_V → km_Al → km_Mm → Prop, km_G M_X7_release 5 [some (.inr (.inr 37)), some (.inl lc), some (.inl ((k : Int) + 1)), o1] [] (km_A0 q c s) X Q ↔ km_G M_X7_release 5 [some (.inr (.inr 37)), some (.inl lc), some (.inl (k : Int)), some (.inl st)] [] (km_A0 q c s) X1 Q) → (∀ Q : Option km_V → km_Al → km_Mm → Prop, km_G M_X12_bind 0 [some (.inr (.inr 123)), some (.inl lr), o2] [] (km_A0 qY c s) Y Q ↔ km_G M_X12_bind 0 [some (.inr (.inr 123)), some (.inl lr), some (.inl w)] [] (km_A0 qY c s) Y1 Q) → (∀ r x : Int, 139 ≤ r → r ≤ 140 → Y r x < 240 → Y1 r x < 240) →
        ∃ (X' Y' : km_Mm) (N' : Int → Prop) (k' : Nat) (h' e' : Int), k' ≤ k + 1 ∧ X' 37 9 = k' ∧ Y' 123 39 = k' ∧ Y' 123 41 = h' ∧ X' P 4 = e' ∧ kOp X' Y' P ln N' a0 k' h' e' o hb t ∧ kwn Y' N' z k' ∧ (∀ x, N x → N' x) ∧ kfX P a0 X X' ∧ kfY N k' Y Y' ∧ (k' = 0 ∨ 100 ≤ Y 143 ((k' : Int) - 1) ∨ kwg (Y 143 ((k' : Int) - 1)) < lr) ∧ (5 ≤ lc → khc (Y 143) k' = khc (Y 143) (k + 1)) ∧ (∀ Q : Option km_V → km_Al → km_Mm → Prop, km_G M_X7_release 5 [some (.inr (.inr 37)), some (.inl lc), some (.inl ((k + 1 : Nat) : Int)), o1] [] (km_A0 q c s) X Q ↔ Q none (km_A0 q c s) X') ∧ (∀ Q : Option km_V → km_Al → km_Mm → Prop, km_G M_X12_bind 0 [some (.inr (.inr 123)), some (.inl lr), o2] [] (km_A0 qY c s) Y Q ↔ Q none (km_A0 qY c s) Y') := by
      intro X1 Y1 w h' st hwk h100 x9 y39 y41 x4 fx fy op kc5 kcl rX rY rng
      have e3 : ∀ j : Int, Y1 143 j = Y 143 j := fun j => fy 143 j (by omega) (by omega) (by decide)
      have e4 : ∀ j : Int, Y1 144 j = Y 144 j := fun j => fy 144 j (by omega) (by omega) (by decide)
      obtain ⟨w1, w2, w3, w4⟩ := kwn_pop hw hwk h100 e3 e4
      have e3f : Y1 143 = Y 143 := funext e3
      obtain ⟨X', Y', N', k', h2, e2, r1, r2, r3, r4, r5, r6, r7, r8, r9, ra, rb, rc, rd, re⟩ := ih X1 Y1 (fun x => N x ∨ x = w) h' (e + 1) t (some (.inl st)) (some (.inl w)) (by omega) x9 y39 y41 x4 h3 op w1 (by
        rcases hlr with u | ⟨u1, u2, u3⟩
        · exact Or.inl u
        · refine Or.inr ⟨u1, u2, ?_⟩
          rw [e3f]
          rcases kcl with v | v
          · omega
          · rw [v]; exact u3)
      rw [e3f] at rb rc
      refine ⟨X', Y', N', k', h2, e2, by omega, r2, r3, r4, r5, r6, r7, fun x hx => r8 x (Or.inl hx), kfX_tr fx r9, kfY_tr (k1 := k) r1 (fun x hx => Or.inl hx) ⟨fun b j z1 z2 z3 z4 => fy b j z1 (by omega) z4, fun x hx => ⟨fy 139 x (by omega) (fun u => hx.elim (fun hx => w3 (by rw [← u.2]; exact hx)) (fun hx => by omega)) (by decide), fy 140 x (by omega) (fun u => hx.elim (fun hx => w3 (by rw [← u.2]; exact hx)) (fun hx => by omega)) (by decide)⟩, fun j j0 j1 hj => ⟨fy 139 _ (by omega) (fun u => w4 j j0 j1 u.2) (by decide), fy 140 _ (by omega) (fun u => w4 j j0 j1 u.2) (by decide)⟩, rng⟩ ra, rb, fun u => (rc u).trans (kc5 u), fun Q => ?_, fun Q => ?_⟩
      · rw [ek, rX Q, rd Q]
      · rw [rY Q, re Q]
    have hne : ∀ j : Int, 0 ≤ j → j < k → Y 143 j ≠ 100 → Y 144 j ≠ -1 := fun j j0 j1 hj => by
      rcases hw.2.1 j j0 (by omega) with u | u
      · exact absurd u.1 hj
      · omega
    have hw240 : Y 143 k ≠ 100 → (0 ≤ Y 144 k ∧ Y 144 k < 240) ∧ ¬ N (Y 144 k) := fun hj => by
      rcases hw.2.1 k (by omega) (by omega) with u | u
      · exact absurd u.1 hj
      · exact ⟨by omega, u.2.2⟩
    have nw : Y 143 k ≠ 100 → ∀ j : Int, 0 ≤ j → j < k → Y 144 j ≠ Y 144 k := fun hj => (kwn_pop hw rfl hj (fun _ => rfl) (fun _ => rfl)).2.2.2
    have h300 : h ≤ 300 := by omega
    -- the pieces carried over to the cells behind one entry
    have carry : ∀ (X1 Y1 : km_Mm) (w E H : Int), Y 144 k = w → Y 143 k ≠ 100 → kfX P a0 X X1 → (∀ r j : Int, 1 ≤ r → r ≤ 4 → a0 ≤ j → j < E → X1 (P + r) j = X (P + r) j) → (∀ b j : Int, ¬ (b = 123 ∧ (j = 39 ∨ j = 41)) → ¬ ((b = 139 ∨ b = 140) ∧ j = w) → b ≠ 145 → Y1 b j = Y b j) → (∀ j : Int, 0 ≤ j → j < H → Y1 145 j = Y 145 j) →
        (∀ (g : Nat) (fl n a b u : Int), a0 ≤ a → b ≤ E → kcd X Y P ln N g fl n a b u → kcd X1 Y1 P ln (fun x => N x ∨ x = w) g fl n a b u) ∧ (∀ h e o hb t : Int, h ≤ H → e ≤ E → kcx X Y P ln N a0 k h e o hb t → kcx X1 Y1 P ln (fun x => N x ∨ x = w) a0 k h e o hb t) := by
      intro X1 Y1 w E H hwk h100 fx fe fy fh
      have nN := (hw240 h100).2
      rw [hwk] at nN
      have x9 : X1 P 9 = X P 9 := fx.1 P 9 (by omega) (by omega) (by omega)
      have hN : ∀ x, N x → (N x ∨ x = w) ∧ ∀ r : Int, 138 ≤ r → r ≤ 141 → Y1 r x = Y r x := fun x hx => ⟨Or.inl hx, fun r r1 r2 => fy r x (by omega) (fun u => nN (by rw [← u.2]; exact hx)) (by omega)⟩
      refine ⟨fun g fl n a b u la lb cd => kcd_cg (lo := a0) (hi := E) fe (fun k _ hk => by rw [x9]; exact hk) hN g fl n a b u la lb cd, fun h e o hb t lh le cx => ?_⟩
      refine kcx_cg (K := k) (H := H) (E := E) (O := o) fe (fun k _ hk => by rw [x9]; exact hk) hN (fun j j0 j1 => ⟨fx.1 38 j (by omega) (by omega) (by omega), fx.1 39 j (by omega) (by omega) (by omega), fy 143 j (by omega) (by omega) (by decide), fy 144 j (by omega) (by omega) (by decide), fun hj r r1 r2 => fy r _ (by omega) (fun u => ?_) (by omega)⟩) fh (fun j j0 j1 => fy 146 j (by omega) (by omega) (by decide)) k h e o hb t (Int.le_refl _) lh le (Int.le_refl _) (fun _ => ⟨fx.1 37 11 (by omega) (by omega) (by omega), fx.1 37 12 (by omega) (by omega) (by omega), fx.1 37 14 (by omega) (by omega) (by omega)⟩) hne cx
      have := nw h100 j j0 j1
      rw [hwk] at this
      exact this u.2
    rcases cx with ⟨c0, c1, cx⟩ | ⟨c0, c1, cx⟩ | ⟨c0, c1, c2, c3, c4, cx⟩ | ⟨c0, c1, c2, c3, f2, t2, c4, cx⟩ | ⟨c0, c1, c2, c3, a2, f2, t2, c4, cx⟩ | ⟨c0, c1, c2, c3, c4, a2, f2, t2, c5, cx⟩
    · -- a sign ahead
      have h100 : Y 143 k ≠ 100 := by omega
      have kw : kwg (Y 143 k) = (if Y 143 k = 7 then 7 else 3) ∧ kxS (X 38 k) = kwg (Y 143 k) := by
        rcases c0 with ⟨u1, u2⟩ | ⟨u1, u2⟩ <;> rw [u1, u2] <;> decide
      by_cases p : lr ≤ kwg (Y 143 k)
      · have pc : lc ≤ kxS (X 38 k) := by
          rw [kw.2]
          rcases hlr with u | ⟨u1, u2, u3⟩
          · omega
          · have := kw.1
            split at this <;> omega
        have st : X 38 k ≠ 24 ∧ X 38 k ≠ 25 := by omega
        have rX := fun Q => @cl_rel1 q c s X P lc (X 38 k) k o1 hP (by omega) (by omega) rfl st pc (by omega) Q
        have rY := fun Q => @md_bind1 qY c s Y lr k (Y 144 k) (Y 143 k) o2 (by omega) (by omega) (by omega) rfl (by omega) rfl (hw240 h100).1 p (by omega) Q
        obtain ⟨g1, g2, g3, g4, g5⟩ := @kB1_f k (Y 144 k) Y
        rw [h41] at g1 g3 g4 g5
        have fx : kfX P a0 X (kEm P (X 38 k) 0 (km_up X 37 9 k)) := ⟨fun b j z1 z2 z3 => by
            by_cases bP : b = P
            · subst bP; rw [kEm_P, if_neg (by omega), km_up_o (by omega)]
            · rw [kEm_o bP (by omega) (by omega) (by omega) (by omega), km_up_ne (by omega)], fun r j r1 r4 ja => by
            obtain ⟨v1, v2, v3, v4, -⟩ := @kEm_r P (X 38 k) 0 j (km_up X 37 9 k)
            have s4 : km_up X 37 9 k P 4 = e := by rw [km_up_o (by omega)]; exact h4
            have rr : r = 1 ∨ r = 2 ∨ r = 3 ∨ r = 4 := by omega
            rcases rr with rfl | rfl | rfl | rfl
            · rw [v1, s4, if_neg (by omega), km_up_o (by omega)]
            · rw [v2, s4, if_neg (by omega), km_up_o (by omega)]
            · rw [v3, s4, if_neg (by omega), km_up_o (by omega)]
            · rw [v4, s4, if_neg (by omega), km_up_o (by omega)]⟩
        have fe : ∀ r j : Int, 1 ≤ r → r ≤ 4 → a0 ≤ j → j < e → kEm P (X 38 k) 0 (km_up X 37 9 k) (P + r) j = X (P + r) j := fun r j r1 r4 ja je => by
            obtain ⟨v1, v2, v3, v4, -⟩ := @kEm_r P (X 38 k) 0 j (km_up X 37 9 k)
            have s4 : km_up X 37 9 k P 4 = e := by rw [km_up_o (by omega)]; exact h4
            have rr : r = 1 ∨ r = 2 ∨ r = 3 ∨ r = 4 := by omega
            rcases rr with rfl | rfl | rfl | rfl
            · rw [v1, s4, if_neg (by omega), km_up_o (by omega)]
            · rw [v2, s4, if_neg (by omega), km_up_o (by omega)]
            · rw [v3, s4, if_neg (by omega), km_up_o (by omega)]
            · rw [v4, s4, if_neg (by omega), km_up_o (by omega)]
        have x1 : kEm P (X 38 k) 0 (km_up X 37 9 k) (P + 1) e = X 38 k := by
            rw [(@kEm_r P (X 38 k) 0 e (km_up X 37 9 k)).1, if_pos (by rw [km_up_o (by omega)]; exact h4.symm)]
        obtain ⟨cd, cc⟩ := carry (kEm P (X 38 k) 0 (km_up X 37 9 k)) (kB1 k (Y 144 k) Y) (Y 144 k) e (h - 1) rfl h100 fx fe (fun b j z1 z2 z3 => g1 b j z1 (by omega) (by omega)) (fun j j0 j1 => g1 145 j (by omega) (by omega) (by omega))
        refine go _ _ (Y 144 k) h (X 38 k) rfl h100 ?_ g2 g3 ?_ fx (fun b j z1 z2 z3 => g1 b j z1 (by omega) (by omega)) ⟨h1, a, f + 1, t1 + 1, ⟨Or.inr g5, Or.inr (Or.inr (Or.inl ⟨?_, ?_⟩))⟩, ?_⟩ ?_ ?_ rX rY (kB_rng (w := Y 144 k) (fun b j z1 z2 z3 => g1 b j z1 (by omega) (by omega)) (by rw [g4]; have := hw.1 _ bv.2.2.2; omega) (Or.inl (g1 140 (Y 144 k) (by omega) (by omega) (by omega))))
        · rw [kEm_o (by omega) (by omega) (by omega) (by omega) (by omega), km_upx_s]
        · rw [kEm_P, if_pos rfl, km_up_o (by omega), h4]
        · rw [g5, g1 138 _ (by omega) (by omega) (by omega), c1, show e + 1 - 1 = e by omega, x1]; exact c0
        · rw [g5, g4, show e + 1 - 1 = e by omega, show t1 + 1 - 1 = t1 by omega]
          exact cd _ _ _ _ _ _ (by have := kcx_b _ _ _ _ _ _ cx; omega) (Int.le_refl _) cv
        · rw [show t - (t1 + 1) = t - t1 - 1 by omega]
          exact cc _ _ _ _ _ (Int.le_refl _) (by omega) cx
        · intro u
          rw [hkc]
          have := kw.1
          rw [kw.2] at pc
          split at this
          · next v => rw [if_pos (Or.inl v)]
          · omega
        · rcases hlr with u | ⟨u1, u2, u3⟩
          · exact Or.inl u
          · right
            rw [hkc]
            have := kw.1
            split at this
            · next v => rw [if_pos (Or.inl v)]
            · omega
      · refine stop () (Or.inr (by omega)) ?_
        rw [kw.2]
        rcases hlr with u | ⟨u1, u2, u3⟩ <;> omega
    · refine stop () (Or.inl (by omega)) ?_
      rw [c0.2.1]; show (0 : Int) < lc; omega
    · refine stop () (Or.inl (by omega)) ?_
      rw [c1.1]; show (0 : Int) < lc; omega
    · refine stop () (Or.inl (by omega)) ?_
      rw [c0.2.1]; show (0 : Int) < lc; omega
    · -- a sign between
      have h100 : Y 143 k ≠ 100 := by omega
      obtain ⟨kg1, kg2, kg3, kg4⟩ := kxS_ksg c0
      rw [← c1] at kg1 kg2 kg3
      have bv2 := kcd_b _ _ _ _ _ _ c4
      have bx2 := kcx_b _ _ _ _ _ _ cx
      by_cases p : lr ≤ kwg (Y 143 k)
      · have nc : lc = lr ∨ 16 ≤ Y 143 k := by
          rcases hlr with u | ⟨u1, u2, u3⟩
          · exact Or.inl u
          · right
            rw [hkc] at u3
            by_cases v : 16 ≤ Y 143 k
            · exact v
            · rw [if_neg (by omega), if_pos (by omega)] at u3; omega
        have pc : lc ≤ kxS (X 38 k) := by
          rw [kg1]
          rcases nc with u | u
          · omega
          · rcases hlr with u | ⟨u1, u2, u3⟩
            · omega
            · rw [kg4]; split <;> (try split) <;> omega
        have rX := fun Q => @cl_rel1 q c s X P lc (X 38 k) k o1 hP (by omega) (by omega) rfl ⟨kg2, kg3⟩ pc (by omega) Q
        have rY := fun Q => @md_bind2 qY c s Y lr k (Y 144 k) (Y 143 k) o2 (by omega) (by omega) (by omega) rfl (by omega) rfl (hw240 h100).1 p (by omega) Q
        obtain ⟨g1, g2, g3, g4, g5, g6⟩ := @kB2_f k (Y 144 k) Y
        rw [h41] at g1 g3 g4 g5 g6
        have fe : ∀ r j : Int, 1 ≤ r → r ≤ 4 → j < e → kEm P (X 38 k) 0 (km_up X 37 9 k) (P + r) j = X (P + r) j := fun r j r1 r4 je => by
            obtain ⟨v1, v2, v3, v4, -⟩ := @kEm_r P (X 38 k) 0 j (km_up X 37 9 k)
            have s4 : km_up X 37 9 k P 4 = e := by rw [km_up_o (by omega)]; exact h4
            have rr : r = 1 ∨ r = 2 ∨ r = 3 ∨ r = 4 := by omega
            rcases rr with rfl | rfl | rfl | rfl
            · rw [v1, s4, if_neg (by omega), km_up_o (by omega)]
            · rw [v2, s4, if_neg (by omega), km_up_o (by omega)]
            · rw [v3, s4, if_neg (by omega), km_up_o (by omega)]
            · rw [v4, s4, if_neg (by omega), km_up_o (by omega)]
        have fx : kfX P a0 X (kEm P (X 38 k) 0 (km_up X 37 9 k)) := ⟨fun b j z1 z2 z3 => by
            by_cases bP : b = P
            · subst bP; rw [kEm_P, if_neg (by omega), km_up_o (by omega)]
            · rw [kEm_o bP (by omega) (by omega) (by omega) (by omega), km_up_ne (by omega)], fun r j r1 r4 ja => fe r j r1 r4 (by omega)⟩
        have x1 : kEm P (X 38 k) 0 (km_up X 37 9 k) (P + 1) e = X 38 k := by
            rw [(@kEm_r P (X 38 k) 0 e (km_up X 37 9 k)).1, if_pos (by rw [km_up_o (by omega)]; exact h4.symm)]
        obtain ⟨cd, cc⟩ := carry (kEm P (X 38 k) 0 (km_up X 37 9 k)) (kB2 k (Y 144 k) Y) (Y 144 k) e (h - 2) rfl h100 fx (fun r j r1 r4 _ je => fe r j r1 r4 je) (fun b j z1 z2 z3 => g1 b j z1 (by omega) (by omega)) (fun j j0 j1 => g1 145 j (by omega) (by omega) (by omega))
        have hh2 : h - 1 - 1 = h - 2 := by omega
        rw [hh2] at c4 cx
        refine go _ _ (Y 144 k) (h - 1) (X 38 k) rfl h100 ?_ g2 g3 ?_ fx (fun b j z1 z2 z3 => g1 b j z1 (by omega) (by omega)) ⟨by omega, a2, (f + f2) + 1, t1 + t2 + 1, ⟨Or.inr (by rw [hh2]; exact g6), Or.inr (Or.inr (Or.inr (Or.inr (Or.inl ⟨?_, ?_, a, t2, t1, by omega, ?_, ?_⟩))))⟩, ?_⟩ ?_ ?_ rX rY (kB_rng (w := Y 144 k) (fun b j z1 z2 z3 => g1 b j z1 (by omega) (by omega)) (by rw [g4]; have := hw.1 _ (kcd_b _ _ _ _ _ _ c4).2.2.2; omega) (Or.inr (by rw [g5]; have := hw.1 _ bv.2.2.2; omega)))
        · rw [kEm_o (by omega) (by omega) (by omega) (by omega) (by omega), km_upx_s]
        · rw [kEm_P, if_pos rfl, km_up_o (by omega), h4]
        · rw [hh2, g6, g1 138 _ (by omega) (by omega) (by omega), c2]; exact c0
        · rw [hh2, g6, g1 138 _ (by omega) (by omega) (by omega), c2, show e + 1 - 1 = e by omega, x1]; exact c1
        · rw [hh2, g6, g4]
          exact kcd_le (Nat.le_add_left _ _) (cd _ _ _ _ _ _ (by omega) (by omega) c4)
        · rw [hh2, g6, g5, show e + 1 - 1 = e by omega]
          exact kcd_le (Nat.le_add_right _ _) (cd _ _ _ _ _ _ (by omega) (Int.le_refl _) cv)
        · rw [hh2, show t - (t1 + t2 + 1) = t - t1 - 1 - t2 by omega]
          exact cc _ _ _ _ _ (Int.le_refl _) (by omega) cx
        · intro u
          rw [hkc]
          rw [kg1, kg4] at pc
          rw [if_pos (Or.inr (by split at pc <;> (try split at pc) <;> omega))]
        · rcases nc with u | u
          · exact Or.inl u
          · right; rw [hkc, if_pos (Or.inr ⟨u, c0.2⟩)]
      · refine stop () (Or.inr (by omega)) ?_
        rw [kg1]
        rcases hlr with u | ⟨u1, u2, u3⟩
        · omega
        · omega
    · -- and, or
      have h100 : Y 143 k ≠ 100 := by omega
      have kw : kwg (Y 143 k) ≤ 2 ∧ kxS (X 38 k) = kwg (Y 143 k) ∧ (X 38 k = 24 ∨ X 38 k = 25) := by
        rcases c0 with ⟨u1, u2⟩ | ⟨u1, u2⟩ <;> rw [u1, u2] <;> decide
      have bv2 := kcd_b _ _ _ _ _ _ c5
      have bx2 := kcx_b _ _ _ _ _ _ cx
      by_cases p : lr ≤ kwg (Y 143 k)
      · have pl : lc = lr := by
          rcases hlr with u | ⟨u1, u2, u3⟩
          · exact u
          · omega
        have rX := fun Q => @cl_rel2 q c s X P lc (X 38 k) k o1 hP (by omega) (by omega) rfl kw.2.2 (by omega) (by omega) (by rw [c2]; omega) Q
        have rY := fun Q => @md_bind2 qY c s Y lr k (Y 144 k) (Y 143 k) o2 (by omega) (by omega) (by omega) rfl (by omega) rfl (hw240 h100).1 p (by omega) Q
        obtain ⟨g1, g2, g3, g4, g5, g6⟩ := @kB2_f k (Y 144 k) Y
        rw [h41] at g1 g3 g4 g5 g6
        rw [c2, h4] at rX
        have s4 : km_up X 37 9 k P 4 = e := by rw [km_up_o (by omega)]; exact h4
        have fe : ∀ r j : Int, 1 ≤ r → r ≤ 4 → j < e → ¬ (r = 2 ∧ j = a - 1) → km_up (kEm P 51 0 (km_up X 37 9 k)) (P + 2) (a - 1) (e + 1) (P + r) j = X (P + r) j := fun r j r1 r4 je nj => by
            obtain ⟨v1, v2, v3, v4, -⟩ := @kEm_r P 51 0 j (km_up X 37 9 k)
            have rr : r = 1 ∨ r = 2 ∨ r = 3 ∨ r = 4 := by omega
            rcases rr with rfl | rfl | rfl | rfl
            · rw [km_up_ne (by omega), v1, s4, if_neg (by omega), km_up_o (by omega)]
            · rw [km_up_ne (by omega), v2, s4, if_neg (by omega), km_up_o (by omega)]
            · rw [km_up_ne (by omega), v3, s4, if_neg (by omega), km_up_o (by omega)]
            · rw [km_up_ne (by omega), v4, s4, if_neg (by omega), km_up_o (by omega)]
        have fx : kfX P a0 X (km_up (kEm P 51 0 (km_up X 37 9 k)) (P + 2) (a - 1) (e + 1)) := ⟨fun b j z1 z2 z3 => by
            rw [km_up_ne (by omega)]
            by_cases bP : b = P
            · subst bP; rw [kEm_P, if_neg (by omega), km_up_o (by omega)]
            · rw [kEm_o bP (by omega) (by omega) (by omega) (by omega), km_up_ne (by omega)], fun r j r1 r4 ja => fe r j r1 r4 (by omega) (by omega)⟩
        have x1 : km_up (kEm P 51 0 (km_up X 37 9 k)) (P + 2) (a - 1) (e + 1) (P + 1) e = 51 := by
            rw [km_up_ne (by omega), (@kEm_r P 51 0 e (km_up X 37 9 k)).1, if_pos s4.symm]
        have x2 : km_up (kEm P 51 0 (km_up X 37 9 k)) (P + 2) (a - 1) (e + 1) (P + 2) (a - 1) = e + 1 := km_upx_s
        have x3 : km_up (kEm P 51 0 (km_up X 37 9 k)) (P + 2) (a - 1) (e + 1) (P + 1) (a - 1) = X 38 k := by
            rw [fe 1 (a - 1) (by decide) (by decide) (by omega) (by omega)]; exact c3
        -- the value on top: steps from a on
        obtain ⟨cdT, -⟩ := carry (km_up (kEm P 51 0 (km_up X 37 9 k)) (P + 2) (a - 1) (e + 1)) (kB2 k (Y 144 k) Y) (Y 144 k) (a - 1) (h - 2) rfl h100 fx (fun r j r1 r4 _ je => fe r j r1 r4 (by omega) (by omega)) (fun b j z1 z2 z3 => g1 b j z1 (by omega) (by omega)) (fun j j0 j1 => g1 145 j (by omega) (by omega) (by omega))
        obtain ⟨-, cc⟩ := carry (km_up (kEm P 51 0 (km_up X 37 9 k)) (P + 2) (a - 1) (e + 1)) (kB2 k (Y 144 k) Y) (Y 144 k) (a - 1) (h - 2) rfl h100 fx (fun r j r1 r4 _ je => fe r j r1 r4 (by omega) (by omega)) (fun b j z1 z2 z3 => g1 b j z1 (by omega) (by omega)) (fun j j0 j1 => g1 145 j (by omega) (by omega) (by omega))
        have nN := (hw240 h100).2
        have x9 : km_up (kEm P 51 0 (km_up X 37 9 k)) (P + 2) (a - 1) (e + 1) P 9 = X P 9 := fx.1 P 9 (by omega) (by omega) (by omega)
        have cv' := kcd_cg (X' := km_up (kEm P 51 0 (km_up X 37 9 k)) (P + 2) (a - 1) (e + 1)) (Y' := kB2 k (Y 144 k) Y) (N' := fun x => N x ∨ x = Y 144 k) (lo := a) (hi := e) (fun r j r1 r4 ja je => fe r j r1 r4 je (by omega)) (fun k _ hk => by rw [x9]; exact hk) (fun x hx => ⟨Or.inl hx, fun r r1 r2 => g1 r x (by omega) (fun u => nN (by rw [← u.2]; exact hx)) (by omega)⟩) _ _ _ _ _ _ (Int.le_refl _) (Int.le_refl _) cv
        have hh2 : h - 1 - 1 = h - 2 := by omega
        rw [hh2] at c5 cx
        refine go _ _ (Y 144 k) (h - 1) (X 38 k) rfl h100 ?_ g2 g3 ?_ fx (fun b j z1 z2 z3 => g1 b j z1 (by omega) (by omega)) ⟨by omega, a2, (f + f2) + 1, t1 + t2 + 1, ⟨Or.inr (by rw [hh2]; exact g6), Or.inr (Or.inr (Or.inr (Or.inl ⟨a - 1, t2, t1, ?_, by omega, ?_, x2, ?_, ?_⟩)))⟩, ?_⟩ ?_ ?_ rX rY (kB_rng (w := Y 144 k) (fun b j z1 z2 z3 => g1 b j z1 (by omega) (by omega)) (by rw [g4]; have := hw.1 _ (kcd_b _ _ _ _ _ _ c5).2.2.2; omega) (Or.inr (by rw [g5]; have := hw.1 _ bv.2.2.2; omega)))
        · rw [km_up_ne (by omega), kEm_o (by omega) (by omega) (by omega) (by omega) (by omega), km_upx_s]
        · rw [km_up_ne (by omega), kEm_P, if_pos rfl, s4]
        · rw [hh2, g6, g1 138 _ (by omega) (by omega) (by omega), c1, x3]; exact c0
        · rw [hh2, g6, g4]
          exact kcd_le (Nat.le_add_left _ _) (cdT _ _ _ _ _ _ (by omega) (Int.le_refl _) c5)
        · rw [hh2, g6, g5, show e + 1 - 1 = e by omega, show a - 1 + 1 = a by omega]
          exact kcd_le (Nat.le_add_right _ _) cv'
        · rw [show e + 1 - 1 = e by omega]; exact x1
        · rw [hh2, show t - (t1 + t2 + 1) = t - t1 - 1 - t2 by omega]
          exact cc _ _ _ _ _ (Int.le_refl _) (by omega) cx
        · intro u; omega
        · exact Or.inl pl
      · refine stop () (Or.inr (by omega)) ?_
        rw [kw.2.1]
        rcases hlr with u | ⟨u1, u2, u3⟩ <;> omega

