/-! ===== a LINE's value on both sides ===== -/
theorem kal_cong {a a' : Int} : ∀ (n : Nat) (j : Int), (∀ x : Int, j ≤ x → x < j + n → tb a x = tb a' x) → kal a n j = kal a' n j := by
  intro n
  induction n with
  | zero => intro j _; rfl
  | succ n ih =>
    intro j h
    unfold kal
    rw [h j (Int.le_refl _) (by omega), ih (j + 1) (fun x x0 x1 => h x (by omega) (by omega))]
/-- those alive, in order -/
noncomputable def kAL (m : km_Mm) : List Int := kal (kAl m) (m 5 1).toNat 0
/-- the value of a LINE -/
noncomputable def kLv (m : km_Mm) (o p b L : Int) : Option Int := kev m (kVv m o p b) (kAL m) 121 (-1) (m 142 (krt L - 7))
theorem kIl_k {m : km_Mm} {P L : Int} (h : kIl m P L) (hs : m (P + 5) L ≠ -1) : (0 ≤ m (P + 5) L ∧ 0 ≤ m 142 (krt L - 7)) ∧ ∃ e t : Int, kcd m m P (kln L) (fun x => 0 ≤ x ∧ x < 120) 121 0 (m 142 (krt L - 7)) (m (P + 5) L) e t ∧ m (P + 1) e = 0 ∧ e < m P 4 ∧ t ≤ 120 := by
  rcases h with h | ⟨h1, f, e, t, c1, c2, c3, c4⟩
  · exact absurd h.1 hs
  · have bd := kcd_b _ _ _ _ _ _ c1
    exact ⟨h1, e, t, kcd_le (by omega) (kcd_fl _ _ _ _ _ _ c1), c2, c3, c4⟩
theorem kIl_s {m : km_Mm} {P L : Int} (h : kIl m P L) : m (P + 5) L = -1 ↔ m 142 (krt L - 7) = -1 := by
  rcases h with h | ⟨h1, -⟩
  · exact ⟨fun _ => h.2, fun _ => h.1⟩
  · exact ⟨fun w => by omega, fun w => by omega⟩
theorem kAL_in {m : km_Mm} : ∀ y, y ∈ kAL m → 0 ≤ y ∧ y < m 5 1 := fun y hy => by
  have := kal_m _ _ _ hy
  omega
section HV
variable {q : Nat × Int × Int × Int × Int} {c s : Nat} {m C X Y : km_Mm} {N o p b P L : Int}
theorem c_line (h : kI0 N m) (hN : N ≤ 1000) (hp : kIp P m) (hq : kQo q P) (hZ : kZ m X) (hL : 0 ≤ L ∧ L < 7) (hs : m (P + 5) L ≠ -1) (hn : ∀ q' : Nat × Int × Int × Int × Int, kNa q' c s X P (kVv m o p b) (kln L)) :
    ∃ (q' : Nat × Int × Int × Int × Int) (X' : km_Mm), (kQo q' P ∧ q'.1 = q.1) ∧ kZ m X' ∧ (∀ d j : Int, d ≠ 69 → d ≠ 84 → X' d j = X d j) ∧ X' 69 2 = X 69 2 ∧ ∀ Q : Option km_V → km_Al → km_Mm → Prop, km_E M_X4_value [.inr (.inr 69), .inr (.inr P), .inl L] (km_A0 q c s) X Q ↔ Q (some (.inr (.inl (kvl (kLv m o p b L))))) (km_A0 q' c s) X' := by
  obtain ⟨hPo, hq1, hq2⟩ := hq
  obtain ⟨h1, e, t, k1, k2, k3, k4⟩ := kIl_k (hp.2.2.2.1 L hL.1 hL.2) hs
  have hb := h.1
  have b1 := hb.1
  obtain ⟨jX, rX, nX⟩ := hZ
  have xp : ∀ d j : Int, P ≤ d → d ≤ P + 5 → X d j = m d j := fun d j d0 d1 => jX d j (kJ_no (by omega))
  have e5 : X 5 1 = m 5 1 := jX 5 1 (by unfold kJ; omega)
  have kX : kcd X m P (kln L) (fun x => 0 ≤ x ∧ x < 120) 121 0 (m 142 (krt L - 7)) (m (P + 5) L) e t := kcd_cg (lo := m (P + 5) L) (hi := e) (fun r j r1 r2 _ _ => xp _ _ (by omega) (by omega)) (fun k _ hk => by rw [xp P 9 (by omega) (by omega)]; exact hk) (fun x hx => ⟨hx, fun r _ _ => rfl⟩) _ _ _ _ _ _ (Int.le_refl _) (Int.le_refl _) k1
  have al : kAL m = kal (X 5 12) (X 5 1).toNat 0 := by
    unfold kAL
    rw [e5]
    refine kal_cong _ _ (fun x x0 x1 => ?_)
    have t1 := kAl_tb hb x0
    have t2 := nX.2.2.2.2 x x0
    cases a1 : tb (kAl m) x with
    | true => exact ((t2.mpr (t1.mp a1))).symm
    | false =>
      cases a2 : tb (X 5 12) x with
      | false => rfl
      | true => rw [t1.mpr (t2.mp a2)] at a1; cases a1
  obtain ⟨a1, t1, f1, s1, p1, k1', v1, c1, σ1, hv⟩ := @c4_line q (q.1, q.2.1, q.2.2.1, q.2.2.2.1, P) c s X m P (kln L) (fun x => 0 ≤ x ∧ x < 120) (kVv m o p b) (kAL m) L (m 142 (krt L - 7)) (m (P + 5) L) e t 121 (X 69 9) (X 69 8) (X 69 10) (X 69 11) (X 69 12) (X 69 13) (X 69 14) (X 69 15) (X 84) rfl km_upR_69 hPo (by rw [xp P 4 (by omega) (by omega)]; exact hp.1.2) (by omega) nX.2.2.2.1 (kV_12 h hN) al (hn _) hL (xp _ _ (by omega) (by omega)) h1.1 kX (by rw [xp _ _ (by omega) (by omega)]; exact k2) (by rw [xp P 4 (by omega) (by omega)]; exact k3) k4
  rw [kM_id] at hv
  refine ⟨(q.1, q.2.1, q.2.2.1, q.2.2.2.1, P), _, ⟨⟨hPo, hq1, hq2⟩, rfl⟩, kZ_tr ⟨jX, rX, nX⟩ (fun d j z => kMo (by omega) (by omega)), fun d j d1 d2 => kMo d1 d2, kM2, hv⟩
theorem m_line (h : kI0 N m) (hN : N ≤ 1000) (hp : kIp P m) (hL : 0 ≤ L ∧ L < 7) (hs : m (P + 5) L ≠ -1) (ha : kAt m o p b (kln L)) (hY : kRy m C o p b Y) :
    ∃ Z : km_Mm, kRy m C o p b Z ∧ Z 123 54 = (if kLv m o p b L = none then 1 else 0) ∧ ∀ Q : Option km_V → km_Al → km_Mm → Prop, km_E M_X12_valueOf [.inr (.inr 123), .inl (m 142 (krt L - 7))] (km_A0 q c s) Y Q ↔ Q (some (.inr (.inl (kve (kLv m o p b L))))) (km_A0 q c s) Z := by
  obtain ⟨h1, e, t, k1, k2, k3, k4⟩ := kIl_k (hp.2.2.2.1 L hL.1 hL.2) hs
  have b1 := h.1.1
  exact md_value (md_next h.1) ⟨b1.1, b1.2.1⟩ (kV_12 h hN) rfl (md_names h hN ha kAL_in) k1 k4 hY
/-- the value of a LINE is small -/
theorem kLv_12 (h : kI0 N m) (hN : N ≤ 1000) (hp : kIp P m) (hL : 0 ≤ L ∧ L < 7) (hs : m (P + 5) L ≠ -1) {v : Int} (e : kLv m o p b L = some v) : k12 v := by
  obtain ⟨h1, e', t, k1, k2, k3, k4⟩ := kIl_k (hp.2.2.2.1 L hL.1 hL.2) hs
  have b1 := h.1.1
  have l10 : (kAL m).length ≤ 10 := by
    have := kal_l (a := kAl m) (m 5 1).toNat 0
    unfold kAL
    omega
  exact kev_12 (kV_12 h hN) l10 _ _ _ _ _ _ k1 _ _ e
end HV

