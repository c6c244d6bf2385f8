/-! ===== the reference works out a LINE ===== -/
section KE
variable {q : Nat × Int × Int × Int × Int} {c s : Nat} {m C X Y : km_Mm} {o p b n0 P ln a K : Int} {V : Int → Int → Int} {al : List Int}
theorem sd_ev (hNx : kNx q c s m C o p b a K) (hK : 0 ≤ K ∧ K ≤ 10) (hV : ∀ x v : Int, 12 ≤ v → v ≤ 26 → k12 (V x v)) (hal : al = kal a K.toNat 0) (hNr : kNr q c s m C o p b V al ln) : ∀ f : Nat, kzS q c s m C X o p b n0 P ln (fun x => 0 ≤ x ∧ x < 120) V al f := by
  intro f
  have l10 : al.length ≤ 10 := by
    have := kal_l (a := a) K.toNat 0
    rw [hal]; omega
  induction f with
  | zero => intro h n a e t k; exact k.elim
  | succ f ih =>
    intro h n a0 e kk k x g t hs hm ha ν ς σ Y hY hx g0 g1 t0 t1 hν hς
    have kb := kcd_b _ _ _ _ _ _ k
    have v12 : ∀ (h n a b t x v : Int), kcd X m P ln (fun x => 0 ≤ x ∧ x < 120) f h n a b t → kev m V al f x n = some v → k12 v := fun h n a b t x v k e => kev_12 hV l10 f h n a b t k x v e
    have r8 := kRy_r hY 138 (by decide) (by decide)
    have r1 := kRy_r hY 141 (by decide) (by decide)
    obtain ⟨kN, k⟩ := k
    have kN : 0 ≤ n ∧ n < 120 := kN
    unfold kev
    rcases k with ⟨k0, k1, k2, k3, k4, k5, k6⟩ | ⟨k0, k1, k2, k3, k4, k5, k6⟩ | ⟨k0, k1⟩ | ⟨c0, t1', t2, k0, k1, k2, k3, k4, k5⟩ | ⟨k0, k1, c0, t1', t2, k2, k3, k4⟩ | ⟨k0, k1, k2, k3, k4, k⟩
    · rw [if_pos k0]
      have e1 : kvE q c s n0 (kmR Y (g + 1) t 0 x hs hm ha ν ς σ) (kmR Y g (t + 1) 0 x hs hm ha ν ς (km_u1 σ t (Y 141 n))) := v_num (by omega) (by omega) (by omega) hν (by rw [r8]; exact k0)
      rw [r1] at e1
      refine ⟨fun w => (by cases w), fun v w => ?_⟩
      cases w
      exact ⟨Y, hs, hm, ha, ν, ς, _, hY, fun _ => ⟨rfl, rfl, rfl⟩, fun _ _ => ⟨rfl, rfl⟩, fun j hj => km_u1_o (by omega), km_u1_s, e1⟩
    · rw [if_neg (by omega), if_pos k0]
      obtain ⟨Y', y1, y2⟩ := hNr x (m 141 n) h g t hs hm ha ν ς σ Y hY k5 hx
      have e1 : kvE q c s n0 (kmR Y (g + 1) t 0 x hs hm ha ν ς σ) (kmR Y' g (t + 1) 0 x hs hm ha ν ς (km_u1 σ t (V x (m 141 n)))) := v_name (by omega) (by omega) (by omega) hν (by rw [r8]; exact k0) (fun Q => by rw [r1]; exact y2 Q)
      refine ⟨fun w => (by cases w), fun v w => ?_⟩
      cases w
      exact ⟨Y', hs, hm, ha, ν, ς, _, y1, fun _ => ⟨rfl, rfl, rfl⟩, fun _ _ => ⟨rfl, rfl⟩, fun j hj => km_u1_o (by omega), km_u1_s, e1⟩
    · have kb1 := kcd_b _ _ _ _ _ _ k1
      rw [if_neg (by omega), if_neg (by omega)]
      have r := fun (ν1 ς1 : Int → Int) (h1 : ν1 (g + 1) = m 139 n) (h2 : ς1 (g + 1) = 0) => ih h (m 139 n) a0 (e - 1) (kk - 1) k1 x (g + 1) t hs hm ha ν1 ς1 σ Y hY hx (by omega) (by omega) t0 (by omega) h1 h2
      by_cases z : m 138 n = 6
      · rw [if_pos z]
        exact sd_ahead (gg := fun v => if v = 0 then 1 else 0) hY kN (by omega) (by omega) (Or.inl ⟨z, fun _ => rfl⟩) hν hς r (fun v e => v12 _ _ _ _ _ _ _ k1 e)
      · rw [if_neg z, if_pos (by omega)]
        exact sd_ahead (gg := fun v => -v) hY kN (by omega) (by omega) (Or.inr ⟨by omega, fun _ => rfl⟩) hν hς r (fun v e => v12 _ _ _ _ _ _ _ k1 e)
    · have kb1 := kcd_b _ _ _ _ _ _ k2
      have kb2 := kcd_b _ _ _ _ _ _ k4
      rw [if_neg (by omega), if_neg (by omega), if_neg (by omega), if_neg (by omega)]
      have r := fun (ν1 ς1 : Int → Int) (h1 : ν1 (g + 1) = m 139 n) (h2 : ς1 (g + 1) = 0) => ih h (m 139 n) a0 c0 t1' k2 x (g + 1) t hs hm ha ν1 ς1 σ Y hY hx (by omega) (by omega) t0 (by omega) h1 h2
      have r2 := fun (Y : km_Mm) (hs hm ha : Int) (ν1 ς1 σ : Int → Int) (hY : kRy m C o p b Y) (h1 : ν1 (g + 1) = m 140 n) (h2 : ς1 (g + 1) = 0) => ih h (m 140 n) (c0 + 1) (e - 1) t2 k4 x (g + 1) (t + 1) hs hm ha ν1 ς1 σ Y hY hx (by omega) (by omega) (by omega) (by omega) h1 h2
      by_cases z : m 138 n = 8
      · rw [if_pos z]
        have gq := sd_join (oo := 24) hY kN (by omega) (by omega) (Or.inl ⟨z, rfl⟩) hν hς r r2
        cases h1 : kev m V al f x (m 139 n) with
        | none => rw [h1] at gq; exact gq
        | some v =>
          rw [h1] at gq
          show kdR q c s m C o p b n0 h (kmR Y (g + 1) t 0 x hs hm ha ν ς σ) g t x hs hm ha ν ς σ (if v = 0 then kmt (kev m V al f x (m 140 n)) else some 1)
          have gq : kdR q c s m C o p b n0 h (kmR Y (g + 1) t 0 x hs hm ha ν ς σ) g t x hs hm ha ν ς σ (if (v = 0) = ((24 : Int) = 25) then some (if (24 : Int) = 25 then 0 else 1) else kmt (kev m V al f x (m 140 n))) := gq
          by_cases y : v = 0
          · rw [if_neg (by rw [eq_true y]; decide)] at gq
            rw [if_pos y]; exact gq
          · rw [if_pos (by rw [eq_false y]; decide), if_neg (by decide)] at gq
            rw [if_neg y]; exact gq
      · rw [if_neg z, if_pos (by omega)]
        have gq := sd_join (oo := 25) hY kN (by omega) (by omega) (Or.inr ⟨by omega, rfl⟩) hν hς r r2
        cases h1 : kev m V al f x (m 139 n) with
        | none => rw [h1] at gq; exact gq
        | some v =>
          rw [h1] at gq
          show kdR q c s m C o p b n0 h (kmR Y (g + 1) t 0 x hs hm ha ν ς σ) g t x hs hm ha ν ς σ (if v = 0 then some 0 else kmt (kev m V al f x (m 140 n)))
          have gq : kdR q c s m C o p b n0 h (kmR Y (g + 1) t 0 x hs hm ha ν ς σ) g t x hs hm ha ν ς σ (if (v = 0) = ((25 : Int) = 25) then some (if (25 : Int) = 25 then 0 else 1) else kmt (kev m V al f x (m 140 n))) := gq
          by_cases y : v = 0
          · rw [if_pos (by rw [eq_true y]; decide), if_pos (by decide)] at gq
            rw [if_pos y]; exact gq
          · rw [if_neg (by rw [eq_false y]; decide)] at gq
            rw [if_neg y]; exact gq
    · have kb1 := kcd_b _ _ _ _ _ _ k3
      have kb2 := kcd_b _ _ _ _ _ _ k4
      rw [if_neg (by omega), if_neg (by omega), if_neg (by omega), if_neg (by omega), if_neg (by omega), if_neg (by omega), if_pos k0.1]
      have r := fun (ν1 ς1 : Int → Int) (h1 : ν1 (g + 1) = m 139 n) (h2 : ς1 (g + 1) = 0) => ih h (m 139 n) a0 c0 t1' k3 x (g + 1) t hs hm ha ν1 ς1 σ Y hY hx (by omega) (by omega) t0 (by omega) h1 h2
      have r2 := fun (Y : km_Mm) (hs hm ha : Int) (ν1 ς1 σ : Int → Int) (hY : kRy m C o p b Y) (h1 : ν1 (g + 1) = m 140 n) (h2 : ς1 (g + 1) = 0) => ih h (m 140 n) c0 (e - 1) t2 k4 x (g + 1) (t + 1) hs hm ha ν1 ς1 σ Y hY hx (by omega) (by omega) (by omega) (by omega) h1 h2
      exact sd_sign hY kN (by omega) (by omega) k0 hν hς r (fun v e => v12 _ _ _ _ _ _ _ k3 e) r2 (fun v e => v12 _ _ _ _ _ _ _ k4 e)
    · have hx0 : h = 0 ∧ x = -1 := by clear k; omega
      have bt : (∃ e1 e2 k1 : Int, kcd X m P ln (fun x => 0 ≤ x ∧ x < 120) f 1 (m 139 n) e1 e2 k1 ∧ k1 + 1 ≤ kk) ∧ (m 140 n = -1 ∨ (0 ≤ m 140 n ∧ ∃ e1 e2 k2 : Int, kcd X m P ln (fun x => 0 ≤ x ∧ x < 120) f 1 (m 140 n) e1 e2 k2 ∧ k2 + 1 ≤ kk)) := by
        rcases k with ⟨k5, _, _, k8⟩ | ⟨_, k6, _, c1, u1, u2, k8, k9, _, _, kd⟩
        · exact ⟨⟨_, _, _, k8, by omega⟩, Or.inl k5⟩
        · have b1 := kcd_b _ _ _ _ _ _ k9
          have b2 := kcd_b _ _ _ _ _ _ kd
          exact ⟨⟨_, _, _, k9, by omega⟩, Or.inr ⟨k6, _, _, _, kd, by omega⟩⟩
      clear k
      have kk2 : 2 ≤ kk := by
        obtain ⟨e1, e2, k1', b1, b2⟩ := bt.1
        have := kcd_b _ _ _ _ _ _ b1
        omega
      rw [if_neg (by omega), if_neg (by omega), if_neg (by omega), if_neg (by omega), if_neg (by omega), if_neg (by omega), if_neg (by omega)]
      have ov := @sd_over q c s m C X o p b n0 g t n a K (fun x => 0 ≤ x ∧ x < 120) V al f (fun y => if m 140 n < 0 then some 1 else kev m V al f y (m 140 n)) (fun y => kev m V al f y (m 139 n)) P ln 0 kk hNx hK kN (by omega) (by omega) g1 t1 k0 hV hal l10 ih rfl rfl bt.1 bt.2 al (fun _ h => h)
      obtain ⟨Y1, y1, y2⟩ := hNx (-1) (g + 1) t 0 0 0 0 ν ς σ Y hY (Int.le_refl _) (by omega)
      rw [show K - (-1 + 1) = K by omega, show (-1 : Int) + 1 = 0 by decide, ← hal] at y2
      have e1 : kvE q c s n0 (kmR Y (g + 1) t 0 x hs hm ha ν ς σ) (kCn Y1 n (Y 138 n) g t 0 (khd al) 0 0 0 ν ς σ) := v_heap (by omega) (by omega) hν (by rw [r8]; omega) (fun Q => by rw [hς]; exact g_hc (by omega) (by omega) (by omega) y2)
      rw [r8] at e1
      have hr := ov 0 0 0 0 (0, 0) ν ς σ Y1 (by rw [hal, show K - 0 = K by omega]) (Int.le_refl _) hK.1 y1 hν ⟨fun _ => rfl, fun _ => ⟨rfl, rfl⟩, Or.inl rfl⟩ kho_0 (Int.le_refl _)
      refine ⟨fun z => ?_, fun v z => ?_⟩
      · have z2 : khp (m 138 n) (fun y => if m 140 n < 0 then some 1 else kev m V al f y (m 140 n)) (fun y => kev m V al f y (m 139 n)) al (0, 0) = none := by
          cases hh : khp (m 138 n) (fun y => if m 140 n < 0 then some 1 else kev m V al f y (m 140 n)) (fun y => kev m V al f y (m 139 n)) al (0, 0) with
          | none => rfl
          | some s' => rw [hh] at z; cases z
        obtain ⟨Y', g', t', x', hs', hm', ha', ν', ς', σ', a1, a2⟩ := hr.1 z2
        exact ⟨Y', g', t', x', hs', hm', ha', ν', ς', σ', a1, kvT_of e1 a2⟩
      · cases hh : khp (m 138 n) (fun y => if m 140 n < 0 then some 1 else kev m V al f y (m 140 n)) (fun y => kev m V al f y (m 139 n)) al (0, 0) with
        | none => rw [hh] at z; cases z
        | some s' =>
          rw [hh] at z
          have z : some s'.1 = some v := z
          cases z
          obtain ⟨Y', hs', hm', ha', ν', ς', σ', a1, a2, a3, a4, a5⟩ := hr.2 s' hh
          rw [hx0.2] at e1 ⊢
          exact ⟨Y', hs', hm', ha', ν', ς', σ', a1, fun w => by omega, a2, a3, a4, kvE_tr e1 a5⟩
theorem kRy_R {g t er x hs hm ha : Int} {ν ς σ : Int → Int} (h : kRy m C o p b Y) : kRy m C o p b (kmR Y g t er x hs hm ha ν ς σ) := by
  obtain ⟨h1, hc, h2, h3, h4⟩ := h
  refine ⟨fun d j hd hj => ?_, fun d j hd => ?_, h2, h3, h4⟩
  rotate_left 1
  · rw [← hc d j hd]
    unfold kmR
    rw [if_neg (by omega), if_neg (by omega), if_neg (by omega), if_neg (by omega)]
  rw [← h1 d j hd hj]
  unfold kJ at hj
  unfold kmR
  by_cases z : d = 123
  · subst z
    rw [if_pos rfl, if_neg (by omega), if_neg (by omega), if_neg (by omega), if_neg (by omega), if_neg (by omega), if_neg (by omega), if_neg (by omega)]
  · rw [if_neg z, if_neg (by omega), if_neg (by omega), if_neg (by omega)]
def kve (r : Option Int) : Int := match r with | none => 0 | some v => v
theorem md_value {n a0 e t : Int} {f : Nat} (hNx : kNx q c s m C o p b a K) (hK : 0 ≤ K ∧ K ≤ 10) (hV : ∀ x v : Int, 12 ≤ v → v ≤ 26 → k12 (V x v)) (hal : al = kal a K.toNat 0) (hNr : kNr q c s m C o p b V al ln) (k : kcd X m P ln (fun x => 0 ≤ x ∧ x < 120) f 0 n a0 e t) (t120 : t ≤ 120) (hY : kRy m C o p b Y) : ∃ Z : km_Mm, kRy m C o p b Z ∧ Z 123 54 = (if kev m V al f (-1) n = none then 1 else 0) ∧ ∀ Q : Option km_V → km_Al → km_Mm → Prop, km_E M_X12_valueOf [.inr (.inr 123), .inl n] (km_A0 q c s) Y Q ↔ Q (some (.inr (.inl (kve (kev m V al f (-1) n))))) (km_A0 q c s) Z := by
  have kb := kcd_b _ _ _ _ _ _ k
  have bg := fun Q => @v_begin q c s Y (Y 123 51) (Y 123 53) (Y 123 54) (Y 123 56) (Y 123 59) (Y 123 60) (Y 123 61) n (Y 147) (Y 148) (Y 149) Q
  rw [kR_id] at bg
  have r := @sd_ev q c s m C X o p b n P ln a K V al hNx hK hV hal hNr f 0 n a0 e t k (-1) 0 0 (Y 123 59) (Y 123 60) (Y 123 61) (km_u1 (Y 147) 0 n) (km_u1 (Y 148) 0 0) (Y 149) Y hY (Or.inr ⟨rfl, rfl⟩) (Int.le_refl _) (by omega) (Int.le_refl _) (by omega) km_u1_s km_u1_s
  cases hr : kev m V al f (-1) n with
  | none =>
    obtain ⟨Y', g', t', x', hs', hm', ha', ν', ς', σ', a1, a2⟩ := r.1 hr
    exact ⟨_, kRy_R a1, by rw [if_pos rfl]; exact kR54, fun Q => (bg Q).trans (a2 _ _ _ Q)⟩
  | some v =>
    obtain ⟨Y', hs', hm', ha', ν', ς', σ', a1, a2, a3, a4, a5, a6⟩ := r.2 v hr
    have e := kvT_of a6 v_done
    rw [a5] at e
    exact ⟨_, kRy_R a1, by rw [if_neg (fun w => by cases w)]; exact kR54, fun Q => (bg Q).trans (e _ _ _ Q)⟩
end KE

