/-! ===== the reference works out a HEAP ===== -/
def kdH (q : Nat × Int × Int × Int × Int) (c s : Nat) (m C : km_Mm) (o p b n0 : Int) (M : km_Mm) (g t : Int) (ν ς σ : Int → Int) (r : Option (Int × Int)) : Prop :=
  (r = none → ∃ (Y' : km_Mm) (g' t' x' hs' hm' ha' : Int) (ν' ς' σ' : Int → Int), kRy m C o p b Y' ∧ kvT q c s n0 M 0 (kmR Y' g' t' 1 x' hs' hm' ha' ν' ς' σ')) ∧
  (∀ s' : Int × Int, r = some s' → ∃ (Y' : km_Mm) (hs' hm' ha' : Int) (ν' ς' σ' : Int → Int), kRy m C o p b Y' ∧ (∀ j : Int, j < g → ν' j = ν j ∧ ς' j = ς j) ∧ (∀ j : Int, j < t → σ' j = σ j) ∧ σ' t = s'.1 ∧ kvE q c s n0 M (kmR Y' g (t + 1) 0 (-1) hs' hm' ha' ν' ς' σ'))
section KG
variable {q : Nat × Int × Int × Int × Int} {c s : Nat} {m C X Y M : km_Mm} {o p b n0 h g t x hs hm ha n k1 k2 k a K : Int} {ν ς σ : Int → Int} {N : Int → Prop} {V : Int → Int → Int} {al : List Int} {f : Nat} {T B : Int → Option Int}
theorem kdH_then {M1 : km_Mm} {ν1 ς1 σ1 : Int → Int} {r : Option (Int × Int)} (e : kvE q c s n0 M M1) (h1 : ∀ j : Int, j < g → ν1 j = ν j ∧ ς1 j = ς j) (h2 : ∀ j : Int, j < t → σ1 j = σ j) (k : kdH q c s m C o p b n0 M1 g t ν1 ς1 σ1 r) : kdH q c s m C o p b n0 M g t ν ς σ r := by
  refine ⟨fun z => ?_, fun v z => ?_⟩
  · obtain ⟨Y', g', t', x', hs', hm', ha', ν', ς', σ', a1, a2⟩ := k.1 z
    exact ⟨Y', g', t', x', hs', hm', ha', ν', ς', σ', a1, kvT_of e a2⟩
  · obtain ⟨Y', hs', hm', ha', ν', ς', σ', a1, a2, a3, a4, a5⟩ := k.2 v z
    exact ⟨Y', hs', hm', ha', ν', ς', σ', a1, fun j hj => ⟨(a2 j hj).1.trans (h1 j hj).1, (a2 j hj).2.trans (h1 j hj).2⟩, fun j hj => (a3 j hj).trans (h2 j hj), a4, kvE_tr e a5⟩
theorem kCn_err (hY : kRy m C o p b Y) : ∃ (g' t' hs' hm' ha' : Int) (ν' ς' σ' : Int → Int), kCn Y n k g t 1 x hs hm ha ν ς σ = kmR Y g' t' 1 x hs' hm' ha' ν' ς' σ' := by
  unfold kCn
  split
  · exact ⟨_, _, _, _, _, _, _, _, rfl⟩
  · split
    · exact ⟨_, _, _, _, _, _, _, _, rfl⟩
    · exact ⟨_, _, _, _, _, _, _, _, rfl⟩
def kzL (q : Nat × Int × Int × Int × Int) (c s : Nat) (m C : km_Mm) (o p b n0 a K n g t : Int) (T B : Int → Option Int) (l : List Int) : Prop := ∀ (j hs hm ha : Int) (sc : Int × Int) (ν ς σ : Int → Int) (Y : km_Mm), l = kal a (K - j).toNat j → 0 ≤ j → j ≤ K → kRy m C o p b Y → ν g = n → khr (m 138 n) sc hs hm ha → kho (m 138 n) sc → sc.2 ≤ j → kdH q c s m C o p b n0 (kCn Y n (m 138 n) g t 0 (khd l) hs hm ha ν ς σ) g t ν ς σ (khp (m 138 n) T B l sc)
/-- one is taken in -/
theorem sd_take {y : Int} {sc : Int × Int} {l : List Int} (hNx : kNx q c s m C o p b a K) (hK : 0 ≤ K ∧ K ≤ 10) (hY : kRy m C o p b Y) (hn : 0 ≤ n ∧ n < 120) (hg : 0 ≤ g ∧ g < 289) (ht : 0 ≤ t ∧ t < 289) (hk : 2 ≤ m 138 n ∧ m 138 n ≤ 5) (hy : 0 ≤ y ∧ y < K) (hν : ν g = n) (hς : ς g = 3) (hr : khr (m 138 n) sc hs hm ha) (ho : kho (m 138 n) sc) (hc : sc.2 ≤ y) (h12 : k12 (σ t)) (hl : l = kal a (K - (y + 1)).toNat (y + 1)) (ih : kzL q c s m C o p b n0 a K n g t T B l) :
    kdH q c s m C o p b n0 (kmR Y (g + 1) (t + 1) 0 y hs hm ha ν ς σ) g t ν ς σ (kno (m 138 n) sc (some (σ t)) (khp (m 138 n) T B l)) := by
  have r8 := kRy_r hY 138 (by decide) (by decide)
  obtain ⟨hs', hm', t1, t2⟩ := @g_htk q c s Y g t y hs hm ha n ν ς σ sc (by rw [r8]; exact hk) (by omega) (by omega) (by omega) (by rw [r8]; exact hr) (by rw [r8]; exact ho) (by omega) h12
  rw [r8] at t1 t2
  obtain ⟨Y', y1, y2⟩ := hNx y (g + 1) t (if kac (m 138 n) sc (σ t) = none then 1 else 0) hs' hm' 1 ν ς σ Y hY (by omega) hy.2
  rw [← hl] at y2
  have e1 : kvE q c s n0 (kmR Y (g + 1) (t + 1) 0 y hs hm ha ν ς σ) (kCn Y' n (m 138 n) g t (if kac (m 138 n) sc (σ t) = none then 1 else 0) (khd l) hs' hm' 1 ν ς σ) := v_heap (by omega) (by omega) hν (by rw [r8]; omega) (fun Q => by rw [hς]; exact t2 Y' (khd l) y2 Q)
  cases hr2 : kac (m 138 n) sc (σ t) with
  | none =>
    have en : kno (m 138 n) sc (some (σ t)) (khp (m 138 n) T B l) = none := by unfold kno; dsimp only; rw [hr2]
    rw [en]
    rw [if_pos hr2] at e1
    refine ⟨fun _ => ?_, fun s' w => (by cases w)⟩
    obtain ⟨g', t', c1, c2, c3, c4, c5, c6, c7⟩ := @kCn_err m C Y' o p b g t (khd l) hs' hm' 1 n (m 138 n) ν ς σ y1
    rw [c7] at e1
    exact ⟨Y', g', t', khd l, c1, c2, c3, c4, c5, c6, y1, kvT_of e1 v_err⟩
  | some s' =>
    have en : kno (m 138 n) sc (some (σ t)) (khp (m 138 n) T B l) = khp (m 138 n) T B l s' := by unfold kno; dsimp only; rw [hr2]
    rw [en]
    rw [if_neg (by rw [hr2]; exact fun w => by cases w)] at e1
    obtain ⟨o1, o2⟩ := kac_o hk ho (by omega) h12 hr2
    exact kdH_then e1 (fun _ _ => ⟨rfl, rfl⟩) (fun _ _ => rfl) (ih (y + 1) hs' hm' 1 s' ν ς σ Y' hl (by omega) (by omega) y1 hν (t1 s' hr2) o1 (by omega))
/-- the HEAP goes over its kin -/
theorem sd_over {P ln e kk : Int} (hNx : kNx q c s m C o p b a K) (hK : 0 ≤ K ∧ K ≤ 10) (hn : 0 ≤ n ∧ n < 120) (hg : 0 ≤ g ∧ g < 289) (ht : 0 ≤ t ∧ t < 289) (hgk : g + kk ≤ 290) (htk : t + kk ≤ 290) (hk : 2 ≤ m 138 n ∧ m 138 n ≤ 5) (hV : ∀ x v : Int, 12 ≤ v → v ≤ 26 → k12 (V x v)) (hal : al = kal a K.toNat 0) (hal10 : al.length ≤ 10) (IH : kzS q c s m C X o p b n0 P ln N V al f) (hT : T = fun y => if m 140 n < 0 then some 1 else kev m V al f y (m 140 n)) (hB : B = fun y => kev m V al f y (m 139 n))
    (hbody : ∃ e1 e2 k1 : Int, kcd X m P ln N f 1 (m 139 n) e1 e2 k1 ∧ k1 + 1 ≤ kk) (htest : m 140 n = -1 ∨ (0 ≤ m 140 n ∧ ∃ e1 e2 k2 : Int, kcd X m P ln N f 1 (m 140 n) e1 e2 k2 ∧ k2 + 1 ≤ kk)) : ∀ l : List Int, (∀ y, y ∈ l → y ∈ al) → kzL q c s m C o p b n0 a K n g t T B l := by
  intro l
  induction l with
  | nil =>
    intro _ j hs hm ha sc ν ς σ Y hl j0 j1 hY hν hr ho hc
    refine ⟨fun w => (by cases w), fun s' w => ?_⟩
    cases w
    have ec : kCn Y n (m 138 n) g t 0 (khd []) hs hm ha ν ς σ = kmR Y g (t + 1) 0 (-1) hs hm ha ν ς (km_u1 σ t (if m 138 n = 2 ∨ m 138 n = 5 then hs else hm)) := by
      unfold kCn
      rw [if_pos (show khd [] < 0 by decide)]; rfl
    rw [ec]
    refine ⟨Y, hs, hm, ha, ν, ς, _, hY, fun _ _ => ⟨rfl, rfl⟩, fun j hj => km_u1_o (by omega), ?_, kvE_rf⟩
    rw [km_u1_s]
    by_cases z : m 138 n = 2 ∨ m 138 n = 5
    · rw [if_pos z]; exact hr.1 z
    · rw [if_neg z]; exact (hr.2.1 (by omega)).1
  | cons y l ihl =>
    intro hm2 j hs hm ha sc ν ς σ Y hl j0 j1 hY hν hr ho hc
    obtain ⟨hy, hl'⟩ := kal_c _ j rfl j1 hl.symm
    have hin := hm2 y List.mem_cons_self
    have ihl' := ihl (fun z hz => hm2 z (List.mem_cons_of_mem _ hz))
    have r9 := kRy_r hY 139 (by decide) (by decide)
    have r0 := kRy_r hY 140 (by decide) (by decide)
    -- the body
    have one : ∀ (Y1 : km_Mm) (ν1 ς1 σ1 : Int → Int), kRy m C o p b Y1 → ν1 g = n → ν1 (g + 1) = m 139 n → ς1 g = 3 → ς1 (g + 1) = 0 → kdH q c s m C o p b n0 (kmR Y1 (g + 1 + 1) t 0 y hs hm ha ν1 ς1 σ1) g t ν1 ς1 σ1 (kno (m 138 n) sc (B y) (khp (m 138 n) T B l)) := by
      intro Y1 ν1 ς1 σ1 hY1 n1 n2 s1 s2
      obtain ⟨e1, e2, k1, kb, kb1⟩ := hbody
      have bd := kcd_b _ _ _ _ _ _ kb
      have ev := IH 1 (m 139 n) e1 e2 k1 kb y (g + 1) t hs hm ha ν1 ς1 σ1 Y1 hY1 (Or.inl ⟨rfl, hin⟩) (by omega) (by omega) ht.1 (by omega) n2 s2
      have eb : B y = kev m V al f y (m 139 n) := by rw [hB]
      rw [eb]
      have v12 := kev_12 (X := X) (Y := m) (P := P) (ln := ln) (N := N) hV hal10 f 1 (m 139 n) e1 e2 k1 kb y
      cases hv : kev m V al f y (m 139 n) with
      | none =>
        refine ⟨fun _ => ?_, fun s' w => (by cases w)⟩
        exact ev.1 hv
      | some v =>
        obtain ⟨Y2, hs2, hm3, ha2, ν2, ς2, σ2, a1, a2, a3, a4, a5, a6⟩ := ev.2 v hv
        obtain ⟨rfl, rfl, rfl⟩ := a2 rfl
        have tk := @sd_take q c s m C Y2 o p b n0 g t hs2 hm3 ha2 n a K ν2 ς2 σ2 T B y sc l hNx hK a1 hn hg ht hk (by omega) (by rw [(a3 g (by omega)).1]; exact n1) (by rw [(a3 g (by omega)).2]; exact s1) hr ho (by omega) (by rw [a5]; exact v12 v hv) hl' ihl'
        rw [a5] at tk
        exact kdH_then a6 (fun j hj => a3 j (by omega)) a4 tk
    have y0 : ¬ y < 0 := by omega
    show kdH q c s m C o p b n0 (kCn Y n (m 138 n) g t 0 y hs hm ha ν ς σ) g t ν ς σ (match T y with | none => none | some w => if w = 0 then khp (m 138 n) T B l sc else kno (m 138 n) sc (B y) (khp (m 138 n) T B l))
    rcases htest with w1 | ⟨w1, e1, e2, k2, kt, kt1⟩
    · have eT : T y = some 1 := by rw [hT]; show (if m 140 n < 0 then some 1 else kev m V al f y (m 140 n)) = some 1; rw [if_pos (by omega)]
      have ec : kCn Y n (m 138 n) g t 0 y hs hm ha ν ς σ = kmR Y (g + 1 + 1) t 0 y hs hm ha (km_u1 ν (g + 1) (Y 139 n)) (km_u1 (km_u1 ς g 3) (g + 1) 0) σ := by
        unfold kCn
        rw [if_neg y0, if_neg (by rw [r0]; omega)]
      rw [eT, ec, r9]
      show kdH q c s m C o p b n0 (kmR Y (g + 1 + 1) t 0 y hs hm ha (km_u1 ν (g + 1) (m 139 n)) (km_u1 (km_u1 ς g 3) (g + 1) 0) σ) g t ν ς σ (if (1 : Int) = 0 then khp (m 138 n) T B l sc else kno (m 138 n) sc (B y) (khp (m 138 n) T B l))
      rw [if_neg (by decide)]
      exact kdH_then kvE_rf (fun j hj => ⟨km_u1_o (by omega), by rw [km_u1_o (by omega), km_u1_o (by omega)]⟩) (fun _ _ => rfl) (one Y _ _ σ hY (by rw [km_u1_o (by omega)]; exact hν) km_u1_s (by rw [km_u1_o (by omega), km_u1_s]) km_u1_s)
    · have eT : T y = kev m V al f y (m 140 n) := by rw [hT]; show (if m 140 n < 0 then some 1 else kev m V al f y (m 140 n)) = _; rw [if_neg (by omega)]
      have ec : kCn Y n (m 138 n) g t 0 y hs hm ha ν ς σ = kmR Y (g + 1 + 1) t 0 y hs hm ha (km_u1 ν (g + 1) (Y 140 n)) (km_u1 (km_u1 ς g 2) (g + 1) 0) σ := by
        unfold kCn
        rw [if_neg y0, if_pos (by rw [r0]; exact w1)]
      rw [eT, ec, r0]
      have bd := kcd_b _ _ _ _ _ _ kt
      have ev := IH 1 (m 140 n) e1 e2 k2 kt y (g + 1) t hs hm ha (km_u1 ν (g + 1) (m 140 n)) (km_u1 (km_u1 ς g 2) (g + 1) 0) σ Y hY (Or.inl ⟨rfl, hin⟩) (by omega) (by omega) ht.1 (by omega) km_u1_s km_u1_s
      cases hv : kev m V al f y (m 140 n) with
      | none =>
        refine ⟨fun _ => ?_, fun s' w => (by cases w)⟩
        exact ev.1 hv
      | some w =>
        obtain ⟨Y2, hs2, hm3, ha2, ν2, ς2, σ2, a1, a2, a3, a4, a5, a6⟩ := ev.2 w hv
        obtain ⟨rfl, rfl, rfl⟩ := a2 rfl
        have n2 : ν2 g = n := by rw [(a3 g (by omega)).1, km_u1_o (by omega)]; exact hν
        have s2 : ς2 g = 2 := by rw [(a3 g (by omega)).2, km_u1_o (by omega), km_u1_s]
        have u8 := kRy_r a1 138 (by decide) (by decide)
        have u9 := kRy_r a1 139 (by decide) (by decide)
        have lo : ∀ j : Int, j < g → ν2 j = ν j ∧ ς2 j = ς j := fun j hj => ⟨by rw [(a3 j (by omega)).1, km_u1_o (by omega)], by rw [(a3 j (by omega)).2, km_u1_o (by omega), km_u1_o (by omega)]⟩
        show kdH q c s m C o p b n0 _ g t ν ς σ (if w = 0 then khp (m 138 n) T B l sc else kno (m 138 n) sc (B y) (khp (m 138 n) T B l))
        by_cases z0 : w = 0
        · rw [if_pos z0]
          obtain ⟨Y', y1, y2⟩ := hNx y (g + 1) t 0 hs2 hm3 ha2 ν2 ς2 σ2 Y2 a1 (by omega) (by omega)
          rw [← hl'] at y2
          have e1 : kvE q c s n0 (kmR Y2 (g + 1) (t + 1) 0 y hs2 hm3 ha2 ν2 ς2 σ2) (kCn Y' n (Y2 138 n) g t 0 (khd l) hs2 hm3 ha2 ν2 ς2 σ2) := v_heap (by omega) (by omega) n2 (by rw [u8]; omega) (fun Q => by rw [s2]; exact g_hout (by omega) (by omega) (by omega) (by rw [a5]; exact z0) y2)
          rw [u8] at e1
          exact kdH_then (kvE_tr a6 e1) lo a4 (ihl' (y + 1) hs2 hm3 ha2 sc ν2 ς2 σ2 Y' hl' (by omega) (by omega) y1 n2 hr ho (by omega))
        · rw [if_neg z0]
          have e1 : kvE q c s n0 (kmR Y2 (g + 1) (t + 1) 0 y hs2 hm3 ha2 ν2 ς2 σ2) (kmR Y2 (g + 1 + 1) t 0 y hs2 hm3 ha2 (km_u1 ν2 (g + 1) (Y2 139 n)) (km_u1 (km_u1 ς2 g 3) (g + 1) 0) σ2) := v_heap (by omega) (by omega) n2 (by rw [u8]; omega) (fun Q => by rw [s2]; exact g_hin (by omega) (by omega) (by omega) (by rw [a5]; exact z0))
          rw [u9] at e1
          exact kdH_then (kvE_tr a6 e1) (fun j hj => ⟨by rw [km_u1_o (by omega)]; exact (lo j hj).1, by rw [km_u1_o (by omega), km_u1_o (by omega)]; exact (lo j hj).2⟩) a4 (one Y2 _ _ σ2 a1 (by rw [km_u1_o (by omega)]; exact n2) km_u1_s (by rw [km_u1_o (by omega), km_u1_s]) km_u1_s)
end KG

