/-! ===== rules over goals: what constructors do ===== -/
section GL
variable {M : km_Md} {pc nx : Nat} {ls ls' : km_Ls} {st st' r : List km_V} {A A' : km_Al} {m m' : km_Mm} {Q Q' : Option km_V → km_Al → km_Mm → Prop}
theorem kG_new {j ci nf : Nat} {kd n : Int} (d : km_at M pc (.new j) 3) (hf : km_nw M.2.1 j = some (ci, nf)) (hk : kd = 10 + (ci : Int)) (hn : n = (nf : Int) := by rfl) : km_G M pc ls r A m Q ↔ A.2.2.2.2.1 = A.1 ∧ km_G M (pc + 3) ls (.inr (.inr A.1) :: r) (km_new kd n nf A) (km_zero A m) Q := by
  subst hk; subst hn
  refine kG_if d (fun q => ?_) (fun q => ?_)
  · simp only [km_ex]; unfold km_newo; rw [hf]; dsimp only; rw [if_pos q]; rfl
  · simp only [km_ex]; unfold km_newo; rw [hf]; dsimp only; rw [if_neg q]
theorem kG_newa {at9 : ArrayType} {t n : Int} (d : km_at M pc (.newarray at9) 2) (hi : km_ex M (.newarray at9) pc (pc + 2) ls (.inl n :: r) A m = km_newa (some t) (pc + 2) ls (.inl n :: r) A m) : km_G M pc ls (.inl n :: r) A m Q ↔ (0 ≤ n ∧ n ≤ 100000 ∧ A.2.2.2.2.1 = A.1) ∧ km_G M (pc + 2) ls (.inr (.inr A.1) :: r) (km_new t n n.toNat A) (km_zero A m) Q := by
  refine kG_if d (fun q => ?_) (fun q => ?_)
  · rw [hi]; unfold km_newa; dsimp only; rw [if_pos q]; rfl
  · rw [hi]; unfold km_newa; dsimp only; rw [if_neg q]
theorem kG_newm {j : Nat} {k n : Int} (d : km_at M pc (.multianewarray j 2) 4) (hm : (km_mi M.2.1).contains j = true) : km_G M pc ls (.inl k :: .inl n :: r) A m Q ↔ (0 ≤ n ∧ n ≤ 1000 ∧ 0 ≤ k ∧ k ≤ 100000 ∧ A.2.2.2.2.1 = A.1) ∧ km_G M (pc + 4) ls (.inr (.inr A.1) :: r) (km_mult n.toNat k.toNat A) (km_zeros n.toNat A m) Q := by
  refine kG_if d (fun q => ?_) (fun q => ?_)
  · simp only [km_ex]; rw [if_pos ⟨trivial, hm⟩]; unfold km_newm; dsimp only; rw [if_pos q]; rfl
  · simp only [km_ex]; rw [if_pos ⟨trivial, hm⟩]; unfold km_newm; dsimp only; rw [if_neg q]
theorem kG_putfF {j : Nat} {a x : Int} {ci kk : Nat} {fin : Bool} (d : km_at M pc (.putfield j) 3) (hf : km_fl M.2.1 j = some (ci, kk, 2, fin)) (hfin : fin = true → M.2.2.2.2.2.2.2 = 2 ∧ M.2.1 = ci) : km_G M pc ls (.inr (.inr x) :: .inr (.inr a) :: r) A m Q ↔ (0 ≤ a ∧ a < (A.1 : Int) ∧ km_kd A a = 10 + (ci : Int) ∧ 0 ≤ x ∧ x < (A.1 : Int)) ∧ km_G M (pc + 3) ls r (km_upR A a kk x) m Q := by
  refine kG_if d (fun q => ?_) (fun q => ?_)
  · simp only [km_ex]; unfold km_putf; rw [hf]; dsimp only; rw [if_pos ⟨q.1, q.2.1, q.2.2.1, hfin⟩, if_pos ⟨rfl, q.2.2.2⟩]; rfl
  · simp only [km_ex]; unfold km_putf; rw [hf]; dsimp only
    by_cases z : 0 ≤ a ∧ a < (A.1 : Int) ∧ km_kd A a = 10 + (ci : Int)
    · rw [if_pos ⟨z.1, z.2.1, z.2.2, hfin⟩, if_neg (fun h => q ⟨z.1, z.2.1, z.2.2, h.2⟩)]
    · rw [if_neg (fun z2 => z ⟨z2.1, z2.2.1, z2.2.2.1⟩)]
theorem kG_oin {j : Nat} {x : Int} (d : km_at M pc (.invokespecial j) 3) (ho : km_isObjInit M.2.1 j = true) (hd : 1 ≤ M.2.2.2.2.2.1) (hc : (r.map km_cat).sum ≤ 8) : km_G M pc ls (.inr (.inr x) :: r) A m Q ↔ x ≠ -1 ∧ km_G M (pc + 3) ls r A m Q := by
  refine kG_if d (fun q => ?_) (fun q => ?_)
  · simp only [km_ex]; rw [if_pos ho]; rw [if_pos ⟨hc, hd, q⟩]; rfl
  · simp only [km_ex]; rw [if_pos ho]; rw [if_neg (fun z => q z.2.2)]
theorem kG_callI {k j : Nat} {M1 : km_Md} {nest : Bool} {a : Int} {vs rest : List km_V} (d : km_at M pc (.invokespecial j) 3) (ho : km_isObjInit M.2.1 j = false) (hm : km_mt M.2.1 j = some (M1, nest)) (hok : km_callOk M1 2 M.2.2.2.2.2.1 A st = decide (0 ≤ a ∧ a < (A.1 : Int) ∧ km_kd A a = 10 + (M1.2.1 : Int))) (hk : 10 + M1.2.1 = k) (has : (st.take (km_na M1 2)).reverse = .inr (.inr a) :: vs) (hre : st.drop (km_na M1 2) = rest) :
    km_G M pc ls st A m Q ↔ (0 ≤ a ∧ a < (A.1 : Int) ∧ km_kd A a = (k : Int)) ∧ km_E M1 (.inr (.inr a) :: vs) A m (fun v A' m' => km_G M (pc + 3) ls (v.toList ++ rest) A' m' Q) := by
  have e : (10 + (M1.2.1 : Int)) = (k : Int) := by omega
  rw [e] at hok
  have hx : km_ex M (.invokespecial j) pc (pc + 3) ls st A m = km_call (km_mt M.2.1 j) 2 (pc + 3) st A M.2.2.2.2.2.1 := by simp only [km_ex]; rw [if_neg (by rw [ho]; decide)]
  by_cases q : 0 ≤ a ∧ a < (A.1 : Int) ∧ km_kd A a = (k : Int)
  · rw [kG_call (kind := 2) d hx hm (by rw [hok]; exact decide_eq_true q) has hre]
    exact ⟨fun z => ⟨q, z⟩, fun z => z.2⟩
  · rw [km_G.none (km_stepE d.1 d.2 (by rw [hx, hm]; unfold km_call; dsimp only; rw [if_neg (by rw [hok]; simpa using q)]))]
    exact ⟨fun z => z.elim, fun z => q z.1⟩
end GL
/-! ===== the world while the constructors run: k cells are made ===== -/
def km_s9 (k : Nat) : Nat := ((km_lnL.take k).map Int.toNat).sum
def km_Ap (k L : Nat) (R : km_Mm) : km_Al := (k, fun a => if 0 ≤ a ∧ a < (k : Int) then km_kdL.getD a.toNat (-2) else -2, fun a => if 0 ≤ a ∧ a < (k : Int) then km_lnL.getD a.toNat 0 else if a = -2 then (L : Int) else 0, R, k, km_s9 k)
def km_Rn (R : km_Mm) (k : Int) : km_Mm := fun b j => if b = k then -1 else R b j
def km_Rq (R : km_Mm) (k : Int) : km_Mm := fun b j => if b = k then k + 1 + j else R b j
def km_zr (k : Int) (m : km_Mm) : km_Mm := fun b j => if b = k then 0 else m b j
def km_zm (n k : Int) (m : km_Mm) : km_Mm := fun b j => if k ≤ b ∧ b ≤ k + n then 0 else m b j
theorem kp_1 {k L : Nat} {R : km_Mm} : (km_Ap k L R).1 = k := rfl
theorem kp_c {k L : Nat} {R : km_Mm} : (km_Ap k L R).2.2.2.2.1 = k := rfl
theorem kp_kdT {k L : Nat} {R : km_Mm} {a v : Int} (h : 0 ≤ a ∧ a < (k : Int) ∧ km_kdL.getD a.toNat (-2) = v) : (km_kd (km_Ap k L R) a = v) = True := by
  refine eq_true ?_
  show (if 0 ≤ a ∧ a < (k : Int) then km_kdL.getD a.toNat (-2) else -2) = v
  rw [if_pos ⟨h.1, h.2.1⟩, h.2.2]
theorem kp_new {k L sl : Nat} {R : km_Mm} {kd n : Int} (h : km_kdL.getD k (-2) = kd ∧ km_lnL.getD k 0 = n ∧ km_s9 k + sl = km_s9 (k + 1)) : km_new kd n sl (km_Ap k L R) = km_Ap (k + 1) L (km_Rn R (k : Int)) := by
  obtain ⟨h1, h2, h3⟩ := h
  unfold km_new km_Ap
  refine Prod.ext rfl (Prod.ext ?_ (Prod.ext ?_ (Prod.ext rfl (Prod.ext rfl h3))))
  · funext b
    show (if b = (k : Int) then kd else if 0 ≤ b ∧ b < (k : Int) then km_kdL.getD b.toNat (-2) else -2) = if 0 ≤ b ∧ b < ((k + 1 : Nat) : Int) then km_kdL.getD b.toNat (-2) else -2
    by_cases e : b = (k : Int)
    · rw [if_pos e, e, if_pos (by omega), Int.toNat_natCast, h1]
    · rw [if_neg e]
      by_cases z : 0 ≤ b ∧ b < (k : Int)
      · rw [if_pos z, if_pos (by omega)]
      · rw [if_neg z, if_neg (show ¬ (0 ≤ b ∧ b < ((k + 1 : Nat) : Int)) by omega)]
  · funext b
    show (if b = (k : Int) then n else if 0 ≤ b ∧ b < (k : Int) then km_lnL.getD b.toNat 0 else if b = -2 then (L : Int) else 0) = if 0 ≤ b ∧ b < ((k + 1 : Nat) : Int) then km_lnL.getD b.toNat 0 else if b = -2 then (L : Int) else 0
    by_cases e : b = (k : Int)
    · rw [if_pos e, e, if_pos (by omega), Int.toNat_natCast, h2]
    · rw [if_neg e]
      by_cases z : 0 ≤ b ∧ b < (k : Int)
      · rw [if_pos z, if_pos (by omega)]
      · rw [if_neg z, if_neg (show ¬ (0 ≤ b ∧ b < ((k + 1 : Nat) : Int)) by omega)]
theorem kp_mult {k L n kk : Nat} {R : km_Mm} (h : (km_kdL.getD k (-2) = 3 ∧ km_lnL.getD k 0 = (n : Int)) ∧ (∀ i : Fin n, km_kdL.getD (k + 1 + i.val) (-2) = 0 ∧ km_lnL.getD (k + 1 + i.val) 0 = (kk : Int)) ∧ km_s9 k + (n + n * kk) = km_s9 (k + 1 + n)) : km_mult n kk (km_Ap k L R) = km_Ap (k + 1 + n) L (km_Rq R (k : Int)) := by
  obtain ⟨⟨h1, h2⟩, h3, h4⟩ := h
  have f : ∀ b : Int, (k : Int) < b → b ≤ (k : Int) + n → km_kdL.getD b.toNat (-2) = 0 ∧ km_lnL.getD b.toNat 0 = (kk : Int) := fun b b0 b1 => by
    have := h3 ⟨b.toNat - (k + 1), by omega⟩
    rw [show k + 1 + (b.toNat - (k + 1)) = b.toNat by omega] at this
    exact this
  unfold km_mult km_Ap
  refine Prod.ext rfl (Prod.ext ?_ (Prod.ext ?_ (Prod.ext rfl (Prod.ext ?_ h4))))
  · funext b
    show (if b = (k : Int) then (3 : Int) else if (k : Int) < b ∧ b ≤ (k : Int) + n then 0 else if 0 ≤ b ∧ b < (k : Int) then km_kdL.getD b.toNat (-2) else -2) = if 0 ≤ b ∧ b < ((k + 1 + n : Nat) : Int) then km_kdL.getD b.toNat (-2) else -2
    by_cases e : b = (k : Int)
    · rw [if_pos e, e, if_pos (by omega), Int.toNat_natCast, h1]
    · rw [if_neg e]
      by_cases y : (k : Int) < b ∧ b ≤ (k : Int) + n
      · rw [if_pos y, if_pos (by omega), (f b y.1 y.2).1]
      · rw [if_neg y]
        by_cases z : 0 ≤ b ∧ b < (k : Int)
        · rw [if_pos z, if_pos (by omega)]
        · rw [if_neg z, if_neg (show ¬ (0 ≤ b ∧ b < ((k + 1 + n : Nat) : Int)) by omega)]
  · funext b
    show (if b = (k : Int) then (n : Int) else if (k : Int) < b ∧ b ≤ (k : Int) + n then (kk : Int) else if 0 ≤ b ∧ b < (k : Int) then km_lnL.getD b.toNat 0 else if b = -2 then (L : Int) else 0) = if 0 ≤ b ∧ b < ((k + 1 + n : Nat) : Int) then km_lnL.getD b.toNat 0 else if b = -2 then (L : Int) else 0
    by_cases e : b = (k : Int)
    · rw [if_pos e, e, if_pos (by omega), Int.toNat_natCast, h2]
    · rw [if_neg e]
      by_cases y : (k : Int) < b ∧ b ≤ (k : Int) + n
      · rw [if_pos y, if_pos (by omega), (f b y.1 y.2).2]
      · rw [if_neg y]
        by_cases z : 0 ≤ b ∧ b < (k : Int)
        · rw [if_pos z, if_pos (by omega)]
        · rw [if_neg z, if_neg (show ¬ (0 ≤ b ∧ b < ((k + 1 + n : Nat) : Int)) by omega)]
  · show k + (1 + n) = k + 1 + n
    omega
theorem kp_upR {k L : Nat} {R : km_Mm} {a i x : Int} : km_upR (km_Ap k L R) a i x = km_Ap k L (km_up R a i x) := rfl
theorem kp_z {k L : Nat} {R m : km_Mm} : km_zero (km_Ap k L R) m = km_zr (k : Int) m := rfl
theorem kp_zm {k L n : Nat} {R m : km_Mm} : km_zeros n (km_Ap k L R) m = km_zm (n : Int) (k : Int) m := rfl
theorem kp_fill {k L : Nat} {R m : km_Mm} {a v n : Int} (h0 : 0 ≤ a) (h1 : a < (k : Int)) (hk : km_kdL.getD a.toNat (-2) = 0) (hl : km_lnL.getD a.toNat 0 = n ∧ 0 ≤ n ∧ n ≤ 100000) (Q : Option km_V → km_Al → km_Mm → Prop) : km_E M_J7_fill_53178 [.inr (.inr a), .inl v] (km_Ap k L R) m Q ↔ Q none (km_Ap k L R) (km_fl2 m a 0 n v) := by
  have ek : km_kd (km_Ap k L R) a = 0 := by
    show (if 0 ≤ a ∧ a < (k : Int) then km_kdL.getD a.toNat (-2) else -2) = 0
    rw [if_pos ⟨h0, h1⟩, hk]
  have el : km_ln (km_Ap k L R) a = n := by
    show (if 0 ≤ a ∧ a < (k : Int) then km_lnL.getD a.toNat 0 else if a = -2 then (L : Int) else 0) = n
    rw [if_pos ⟨h0, h1⟩, hl.1]
  have := sp_fill (v := v) (A := km_Ap k L R) (m := m) h0 h1 ek (by rw [el]; exact hl.2)
  rw [el] at this
  exact km_E.rule this Q
theorem kp_lit : ((0 : Nat) : Int) = 0 ∧ ((1 : Nat) : Int) = 1 ∧ ((2 : Nat) : Int) = 2 ∧ ((3 : Nat) : Int) = 3 ∧ ((4 : Nat) : Int) = 4 ∧ ((5 : Nat) : Int) = 5 ∧ ((6 : Nat) : Int) = 6 ∧ ((7 : Nat) : Int) = 7 ∧ ((8 : Nat) : Int) = 8 ∧ ((9 : Nat) : Int) = 9 ∧ ((10 : Nat) : Int) = 10 ∧ ((11 : Nat) : Int) = 11 ∧ ((12 : Nat) : Int) = 12 ∧ ((13 : Nat) : Int) = 13 ∧ ((14 : Nat) : Int) = 14 ∧ ((15 : Nat) : Int) = 15 ∧ ((16 : Nat) : Int) = 16 ∧ ((17 : Nat) : Int) = 17 ∧ ((18 : Nat) : Int) = 18 ∧ ((19 : Nat) : Int) = 19 ∧ ((20 : Nat) : Int) = 20 ∧ ((21 : Nat) : Int) = 21 ∧ ((22 : Nat) : Int) = 22 ∧ ((23 : Nat) : Int) = 23 ∧ ((24 : Nat) : Int) = 24 ∧ ((25 : Nat) : Int) = 25 ∧ ((26 : Nat) : Int) = 26 ∧ ((27 : Nat) : Int) = 27 ∧ ((28 : Nat) : Int) = 28 ∧ ((29 : Nat) : Int) = 29 ∧ ((30 : Nat) : Int) = 30 ∧ ((31 : Nat) : Int) = 31 ∧ ((32 : Nat) : Int) = 32 ∧ ((33 : Nat) : Int) = 33 ∧ ((34 : Nat) : Int) = 34 ∧ ((35 : Nat) : Int) = 35 ∧ ((36 : Nat) : Int) = 36 ∧ ((37 : Nat) : Int) = 37 ∧ ((38 : Nat) : Int) = 38 ∧ ((39 : Nat) : Int) = 39 ∧ ((40 : Nat) : Int) = 40 ∧ ((41 : Nat) : Int) = 41 ∧ ((42 : Nat) : Int) = 42 ∧ ((43 : Nat) : Int) = 43 ∧ ((44 : Nat) : Int) = 44 ∧ ((45 : Nat) : Int) = 45 ∧ ((46 : Nat) : Int) = 46 ∧ ((47 : Nat) : Int) = 47 ∧ ((48 : Nat) : Int) = 48 ∧ ((49 : Nat) : Int) = 49 ∧ ((50 : Nat) : Int) = 50 ∧ ((51 : Nat) : Int) = 51 ∧ ((52 : Nat) : Int) = 52 ∧ ((53 : Nat) : Int) = 53 ∧ ((54 : Nat) : Int) = 54 ∧ ((55 : Nat) : Int) = 55 ∧ ((56 : Nat) : Int) = 56 ∧ ((57 : Nat) : Int) = 57 ∧ ((58 : Nat) : Int) = 58 ∧ ((59 : Nat) : Int) = 59 ∧ ((60 : Nat) : Int) = 60 ∧ ((61 : Nat) : Int) = 61 ∧ ((62 : Nat) : Int) = 62 ∧ ((63 : Nat) : Int) = 63 ∧ ((64 : Nat) : Int) = 64 ∧ ((65 : Nat) : Int) = 65 ∧ ((66 : Nat) : Int) = 66 ∧ ((67 : Nat) : Int) = 67 ∧ ((68 : Nat) : Int) = 68 ∧ ((69 : Nat) : Int) = 69 ∧ ((70 : Nat) : Int) = 70 ∧ ((71 : Nat) : Int) = 71 ∧ ((72 : Nat) : Int) = 72 ∧ ((73 : Nat) : Int) = 73 ∧ ((74 : Nat) : Int) = 74 ∧ ((75 : Nat) : Int) = 75 ∧ ((76 : Nat) : Int) = 76 ∧ ((77 : Nat) : Int) = 77 ∧ ((78 : Nat) : Int) = 78 ∧ ((79 : Nat) : Int) = 79 ∧ ((80 : Nat) : Int) = 80 ∧ ((81 : Nat) : Int) = 81 ∧ ((82 : Nat) : Int) = 82 ∧ ((83 : Nat) : Int) = 83 ∧ ((84 : Nat) : Int) = 84 ∧ ((85 : Nat) : Int) = 85 ∧ ((86 : Nat) : Int) = 86 ∧ ((87 : Nat) : Int) = 87 ∧ ((88 : Nat) : Int) = 88 ∧ ((89 : Nat) : Int) = 89 ∧ ((90 : Nat) : Int) = 90 ∧ ((91 : Nat) : Int) = 91 ∧ ((92 : Nat) : Int) = 92 ∧ ((93 : Nat) : Int) = 93 ∧ ((94 : Nat) : Int) = 94 ∧ ((95 : Nat) : Int) = 95 ∧ ((96 : Nat) : Int) = 96 ∧ ((97 : Nat) : Int) = 97 ∧ ((98 : Nat) : Int) = 98 ∧ ((99 : Nat) : Int) = 99 ∧ ((100 : Nat) : Int) = 100 ∧ ((101 : Nat) : Int) = 101 ∧ ((102 : Nat) : Int) = 102 ∧ ((103 : Nat) : Int) = 103 ∧ ((104 : Nat) : Int) = 104 ∧ ((105 : Nat) : Int) = 105 ∧ ((106 : Nat) : Int) = 106 ∧ ((107 : Nat) : Int) = 107 ∧ ((108 : Nat) : Int) = 108 ∧ ((109 : Nat) : Int) = 109 ∧ ((110 : Nat) : Int) = 110 ∧ ((111 : Nat) : Int) = 111 ∧ ((112 : Nat) : Int) = 112 ∧ ((113 : Nat) : Int) = 113 ∧ ((114 : Nat) : Int) = 114 ∧ ((115 : Nat) : Int) = 115 ∧ ((116 : Nat) : Int) = 116 ∧ ((117 : Nat) : Int) = 117 ∧ ((118 : Nat) : Int) = 118 ∧ ((119 : Nat) : Int) = 119 ∧ ((120 : Nat) : Int) = 120 ∧ ((121 : Nat) : Int) = 121 ∧ ((122 : Nat) : Int) = 122 ∧ ((123 : Nat) : Int) = 123 ∧ ((124 : Nat) : Int) = 124 ∧ ((125 : Nat) : Int) = 125 ∧ ((126 : Nat) : Int) = 126 ∧ ((127 : Nat) : Int) = 127 ∧ ((128 : Nat) : Int) = 128 ∧ ((129 : Nat) : Int) = 129 ∧ ((130 : Nat) : Int) = 130 ∧ ((131 : Nat) : Int) = 131 ∧ ((132 : Nat) : Int) = 132 ∧ ((133 : Nat) : Int) = 133 ∧ ((134 : Nat) : Int) = 134 ∧ ((135 : Nat) : Int) = 135 ∧ ((136 : Nat) : Int) = 136 ∧ ((137 : Nat) : Int) = 137 ∧ ((138 : Nat) : Int) = 138 ∧ ((139 : Nat) : Int) = 139 ∧ ((140 : Nat) : Int) = 140 ∧ ((141 : Nat) : Int) = 141 ∧ ((142 : Nat) : Int) = 142 ∧ ((143 : Nat) : Int) = 143 ∧ ((144 : Nat) : Int) = 144 ∧ ((145 : Nat) : Int) = 145 ∧ ((146 : Nat) : Int) = 146 ∧ ((147 : Nat) : Int) = 147 ∧ ((148 : Nat) : Int) = 148 ∧ ((149 : Nat) : Int) = 149 ∧ ((150 : Nat) : Int) = 150 ∧ ((151 : Nat) : Int) = 151 ∧ ((152 : Nat) : Int) = 152 ∧ ((153 : Nat) : Int) = 153 ∧ ((154 : Nat) : Int) = 154 ∧ ((155 : Nat) : Int) = 155 ∧ ((156 : Nat) : Int) = 156 ∧ ((157 : Nat) : Int) = 157 ∧ ((158 : Nat) : Int) = 158 ∧ ((159 : Nat) : Int) = 159 ∧ ((160 : Nat) : Int) = 160 ∧ ((161 : Nat) : Int) = 161 ∧ ((162 : Nat) : Int) = 162 ∧ ((163 : Nat) : Int) = 163 ∧ ((164 : Nat) : Int) = 164 ∧ ((165 : Nat) : Int) = 165 ∧ ((166 : Nat) : Int) = 166 ∧ ((167 : Nat) : Int) = 167 ∧ ((168 : Nat) : Int) = 168 ∧ ((169 : Nat) : Int) = 169 ∧ ((170 : Nat) : Int) = 170 ∧ ((171 : Nat) : Int) = 171 ∧ ((172 : Nat) : Int) = 172 ∧ ((173 : Nat) : Int) = 173 ∧ ((174 : Nat) : Int) = 174 ∧ ((175 : Nat) : Int) = 175 ∧ ((176 : Nat) : Int) = 176 ∧ ((177 : Nat) : Int) = 177 ∧ ((178 : Nat) : Int) = 178 ∧ ((179 : Nat) : Int) = 179 ∧ ((180 : Nat) : Int) = 180 ∧ ((181 : Nat) : Int) = 181 ∧ ((182 : Nat) : Int) = 182 ∧ ((183 : Nat) : Int) = 183 ∧ ((184 : Nat) : Int) = 184 ∧ ((185 : Nat) : Int) = 185 := ⟨rfl, rfl, rfl, rfl, rfl, rfl, rfl, rfl, rfl, rfl, rfl, rfl, rfl, rfl, rfl, rfl, rfl, rfl, rfl, rfl, rfl, rfl, rfl, rfl, rfl, rfl, rfl, rfl, rfl, rfl, rfl, rfl, rfl, rfl, rfl, rfl, rfl, rfl, rfl, rfl, rfl, rfl, rfl, rfl, rfl, rfl, rfl, rfl, rfl, rfl, rfl, rfl, rfl, rfl, rfl, rfl, rfl, rfl, rfl, rfl, rfl, rfl, rfl, rfl, rfl, rfl, rfl, rfl, rfl, rfl, rfl, rfl, rfl, rfl, rfl, rfl, rfl, rfl, rfl, rfl, rfl, rfl, rfl, rfl, rfl, rfl, rfl, rfl, rfl, rfl, rfl, rfl, rfl, rfl, rfl, rfl, rfl, rfl, rfl, rfl, rfl, rfl, rfl, rfl, rfl, rfl, rfl, rfl, rfl, rfl, rfl, rfl, rfl, rfl, rfl, rfl, rfl, rfl, rfl, rfl, rfl, rfl, rfl, rfl, rfl, rfl, rfl, rfl, rfl, rfl, rfl, rfl, rfl, rfl, rfl, rfl, rfl, rfl, rfl, rfl, rfl, rfl, rfl, rfl, rfl, rfl, rfl, rfl, rfl, rfl, rfl, rfl, rfl, rfl, rfl, rfl, rfl, rfl, rfl, rfl, rfl, rfl, rfl, rfl, rfl, rfl, rfl, rfl, rfl, rfl, rfl, rfl, rfl, rfl, rfl, rfl, rfl, rfl, rfl, rfl, rfl, rfl, rfl, rfl, rfl, rfl⟩
theorem kp_rf {k L : Nat} {R : km_Mm} {a i : Int} : km_rf (km_Ap k L R) a i = R a i := rfl
theorem kRn_o {R : km_Mm} {k b j : Int} (h : b ≠ k) : km_Rn R k b j = R b j := by unfold km_Rn; rw [if_neg h]
theorem kRq_o {R : km_Mm} {k b j : Int} (h : b ≠ k) : km_Rq R k b j = R b j := by unfold km_Rq; rw [if_neg h]
theorem kp_lnT {k L : Nat} {R : km_Mm} {a x : Int} (h : 0 ≤ a ∧ a < (k : Int) ∧ x < km_lnL.getD a.toNat 0) : (x < km_ln (km_Ap k L R) a) = True := by
  refine eq_true ?_
  show x < (if 0 ≤ a ∧ a < (k : Int) then km_lnL.getD a.toNat 0 else if a = -2 then (L : Int) else 0)
  rw [if_pos ⟨h.1, h.2.1⟩]
  exact h.2.2

