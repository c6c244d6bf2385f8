/-! ===== a line's expression, class and reference side by side ===== -/
theorem st_main {q qY : Nat × Int × Int × Int × Int} {c s : Nat} {P ln a0 n z0 u : Int} {B : Int → Int} (hP : kPq q P) : ∀ f : Nat, kI1 q qY c s P ln a0 z0 B n u f ∧ kI2 q qY c s P ln a0 z0 B n u f ∧ kI3 q qY c s P ln a0 z0 B n u f := by
  intro f
  induction f with
  | zero =>
    refine ⟨fun X Y N p k h e o hb t i ov hm S i0 ip => ?_, fun X Y N p k h e o hb t i ov hm S i0 ip => ?_, fun X Y N p k h e o t x w i hm S i0 ip => ?_⟩
    · have := S.1.1.1.2.2.2.2; omega
    · have := S.1.1.1.2.2.2.2; omega
    · have := S.1.1.1.2.2.2.2; omega
  | succ f ih =>
    obtain ⟨i1, i2, i3⟩ := ih
    refine ⟨fun X Y N p k h e o hb t i ov hm S i0 ip => ?_, fun X Y N p k h e o hb t i ov hm S i0 ip => ?_, fun X Y N p k h e o t x w i hm S i0 ip => ?_⟩
    · have j1 : kI1 q qY c s P ln a0 z0 B n u (n - p) := fun X Y N p k h e o hb t i ov hm S i0 ip => i1 X Y N p k h e o hb t i ov (by omega) S i0 ip
      have j2 : kI2 q qY c s P ln a0 z0 B n u (n - p) := fun X Y N p k h e o hb t i ov hm S i0 ip => i2 X Y N p k h e o hb t i ov (by omega) S i0 ip
      have j3 : kI3 q qY c s P ln a0 z0 B n u (n - p) := fun X Y N p k h e o t x w i hm S i0 ip => i3 X Y N p k h e o t x w i (by omega) S i0 ip
      have Tb := kcT_b (B := B) (n := n) (k := ksk B n 600 p)
      by_cases a2 : kcT B n (ksk B n 600 p) = 2
      · exact st_num hP j2 S ⟨i0, ip⟩ a2
      by_cases a4 : kcT B n (ksk B n 600 p) = 4
      · exact st_open hP j1 S ⟨i0, ip⟩ a4
      by_cases a7 : kcT B n (ksk B n 600 p) = 7
      · exact st_minus hP j1 S ⟨i0, ip⟩ a7
      by_cases a32 : 32 ≤ kcT B n (ksk B n 600 p)
      · exact st_name hP j2 S ⟨i0, ip⟩ rfl (by omega)
      by_cases a28 : 28 ≤ kcT B n (ksk B n 600 p)
      · exact st_heap hP j3 S ⟨i0, ip⟩ rfl (by omega)
      by_cases a26 : kcT B n (ksk B n 600 p) = 26 ∧ X 37 6 ≠ 0
      · exact st_not hP j1 S ⟨i0, ip⟩ a26.1 a26.2
      exact st_opno hP S ⟨i0, ip⟩ rfl (by omega)
    · have j1 : kI1 q qY c s P ln a0 z0 B n u (n - p) := fun X Y N p k h e o hb t i ov hm S i0 ip => i1 X Y N p k h e o hb t i ov (by omega) S i0 ip
      have j2 : kI2 q qY c s P ln a0 z0 B n u (n - p) := fun X Y N p k h e o hb t i ov hm S i0 ip => i2 X Y N p k h e o hb t i ov (by omega) S i0 ip
      by_cases a6 : 6 ≤ kcT B n (ksk B n 600 p) ∧ kcT B n (ksk B n 600 p) ≤ 16
      · exact st_sign hP j1 S ⟨i0, ip⟩ rfl a6
      by_cases a24 : kcT B n (ksk B n 600 p) = 24 ∨ kcT B n (ksk B n 600 p) = 25
      · exact st_join hP j1 S ⟨i0, ip⟩ rfl a24
      by_cases a5 : kcT B n (ksk B n 600 p) = 5 ∧ 1 ≤ o
      · exact st_close hP j2 S ⟨i0, ip⟩ a5.1 a5.2
      by_cases a3 : kcT B n (ksk B n 600 p) = 3 ∧ o = 0
      · exact st_semi hP S ⟨i0, ip⟩ a3.1 a3.2
      by_cases a27 : kcT B n (ksk B n 600 p) = 27 ∧ (0 < hb ∧ hb = o ∧ X 37 12 ≠ 31 ∧ X 37 14 = 0)
      · exact st_if hP j1 S ⟨i0, ip⟩ a27.1 a27.2
      have o0 : 0 ≤ o := by
        obtain ⟨_, a, g, t1, _, cx⟩ := S.2.2
        exact (kcx_b _ _ _ _ _ _ cx).2.2.2.1
      exact st_opbad hP S ⟨i0, ip⟩ rfl (by omega) (by omega) (fun w => by omega) (fun w => by omega) (fun w v => a27 ⟨w, v⟩)
    · have j1 : kI1 q qY c s P ln a0 z0 B n u (n - p) := fun X Y N p k h e o hb t i ov hm S i0 ip => i1 X Y N p k h e o hb t i ov (by omega) S i0 ip
      by_cases a4 : kcT B n (ksk B n 600 p) = 4
      · exact st_hopen hP j1 S ⟨i0, ip⟩ a4
      exact st_hno hP S ⟨i0, ip⟩ rfl a4

