def km_gw : List Cond := lw_tbl.filter goodWord
theorem km_sg1 : ∀ w ∈ tables_1_1, w ∈ lw_tbl := fun w h => List.mem_append_right _ (show w ∈ tables_1 from (List.mem_append_left _ h))
theorem km_in1 {w : Cond} (i : Nat) (h : tables_1_1[i]? = some w) (hg : goodWord w = true) : w ∈ km_gw := List.mem_filter.mpr ⟨km_sg1 w (List.mem_of_getElem? h), hg⟩
theorem km_sg2 : ∀ w ∈ tables_1_2, w ∈ lw_tbl := fun w h => List.mem_append_right _ (show w ∈ tables_1 from (List.mem_append_right _ (List.mem_append_left _ h)))
theorem km_in2 {w : Cond} (i : Nat) (h : tables_1_2[i]? = some w) (hg : goodWord w = true) : w ∈ km_gw := List.mem_filter.mpr ⟨km_sg2 w (List.mem_of_getElem? h), hg⟩
theorem km_sg3 : ∀ w ∈ tables_1_3, w ∈ lw_tbl := fun w h => List.mem_append_right _ (show w ∈ tables_1 from (List.mem_append_right _ (List.mem_append_right _ (List.mem_append_left _ h))))
theorem km_in3 {w : Cond} (i : Nat) (h : tables_1_3[i]? = some w) (hg : goodWord w = true) : w ∈ km_gw := List.mem_filter.mpr ⟨km_sg3 w (List.mem_of_getElem? h), hg⟩
theorem km_sg4 : ∀ w ∈ tables_1_4, w ∈ lw_tbl := fun w h => List.mem_append_right _ (show w ∈ tables_1 from (List.mem_append_right _ (List.mem_append_right _ (List.mem_append_right _ (List.mem_append_left _ h)))))
theorem km_in4 {w : Cond} (i : Nat) (h : tables_1_4[i]? = some w) (hg : goodWord w = true) : w ∈ km_gw := List.mem_filter.mpr ⟨km_sg4 w (List.mem_of_getElem? h), hg⟩
theorem km_sg5 : ∀ w ∈ tables_1_5, w ∈ lw_tbl := fun w h => List.mem_append_right _ (show w ∈ tables_1 from (List.mem_append_right _ (List.mem_append_right _ (List.mem_append_right _ (List.mem_append_right _ (List.mem_append_left _ h))))))
theorem km_in5 {w : Cond} (i : Nat) (h : tables_1_5[i]? = some w) (hg : goodWord w = true) : w ∈ km_gw := List.mem_filter.mpr ⟨km_sg5 w (List.mem_of_getElem? h), hg⟩
theorem km_sg6 : ∀ w ∈ tables_1_6, w ∈ lw_tbl := fun w h => List.mem_append_right _ (show w ∈ tables_1 from (List.mem_append_right _ (List.mem_append_right _ (List.mem_append_right _ (List.mem_append_right _ (List.mem_append_right _ (List.mem_append_left _ h)))))))
theorem km_in6 {w : Cond} (i : Nat) (h : tables_1_6[i]? = some w) (hg : goodWord w = true) : w ∈ km_gw := List.mem_filter.mpr ⟨km_sg6 w (List.mem_of_getElem? h), hg⟩
theorem km_sg7 : ∀ w ∈ tables_1_7, w ∈ lw_tbl := fun w h => List.mem_append_right _ (show w ∈ tables_1 from (List.mem_append_right _ (List.mem_append_right _ (List.mem_append_right _ (List.mem_append_right _ (List.mem_append_right _ (List.mem_append_right _ (List.mem_append_left _ h))))))))
theorem km_in7 {w : Cond} (i : Nat) (h : tables_1_7[i]? = some w) (hg : goodWord w = true) : w ∈ km_gw := List.mem_filter.mpr ⟨km_sg7 w (List.mem_of_getElem? h), hg⟩
theorem km_sg8 : ∀ w ∈ tables_1_8, w ∈ lw_tbl := fun w h => List.mem_append_right _ (show w ∈ tables_1 from (List.mem_append_right _ (List.mem_append_right _ (List.mem_append_right _ (List.mem_append_right _ (List.mem_append_right _ (List.mem_append_right _ (List.mem_append_right _ (List.mem_append_left _ h)))))))))
theorem km_in8 {w : Cond} (i : Nat) (h : tables_1_8[i]? = some w) (hg : goodWord w = true) : w ∈ km_gw := List.mem_filter.mpr ⟨km_sg8 w (List.mem_of_getElem? h), hg⟩
theorem km_sg9 : ∀ w ∈ tables_1_9, w ∈ lw_tbl := fun w h => List.mem_append_right _ (show w ∈ tables_1 from (List.mem_append_right _ (List.mem_append_right _ (List.mem_append_right _ (List.mem_append_right _ (List.mem_append_right _ (List.mem_append_right _ (List.mem_append_right _ (List.mem_append_right _ (List.mem_append_left _ h))))))))))
theorem km_in9 {w : Cond} (i : Nat) (h : tables_1_9[i]? = some w) (hg : goodWord w = true) : w ∈ km_gw := List.mem_filter.mpr ⟨km_sg9 w (List.mem_of_getElem? h), hg⟩
theorem km_sg10 : ∀ w ∈ tables_1_10, w ∈ lw_tbl := fun w h => List.mem_append_right _ (show w ∈ tables_1 from (List.mem_append_right _ (List.mem_append_right _ (List.mem_append_right _ (List.mem_append_right _ (List.mem_append_right _ (List.mem_append_right _ (List.mem_append_right _ (List.mem_append_right _ (List.mem_append_right _ h))))))))))
theorem km_in10 {w : Cond} (i : Nat) (h : tables_1_10[i]? = some w) (hg : goodWord w = true) : w ∈ km_gw := List.mem_filter.mpr ⟨km_sg10 w (List.mem_of_getElem? h), hg⟩
theorem km_inp1 {y : MethodName} (i : Nat) (h : (lw_privs_1[i]?).map (fun q => q.1) = some y) : Cond.selects y.cls y y ∈ km_gw := by
  cases hq : lw_privs_1[i]? with
  | none => rw [hq] at h; cases h
  | some q =>
    rw [hq] at h
    cases h
    exact List.mem_filter.mpr ⟨List.mem_append_left _ (List.mem_map.mpr ⟨q, (have h := List.mem_of_getElem? hq; show q ∈ lw_privs from (List.mem_append_left _ h)), rfl⟩), rfl⟩
theorem km_inp2 {y : MethodName} (i : Nat) (h : (lw_privs_2[i]?).map (fun q => q.1) = some y) : Cond.selects y.cls y y ∈ km_gw := by
  cases hq : lw_privs_2[i]? with
  | none => rw [hq] at h; cases h
  | some q =>
    rw [hq] at h
    cases h
    exact List.mem_filter.mpr ⟨List.mem_append_left _ (List.mem_map.mpr ⟨q, (have h := List.mem_of_getElem? hq; show q ∈ lw_privs from (List.mem_append_right _ (List.mem_append_left _ h))), rfl⟩), rfl⟩
theorem km_inp3 {y : MethodName} (i : Nat) (h : (lw_privs_3[i]?).map (fun q => q.1) = some y) : Cond.selects y.cls y y ∈ km_gw := by
  cases hq : lw_privs_3[i]? with
  | none => rw [hq] at h; cases h
  | some q =>
    rw [hq] at h
    cases h
    exact List.mem_filter.mpr ⟨List.mem_append_left _ (List.mem_map.mpr ⟨q, (have h := List.mem_of_getElem? hq; show q ∈ lw_privs from (List.mem_append_right _ (List.mem_append_right _ (List.mem_append_left _ h)))), rfl⟩), rfl⟩
theorem km_inp4 {y : MethodName} (i : Nat) (h : (lw_privs_4[i]?).map (fun q => q.1) = some y) : Cond.selects y.cls y y ∈ km_gw := by
  cases hq : lw_privs_4[i]? with
  | none => rw [hq] at h; cases h
  | some q =>
    rw [hq] at h
    cases h
    exact List.mem_filter.mpr ⟨List.mem_append_left _ (List.mem_map.mpr ⟨q, (have h := List.mem_of_getElem? hq; show q ∈ lw_privs from (List.mem_append_right _ (List.mem_append_right _ (List.mem_append_right _ (List.mem_append_left _ h))))), rfl⟩), rfl⟩
theorem km_inp5 {y : MethodName} (i : Nat) (h : (lw_privs_5[i]?).map (fun q => q.1) = some y) : Cond.selects y.cls y y ∈ km_gw := by
  cases hq : lw_privs_5[i]? with
  | none => rw [hq] at h; cases h
  | some q =>
    rw [hq] at h
    cases h
    exact List.mem_filter.mpr ⟨List.mem_append_left _ (List.mem_map.mpr ⟨q, (have h := List.mem_of_getElem? hq; show q ∈ lw_privs from (List.mem_append_right _ (List.mem_append_right _ (List.mem_append_right _ (List.mem_append_right _ (List.mem_append_left _ h)))))), rfl⟩), rfl⟩
theorem km_inp6 {y : MethodName} (i : Nat) (h : (lw_privs_6[i]?).map (fun q => q.1) = some y) : Cond.selects y.cls y y ∈ km_gw := by
  cases hq : lw_privs_6[i]? with
  | none => rw [hq] at h; cases h
  | some q =>
    rw [hq] at h
    cases h
    exact List.mem_filter.mpr ⟨List.mem_append_left _ (List.mem_map.mpr ⟨q, (have h := List.mem_of_getElem? hq; show q ∈ lw_privs from (List.mem_append_right _ (List.mem_append_right _ (List.mem_append_right _ (List.mem_append_right _ (List.mem_append_right _ (List.mem_append_left _ h))))))), rfl⟩), rfl⟩
theorem km_inp7 {y : MethodName} (i : Nat) (h : (lw_privs_7[i]?).map (fun q => q.1) = some y) : Cond.selects y.cls y y ∈ km_gw := by
  cases hq : lw_privs_7[i]? with
  | none => rw [hq] at h; cases h
  | some q =>
    rw [hq] at h
    cases h
    exact List.mem_filter.mpr ⟨List.mem_append_left _ (List.mem_map.mpr ⟨q, (have h := List.mem_of_getElem? hq; show q ∈ lw_privs from (List.mem_append_right _ (List.mem_append_right _ (List.mem_append_right _ (List.mem_append_right _ (List.mem_append_right _ (List.mem_append_right _ (List.mem_append_left _ h)))))))), rfl⟩), rfl⟩
theorem km_inp8 {y : MethodName} (i : Nat) (h : (lw_privs_8[i]?).map (fun q => q.1) = some y) : Cond.selects y.cls y y ∈ km_gw := by
  cases hq : lw_privs_8[i]? with
  | none => rw [hq] at h; cases h
  | some q =>
    rw [hq] at h
    cases h
    exact List.mem_filter.mpr ⟨List.mem_append_left _ (List.mem_map.mpr ⟨q, (have h := List.mem_of_getElem? hq; show q ∈ lw_privs from (List.mem_append_right _ (List.mem_append_right _ (List.mem_append_right _ (List.mem_append_right _ (List.mem_append_right _ (List.mem_append_right _ (List.mem_append_right _ (List.mem_append_left _ h))))))))), rfl⟩), rfl⟩
theorem km_inp9 {y : MethodName} (i : Nat) (h : (lw_privs_9[i]?).map (fun q => q.1) = some y) : Cond.selects y.cls y y ∈ km_gw := by
  cases hq : lw_privs_9[i]? with
  | none => rw [hq] at h; cases h
  | some q =>
    rw [hq] at h
    cases h
    exact List.mem_filter.mpr ⟨List.mem_append_left _ (List.mem_map.mpr ⟨q, (have h := List.mem_of_getElem? hq; show q ∈ lw_privs from (List.mem_append_right _ (List.mem_append_right _ (List.mem_append_right _ (List.mem_append_right _ (List.mem_append_right _ (List.mem_append_right _ (List.mem_append_right _ (List.mem_append_right _ h))))))))), rfl⟩), rfl⟩
def km_cnL : List String := [RX0, RX1, RX2, RX3, RX4, RX5, RX6, RX7, RX8, RX9, RX10, RX11, RX12, RL, RJ6, RJ9, RJ7, RJ10, RJ0]
def km_cn (o : Nat) : String := km_cnL.getD o ""
/-- what the tables say of a method -/
def km_ok (M : km_Md) : Prop := plainName M.2.2.1.cls = true ∧ Cond.code M.2.2.1 M.1 M.2.2.2.1 M.2.2.2.2.1 ∈ km_gw ∧ Cond.initialized M.2.2.1.cls ∈ km_gw ∧
  (M.2.2.1.cls ≠ "java/lang/invoke/MethodHandle" ∧ M.2.2.1.cls ≠ "java/lang/invoke/VarHandle" ∧ (parseMethodDescriptor M.2.2.1.desc).map (fun d => d.parameters.length) = some M.2.2.2.2.2.2.1) ∧ M.2.2.1.cls = km_cn M.2.1 ∧ M.2.2.2.1 ≤ 21 ∧
  (M.2.2.2.2.2.2.2 % 10 = 0 → Cond.instanceMethod M.2.2.1 ∈ km_gw ∧ Cond.selects (km_cn M.2.1) M.2.2.1 M.2.2.1 ∈ km_gw) ∧ (M.2.2.2.2.2.2.2 % 10 = 1 → Cond.static M.2.2.1 ∈ km_gw) ∧ (M.2.2.2.2.2.2.2 % 10 = 2 → M.2.2.1.name = "<init>" ∧ Cond.instanceMethod M.2.2.1 ∈ km_gw ∧ M.2.2.2.2.1 = none)
theorem km_ini0 : Cond.initialized RX0 ∈ km_gw := (km_in1 8 rfl rfl)
theorem km_ini1 : Cond.initialized RX1 ∈ km_gw := (km_in1 3 rfl rfl)
theorem km_ini2 : Cond.initialized RX2 ∈ km_gw := (km_in1 9 rfl rfl)
theorem km_ini3 : Cond.initialized RX3 ∈ km_gw := (km_in1 11 rfl rfl)
theorem km_ini4 : Cond.initialized RX4 ∈ km_gw := (km_in1 10 rfl rfl)
theorem km_ini5 : Cond.initialized RX5 ∈ km_gw := (km_in1 12 rfl rfl)
theorem km_ini6 : Cond.initialized RX6 ∈ km_gw := (km_in1 4 rfl rfl)
theorem km_ini7 : Cond.initialized RX7 ∈ km_gw := (km_in1 5 rfl rfl)
theorem km_ini8 : Cond.initialized RX8 ∈ km_gw := (km_in1 6 rfl rfl)
theorem km_ini9 : Cond.initialized RX9 ∈ km_gw := (km_in1 13 rfl rfl)
theorem km_ini10 : Cond.initialized RX10 ∈ km_gw := (km_in1 2 rfl rfl)
theorem km_ini11 : Cond.initialized RX11 ∈ km_gw := (km_in1 1 rfl rfl)
theorem km_ini12 : Cond.initialized RX12 ∈ km_gw := (km_in1 14 rfl rfl)
theorem km_ini13 : Cond.initialized RL ∈ km_gw := (km_in1 0 rfl rfl)
theorem km_ini14 : Cond.initialized RJ6 ∈ km_gw := (km_in1 21 rfl rfl)
theorem km_ini15 : Cond.initialized RJ9 ∈ km_gw := (km_in1 15 rfl rfl)
theorem km_ini16 : Cond.initialized RJ7 ∈ km_gw := (km_in1 7 rfl rfl)
theorem km_ini17 : Cond.initialized RJ10 ∈ km_gw := (km_in1 22 rfl rfl)
theorem km_ini18 : Cond.initialized RJ0 ∈ km_gw := (km_in1 16 rfl rfl)
theorem ok_X0_addMaybe : km_ok M_X0_addMaybe := ⟨by decide +kernel, (km_in4 219 rfl rfl), km_ini0, ⟨by decide +kernel, by decide +kernel, by decide +kernel⟩, by decide +kernel, by decide, (fun _ => ⟨(km_in4 218 rfl rfl), (km_inp2 (y := yX0_addMaybe) 10 rfl)⟩), (fun h => absurd h (by decide)), (fun h => absurd h (by decide))⟩
theorem ok_X0_tells : km_ok M_X0_tells := ⟨by decide +kernel, (km_in4 209 rfl rfl), km_ini0, ⟨by decide +kernel, by decide +kernel, by decide +kernel⟩, by decide +kernel, by decide, (fun h => absurd h (by decide)), (fun _ => (km_in4 208 rfl rfl)), (fun h => absurd h (by decide))⟩
theorem ok_X0_weigh : km_ok M_X0_weigh := ⟨by decide +kernel, (km_in5 2 rfl rfl), km_ini0, ⟨by decide +kernel, by decide +kernel, by decide +kernel⟩, by decide +kernel, by decide, (fun _ => ⟨(km_in5 1 rfl rfl), (km_inp2 (y := yX0_weigh) 14 rfl)⟩), (fun h => absurd h (by decide)), (fun h => absurd h (by decide))⟩
theorem ok_X0_init : km_ok M_X0_init := ⟨by decide +kernel, (km_in2 43 rfl rfl), km_ini0, ⟨by decide +kernel, by decide +kernel, by decide +kernel⟩, by decide +kernel, by decide, (fun h => absurd h (by decide)), (fun h => absurd h (by decide)), (fun _ => ⟨by decide +kernel, (km_in2 42 rfl rfl), rfl⟩)⟩
theorem ok_X0_climb : km_ok M_X0_climb := ⟨by decide +kernel, (km_in4 238 rfl rfl), km_ini0, ⟨by decide +kernel, by decide +kernel, by decide +kernel⟩, by decide +kernel, by decide, (fun _ => ⟨(km_in4 237 rfl rfl), (km_inp2 (y := yX0_climb) 13 rfl)⟩), (fun h => absurd h (by decide)), (fun h => absurd h (by decide))⟩
theorem ok_X0_enter : km_ok M_X0_enter := ⟨by decide +kernel, (km_in4 227 rfl rfl), km_ini0, ⟨by decide +kernel, by decide +kernel, by decide +kernel⟩, by decide +kernel, by decide, (fun _ => ⟨(km_in4 226 rfl rfl), (km_inp2 (y := yX0_enter) 11 rfl)⟩), (fun h => absurd h (by decide)), (fun h => absurd h (by decide))⟩
theorem ok_X0_read : km_ok M_X0_read := ⟨by decide +kernel, (km_in4 205 rfl rfl), km_ini0, ⟨by decide +kernel, by decide +kernel, by decide +kernel⟩, by decide +kernel, by decide, (fun _ => ⟨(km_in4 203 rfl rfl), (km_in4 204 rfl rfl)⟩), (fun h => absurd h (by decide)), (fun h => absurd h (by decide))⟩
theorem ok_X0_findNear : km_ok M_X0_findNear := ⟨by decide +kernel, (km_in4 234 rfl rfl), km_ini0, ⟨by decide +kernel, by decide +kernel, by decide +kernel⟩, by decide +kernel, by decide, (fun _ => ⟨(km_in4 233 rfl rfl), (km_inp2 (y := yX0_findNear) 12 rfl)⟩), (fun h => absurd h (by decide)), (fun h => absurd h (by decide))⟩
theorem ok_X0_overWorlds : km_ok M_X0_overWorlds := ⟨by decide +kernel, (km_in5 6 rfl rfl), km_ini0, ⟨by decide +kernel, by decide +kernel, by decide +kernel⟩, by decide +kernel, by decide, (fun _ => ⟨(km_in5 4 rfl rfl), (km_in5 5 rfl rfl)⟩), (fun h => absurd h (by decide)), (fun h => absurd h (by decide))⟩
theorem ok_X0_sureNear : km_ok M_X0_sureNear := ⟨by decide +kernel, (km_in4 223 rfl rfl), km_ini0, ⟨by decide +kernel, by decide +kernel, by decide +kernel⟩, by decide +kernel, by decide, (fun _ => ⟨(km_in4 221 rfl rfl), (km_in4 222 rfl rfl)⟩), (fun h => absurd h (by decide)), (fun h => absurd h (by decide))⟩
theorem ok_X1_addKin : km_ok M_X1_addKin := ⟨by decide +kernel, (km_in4 155 rfl rfl), km_ini1, ⟨by decide +kernel, by decide +kernel, by decide +kernel⟩, by decide +kernel, by decide, (fun _ => ⟨(km_in4 153 rfl rfl), (km_in4 154 rfl rfl)⟩), (fun h => absurd h (by decide)), (fun h => absurd h (by decide))⟩
theorem ok_X1_addNote : km_ok M_X1_addNote := ⟨by decide +kernel, (km_in4 179 rfl rfl), km_ini1, ⟨by decide +kernel, by decide +kernel, by decide +kernel⟩, by decide +kernel, by decide, (fun _ => ⟨(km_in4 177 rfl rfl), (km_in4 178 rfl rfl)⟩), (fun h => absurd h (by decide)), (fun h => absurd h (by decide))⟩
theorem ok_X1_ageIn : km_ok M_X1_ageIn := ⟨by decide +kernel, (km_in5 20 rfl rfl), km_ini1, ⟨by decide +kernel, by decide +kernel, by decide +kernel⟩, by decide +kernel, by decide, (fun _ => ⟨(km_in5 18 rfl rfl), (km_in5 19 rfl rfl)⟩), (fun h => absurd h (by decide)), (fun h => absurd h (by decide))⟩
theorem ok_X1_isAlive : km_ok M_X1_isAlive := ⟨by decide +kernel, (km_in5 98 rfl rfl), km_ini1, ⟨by decide +kernel, by decide +kernel, by decide +kernel⟩, by decide +kernel, by decide, (fun _ => ⟨(km_in5 96 rfl rfl), (km_in5 97 rfl rfl)⟩), (fun h => absurd h (by decide)), (fun h => absurd h (by decide))⟩
theorem ok_X1_isKin : km_ok M_X1_isKin := ⟨by decide +kernel, (km_in4 163 rfl rfl), km_ini1, ⟨by decide +kernel, by decide +kernel, by decide +kernel⟩, by decide +kernel, by decide, (fun _ => ⟨(km_in4 161 rfl rfl), (km_in4 162 rfl rfl)⟩), (fun h => absurd h (by decide)), (fun h => absurd h (by decide))⟩
theorem ok_X1_isKnown : km_ok M_X1_isKnown := ⟨by decide +kernel, (km_in4 191 rfl rfl), km_ini1, ⟨by decide +kernel, by decide +kernel, by decide +kernel⟩, by decide +kernel, by decide, (fun _ => ⟨(km_in4 189 rfl rfl), (km_in4 190 rfl rfl)⟩), (fun h => absurd h (by decide)), (fun h => absurd h (by decide))⟩
theorem ok_X1_isOf : km_ok M_X1_isOf := ⟨by decide +kernel, (km_in5 28 rfl rfl), km_ini1, ⟨by decide +kernel, by decide +kernel, by decide +kernel⟩, by decide +kernel, by decide, (fun _ => ⟨(km_in5 27 rfl rfl), (km_inp2 (y := yX1_isOf) 15 rfl)⟩), (fun h => absurd h (by decide)), (fun h => absurd h (by decide))⟩
theorem ok_X1_isYear : km_ok M_X1_isYear := ⟨by decide +kernel, (km_in4 175 rfl rfl), km_ini1, ⟨by decide +kernel, by decide +kernel, by decide +kernel⟩, by decide +kernel, by decide, (fun h => absurd h (by decide)), (fun _ => (km_in4 174 rfl rfl)), (fun h => absurd h (by decide))⟩
theorem ok_X1_livesIn : km_ok M_X1_livesIn := ⟨by decide +kernel, (km_in5 16 rfl rfl), km_ini1, ⟨by decide +kernel, by decide +kernel, by decide +kernel⟩, by decide +kernel, by decide, (fun _ => ⟨(km_in5 14 rfl rfl), (km_in5 15 rfl rfl)⟩), (fun h => absurd h (by decide)), (fun h => absurd h (by decide))⟩
theorem ok_X1_strikeOut : km_ok M_X1_strikeOut := ⟨by decide +kernel, (km_in4 200 rfl rfl), km_ini1, ⟨by decide +kernel, by decide +kernel, by decide +kernel⟩, by decide +kernel, by decide, (fun _ => ⟨(km_in4 199 rfl rfl), (km_inp2 (y := yX1_strikeOut) 9 rfl)⟩), (fun h => absurd h (by decide)), (fun h => absurd h (by decide))⟩
theorem ok_X1_withTrait : km_ok M_X1_withTrait := ⟨by decide +kernel, (km_in6 78 rfl rfl), km_ini1, ⟨by decide +kernel, by decide +kernel, by decide +kernel⟩, by decide +kernel, by decide, (fun _ => ⟨(km_in6 76 rfl rfl), (km_in6 77 rfl rfl)⟩), (fun h => absurd h (by decide)), (fun h => absurd h (by decide))⟩
theorem ok_X1_init : km_ok M_X1_init := ⟨by decide +kernel, (km_in1 73 rfl rfl), km_ini1, ⟨by decide +kernel, by decide +kernel, by decide +kernel⟩, by decide +kernel, by decide, (fun h => absurd h (by decide)), (fun h => absurd h (by decide)), (fun _ => ⟨by decide +kernel, (km_in1 72 rfl rfl), rfl⟩)⟩
theorem ok_X1_coupleIn : km_ok M_X1_coupleIn := ⟨by decide +kernel, (km_in5 24 rfl rfl), km_ini1, ⟨by decide +kernel, by decide +kernel, by decide +kernel⟩, by decide +kernel, by decide, (fun _ => ⟨(km_in5 22 rfl rfl), (km_in5 23 rfl rfl)⟩), (fun h => absurd h (by decide)), (fun h => absurd h (by decide))⟩
theorem ok_X1_noteFits : km_ok M_X1_noteFits := ⟨by decide +kernel, (km_in4 171 rfl rfl), km_ini1, ⟨by decide +kernel, by decide +kernel, by decide +kernel⟩, by decide +kernel, by decide, (fun _ => ⟨(km_in4 169 rfl rfl), (km_in4 170 rfl rfl)⟩), (fun h => absurd h (by decide)), (fun h => absurd h (by decide))⟩
theorem ok_X1_people : km_ok M_X1_people := ⟨by decide +kernel, (km_in6 231 rfl rfl), km_ini1, ⟨by decide +kernel, by decide +kernel, by decide +kernel⟩, by decide +kernel, by decide, (fun _ => ⟨(km_in6 229 rfl rfl), (km_in6 230 rfl rfl)⟩), (fun h => absurd h (by decide)), (fun h => absurd h (by decide))⟩
theorem ok_X1_read : km_ok M_X1_read := ⟨by decide +kernel, (km_in4 195 rfl rfl), km_ini1, ⟨by decide +kernel, by decide +kernel, by decide +kernel⟩, by decide +kernel, by decide, (fun _ => ⟨(km_in4 193 rfl rfl), (km_in4 194 rfl rfl)⟩), (fun h => absurd h (by decide)), (fun h => absurd h (by decide))⟩
theorem ok_X1_readNow : km_ok M_X1_readNow := ⟨by decide +kernel, (km_in5 84 rfl rfl), km_ini1, ⟨by decide +kernel, by decide +kernel, by decide +kernel⟩, by decide +kernel, by decide, (fun _ => ⟨(km_in5 82 rfl rfl), (km_in5 83 rfl rfl)⟩), (fun h => absurd h (by decide)), (fun h => absurd h (by decide))⟩
theorem ok_X1_traitFits : km_ok M_X1_traitFits := ⟨by decide +kernel, (km_in4 149 rfl rfl), km_ini1, ⟨by decide +kernel, by decide +kernel, by decide +kernel⟩, by decide +kernel, by decide, (fun _ => ⟨(km_in4 147 rfl rfl), (km_in4 148 rfl rfl)⟩), (fun h => absurd h (by decide)), (fun h => absurd h (by decide))⟩
theorem ok_X2_addFlight : km_ok M_X2_addFlight := ⟨by decide +kernel, (km_in5 76 rfl rfl), km_ini2, ⟨by decide +kernel, by decide +kernel, by decide +kernel⟩, by decide +kernel, by decide, (fun _ => ⟨(km_in5 74 rfl rfl), (km_in5 75 rfl rfl)⟩), (fun h => absurd h (by decide)), (fun h => absurd h (by decide))⟩
theorem ok_X2_goAlong : km_ok M_X2_goAlong := ⟨by decide +kernel, (km_in5 124 rfl rfl), km_ini2, ⟨by decide +kernel, by decide +kernel, by decide +kernel⟩, by decide +kernel, by decide, (fun _ => ⟨(km_in5 123 rfl rfl), (km_inp3 (y := yX2_goAlong) 3 rfl)⟩), (fun h => absurd h (by decide)), (fun h => absurd h (by decide))⟩
theorem ok_X2_tryFlight : km_ok M_X2_tryFlight := ⟨by decide +kernel, (km_in5 120 rfl rfl), km_ini2, ⟨by decide +kernel, by decide +kernel, by decide +kernel⟩, by decide +kernel, by decide, (fun _ => ⟨(km_in5 119 rfl rfl), (km_inp3 (y := yX2_tryFlight) 2 rfl)⟩), (fun h => absurd h (by decide)), (fun h => absurd h (by decide))⟩
theorem ok_X2_init : km_ok M_X2_init := ⟨by decide +kernel, (km_in2 81 rfl rfl), km_ini2, ⟨by decide +kernel, by decide +kernel, by decide +kernel⟩, by decide +kernel, by decide, (fun h => absurd h (by decide)), (fun h => absurd h (by decide)), (fun _ => ⟨by decide +kernel, (km_in2 80 rfl rfl), rfl⟩)⟩
theorem ok_X2_clearWaiting : km_ok M_X2_clearWaiting := ⟨by decide +kernel, (km_in5 106 rfl rfl), km_ini2, ⟨by decide +kernel, by decide +kernel, by decide +kernel⟩, by decide +kernel, by decide, (fun _ => ⟨(km_in5 104 rfl rfl), (km_in5 105 rfl rfl)⟩), (fun h => absurd h (by decide)), (fun h => absurd h (by decide))⟩
theorem ok_X2_findWay : km_ok M_X2_findWay := ⟨by decide +kernel, (km_in5 115 rfl rfl), km_ini2, ⟨by decide +kernel, by decide +kernel, by decide +kernel⟩, by decide +kernel, by decide, (fun _ => ⟨(km_in5 114 rfl rfl), (km_inp3 (y := yX2_findWay) 1 rfl)⟩), (fun h => absurd h (by decide)), (fun h => absurd h (by decide))⟩
theorem ok_X2_carry : km_ok M_X2_carry := ⟨by decide +kernel, (km_in5 111 rfl rfl), km_ini2, ⟨by decide +kernel, by decide +kernel, by decide +kernel⟩, by decide +kernel, by decide, (fun _ => ⟨(km_in5 109 rfl rfl), (km_in5 110 rfl rfl)⟩), (fun h => absurd h (by decide)), (fun h => absurd h (by decide))⟩
theorem ok_X3_addRoom : km_ok M_X3_addRoom := ⟨by decide +kernel, (km_in6 44 rfl rfl), km_ini3, ⟨by decide +kernel, by decide +kernel, by decide +kernel⟩, by decide +kernel, by decide, (fun _ => ⟨(km_in6 42 rfl rfl), (km_in6 43 rfl rfl)⟩), (fun h => absurd h (by decide)), (fun h => absurd h (by decide))⟩
theorem ok_X3_addTable : km_ok M_X3_addTable := ⟨by decide +kernel, (km_in6 135 rfl rfl), km_ini3, ⟨by decide +kernel, by decide +kernel, by decide +kernel⟩, by decide +kernel, by decide, (fun _ => ⟨(km_in6 133 rfl rfl), (km_in6 134 rfl rfl)⟩), (fun h => absurd h (by decide)), (fun h => absurd h (by decide))⟩
theorem ok_X3_isFeud : km_ok M_X3_isFeud := ⟨by decide +kernel, (km_in6 52 rfl rfl), km_ini3, ⟨by decide +kernel, by decide +kernel, by decide +kernel⟩, by decide +kernel, by decide, (fun _ => ⟨(km_in6 50 rfl rfl), (km_in6 51 rfl rfl)⟩), (fun h => absurd h (by decide)), (fun h => absurd h (by decide))⟩
theorem ok_X3_leastFrom : km_ok M_X3_leastFrom := ⟨by decide +kernel, (km_in6 107 rfl rfl), km_ini3, ⟨by decide +kernel, by decide +kernel, by decide +kernel⟩, by decide +kernel, by decide, (fun h => absurd h (by decide)), (fun _ => (km_in6 106 rfl rfl)), (fun h => absurd h (by decide))⟩
theorem ok_X3_nextSet : km_ok M_X3_nextSet := ⟨by decide +kernel, (km_in6 81 rfl rfl), km_ini3, ⟨by decide +kernel, by decide +kernel, by decide +kernel⟩, by decide +kernel, by decide, (fun h => absurd h (by decide)), (fun _ => (km_in6 80 rfl rfl)), (fun h => absurd h (by decide))⟩
theorem ok_X3_noteMovers : km_ok M_X3_noteMovers := ⟨by decide +kernel, (km_in6 91 rfl rfl), km_ini3, ⟨by decide +kernel, by decide +kernel, by decide +kernel⟩, by decide +kernel, by decide, (fun _ => ⟨(km_in6 90 rfl rfl), (km_inp4 (y := yX3_noteMovers) 7 rfl)⟩), (fun h => absurd h (by decide)), (fun h => absurd h (by decide))⟩
theorem ok_X3_turnFeud : km_ok M_X3_turnFeud := ⟨by decide +kernel, (km_in6 56 rfl rfl), km_ini3, ⟨by decide +kernel, by decide +kernel, by decide +kernel⟩, by decide +kernel, by decide, (fun _ => ⟨(km_in6 54 rfl rfl), (km_in6 55 rfl rfl)⟩), (fun h => absurd h (by decide)), (fun h => absurd h (by decide))⟩
theorem ok_X3_init : km_ok M_X3_init := ⟨by decide +kernel, (km_in2 186 rfl rfl), km_ini3, ⟨by decide +kernel, by decide +kernel, by decide +kernel⟩, by decide +kernel, by decide, (fun h => absurd h (by decide)), (fun h => absurd h (by decide)), (fun _ => ⟨by decide +kernel, (km_in2 185 rfl rfl), rfl⟩)⟩
theorem ok_X3_fillLeast : km_ok M_X3_fillLeast := ⟨by decide +kernel, (km_in6 104 rfl rfl), km_ini3, ⟨by decide +kernel, by decide +kernel, by decide +kernel⟩, by decide +kernel, by decide, (fun _ => ⟨(km_in6 103 rfl rfl), (km_inp4 (y := yX3_fillLeast) 10 rfl)⟩), (fun h => absurd h (by decide)), (fun h => absurd h (by decide))⟩
theorem ok_X3_firstFor : km_ok M_X3_firstFor := ⟨by decide +kernel, (km_in6 116 rfl rfl), km_ini3, ⟨by decide +kernel, by decide +kernel, by decide +kernel⟩, by decide +kernel, by decide, (fun _ => ⟨(km_in6 115 rfl rfl), (km_inp4 (y := yX3_firstFor) 12 rfl)⟩), (fun h => absurd h (by decide)), (fun h => absurd h (by decide))⟩
theorem ok_X3_forbidDiets : km_ok M_X3_forbidDiets := ⟨by decide +kernel, (km_in6 147 rfl rfl), km_ini3, ⟨by decide +kernel, by decide +kernel, by decide +kernel⟩, by decide +kernel, by decide, (fun _ => ⟨(km_in6 146 rfl rfl), (km_inp4 (y := yX3_forbidDiets) 13 rfl)⟩), (fun h => absurd h (by decide)), (fun h => absurd h (by decide))⟩
theorem ok_X3_pricePlace : km_ok M_X3_pricePlace := ⟨by decide +kernel, (km_in6 99 rfl rfl), km_ini3, ⟨by decide +kernel, by decide +kernel, by decide +kernel⟩, by decide +kernel, by decide, (fun _ => ⟨(km_in6 98 rfl rfl), (km_inp4 (y := yX3_pricePlace) 9 rfl)⟩), (fun h => absurd h (by decide)), (fun h => absurd h (by decide))⟩
theorem ok_X3_choose : km_ok M_X3_choose := ⟨by decide +kernel, (km_in6 112 rfl rfl), km_ini3, ⟨by decide +kernel, by decide +kernel, by decide +kernel⟩, by decide +kernel, by decide, (fun _ => ⟨(km_in6 111 rfl rfl), (km_inp4 (y := yX3_choose) 11 rfl)⟩), (fun h => absurd h (by decide)), (fun h => absurd h (by decide))⟩
theorem ok_X3_pairCouples : km_ok M_X3_pairCouples := ⟨by decide +kernel, (km_in6 72 rfl rfl), km_ini3, ⟨by decide +kernel, by decide +kernel, by decide +kernel⟩, by decide +kernel, by decide, (fun _ => ⟨(km_in6 71 rfl rfl), (km_inp4 (y := yX3_pairCouples) 6 rfl)⟩), (fun h => absurd h (by decide)), (fun h => absurd h (by decide))⟩
theorem ok_X3_arrange : km_ok M_X3_arrange := ⟨by decide +kernel, (km_in6 95 rfl rfl), km_ini3, ⟨by decide +kernel, by decide +kernel, by decide +kernel⟩, by decide +kernel, by decide, (fun _ => ⟨(km_in6 94 rfl rfl), (km_inp4 (y := yX3_arrange) 8 rfl)⟩), (fun h => absurd h (by decide)), (fun h => absurd h (by decide))⟩
theorem ok_X3_findBedding : km_ok M_X3_findBedding := ⟨by decide +kernel, (km_in6 68 rfl rfl), km_ini3, ⟨by decide +kernel, by decide +kernel, by decide +kernel⟩, by decide +kernel, by decide, (fun _ => ⟨(km_in6 66 rfl rfl), (km_in6 67 rfl rfl)⟩), (fun h => absurd h (by decide)), (fun h => absurd h (by decide))⟩
theorem ok_X3_findSeating : km_ok M_X3_findSeating := ⟨by decide +kernel, (km_in6 143 rfl rfl), km_ini3, ⟨by decide +kernel, by decide +kernel, by decide +kernel⟩, by decide +kernel, by decide, (fun _ => ⟨(km_in6 141 rfl rfl), (km_in6 142 rfl rfl)⟩), (fun h => absurd h (by decide)), (fun h => absurd h (by decide))⟩
theorem ok_X4_beginHeap : km_ok M_X4_beginHeap := ⟨by decide +kernel, (km_in5 182 rfl rfl), km_ini4, ⟨by decide +kernel, by decide +kernel, by decide +kernel⟩, by decide +kernel, by decide, (fun _ => ⟨(km_in5 181 rfl rfl), (km_inp3 (y := yX4_beginHeap) 12 rfl)⟩), (fun h => absurd h (by decide)), (fun h => absurd h (by decide))⟩
theorem ok_X4_compares : km_ok M_X4_compares := ⟨by decide +kernel, (km_in5 220 rfl rfl), km_ini4, ⟨by decide +kernel, by decide +kernel, by decide +kernel⟩, by decide +kernel, by decide, (fun h => absurd h (by decide)), (fun _ => (km_in5 219 rfl rfl)), (fun h => absurd h (by decide))⟩
theorem ok_X4_pop : km_ok M_X4_pop := ⟨by decide +kernel, (km_in5 174 rfl rfl), km_ini4, ⟨by decide +kernel, by decide +kernel, by decide +kernel⟩, by decide +kernel, by decide, (fun _ => ⟨(km_in5 173 rfl rfl), (km_inp3 (y := yX4_pop) 10 rfl)⟩), (fun h => absurd h (by decide)), (fun h => absurd h (by decide))⟩
theorem ok_X4_push : km_ok M_X4_push := ⟨by decide +kernel, (km_in5 165 rfl rfl), km_ini4, ⟨by decide +kernel, by decide +kernel, by decide +kernel⟩, by decide +kernel, by decide, (fun _ => ⟨(km_in5 164 rfl rfl), (km_inp3 (y := yX4_push) 8 rfl)⟩), (fun h => absurd h (by decide)), (fun h => absurd h (by decide))⟩
theorem ok_X4_quotient : km_ok M_X4_quotient := ⟨by decide +kernel, (km_in5 217 rfl rfl), km_ini4, ⟨by decide +kernel, by decide +kernel, by decide +kernel⟩, by decide +kernel, by decide, (fun _ => ⟨(km_in5 216 rfl rfl), (km_inp4 (y := yX4_quotient) 2 rfl)⟩), (fun h => absurd h (by decide)), (fun h => absurd h (by decide))⟩
theorem ok_X4_within : km_ok M_X4_within := ⟨by decide +kernel, (km_in5 194 rfl rfl), km_ini4, ⟨by decide +kernel, by decide +kernel, by decide +kernel⟩, by decide +kernel, by decide, (fun _ => ⟨(km_in5 193 rfl rfl), (km_inp3 (y := yX4_within) 15 rfl)⟩), (fun h => absurd h (by decide)), (fun h => absurd h (by decide))⟩
theorem ok_X4_init : km_ok M_X4_init := ⟨by decide +kernel, (km_in2 128 rfl rfl), km_ini4, ⟨by decide +kernel, by decide +kernel, by decide +kernel⟩, by decide +kernel, by decide, (fun h => absurd h (by decide)), (fun h => absurd h (by decide)), (fun _ => ⟨by decide +kernel, (km_in2 127 rfl rfl), rfl⟩)⟩
theorem ok_X4_goOnWithHeap : km_ok M_X4_goOnWithHeap := ⟨by decide +kernel, (km_in5 186 rfl rfl), km_ini4, ⟨by decide +kernel, by decide +kernel, by decide +kernel⟩, by decide +kernel, by decide, (fun _ => ⟨(km_in5 185 rfl rfl), (km_inp3 (y := yX4_goOnWithHeap) 13 rfl)⟩), (fun h => absurd h (by decide)), (fun h => absurd h (by decide))⟩
theorem ok_X4_joinLeft : km_ok M_X4_joinLeft := ⟨by decide +kernel, (km_in5 178 rfl rfl), km_ini4, ⟨by decide +kernel, by decide +kernel, by decide +kernel⟩, by decide +kernel, by decide, (fun _ => ⟨(km_in5 177 rfl rfl), (km_inp3 (y := yX4_joinLeft) 11 rfl)⟩), (fun h => absurd h (by decide)), (fun h => absurd h (by decide))⟩
theorem ok_X4_lookAtKin : km_ok M_X4_lookAtKin := ⟨by decide +kernel, (km_in5 145 rfl rfl), km_ini4, ⟨by decide +kernel, by decide +kernel, by decide +kernel⟩, by decide +kernel, by decide, (fun _ => ⟨(km_in5 144 rfl rfl), (km_inp3 (y := yX4_lookAtKin) 5 rfl)⟩), (fun h => absurd h (by decide)), (fun h => absurd h (by decide))⟩
theorem ok_X4_nameValue : km_ok M_X4_nameValue := ⟨by decide +kernel, (km_in5 169 rfl rfl), km_ini4, ⟨by decide +kernel, by decide +kernel, by decide +kernel⟩, by decide +kernel, by decide, (fun _ => ⟨(km_in5 168 rfl rfl), (km_inp3 (y := yX4_nameValue) 9 rfl)⟩), (fun h => absurd h (by decide)), (fun h => absurd h (by decide))⟩
theorem ok_X4_product : km_ok M_X4_product := ⟨by decide +kernel, (km_in5 210 rfl rfl), km_ini4, ⟨by decide +kernel, by decide +kernel, by decide +kernel⟩, by decide +kernel, by decide, (fun _ => ⟨(km_in5 209 rfl rfl), (km_inp4 (y := yX4_product) 1 rfl)⟩), (fun h => absurd h (by decide)), (fun h => absurd h (by decide))⟩
theorem ok_X4_takeIntoHeap : km_ok M_X4_takeIntoHeap := ⟨by decide +kernel, (km_in5 190 rfl rfl), km_ini4, ⟨by decide +kernel, by decide +kernel, by decide +kernel⟩, by decide +kernel, by decide, (fun _ => ⟨(km_in5 189 rfl rfl), (km_inp3 (y := yX4_takeIntoHeap) 14 rfl)⟩), (fun h => absurd h (by decide)), (fun h => absurd h (by decide))⟩
theorem ok_X4_doSign : km_ok M_X4_doSign := ⟨by decide +kernel, (km_in5 206 rfl rfl), km_ini4, ⟨by decide +kernel, by decide +kernel, by decide +kernel⟩, by decide +kernel, by decide, (fun _ => ⟨(km_in5 205 rfl rfl), (km_inp4 (y := yX4_doSign) 0 rfl)⟩), (fun h => absurd h (by decide)), (fun h => absurd h (by decide))⟩
theorem ok_X4_lookAtBranch : km_ok M_X4_lookAtBranch := ⟨by decide +kernel, (km_in6 237 rfl rfl), km_ini4, ⟨by decide +kernel, by decide +kernel, by decide +kernel⟩, by decide +kernel, by decide, (fun _ => ⟨(km_in6 235 rfl rfl), (km_in6 236 rfl rfl)⟩), (fun h => absurd h (by decide)), (fun h => absurd h (by decide))⟩
theorem ok_X4_lookAtOption : km_ok M_X4_lookAtOption := ⟨by decide +kernel, (km_in5 141 rfl rfl), km_ini4, ⟨by decide +kernel, by decide +kernel, by decide +kernel⟩, by decide +kernel, by decide, (fun _ => ⟨(km_in5 139 rfl rfl), (km_in5 140 rfl rfl)⟩), (fun h => absurd h (by decide)), (fun h => absurd h (by decide))⟩
theorem ok_X4_doStep : km_ok M_X4_doStep := ⟨by decide +kernel, (km_in5 161 rfl rfl), km_ini4, ⟨by decide +kernel, by decide +kernel, by decide +kernel⟩, by decide +kernel, by decide, (fun _ => ⟨(km_in5 160 rfl rfl), (km_inp3 (y := yX4_doStep) 7 rfl)⟩), (fun h => absurd h (by decide)), (fun h => absurd h (by decide))⟩
theorem ok_X4_value : km_ok M_X4_value := ⟨by decide +kernel, (km_in5 156 rfl rfl), km_ini4, ⟨by decide +kernel, by decide +kernel, by decide +kernel⟩, by decide +kernel, by decide, (fun _ => ⟨(km_in5 154 rfl rfl), (km_in5 155 rfl rfl)⟩), (fun h => absurd h (by decide)), (fun h => absurd h (by decide))⟩
theorem ok_X5_isGuest : km_ok M_X5_isGuest := ⟨by decide +kernel, (km_in6 35 rfl rfl), km_ini5, ⟨by decide +kernel, by decide +kernel, by decide +kernel⟩, by decide +kernel, by decide, (fun _ => ⟨(km_in6 33 rfl rfl), (km_in6 34 rfl rfl)⟩), (fun h => absurd h (by decide)), (fun h => absurd h (by decide))⟩
theorem ok_X5_isOn : km_ok M_X5_isOn := ⟨by decide +kernel, (km_in5 37 rfl rfl), km_ini5, ⟨by decide +kernel, by decide +kernel, by decide +kernel⟩, by decide +kernel, by decide, (fun _ => ⟨(km_in5 35 rfl rfl), (km_in5 36 rfl rfl)⟩), (fun h => absurd h (by decide)), (fun h => absurd h (by decide))⟩
theorem ok_X5_paidInAll : km_ok M_X5_paidInAll := ⟨by decide +kernel, (km_in6 180 rfl rfl), km_ini5, ⟨by decide +kernel, by decide +kernel, by decide +kernel⟩, by decide +kernel, by decide, (fun _ => ⟨(km_in6 178 rfl rfl), (km_in6 179 rfl rfl)⟩), (fun h => absurd h (by decide)), (fun h => absurd h (by decide))⟩
theorem ok_X5_init : km_ok M_X5_init := ⟨by decide +kernel, (km_in2 234 rfl rfl), km_ini5, ⟨by decide +kernel, by decide +kernel, by decide +kernel⟩, by decide +kernel, by decide, (fun h => absurd h (by decide)), (fun h => absurd h (by decide)), (fun _ => ⟨by decide +kernel, (km_in2 233 rfl rfl), rfl⟩)⟩
theorem ok_X5_close : km_ok M_X5_close := ⟨by decide +kernel, (km_in7 14 rfl rfl), km_ini5, ⟨by decide +kernel, by decide +kernel, by decide +kernel⟩, by decide +kernel, by decide, (fun _ => ⟨(km_in7 12 rfl rfl), (km_in7 13 rfl rfl)⟩), (fun h => absurd h (by decide)), (fun h => absurd h (by decide))⟩
theorem ok_X5_place : km_ok M_X5_place := ⟨by decide +kernel, (km_in6 123 rfl rfl), km_ini5, ⟨by decide +kernel, by decide +kernel, by decide +kernel⟩, by decide +kernel, by decide, (fun h => absurd h (by decide)), (fun _ => (km_in6 122 rfl rfl)), (fun h => absurd h (by decide))⟩
theorem ok_X5_keepBedding : km_ok M_X5_keepBedding := ⟨by decide +kernel, (km_in6 120 rfl rfl), km_ini5, ⟨by decide +kernel, by decide +kernel, by decide +kernel⟩, by decide +kernel, by decide, (fun _ => ⟨(km_in6 118 rfl rfl), (km_in6 119 rfl rfl)⟩), (fun h => absurd h (by decide)), (fun h => absurd h (by decide))⟩
theorem ok_X5_keepMeal : km_ok M_X5_keepMeal := ⟨by decide +kernel, (km_in6 151 rfl rfl), km_ini5, ⟨by decide +kernel, by decide +kernel, by decide +kernel⟩, by decide +kernel, by decide, (fun _ => ⟨(km_in6 149 rfl rfl), (km_in6 150 rfl rfl)⟩), (fun h => absurd h (by decide)), (fun h => absurd h (by decide))⟩
theorem ok_X6_beatsRest : km_ok M_X6_beatsRest := ⟨by decide +kernel, (km_in6 22 rfl rfl), km_ini6, ⟨by decide +kernel, by decide +kernel, by decide +kernel⟩, by decide +kernel, by decide, (fun _ => ⟨(km_in6 21 rfl rfl), (km_inp4 (y := yX6_beatsRest) 5 rfl)⟩), (fun h => absurd h (by decide)), (fun h => absurd h (by decide))⟩
theorem ok_X6_has : km_ok M_X6_has := ⟨by decide +kernel, (km_in5 68 rfl rfl), km_ini6, ⟨by decide +kernel, by decide +kernel, by decide +kernel⟩, by decide +kernel, by decide, (fun _ => ⟨(km_in5 66 rfl rfl), (km_in5 67 rfl rfl)⟩), (fun h => absurd h (by decide)), (fun h => absurd h (by decide))⟩
theorem ok_X6_setMiles : km_ok M_X6_setMiles := ⟨by decide +kernel, (km_in5 48 rfl rfl), km_ini6, ⟨by decide +kernel, by decide +kernel, by decide +kernel⟩, by decide +kernel, by decide, (fun _ => ⟨(km_in5 46 rfl rfl), (km_in5 47 rfl rfl)⟩), (fun h => absurd h (by decide)), (fun h => absurd h (by decide))⟩
theorem ok_X6_init : km_ok M_X6_init := ⟨by decide +kernel, (km_in1 138 rfl rfl), km_ini6, ⟨by decide +kernel, by decide +kernel, by decide +kernel⟩, by decide +kernel, by decide, (fun h => absurd h (by decide)), (fun h => absurd h (by decide)), (fun _ => ⟨by decide +kernel, (km_in1 137 rfl rfl), rfl⟩)⟩
theorem ok_X6_addOption : km_ok M_X6_addOption := ⟨by decide +kernel, (km_in5 59 rfl rfl), km_ini6, ⟨by decide +kernel, by decide +kernel, by decide +kernel⟩, by decide +kernel, by decide, (fun _ => ⟨(km_in5 57 rfl rfl), (km_in5 58 rfl rfl)⟩), (fun h => absurd h (by decide)), (fun h => absurd h (by decide))⟩
theorem ok_X6_regretInAll : km_ok M_X6_regretInAll := ⟨by decide +kernel, (km_in5 225 rfl rfl), km_ini6, ⟨by decide +kernel, by decide +kernel, by decide +kernel⟩, by decide +kernel, by decide, (fun _ => ⟨(km_in5 223 rfl rfl), (km_in5 224 rfl rfl)⟩), (fun h => absurd h (by decide)), (fun h => absurd h (by decide))⟩
theorem ok_X6_regretOf : km_ok M_X6_regretOf := ⟨by decide +kernel, (km_in5 94 rfl rfl), km_ini6, ⟨by decide +kernel, by decide +kernel, by decide +kernel⟩, by decide +kernel, by decide, (fun _ => ⟨(km_in5 92 rfl rfl), (km_in5 93 rfl rfl)⟩), (fun h => absurd h (by decide)), (fun h => absurd h (by decide))⟩
theorem ok_X6_beats : km_ok M_X6_beats := ⟨by decide +kernel, (km_in5 237 rfl rfl), km_ini6, ⟨by decide +kernel, by decide +kernel, by decide +kernel⟩, by decide +kernel, by decide, (fun _ => ⟨(km_in5 236 rfl rfl), (km_inp4 (y := yX6_beats) 3 rfl)⟩), (fun h => absurd h (by decide)), (fun h => absurd h (by decide))⟩
theorem ok_X6_whoCan : km_ok M_X6_whoCan := ⟨by decide +kernel, (km_in5 90 rfl rfl), km_ini6, ⟨by decide +kernel, by decide +kernel, by decide +kernel⟩, by decide +kernel, by decide, (fun _ => ⟨(km_in5 88 rfl rfl), (km_in5 89 rfl rfl)⟩), (fun h => absurd h (by decide)), (fun h => absurd h (by decide))⟩
theorem ok_X6_beatenBy : km_ok M_X6_beatenBy := ⟨by decide +kernel, (km_in5 233 rfl rfl), km_ini6, ⟨by decide +kernel, by decide +kernel, by decide +kernel⟩, by decide +kernel, by decide, (fun _ => ⟨(km_in5 231 rfl rfl), (km_in5 232 rfl rfl)⟩), (fun h => absurd h (by decide)), (fun h => absurd h (by decide))⟩
theorem ok_X6_leastRing : km_ok M_X6_leastRing := ⟨by decide +kernel, (km_in6 16 rfl rfl), km_ini6, ⟨by decide +kernel, by decide +kernel, by decide +kernel⟩, by decide +kernel, by decide, (fun _ => ⟨(km_in6 14 rfl rfl), (km_in6 15 rfl rfl)⟩), (fun h => absurd h (by decide)), (fun h => absurd h (by decide))⟩
theorem ok_X7_expectOperand : km_ok M_X7_expectOperand := ⟨by decide +kernel, (km_in4 63 rfl rfl), km_ini7, ⟨by decide +kernel, by decide +kernel, by decide +kernel⟩, by decide +kernel, by decide, (fun _ => ⟨(km_in4 62 rfl rfl), (km_inp1 (y := yX7_expectOperand) 8 rfl)⟩), (fun h => absurd h (by decide)), (fun h => absurd h (by decide))⟩
theorem ok_X7_fail : km_ok M_X7_fail := ⟨by decide +kernel, (km_in4 47 rfl rfl), km_ini7, ⟨by decide +kernel, by decide +kernel, by decide +kernel⟩, by decide +kernel, by decide, (fun _ => ⟨(km_in4 46 rfl rfl), (km_inp1 (y := yX7_fail) 6 rfl)⟩), (fun h => absurd h (by decide)), (fun h => absurd h (by decide))⟩
theorem ok_X7_keepWaiting : km_ok M_X7_keepWaiting := ⟨by decide +kernel, (km_in4 100 rfl rfl), km_ini7, ⟨by decide +kernel, by decide +kernel, by decide +kernel⟩, by decide +kernel, by decide, (fun _ => ⟨(km_in4 99 rfl rfl), (km_inp2 (y := yX7_keepWaiting) 0 rfl)⟩), (fun h => absurd h (by decide)), (fun h => absurd h (by decide))⟩
theorem ok_X7_lineOf : km_ok M_X7_lineOf := ⟨by decide +kernel, (km_in4 51 rfl rfl), km_ini7, ⟨by decide +kernel, by decide +kernel, by decide +kernel⟩, by decide +kernel, by decide, (fun _ => ⟨(km_in4 50 rfl rfl), (km_inp1 (y := yX7_lineOf) 7 rfl)⟩), (fun h => absurd h (by decide)), (fun h => absurd h (by decide))⟩
theorem ok_X7_namesHere : km_ok M_X7_namesHere := ⟨by decide +kernel, (km_in4 88 rfl rfl), km_ini7, ⟨by decide +kernel, by decide +kernel, by decide +kernel⟩, by decide +kernel, by decide, (fun _ => ⟨(km_in4 87 rfl rfl), (km_inp1 (y := yX7_namesHere) 13 rfl)⟩), (fun h => absurd h (by decide)), (fun h => absurd h (by decide))⟩
theorem ok_X7_strength : km_ok M_X7_strength := ⟨by decide +kernel, (km_in4 115 rfl rfl), km_ini7, ⟨by decide +kernel, by decide +kernel, by decide +kernel⟩, by decide +kernel, by decide, (fun h => absurd h (by decide)), (fun _ => (km_in4 114 rfl rfl)), (fun h => absurd h (by decide))⟩
theorem ok_X7_init : km_ok M_X7_init := ⟨by decide +kernel, (km_in1 174 rfl rfl), km_ini7, ⟨by decide +kernel, by decide +kernel, by decide +kernel⟩, by decide +kernel, by decide, (fun h => absurd h (by decide)), (fun h => absurd h (by decide)), (fun _ => ⟨by decide +kernel, (km_in1 173 rfl rfl), rfl⟩)⟩
theorem ok_X7_openBracket : km_ok M_X7_openBracket := ⟨by decide +kernel, (km_in4 96 rfl rfl), km_ini7, ⟨by decide +kernel, by decide +kernel, by decide +kernel⟩, by decide +kernel, by decide, (fun _ => ⟨(km_in4 95 rfl rfl), (km_inp1 (y := yX7_openBracket) 15 rfl)⟩), (fun h => absurd h (by decide)), (fun h => absurd h (by decide))⟩
theorem ok_X7_release : km_ok M_X7_release := ⟨by decide +kernel, (km_in4 119 rfl rfl), km_ini7, ⟨by decide +kernel, by decide +kernel, by decide +kernel⟩, by decide +kernel, by decide, (fun _ => ⟨(km_in4 118 rfl rfl), (km_inp2 (y := yX7_release) 4 rfl)⟩), (fun h => absurd h (by decide)), (fun h => absurd h (by decide))⟩
theorem ok_X7_takeLineWord : km_ok M_X7_takeLineWord := ⟨by decide +kernel, (km_in4 43 rfl rfl), km_ini7, ⟨by decide +kernel, by decide +kernel, by decide +kernel⟩, by decide +kernel, by decide, (fun _ => ⟨(km_in4 42 rfl rfl), (km_inp1 (y := yX7_takeLineWord) 5 rfl)⟩), (fun h => absurd h (by decide)), (fun h => absurd h (by decide))⟩
theorem ok_X7_tieKnot : km_ok M_X7_tieKnot := ⟨by decide +kernel, (km_in4 76 rfl rfl), km_ini7, ⟨by decide +kernel, by decide +kernel, by decide +kernel⟩, by decide +kernel, by decide, (fun _ => ⟨(km_in4 75 rfl rfl), (km_inp1 (y := yX7_tieKnot) 11 rfl)⟩), (fun h => absurd h (by decide)), (fun h => absurd h (by decide))⟩
theorem ok_X7_closeBracket : km_ok M_X7_closeBracket := ⟨by decide +kernel, (km_in4 127 rfl rfl), km_ini7, ⟨by decide +kernel, by decide +kernel, by decide +kernel⟩, by decide +kernel, by decide, (fun _ => ⟨(km_in4 126 rfl rfl), (km_inp2 (y := yX7_closeBracket) 6 rfl)⟩), (fun h => absurd h (by decide)), (fun h => absurd h (by decide))⟩
theorem ok_X7_takeAhead : km_ok M_X7_takeAhead := ⟨by decide +kernel, (km_in4 104 rfl rfl), km_ini7, ⟨by decide +kernel, by decide +kernel, by decide +kernel⟩, by decide +kernel, by decide, (fun _ => ⟨(km_in4 103 rfl rfl), (km_inp2 (y := yX7_takeAhead) 1 rfl)⟩), (fun h => absurd h (by decide)), (fun h => absurd h (by decide))⟩
theorem ok_X7_takeHeapOpening : km_ok M_X7_takeHeapOpening := ⟨by decide +kernel, (km_in4 136 rfl rfl), km_ini7, ⟨by decide +kernel, by decide +kernel, by decide +kernel⟩, by decide +kernel, by decide, (fun _ => ⟨(km_in4 135 rfl rfl), (km_inp2 (y := yX7_takeHeapOpening) 8 rfl)⟩), (fun h => absurd h (by decide)), (fun h => absurd h (by decide))⟩
theorem ok_X7_takeHeapWord : km_ok M_X7_takeHeapWord := ⟨by decide +kernel, (km_in4 92 rfl rfl), km_ini7, ⟨by decide +kernel, by decide +kernel, by decide +kernel⟩, by decide +kernel, by decide, (fun _ => ⟨(km_in4 91 rfl rfl), (km_inp1 (y := yX7_takeHeapWord) 14 rfl)⟩), (fun h => absurd h (by decide)), (fun h => absurd h (by decide))⟩
theorem ok_X7_takeIf : km_ok M_X7_takeIf := ⟨by decide +kernel, (km_in4 132 rfl rfl), km_ini7, ⟨by decide +kernel, by decide +kernel, by decide +kernel⟩, by decide +kernel, by decide, (fun _ => ⟨(km_in4 131 rfl rfl), (km_inp2 (y := yX7_takeIf) 7 rfl)⟩), (fun h => absurd h (by decide)), (fun h => absurd h (by decide))⟩
theorem ok_X7_takeJoin : km_ok M_X7_takeJoin := ⟨by decide +kernel, (km_in4 123 rfl rfl), km_ini7, ⟨by decide +kernel, by decide +kernel, by decide +kernel⟩, by decide +kernel, by decide, (fun _ => ⟨(km_in4 122 rfl rfl), (km_inp2 (y := yX7_takeJoin) 5 rfl)⟩), (fun h => absurd h (by decide)), (fun h => absurd h (by decide))⟩
theorem ok_X7_takeName : km_ok M_X7_takeName := ⟨by decide +kernel, (km_in4 84 rfl rfl), km_ini7, ⟨by decide +kernel, by decide +kernel, by decide +kernel⟩, by decide +kernel, by decide, (fun _ => ⟨(km_in4 83 rfl rfl), (km_inp1 (y := yX7_takeName) 12 rfl)⟩), (fun h => absurd h (by decide)), (fun h => absurd h (by decide))⟩
theorem ok_X7_takeNumber : km_ok M_X7_takeNumber := ⟨by decide +kernel, (km_in4 71 rfl rfl), km_ini7, ⟨by decide +kernel, by decide +kernel, by decide +kernel⟩, by decide +kernel, by decide, (fun _ => ⟨(km_in4 70 rfl rfl), (km_inp1 (y := yX7_takeNumber) 10 rfl)⟩), (fun h => absurd h (by decide)), (fun h => absurd h (by decide))⟩
theorem ok_X7_takeSign : km_ok M_X7_takeSign := ⟨by decide +kernel, (km_in4 112 rfl rfl), km_ini7, ⟨by decide +kernel, by decide +kernel, by decide +kernel⟩, by decide +kernel, by decide, (fun _ => ⟨(km_in4 111 rfl rfl), (km_inp2 (y := yX7_takeSign) 3 rfl)⟩), (fun h => absurd h (by decide)), (fun h => absurd h (by decide))⟩
theorem ok_X7_takeOperand : km_ok M_X7_takeOperand := ⟨by decide +kernel, (km_in4 67 rfl rfl), km_ini7, ⟨by decide +kernel, by decide +kernel, by decide +kernel⟩, by decide +kernel, by decide, (fun _ => ⟨(km_in4 66 rfl rfl), (km_inp1 (y := yX7_takeOperand) 9 rfl)⟩), (fun h => absurd h (by decide)), (fun h => absurd h (by decide))⟩
theorem ok_X7_takeOperator : km_ok M_X7_takeOperator := ⟨by decide +kernel, (km_in4 108 rfl rfl), km_ini7, ⟨by decide +kernel, by decide +kernel, by decide +kernel⟩, by decide +kernel, by decide, (fun _ => ⟨(km_in4 107 rfl rfl), (km_inp2 (y := yX7_takeOperator) 2 rfl)⟩), (fun h => absurd h (by decide)), (fun h => absurd h (by decide))⟩
theorem ok_X7_takeToken : km_ok M_X7_takeToken := ⟨by decide +kernel, (km_in4 39 rfl rfl), km_ini7, ⟨by decide +kernel, by decide +kernel, by decide +kernel⟩, by decide +kernel, by decide, (fun _ => ⟨(km_in4 38 rfl rfl), (km_inp1 (y := yX7_takeToken) 4 rfl)⟩), (fun h => absurd h (by decide)), (fun h => absurd h (by decide))⟩
theorem ok_X7_parse : km_ok M_X7_parse := ⟨by decide +kernel, (km_in3 130 rfl rfl), km_ini7, ⟨by decide +kernel, by decide +kernel, by decide +kernel⟩, by decide +kernel, by decide, (fun _ => ⟨(km_in3 128 rfl rfl), (km_in3 129 rfl rfl)⟩), (fun h => absurd h (by decide)), (fun h => absurd h (by decide))⟩
theorem ok_X8_begin : km_ok M_X8_begin := ⟨by decide +kernel, (km_in4 59 rfl rfl), km_ini8, ⟨by decide +kernel, by decide +kernel, by decide +kernel⟩, by decide +kernel, by decide, (fun _ => ⟨(km_in4 57 rfl rfl), (km_in4 58 rfl rfl)⟩), (fun h => absurd h (by decide)), (fun h => absurd h (by decide))⟩
theorem ok_X8_emit : km_ok M_X8_emit := ⟨by decide +kernel, (km_in4 80 rfl rfl), km_ini8, ⟨by decide +kernel, by decide +kernel, by decide +kernel⟩, by decide +kernel, by decide, (fun _ => ⟨(km_in4 78 rfl rfl), (km_in4 79 rfl rfl)⟩), (fun h => absurd h (by decide)), (fun h => absurd h (by decide))⟩
theorem ok_X8_has : km_ok M_X8_has := ⟨by decide +kernel, (km_in4 55 rfl rfl), km_ini8, ⟨by decide +kernel, by decide +kernel, by decide +kernel⟩, by decide +kernel, by decide, (fun _ => ⟨(km_in4 53 rfl rfl), (km_in4 54 rfl rfl)⟩), (fun h => absurd h (by decide)), (fun h => absurd h (by decide))⟩
theorem ok_X8_names : km_ok M_X8_names := ⟨by decide +kernel, (km_in5 137 rfl rfl), km_ini8, ⟨by decide +kernel, by decide +kernel, by decide +kernel⟩, by decide +kernel, by decide, (fun _ => ⟨(km_in5 135 rfl rfl), (km_in5 136 rfl rfl)⟩), (fun h => absurd h (by decide)), (fun h => absurd h (by decide))⟩
theorem ok_X8_init : km_ok M_X8_init := ⟨by decide +kernel, (km_in1 228 rfl rfl), km_ini8, ⟨by decide +kernel, by decide +kernel, by decide +kernel⟩, by decide +kernel, by decide, (fun h => absurd h (by decide)), (fun h => absurd h (by decide)), (fun _ => ⟨by decide +kernel, (km_in1 227 rfl rfl), rfl⟩)⟩
theorem ok_X8_clear : km_ok M_X8_clear := ⟨by decide +kernel, (km_in3 134 rfl rfl), km_ini8, ⟨by decide +kernel, by decide +kernel, by decide +kernel⟩, by decide +kernel, by decide, (fun _ => ⟨(km_in3 132 rfl rfl), (km_in3 133 rfl rfl)⟩), (fun h => absurd h (by decide)), (fun h => absurd h (by decide))⟩
theorem ok_X9_firstGroup : km_ok M_X9_firstGroup := ⟨by decide +kernel, (km_in6 203 rfl rfl), km_ini9, ⟨by decide +kernel, by decide +kernel, by decide +kernel⟩, by decide +kernel, by decide, (fun _ => ⟨(km_in6 202 rfl rfl), (km_inp5 (y := yX9_firstGroup) 1 rfl)⟩), (fun h => absurd h (by decide)), (fun h => absurd h (by decide))⟩
theorem ok_X9_init : km_ok M_X9_init := ⟨by decide +kernel, (km_in3 31 rfl rfl), km_ini9, ⟨by decide +kernel, by decide +kernel, by decide +kernel⟩, by decide +kernel, by decide, (fun h => absurd h (by decide)), (fun h => absurd h (by decide)), (fun _ => ⟨by decide +kernel, (km_in3 30 rfl rfl), rfl⟩)⟩
theorem ok_X9_countGroups : km_ok M_X9_countGroups := ⟨by decide +kernel, (km_in6 198 rfl rfl), km_ini9, ⟨by decide +kernel, by decide +kernel, by decide +kernel⟩, by decide +kernel, by decide, (fun _ => ⟨(km_in6 197 rfl rfl), (km_inp5 (y := yX9_countGroups) 0 rfl)⟩), (fun h => absurd h (by decide)), (fun h => absurd h (by decide))⟩
theorem ok_X9_divide : km_ok M_X9_divide := ⟨by decide +kernel, (km_in6 184 rfl rfl), km_ini9, ⟨by decide +kernel, by decide +kernel, by decide +kernel⟩, by decide +kernel, by decide, (fun _ => ⟨(km_in6 182 rfl rfl), (km_in6 183 rfl rfl)⟩), (fun h => absurd h (by decide)), (fun h => absurd h (by decide))⟩
theorem ok_X9_firstOpen : km_ok M_X9_firstOpen := ⟨by decide +kernel, (km_in6 211 rfl rfl), km_ini9, ⟨by decide +kernel, by decide +kernel, by decide +kernel⟩, by decide +kernel, by decide, (fun _ => ⟨(km_in6 210 rfl rfl), (km_inp5 (y := yX9_firstOpen) 3 rfl)⟩), (fun h => absurd h (by decide)), (fun h => absurd h (by decide))⟩
theorem ok_X9_payWithin : km_ok M_X9_payWithin := ⟨by decide +kernel, (km_in6 207 rfl rfl), km_ini9, ⟨by decide +kernel, by decide +kernel, by decide +kernel⟩, by decide +kernel, by decide, (fun _ => ⟨(km_in6 206 rfl rfl), (km_inp5 (y := yX9_payWithin) 2 rfl)⟩), (fun h => absurd h (by decide)), (fun h => absurd h (by decide))⟩
theorem ok_X9_settleAll : km_ok M_X9_settleAll := ⟨by decide +kernel, (km_in6 194 rfl rfl), km_ini9, ⟨by decide +kernel, by decide +kernel, by decide +kernel⟩, by decide +kernel, by decide, (fun _ => ⟨(km_in6 192 rfl rfl), (km_in6 193 rfl rfl)⟩), (fun h => absurd h (by decide)), (fun h => absurd h (by decide))⟩
theorem ok_X10_byteAt : km_ok M_X10_byteAt := ⟨by decide +kernel, (km_in3 149 rfl rfl), km_ini10, ⟨by decide +kernel, by decide +kernel, by decide +kernel⟩, by decide +kernel, by decide, (fun _ => ⟨(km_in3 148 rfl rfl), (km_inp1 (y := yX10_byteAt) 0 rfl)⟩), (fun h => absurd h (by decide)), (fun h => absurd h (by decide))⟩
theorem ok_X10_isDigit : km_ok M_X10_isDigit := ⟨by decide +kernel, (km_in3 208 rfl rfl), km_ini10, ⟨by decide +kernel, by decide +kernel, by decide +kernel⟩, by decide +kernel, by decide, (fun h => absurd h (by decide)), (fun _ => (km_in3 207 rfl rfl)), (fun h => absurd h (by decide))⟩
theorem ok_X10_isLetter : km_ok M_X10_isLetter := ⟨by decide +kernel, (km_in3 152 rfl rfl), km_ini10, ⟨by decide +kernel, by decide +kernel, by decide +kernel⟩, by decide +kernel, by decide, (fun h => absurd h (by decide)), (fun _ => (km_in3 151 rfl rfl)), (fun h => absurd h (by decide))⟩
theorem ok_X10_put : km_ok M_X10_put := ⟨by decide +kernel, (km_in3 122 rfl rfl), km_ini10, ⟨by decide +kernel, by decide +kernel, by decide +kernel⟩, by decide +kernel, by decide, (fun _ => ⟨(km_in3 120 rfl rfl), (km_in3 121 rfl rfl)⟩), (fun h => absurd h (by decide)), (fun h => absurd h (by decide))⟩
theorem ok_X10_init : km_ok M_X10_init := ⟨by decide +kernel, (km_in1 40 rfl rfl), km_ini10, ⟨by decide +kernel, by decide +kernel, by decide +kernel⟩, by decide +kernel, by decide, (fun h => absurd h (by decide)), (fun h => absurd h (by decide)), (fun _ => ⟨by decide +kernel, (km_in1 39 rfl rfl), rfl⟩)⟩
theorem ok_X10_begin : km_ok M_X10_begin := ⟨by decide +kernel, (km_in3 138 rfl rfl), km_ini10, ⟨by decide +kernel, by decide +kernel, by decide +kernel⟩, by decide +kernel, by decide, (fun _ => ⟨(km_in3 136 rfl rfl), (km_in3 137 rfl rfl)⟩), (fun h => absurd h (by decide)), (fun h => absurd h (by decide))⟩
theorem ok_X10_readNumber : km_ok M_X10_readNumber := ⟨by decide +kernel, (km_in3 212 rfl rfl), km_ini10, ⟨by decide +kernel, by decide +kernel, by decide +kernel⟩, by decide +kernel, by decide, (fun _ => ⟨(km_in3 211 rfl rfl), (km_inp1 (y := yX10_readNumber) 2 rfl)⟩), (fun h => absurd h (by decide)), (fun h => absurd h (by decide))⟩
theorem ok_X10_readSign : km_ok M_X10_readSign := ⟨by decide +kernel, (km_in3 217 rfl rfl), km_ini10, ⟨by decide +kernel, by decide +kernel, by decide +kernel⟩, by decide +kernel, by decide, (fun _ => ⟨(km_in3 216 rfl rfl), (km_inp1 (y := yX10_readSign) 3 rfl)⟩), (fun h => absurd h (by decide)), (fun h => absurd h (by decide))⟩
theorem ok_X10_readWord : km_ok M_X10_readWord := ⟨by decide +kernel, (km_in3 156 rfl rfl), km_ini10, ⟨by decide +kernel, by decide +kernel, by decide +kernel⟩, by decide +kernel, by decide, (fun _ => ⟨(km_in3 155 rfl rfl), (km_inp1 (y := yX10_readWord) 1 rfl)⟩), (fun h => absurd h (by decide)), (fun h => absurd h (by decide))⟩
theorem ok_X10_advance : km_ok M_X10_advance := ⟨by decide +kernel, (km_in3 145 rfl rfl), km_ini10, ⟨by decide +kernel, by decide +kernel, by decide +kernel⟩, by decide +kernel, by decide, (fun _ => ⟨(km_in3 143 rfl rfl), (km_in3 144 rfl rfl)⟩), (fun h => absurd h (by decide)), (fun h => absurd h (by decide))⟩
theorem ok_X11_fault : km_ok M_X11_fault := ⟨by decide +kernel, (km_in4 141 rfl rfl), km_ini11, ⟨by decide +kernel, by decide +kernel, by decide +kernel⟩, by decide +kernel, by decide, (fun _ => ⟨(km_in4 139 rfl rfl), (km_in4 140 rfl rfl)⟩), (fun h => absurd h (by decide)), (fun h => absurd h (by decide))⟩
theorem ok_X11_isBeforeInTurn : km_ok M_X11_isBeforeInTurn := ⟨by decide +kernel, (km_in7 5 rfl rfl), km_ini11, ⟨by decide +kernel, by decide +kernel, by decide +kernel⟩, by decide +kernel, by decide, (fun _ => ⟨(km_in7 4 rfl rfl), (km_inp5 (y := yX11_isBeforeInTurn) 6 rfl)⟩), (fun h => absurd h (by decide)), (fun h => absurd h (by decide))⟩
theorem ok_X11_isDay : km_ok M_X11_isDay := ⟨by decide +kernel, (km_in5 55 rfl rfl), km_ini11, ⟨by decide +kernel, by decide +kernel, by decide +kernel⟩, by decide +kernel, by decide, (fun h => absurd h (by decide)), (fun _ => (km_in5 54 rfl rfl)), (fun h => absurd h (by decide))⟩
theorem ok_X11_isLand : km_ok M_X11_isLand := ⟨by decide +kernel, (km_in5 44 rfl rfl), km_ini11, ⟨by decide +kernel, by decide +kernel, by decide +kernel⟩, by decide +kernel, by decide, (fun h => absurd h (by decide)), (fun _ => (km_in5 43 rfl rfl)), (fun h => absurd h (by decide))⟩
theorem ok_X11_price : km_ok M_X11_price := ⟨by decide +kernel, (km_in6 60 rfl rfl), km_ini11, ⟨by decide +kernel, by decide +kernel, by decide +kernel⟩, by decide +kernel, by decide, (fun _ => ⟨(km_in6 58 rfl rfl), (km_in6 59 rfl rfl)⟩), (fun h => absurd h (by decide)), (fun h => absurd h (by decide))⟩
theorem ok_X11_bedded : km_ok M_X11_bedded := ⟨by decide +kernel, (km_in6 127 rfl rfl), km_ini11, ⟨by decide +kernel, by decide +kernel, by decide +kernel⟩, by decide +kernel, by decide, (fun _ => ⟨(km_in6 125 rfl rfl), (km_in6 126 rfl rfl)⟩), (fun h => absurd h (by decide)), (fun h => absurd h (by decide))⟩
theorem ok_X11_count : km_ok M_X11_count := ⟨by decide +kernel, (km_in7 18 rfl rfl), km_ini11, ⟨by decide +kernel, by decide +kernel, by decide +kernel⟩, by decide +kernel, by decide, (fun _ => ⟨(km_in7 16 rfl rfl), (km_in7 17 rfl rfl)⟩), (fun h => absurd h (by decide)), (fun h => absurd h (by decide))⟩
theorem ok_X11_feed : km_ok M_X11_feed := ⟨by decide +kernel, (km_in3 118 rfl rfl), km_ini11, ⟨by decide +kernel, by decide +kernel, by decide +kernel⟩, by decide +kernel, by decide, (fun _ => ⟨(km_in3 116 rfl rfl), (km_in3 117 rfl rfl)⟩), (fun h => absurd h (by decide)), (fun h => absurd h (by decide))⟩
theorem ok_X11_feud : km_ok M_X11_feud := ⟨by decide +kernel, (km_in6 48 rfl rfl), km_ini11, ⟨by decide +kernel, by decide +kernel, by decide +kernel⟩, by decide +kernel, by decide, (fun _ => ⟨(km_in6 46 rfl rfl), (km_in6 47 rfl rfl)⟩), (fun h => absurd h (by decide)), (fun h => absurd h (by decide))⟩
theorem ok_X11_flight : km_ok M_X11_flight := ⟨by decide +kernel, (km_in5 72 rfl rfl), km_ini11, ⟨by decide +kernel, by decide +kernel, by decide +kernel⟩, by decide +kernel, by decide, (fun _ => ⟨(km_in5 70 rfl rfl), (km_in5 71 rfl rfl)⟩), (fun h => absurd h (by decide)), (fun h => absurd h (by decide))⟩
theorem ok_X11_miles : km_ok M_X11_miles := ⟨by decide +kernel, (km_in5 41 rfl rfl), km_ini11, ⟨by decide +kernel, by decide +kernel, by decide +kernel⟩, by decide +kernel, by decide, (fun _ => ⟨(km_in5 39 rfl rfl), (km_in5 40 rfl rfl)⟩), (fun h => absurd h (by decide)), (fun h => absurd h (by decide))⟩
theorem ok_X11_receipt : km_ok M_X11_receipt := ⟨by decide +kernel, (km_in6 159 rfl rfl), km_ini11, ⟨by decide +kernel, by decide +kernel, by decide +kernel⟩, by decide +kernel, by decide, (fun _ => ⟨(km_in6 157 rfl rfl), (km_in6 158 rfl rfl)⟩), (fun h => absurd h (by decide)), (fun h => absurd h (by decide))⟩
theorem ok_X11_regret : km_ok M_X11_regret := ⟨by decide +kernel, (km_in5 64 rfl rfl), km_ini11, ⟨by decide +kernel, by decide +kernel, by decide +kernel⟩, by decide +kernel, by decide, (fun _ => ⟨(km_in5 62 rfl rfl), (km_in5 63 rfl rfl)⟩), (fun h => absurd h (by decide)), (fun h => absurd h (by decide))⟩
theorem ok_X11_room : km_ok M_X11_room := ⟨by decide +kernel, (km_in6 40 rfl rfl), km_ini11, ⟨by decide +kernel, by decide +kernel, by decide +kernel⟩, by decide +kernel, by decide, (fun _ => ⟨(km_in6 38 rfl rfl), (km_in6 39 rfl rfl)⟩), (fun h => absurd h (by decide)), (fun h => absurd h (by decide))⟩
theorem ok_X11_seated : km_ok M_X11_seated := ⟨by decide +kernel, (km_in6 155 rfl rfl), km_ini11, ⟨by decide +kernel, by decide +kernel, by decide +kernel⟩, by decide +kernel, by decide, (fun _ => ⟨(km_in6 153 rfl rfl), (km_in6 154 rfl rfl)⟩), (fun h => absurd h (by decide)), (fun h => absurd h (by decide))⟩
theorem ok_X11_strike : km_ok M_X11_strike := ⟨by decide +kernel, (km_in4 183 rfl rfl), km_ini11, ⟨by decide +kernel, by decide +kernel, by decide +kernel⟩, by decide +kernel, by decide, (fun _ => ⟨(km_in4 181 rfl rfl), (km_in4 182 rfl rfl)⟩), (fun h => absurd h (by decide)), (fun h => absurd h (by decide))⟩
theorem ok_X11_table : km_ok M_X11_table := ⟨by decide +kernel, (km_in6 131 rfl rfl), km_ini11, ⟨by decide +kernel, by decide +kernel, by decide +kernel⟩, by decide +kernel, by decide, (fun _ => ⟨(km_in6 129 rfl rfl), (km_in6 130 rfl rfl)⟩), (fun h => absurd h (by decide)), (fun h => absurd h (by decide))⟩
theorem ok_X11_years : km_ok M_X11_years := ⟨by decide +kernel, (km_in5 33 rfl rfl), km_ini11, ⟨by decide +kernel, by decide +kernel, by decide +kernel⟩, by decide +kernel, by decide, (fun _ => ⟨(km_in5 31 rfl rfl), (km_in5 32 rfl rfl)⟩), (fun h => absurd h (by decide)), (fun h => absurd h (by decide))⟩
theorem ok_X11_init : km_ok M_X11_init := ⟨by decide +kernel, (km_in1 32 rfl rfl), km_ini11, ⟨by decide +kernel, by decide +kernel, by decide +kernel⟩, by decide +kernel, by decide, (fun h => absurd h (by decide)), (fun h => absurd h (by decide)), (fun _ => ⟨by decide +kernel, (km_in1 31 rfl rfl), rfl⟩)⟩
theorem ok_X11_hostByTurn : km_ok M_X11_hostByTurn := ⟨by decide +kernel, (km_in7 1 rfl rfl), km_ini11, ⟨by decide +kernel, by decide +kernel, by decide +kernel⟩, by decide +kernel, by decide, (fun _ => ⟨(km_in7 0 rfl rfl), (km_inp5 (y := yX11_hostByTurn) 5 rfl)⟩), (fun h => absurd h (by decide)), (fun h => absurd h (by decide))⟩
theorem ok_X11_note : km_ok M_X11_note := ⟨by decide +kernel, (km_in4 167 rfl rfl), km_ini11, ⟨by decide +kernel, by decide +kernel, by decide +kernel⟩, by decide +kernel, by decide, (fun _ => ⟨(km_in4 165 rfl rfl), (km_in4 166 rfl rfl)⟩), (fun h => absurd h (by decide)), (fun h => absurd h (by decide))⟩
theorem ok_X11_option : km_ok M_X11_option := ⟨by decide +kernel, (km_in5 52 rfl rfl), km_ini11, ⟨by decide +kernel, by decide +kernel, by decide +kernel⟩, by decide +kernel, by decide, (fun _ => ⟨(km_in5 50 rfl rfl), (km_in5 51 rfl rfl)⟩), (fun h => absurd h (by decide)), (fun h => absurd h (by decide))⟩
theorem ok_X11_told : km_ok M_X11_told := ⟨by decide +kernel, (km_in5 11 rfl rfl), km_ini11, ⟨by decide +kernel, by decide +kernel, by decide +kernel⟩, by decide +kernel, by decide, (fun _ => ⟨(km_in5 9 rfl rfl), (km_in5 10 rfl rfl)⟩), (fun h => absurd h (by decide)), (fun h => absurd h (by decide))⟩
theorem ok_X11_flyTo : km_ok M_X11_flyTo := ⟨by decide +kernel, (km_in5 102 rfl rfl), km_ini11, ⟨by decide +kernel, by decide +kernel, by decide +kernel⟩, by decide +kernel, by decide, (fun _ => ⟨(km_in5 101 rfl rfl), (km_inp3 (y := yX11_flyTo) 0 rfl)⟩), (fun h => absurd h (by decide)), (fun h => absurd h (by decide))⟩
theorem ok_X11_guest : km_ok M_X11_guest := ⟨by decide +kernel, (km_in6 31 rfl rfl), km_ini11, ⟨by decide +kernel, by decide +kernel, by decide +kernel⟩, by decide +kernel, by decide, (fun _ => ⟨(km_in6 29 rfl rfl), (km_in6 30 rfl rfl)⟩), (fun h => absurd h (by decide)), (fun h => absurd h (by decide))⟩
theorem ok_X11_change : km_ok M_X11_change := ⟨by decide +kernel, (km_in4 159 rfl rfl), km_ini11, ⟨by decide +kernel, by decide +kernel, by decide +kernel⟩, by decide +kernel, by decide, (fun _ => ⟨(km_in4 157 rfl rfl), (km_in4 158 rfl rfl)⟩), (fun h => absurd h (by decide)), (fun h => absurd h (by decide))⟩
theorem ok_X11_kin : km_ok M_X11_kin := ⟨by decide +kernel, (km_in4 145 rfl rfl), km_ini11, ⟨by decide +kernel, by decide +kernel, by decide +kernel⟩, by decide +kernel, by decide, (fun _ => ⟨(km_in4 143 rfl rfl), (km_in4 144 rfl rfl)⟩), (fun h => absurd h (by decide)), (fun h => absurd h (by decide))⟩
theorem ok_X11_lookAt : km_ok M_X11_lookAt := ⟨by decide +kernel, (km_in5 133 rfl rfl), km_ini11, ⟨by decide +kernel, by decide +kernel, by decide +kernel⟩, by decide +kernel, by decide, (fun _ => ⟨(km_in5 132 rfl rfl), (km_inp3 (y := yX11_lookAt) 4 rfl)⟩), (fun h => absurd h (by decide)), (fun h => absurd h (by decide))⟩
theorem ok_X11_near : km_ok M_X11_near := ⟨by decide +kernel, (km_in4 187 rfl rfl), km_ini11, ⟨by decide +kernel, by decide +kernel, by decide +kernel⟩, by decide +kernel, by decide, (fun _ => ⟨(km_in4 185 rfl rfl), (km_in4 186 rfl rfl)⟩), (fun h => absurd h (by decide)), (fun h => absurd h (by decide))⟩
theorem ok_X11_travel : km_ok M_X11_travel := ⟨by decide +kernel, (km_in5 80 rfl rfl), km_ini11, ⟨by decide +kernel, by decide +kernel, by decide +kernel⟩, by decide +kernel, by decide, (fun _ => ⟨(km_in5 78 rfl rfl), (km_in5 79 rfl rfl)⟩), (fun h => absurd h (by decide)), (fun h => absurd h (by decide))⟩
theorem ok_X11_bed : km_ok M_X11_bed := ⟨by decide +kernel, (km_in6 64 rfl rfl), km_ini11, ⟨by decide +kernel, by decide +kernel, by decide +kernel⟩, by decide +kernel, by decide, (fun _ => ⟨(km_in6 62 rfl rfl), (km_in6 63 rfl rfl)⟩), (fun h => absurd h (by decide)), (fun h => absurd h (by decide))⟩
theorem ok_X11_firstBar : km_ok M_X11_firstBar := ⟨by decide +kernel, (km_in6 4 rfl rfl), km_ini11, ⟨by decide +kernel, by decide +kernel, by decide +kernel⟩, by decide +kernel, by decide, (fun _ => ⟨(km_in6 3 rfl rfl), (km_inp4 (y := yX11_firstBar) 4 rfl)⟩), (fun h => absurd h (by decide)), (fun h => absurd h (by decide))⟩
theorem ok_X11_hostByRule : km_ok M_X11_hostByRule := ⟨by decide +kernel, (km_in6 227 rfl rfl), km_ini11, ⟨by decide +kernel, by decide +kernel, by decide +kernel⟩, by decide +kernel, by decide, (fun _ => ⟨(km_in6 226 rfl rfl), (km_inp5 (y := yX11_hostByRule) 4 rfl)⟩), (fun h => absurd h (by decide)), (fun h => absurd h (by decide))⟩
theorem ok_X11_meal : km_ok M_X11_meal := ⟨by decide +kernel, (km_in6 139 rfl rfl), km_ini11, ⟨by decide +kernel, by decide +kernel, by decide +kernel⟩, by decide +kernel, by decide, (fun _ => ⟨(km_in6 137 rfl rfl), (km_in6 138 rfl rfl)⟩), (fun h => absurd h (by decide)), (fun h => absurd h (by decide))⟩
theorem ok_X11_ring : km_ok M_X11_ring := ⟨by decide +kernel, (km_in6 12 rfl rfl), km_ini11, ⟨by decide +kernel, by decide +kernel, by decide +kernel⟩, by decide +kernel, by decide, (fun _ => ⟨(km_in6 10 rfl rfl), (km_in6 11 rfl rfl)⟩), (fun h => absurd h (by decide)), (fun h => absurd h (by decide))⟩
theorem ok_X11_scoreAt : km_ok M_X11_scoreAt := ⟨by decide +kernel, (km_in5 151 rfl rfl), km_ini11, ⟨by decide +kernel, by decide +kernel, by decide +kernel⟩, by decide +kernel, by decide, (fun _ => ⟨(km_in5 150 rfl rfl), (km_inp3 (y := yX11_scoreAt) 6 rfl)⟩), (fun h => absurd h (by decide)), (fun h => absurd h (by decide))⟩
theorem ok_X11_weightOf : km_ok M_X11_weightOf := ⟨by decide +kernel, (km_in6 173 rfl rfl), km_ini11, ⟨by decide +kernel, by decide +kernel, by decide +kernel⟩, by decide +kernel, by decide, (fun _ => ⟨(km_in6 172 rfl rfl), (km_inp4 (y := yX11_weightOf) 15 rfl)⟩), (fun h => absurd h (by decide)), (fun h => absurd h (by decide))⟩
theorem ok_X11_choice : km_ok M_X11_choice := ⟨by decide +kernel, (km_in6 8 rfl rfl), km_ini11, ⟨by decide +kernel, by decide +kernel, by decide +kernel⟩, by decide +kernel, by decide, (fun _ => ⟨(km_in6 6 rfl rfl), (km_in6 7 rfl rfl)⟩), (fun h => absurd h (by decide)), (fun h => absurd h (by decide))⟩
theorem ok_X11_host : km_ok M_X11_host := ⟨by decide +kernel, (km_in6 223 rfl rfl), km_ini11, ⟨by decide +kernel, by decide +kernel, by decide +kernel⟩, by decide +kernel, by decide, (fun _ => ⟨(km_in6 221 rfl rfl), (km_in6 222 rfl rfl)⟩), (fun h => absurd h (by decide)), (fun h => absurd h (by decide))⟩
theorem ok_X11_judged : km_ok M_X11_judged := ⟨by decide +kernel, (km_in5 229 rfl rfl), km_ini11, ⟨by decide +kernel, by decide +kernel, by decide +kernel⟩, by decide +kernel, by decide, (fun _ => ⟨(km_in5 227 rfl rfl), (km_in5 228 rfl rfl)⟩), (fun h => absurd h (by decide)), (fun h => absurd h (by decide))⟩
theorem ok_X11_score : km_ok M_X11_score := ⟨by decide +kernel, (km_in5 128 rfl rfl), km_ini11, ⟨by decide +kernel, by decide +kernel, by decide +kernel⟩, by decide +kernel, by decide, (fun _ => ⟨(km_in5 126 rfl rfl), (km_in5 127 rfl rfl)⟩), (fun h => absurd h (by decide)), (fun h => absurd h (by decide))⟩
theorem ok_X11_shareOut : km_ok M_X11_shareOut := ⟨by decide +kernel, (km_in6 169 rfl rfl), km_ini11, ⟨by decide +kernel, by decide +kernel, by decide +kernel⟩, by decide +kernel, by decide, (fun _ => ⟨(km_in6 168 rfl rfl), (km_inp4 (y := yX11_shareOut) 14 rfl)⟩), (fun h => absurd h (by decide)), (fun h => absurd h (by decide))⟩
theorem ok_X11_branch : km_ok M_X11_branch := ⟨by decide +kernel, (km_in7 27 rfl rfl), km_ini11, ⟨by decide +kernel, by decide +kernel, by decide +kernel⟩, by decide +kernel, by decide, (fun _ => ⟨(km_in7 25 rfl rfl), (km_in7 26 rfl rfl)⟩), (fun h => absurd h (by decide)), (fun h => absurd h (by decide))⟩
theorem ok_X11_end : km_ok M_X11_end := ⟨by decide +kernel, (km_in7 9 rfl rfl), km_ini11, ⟨by decide +kernel, by decide +kernel, by decide +kernel⟩, by decide +kernel, by decide, (fun _ => ⟨(km_in7 7 rfl rfl), (km_in7 8 rfl rfl)⟩), (fun h => absurd h (by decide)), (fun h => absurd h (by decide))⟩
theorem ok_X11_meet : km_ok M_X11_meet := ⟨by decide +kernel, (km_in6 26 rfl rfl), km_ini11, ⟨by decide +kernel, by decide +kernel, by decide +kernel⟩, by decide +kernel, by decide, (fun _ => ⟨(km_in6 24 rfl rfl), (km_in6 25 rfl rfl)⟩), (fun h => absurd h (by decide)), (fun h => absurd h (by decide))⟩
theorem ok_X11_owes : km_ok M_X11_owes := ⟨by decide +kernel, (km_in6 165 rfl rfl), km_ini11, ⟨by decide +kernel, by decide +kernel, by decide +kernel⟩, by decide +kernel, by decide, (fun _ => ⟨(km_in6 163 rfl rfl), (km_in6 164 rfl rfl)⟩), (fun h => absurd h (by decide)), (fun h => absurd h (by decide))⟩
theorem ok_X11_payment : km_ok M_X11_payment := ⟨by decide +kernel, (km_in6 219 rfl rfl), km_ini11, ⟨by decide +kernel, by decide +kernel, by decide +kernel⟩, by decide +kernel, by decide, (fun _ => ⟨(km_in6 217 rfl rfl), (km_in6 218 rfl rfl)⟩), (fun h => absurd h (by decide)), (fun h => absurd h (by decide))⟩
theorem ok_X11_settle : km_ok M_X11_settle := ⟨by decide +kernel, (km_in6 190 rfl rfl), km_ini11, ⟨by decide +kernel, by decide +kernel, by decide +kernel⟩, by decide +kernel, by decide, (fun _ => ⟨(km_in6 188 rfl rfl), (km_in6 189 rfl rfl)⟩), (fun h => absurd h (by decide)), (fun h => absurd h (by decide))⟩
theorem ok_X11_rules : km_ok M_X11_rules := ⟨by decide +kernel, (km_in3 126 rfl rfl), km_ini11, ⟨by decide +kernel, by decide +kernel, by decide +kernel⟩, by decide +kernel, by decide, (fun _ => ⟨(km_in3 124 rfl rfl), (km_in3 125 rfl rfl)⟩), (fun h => absurd h (by decide)), (fun h => absurd h (by decide))⟩
theorem ok_X12_areCouple : km_ok M_X12_areCouple := ⟨by decide +kernel, (km_in9 47 rfl rfl), km_ini12, ⟨by decide +kernel, by decide +kernel, by decide +kernel⟩, by decide +kernel, by decide, (fun _ => ⟨(km_in9 46 rfl rfl), (km_inp6 (y := yX12_areCouple) 2 rfl)⟩), (fun h => absurd h (by decide)), (fun h => absurd h (by decide))⟩
theorem ok_X12_big : km_ok M_X12_big := ⟨by decide +kernel, (km_in10 13 rfl rfl), km_ini12, ⟨by decide +kernel, by decide +kernel, by decide +kernel⟩, by decide +kernel, by decide, (fun h => absurd h (by decide)), (fun _ => (km_in10 12 rfl rfl)), (fun h => absurd h (by decide))⟩
theorem ok_X12_bits : km_ok M_X12_bits := ⟨by decide +kernel, (km_in10 56 rfl rfl), km_ini12, ⟨by decide +kernel, by decide +kernel, by decide +kernel⟩, by decide +kernel, by decide, (fun h => absurd h (by decide)), (fun _ => (km_in10 55 rfl rfl)), (fun h => absurd h (by decide))⟩
theorem ok_X12_cheapen : km_ok M_X12_cheapen := ⟨by decide +kernel, (km_in9 201 rfl rfl), km_ini12, ⟨by decide +kernel, by decide +kernel, by decide +kernel⟩, by decide +kernel, by decide, (fun _ => ⟨(km_in9 200 rfl rfl), (km_inp7 (y := yX12_cheapen) 14 rfl)⟩), (fun h => absurd h (by decide)), (fun h => absurd h (by decide))⟩
theorem ok_X12_climbs : km_ok M_X12_climbs := ⟨by decide +kernel, (km_in9 22 rfl rfl), km_ini12, ⟨by decide +kernel, by decide +kernel, by decide +kernel⟩, by decide +kernel, by decide, (fun _ => ⟨(km_in9 21 rfl rfl), (km_inp5 (y := yX12_climbs) 13 rfl)⟩), (fun h => absurd h (by decide)), (fun h => absurd h (by decide))⟩
theorem ok_X12_drop : km_ok M_X12_drop := ⟨by decide +kernel, (km_in9 131 rfl rfl), km_ini12, ⟨by decide +kernel, by decide +kernel, by decide +kernel⟩, by decide +kernel, by decide, (fun _ => ⟨(km_in9 130 rfl rfl), (km_inp7 (y := yX12_drop) 4 rfl)⟩), (fun h => absurd h (by decide)), (fun h => absurd h (by decide))⟩
theorem ok_X12_fails : km_ok M_X12_fails := ⟨by decide +kernel, (km_in10 178 rfl rfl), km_ini12, ⟨by decide +kernel, by decide +kernel, by decide +kernel⟩, by decide +kernel, by decide, (fun _ => ⟨(km_in10 177 rfl rfl), (km_inp9 (y := yX12_fails) 12 rfl)⟩), (fun h => absurd h (by decide)), (fun h => absurd h (by decide))⟩
theorem ok_X12_fault : km_ok M_X12_fault := ⟨by decide +kernel, (km_in9 147 rfl rfl), km_ini12, ⟨by decide +kernel, by decide +kernel, by decide +kernel⟩, by decide +kernel, by decide, (fun _ => ⟨(km_in9 145 rfl rfl), (km_in9 146 rfl rfl)⟩), (fun h => absurd h (by decide)), (fun h => absurd h (by decide))⟩
theorem ok_X12_feed : km_ok M_X12_feed := ⟨by decide +kernel, (km_in8 212 rfl rfl), km_ini12, ⟨by decide +kernel, by decide +kernel, by decide +kernel⟩, by decide +kernel, by decide, (fun _ => ⟨(km_in8 210 rfl rfl), (km_in8 211 rfl rfl)⟩), (fun h => absurd h (by decide)), (fun h => absurd h (by decide))⟩
theorem ok_X12_firstOf : km_ok M_X12_firstOf := ⟨by decide +kernel, (km_in10 100 rfl rfl), km_ini12, ⟨by decide +kernel, by decide +kernel, by decide +kernel⟩, by decide +kernel, by decide, (fun _ => ⟨(km_in10 99 rfl rfl), (km_inp9 (y := yX12_firstOf) 4 rfl)⟩), (fun h => absurd h (by decide)), (fun h => absurd h (by decide))⟩
theorem ok_X12_give : km_ok M_X12_give := ⟨by decide +kernel, (km_in9 238 rfl rfl), km_ini12, ⟨by decide +kernel, by decide +kernel, by decide +kernel⟩, by decide +kernel, by decide, (fun _ => ⟨(km_in9 237 rfl rfl), (km_inp8 (y := yX12_give) 6 rfl)⟩), (fun h => absurd h (by decide)), (fun h => absurd h (by decide))⟩
theorem ok_X12_go : km_ok M_X12_go := ⟨by decide +kernel, (km_in9 222 rfl rfl), km_ini12, ⟨by decide +kernel, by decide +kernel, by decide +kernel⟩, by decide +kernel, by decide, (fun _ => ⟨(km_in9 221 rfl rfl), (km_inp8 (y := yX12_go) 2 rfl)⟩), (fun h => absurd h (by decide)), (fun h => absurd h (by decide))⟩
theorem ok_X12_hold : km_ok M_X12_hold := ⟨by decide +kernel, (km_in9 104 rfl rfl), km_ini12, ⟨by decide +kernel, by decide +kernel, by decide +kernel⟩, by decide +kernel, by decide, (fun _ => ⟨(km_in9 103 rfl rfl), (km_inp6 (y := yX12_hold) 14 rfl)⟩), (fun h => absurd h (by decide)), (fun h => absurd h (by decide))⟩
theorem ok_X12_isAt : km_ok M_X12_isAt := ⟨by decide +kernel, (km_in9 80 rfl rfl), km_ini12, ⟨by decide +kernel, by decide +kernel, by decide +kernel⟩, by decide +kernel, by decide, (fun _ => ⟨(km_in9 79 rfl rfl), (km_inp6 (y := yX12_isAt) 8 rfl)⟩), (fun h => absurd h (by decide)), (fun h => absurd h (by decide))⟩
theorem ok_X12_isDay : km_ok M_X12_isDay := ⟨by decide +kernel, (km_in9 161 rfl rfl), km_ini12, ⟨by decide +kernel, by decide +kernel, by decide +kernel⟩, by decide +kernel, by decide, (fun h => absurd h (by decide)), (fun _ => (km_in9 160 rfl rfl)), (fun h => absurd h (by decide))⟩
theorem ok_X12_isDigit : km_ok M_X12_isDigit := ⟨by decide +kernel, (km_in9 71 rfl rfl), km_ini12, ⟨by decide +kernel, by decide +kernel, by decide +kernel⟩, by decide +kernel, by decide, (fun _ => ⟨(km_in9 70 rfl rfl), (km_inp6 (y := yX12_isDigit) 6 rfl)⟩), (fun h => absurd h (by decide)), (fun h => absurd h (by decide))⟩
theorem ok_X12_isKin : km_ok M_X12_isKin := ⟨by decide +kernel, (km_in8 227 rfl rfl), km_ini12, ⟨by decide +kernel, by decide +kernel, by decide +kernel⟩, by decide +kernel, by decide, (fun _ => ⟨(km_in8 226 rfl rfl), (km_inp5 (y := yX12_isKin) 8 rfl)⟩), (fun h => absurd h (by decide)), (fun h => absurd h (by decide))⟩
theorem ok_X12_isLand : km_ok M_X12_isLand := ⟨by decide +kernel, (km_in9 154 rfl rfl), km_ini12, ⟨by decide +kernel, by decide +kernel, by decide +kernel⟩, by decide +kernel, by decide, (fun h => absurd h (by decide)), (fun _ => (km_in9 153 rfl rfl)), (fun h => absurd h (by decide))⟩
theorem ok_X12_isOption : km_ok M_X12_isOption := ⟨by decide +kernel, (km_in9 169 rfl rfl), km_ini12, ⟨by decide +kernel, by decide +kernel, by decide +kernel⟩, by decide +kernel, by decide, (fun _ => ⟨(km_in9 168 rfl rfl), (km_inp7 (y := yX12_isOption) 8 rfl)⟩), (fun h => absurd h (by decide)), (fun h => absurd h (by decide))⟩
theorem ok_X12_isParent : km_ok M_X12_isParent := ⟨by decide +kernel, (km_in9 14 rfl rfl), km_ini12, ⟨by decide +kernel, by decide +kernel, by decide +kernel⟩, by decide +kernel, by decide, (fun _ => ⟨(km_in9 13 rfl rfl), (km_inp5 (y := yX12_isParent) 11 rfl)⟩), (fun h => absurd h (by decide)), (fun h => absurd h (by decide))⟩
theorem ok_X12_isSmall : km_ok M_X12_isSmall := ⟨by decide +kernel, (km_in9 63 rfl rfl), km_ini12, ⟨by decide +kernel, by decide +kernel, by decide +kernel⟩, by decide +kernel, by decide, (fun _ => ⟨(km_in9 62 rfl rfl), (km_inp6 (y := yX12_isSmall) 4 rfl)⟩), (fun h => absurd h (by decide)), (fun h => absurd h (by decide))⟩
theorem ok_X12_isTrait : km_ok M_X12_isTrait := ⟨by decide +kernel, (km_in8 219 rfl rfl), km_ini12, ⟨by decide +kernel, by decide +kernel, by decide +kernel⟩, by decide +kernel, by decide, (fun h => absurd h (by decide)), (fun _ => (km_in8 218 rfl rfl)), (fun h => absurd h (by decide))⟩
theorem ok_X12_isWorld : km_ok M_X12_isWorld := ⟨by decide +kernel, (km_in9 27 rfl rfl), km_ini12, ⟨by decide +kernel, by decide +kernel, by decide +kernel⟩, by decide +kernel, by decide, (fun _ => ⟨(km_in9 26 rfl rfl), (km_inp5 (y := yX12_isWorld) 14 rfl)⟩), (fun h => absurd h (by decide)), (fun h => absurd h (by decide))⟩
theorem ok_X12_isYear : km_ok M_X12_isYear := ⟨by decide +kernel, (km_in8 234 rfl rfl), km_ini12, ⟨by decide +kernel, by decide +kernel, by decide +kernel⟩, by decide +kernel, by decide, (fun h => absurd h (by decide)), (fun _ => (km_in8 233 rfl rfl)), (fun h => absurd h (by decide))⟩
theorem ok_X12_know : km_ok M_X12_know := ⟨by decide +kernel, (km_in9 6 rfl rfl), km_ini12, ⟨by decide +kernel, by decide +kernel, by decide +kernel⟩, by decide +kernel, by decide, (fun _ => ⟨(km_in9 5 rfl rfl), (km_inp5 (y := yX12_know) 9 rfl)⟩), (fun h => absurd h (by decide)), (fun h => absurd h (by decide))⟩
theorem ok_X12_laid : km_ok M_X12_laid := ⟨by decide +kernel, (km_in10 96 rfl rfl), km_ini12, ⟨by decide +kernel, by decide +kernel, by decide +kernel⟩, by decide +kernel, by decide, (fun _ => ⟨(km_in10 95 rfl rfl), (km_inp9 (y := yX12_laid) 3 rfl)⟩), (fun h => absurd h (by decide)), (fun h => absurd h (by decide))⟩
theorem ok_X12_latest : km_ok M_X12_latest := ⟨by decide +kernel, (km_in9 39 rfl rfl), km_ini12, ⟨by decide +kernel, by decide +kernel, by decide +kernel⟩, by decide +kernel, by decide, (fun _ => ⟨(km_in9 38 rfl rfl), (km_inp6 (y := yX12_latest) 0 rfl)⟩), (fun h => absurd h (by decide)), (fun h => absurd h (by decide))⟩
theorem ok_X12_mayStand : km_ok M_X12_mayStand := ⟨by decide +kernel, (km_in9 108 rfl rfl), km_ini12, ⟨by decide +kernel, by decide +kernel, by decide +kernel⟩, by decide +kernel, by decide, (fun _ => ⟨(km_in9 107 rfl rfl), (km_inp6 (y := yX12_mayStand) 15 rfl)⟩), (fun h => absurd h (by decide)), (fun h => absurd h (by decide))⟩
theorem ok_X12_opening : km_ok M_X12_opening := ⟨by decide +kernel, (km_in9 139 rfl rfl), km_ini12, ⟨by decide +kernel, by decide +kernel, by decide +kernel⟩, by decide +kernel, by decide, (fun _ => ⟨(km_in9 138 rfl rfl), (km_inp7 (y := yX12_opening) 6 rfl)⟩), (fun h => absurd h (by decide)), (fun h => absurd h (by decide))⟩
theorem ok_X12_paysOff : km_ok M_X12_paysOff := ⟨by decide +kernel, (km_in10 154 rfl rfl), km_ini12, ⟨by decide +kernel, by decide +kernel, by decide +kernel⟩, by decide +kernel, by decide, (fun _ => ⟨(km_in10 153 rfl rfl), (km_inp9 (y := yX12_paysOff) 10 rfl)⟩), (fun h => absurd h (by decide)), (fun h => absurd h (by decide))⟩
theorem ok_X12_price : km_ok M_X12_price := ⟨by decide +kernel, (km_in10 80 rfl rfl), km_ini12, ⟨by decide +kernel, by decide +kernel, by decide +kernel⟩, by decide +kernel, by decide, (fun _ => ⟨(km_in10 78 rfl rfl), (km_in10 79 rfl rfl)⟩), (fun h => absurd h (by decide)), (fun h => absurd h (by decide))⟩
theorem ok_X12_quarrels : km_ok M_X12_quarrels := ⟨by decide +kernel, (km_in10 92 rfl rfl), km_ini12, ⟨by decide +kernel, by decide +kernel, by decide +kernel⟩, by decide +kernel, by decide, (fun _ => ⟨(km_in10 91 rfl rfl), (km_inp9 (y := yX12_quarrels) 2 rfl)⟩), (fun h => absurd h (by decide)), (fun h => absurd h (by decide))⟩
theorem ok_X12_room : km_ok M_X12_room := ⟨by decide +kernel, (km_in10 72 rfl rfl), km_ini12, ⟨by decide +kernel, by decide +kernel, by decide +kernel⟩, by decide +kernel, by decide, (fun _ => ⟨(km_in10 70 rfl rfl), (km_in10 71 rfl rfl)⟩), (fun h => absurd h (by decide)), (fun h => absurd h (by decide))⟩
theorem ok_X12_strike : km_ok M_X12_strike := ⟨by decide +kernel, (km_in8 238 rfl rfl), km_ini12, ⟨by decide +kernel, by decide +kernel, by decide +kernel⟩, by decide +kernel, by decide, (fun _ => ⟨(km_in8 236 rfl rfl), (km_in8 237 rfl rfl)⟩), (fun h => absurd h (by decide)), (fun h => absurd h (by decide))⟩
theorem ok_X12_table : km_ok M_X12_table := ⟨by decide +kernel, (km_in10 108 rfl rfl), km_ini12, ⟨by decide +kernel, by decide +kernel, by decide +kernel⟩, by decide +kernel, by decide, (fun _ => ⟨(km_in10 106 rfl rfl), (km_in10 107 rfl rfl)⟩), (fun h => absurd h (by decide)), (fun h => absurd h (by decide))⟩
theorem ok_X12_takeBack : km_ok M_X12_takeBack := ⟨by decide +kernel, (km_in10 6 rfl rfl), km_ini12, ⟨by decide +kernel, by decide +kernel, by decide +kernel⟩, by decide +kernel, by decide, (fun _ => ⟨(km_in10 5 rfl rfl), (km_inp8 (y := yX12_takeBack) 8 rfl)⟩), (fun h => absurd h (by decide)), (fun h => absurd h (by decide))⟩
theorem ok_X12_thrown : km_ok M_X12_thrown := ⟨by decide +kernel, (km_in8 208 rfl rfl), km_ini12, ⟨by decide +kernel, by decide +kernel, by decide +kernel⟩, by decide +kernel, by decide, (fun _ => ⟨(km_in8 206 rfl rfl), (km_in8 207 rfl rfl)⟩), (fun h => absurd h (by decide)), (fun h => absurd h (by decide))⟩
theorem ok_X12_together : km_ok M_X12_together := ⟨by decide +kernel, (km_in10 150 rfl rfl), km_ini12, ⟨by decide +kernel, by decide +kernel, by decide +kernel⟩, by decide +kernel, by decide, (fun _ => ⟨(km_in10 149 rfl rfl), (km_inp9 (y := yX12_together) 9 rfl)⟩), (fun h => absurd h (by decide)), (fun h => absurd h (by decide))⟩
theorem ok_X12_truth : km_ok M_X12_truth := ⟨by decide +kernel, (km_in10 17 rfl rfl), km_ini12, ⟨by decide +kernel, by decide +kernel, by decide +kernel⟩, by decide +kernel, by decide, (fun h => absurd h (by decide)), (fun _ => (km_in10 16 rfl rfl)), (fun h => absurd h (by decide))⟩
theorem ok_X12_waitFor : km_ok M_X12_waitFor := ⟨by decide +kernel, (km_in9 112 rfl rfl), km_ini12, ⟨by decide +kernel, by decide +kernel, by decide +kernel⟩, by decide +kernel, by decide, (fun _ => ⟨(km_in9 111 rfl rfl), (km_inp7 (y := yX12_waitFor) 0 rfl)⟩), (fun h => absurd h (by decide)), (fun h => absurd h (by decide))⟩
theorem ok_X12_weight : km_ok M_X12_weight := ⟨by decide +kernel, (km_in9 123 rfl rfl), km_ini12, ⟨by decide +kernel, by decide +kernel, by decide +kernel⟩, by decide +kernel, by decide, (fun h => absurd h (by decide)), (fun _ => (km_in9 122 rfl rfl)), (fun h => absurd h (by decide))⟩
theorem ok_X12_wordAt : km_ok M_X12_wordAt := ⟨by decide +kernel, (km_in9 67 rfl rfl), km_ini12, ⟨by decide +kernel, by decide +kernel, by decide +kernel⟩, by decide +kernel, by decide, (fun _ => ⟨(km_in9 66 rfl rfl), (km_inp6 (y := yX12_wordAt) 5 rfl)⟩), (fun h => absurd h (by decide)), (fun h => absurd h (by decide))⟩
theorem ok_X12_wrong : km_ok M_X12_wrong := ⟨by decide +kernel, (km_in9 88 rfl rfl), km_ini12, ⟨by decide +kernel, by decide +kernel, by decide +kernel⟩, by decide +kernel, by decide, (fun _ => ⟨(km_in9 87 rfl rfl), (km_inp6 (y := yX12_wrong) 10 rfl)⟩), (fun h => absurd h (by decide)), (fun h => absurd h (by decide))⟩
theorem ok_X12_years : km_ok M_X12_years := ⟨by decide +kernel, (km_in9 51 rfl rfl), km_ini12, ⟨by decide +kernel, by decide +kernel, by decide +kernel⟩, by decide +kernel, by decide, (fun _ => ⟨(km_in9 49 rfl rfl), (km_in9 50 rfl rfl)⟩), (fun h => absurd h (by decide)), (fun h => absurd h (by decide))⟩
theorem ok_X12_init : km_ok M_X12_init := ⟨by decide +kernel, (km_in7 114 rfl rfl), km_ini12, ⟨by decide +kernel, by decide +kernel, by decide +kernel⟩, by decide +kernel, by decide, (fun h => absurd h (by decide)), (fun h => absurd h (by decide)), (fun _ => ⟨by decide +kernel, (km_in7 113 rfl rfl), rfl⟩)⟩
theorem ok_X12_ageOf : km_ok M_X12_ageOf := ⟨by decide +kernel, (km_in9 43 rfl rfl), km_ini12, ⟨by decide +kernel, by decide +kernel, by decide +kernel⟩, by decide +kernel, by decide, (fun _ => ⟨(km_in9 42 rfl rfl), (km_inp6 (y := yX12_ageOf) 1 rfl)⟩), (fun h => absurd h (by decide)), (fun h => absurd h (by decide))⟩
theorem ok_X12_bedCost : km_ok M_X12_bedCost := ⟨by decide +kernel, (km_in10 88 rfl rfl), km_ini12, ⟨by decide +kernel, by decide +kernel, by decide +kernel⟩, by decide +kernel, by decide, (fun _ => ⟨(km_in10 87 rfl rfl), (km_inp9 (y := yX12_bedCost) 1 rfl)⟩), (fun h => absurd h (by decide)), (fun h => absurd h (by decide))⟩
theorem ok_X12_bedded : km_ok M_X12_bedded := ⟨by decide +kernel, (km_in10 104 rfl rfl), km_ini12, ⟨by decide +kernel, by decide +kernel, by decide +kernel⟩, by decide +kernel, by decide, (fun _ => ⟨(km_in10 102 rfl rfl), (km_in10 103 rfl rfl)⟩), (fun h => absurd h (by decide)), (fun h => absurd h (by decide))⟩
theorem ok_X12_bind : km_ok M_X12_bind := ⟨by decide +kernel, (km_in9 127 rfl rfl), km_ini12, ⟨by decide +kernel, by decide +kernel, by decide +kernel⟩, by decide +kernel, by decide, (fun _ => ⟨(km_in9 126 rfl rfl), (km_inp7 (y := yX12_bind) 3 rfl)⟩), (fun h => absurd h (by decide)), (fun h => absurd h (by decide))⟩
theorem ok_X12_bounded : km_ok M_X12_bounded := ⟨by decide +kernel, (km_in10 10 rfl rfl), km_ini12, ⟨by decide +kernel, by decide +kernel, by decide +kernel⟩, by decide +kernel, by decide, (fun _ => ⟨(km_in10 9 rfl rfl), (km_inp8 (y := yX12_bounded) 9 rfl)⟩), (fun h => absurd h (by decide)), (fun h => absurd h (by decide))⟩
theorem ok_X12_change : km_ok M_X12_change := ⟨by decide +kernel, (km_in8 223 rfl rfl), km_ini12, ⟨by decide +kernel, by decide +kernel, by decide +kernel⟩, by decide +kernel, by decide, (fun _ => ⟨(km_in8 221 rfl rfl), (km_in8 222 rfl rfl)⟩), (fun h => absurd h (by decide)), (fun h => absurd h (by decide))⟩
theorem ok_X12_count : km_ok M_X12_count := ⟨by decide +kernel, (km_in10 182 rfl rfl), km_ini12, ⟨by decide +kernel, by decide +kernel, by decide +kernel⟩, by decide +kernel, by decide, (fun _ => ⟨(km_in10 180 rfl rfl), (km_in10 181 rfl rfl)⟩), (fun h => absurd h (by decide)), (fun h => absurd h (by decide))⟩
theorem ok_X12_family : km_ok M_X12_family := ⟨by decide +kernel, (km_in9 10 rfl rfl), km_ini12, ⟨by decide +kernel, by decide +kernel, by decide +kernel⟩, by decide +kernel, by decide, (fun _ => ⟨(km_in9 9 rfl rfl), (km_inp5 (y := yX12_family) 10 rfl)⟩), (fun h => absurd h (by decide)), (fun h => absurd h (by decide))⟩
theorem ok_X12_feud : km_ok M_X12_feud := ⟨by decide +kernel, (km_in10 76 rfl rfl), km_ini12, ⟨by decide +kernel, by decide +kernel, by decide +kernel⟩, by decide +kernel, by decide, (fun _ => ⟨(km_in10 74 rfl rfl), (km_in10 75 rfl rfl)⟩), (fun h => absurd h (by decide)), (fun h => absurd h (by decide))⟩
theorem ok_X12_flight : km_ok M_X12_flight := ⟨by decide +kernel, (km_in9 173 rfl rfl), km_ini12, ⟨by decide +kernel, by decide +kernel, by decide +kernel⟩, by decide +kernel, by decide, (fun _ => ⟨(km_in9 171 rfl rfl), (km_in9 172 rfl rfl)⟩), (fun h => absurd h (by decide)), (fun h => absurd h (by decide))⟩
theorem ok_X12_fresh : km_ok M_X12_fresh := ⟨by decide +kernel, (km_in10 116 rfl rfl), km_ini12, ⟨by decide +kernel, by decide +kernel, by decide +kernel⟩, by decide +kernel, by decide, (fun _ => ⟨(km_in10 115 rfl rfl), (km_inp9 (y := yX12_fresh) 5 rfl)⟩), (fun h => absurd h (by decide)), (fun h => absurd h (by decide))⟩
theorem ok_X12_grown : km_ok M_X12_grown := ⟨by decide +kernel, (km_in9 100 rfl rfl), km_ini12, ⟨by decide +kernel, by decide +kernel, by decide +kernel⟩, by decide +kernel, by decide, (fun _ => ⟨(km_in9 99 rfl rfl), (km_inp6 (y := yX12_grown) 13 rfl)⟩), (fun h => absurd h (by decide)), (fun h => absurd h (by decide))⟩
theorem ok_X12_isAlive : km_ok M_X12_isAlive := ⟨by decide +kernel, (km_in9 35 rfl rfl), km_ini12, ⟨by decide +kernel, by decide +kernel, by decide +kernel⟩, by decide +kernel, by decide, (fun _ => ⟨(km_in9 34 rfl rfl), (km_inp5 (y := yX12_isAlive) 15 rfl)⟩), (fun h => absurd h (by decide)), (fun h => absurd h (by decide))⟩
theorem ok_X12_isGuest : km_ok M_X12_isGuest := ⟨by decide +kernel, (km_in10 68 rfl rfl), km_ini12, ⟨by decide +kernel, by decide +kernel, by decide +kernel⟩, by decide +kernel, by decide, (fun _ => ⟨(km_in10 67 rfl rfl), (km_inp9 (y := yX12_isGuest) 0 rfl)⟩), (fun h => absurd h (by decide)), (fun h => absurd h (by decide))⟩
theorem ok_X12_kin : km_ok M_X12_kin := ⟨by decide +kernel, (km_in8 216 rfl rfl), km_ini12, ⟨by decide +kernel, by decide +kernel, by decide +kernel⟩, by decide +kernel, by decide, (fun _ => ⟨(km_in8 214 rfl rfl), (km_in8 215 rfl rfl)⟩), (fun h => absurd h (by decide)), (fun h => absurd h (by decide))⟩
theorem ok_X12_miles : km_ok M_X12_miles := ⟨by decide +kernel, (km_in9 151 rfl rfl), km_ini12, ⟨by decide +kernel, by decide +kernel, by decide +kernel⟩, by decide +kernel, by decide, (fun _ => ⟨(km_in9 149 rfl rfl), (km_in9 150 rfl rfl)⟩), (fun h => absurd h (by decide)), (fun h => absurd h (by decide))⟩
theorem ok_X12_nearest : km_ok M_X12_nearest := ⟨by decide +kernel, (km_in9 18 rfl rfl), km_ini12, ⟨by decide +kernel, by decide +kernel, by decide +kernel⟩, by decide +kernel, by decide, (fun _ => ⟨(km_in9 17 rfl rfl), (km_inp5 (y := yX12_nearest) 12 rfl)⟩), (fun h => absurd h (by decide)), (fun h => absurd h (by decide))⟩
theorem ok_X12_note : km_ok M_X12_note := ⟨by decide +kernel, (km_in8 231 rfl rfl), km_ini12, ⟨by decide +kernel, by decide +kernel, by decide +kernel⟩, by decide +kernel, by decide, (fun _ => ⟨(km_in8 229 rfl rfl), (km_in8 230 rfl rfl)⟩), (fun h => absurd h (by decide)), (fun h => absurd h (by decide))⟩
theorem ok_X12_oneMore : km_ok M_X12_oneMore := ⟨by decide +kernel, (km_in9 197 rfl rfl), km_ini12, ⟨by decide +kernel, by decide +kernel, by decide +kernel⟩, by decide +kernel, by decide, (fun _ => ⟨(km_in9 196 rfl rfl), (km_inp7 (y := yX12_oneMore) 13 rfl)⟩), (fun h => absurd h (by decide)), (fun h => absurd h (by decide))⟩
theorem ok_X12_option : km_ok M_X12_option := ⟨by decide +kernel, (km_in9 158 rfl rfl), km_ini12, ⟨by decide +kernel, by decide +kernel, by decide +kernel⟩, by decide +kernel, by decide, (fun _ => ⟨(km_in9 156 rfl rfl), (km_in9 157 rfl rfl)⟩), (fun h => absurd h (by decide)), (fun h => absurd h (by decide))⟩
theorem ok_X12_regret : km_ok M_X12_regret := ⟨by decide +kernel, (km_in9 165 rfl rfl), km_ini12, ⟨by decide +kernel, by decide +kernel, by decide +kernel⟩, by decide +kernel, by decide, (fun _ => ⟨(km_in9 163 rfl rfl), (km_in9 164 rfl rfl)⟩), (fun h => absurd h (by decide)), (fun h => absurd h (by decide))⟩
theorem ok_X12_seated : km_ok M_X12_seated := ⟨by decide +kernel, (km_in10 120 rfl rfl), km_ini12, ⟨by decide +kernel, by decide +kernel, by decide +kernel⟩, by decide +kernel, by decide, (fun _ => ⟨(km_in10 118 rfl rfl), (km_in10 119 rfl rfl)⟩), (fun h => absurd h (by decide)), (fun h => absurd h (by decide))⟩
theorem ok_X12_signOf : km_ok M_X12_signOf := ⟨by decide +kernel, (km_in9 76 rfl rfl), km_ini12, ⟨by decide +kernel, by decide +kernel, by decide +kernel⟩, by decide +kernel, by decide, (fun _ => ⟨(km_in9 75 rfl rfl), (km_inp6 (y := yX12_signOf) 7 rfl)⟩), (fun h => absurd h (by decide)), (fun h => absurd h (by decide))⟩
theorem ok_X12_bed : km_ok M_X12_bed := ⟨by decide +kernel, (km_in10 84 rfl rfl), km_ini12, ⟨by decide +kernel, by decide +kernel, by decide +kernel⟩, by decide +kernel, by decide, (fun _ => ⟨(km_in10 82 rfl rfl), (km_in10 83 rfl rfl)⟩), (fun h => absurd h (by decide)), (fun h => absurd h (by decide))⟩
theorem ok_X12_lives : km_ok M_X12_lives := ⟨by decide +kernel, (km_in9 193 rfl rfl), km_ini12, ⟨by decide +kernel, by decide +kernel, by decide +kernel⟩, by decide +kernel, by decide, (fun _ => ⟨(km_in9 192 rfl rfl), (km_inp7 (y := yX12_lives) 12 rfl)⟩), (fun h => absurd h (by decide)), (fun h => absurd h (by decide))⟩
theorem ok_X12_made : km_ok M_X12_made := ⟨by decide +kernel, (km_in10 29 rfl rfl), km_ini12, ⟨by decide +kernel, by decide +kernel, by decide +kernel⟩, by decide +kernel, by decide, (fun _ => ⟨(km_in10 28 rfl rfl), (km_inp8 (y := yX12_made) 12 rfl)⟩), (fun h => absurd h (by decide)), (fun h => absurd h (by decide))⟩
theorem ok_X12_meal : km_ok M_X12_meal := ⟨by decide +kernel, (km_in10 112 rfl rfl), km_ini12, ⟨by decide +kernel, by decide +kernel, by decide +kernel⟩, by decide +kernel, by decide, (fun _ => ⟨(km_in10 110 rfl rfl), (km_in10 111 rfl rfl)⟩), (fun h => absurd h (by decide)), (fun h => absurd h (by decide))⟩
theorem ok_X12_near : km_ok M_X12_near := ⟨by decide +kernel, (km_in9 2 rfl rfl), km_ini12, ⟨by decide +kernel, by decide +kernel, by decide +kernel⟩, by decide +kernel, by decide, (fun _ => ⟨(km_in9 0 rfl rfl), (km_in9 1 rfl rfl)⟩), (fun h => absurd h (by decide)), (fun h => absurd h (by decide))⟩
theorem ok_X12_receipt : km_ok M_X12_receipt := ⟨by decide +kernel, (km_in10 124 rfl rfl), km_ini12, ⟨by decide +kernel, by decide +kernel, by decide +kernel⟩, by decide +kernel, by decide, (fun _ => ⟨(km_in10 122 rfl rfl), (km_in10 123 rfl rfl)⟩), (fun h => absurd h (by decide)), (fun h => absurd h (by decide))⟩
theorem ok_X12_take : km_ok M_X12_take := ⟨by decide +kernel, (km_in9 59 rfl rfl), km_ini12, ⟨by decide +kernel, by decide +kernel, by decide +kernel⟩, by decide +kernel, by decide, (fun _ => ⟨(km_in9 58 rfl rfl), (km_inp6 (y := yX12_take) 3 rfl)⟩), (fun h => absurd h (by decide)), (fun h => absurd h (by decide))⟩
theorem ok_X12_told : km_ok M_X12_told := ⟨by decide +kernel, (km_in9 31 rfl rfl), km_ini12, ⟨by decide +kernel, by decide +kernel, by decide +kernel⟩, by decide +kernel, by decide, (fun _ => ⟨(km_in9 29 rfl rfl), (km_in9 30 rfl rfl)⟩), (fun h => absurd h (by decide)), (fun h => absurd h (by decide))⟩
theorem ok_X12_closes : km_ok M_X12_closes := ⟨by decide +kernel, (km_in9 143 rfl rfl), km_ini12, ⟨by decide +kernel, by decide +kernel, by decide +kernel⟩, by decide +kernel, by decide, (fun _ => ⟨(km_in9 142 rfl rfl), (km_inp7 (y := yX12_closes) 7 rfl)⟩), (fun h => absurd h (by decide)), (fun h => absurd h (by decide))⟩
theorem ok_X12_guest : km_ok M_X12_guest := ⟨by decide +kernel, (km_in10 64 rfl rfl), km_ini12, ⟨by decide +kernel, by decide +kernel, by decide +kernel⟩, by decide +kernel, by decide, (fun _ => ⟨(km_in10 62 rfl rfl), (km_in10 63 rfl rfl)⟩), (fun h => absurd h (by decide)), (fun h => absurd h (by decide))⟩
theorem ok_X12_ifRead : km_ok M_X12_ifRead := ⟨by decide +kernel, (km_in9 135 rfl rfl), km_ini12, ⟨by decide +kernel, by decide +kernel, by decide +kernel⟩, by decide +kernel, by decide, (fun _ => ⟨(km_in9 134 rfl rfl), (km_inp7 (y := yX12_ifRead) 5 rfl)⟩), (fun h => absurd h (by decide)), (fun h => absurd h (by decide))⟩
theorem ok_X12_nextKin : km_ok M_X12_nextKin := ⟨by decide +kernel, (km_in10 21 rfl rfl), km_ini12, ⟨by decide +kernel, by decide +kernel, by decide +kernel⟩, by decide +kernel, by decide, (fun _ => ⟨(km_in10 20 rfl rfl), (km_inp8 (y := yX12_nextKin) 10 rfl)⟩), (fun h => absurd h (by decide)), (fun h => absurd h (by decide))⟩
theorem ok_X12_opens : km_ok M_X12_opens := ⟨by decide +kernel, (km_in9 116 rfl rfl), km_ini12, ⟨by decide +kernel, by decide +kernel, by decide +kernel⟩, by decide +kernel, by decide, (fun _ => ⟨(km_in9 115 rfl rfl), (km_inp7 (y := yX12_opens) 1 rfl)⟩), (fun h => absurd h (by decide)), (fun h => absurd h (by decide))⟩
theorem ok_X12_peopleOf : km_ok M_X12_peopleOf := ⟨by decide +kernel, (km_in9 234 rfl rfl), km_ini12, ⟨by decide +kernel, by decide +kernel, by decide +kernel⟩, by decide +kernel, by decide, (fun _ => ⟨(km_in9 233 rfl rfl), (km_inp8 (y := yX12_peopleOf) 5 rfl)⟩), (fun h => absurd h (by decide)), (fun h => absurd h (by decide))⟩
theorem ok_X12_regretOf : km_ok M_X12_regretOf := ⟨by decide +kernel, (km_in9 189 rfl rfl), km_ini12, ⟨by decide +kernel, by decide +kernel, by decide +kernel⟩, by decide +kernel, by decide, (fun _ => ⟨(km_in9 188 rfl rfl), (km_inp7 (y := yX12_regretOf) 11 rfl)⟩), (fun h => absurd h (by decide)), (fun h => absurd h (by decide))⟩
theorem ok_X12_signGoes : km_ok M_X12_signGoes := ⟨by decide +kernel, (km_in10 25 rfl rfl), km_ini12, ⟨by decide +kernel, by decide +kernel, by decide +kernel⟩, by decide +kernel, by decide, (fun _ => ⟨(km_in10 24 rfl rfl), (km_inp8 (y := yX12_signGoes) 11 rfl)⟩), (fun h => absurd h (by decide)), (fun h => absurd h (by decide))⟩
theorem ok_X12_signRead : km_ok M_X12_signRead := ⟨by decide +kernel, (km_in9 120 rfl rfl), km_ini12, ⟨by decide +kernel, by decide +kernel, by decide +kernel⟩, by decide +kernel, by decide, (fun _ => ⟨(km_in9 119 rfl rfl), (km_inp7 (y := yX12_signRead) 2 rfl)⟩), (fun h => absurd h (by decide)), (fun h => absurd h (by decide))⟩
theorem ok_X12_beats : km_ok M_X12_beats := ⟨by decide +kernel, (km_in10 41 rfl rfl), km_ini12, ⟨by decide +kernel, by decide +kernel, by decide +kernel⟩, by decide +kernel, by decide, (fun _ => ⟨(km_in10 40 rfl rfl), (km_inp8 (y := yX12_beats) 14 rfl)⟩), (fun h => absurd h (by decide)), (fun h => absurd h (by decide))⟩
theorem ok_X12_branch : km_ok M_X12_branch := ⟨by decide +kernel, (km_in10 174 rfl rfl), km_ini12, ⟨by decide +kernel, by decide +kernel, by decide +kernel⟩, by decide +kernel, by decide, (fun _ => ⟨(km_in10 172 rfl rfl), (km_in10 173 rfl rfl)⟩), (fun h => absurd h (by decide)), (fun h => absurd h (by decide))⟩
theorem ok_X12_canCome : km_ok M_X12_canCome := ⟨by decide +kernel, (km_in9 185 rfl rfl), km_ini12, ⟨by decide +kernel, by decide +kernel, by decide +kernel⟩, by decide +kernel, by decide, (fun _ => ⟨(km_in9 184 rfl rfl), (km_inp7 (y := yX12_canCome) 10 rfl)⟩), (fun h => absurd h (by decide)), (fun h => absurd h (by decide))⟩
theorem ok_X12_heapGoes : km_ok M_X12_heapGoes := ⟨by decide +kernel, (km_in10 2 rfl rfl), km_ini12, ⟨by decide +kernel, by decide +kernel, by decide +kernel⟩, by decide +kernel, by decide, (fun _ => ⟨(km_in10 1 rfl rfl), (km_inp8 (y := yX12_heapGoes) 7 rfl)⟩), (fun h => absurd h (by decide)), (fun h => absurd h (by decide))⟩
theorem ok_X12_valueRead : km_ok M_X12_valueRead := ⟨by decide +kernel, (km_in9 96 rfl rfl), km_ini12, ⟨by decide +kernel, by decide +kernel, by decide +kernel⟩, by decide +kernel, by decide, (fun _ => ⟨(km_in9 95 rfl rfl), (km_inp6 (y := yX12_valueRead) 12 rfl)⟩), (fun h => absurd h (by decide)), (fun h => absurd h (by decide))⟩
theorem ok_X12_comeOf : km_ok M_X12_comeOf := ⟨by decide +kernel, (km_in9 205 rfl rfl), km_ini12, ⟨by decide +kernel, by decide +kernel, by decide +kernel⟩, by decide +kernel, by decide, (fun _ => ⟨(km_in9 204 rfl rfl), (km_inp7 (y := yX12_comeOf) 15 rfl)⟩), (fun h => absurd h (by decide)), (fun h => absurd h (by decide))⟩
theorem ok_X12_expression : km_ok M_X12_expression := ⟨by decide +kernel, (km_in9 92 rfl rfl), km_ini12, ⟨by decide +kernel, by decide +kernel, by decide +kernel⟩, by decide +kernel, by decide, (fun _ => ⟨(km_in9 91 rfl rfl), (km_inp6 (y := yX12_expression) 11 rfl)⟩), (fun h => absurd h (by decide)), (fun h => absurd h (by decide))⟩
theorem ok_X12_ring : km_ok M_X12_ring := ⟨by decide +kernel, (km_in10 53 rfl rfl), km_ini12, ⟨by decide +kernel, by decide +kernel, by decide +kernel⟩, by decide +kernel, by decide, (fun _ => ⟨(km_in10 51 rfl rfl), (km_in10 52 rfl rfl)⟩), (fun h => absurd h (by decide)), (fun h => absurd h (by decide))⟩
theorem ok_X12_travels : km_ok M_X12_travels := ⟨by decide +kernel, (km_in9 181 rfl rfl), km_ini12, ⟨by decide +kernel, by decide +kernel, by decide +kernel⟩, by decide +kernel, by decide, (fun _ => ⟨(km_in9 180 rfl rfl), (km_inp7 (y := yX12_travels) 9 rfl)⟩), (fun h => absurd h (by decide)), (fun h => absurd h (by decide))⟩
theorem ok_X12_fareOf : km_ok M_X12_fareOf := ⟨by decide +kernel, (km_in9 230 rfl rfl), km_ini12, ⟨by decide +kernel, by decide +kernel, by decide +kernel⟩, by decide +kernel, by decide, (fun _ => ⟨(km_in9 229 rfl rfl), (km_inp8 (y := yX12_fareOf) 4 rfl)⟩), (fun h => absurd h (by decide)), (fun h => absurd h (by decide))⟩
theorem ok_X12_line : km_ok M_X12_line := ⟨by decide +kernel, (km_in9 84 rfl rfl), km_ini12, ⟨by decide +kernel, by decide +kernel, by decide +kernel⟩, by decide +kernel, by decide, (fun _ => ⟨(km_in9 83 rfl rfl), (km_inp6 (y := yX12_line) 9 rfl)⟩), (fun h => absurd h (by decide)), (fun h => absurd h (by decide))⟩
theorem ok_X12_travel : km_ok M_X12_travel := ⟨by decide +kernel, (km_in9 177 rfl rfl), km_ini12, ⟨by decide +kernel, by decide +kernel, by decide +kernel⟩, by decide +kernel, by decide, (fun _ => ⟨(km_in9 175 rfl rfl), (km_in9 176 rfl rfl)⟩), (fun h => absurd h (by decide)), (fun h => absurd h (by decide))⟩
theorem ok_X12_nameValue : km_ok M_X12_nameValue := ⟨by decide +kernel, (km_in9 226 rfl rfl), km_ini12, ⟨by decide +kernel, by decide +kernel, by decide +kernel⟩, by decide +kernel, by decide, (fun _ => ⟨(km_in9 225 rfl rfl), (km_inp8 (y := yX12_nameValue) 3 rfl)⟩), (fun h => absurd h (by decide)), (fun h => absurd h (by decide))⟩
theorem ok_X12_rules : km_ok M_X12_rules := ⟨by decide +kernel, (km_in9 55 rfl rfl), km_ini12, ⟨by decide +kernel, by decide +kernel, by decide +kernel⟩, by decide +kernel, by decide, (fun _ => ⟨(km_in9 53 rfl rfl), (km_in9 54 rfl rfl)⟩), (fun h => absurd h (by decide)), (fun h => absurd h (by decide))⟩
theorem ok_X12_valueOf : km_ok M_X12_valueOf := ⟨by decide +kernel, (km_in9 218 rfl rfl), km_ini12, ⟨by decide +kernel, by decide +kernel, by decide +kernel⟩, by decide +kernel, by decide, (fun _ => ⟨(km_in9 217 rfl rfl), (km_inp8 (y := yX12_valueOf) 1 rfl)⟩), (fun h => absurd h (by decide)), (fun h => absurd h (by decide))⟩
theorem ok_X12_hostOf : km_ok M_X12_hostOf := ⟨by decide +kernel, (km_in10 166 rfl rfl), km_ini12, ⟨by decide +kernel, by decide +kernel, by decide +kernel⟩, by decide +kernel, by decide, (fun _ => ⟨(km_in10 165 rfl rfl), (km_inp9 (y := yX12_hostOf) 11 rfl)⟩), (fun h => absurd h (by decide)), (fun h => absurd h (by decide))⟩
theorem ok_X12_scoreOf : km_ok M_X12_scoreOf := ⟨by decide +kernel, (km_in9 214 rfl rfl), km_ini12, ⟨by decide +kernel, by decide +kernel, by decide +kernel⟩, by decide +kernel, by decide, (fun _ => ⟨(km_in9 213 rfl rfl), (km_inp8 (y := yX12_scoreOf) 0 rfl)⟩), (fun h => absurd h (by decide)), (fun h => absurd h (by decide))⟩
theorem ok_X12_weightOf : km_ok M_X12_weightOf := ⟨by decide +kernel, (km_in10 137 rfl rfl), km_ini12, ⟨by decide +kernel, by decide +kernel, by decide +kernel⟩, by decide +kernel, by decide, (fun _ => ⟨(km_in10 136 rfl rfl), (km_inp9 (y := yX12_weightOf) 7 rfl)⟩), (fun h => absurd h (by decide)), (fun h => absurd h (by decide))⟩
theorem ok_X12_end : km_ok M_X12_end := ⟨by decide +kernel, (km_in10 170 rfl rfl), km_ini12, ⟨by decide +kernel, by decide +kernel, by decide +kernel⟩, by decide +kernel, by decide, (fun _ => ⟨(km_in10 168 rfl rfl), (km_in10 169 rfl rfl)⟩), (fun h => absurd h (by decide)), (fun h => absurd h (by decide))⟩
theorem ok_X12_host : km_ok M_X12_host := ⟨by decide +kernel, (km_in10 162 rfl rfl), km_ini12, ⟨by decide +kernel, by decide +kernel, by decide +kernel⟩, by decide +kernel, by decide, (fun _ => ⟨(km_in10 160 rfl rfl), (km_in10 161 rfl rfl)⟩), (fun h => absurd h (by decide)), (fun h => absurd h (by decide))⟩
theorem ok_X12_outBy : km_ok M_X12_outBy := ⟨by decide +kernel, (km_in10 37 rfl rfl), km_ini12, ⟨by decide +kernel, by decide +kernel, by decide +kernel⟩, by decide +kernel, by decide, (fun _ => ⟨(km_in10 36 rfl rfl), (km_inp8 (y := yX12_outBy) 13 rfl)⟩), (fun h => absurd h (by decide)), (fun h => absurd h (by decide))⟩
theorem ok_X12_score : km_ok M_X12_score := ⟨by decide +kernel, (km_in9 209 rfl rfl), km_ini12, ⟨by decide +kernel, by decide +kernel, by decide +kernel⟩, by decide +kernel, by decide, (fun _ => ⟨(km_in9 207 rfl rfl), (km_in9 208 rfl rfl)⟩), (fun h => absurd h (by decide)), (fun h => absurd h (by decide))⟩
theorem ok_X12_share : km_ok M_X12_share := ⟨by decide +kernel, (km_in10 133 rfl rfl), km_ini12, ⟨by decide +kernel, by decide +kernel, by decide +kernel⟩, by decide +kernel, by decide, (fun _ => ⟨(km_in10 132 rfl rfl), (km_inp9 (y := yX12_share) 6 rfl)⟩), (fun h => absurd h (by decide)), (fun h => absurd h (by decide))⟩
theorem ok_X12_chosen : km_ok M_X12_chosen := ⟨by decide +kernel, (km_in10 49 rfl rfl), km_ini12, ⟨by decide +kernel, by decide +kernel, by decide +kernel⟩, by decide +kernel, by decide, (fun _ => ⟨(km_in10 48 rfl rfl), (km_inp8 (y := yX12_chosen) 15 rfl)⟩), (fun h => absurd h (by decide)), (fun h => absurd h (by decide))⟩
theorem ok_X12_judged : km_ok M_X12_judged := ⟨by decide +kernel, (km_in10 33 rfl rfl), km_ini12, ⟨by decide +kernel, by decide +kernel, by decide +kernel⟩, by decide +kernel, by decide, (fun _ => ⟨(km_in10 31 rfl rfl), (km_in10 32 rfl rfl)⟩), (fun h => absurd h (by decide)), (fun h => absurd h (by decide))⟩
theorem ok_X12_owes : km_ok M_X12_owes := ⟨by decide +kernel, (km_in10 129 rfl rfl), km_ini12, ⟨by decide +kernel, by decide +kernel, by decide +kernel⟩, by decide +kernel, by decide, (fun _ => ⟨(km_in10 127 rfl rfl), (km_in10 128 rfl rfl)⟩), (fun h => absurd h (by decide)), (fun h => absurd h (by decide))⟩
theorem ok_X12_settles : km_ok M_X12_settles := ⟨by decide +kernel, (km_in10 146 rfl rfl), km_ini12, ⟨by decide +kernel, by decide +kernel, by decide +kernel⟩, by decide +kernel, by decide, (fun _ => ⟨(km_in10 145 rfl rfl), (km_inp9 (y := yX12_settles) 8 rfl)⟩), (fun h => absurd h (by decide)), (fun h => absurd h (by decide))⟩
theorem ok_X12_choice : km_ok M_X12_choice := ⟨by decide +kernel, (km_in10 45 rfl rfl), km_ini12, ⟨by decide +kernel, by decide +kernel, by decide +kernel⟩, by decide +kernel, by decide, (fun _ => ⟨(km_in10 43 rfl rfl), (km_in10 44 rfl rfl)⟩), (fun h => absurd h (by decide)), (fun h => absurd h (by decide))⟩
theorem ok_X12_meet : km_ok M_X12_meet := ⟨by decide +kernel, (km_in10 60 rfl rfl), km_ini12, ⟨by decide +kernel, by decide +kernel, by decide +kernel⟩, by decide +kernel, by decide, (fun _ => ⟨(km_in10 58 rfl rfl), (km_in10 59 rfl rfl)⟩), (fun h => absurd h (by decide)), (fun h => absurd h (by decide))⟩
theorem ok_X12_payment : km_ok M_X12_payment := ⟨by decide +kernel, (km_in10 158 rfl rfl), km_ini12, ⟨by decide +kernel, by decide +kernel, by decide +kernel⟩, by decide +kernel, by decide, (fun _ => ⟨(km_in10 156 rfl rfl), (km_in10 157 rfl rfl)⟩), (fun h => absurd h (by decide)), (fun h => absurd h (by decide))⟩
theorem ok_X12_settle : km_ok M_X12_settle := ⟨by decide +kernel, (km_in10 142 rfl rfl), km_ini12, ⟨by decide +kernel, by decide +kernel, by decide +kernel⟩, by decide +kernel, by decide, (fun _ => ⟨(km_in10 140 rfl rfl), (km_in10 141 rfl rfl)⟩), (fun h => absurd h (by decide)), (fun h => absurd h (by decide))⟩
theorem ok_J6_bitCount_0f7a4 : km_ok M_J6_bitCount_0f7a4 := ⟨by decide +kernel, (km_in4 212 rfl rfl), km_ini14, ⟨by decide +kernel, by decide +kernel, by decide +kernel⟩, by decide +kernel, by decide, (fun h => absurd h (by decide)), (fun _ => (km_in4 211 rfl rfl)), (fun h => absurd h (by decide))⟩
theorem ok_J6_compare_7cf53 : km_ok M_J6_compare_7cf53 := ⟨by decide +kernel, (km_in6 0 rfl rfl), km_ini14, ⟨by decide +kernel, by decide +kernel, by decide +kernel⟩, by decide +kernel, by decide, (fun h => absurd h (by decide)), (fun _ => (km_in5 239 rfl rfl)), (fun h => absurd h (by decide))⟩
theorem ok_J6_numberOfTrailingZeros_0f7a4 : km_ok M_J6_numberOfTrailingZeros_0f7a4 := ⟨by decide +kernel, (km_in6 84 rfl rfl), km_ini14, ⟨by decide +kernel, by decide +kernel, by decide +kernel⟩, by decide +kernel, by decide, (fun h => absurd h (by decide)), (fun _ => (km_in6 83 rfl rfl)), (fun h => absurd h (by decide))⟩
theorem ok_J6_signum_0f7a4 : km_ok M_J6_signum_0f7a4 := ⟨by decide +kernel, (km_in6 214 rfl rfl), km_ini14, ⟨by decide +kernel, by decide +kernel, by decide +kernel⟩, by decide +kernel, by decide, (fun h => absurd h (by decide)), (fun _ => (km_in6 213 rfl rfl)), (fun h => absurd h (by decide))⟩
theorem ok_J7_fill_53178 : km_ok M_J7_fill_53178 := ⟨by decide +kernel, (km_in1 232 rfl rfl), km_ini16, ⟨by decide +kernel, by decide +kernel, by decide +kernel⟩, by decide +kernel, by decide, (fun h => absurd h (by decide)), (fun _ => (km_in1 231 rfl rfl)), (fun h => absurd h (by decide))⟩
/-- a link of a class: its word, and the method stands -/
def km_lk (o : Nat) (e : Nat × km_Md × Bool) : Prop := (e.2.2 = false → Cond.methodLink (km_cn o) e.1 e.2.1.2.2.1 ∈ km_gw) ∧ (30 ≤ e.2.1.2.2.2.2.2.2.2 ∨ km_ok e.2.1) ∧ (e.2.2 = true → e.2.1.2.2.2.2.2.2.2 = 2)
theorem lk_0_30 : km_lk 0 (30, M_J7_fill_53178, false) := ⟨(fun _ => (km_in4 206 rfl rfl)), Or.inr ok_J7_fill_53178, (fun h => absurd h (by decide))⟩
theorem lk_0_45 : km_lk 0 (45, M_X0_tells, false) := ⟨(fun _ => (km_in4 207 rfl rfl)), Or.inr ok_X0_tells, (fun h => absurd h (by decide))⟩
theorem lk_0_52 : km_lk 0 (52, M_J6_bitCount_0f7a4, false) := ⟨(fun _ => (km_in4 210 rfl rfl)), Or.inr ok_J6_bitCount_0f7a4, (fun h => absurd h (by decide))⟩
theorem lk_0_61 : km_lk 0 (61, M_X0_addMaybe, false) := ⟨(fun _ => (km_in4 216 rfl rfl)), Or.inr ok_X0_addMaybe, (fun h => absurd h (by decide))⟩
theorem lk_0_80 : km_lk 0 (80, M_X0_climb, false) := ⟨(fun _ => (km_in4 235 rfl rfl)), Or.inr ok_X0_climb, (fun h => absurd h (by decide))⟩
theorem lk_0_87 : km_lk 0 (87, M_X0_weigh, false) := ⟨(fun _ => (km_in4 239 rfl rfl)), Or.inr ok_X0_weigh, (fun h => absurd h (by decide))⟩
theorem lk_0_96 : km_lk 0 (96, M_X0_enter, false) := ⟨(fun _ => (km_in4 224 rfl rfl)), Or.inr ok_X0_enter, (fun h => absurd h (by decide))⟩
theorem lk_0_100 : km_lk 0 (100, M_X0_findNear, false) := ⟨(fun _ => (km_in4 231 rfl rfl)), Or.inr ok_X0_findNear, (fun h => absurd h (by decide))⟩
theorem lk_0 : ∀ e ∈ km_mtL 0, km_lk 0 e := (List.forall_mem_cons.mpr ⟨lk_0_30, (List.forall_mem_cons.mpr ⟨lk_0_45, (List.forall_mem_cons.mpr ⟨lk_0_52, (List.forall_mem_cons.mpr ⟨lk_0_61, (List.forall_mem_cons.mpr ⟨lk_0_80, (List.forall_mem_cons.mpr ⟨lk_0_87, (List.forall_mem_cons.mpr ⟨lk_0_96, (List.forall_mem_cons.mpr ⟨lk_0_100, (fun _ h => absurd h List.not_mem_nil)⟩)⟩)⟩)⟩)⟩)⟩)⟩)⟩)
theorem lk_1_48 : km_lk 1 (48, M_X1_isKin, false) := ⟨(fun _ => (km_in4 172 rfl rfl)), Or.inr ok_X1_isKin, (fun h => absurd h (by decide))⟩
theorem lk_1_52 : km_lk 1 (52, M_X1_isYear, false) := ⟨(fun _ => (km_in4 173 rfl rfl)), Or.inr ok_X1_isYear, (fun h => absurd h (by decide))⟩
theorem lk_1_64 : km_lk 1 (64, M_X1_strikeOut, false) := ⟨(fun _ => (km_in4 197 rfl rfl)), Or.inr ok_X1_strikeOut, (fun h => absurd h (by decide))⟩
theorem lk_1_67 : km_lk 1 (67, M_J7_fill_53178, false) := ⟨(fun _ => (km_in4 201 rfl rfl)), Or.inr ok_J7_fill_53178, (fun h => absurd h (by decide))⟩
theorem lk_1_73 : km_lk 1 (73, M_X1_read, false) := ⟨(fun _ => (km_in5 85 rfl rfl)), Or.inr ok_X1_read, (fun h => absurd h (by decide))⟩
theorem lk_1_83 : km_lk 1 (83, M_X1_livesIn, false) := ⟨(fun _ => (km_in5 86 rfl rfl)), Or.inr ok_X1_livesIn, (fun h => absurd h (by decide))⟩
theorem lk_1_87 : km_lk 1 (87, M_X1_isOf, false) := ⟨(fun _ => (km_in5 25 rfl rfl)), Or.inr ok_X1_isOf, (fun h => absurd h (by decide))⟩
theorem lk_1_91 : km_lk 1 (91, M_X1_withTrait, false) := ⟨(fun _ => (km_in6 232 rfl rfl)), Or.inr ok_X1_withTrait, (fun h => absurd h (by decide))⟩
theorem lk_1_94 : km_lk 1 (94, M_J6_bitCount_0f7a4, false) := ⟨(fun _ => (km_in6 233 rfl rfl)), Or.inr ok_J6_bitCount_0f7a4, (fun h => absurd h (by decide))⟩
theorem lk_1 : ∀ e ∈ km_mtL 1, km_lk 1 e := (List.forall_mem_cons.mpr ⟨lk_1_48, (List.forall_mem_cons.mpr ⟨lk_1_52, (List.forall_mem_cons.mpr ⟨lk_1_64, (List.forall_mem_cons.mpr ⟨lk_1_67, (List.forall_mem_cons.mpr ⟨lk_1_73, (List.forall_mem_cons.mpr ⟨lk_1_83, (List.forall_mem_cons.mpr ⟨lk_1_87, (List.forall_mem_cons.mpr ⟨lk_1_91, (List.forall_mem_cons.mpr ⟨lk_1_94, (fun _ h => absurd h List.not_mem_nil)⟩)⟩)⟩)⟩)⟩)⟩)⟩)⟩)⟩)
theorem lk_2_43 : km_lk 2 (43, M_J7_fill_53178, false) := ⟨(fun _ => (km_in5 107 rfl rfl)), Or.inr ok_J7_fill_53178, (fun h => absurd h (by decide))⟩
theorem lk_2_55 : km_lk 2 (55, M_X2_findWay, false) := ⟨(fun _ => (km_in5 112 rfl rfl)), Or.inr ok_X2_findWay, (fun h => absurd h (by decide))⟩
theorem lk_2_59 : km_lk 2 (59, M_X2_goAlong, false) := ⟨(fun _ => (km_in5 121 rfl rfl)), Or.inr ok_X2_goAlong, (fun h => absurd h (by decide))⟩
theorem lk_2_64 : km_lk 2 (64, M_X2_tryFlight, false) := ⟨(fun _ => (km_in5 117 rfl rfl)), Or.inr ok_X2_tryFlight, (fun h => absurd h (by decide))⟩
theorem lk_2 : ∀ e ∈ km_mtL 2, km_lk 2 e := (List.forall_mem_cons.mpr ⟨lk_2_43, (List.forall_mem_cons.mpr ⟨lk_2_55, (List.forall_mem_cons.mpr ⟨lk_2_59, (List.forall_mem_cons.mpr ⟨lk_2_64, (fun _ h => absurd h List.not_mem_nil)⟩)⟩)⟩)⟩)
theorem lk_3_51 : km_lk 3 (51, M_X3_pairCouples, false) := ⟨(fun _ => (km_in6 69 rfl rfl)), Or.inr ok_X3_pairCouples, (fun h => absurd h (by decide))⟩
theorem lk_3_57 : km_lk 3 (57, M_X1_withTrait, false) := ⟨(fun _ => (km_in6 75 rfl rfl)), Or.inr ok_X1_withTrait, (fun h => absurd h (by decide))⟩
theorem lk_3_61 : km_lk 3 (61, M_X3_nextSet, false) := ⟨(fun _ => (km_in6 79 rfl rfl)), Or.inr ok_X3_nextSet, (fun h => absurd h (by decide))⟩
theorem lk_3_64 : km_lk 3 (64, M_J6_numberOfTrailingZeros_0f7a4, false) := ⟨(fun _ => (km_in6 82 rfl rfl)), Or.inr ok_J6_numberOfTrailingZeros_0f7a4, (fun h => absurd h (by decide))⟩
theorem lk_3_71 : km_lk 3 (71, M_J6_bitCount_0f7a4, false) := ⟨(fun _ => (km_in6 87 rfl rfl)), Or.inr ok_J6_bitCount_0f7a4, (fun h => absurd h (by decide))⟩
theorem lk_3_74 : km_lk 3 (74, M_X3_noteMovers, false) := ⟨(fun _ => (km_in6 88 rfl rfl)), Or.inr ok_X3_noteMovers, (fun h => absurd h (by decide))⟩
theorem lk_3_78 : km_lk 3 (78, M_X3_arrange, false) := ⟨(fun _ => (km_in6 92 rfl rfl)), Or.inr ok_X3_arrange, (fun h => absurd h (by decide))⟩
theorem lk_3_83 : km_lk 3 (83, M_J7_fill_53178, false) := ⟨(fun _ => (km_in6 73 rfl rfl)), Or.inr ok_J7_fill_53178, (fun h => absurd h (by decide))⟩
theorem lk_3_95 : km_lk 3 (95, M_X1_coupleIn, false) := ⟨(fun _ => (km_in6 74 rfl rfl)), Or.inr ok_X1_coupleIn, (fun h => absurd h (by decide))⟩
theorem lk_3_99 : km_lk 3 (99, M_X3_forbidDiets, false) := ⟨(fun _ => (km_in6 144 rfl rfl)), Or.inr ok_X3_forbidDiets, (fun h => absurd h (by decide))⟩
theorem lk_3_103 : km_lk 3 (103, M_X3_pricePlace, false) := ⟨(fun _ => (km_in6 96 rfl rfl)), Or.inr ok_X3_pricePlace, (fun h => absurd h (by decide))⟩
theorem lk_3_113 : km_lk 3 (113, M_X3_fillLeast, false) := ⟨(fun _ => (km_in6 101 rfl rfl)), Or.inr ok_X3_fillLeast, (fun h => absurd h (by decide))⟩
theorem lk_3_117 : km_lk 3 (117, M_X3_leastFrom, false) := ⟨(fun _ => (km_in6 105 rfl rfl)), Or.inr ok_X3_leastFrom, (fun h => absurd h (by decide))⟩
theorem lk_3_121 : km_lk 3 (121, M_X3_choose, false) := ⟨(fun _ => (km_in6 109 rfl rfl)), Or.inr ok_X3_choose, (fun h => absurd h (by decide))⟩
theorem lk_3_125 : km_lk 3 (125, M_X3_firstFor, false) := ⟨(fun _ => (km_in6 113 rfl rfl)), Or.inr ok_X3_firstFor, (fun h => absurd h (by decide))⟩
theorem lk_3 : ∀ e ∈ km_mtL 3, km_lk 3 e := (List.forall_mem_cons.mpr ⟨lk_3_51, (List.forall_mem_cons.mpr ⟨lk_3_57, (List.forall_mem_cons.mpr ⟨lk_3_61, (List.forall_mem_cons.mpr ⟨lk_3_64, (List.forall_mem_cons.mpr ⟨lk_3_71, (List.forall_mem_cons.mpr ⟨lk_3_74, (List.forall_mem_cons.mpr ⟨lk_3_78, (List.forall_mem_cons.mpr ⟨lk_3_83, (List.forall_mem_cons.mpr ⟨lk_3_95, (List.forall_mem_cons.mpr ⟨lk_3_99, (List.forall_mem_cons.mpr ⟨lk_3_103, (List.forall_mem_cons.mpr ⟨lk_3_113, (List.forall_mem_cons.mpr ⟨lk_3_117, (List.forall_mem_cons.mpr ⟨lk_3_121, (List.forall_mem_cons.mpr ⟨lk_3_125, (fun _ h => absurd h List.not_mem_nil)⟩)⟩)⟩)⟩)⟩)⟩)⟩)⟩)⟩)⟩)⟩)⟩)⟩)⟩)⟩)
theorem lk_4_49 : km_lk 4 (49, M_X4_lookAtKin, false) := ⟨(fun _ => (km_in5 142 rfl rfl)), Or.inr ok_X4_lookAtKin, (fun h => absurd h (by decide))⟩
theorem lk_4_57 : km_lk 4 (57, M_X6_regretOf, false) := ⟨(fun _ => (km_in5 147 rfl rfl)), Or.inr ok_X6_regretOf, (fun h => absurd h (by decide))⟩
theorem lk_4_70 : km_lk 4 (70, M_X1_ageIn, false) := ⟨(fun _ => (km_in5 146 rfl rfl)), Or.inr ok_X1_ageIn, (fun h => absurd h (by decide))⟩
theorem lk_4_106 : km_lk 4 (106, M_X4_doStep, false) := ⟨(fun _ => (km_in5 158 rfl rfl)), Or.inr ok_X4_doStep, (fun h => absurd h (by decide))⟩
theorem lk_4_112 : km_lk 4 (112, M_X4_push, false) := ⟨(fun _ => (km_in5 162 rfl rfl)), Or.inr ok_X4_push, (fun h => absurd h (by decide))⟩
theorem lk_4_116 : km_lk 4 (116, M_X4_nameValue, false) := ⟨(fun _ => (km_in5 166 rfl rfl)), Or.inr ok_X4_nameValue, (fun h => absurd h (by decide))⟩
theorem lk_4_120 : km_lk 4 (120, M_X4_pop, false) := ⟨(fun _ => (km_in5 171 rfl rfl)), Or.inr ok_X4_pop, (fun h => absurd h (by decide))⟩
theorem lk_4_124 : km_lk 4 (124, M_X4_joinLeft, false) := ⟨(fun _ => (km_in5 175 rfl rfl)), Or.inr ok_X4_joinLeft, (fun h => absurd h (by decide))⟩
theorem lk_4_128 : km_lk 4 (128, M_X4_beginHeap, false) := ⟨(fun _ => (km_in5 179 rfl rfl)), Or.inr ok_X4_beginHeap, (fun h => absurd h (by decide))⟩
theorem lk_4_132 : km_lk 4 (132, M_X4_goOnWithHeap, false) := ⟨(fun _ => (km_in5 183 rfl rfl)), Or.inr ok_X4_goOnWithHeap, (fun h => absurd h (by decide))⟩
theorem lk_4_135 : km_lk 4 (135, M_X4_takeIntoHeap, false) := ⟨(fun _ => (km_in5 187 rfl rfl)), Or.inr ok_X4_takeIntoHeap, (fun h => absurd h (by decide))⟩
theorem lk_4_141 : km_lk 4 (141, M_X4_doSign, false) := ⟨(fun _ => (km_in5 203 rfl rfl)), Or.inr ok_X4_doSign, (fun h => absurd h (by decide))⟩
theorem lk_4_144 : km_lk 4 (144, M_X4_within, false) := ⟨(fun _ => (km_in5 191 rfl rfl)), Or.inr ok_X4_within, (fun h => absurd h (by decide))⟩
theorem lk_4_148 : km_lk 4 (148, M_X4_product, false) := ⟨(fun _ => (km_in5 207 rfl rfl)), Or.inr ok_X4_product, (fun h => absurd h (by decide))⟩
theorem lk_4_152 : km_lk 4 (152, M_X4_quotient, false) := ⟨(fun _ => (km_in5 214 rfl rfl)), Or.inr ok_X4_quotient, (fun h => absurd h (by decide))⟩
theorem lk_4_156 : km_lk 4 (156, M_X4_compares, false) := ⟨(fun _ => (km_in5 218 rfl rfl)), Or.inr ok_X4_compares, (fun h => absurd h (by decide))⟩
theorem lk_4_191 : km_lk 4 (191, M_X1_isKin, false) := ⟨(fun _ => (km_in5 170 rfl rfl)), Or.inr ok_X1_isKin, (fun h => absurd h (by decide))⟩
theorem lk_4 : ∀ e ∈ km_mtL 4, km_lk 4 e := (List.forall_mem_cons.mpr ⟨lk_4_49, (List.forall_mem_cons.mpr ⟨lk_4_57, (List.forall_mem_cons.mpr ⟨lk_4_70, (List.forall_mem_cons.mpr ⟨lk_4_106, (List.forall_mem_cons.mpr ⟨lk_4_112, (List.forall_mem_cons.mpr ⟨lk_4_116, (List.forall_mem_cons.mpr ⟨lk_4_120, (List.forall_mem_cons.mpr ⟨lk_4_124, (List.forall_mem_cons.mpr ⟨lk_4_128, (List.forall_mem_cons.mpr ⟨lk_4_132, (List.forall_mem_cons.mpr ⟨lk_4_135, (List.forall_mem_cons.mpr ⟨lk_4_141, (List.forall_mem_cons.mpr ⟨lk_4_144, (List.forall_mem_cons.mpr ⟨lk_4_148, (List.forall_mem_cons.mpr ⟨lk_4_152, (List.forall_mem_cons.mpr ⟨lk_4_156, (List.forall_mem_cons.mpr ⟨lk_4_191, (fun _ h => absurd h List.not_mem_nil)⟩)⟩)⟩)⟩)⟩)⟩)⟩)⟩)⟩)⟩)⟩)⟩)⟩)⟩)⟩)⟩)⟩)
theorem lk_5_30 : km_lk 5 (30, M_J7_fill_53178, false) := ⟨(fun _ => (km_in2 237 rfl rfl)), Or.inr ok_J7_fill_53178, (fun h => absurd h (by decide))⟩
theorem lk_5_39 : km_lk 5 (39, M_X5_place, false) := ⟨(fun _ => (km_in6 121 rfl rfl)), Or.inr ok_X5_place, (fun h => absurd h (by decide))⟩
theorem lk_5 : ∀ e ∈ km_mtL 5, km_lk 5 e := (List.forall_mem_cons.mpr ⟨lk_5_30, (List.forall_mem_cons.mpr ⟨lk_5_39, (fun _ h => absurd h List.not_mem_nil)⟩)⟩)
theorem lk_6_37 : km_lk 6 (37, M_J7_fill_53178, false) := ⟨(fun _ => (km_in5 60 rfl rfl)), Or.inr ok_J7_fill_53178, (fun h => absurd h (by decide))⟩
theorem lk_6_43 : km_lk 6 (43, M_X1_isAlive, false) := ⟨(fun _ => (km_in5 95 rfl rfl)), Or.inr ok_X1_isAlive, (fun h => absurd h (by decide))⟩
theorem lk_6_52 : km_lk 6 (52, M_X6_regretOf, false) := ⟨(fun _ => (km_in5 91 rfl rfl)), Or.inr ok_X6_regretOf, (fun h => absurd h (by decide))⟩
theorem lk_6_56 : km_lk 6 (56, M_J6_compare_7cf53, false) := ⟨(fun _ => (km_in5 238 rfl rfl)), Or.inr ok_J6_compare_7cf53, (fun h => absurd h (by decide))⟩
theorem lk_6_61 : km_lk 6 (61, M_X6_beats, false) := ⟨(fun _ => (km_in5 234 rfl rfl)), Or.inr ok_X6_beats, (fun h => absurd h (by decide))⟩
theorem lk_6_65 : km_lk 6 (65, M_X6_beatenBy, false) := ⟨(fun _ => (km_in6 17 rfl rfl)), Or.inr ok_X6_beatenBy, (fun h => absurd h (by decide))⟩
theorem lk_6_69 : km_lk 6 (69, M_J6_bitCount_0f7a4, false) := ⟨(fun _ => (km_in6 18 rfl rfl)), Or.inr ok_J6_bitCount_0f7a4, (fun h => absurd h (by decide))⟩
theorem lk_6_72 : km_lk 6 (72, M_X6_beatsRest, false) := ⟨(fun _ => (km_in6 19 rfl rfl)), Or.inr ok_X6_beatsRest, (fun h => absurd h (by decide))⟩
theorem lk_6 : ∀ e ∈ km_mtL 6, km_lk 6 e := (List.forall_mem_cons.mpr ⟨lk_6_37, (List.forall_mem_cons.mpr ⟨lk_6_43, (List.forall_mem_cons.mpr ⟨lk_6_52, (List.forall_mem_cons.mpr ⟨lk_6_56, (List.forall_mem_cons.mpr ⟨lk_6_61, (List.forall_mem_cons.mpr ⟨lk_6_65, (List.forall_mem_cons.mpr ⟨lk_6_69, (List.forall_mem_cons.mpr ⟨lk_6_72, (fun _ h => absurd h List.not_mem_nil)⟩)⟩)⟩)⟩)⟩)⟩)⟩)⟩)
theorem lk_7_32 : km_lk 7 (32, M_X8_clear, false) := ⟨(fun _ => (km_in3 131 rfl rfl)), Or.inr ok_X8_clear, (fun h => absurd h (by decide))⟩
theorem lk_7_35 : km_lk 7 (35, M_X10_begin, false) := ⟨(fun _ => (km_in3 135 rfl rfl)), Or.inr ok_X10_begin, (fun h => absurd h (by decide))⟩
theorem lk_7_56 : km_lk 7 (56, M_X10_advance, false) := ⟨(fun _ => (km_in3 142 rfl rfl)), Or.inr ok_X10_advance, (fun h => absurd h (by decide))⟩
theorem lk_7_62 : km_lk 7 (62, M_X7_takeToken, false) := ⟨(fun _ => (km_in4 36 rfl rfl)), Or.inr ok_X7_takeToken, (fun h => absurd h (by decide))⟩
theorem lk_7_65 : km_lk 7 (65, M_X7_fail, false) := ⟨(fun _ => (km_in4 44 rfl rfl)), Or.inr ok_X7_fail, (fun h => absurd h (by decide))⟩
theorem lk_7_69 : km_lk 7 (69, M_X7_takeLineWord, false) := ⟨(fun _ => (km_in4 40 rfl rfl)), Or.inr ok_X7_takeLineWord, (fun h => absurd h (by decide))⟩
theorem lk_7_72 : km_lk 7 (72, M_X7_takeOperand, false) := ⟨(fun _ => (km_in4 64 rfl rfl)), Or.inr ok_X7_takeOperand, (fun h => absurd h (by decide))⟩
theorem lk_7_75 : km_lk 7 (75, M_X7_takeOperator, false) := ⟨(fun _ => (km_in4 105 rfl rfl)), Or.inr ok_X7_takeOperator, (fun h => absurd h (by decide))⟩
theorem lk_7_78 : km_lk 7 (78, M_X7_takeHeapOpening, false) := ⟨(fun _ => (km_in4 133 rfl rfl)), Or.inr ok_X7_takeHeapOpening, (fun h => absurd h (by decide))⟩
theorem lk_7_84 : km_lk 7 (84, M_X7_lineOf, false) := ⟨(fun _ => (km_in4 48 rfl rfl)), Or.inr ok_X7_lineOf, (fun h => absurd h (by decide))⟩
theorem lk_7_88 : km_lk 7 (88, M_X8_has, false) := ⟨(fun _ => (km_in4 52 rfl rfl)), Or.inr ok_X8_has, (fun h => absurd h (by decide))⟩
theorem lk_7_95 : km_lk 7 (95, M_X8_begin, false) := ⟨(fun _ => (km_in4 56 rfl rfl)), Or.inr ok_X8_begin, (fun h => absurd h (by decide))⟩
theorem lk_7_96 : km_lk 7 (96, M_X7_expectOperand, false) := ⟨(fun _ => (km_in4 60 rfl rfl)), Or.inr ok_X7_expectOperand, (fun h => absurd h (by decide))⟩
theorem lk_7_104 : km_lk 7 (104, M_X7_takeNumber, false) := ⟨(fun _ => (km_in4 68 rfl rfl)), Or.inr ok_X7_takeNumber, (fun h => absurd h (by decide))⟩
theorem lk_7_107 : km_lk 7 (107, M_X7_takeName, false) := ⟨(fun _ => (km_in4 81 rfl rfl)), Or.inr ok_X7_takeName, (fun h => absurd h (by decide))⟩
theorem lk_7_110 : km_lk 7 (110, M_X7_takeHeapWord, false) := ⟨(fun _ => (km_in4 89 rfl rfl)), Or.inr ok_X7_takeHeapWord, (fun h => absurd h (by decide))⟩
theorem lk_7_113 : km_lk 7 (113, M_X7_openBracket, false) := ⟨(fun _ => (km_in4 93 rfl rfl)), Or.inr ok_X7_openBracket, (fun h => absurd h (by decide))⟩
theorem lk_7_116 : km_lk 7 (116, M_X7_takeAhead, false) := ⟨(fun _ => (km_in4 101 rfl rfl)), Or.inr ok_X7_takeAhead, (fun h => absurd h (by decide))⟩
theorem lk_7_127 : km_lk 7 (127, M_X7_tieKnot, false) := ⟨(fun _ => (km_in4 73 rfl rfl)), Or.inr ok_X7_tieKnot, (fun h => absurd h (by decide))⟩
theorem lk_7_131 : km_lk 7 (131, M_X8_emit, false) := ⟨(fun _ => (km_in4 77 rfl rfl)), Or.inr ok_X8_emit, (fun h => absurd h (by decide))⟩
theorem lk_7_135 : km_lk 7 (135, M_X7_namesHere, false) := ⟨(fun _ => (km_in4 85 rfl rfl)), Or.inr ok_X7_namesHere, (fun h => absurd h (by decide))⟩
theorem lk_7_154 : km_lk 7 (154, M_X7_keepWaiting, false) := ⟨(fun _ => (km_in4 97 rfl rfl)), Or.inr ok_X7_keepWaiting, (fun h => absurd h (by decide))⟩
theorem lk_7_157 : km_lk 7 (157, M_X7_takeSign, false) := ⟨(fun _ => (km_in4 109 rfl rfl)), Or.inr ok_X7_takeSign, (fun h => absurd h (by decide))⟩
theorem lk_7_160 : km_lk 7 (160, M_X7_takeJoin, false) := ⟨(fun _ => (km_in4 120 rfl rfl)), Or.inr ok_X7_takeJoin, (fun h => absurd h (by decide))⟩
theorem lk_7_163 : km_lk 7 (163, M_X7_closeBracket, false) := ⟨(fun _ => (km_in4 124 rfl rfl)), Or.inr ok_X7_closeBracket, (fun h => absurd h (by decide))⟩
theorem lk_7_166 : km_lk 7 (166, M_X7_takeIf, false) := ⟨(fun _ => (km_in4 129 rfl rfl)), Or.inr ok_X7_takeIf, (fun h => absurd h (by decide))⟩
theorem lk_7_169 : km_lk 7 (169, M_X7_release, false) := ⟨(fun _ => (km_in4 116 rfl rfl)), Or.inr ok_X7_release, (fun h => absurd h (by decide))⟩
theorem lk_7_172 : km_lk 7 (172, M_X7_strength, false) := ⟨(fun _ => (km_in4 113 rfl rfl)), Or.inr ok_X7_strength, (fun h => absurd h (by decide))⟩
theorem lk_7 : ∀ e ∈ km_mtL 7, km_lk 7 e := (List.forall_mem_cons.mpr ⟨lk_7_32, (List.forall_mem_cons.mpr ⟨lk_7_35, (List.forall_mem_cons.mpr ⟨lk_7_56, (List.forall_mem_cons.mpr ⟨lk_7_62, (List.forall_mem_cons.mpr ⟨lk_7_65, (List.forall_mem_cons.mpr ⟨lk_7_69, (List.forall_mem_cons.mpr ⟨lk_7_72, (List.forall_mem_cons.mpr ⟨lk_7_75, (List.forall_mem_cons.mpr ⟨lk_7_78, (List.forall_mem_cons.mpr ⟨lk_7_84, (List.forall_mem_cons.mpr ⟨lk_7_88, (List.forall_mem_cons.mpr ⟨lk_7_95, (List.forall_mem_cons.mpr ⟨lk_7_96, (List.forall_mem_cons.mpr ⟨lk_7_104, (List.forall_mem_cons.mpr ⟨lk_7_107, (List.forall_mem_cons.mpr ⟨lk_7_110, (List.forall_mem_cons.mpr ⟨lk_7_113, (List.forall_mem_cons.mpr ⟨lk_7_116, (List.forall_mem_cons.mpr ⟨lk_7_127, (List.forall_mem_cons.mpr ⟨lk_7_131, (List.forall_mem_cons.mpr ⟨lk_7_135, (List.forall_mem_cons.mpr ⟨lk_7_154, (List.forall_mem_cons.mpr ⟨lk_7_157, (List.forall_mem_cons.mpr ⟨lk_7_160, (List.forall_mem_cons.mpr ⟨lk_7_163, (List.forall_mem_cons.mpr ⟨lk_7_166, (List.forall_mem_cons.mpr ⟨lk_7_169, (List.forall_mem_cons.mpr ⟨lk_7_172, (fun _ h => absurd h List.not_mem_nil)⟩)⟩)⟩)⟩)⟩)⟩)⟩)⟩)⟩)⟩)⟩)⟩)⟩)⟩)⟩)⟩)⟩)⟩)⟩)⟩)⟩)⟩)⟩)⟩)⟩)⟩)⟩)⟩)
theorem lk_8_27 : km_lk 8 (27, M_J7_fill_53178, false) := ⟨(fun _ => (km_in1 230 rfl rfl)), Or.inr ok_J7_fill_53178, (fun h => absurd h (by decide))⟩
theorem lk_8 : ∀ e ∈ km_mtL 8, km_lk 8 e := (List.forall_mem_cons.mpr ⟨lk_8_27, (fun _ h => absurd h List.not_mem_nil)⟩)
theorem lk_9_40 : km_lk 9 (40, M_J6_bitCount_0f7a4, false) := ⟨(fun _ => (km_in6 185 rfl rfl)), Or.inr ok_J6_bitCount_0f7a4, (fun h => absurd h (by decide))⟩
theorem lk_9_52 : km_lk 9 (52, M_X9_countGroups, false) := ⟨(fun _ => (km_in6 195 rfl rfl)), Or.inr ok_X9_countGroups, (fun h => absurd h (by decide))⟩
theorem lk_9_60 : km_lk 9 (60, M_X9_firstGroup, false) := ⟨(fun _ => (km_in6 200 rfl rfl)), Or.inr ok_X9_firstGroup, (fun h => absurd h (by decide))⟩
theorem lk_9_63 : km_lk 9 (63, M_X9_payWithin, false) := ⟨(fun _ => (km_in6 204 rfl rfl)), Or.inr ok_X9_payWithin, (fun h => absurd h (by decide))⟩
theorem lk_9_66 : km_lk 9 (66, M_J6_numberOfTrailingZeros_0f7a4, false) := ⟨(fun _ => (km_in6 199 rfl rfl)), Or.inr ok_J6_numberOfTrailingZeros_0f7a4, (fun h => absurd h (by decide))⟩
theorem lk_9_69 : km_lk 9 (69, M_X9_firstOpen, false) := ⟨(fun _ => (km_in6 208 rfl rfl)), Or.inr ok_X9_firstOpen, (fun h => absurd h (by decide))⟩
theorem lk_9_75 : km_lk 9 (75, M_J6_signum_0f7a4, false) := ⟨(fun _ => (km_in6 212 rfl rfl)), Or.inr ok_J6_signum_0f7a4, (fun h => absurd h (by decide))⟩
theorem lk_9 : ∀ e ∈ km_mtL 9, km_lk 9 e := (List.forall_mem_cons.mpr ⟨lk_9_40, (List.forall_mem_cons.mpr ⟨lk_9_52, (List.forall_mem_cons.mpr ⟨lk_9_60, (List.forall_mem_cons.mpr ⟨lk_9_63, (List.forall_mem_cons.mpr ⟨lk_9_66, (List.forall_mem_cons.mpr ⟨lk_9_69, (List.forall_mem_cons.mpr ⟨lk_9_75, (fun _ h => absurd h List.not_mem_nil)⟩)⟩)⟩)⟩)⟩)⟩)⟩)
theorem lk_10_37 : km_lk 10 (37, M_X10_byteAt, false) := ⟨(fun _ => (km_in3 146 rfl rfl)), Or.inr ok_X10_byteAt, (fun h => absurd h (by decide))⟩
theorem lk_10_41 : km_lk 10 (41, M_X10_isLetter, false) := ⟨(fun _ => (km_in3 150 rfl rfl)), Or.inr ok_X10_isLetter, (fun h => absurd h (by decide))⟩
theorem lk_10_45 : km_lk 10 (45, M_X10_readWord, false) := ⟨(fun _ => (km_in3 153 rfl rfl)), Or.inr ok_X10_readWord, (fun h => absurd h (by decide))⟩
theorem lk_10_48 : km_lk 10 (48, M_X10_isDigit, false) := ⟨(fun _ => (km_in3 206 rfl rfl)), Or.inr ok_X10_isDigit, (fun h => absurd h (by decide))⟩
theorem lk_10_51 : km_lk 10 (51, M_X10_readNumber, false) := ⟨(fun _ => (km_in3 209 rfl rfl)), Or.inr ok_X10_readNumber, (fun h => absurd h (by decide))⟩
theorem lk_10_54 : km_lk 10 (54, M_X10_readSign, false) := ⟨(fun _ => (km_in3 214 rfl rfl)), Or.inr ok_X10_readSign, (fun h => absurd h (by decide))⟩
theorem lk_10 : ∀ e ∈ km_mtL 10, km_lk 10 e := (List.forall_mem_cons.mpr ⟨lk_10_37, (List.forall_mem_cons.mpr ⟨lk_10_41, (List.forall_mem_cons.mpr ⟨lk_10_45, (List.forall_mem_cons.mpr ⟨lk_10_48, (List.forall_mem_cons.mpr ⟨lk_10_51, (List.forall_mem_cons.mpr ⟨lk_10_54, (fun _ h => absurd h List.not_mem_nil)⟩)⟩)⟩)⟩)⟩)⟩)
theorem lk_11_18 : km_lk 11 (18, M_X10_init, true) := ⟨(fun h => absurd h (by decide)), Or.inr ok_X10_init, (fun _ => rfl)⟩
theorem lk_11_21 : km_lk 11 (21, M_X1_init, true) := ⟨(fun h => absurd h (by decide)), Or.inr ok_X1_init, (fun _ => rfl)⟩
theorem lk_11_24 : km_lk 11 (24, M_X6_init, false) := ⟨(fun _ => (km_in1 136 rfl rfl)), Or.inr ok_X6_init, (fun h => absurd h (by decide))⟩
theorem lk_11_33 : km_lk 11 (33, M_X7_init, false) := ⟨(fun _ => (km_in1 172 rfl rfl)), Or.inr ok_X7_init, (fun h => absurd h (by decide))⟩
theorem lk_11_42 : km_lk 11 (42, M_X8_init, false) := ⟨(fun _ => (km_in1 226 rfl rfl)), Or.inr ok_X8_init, (fun h => absurd h (by decide))⟩
theorem lk_11_56 : km_lk 11 (56, M_X0_init, true) := ⟨(fun h => absurd h (by decide)), Or.inr ok_X0_init, (fun _ => rfl)⟩
theorem lk_11_67 : km_lk 11 (67, M_X2_init, true) := ⟨(fun h => absurd h (by decide)), Or.inr ok_X2_init, (fun _ => rfl)⟩
theorem lk_11_74 : km_lk 11 (74, M_X4_init, false) := ⟨(fun _ => (km_in2 126 rfl rfl)), Or.inr ok_X4_init, (fun h => absurd h (by decide))⟩
theorem lk_11_83 : km_lk 11 (83, M_X3_init, true) := ⟨(fun h => absurd h (by decide)), Or.inr ok_X3_init, (fun _ => rfl)⟩
theorem lk_11_90 : km_lk 11 (90, M_X5_init, false) := ⟨(fun _ => (km_in2 232 rfl rfl)), Or.inr ok_X5_init, (fun h => absurd h (by decide))⟩
theorem lk_11_97 : km_lk 11 (97, M_X9_init, true) := ⟨(fun h => absurd h (by decide)), Or.inr ok_X9_init, (fun _ => rfl)⟩
theorem lk_11_102 : km_lk 11 (102, M_J7_fill_53178, false) := ⟨(fun _ => (km_in3 71 rfl rfl)), Or.inr ok_J7_fill_53178, (fun h => absurd h (by decide))⟩
theorem lk_11_112 : km_lk 11 (112, M_X10_put, false) := ⟨(fun _ => (km_in3 119 rfl rfl)), Or.inr ok_X10_put, (fun h => absurd h (by decide))⟩
theorem lk_11_116 : km_lk 11 (116, M_X7_parse, false) := ⟨(fun _ => (km_in3 127 rfl rfl)), Or.inr ok_X7_parse, (fun h => absurd h (by decide))⟩
theorem lk_11_132 : km_lk 11 (132, M_X1_traitFits, false) := ⟨(fun _ => (km_in4 146 rfl rfl)), Or.inr ok_X1_traitFits, (fun h => absurd h (by decide))⟩
theorem lk_11_136 : km_lk 11 (136, M_X1_addKin, false) := ⟨(fun _ => (km_in4 152 rfl rfl)), Or.inr ok_X1_addKin, (fun h => absurd h (by decide))⟩
theorem lk_11_140 : km_lk 11 (140, M_X1_isKin, false) := ⟨(fun _ => (km_in4 160 rfl rfl)), Or.inr ok_X1_isKin, (fun h => absurd h (by decide))⟩
theorem lk_11_148 : km_lk 11 (148, M_X1_noteFits, false) := ⟨(fun _ => (km_in4 168 rfl rfl)), Or.inr ok_X1_noteFits, (fun h => absurd h (by decide))⟩
theorem lk_11_152 : km_lk 11 (152, M_X1_addNote, false) := ⟨(fun _ => (km_in4 176 rfl rfl)), Or.inr ok_X1_addNote, (fun h => absurd h (by decide))⟩
theorem lk_11_159 : km_lk 11 (159, M_X1_isKnown, false) := ⟨(fun _ => (km_in4 188 rfl rfl)), Or.inr ok_X1_isKnown, (fun h => absurd h (by decide))⟩
theorem lk_11_162 : km_lk 11 (162, M_X1_read, false) := ⟨(fun _ => (km_in4 192 rfl rfl)), Or.inr ok_X1_read, (fun h => absurd h (by decide))⟩
theorem lk_11_165 : km_lk 11 (165, M_X0_read, false) := ⟨(fun _ => (km_in4 202 rfl rfl)), Or.inr ok_X0_read, (fun h => absurd h (by decide))⟩
theorem lk_11_167 : km_lk 11 (167, M_X0_sureNear, false) := ⟨(fun _ => (km_in4 220 rfl rfl)), Or.inr ok_X0_sureNear, (fun h => absurd h (by decide))⟩
theorem lk_11_171 : km_lk 11 (171, M_X0_overWorlds, false) := ⟨(fun _ => (km_in5 3 rfl rfl)), Or.inr ok_X0_overWorlds, (fun h => absurd h (by decide))⟩
theorem lk_11_174 : km_lk 11 (174, M_X1_isYear, false) := ⟨(fun _ => (km_in5 12 rfl rfl)), Or.inr ok_X1_isYear, (fun h => absurd h (by decide))⟩
theorem lk_11_177 : km_lk 11 (177, M_X1_livesIn, false) := ⟨(fun _ => (km_in5 13 rfl rfl)), Or.inr ok_X1_livesIn, (fun h => absurd h (by decide))⟩
theorem lk_11_180 : km_lk 11 (180, M_X1_ageIn, false) := ⟨(fun _ => (km_in5 17 rfl rfl)), Or.inr ok_X1_ageIn, (fun h => absurd h (by decide))⟩
theorem lk_11_184 : km_lk 11 (184, M_X1_coupleIn, false) := ⟨(fun _ => (km_in5 21 rfl rfl)), Or.inr ok_X1_coupleIn, (fun h => absurd h (by decide))⟩
theorem lk_11_191 : km_lk 11 (191, M_J6_bitCount_0f7a4, false) := ⟨(fun _ => (km_in5 29 rfl rfl)), Or.inr ok_J6_bitCount_0f7a4, (fun h => absurd h (by decide))⟩
theorem lk_11_200 : km_lk 11 (200, M_X5_isOn, false) := ⟨(fun _ => (km_in5 34 rfl rfl)), Or.inr ok_X5_isOn, (fun h => absurd h (by decide))⟩
theorem lk_11_204 : km_lk 11 (204, M_X11_isLand, false) := ⟨(fun _ => (km_in5 42 rfl rfl)), Or.inr ok_X11_isLand, (fun h => absurd h (by decide))⟩
theorem lk_11_207 : km_lk 11 (207, M_X6_setMiles, false) := ⟨(fun _ => (km_in5 45 rfl rfl)), Or.inr ok_X6_setMiles, (fun h => absurd h (by decide))⟩
theorem lk_11_211 : km_lk 11 (211, M_X11_isDay, false) := ⟨(fun _ => (km_in5 53 rfl rfl)), Or.inr ok_X11_isDay, (fun h => absurd h (by decide))⟩
theorem lk_11_217 : km_lk 11 (217, M_X6_addOption, false) := ⟨(fun _ => (km_in5 56 rfl rfl)), Or.inr ok_X6_addOption, (fun h => absurd h (by decide))⟩
theorem lk_11_220 : km_lk 11 (220, M_X6_has, false) := ⟨(fun _ => (km_in5 65 rfl rfl)), Or.inr ok_X6_has, (fun h => absurd h (by decide))⟩
theorem lk_11_227 : km_lk 11 (227, M_X2_addFlight, false) := ⟨(fun _ => (km_in5 73 rfl rfl)), Or.inr ok_X2_addFlight, (fun h => absurd h (by decide))⟩
theorem lk_11_230 : km_lk 11 (230, M_X1_readNow, false) := ⟨(fun _ => (km_in5 81 rfl rfl)), Or.inr ok_X1_readNow, (fun h => absurd h (by decide))⟩
theorem lk_11_233 : km_lk 11 (233, M_X6_whoCan, false) := ⟨(fun _ => (km_in5 87 rfl rfl)), Or.inr ok_X6_whoCan, (fun h => absurd h (by decide))⟩
theorem lk_11_236 : km_lk 11 (236, M_X11_flyTo, false) := ⟨(fun _ => (km_in5 99 rfl rfl)), Or.inr ok_X11_flyTo, (fun h => absurd h (by decide))⟩
theorem lk_11_247 : km_lk 11 (247, M_X11_lookAt, false) := ⟨(fun _ => (km_in5 130 rfl rfl)), Or.inr ok_X11_lookAt, (fun h => absurd h (by decide))⟩
theorem lk_11_250 : km_lk 11 (250, M_X11_scoreAt, false) := ⟨(fun _ => (km_in5 148 rfl rfl)), Or.inr ok_X11_scoreAt, (fun h => absurd h (by decide))⟩
theorem lk_11_254 : km_lk 11 (254, M_X6_beatenBy, false) := ⟨(fun _ => (km_in5 230 rfl rfl)), Or.inr ok_X6_beatenBy, (fun h => absurd h (by decide))⟩
theorem lk_11_257 : km_lk 11 (257, M_X11_firstBar, false) := ⟨(fun _ => (km_in6 1 rfl rfl)), Or.inr ok_X11_firstBar, (fun h => absurd h (by decide))⟩
theorem lk_11_261 : km_lk 11 (261, M_X6_leastRing, false) := ⟨(fun _ => (km_in6 13 rfl rfl)), Or.inr ok_X6_leastRing, (fun h => absurd h (by decide))⟩
theorem lk_11_264 : km_lk 11 (264, M_X11_choice, false) := ⟨(fun _ => (km_in6 27 rfl rfl)), Or.inr ok_X11_choice, (fun h => absurd h (by decide))⟩
theorem lk_11_273 : km_lk 11 (273, M_X5_isGuest, false) := ⟨(fun _ => (km_in6 32 rfl rfl)), Or.inr ok_X5_isGuest, (fun h => absurd h (by decide))⟩
theorem lk_11_276 : km_lk 11 (276, M_X1_isAlive, false) := ⟨(fun _ => (km_in6 36 rfl rfl)), Or.inr ok_X1_isAlive, (fun h => absurd h (by decide))⟩
theorem lk_11_285 : km_lk 11 (285, M_X3_addRoom, false) := ⟨(fun _ => (km_in6 41 rfl rfl)), Or.inr ok_X3_addRoom, (fun h => absurd h (by decide))⟩
theorem lk_11_288 : km_lk 11 (288, M_X3_isFeud, false) := ⟨(fun _ => (km_in6 49 rfl rfl)), Or.inr ok_X3_isFeud, (fun h => absurd h (by decide))⟩
theorem lk_11_291 : km_lk 11 (291, M_X3_turnFeud, false) := ⟨(fun _ => (km_in6 53 rfl rfl)), Or.inr ok_X3_turnFeud, (fun h => absurd h (by decide))⟩
theorem lk_11_301 : km_lk 11 (301, M_X3_findBedding, false) := ⟨(fun _ => (km_in6 65 rfl rfl)), Or.inr ok_X3_findBedding, (fun h => absurd h (by decide))⟩
theorem lk_11_308 : km_lk 11 (308, M_X5_keepBedding, false) := ⟨(fun _ => (km_in6 117 rfl rfl)), Or.inr ok_X5_keepBedding, (fun h => absurd h (by decide))⟩
theorem lk_11_314 : km_lk 11 (314, M_X3_addTable, false) := ⟨(fun _ => (km_in6 132 rfl rfl)), Or.inr ok_X3_addTable, (fun h => absurd h (by decide))⟩
theorem lk_11_323 : km_lk 11 (323, M_X3_findSeating, false) := ⟨(fun _ => (km_in6 140 rfl rfl)), Or.inr ok_X3_findSeating, (fun h => absurd h (by decide))⟩
theorem lk_11_326 : km_lk 11 (326, M_X5_keepMeal, false) := ⟨(fun _ => (km_in6 148 rfl rfl)), Or.inr ok_X5_keepMeal, (fun h => absurd h (by decide))⟩
theorem lk_11_334 : km_lk 11 (334, M_X11_shareOut, false) := ⟨(fun _ => (km_in6 166 rfl rfl)), Or.inr ok_X11_shareOut, (fun h => absurd h (by decide))⟩
theorem lk_11_347 : km_lk 11 (347, M_X9_settleAll, false) := ⟨(fun _ => (km_in6 191 rfl rfl)), Or.inr ok_X9_settleAll, (fun h => absurd h (by decide))⟩
theorem lk_11_362 : km_lk 11 (362, M_X8_has, false) := ⟨(fun _ => (km_in5 152 rfl rfl)), Or.inr ok_X8_has, (fun h => absurd h (by decide))⟩
theorem lk_11_363 : km_lk 11 (363, M_X11_hostByRule, false) := ⟨(fun _ => (km_in6 224 rfl rfl)), Or.inr ok_X11_hostByRule, (fun h => absurd h (by decide))⟩
theorem lk_11_366 : km_lk 11 (366, M_X11_hostByTurn, false) := ⟨(fun _ => (km_in6 238 rfl rfl)), Or.inr ok_X11_hostByTurn, (fun h => absurd h (by decide))⟩
theorem lk_11_369 : km_lk 11 (369, M_X11_host, false) := ⟨(fun _ => (km_in7 10 rfl rfl)), Or.inr ok_X11_host, (fun h => absurd h (by decide))⟩
theorem lk_11_372 : km_lk 11 (372, M_X5_close, false) := ⟨(fun _ => (km_in7 11 rfl rfl)), Or.inr ok_X5_close, (fun h => absurd h (by decide))⟩
theorem lk_11_387 : km_lk 11 (387, M_X1_people, false) := ⟨(fun _ => (km_in6 228 rfl rfl)), Or.inr ok_X1_people, (fun h => absurd h (by decide))⟩
theorem lk_11_390 : km_lk 11 (390, M_X5_paidInAll, false) := ⟨(fun _ => (km_in6 177 rfl rfl)), Or.inr ok_X5_paidInAll, (fun h => absurd h (by decide))⟩
theorem lk_11_396 : km_lk 11 (396, M_X2_clearWaiting, false) := ⟨(fun _ => (km_in5 103 rfl rfl)), Or.inr ok_X2_clearWaiting, (fun h => absurd h (by decide))⟩
theorem lk_11_408 : km_lk 11 (408, M_X2_carry, false) := ⟨(fun _ => (km_in5 108 rfl rfl)), Or.inr ok_X2_carry, (fun h => absurd h (by decide))⟩
theorem lk_11_411 : km_lk 11 (411, M_X8_names, false) := ⟨(fun _ => (km_in5 134 rfl rfl)), Or.inr ok_X8_names, (fun h => absurd h (by decide))⟩
theorem lk_11_414 : km_lk 11 (414, M_X4_lookAtOption, false) := ⟨(fun _ => (km_in5 138 rfl rfl)), Or.inr ok_X4_lookAtOption, (fun h => absurd h (by decide))⟩
theorem lk_11_417 : km_lk 11 (417, M_X4_value, false) := ⟨(fun _ => (km_in5 153 rfl rfl)), Or.inr ok_X4_value, (fun h => absurd h (by decide))⟩
theorem lk_11_421 : km_lk 11 (421, M_X6_regretInAll, false) := ⟨(fun _ => (km_in5 222 rfl rfl)), Or.inr ok_X6_regretInAll, (fun h => absurd h (by decide))⟩
theorem lk_11_424 : km_lk 11 (424, M_X11_weightOf, false) := ⟨(fun _ => (km_in6 170 rfl rfl)), Or.inr ok_X11_weightOf, (fun h => absurd h (by decide))⟩
theorem lk_11_427 : km_lk 11 (427, M_X9_divide, false) := ⟨(fun _ => (km_in6 181 rfl rfl)), Or.inr ok_X9_divide, (fun h => absurd h (by decide))⟩
theorem lk_11_444 : km_lk 11 (444, M_X4_lookAtBranch, false) := ⟨(fun _ => (km_in6 234 rfl rfl)), Or.inr ok_X4_lookAtBranch, (fun h => absurd h (by decide))⟩
theorem lk_11_448 : km_lk 11 (448, M_X11_isBeforeInTurn, false) := ⟨(fun _ => (km_in7 2 rfl rfl)), Or.inr ok_X11_isBeforeInTurn, (fun h => absurd h (by decide))⟩
theorem lk_11 : ∀ e ∈ km_mtL 11, km_lk 11 e := (List.forall_mem_cons.mpr ⟨lk_11_18, (List.forall_mem_cons.mpr ⟨lk_11_21, (List.forall_mem_cons.mpr ⟨lk_11_24, (List.forall_mem_cons.mpr ⟨lk_11_33, (List.forall_mem_cons.mpr ⟨lk_11_42, (List.forall_mem_cons.mpr ⟨lk_11_56, (List.forall_mem_cons.mpr ⟨lk_11_67, (List.forall_mem_cons.mpr ⟨lk_11_74, (List.forall_mem_cons.mpr ⟨lk_11_83, (List.forall_mem_cons.mpr ⟨lk_11_90, (List.forall_mem_cons.mpr ⟨lk_11_97, (List.forall_mem_cons.mpr ⟨lk_11_102, (List.forall_mem_cons.mpr ⟨lk_11_112, (List.forall_mem_cons.mpr ⟨lk_11_116, (List.forall_mem_cons.mpr ⟨lk_11_132, (List.forall_mem_cons.mpr ⟨lk_11_136, (List.forall_mem_cons.mpr ⟨lk_11_140, (List.forall_mem_cons.mpr ⟨lk_11_148, (List.forall_mem_cons.mpr ⟨lk_11_152, (List.forall_mem_cons.mpr ⟨lk_11_159, (List.forall_mem_cons.mpr ⟨lk_11_162, (List.forall_mem_cons.mpr ⟨lk_11_165, (List.forall_mem_cons.mpr ⟨lk_11_167, (List.forall_mem_cons.mpr ⟨lk_11_171, (List.forall_mem_cons.mpr ⟨lk_11_174, (List.forall_mem_cons.mpr ⟨lk_11_177, (List.forall_mem_cons.mpr ⟨lk_11_180, (List.forall_mem_cons.mpr ⟨lk_11_184, (List.forall_mem_cons.mpr ⟨lk_11_191, (List.forall_mem_cons.mpr ⟨lk_11_200, (List.forall_mem_cons.mpr ⟨lk_11_204, (List.forall_mem_cons.mpr ⟨lk_11_207, (List.forall_mem_cons.mpr ⟨lk_11_211, (List.forall_mem_cons.mpr ⟨lk_11_217, (List.forall_mem_cons.mpr ⟨lk_11_220, (List.forall_mem_cons.mpr ⟨lk_11_227, (List.forall_mem_cons.mpr ⟨lk_11_230, (List.forall_mem_cons.mpr ⟨lk_11_233, (List.forall_mem_cons.mpr ⟨lk_11_236, (List.forall_mem_cons.mpr ⟨lk_11_247, (List.forall_mem_cons.mpr ⟨lk_11_250, (List.forall_mem_cons.mpr ⟨lk_11_254, (List.forall_mem_cons.mpr ⟨lk_11_257, (List.forall_mem_cons.mpr ⟨lk_11_261, (List.forall_mem_cons.mpr ⟨lk_11_264, (List.forall_mem_cons.mpr ⟨lk_11_273, (List.forall_mem_cons.mpr ⟨lk_11_276, (List.forall_mem_cons.mpr ⟨lk_11_285, (List.forall_mem_cons.mpr ⟨lk_11_288, (List.forall_mem_cons.mpr ⟨lk_11_291, (List.forall_mem_cons.mpr ⟨lk_11_301, (List.forall_mem_cons.mpr ⟨lk_11_308, (List.forall_mem_cons.mpr ⟨lk_11_314, (List.forall_mem_cons.mpr ⟨lk_11_323, (List.forall_mem_cons.mpr ⟨lk_11_326, (List.forall_mem_cons.mpr ⟨lk_11_334, (List.forall_mem_cons.mpr ⟨lk_11_347, (List.forall_mem_cons.mpr ⟨lk_11_362, (List.forall_mem_cons.mpr ⟨lk_11_363, (List.forall_mem_cons.mpr ⟨lk_11_366, (List.forall_mem_cons.mpr ⟨lk_11_369, (List.forall_mem_cons.mpr ⟨lk_11_372, (List.forall_mem_cons.mpr ⟨lk_11_387, (List.forall_mem_cons.mpr ⟨lk_11_390, (List.forall_mem_cons.mpr ⟨lk_11_396, (List.forall_mem_cons.mpr ⟨lk_11_408, (List.forall_mem_cons.mpr ⟨lk_11_411, (List.forall_mem_cons.mpr ⟨lk_11_414, (List.forall_mem_cons.mpr ⟨lk_11_417, (List.forall_mem_cons.mpr ⟨lk_11_421, (List.forall_mem_cons.mpr ⟨lk_11_424, (List.forall_mem_cons.mpr ⟨lk_11_427, (List.forall_mem_cons.mpr ⟨lk_11_444, (List.forall_mem_cons.mpr ⟨lk_11_448, (fun _ h => absurd h List.not_mem_nil)⟩)⟩)⟩)⟩)⟩)⟩)⟩)⟩)⟩)⟩)⟩)⟩)⟩)⟩)⟩)⟩)⟩)⟩)⟩)⟩)⟩)⟩)⟩)⟩)⟩)⟩)⟩)⟩)⟩)⟩)⟩)⟩)⟩)⟩)⟩)⟩)⟩)⟩)⟩)⟩)⟩)⟩)⟩)⟩)⟩)⟩)⟩)⟩)⟩)⟩)⟩)⟩)⟩)⟩)⟩)⟩)⟩)⟩)⟩)⟩)⟩)⟩)⟩)⟩)⟩)⟩)⟩)⟩)⟩)⟩)⟩)⟩)⟩)⟩)
theorem lk_12_211 : km_lk 12 (211, M_X12_isTrait, false) := ⟨(fun _ => (km_in8 217 rfl rfl)), Or.inr ok_X12_isTrait, (fun h => absurd h (by decide))⟩
theorem lk_12_215 : km_lk 12 (215, M_X12_isKin, false) := ⟨(fun _ => (km_in8 224 rfl rfl)), Or.inr ok_X12_isKin, (fun h => absurd h (by decide))⟩
theorem lk_12_222 : km_lk 12 (222, M_X12_isYear, false) := ⟨(fun _ => (km_in8 232 rfl rfl)), Or.inr ok_X12_isYear, (fun h => absurd h (by decide))⟩
theorem lk_12_225 : km_lk 12 (225, M_X12_isParent, false) := ⟨(fun _ => (km_in9 11 rfl rfl)), Or.inr ok_X12_isParent, (fun h => absurd h (by decide))⟩
theorem lk_12_232 : km_lk 12 (232, M_X12_climbs, false) := ⟨(fun _ => (km_in9 19 rfl rfl)), Or.inr ok_X12_climbs, (fun h => absurd h (by decide))⟩
theorem lk_12_245 : km_lk 12 (245, M_X12_know, false) := ⟨(fun _ => (km_in9 3 rfl rfl)), Or.inr ok_X12_know, (fun h => absurd h (by decide))⟩
theorem lk_12_249 : km_lk 12 (249, M_X12_family, false) := ⟨(fun _ => (km_in9 7 rfl rfl)), Or.inr ok_X12_family, (fun h => absurd h (by decide))⟩
theorem lk_12_252 : km_lk 12 (252, M_X12_nearest, false) := ⟨(fun _ => (km_in9 15 rfl rfl)), Or.inr ok_X12_nearest, (fun h => absurd h (by decide))⟩
theorem lk_12_256 : km_lk 12 (256, M_X12_isWorld, false) := ⟨(fun _ => (km_in9 24 rfl rfl)), Or.inr ok_X12_isWorld, (fun h => absurd h (by decide))⟩
theorem lk_12_259 : km_lk 12 (259, M_X12_latest, false) := ⟨(fun _ => (km_in9 36 rfl rfl)), Or.inr ok_X12_latest, (fun h => absurd h (by decide))⟩
theorem lk_12_263 : km_lk 12 (263, M_X12_isAlive, false) := ⟨(fun _ => (km_in9 32 rfl rfl)), Or.inr ok_X12_isAlive, (fun h => absurd h (by decide))⟩
theorem lk_12_266 : km_lk 12 (266, M_X12_ageOf, false) := ⟨(fun _ => (km_in9 40 rfl rfl)), Or.inr ok_X12_ageOf, (fun h => absurd h (by decide))⟩
theorem lk_12_269 : km_lk 12 (269, M_X12_areCouple, false) := ⟨(fun _ => (km_in9 44 rfl rfl)), Or.inr ok_X12_areCouple, (fun h => absurd h (by decide))⟩
theorem lk_12_291 : km_lk 12 (291, M_X12_isAt, false) := ⟨(fun _ => (km_in9 77 rfl rfl)), Or.inr ok_X12_isAt, (fun h => absurd h (by decide))⟩
theorem lk_12_297 : km_lk 12 (297, M_X12_isSmall, false) := ⟨(fun _ => (km_in9 60 rfl rfl)), Or.inr ok_X12_isSmall, (fun h => absurd h (by decide))⟩
theorem lk_12_300 : km_lk 12 (300, M_X12_wordAt, false) := ⟨(fun _ => (km_in9 64 rfl rfl)), Or.inr ok_X12_wordAt, (fun h => absurd h (by decide))⟩
theorem lk_12_306 : km_lk 12 (306, M_X12_isDigit, false) := ⟨(fun _ => (km_in9 68 rfl rfl)), Or.inr ok_X12_isDigit, (fun h => absurd h (by decide))⟩
theorem lk_12_310 : km_lk 12 (310, M_X12_signOf, false) := ⟨(fun _ => (km_in9 73 rfl rfl)), Or.inr ok_X12_signOf, (fun h => absurd h (by decide))⟩
theorem lk_12_317 : km_lk 12 (317, M_X12_wrong, false) := ⟨(fun _ => (km_in9 85 rfl rfl)), Or.inr ok_X12_wrong, (fun h => absurd h (by decide))⟩
theorem lk_12_326 : km_lk 12 (326, M_X12_weight, false) := ⟨(fun _ => (km_in9 121 rfl rfl)), Or.inr ok_X12_weight, (fun h => absurd h (by decide))⟩
theorem lk_12_329 : km_lk 12 (329, M_X12_drop, false) := ⟨(fun _ => (km_in9 128 rfl rfl)), Or.inr ok_X12_drop, (fun h => absurd h (by decide))⟩
theorem lk_12_333 : km_lk 12 (333, M_X12_hold, false) := ⟨(fun _ => (km_in9 101 rfl rfl)), Or.inr ok_X12_hold, (fun h => absurd h (by decide))⟩
theorem lk_12_339 : km_lk 12 (339, M_X12_waitFor, false) := ⟨(fun _ => (km_in9 109 rfl rfl)), Or.inr ok_X12_waitFor, (fun h => absurd h (by decide))⟩
theorem lk_12_349 : km_lk 12 (349, M_X12_take, false) := ⟨(fun _ => (km_in9 56 rfl rfl)), Or.inr ok_X12_take, (fun h => absurd h (by decide))⟩
theorem lk_12_355 : km_lk 12 (355, M_X12_grown, false) := ⟨(fun _ => (km_in9 97 rfl rfl)), Or.inr ok_X12_grown, (fun h => absurd h (by decide))⟩
theorem lk_12_358 : km_lk 12 (358, M_X12_mayStand, false) := ⟨(fun _ => (km_in9 105 rfl rfl)), Or.inr ok_X12_mayStand, (fun h => absurd h (by decide))⟩
theorem lk_12_361 : km_lk 12 (361, M_X12_opens, false) := ⟨(fun _ => (km_in9 113 rfl rfl)), Or.inr ok_X12_opens, (fun h => absurd h (by decide))⟩
theorem lk_12_367 : km_lk 12 (367, M_X12_opening, false) := ⟨(fun _ => (km_in9 136 rfl rfl)), Or.inr ok_X12_opening, (fun h => absurd h (by decide))⟩
theorem lk_12_370 : km_lk 12 (370, M_X12_bind, false) := ⟨(fun _ => (km_in9 124 rfl rfl)), Or.inr ok_X12_bind, (fun h => absurd h (by decide))⟩
theorem lk_12_373 : km_lk 12 (373, M_X12_valueRead, false) := ⟨(fun _ => (km_in9 93 rfl rfl)), Or.inr ok_X12_valueRead, (fun h => absurd h (by decide))⟩
theorem lk_12_376 : km_lk 12 (376, M_X12_signRead, false) := ⟨(fun _ => (km_in9 117 rfl rfl)), Or.inr ok_X12_signRead, (fun h => absurd h (by decide))⟩
theorem lk_12_379 : km_lk 12 (379, M_X12_ifRead, false) := ⟨(fun _ => (km_in9 132 rfl rfl)), Or.inr ok_X12_ifRead, (fun h => absurd h (by decide))⟩
theorem lk_12_383 : km_lk 12 (383, M_X12_closes, false) := ⟨(fun _ => (km_in9 140 rfl rfl)), Or.inr ok_X12_closes, (fun h => absurd h (by decide))⟩
theorem lk_12_389 : km_lk 12 (389, M_X12_expression, false) := ⟨(fun _ => (km_in9 89 rfl rfl)), Or.inr ok_X12_expression, (fun h => absurd h (by decide))⟩
theorem lk_12_392 : km_lk 12 (392, M_X12_line, false) := ⟨(fun _ => (km_in9 81 rfl rfl)), Or.inr ok_X12_line, (fun h => absurd h (by decide))⟩
theorem lk_12_413 : km_lk 12 (413, M_X12_fareOf, false) := ⟨(fun _ => (km_in9 227 rfl rfl)), Or.inr ok_X12_fareOf, (fun h => absurd h (by decide))⟩
theorem lk_12_416 : km_lk 12 (416, M_X12_comeOf, false) := ⟨(fun _ => (km_in9 202 rfl rfl)), Or.inr ok_X12_comeOf, (fun h => absurd h (by decide))⟩
theorem lk_12_419 : km_lk 12 (419, M_X12_canCome, false) := ⟨(fun _ => (km_in9 182 rfl rfl)), Or.inr ok_X12_canCome, (fun h => absurd h (by decide))⟩
theorem lk_12_422 : km_lk 12 (422, M_X12_regretOf, false) := ⟨(fun _ => (km_in9 186 rfl rfl)), Or.inr ok_X12_regretOf, (fun h => absurd h (by decide))⟩
theorem lk_12_428 : km_lk 12 (428, M_X12_peopleOf, false) := ⟨(fun _ => (km_in9 231 rfl rfl)), Or.inr ok_X12_peopleOf, (fun h => absurd h (by decide))⟩
theorem lk_12_431 : km_lk 12 (431, M_X12_truth, false) := ⟨(fun _ => (km_in10 15 rfl rfl)), Or.inr ok_X12_truth, (fun h => absurd h (by decide))⟩
theorem lk_12_435 : km_lk 12 (435, M_X12_bounded, false) := ⟨(fun _ => (km_in10 7 rfl rfl)), Or.inr ok_X12_bounded, (fun h => absurd h (by decide))⟩
theorem lk_12_442 : km_lk 12 (442, M_X12_big, false) := ⟨(fun _ => (km_in10 11 rfl rfl)), Or.inr ok_X12_big, (fun h => absurd h (by decide))⟩
theorem lk_12_447 : km_lk 12 (447, M_X12_lives, false) := ⟨(fun _ => (km_in9 190 rfl rfl)), Or.inr ok_X12_lives, (fun h => absurd h (by decide))⟩
theorem lk_12_460 : km_lk 12 (460, M_X12_takeBack, false) := ⟨(fun _ => (km_in10 3 rfl rfl)), Or.inr ok_X12_takeBack, (fun h => absurd h (by decide))⟩
theorem lk_12_464 : km_lk 12 (464, M_X12_go, false) := ⟨(fun _ => (km_in9 219 rfl rfl)), Or.inr ok_X12_go, (fun h => absurd h (by decide))⟩
theorem lk_12_467 : km_lk 12 (467, M_X12_nextKin, false) := ⟨(fun _ => (km_in10 18 rfl rfl)), Or.inr ok_X12_nextKin, (fun h => absurd h (by decide))⟩
theorem lk_12_470 : km_lk 12 (470, M_X12_give, false) := ⟨(fun _ => (km_in9 235 rfl rfl)), Or.inr ok_X12_give, (fun h => absurd h (by decide))⟩
theorem lk_12_474 : km_lk 12 (474, M_X12_made, false) := ⟨(fun _ => (km_in10 26 rfl rfl)), Or.inr ok_X12_made, (fun h => absurd h (by decide))⟩
theorem lk_12_478 : km_lk 12 (478, M_X12_nameValue, false) := ⟨(fun _ => (km_in9 223 rfl rfl)), Or.inr ok_X12_nameValue, (fun h => absurd h (by decide))⟩
theorem lk_12_482 : km_lk 12 (482, M_X12_heapGoes, false) := ⟨(fun _ => (km_in9 239 rfl rfl)), Or.inr ok_X12_heapGoes, (fun h => absurd h (by decide))⟩
theorem lk_12_485 : km_lk 12 (485, M_X12_signGoes, false) := ⟨(fun _ => (km_in10 22 rfl rfl)), Or.inr ok_X12_signGoes, (fun h => absurd h (by decide))⟩
theorem lk_12_488 : km_lk 12 (488, M_X12_isLand, false) := ⟨(fun _ => (km_in9 152 rfl rfl)), Or.inr ok_X12_isLand, (fun h => absurd h (by decide))⟩
theorem lk_12_494 : km_lk 12 (494, M_X12_isDay, false) := ⟨(fun _ => (km_in9 159 rfl rfl)), Or.inr ok_X12_isDay, (fun h => absurd h (by decide))⟩
theorem lk_12_497 : km_lk 12 (497, M_X12_isOption, false) := ⟨(fun _ => (km_in9 166 rfl rfl)), Or.inr ok_X12_isOption, (fun h => absurd h (by decide))⟩
theorem lk_12_506 : km_lk 12 (506, M_X12_cheapen, false) := ⟨(fun _ => (km_in9 198 rfl rfl)), Or.inr ok_X12_cheapen, (fun h => absurd h (by decide))⟩
theorem lk_12_516 : km_lk 12 (516, M_X12_oneMore, false) := ⟨(fun _ => (km_in9 194 rfl rfl)), Or.inr ok_X12_oneMore, (fun h => absurd h (by decide))⟩
theorem lk_12_519 : km_lk 12 (519, M_X12_travels, false) := ⟨(fun _ => (km_in9 178 rfl rfl)), Or.inr ok_X12_travels, (fun h => absurd h (by decide))⟩
theorem lk_12_522 : km_lk 12 (522, M_X12_valueOf, false) := ⟨(fun _ => (km_in9 215 rfl rfl)), Or.inr ok_X12_valueOf, (fun h => absurd h (by decide))⟩
theorem lk_12_527 : km_lk 12 (527, M_X12_scoreOf, false) := ⟨(fun _ => (km_in9 211 rfl rfl)), Or.inr ok_X12_scoreOf, (fun h => absurd h (by decide))⟩
theorem lk_12_530 : km_lk 12 (530, M_X12_outBy, false) := ⟨(fun _ => (km_in10 34 rfl rfl)), Or.inr ok_X12_outBy, (fun h => absurd h (by decide))⟩
theorem lk_12_533 : km_lk 12 (533, M_X12_beats, false) := ⟨(fun _ => (km_in10 38 rfl rfl)), Or.inr ok_X12_beats, (fun h => absurd h (by decide))⟩
theorem lk_12_536 : km_lk 12 (536, M_X12_chosen, false) := ⟨(fun _ => (km_in10 46 rfl rfl)), Or.inr ok_X12_chosen, (fun h => absurd h (by decide))⟩
theorem lk_12_539 : km_lk 12 (539, M_X12_bits, false) := ⟨(fun _ => (km_in10 54 rfl rfl)), Or.inr ok_X12_bits, (fun h => absurd h (by decide))⟩
theorem lk_12_548 : km_lk 12 (548, M_X12_isGuest, false) := ⟨(fun _ => (km_in10 65 rfl rfl)), Or.inr ok_X12_isGuest, (fun h => absurd h (by decide))⟩
theorem lk_12_554 : km_lk 12 (554, M_X12_quarrels, false) := ⟨(fun _ => (km_in10 89 rfl rfl)), Or.inr ok_X12_quarrels, (fun h => absurd h (by decide))⟩
theorem lk_12_557 : km_lk 12 (557, M_X12_bedCost, false) := ⟨(fun _ => (km_in10 85 rfl rfl)), Or.inr ok_X12_bedCost, (fun h => absurd h (by decide))⟩
theorem lk_12_560 : km_lk 12 (560, M_X12_laid, false) := ⟨(fun _ => (km_in10 93 rfl rfl)), Or.inr ok_X12_laid, (fun h => absurd h (by decide))⟩
theorem lk_12_564 : km_lk 12 (564, M_X12_firstOf, false) := ⟨(fun _ => (km_in10 97 rfl rfl)), Or.inr ok_X12_firstOf, (fun h => absurd h (by decide))⟩
theorem lk_12_570 : km_lk 12 (570, M_X12_fresh, false) := ⟨(fun _ => (km_in10 113 rfl rfl)), Or.inr ok_X12_fresh, (fun h => absurd h (by decide))⟩
theorem lk_12_576 : km_lk 12 (576, M_X12_weightOf, false) := ⟨(fun _ => (km_in10 134 rfl rfl)), Or.inr ok_X12_weightOf, (fun h => absurd h (by decide))⟩
theorem lk_12_579 : km_lk 12 (579, M_X12_share, false) := ⟨(fun _ => (km_in10 130 rfl rfl)), Or.inr ok_X12_share, (fun h => absurd h (by decide))⟩
theorem lk_12_585 : km_lk 12 (585, M_X12_together, false) := ⟨(fun _ => (km_in10 147 rfl rfl)), Or.inr ok_X12_together, (fun h => absurd h (by decide))⟩
theorem lk_12_588 : km_lk 12 (588, M_X12_paysOff, false) := ⟨(fun _ => (km_in10 151 rfl rfl)), Or.inr ok_X12_paysOff, (fun h => absurd h (by decide))⟩
theorem lk_12_591 : km_lk 12 (591, M_X12_settles, false) := ⟨(fun _ => (km_in10 143 rfl rfl)), Or.inr ok_X12_settles, (fun h => absurd h (by decide))⟩
theorem lk_12_594 : km_lk 12 (594, M_X12_hostOf, false) := ⟨(fun _ => (km_in10 163 rfl rfl)), Or.inr ok_X12_hostOf, (fun h => absurd h (by decide))⟩
theorem lk_12_597 : km_lk 12 (597, M_X12_fails, false) := ⟨(fun _ => (km_in10 175 rfl rfl)), Or.inr ok_X12_fails, (fun h => absurd h (by decide))⟩
theorem lk_12 : ∀ e ∈ km_mtL 12, km_lk 12 e := (List.forall_mem_cons.mpr ⟨lk_12_211, (List.forall_mem_cons.mpr ⟨lk_12_215, (List.forall_mem_cons.mpr ⟨lk_12_222, (List.forall_mem_cons.mpr ⟨lk_12_225, (List.forall_mem_cons.mpr ⟨lk_12_232, (List.forall_mem_cons.mpr ⟨lk_12_245, (List.forall_mem_cons.mpr ⟨lk_12_249, (List.forall_mem_cons.mpr ⟨lk_12_252, (List.forall_mem_cons.mpr ⟨lk_12_256, (List.forall_mem_cons.mpr ⟨lk_12_259, (List.forall_mem_cons.mpr ⟨lk_12_263, (List.forall_mem_cons.mpr ⟨lk_12_266, (List.forall_mem_cons.mpr ⟨lk_12_269, (List.forall_mem_cons.mpr ⟨lk_12_291, (List.forall_mem_cons.mpr ⟨lk_12_297, (List.forall_mem_cons.mpr ⟨lk_12_300, (List.forall_mem_cons.mpr ⟨lk_12_306, (List.forall_mem_cons.mpr ⟨lk_12_310, (List.forall_mem_cons.mpr ⟨lk_12_317, (List.forall_mem_cons.mpr ⟨lk_12_326, (List.forall_mem_cons.mpr ⟨lk_12_329, (List.forall_mem_cons.mpr ⟨lk_12_333, (List.forall_mem_cons.mpr ⟨lk_12_339, (List.forall_mem_cons.mpr ⟨lk_12_349, (List.forall_mem_cons.mpr ⟨lk_12_355, (List.forall_mem_cons.mpr ⟨lk_12_358, (List.forall_mem_cons.mpr ⟨lk_12_361, (List.forall_mem_cons.mpr ⟨lk_12_367, (List.forall_mem_cons.mpr ⟨lk_12_370, (List.forall_mem_cons.mpr ⟨lk_12_373, (List.forall_mem_cons.mpr ⟨lk_12_376, (List.forall_mem_cons.mpr ⟨lk_12_379, (List.forall_mem_cons.mpr ⟨lk_12_383, (List.forall_mem_cons.mpr ⟨lk_12_389, (List.forall_mem_cons.mpr ⟨lk_12_392, (List.forall_mem_cons.mpr ⟨lk_12_413, (List.forall_mem_cons.mpr ⟨lk_12_416, (List.forall_mem_cons.mpr ⟨lk_12_419, (List.forall_mem_cons.mpr ⟨lk_12_422, (List.forall_mem_cons.mpr ⟨lk_12_428, (List.forall_mem_cons.mpr ⟨lk_12_431, (List.forall_mem_cons.mpr ⟨lk_12_435, (List.forall_mem_cons.mpr ⟨lk_12_442, (List.forall_mem_cons.mpr ⟨lk_12_447, (List.forall_mem_cons.mpr ⟨lk_12_460, (List.forall_mem_cons.mpr ⟨lk_12_464, (List.forall_mem_cons.mpr ⟨lk_12_467, (List.forall_mem_cons.mpr ⟨lk_12_470, (List.forall_mem_cons.mpr ⟨lk_12_474, (List.forall_mem_cons.mpr ⟨lk_12_478, (List.forall_mem_cons.mpr ⟨lk_12_482, (List.forall_mem_cons.mpr ⟨lk_12_485, (List.forall_mem_cons.mpr ⟨lk_12_488, (List.forall_mem_cons.mpr ⟨lk_12_494, (List.forall_mem_cons.mpr ⟨lk_12_497, (List.forall_mem_cons.mpr ⟨lk_12_506, (List.forall_mem_cons.mpr ⟨lk_12_516, (List.forall_mem_cons.mpr ⟨lk_12_519, (List.forall_mem_cons.mpr ⟨lk_12_522, (List.forall_mem_cons.mpr ⟨lk_12_527, (List.forall_mem_cons.mpr ⟨lk_12_530, (List.forall_mem_cons.mpr ⟨lk_12_533, (List.forall_mem_cons.mpr ⟨lk_12_536, (List.forall_mem_cons.mpr ⟨lk_12_539, (List.forall_mem_cons.mpr ⟨lk_12_548, (List.forall_mem_cons.mpr ⟨lk_12_554, (List.forall_mem_cons.mpr ⟨lk_12_557, (List.forall_mem_cons.mpr ⟨lk_12_560, (List.forall_mem_cons.mpr ⟨lk_12_564, (List.forall_mem_cons.mpr ⟨lk_12_570, (List.forall_mem_cons.mpr ⟨lk_12_576, (List.forall_mem_cons.mpr ⟨lk_12_579, (List.forall_mem_cons.mpr ⟨lk_12_585, (List.forall_mem_cons.mpr ⟨lk_12_588, (List.forall_mem_cons.mpr ⟨lk_12_591, (List.forall_mem_cons.mpr ⟨lk_12_594, (List.forall_mem_cons.mpr ⟨lk_12_597, (fun _ h => absurd h List.not_mem_nil)⟩)⟩)⟩)⟩)⟩)⟩)⟩)⟩)⟩)⟩)⟩)⟩)⟩)⟩)⟩)⟩)⟩)⟩)⟩)⟩)⟩)⟩)⟩)⟩)⟩)⟩)⟩)⟩)⟩)⟩)⟩)⟩)⟩)⟩)⟩)⟩)⟩)⟩)⟩)⟩)⟩)⟩)⟩)⟩)⟩)⟩)⟩)⟩)⟩)⟩)⟩)⟩)⟩)⟩)⟩)⟩)⟩)⟩)⟩)⟩)⟩)⟩)⟩)⟩)⟩)⟩)⟩)⟩)⟩)⟩)⟩)⟩)⟩)⟩)⟩)⟩)⟩)
theorem lk_13_7 : km_lk 13 (7, M_X11_branch, false) := ⟨(fun _ => (km_in7 24 rfl rfl)), Or.inr ok_X11_branch, (fun h => absurd h (by decide))⟩
theorem lk_13_17 : km_lk 13 (17, M_X11_init, false) := ⟨(fun _ => (km_in1 30 rfl rfl)), Or.inr ok_X11_init, (fun h => absurd h (by decide))⟩
theorem lk_13_20 : km_lk 13 (20, M_X12_init, false) := ⟨(fun _ => (km_in7 112 rfl rfl)), Or.inr ok_X12_init, (fun h => absurd h (by decide))⟩
theorem lk_13_21 : km_lk 13 (21, M_X11_feed, false) := ⟨(fun _ => (km_in3 115 rfl rfl)), Or.inr ok_X11_feed, (fun h => absurd h (by decide))⟩
theorem lk_13_25 : km_lk 13 (25, M_X12_feed, false) := ⟨(fun _ => (km_in8 209 rfl rfl)), Or.inr ok_X12_feed, (fun h => absurd h (by decide))⟩
theorem lk_13_26 : km_lk 13 (26, M_X11_rules, false) := ⟨(fun _ => (km_in3 123 rfl rfl)), Or.inr ok_X11_rules, (fun h => absurd h (by decide))⟩
theorem lk_13_30 : km_lk 13 (30, M_X12_rules, false) := ⟨(fun _ => (km_in9 52 rfl rfl)), Or.inr ok_X12_rules, (fun h => absurd h (by decide))⟩
theorem lk_13_31 : km_lk 13 (31, M_X11_fault, false) := ⟨(fun _ => (km_in4 138 rfl rfl)), Or.inr ok_X11_fault, (fun h => absurd h (by decide))⟩
theorem lk_13_34 : km_lk 13 (34, M_X12_fault, false) := ⟨(fun _ => (km_in9 144 rfl rfl)), Or.inr ok_X12_fault, (fun h => absurd h (by decide))⟩
theorem lk_13_35 : km_lk 13 (35, M_X11_kin, false) := ⟨(fun _ => (km_in4 142 rfl rfl)), Or.inr ok_X11_kin, (fun h => absurd h (by decide))⟩
theorem lk_13_39 : km_lk 13 (39, M_X12_kin, false) := ⟨(fun _ => (km_in8 213 rfl rfl)), Or.inr ok_X12_kin, (fun h => absurd h (by decide))⟩
theorem lk_13_40 : km_lk 13 (40, M_X11_change, false) := ⟨(fun _ => (km_in4 156 rfl rfl)), Or.inr ok_X11_change, (fun h => absurd h (by decide))⟩
theorem lk_13_44 : km_lk 13 (44, M_X12_change, false) := ⟨(fun _ => (km_in8 220 rfl rfl)), Or.inr ok_X12_change, (fun h => absurd h (by decide))⟩
theorem lk_13_45 : km_lk 13 (45, M_X11_note, false) := ⟨(fun _ => (km_in4 164 rfl rfl)), Or.inr ok_X11_note, (fun h => absurd h (by decide))⟩
theorem lk_13_49 : km_lk 13 (49, M_X12_note, false) := ⟨(fun _ => (km_in8 228 rfl rfl)), Or.inr ok_X12_note, (fun h => absurd h (by decide))⟩
theorem lk_13_50 : km_lk 13 (50, M_X11_strike, false) := ⟨(fun _ => (km_in4 180 rfl rfl)), Or.inr ok_X11_strike, (fun h => absurd h (by decide))⟩
theorem lk_13_53 : km_lk 13 (53, M_X12_strike, false) := ⟨(fun _ => (km_in8 235 rfl rfl)), Or.inr ok_X12_strike, (fun h => absurd h (by decide))⟩
theorem lk_13_54 : km_lk 13 (54, M_X11_near, false) := ⟨(fun _ => (km_in4 184 rfl rfl)), Or.inr ok_X11_near, (fun h => absurd h (by decide))⟩
theorem lk_13_57 : km_lk 13 (57, M_X12_near, false) := ⟨(fun _ => (km_in8 239 rfl rfl)), Or.inr ok_X12_near, (fun h => absurd h (by decide))⟩
theorem lk_13_58 : km_lk 13 (58, M_X11_told, false) := ⟨(fun _ => (km_in5 8 rfl rfl)), Or.inr ok_X11_told, (fun h => absurd h (by decide))⟩
theorem lk_13_61 : km_lk 13 (61, M_X12_told, false) := ⟨(fun _ => (km_in9 28 rfl rfl)), Or.inr ok_X12_told, (fun h => absurd h (by decide))⟩
theorem lk_13_62 : km_lk 13 (62, M_X11_years, false) := ⟨(fun _ => (km_in5 30 rfl rfl)), Or.inr ok_X11_years, (fun h => absurd h (by decide))⟩
theorem lk_13_65 : km_lk 13 (65, M_X12_years, false) := ⟨(fun _ => (km_in9 48 rfl rfl)), Or.inr ok_X12_years, (fun h => absurd h (by decide))⟩
theorem lk_13_66 : km_lk 13 (66, M_X11_miles, false) := ⟨(fun _ => (km_in5 38 rfl rfl)), Or.inr ok_X11_miles, (fun h => absurd h (by decide))⟩
theorem lk_13_69 : km_lk 13 (69, M_X12_miles, false) := ⟨(fun _ => (km_in9 148 rfl rfl)), Or.inr ok_X12_miles, (fun h => absurd h (by decide))⟩
theorem lk_13_70 : km_lk 13 (70, M_X11_option, false) := ⟨(fun _ => (km_in5 49 rfl rfl)), Or.inr ok_X11_option, (fun h => absurd h (by decide))⟩
theorem lk_13_73 : km_lk 13 (73, M_X12_option, false) := ⟨(fun _ => (km_in9 155 rfl rfl)), Or.inr ok_X12_option, (fun h => absurd h (by decide))⟩
theorem lk_13_74 : km_lk 13 (74, M_X11_regret, false) := ⟨(fun _ => (km_in5 61 rfl rfl)), Or.inr ok_X11_regret, (fun h => absurd h (by decide))⟩
theorem lk_13_77 : km_lk 13 (77, M_X12_regret, false) := ⟨(fun _ => (km_in9 162 rfl rfl)), Or.inr ok_X12_regret, (fun h => absurd h (by decide))⟩
theorem lk_13_78 : km_lk 13 (78, M_X11_flight, false) := ⟨(fun _ => (km_in5 69 rfl rfl)), Or.inr ok_X11_flight, (fun h => absurd h (by decide))⟩
theorem lk_13_81 : km_lk 13 (81, M_X12_flight, false) := ⟨(fun _ => (km_in9 170 rfl rfl)), Or.inr ok_X12_flight, (fun h => absurd h (by decide))⟩
theorem lk_13_82 : km_lk 13 (82, M_X11_travel, false) := ⟨(fun _ => (km_in5 77 rfl rfl)), Or.inr ok_X11_travel, (fun h => absurd h (by decide))⟩
theorem lk_13_85 : km_lk 13 (85, M_X12_travel, false) := ⟨(fun _ => (km_in9 174 rfl rfl)), Or.inr ok_X12_travel, (fun h => absurd h (by decide))⟩
theorem lk_13_86 : km_lk 13 (86, M_X11_score, false) := ⟨(fun _ => (km_in5 125 rfl rfl)), Or.inr ok_X11_score, (fun h => absurd h (by decide))⟩
theorem lk_13_90 : km_lk 13 (90, M_X12_score, false) := ⟨(fun _ => (km_in9 206 rfl rfl)), Or.inr ok_X12_score, (fun h => absurd h (by decide))⟩
theorem lk_13_91 : km_lk 13 (91, M_X11_judged, false) := ⟨(fun _ => (km_in5 226 rfl rfl)), Or.inr ok_X11_judged, (fun h => absurd h (by decide))⟩
theorem lk_13_94 : km_lk 13 (94, M_X12_judged, false) := ⟨(fun _ => (km_in10 30 rfl rfl)), Or.inr ok_X12_judged, (fun h => absurd h (by decide))⟩
theorem lk_13_95 : km_lk 13 (95, M_X11_choice, false) := ⟨(fun _ => (km_in6 5 rfl rfl)), Or.inr ok_X11_choice, (fun h => absurd h (by decide))⟩
theorem lk_13_99 : km_lk 13 (99, M_X12_choice, false) := ⟨(fun _ => (km_in10 42 rfl rfl)), Or.inr ok_X12_choice, (fun h => absurd h (by decide))⟩
theorem lk_13_100 : km_lk 13 (100, M_X11_ring, false) := ⟨(fun _ => (km_in6 9 rfl rfl)), Or.inr ok_X11_ring, (fun h => absurd h (by decide))⟩
theorem lk_13_103 : km_lk 13 (103, M_X12_ring, false) := ⟨(fun _ => (km_in10 50 rfl rfl)), Or.inr ok_X12_ring, (fun h => absurd h (by decide))⟩
theorem lk_13_104 : km_lk 13 (104, M_X11_meet, false) := ⟨(fun _ => (km_in6 23 rfl rfl)), Or.inr ok_X11_meet, (fun h => absurd h (by decide))⟩
theorem lk_13_107 : km_lk 13 (107, M_X12_meet, false) := ⟨(fun _ => (km_in10 57 rfl rfl)), Or.inr ok_X12_meet, (fun h => absurd h (by decide))⟩
theorem lk_13_108 : km_lk 13 (108, M_X11_guest, false) := ⟨(fun _ => (km_in6 28 rfl rfl)), Or.inr ok_X11_guest, (fun h => absurd h (by decide))⟩
theorem lk_13_112 : km_lk 13 (112, M_X12_guest, false) := ⟨(fun _ => (km_in10 61 rfl rfl)), Or.inr ok_X12_guest, (fun h => absurd h (by decide))⟩
theorem lk_13_113 : km_lk 13 (113, M_X11_room, false) := ⟨(fun _ => (km_in6 37 rfl rfl)), Or.inr ok_X11_room, (fun h => absurd h (by decide))⟩
theorem lk_13_116 : km_lk 13 (116, M_X12_room, false) := ⟨(fun _ => (km_in10 69 rfl rfl)), Or.inr ok_X12_room, (fun h => absurd h (by decide))⟩
theorem lk_13_117 : km_lk 13 (117, M_X11_feud, false) := ⟨(fun _ => (km_in6 45 rfl rfl)), Or.inr ok_X11_feud, (fun h => absurd h (by decide))⟩
theorem lk_13_121 : km_lk 13 (121, M_X12_feud, false) := ⟨(fun _ => (km_in10 73 rfl rfl)), Or.inr ok_X12_feud, (fun h => absurd h (by decide))⟩
theorem lk_13_122 : km_lk 13 (122, M_X11_price, false) := ⟨(fun _ => (km_in6 57 rfl rfl)), Or.inr ok_X11_price, (fun h => absurd h (by decide))⟩
theorem lk_13_126 : km_lk 13 (126, M_X12_price, false) := ⟨(fun _ => (km_in10 77 rfl rfl)), Or.inr ok_X12_price, (fun h => absurd h (by decide))⟩
theorem lk_13_127 : km_lk 13 (127, M_X11_bed, false) := ⟨(fun _ => (km_in6 61 rfl rfl)), Or.inr ok_X11_bed, (fun h => absurd h (by decide))⟩
theorem lk_13_130 : km_lk 13 (130, M_X12_bed, false) := ⟨(fun _ => (km_in10 81 rfl rfl)), Or.inr ok_X12_bed, (fun h => absurd h (by decide))⟩
theorem lk_13_131 : km_lk 13 (131, M_X11_bedded, false) := ⟨(fun _ => (km_in6 124 rfl rfl)), Or.inr ok_X11_bedded, (fun h => absurd h (by decide))⟩
theorem lk_13_134 : km_lk 13 (134, M_X12_bedded, false) := ⟨(fun _ => (km_in10 101 rfl rfl)), Or.inr ok_X12_bedded, (fun h => absurd h (by decide))⟩
theorem lk_13_135 : km_lk 13 (135, M_X11_table, false) := ⟨(fun _ => (km_in6 128 rfl rfl)), Or.inr ok_X11_table, (fun h => absurd h (by decide))⟩
theorem lk_13_138 : km_lk 13 (138, M_X12_table, false) := ⟨(fun _ => (km_in10 105 rfl rfl)), Or.inr ok_X12_table, (fun h => absurd h (by decide))⟩
theorem lk_13_139 : km_lk 13 (139, M_X11_meal, false) := ⟨(fun _ => (km_in6 136 rfl rfl)), Or.inr ok_X11_meal, (fun h => absurd h (by decide))⟩
theorem lk_13_142 : km_lk 13 (142, M_X12_meal, false) := ⟨(fun _ => (km_in10 109 rfl rfl)), Or.inr ok_X12_meal, (fun h => absurd h (by decide))⟩
theorem lk_13_143 : km_lk 13 (143, M_X11_seated, false) := ⟨(fun _ => (km_in6 152 rfl rfl)), Or.inr ok_X11_seated, (fun h => absurd h (by decide))⟩
theorem lk_13_146 : km_lk 13 (146, M_X12_seated, false) := ⟨(fun _ => (km_in10 117 rfl rfl)), Or.inr ok_X12_seated, (fun h => absurd h (by decide))⟩
theorem lk_13_147 : km_lk 13 (147, M_X11_receipt, false) := ⟨(fun _ => (km_in6 156 rfl rfl)), Or.inr ok_X11_receipt, (fun h => absurd h (by decide))⟩
theorem lk_13_150 : km_lk 13 (150, M_X12_receipt, false) := ⟨(fun _ => (km_in10 121 rfl rfl)), Or.inr ok_X12_receipt, (fun h => absurd h (by decide))⟩
theorem lk_13_151 : km_lk 13 (151, M_X11_owes, false) := ⟨(fun _ => (km_in6 162 rfl rfl)), Or.inr ok_X11_owes, (fun h => absurd h (by decide))⟩
theorem lk_13_155 : km_lk 13 (155, M_X12_owes, false) := ⟨(fun _ => (km_in10 126 rfl rfl)), Or.inr ok_X12_owes, (fun h => absurd h (by decide))⟩
theorem lk_13_156 : km_lk 13 (156, M_X11_settle, false) := ⟨(fun _ => (km_in6 187 rfl rfl)), Or.inr ok_X11_settle, (fun h => absurd h (by decide))⟩
theorem lk_13_159 : km_lk 13 (159, M_X12_settle, false) := ⟨(fun _ => (km_in10 139 rfl rfl)), Or.inr ok_X12_settle, (fun h => absurd h (by decide))⟩
theorem lk_13_160 : km_lk 13 (160, M_X11_payment, false) := ⟨(fun _ => (km_in6 216 rfl rfl)), Or.inr ok_X11_payment, (fun h => absurd h (by decide))⟩
theorem lk_13_163 : km_lk 13 (163, M_X12_payment, false) := ⟨(fun _ => (km_in10 155 rfl rfl)), Or.inr ok_X12_payment, (fun h => absurd h (by decide))⟩
theorem lk_13_164 : km_lk 13 (164, M_X11_host, false) := ⟨(fun _ => (km_in6 220 rfl rfl)), Or.inr ok_X11_host, (fun h => absurd h (by decide))⟩
theorem lk_13_167 : km_lk 13 (167, M_X12_host, false) := ⟨(fun _ => (km_in10 159 rfl rfl)), Or.inr ok_X12_host, (fun h => absurd h (by decide))⟩
theorem lk_13_168 : km_lk 13 (168, M_X11_end, false) := ⟨(fun _ => (km_in7 6 rfl rfl)), Or.inr ok_X11_end, (fun h => absurd h (by decide))⟩
theorem lk_13_171 : km_lk 13 (171, M_X12_end, false) := ⟨(fun _ => (km_in10 167 rfl rfl)), Or.inr ok_X12_end, (fun h => absurd h (by decide))⟩
theorem lk_13_172 : km_lk 13 (172, M_L_branch, false) := ⟨(fun _ => (km_in7 19 rfl rfl)), Or.inl (by decide), (fun h => absurd h (by decide))⟩
theorem lk_13_177 : km_lk 13 (177, M_X12_branch, false) := ⟨(fun _ => (km_in10 171 rfl rfl)), Or.inr ok_X12_branch, (fun h => absurd h (by decide))⟩
theorem lk_13_178 : km_lk 13 (178, M_X12_thrown, false) := ⟨(fun _ => (km_in8 205 rfl rfl)), Or.inr ok_X12_thrown, (fun h => absurd h (by decide))⟩
theorem lk_13_181 : km_lk 13 (181, M_X11_count, false) := ⟨(fun _ => (km_in7 15 rfl rfl)), Or.inr ok_X11_count, (fun h => absurd h (by decide))⟩
theorem lk_13_184 : km_lk 13 (184, M_X12_count, false) := ⟨(fun _ => (km_in10 179 rfl rfl)), Or.inr ok_X12_count, (fun h => absurd h (by decide))⟩
theorem lk_13 : ∀ e ∈ km_mtL 13, km_lk 13 e := (List.forall_mem_cons.mpr ⟨lk_13_7, (List.forall_mem_cons.mpr ⟨lk_13_17, (List.forall_mem_cons.mpr ⟨lk_13_20, (List.forall_mem_cons.mpr ⟨lk_13_21, (List.forall_mem_cons.mpr ⟨lk_13_25, (List.forall_mem_cons.mpr ⟨lk_13_26, (List.forall_mem_cons.mpr ⟨lk_13_30, (List.forall_mem_cons.mpr ⟨lk_13_31, (List.forall_mem_cons.mpr ⟨lk_13_34, (List.forall_mem_cons.mpr ⟨lk_13_35, (List.forall_mem_cons.mpr ⟨lk_13_39, (List.forall_mem_cons.mpr ⟨lk_13_40, (List.forall_mem_cons.mpr ⟨lk_13_44, (List.forall_mem_cons.mpr ⟨lk_13_45, (List.forall_mem_cons.mpr ⟨lk_13_49, (List.forall_mem_cons.mpr ⟨lk_13_50, (List.forall_mem_cons.mpr ⟨lk_13_53, (List.forall_mem_cons.mpr ⟨lk_13_54, (List.forall_mem_cons.mpr ⟨lk_13_57, (List.forall_mem_cons.mpr ⟨lk_13_58, (List.forall_mem_cons.mpr ⟨lk_13_61, (List.forall_mem_cons.mpr ⟨lk_13_62, (List.forall_mem_cons.mpr ⟨lk_13_65, (List.forall_mem_cons.mpr ⟨lk_13_66, (List.forall_mem_cons.mpr ⟨lk_13_69, (List.forall_mem_cons.mpr ⟨lk_13_70, (List.forall_mem_cons.mpr ⟨lk_13_73, (List.forall_mem_cons.mpr ⟨lk_13_74, (List.forall_mem_cons.mpr ⟨lk_13_77, (List.forall_mem_cons.mpr ⟨lk_13_78, (List.forall_mem_cons.mpr ⟨lk_13_81, (List.forall_mem_cons.mpr ⟨lk_13_82, (List.forall_mem_cons.mpr ⟨lk_13_85, (List.forall_mem_cons.mpr ⟨lk_13_86, (List.forall_mem_cons.mpr ⟨lk_13_90, (List.forall_mem_cons.mpr ⟨lk_13_91, (List.forall_mem_cons.mpr ⟨lk_13_94, (List.forall_mem_cons.mpr ⟨lk_13_95, (List.forall_mem_cons.mpr ⟨lk_13_99, (List.forall_mem_cons.mpr ⟨lk_13_100, (List.forall_mem_cons.mpr ⟨lk_13_103, (List.forall_mem_cons.mpr ⟨lk_13_104, (List.forall_mem_cons.mpr ⟨lk_13_107, (List.forall_mem_cons.mpr ⟨lk_13_108, (List.forall_mem_cons.mpr ⟨lk_13_112, (List.forall_mem_cons.mpr ⟨lk_13_113, (List.forall_mem_cons.mpr ⟨lk_13_116, (List.forall_mem_cons.mpr ⟨lk_13_117, (List.forall_mem_cons.mpr ⟨lk_13_121, (List.forall_mem_cons.mpr ⟨lk_13_122, (List.forall_mem_cons.mpr ⟨lk_13_126, (List.forall_mem_cons.mpr ⟨lk_13_127, (List.forall_mem_cons.mpr ⟨lk_13_130, (List.forall_mem_cons.mpr ⟨lk_13_131, (List.forall_mem_cons.mpr ⟨lk_13_134, (List.forall_mem_cons.mpr ⟨lk_13_135, (List.forall_mem_cons.mpr ⟨lk_13_138, (List.forall_mem_cons.mpr ⟨lk_13_139, (List.forall_mem_cons.mpr ⟨lk_13_142, (List.forall_mem_cons.mpr ⟨lk_13_143, (List.forall_mem_cons.mpr ⟨lk_13_146, (List.forall_mem_cons.mpr ⟨lk_13_147, (List.forall_mem_cons.mpr ⟨lk_13_150, (List.forall_mem_cons.mpr ⟨lk_13_151, (List.forall_mem_cons.mpr ⟨lk_13_155, (List.forall_mem_cons.mpr ⟨lk_13_156, (List.forall_mem_cons.mpr ⟨lk_13_159, (List.forall_mem_cons.mpr ⟨lk_13_160, (List.forall_mem_cons.mpr ⟨lk_13_163, (List.forall_mem_cons.mpr ⟨lk_13_164, (List.forall_mem_cons.mpr ⟨lk_13_167, (List.forall_mem_cons.mpr ⟨lk_13_168, (List.forall_mem_cons.mpr ⟨lk_13_171, (List.forall_mem_cons.mpr ⟨lk_13_172, (List.forall_mem_cons.mpr ⟨lk_13_177, (List.forall_mem_cons.mpr ⟨lk_13_178, (List.forall_mem_cons.mpr ⟨lk_13_181, (List.forall_mem_cons.mpr ⟨lk_13_184, (fun _ h => absurd h List.not_mem_nil)⟩)⟩)⟩)⟩)⟩)⟩)⟩)⟩)⟩)⟩)⟩)⟩)⟩)⟩)⟩)⟩)⟩)⟩)⟩)⟩)⟩)⟩)⟩)⟩)⟩)⟩)⟩)⟩)⟩)⟩)⟩)⟩)⟩)⟩)⟩)⟩)⟩)⟩)⟩)⟩)⟩)⟩)⟩)⟩)⟩)⟩)⟩)⟩)⟩)⟩)⟩)⟩)⟩)⟩)⟩)⟩)⟩)⟩)⟩)⟩)⟩)⟩)⟩)⟩)⟩)⟩)⟩)⟩)⟩)⟩)⟩)⟩)⟩)⟩)⟩)⟩)⟩)⟩)
def km_ftL : List (List Nat) := [[2, 2, 2, 0, 2, 2, 2, 0, 0, 0], [2, 0, 0, 0, 2, 2, 2, 2, 0, 2, 2, 2, 0], [0, 2, 2, 2, 2, 2, 2, 2, 2, 2, 0, 0], [0, 2, 0, 2, 2, 2, 2, 2, 2, 2, 2, 2], [2, 2, 0, 2, 2, 2, 2, 2, 0, 0, 3, 3, 0, 0, 1, 0], [0, 0, 2, 2, 0, 2, 2], [2, 0, 2, 2, 2, 2, 2], [2, 2, 0, 0, 0, 0, 3, 2, 2, 0, 0, 0, 0, 0, 3], [2, 2, 2, 2, 0, 2, 0, 0, 0, 0], [2, 2, 2, 2, 2, 2, 0, 2, 2, 2], [2, 0, 0, 0, 0, 0, 0], [2, 2, 2, 2, 2, 2, 2, 2, 2, 2, 2, 2, 2, 2], [2, 0, 0, 0, 2, 0, 2, 2, 2, 2, 2, 0, 2, 2, 0, 2, 2, 2, 2, 0, 0, 0, 2, 0, 0, 0, 0, 0, 0, 0, 2, 2, 2, 2, 2, 0, 0, 2, 2, 0, 2, 0, 2, 0, 3, 3, 3, 3, 0, 2, 2, 0, 2, 0, 3, 0, 0, 0, 0, 1, 1, 3, 2, 0, 2, 2, 2, 0, 2, 2, 2, 2, 2, 2, 2, 2, 2, 0, 0, 3, 3, 0, 0, 0, 2, 2, 2, 0, 2, 0, 2, 0, 2, 2, 2, 2, 2, 2, 2, 2, 2, 0, 2, 2, 2, 2, 2, 2, 2]]
def km_ft (ci k : Nat) : Nat := (km_ftL.getD ci []).getD k 0
/-- a row of a field table: its word, its class -/
def km_lf (o : Nat) (e : Nat × Nat × Nat × Nat × Bool) : Prop := ∃ q : vw_C, vwCl[e.2.1]? = some q ∧ e.2.2.1 < q.2.2 ∧ Cond.fieldLink (km_cn o) e.1 (q.2.1 e.2.2.1).1 (q.2.1 e.2.2.1).2.1 (q.2.1 e.2.2.1).2.2.1 ∈ km_gw ∧ (q.2.1 e.2.2.1).2.2.2 = e.2.2.2.2 ∧ km_ft e.2.1 e.2.2.1 = e.2.2.2.1 ∧ (q.2.1 e.2.2.1).1 = q.1 ∧ km_cn e.2.1 = q.1
theorem lf_0_9 : km_lf 0 (9, 0, 0, 2, true) := ⟨_, rfl, by decide, (km_in2 45 rfl rfl), rfl, by decide +kernel, rfl, rfl⟩
theorem lf_0_15 : km_lf 0 (15, 0, 1, 2, true) := ⟨_, rfl, by decide, (km_in2 47 rfl rfl), rfl, by decide +kernel, rfl, rfl⟩
theorem lf_0_18 : km_lf 0 (18, 0, 2, 2, true) := ⟨_, rfl, by decide, (km_in2 48 rfl rfl), rfl, by decide +kernel, rfl, rfl⟩
theorem lf_0_21 : km_lf 0 (21, 0, 4, 2, true) := ⟨_, rfl, by decide, (km_in2 50 rfl rfl), rfl, by decide +kernel, rfl, rfl⟩
theorem lf_0_24 : km_lf 0 (24, 0, 5, 2, true) := ⟨_, rfl, by decide, (km_in2 51 rfl rfl), rfl, by decide +kernel, rfl, rfl⟩
theorem lf_0_27 : km_lf 0 (27, 0, 6, 2, true) := ⟨_, rfl, by decide, (km_in2 52 rfl rfl), rfl, by decide +kernel, rfl, rfl⟩
theorem lf_0_36 : km_lf 0 (36, 0, 3, 0, false) := ⟨_, rfl, by decide, (km_in2 49 rfl rfl), rfl, by decide +kernel, rfl, rfl⟩
theorem lf_0_40 : km_lf 0 (40, 1, 8, 0, false) := ⟨_, rfl, by decide, (km_in1 99 rfl rfl), rfl, by decide +kernel, rfl, rfl⟩
theorem lf_0_49 : km_lf 0 (49, 1, 5, 2, true) := ⟨_, rfl, by decide, (km_in1 94 rfl rfl), rfl, by decide +kernel, rfl, rfl⟩
theorem lf_0_58 : km_lf 0 (58, 1, 6, 2, true) := ⟨_, rfl, by decide, (km_in1 96 rfl rfl), rfl, by decide +kernel, rfl, rfl⟩
theorem lf_0_65 : km_lf 0 (65, 1, 9, 2, true) := ⟨_, rfl, by decide, (km_in1 102 rfl rfl), rfl, by decide +kernel, rfl, rfl⟩
theorem lf_0_68 : km_lf 0 (68, 1, 4, 2, true) := ⟨_, rfl, by decide, (km_in1 92 rfl rfl), rfl, by decide +kernel, rfl, rfl⟩
theorem lf_0_71 : km_lf 0 (71, 1, 7, 2, true) := ⟨_, rfl, by decide, (km_in1 98 rfl rfl), rfl, by decide +kernel, rfl, rfl⟩
theorem lf_0_84 : km_lf 0 (84, 0, 9, 0, false) := ⟨_, rfl, by decide, (km_in2 55 rfl rfl), rfl, by decide +kernel, rfl, rfl⟩
theorem lf_0_90 : km_lf 0 (90, 0, 7, 0, false) := ⟨_, rfl, by decide, (km_in2 53 rfl rfl), rfl, by decide +kernel, rfl, rfl⟩
theorem lf_0_93 : km_lf 0 (93, 0, 8, 0, false) := ⟨_, rfl, by decide, (km_in2 54 rfl rfl), rfl, by decide +kernel, rfl, rfl⟩
theorem lf_0 : ∀ e ∈ km_flL 0, km_lf 0 e := (List.forall_mem_cons.mpr ⟨lf_0_9, (List.forall_mem_cons.mpr ⟨lf_0_15, (List.forall_mem_cons.mpr ⟨lf_0_18, (List.forall_mem_cons.mpr ⟨lf_0_21, (List.forall_mem_cons.mpr ⟨lf_0_24, (List.forall_mem_cons.mpr ⟨lf_0_27, (List.forall_mem_cons.mpr ⟨lf_0_36, (List.forall_mem_cons.mpr ⟨lf_0_40, (List.forall_mem_cons.mpr ⟨lf_0_49, (List.forall_mem_cons.mpr ⟨lf_0_58, (List.forall_mem_cons.mpr ⟨lf_0_65, (List.forall_mem_cons.mpr ⟨lf_0_68, (List.forall_mem_cons.mpr ⟨lf_0_71, (List.forall_mem_cons.mpr ⟨lf_0_84, (List.forall_mem_cons.mpr ⟨lf_0_90, (List.forall_mem_cons.mpr ⟨lf_0_93, (fun _ h => absurd h List.not_mem_nil)⟩)⟩)⟩)⟩)⟩)⟩)⟩)⟩)⟩)⟩)⟩)⟩)⟩)⟩)⟩)⟩)
theorem lf_1_11 : km_lf 1 (11, 1, 0, 2, true) := ⟨_, rfl, by decide, (km_in1 77 rfl rfl), rfl, by decide +kernel, rfl, rfl⟩
theorem lf_1_16 : km_lf 1 (16, 1, 4, 2, true) := ⟨_, rfl, by decide, (km_in1 91 rfl rfl), rfl, by decide +kernel, rfl, rfl⟩
theorem lf_1_20 : km_lf 1 (20, 1, 5, 2, true) := ⟨_, rfl, by decide, (km_in1 93 rfl rfl), rfl, by decide +kernel, rfl, rfl⟩
theorem lf_1_23 : km_lf 1 (23, 1, 6, 2, true) := ⟨_, rfl, by decide, (km_in1 95 rfl rfl), rfl, by decide +kernel, rfl, rfl⟩
theorem lf_1_26 : km_lf 1 (26, 1, 7, 2, true) := ⟨_, rfl, by decide, (km_in1 97 rfl rfl), rfl, by decide +kernel, rfl, rfl⟩
theorem lf_1_29 : km_lf 1 (29, 1, 9, 2, true) := ⟨_, rfl, by decide, (km_in1 101 rfl rfl), rfl, by decide +kernel, rfl, rfl⟩
theorem lf_1_32 : km_lf 1 (32, 1, 10, 2, true) := ⟨_, rfl, by decide, (km_in1 103 rfl rfl), rfl, by decide +kernel, rfl, rfl⟩
theorem lf_1_35 : km_lf 1 (35, 1, 11, 2, true) := ⟨_, rfl, by decide, (km_in1 104 rfl rfl), rfl, by decide +kernel, rfl, rfl⟩
theorem lf_1_38 : km_lf 1 (38, 1, 1, 0, false) := ⟨_, rfl, by decide, (km_in1 80 rfl rfl), rfl, by decide +kernel, rfl, rfl⟩
theorem lf_1_42 : km_lf 1 (42, 1, 3, 0, false) := ⟨_, rfl, by decide, (km_in1 89 rfl rfl), rfl, by decide +kernel, rfl, rfl⟩
theorem lf_1_61 : km_lf 1 (61, 1, 8, 0, false) := ⟨_, rfl, by decide, (km_in1 100 rfl rfl), rfl, by decide +kernel, rfl, rfl⟩
theorem lf_1_77 : km_lf 1 (77, 1, 12, 0, false) := ⟨_, rfl, by decide, (km_in1 105 rfl rfl), rfl, by decide +kernel, rfl, rfl⟩
theorem lf_1_80 : km_lf 1 (80, 1, 2, 0, false) := ⟨_, rfl, by decide, (km_in1 88 rfl rfl), rfl, by decide +kernel, rfl, rfl⟩
theorem lf_1 : ∀ e ∈ km_flL 1, km_lf 1 e := (List.forall_mem_cons.mpr ⟨lf_1_11, (List.forall_mem_cons.mpr ⟨lf_1_16, (List.forall_mem_cons.mpr ⟨lf_1_20, (List.forall_mem_cons.mpr ⟨lf_1_23, (List.forall_mem_cons.mpr ⟨lf_1_26, (List.forall_mem_cons.mpr ⟨lf_1_29, (List.forall_mem_cons.mpr ⟨lf_1_32, (List.forall_mem_cons.mpr ⟨lf_1_35, (List.forall_mem_cons.mpr ⟨lf_1_38, (List.forall_mem_cons.mpr ⟨lf_1_42, (List.forall_mem_cons.mpr ⟨lf_1_61, (List.forall_mem_cons.mpr ⟨lf_1_77, (List.forall_mem_cons.mpr ⟨lf_1_80, (fun _ h => absurd h List.not_mem_nil)⟩)⟩)⟩)⟩)⟩)⟩)⟩)⟩)⟩)⟩)⟩)⟩)⟩)
theorem lf_2_11 : km_lf 2 (11, 2, 1, 2, true) := ⟨_, rfl, by decide, (km_in2 85 rfl rfl), rfl, by decide +kernel, rfl, rfl⟩
theorem lf_2_15 : km_lf 2 (15, 2, 2, 2, true) := ⟨_, rfl, by decide, (km_in2 86 rfl rfl), rfl, by decide +kernel, rfl, rfl⟩
theorem lf_2_18 : km_lf 2 (18, 2, 3, 2, true) := ⟨_, rfl, by decide, (km_in2 87 rfl rfl), rfl, by decide +kernel, rfl, rfl⟩
theorem lf_2_21 : km_lf 2 (21, 2, 4, 2, true) := ⟨_, rfl, by decide, (km_in2 88 rfl rfl), rfl, by decide +kernel, rfl, rfl⟩
theorem lf_2_24 : km_lf 2 (24, 2, 5, 2, true) := ⟨_, rfl, by decide, (km_in2 89 rfl rfl), rfl, by decide +kernel, rfl, rfl⟩
theorem lf_2_27 : km_lf 2 (27, 2, 6, 2, true) := ⟨_, rfl, by decide, (km_in2 90 rfl rfl), rfl, by decide +kernel, rfl, rfl⟩
theorem lf_2_30 : km_lf 2 (30, 2, 7, 2, true) := ⟨_, rfl, by decide, (km_in2 92 rfl rfl), rfl, by decide +kernel, rfl, rfl⟩
theorem lf_2_33 : km_lf 2 (33, 2, 8, 2, true) := ⟨_, rfl, by decide, (km_in2 93 rfl rfl), rfl, by decide +kernel, rfl, rfl⟩
theorem lf_2_36 : km_lf 2 (36, 2, 9, 2, true) := ⟨_, rfl, by decide, (km_in2 94 rfl rfl), rfl, by decide +kernel, rfl, rfl⟩
theorem lf_2_39 : km_lf 2 (39, 2, 0, 0, false) := ⟨_, rfl, by decide, (km_in2 83 rfl rfl), rfl, by decide +kernel, rfl, rfl⟩
theorem lf_2_49 : km_lf 2 (49, 2, 10, 0, false) := ⟨_, rfl, by decide, (km_in2 95 rfl rfl), rfl, by decide +kernel, rfl, rfl⟩
theorem lf_2_52 : km_lf 2 (52, 2, 11, 0, false) := ⟨_, rfl, by decide, (km_in2 97 rfl rfl), rfl, by decide +kernel, rfl, rfl⟩
theorem lf_2 : ∀ e ∈ km_flL 2, km_lf 2 e := (List.forall_mem_cons.mpr ⟨lf_2_11, (List.forall_mem_cons.mpr ⟨lf_2_15, (List.forall_mem_cons.mpr ⟨lf_2_18, (List.forall_mem_cons.mpr ⟨lf_2_21, (List.forall_mem_cons.mpr ⟨lf_2_24, (List.forall_mem_cons.mpr ⟨lf_2_27, (List.forall_mem_cons.mpr ⟨lf_2_30, (List.forall_mem_cons.mpr ⟨lf_2_33, (List.forall_mem_cons.mpr ⟨lf_2_36, (List.forall_mem_cons.mpr ⟨lf_2_39, (List.forall_mem_cons.mpr ⟨lf_2_49, (List.forall_mem_cons.mpr ⟨lf_2_52, (fun _ h => absurd h List.not_mem_nil)⟩)⟩)⟩)⟩)⟩)⟩)⟩)⟩)⟩)⟩)⟩)⟩)
theorem lf_3_11 : km_lf 3 (11, 3, 1, 2, true) := ⟨_, rfl, by decide, (km_in2 191 rfl rfl), rfl, by decide +kernel, rfl, rfl⟩
theorem lf_3_15 : km_lf 3 (15, 3, 3, 2, true) := ⟨_, rfl, by decide, (km_in2 194 rfl rfl), rfl, by decide +kernel, rfl, rfl⟩
theorem lf_3_18 : km_lf 3 (18, 3, 4, 2, true) := ⟨_, rfl, by decide, (km_in2 195 rfl rfl), rfl, by decide +kernel, rfl, rfl⟩
theorem lf_3_21 : km_lf 3 (21, 3, 5, 2, true) := ⟨_, rfl, by decide, (km_in2 196 rfl rfl), rfl, by decide +kernel, rfl, rfl⟩
theorem lf_3_24 : km_lf 3 (24, 3, 6, 2, true) := ⟨_, rfl, by decide, (km_in2 198 rfl rfl), rfl, by decide +kernel, rfl, rfl⟩
theorem lf_3_27 : km_lf 3 (27, 3, 7, 2, true) := ⟨_, rfl, by decide, (km_in2 199 rfl rfl), rfl, by decide +kernel, rfl, rfl⟩
theorem lf_3_30 : km_lf 3 (30, 3, 8, 2, true) := ⟨_, rfl, by decide, (km_in2 200 rfl rfl), rfl, by decide +kernel, rfl, rfl⟩
theorem lf_3_33 : km_lf 3 (33, 3, 9, 2, true) := ⟨_, rfl, by decide, (km_in2 201 rfl rfl), rfl, by decide +kernel, rfl, rfl⟩
theorem lf_3_38 : km_lf 3 (38, 3, 10, 2, true) := ⟨_, rfl, by decide, (km_in2 202 rfl rfl), rfl, by decide +kernel, rfl, rfl⟩
theorem lf_3_41 : km_lf 3 (41, 3, 11, 2, true) := ⟨_, rfl, by decide, (km_in2 203 rfl rfl), rfl, by decide +kernel, rfl, rfl⟩
theorem lf_3_44 : km_lf 3 (44, 3, 0, 0, false) := ⟨_, rfl, by decide, (km_in2 189 rfl rfl), rfl, by decide +kernel, rfl, rfl⟩
theorem lf_3_48 : km_lf 3 (48, 3, 2, 0, false) := ⟨_, rfl, by decide, (km_in2 192 rfl rfl), rfl, by decide +kernel, rfl, rfl⟩
theorem lf_3_89 : km_lf 3 (89, 1, 1, 0, false) := ⟨_, rfl, by decide, (km_in1 84 rfl rfl), rfl, by decide +kernel, rfl, rfl⟩
theorem lf_3_92 : km_lf 3 (92, 1, 2, 0, false) := ⟨_, rfl, by decide, (km_in1 86 rfl rfl), rfl, by decide +kernel, rfl, rfl⟩
theorem lf_3 : ∀ e ∈ km_flL 3, km_lf 3 e := (List.forall_mem_cons.mpr ⟨lf_3_11, (List.forall_mem_cons.mpr ⟨lf_3_15, (List.forall_mem_cons.mpr ⟨lf_3_18, (List.forall_mem_cons.mpr ⟨lf_3_21, (List.forall_mem_cons.mpr ⟨lf_3_24, (List.forall_mem_cons.mpr ⟨lf_3_27, (List.forall_mem_cons.mpr ⟨lf_3_30, (List.forall_mem_cons.mpr ⟨lf_3_33, (List.forall_mem_cons.mpr ⟨lf_3_38, (List.forall_mem_cons.mpr ⟨lf_3_41, (List.forall_mem_cons.mpr ⟨lf_3_44, (List.forall_mem_cons.mpr ⟨lf_3_48, (List.forall_mem_cons.mpr ⟨lf_3_89, (List.forall_mem_cons.mpr ⟨lf_3_92, (fun _ h => absurd h List.not_mem_nil)⟩)⟩)⟩)⟩)⟩)⟩)⟩)⟩)⟩)⟩)⟩)⟩)⟩)⟩)
theorem lf_4_9 : km_lf 4 (9, 4, 2, 0, false) := ⟨_, rfl, by decide, (km_in2 133 rfl rfl), rfl, by decide +kernel, rfl, rfl⟩
theorem lf_4_15 : km_lf 4 (15, 4, 3, 2, true) := ⟨_, rfl, by decide, (km_in2 135 rfl rfl), rfl, by decide +kernel, rfl, rfl⟩
theorem lf_4_19 : km_lf 4 (19, 4, 4, 2, true) := ⟨_, rfl, by decide, (km_in2 136 rfl rfl), rfl, by decide +kernel, rfl, rfl⟩
theorem lf_4_24 : km_lf 4 (24, 4, 5, 2, true) := ⟨_, rfl, by decide, (km_in2 137 rfl rfl), rfl, by decide +kernel, rfl, rfl⟩
theorem lf_4_29 : km_lf 4 (29, 4, 7, 2, true) := ⟨_, rfl, by decide, (km_in2 139 rfl rfl), rfl, by decide +kernel, rfl, rfl⟩
theorem lf_4_32 : km_lf 4 (32, 4, 0, 2, true) := ⟨_, rfl, by decide, (km_in2 131 rfl rfl), rfl, by decide +kernel, rfl, rfl⟩
theorem lf_4_36 : km_lf 4 (36, 4, 1, 2, true) := ⟨_, rfl, by decide, (km_in2 132 rfl rfl), rfl, by decide +kernel, rfl, rfl⟩
theorem lf_4_40 : km_lf 4 (40, 6, 2, 2, true) := ⟨_, rfl, by decide, (km_in1 145 rfl rfl), rfl, by decide +kernel, rfl, rfl⟩
theorem lf_4_46 : km_lf 4 (46, 6, 3, 2, true) := ⟨_, rfl, by decide, (km_in1 148 rfl rfl), rfl, by decide +kernel, rfl, rfl⟩
theorem lf_4_52 : km_lf 4 (52, 1, 1, 0, false) := ⟨_, rfl, by decide, (km_in1 81 rfl rfl), rfl, by decide +kernel, rfl, rfl⟩
theorem lf_4_61 : km_lf 4 (61, 6, 5, 2, true) := ⟨_, rfl, by decide, (km_in1 153 rfl rfl), rfl, by decide +kernel, rfl, rfl⟩
theorem lf_4_64 : km_lf 4 (64, 1, 0, 2, true) := ⟨_, rfl, by decide, (km_in1 78 rfl rfl), rfl, by decide +kernel, rfl, rfl⟩
theorem lf_4_67 : km_lf 4 (67, 1, 2, 0, false) := ⟨_, rfl, by decide, (km_in1 85 rfl rfl), rfl, by decide +kernel, rfl, rfl⟩
theorem lf_4_73 : km_lf 4 (73, 4, 6, 2, false) := ⟨_, rfl, by decide, (km_in2 138 rfl rfl), rfl, by decide +kernel, rfl, rfl⟩
theorem lf_4_77 : km_lf 4 (77, 8, 5, 2, true) := ⟨_, rfl, by decide, (km_in2 8 rfl rfl), rfl, by decide +kernel, rfl, rfl⟩
theorem lf_4_80 : km_lf 4 (80, 4, 9, 0, false) := ⟨_, rfl, by decide, (km_in2 141 rfl rfl), rfl, by decide +kernel, rfl, rfl⟩
theorem lf_4_83 : km_lf 4 (83, 4, 8, 0, false) := ⟨_, rfl, by decide, (km_in2 140 rfl rfl), rfl, by decide +kernel, rfl, rfl⟩
theorem lf_4_86 : km_lf 4 (86, 4, 10, 3, false) := ⟨_, rfl, by decide, (km_in2 142 rfl rfl), rfl, by decide +kernel, rfl, rfl⟩
theorem lf_4_90 : km_lf 4 (90, 4, 11, 3, false) := ⟨_, rfl, by decide, (km_in2 143 rfl rfl), rfl, by decide +kernel, rfl, rfl⟩
theorem lf_4_93 : km_lf 4 (93, 4, 13, 0, false) := ⟨_, rfl, by decide, (km_in2 145 rfl rfl), rfl, by decide +kernel, rfl, rfl⟩
theorem lf_4_97 : km_lf 4 (97, 8, 4, 0, false) := ⟨_, rfl, by decide, (km_in2 5 rfl rfl), rfl, by decide +kernel, rfl, rfl⟩
theorem lf_4_100 : km_lf 4 (100, 8, 0, 2, true) := ⟨_, rfl, by decide, (km_in1 234 rfl rfl), rfl, by decide +kernel, rfl, rfl⟩
theorem lf_4_103 : km_lf 4 (103, 8, 1, 2, true) := ⟨_, rfl, by decide, (km_in1 236 rfl rfl), rfl, by decide +kernel, rfl, rfl⟩
theorem lf_4_138 : km_lf 4 (138, 4, 12, 0, false) := ⟨_, rfl, by decide, (km_in2 144 rfl rfl), rfl, by decide +kernel, rfl, rfl⟩
theorem lf_4_169 : km_lf 4 (169, 4, 14, 1, false) := ⟨_, rfl, by decide, (km_in2 146 rfl rfl), rfl, by decide +kernel, rfl, rfl⟩
theorem lf_4_173 : km_lf 4 (173, 4, 15, 0, false) := ⟨_, rfl, by decide, (km_in2 147 rfl rfl), rfl, by decide +kernel, rfl, rfl⟩
theorem lf_4_176 : km_lf 4 (176, 1, 12, 0, false) := ⟨_, rfl, by decide, (km_in1 106 rfl rfl), rfl, by decide +kernel, rfl, rfl⟩
theorem lf_4_179 : km_lf 4 (179, 8, 2, 2, true) := ⟨_, rfl, by decide, (km_in1 239 rfl rfl), rfl, by decide +kernel, rfl, rfl⟩
theorem lf_4_182 : km_lf 4 (182, 8, 3, 2, true) := ⟨_, rfl, by decide, (km_in2 2 rfl rfl), rfl, by decide +kernel, rfl, rfl⟩
theorem lf_4 : ∀ e ∈ km_flL 4, km_lf 4 e := (List.forall_mem_cons.mpr ⟨lf_4_9, (List.forall_mem_cons.mpr ⟨lf_4_15, (List.forall_mem_cons.mpr ⟨lf_4_19, (List.forall_mem_cons.mpr ⟨lf_4_24, (List.forall_mem_cons.mpr ⟨lf_4_29, (List.forall_mem_cons.mpr ⟨lf_4_32, (List.forall_mem_cons.mpr ⟨lf_4_36, (List.forall_mem_cons.mpr ⟨lf_4_40, (List.forall_mem_cons.mpr ⟨lf_4_46, (List.forall_mem_cons.mpr ⟨lf_4_52, (List.forall_mem_cons.mpr ⟨lf_4_61, (List.forall_mem_cons.mpr ⟨lf_4_64, (List.forall_mem_cons.mpr ⟨lf_4_67, (List.forall_mem_cons.mpr ⟨lf_4_73, (List.forall_mem_cons.mpr ⟨lf_4_77, (List.forall_mem_cons.mpr ⟨lf_4_80, (List.forall_mem_cons.mpr ⟨lf_4_83, (List.forall_mem_cons.mpr ⟨lf_4_86, (List.forall_mem_cons.mpr ⟨lf_4_90, (List.forall_mem_cons.mpr ⟨lf_4_93, (List.forall_mem_cons.mpr ⟨lf_4_97, (List.forall_mem_cons.mpr ⟨lf_4_100, (List.forall_mem_cons.mpr ⟨lf_4_103, (List.forall_mem_cons.mpr ⟨lf_4_138, (List.forall_mem_cons.mpr ⟨lf_4_169, (List.forall_mem_cons.mpr ⟨lf_4_173, (List.forall_mem_cons.mpr ⟨lf_4_176, (List.forall_mem_cons.mpr ⟨lf_4_179, (List.forall_mem_cons.mpr ⟨lf_4_182, (fun _ h => absurd h List.not_mem_nil)⟩)⟩)⟩)⟩)⟩)⟩)⟩)⟩)⟩)⟩)⟩)⟩)⟩)⟩)⟩)⟩)⟩)⟩)⟩)⟩)⟩)⟩)⟩)⟩)⟩)⟩)⟩)⟩)⟩)
theorem lf_5_9 : km_lf 5 (9, 5, 0, 0, false) := ⟨_, rfl, by decide, (km_in2 238 rfl rfl), rfl, by decide +kernel, rfl, rfl⟩
theorem lf_5_15 : km_lf 5 (15, 5, 2, 2, true) := ⟨_, rfl, by decide, (km_in3 2 rfl rfl), rfl, by decide +kernel, rfl, rfl⟩
theorem lf_5_19 : km_lf 5 (19, 5, 3, 2, true) := ⟨_, rfl, by decide, (km_in3 4 rfl rfl), rfl, by decide +kernel, rfl, rfl⟩
theorem lf_5_24 : km_lf 5 (24, 5, 5, 2, true) := ⟨_, rfl, by decide, (km_in3 8 rfl rfl), rfl, by decide +kernel, rfl, rfl⟩
theorem lf_5_27 : km_lf 5 (27, 5, 6, 2, true) := ⟨_, rfl, by decide, (km_in3 10 rfl rfl), rfl, by decide +kernel, rfl, rfl⟩
theorem lf_5_36 : km_lf 5 (36, 5, 1, 0, false) := ⟨_, rfl, by decide, (km_in3 0 rfl rfl), rfl, by decide +kernel, rfl, rfl⟩
theorem lf_5_43 : km_lf 5 (43, 5, 4, 0, false) := ⟨_, rfl, by decide, (km_in3 6 rfl rfl), rfl, by decide +kernel, rfl, rfl⟩
theorem lf_5 : ∀ e ∈ km_flL 5, km_lf 5 e := (List.forall_mem_cons.mpr ⟨lf_5_9, (List.forall_mem_cons.mpr ⟨lf_5_15, (List.forall_mem_cons.mpr ⟨lf_5_19, (List.forall_mem_cons.mpr ⟨lf_5_24, (List.forall_mem_cons.mpr ⟨lf_5_27, (List.forall_mem_cons.mpr ⟨lf_5_36, (List.forall_mem_cons.mpr ⟨lf_5_43, (fun _ h => absurd h List.not_mem_nil)⟩)⟩)⟩)⟩)⟩)⟩)⟩)
theorem lf_6_11 : km_lf 6 (11, 6, 2, 2, true) := ⟨_, rfl, by decide, (km_in1 144 rfl rfl), rfl, by decide +kernel, rfl, rfl⟩
theorem lf_6_15 : km_lf 6 (15, 6, 3, 2, true) := ⟨_, rfl, by decide, (km_in1 147 rfl rfl), rfl, by decide +kernel, rfl, rfl⟩
theorem lf_6_20 : km_lf 6 (20, 6, 4, 2, true) := ⟨_, rfl, by decide, (km_in1 150 rfl rfl), rfl, by decide +kernel, rfl, rfl⟩
theorem lf_6_23 : km_lf 6 (23, 6, 5, 2, true) := ⟨_, rfl, by decide, (km_in1 152 rfl rfl), rfl, by decide +kernel, rfl, rfl⟩
theorem lf_6_26 : km_lf 6 (26, 6, 6, 2, true) := ⟨_, rfl, by decide, (km_in1 154 rfl rfl), rfl, by decide +kernel, rfl, rfl⟩
theorem lf_6_29 : km_lf 6 (29, 6, 0, 2, true) := ⟨_, rfl, by decide, (km_in1 141 rfl rfl), rfl, by decide +kernel, rfl, rfl⟩
theorem lf_6_33 : km_lf 6 (33, 6, 1, 0, false) := ⟨_, rfl, by decide, (km_in1 142 rfl rfl), rfl, by decide +kernel, rfl, rfl⟩
theorem lf_6_49 : km_lf 6 (49, 1, 1, 0, false) := ⟨_, rfl, by decide, (km_in1 83 rfl rfl), rfl, by decide +kernel, rfl, rfl⟩
theorem lf_6 : ∀ e ∈ km_flL 6, km_lf 6 e := (List.forall_mem_cons.mpr ⟨lf_6_11, (List.forall_mem_cons.mpr ⟨lf_6_15, (List.forall_mem_cons.mpr ⟨lf_6_20, (List.forall_mem_cons.mpr ⟨lf_6_23, (List.forall_mem_cons.mpr ⟨lf_6_26, (List.forall_mem_cons.mpr ⟨lf_6_29, (List.forall_mem_cons.mpr ⟨lf_6_33, (List.forall_mem_cons.mpr ⟨lf_6_49, (fun _ h => absurd h List.not_mem_nil)⟩)⟩)⟩)⟩)⟩)⟩)⟩)⟩)
theorem lf_7_13 : km_lf 7 (13, 7, 3, 0, false) := ⟨_, rfl, by decide, (km_in1 180 rfl rfl), rfl, by decide +kernel, rfl, rfl⟩
theorem lf_7_17 : km_lf 7 (17, 7, 7, 2, true) := ⟨_, rfl, by decide, (km_in1 185 rfl rfl), rfl, by decide +kernel, rfl, rfl⟩
theorem lf_7_21 : km_lf 7 (21, 7, 8, 2, true) := ⟨_, rfl, by decide, (km_in1 186 rfl rfl), rfl, by decide +kernel, rfl, rfl⟩
theorem lf_7_24 : km_lf 7 (24, 7, 0, 2, true) := ⟨_, rfl, by decide, (km_in1 176 rfl rfl), rfl, by decide +kernel, rfl, rfl⟩
theorem lf_7_28 : km_lf 7 (28, 7, 1, 2, false) := ⟨_, rfl, by decide, (km_in1 177 rfl rfl), rfl, by decide +kernel, rfl, rfl⟩
theorem lf_7_41 : km_lf 7 (41, 7, 2, 0, false) := ⟨_, rfl, by decide, (km_in1 178 rfl rfl), rfl, by decide +kernel, rfl, rfl⟩
theorem lf_7_44 : km_lf 7 (44, 7, 4, 0, false) := ⟨_, rfl, by decide, (km_in1 182 rfl rfl), rfl, by decide +kernel, rfl, rfl⟩
theorem lf_7_47 : km_lf 7 (47, 7, 9, 0, false) := ⟨_, rfl, by decide, (km_in1 187 rfl rfl), rfl, by decide +kernel, rfl, rfl⟩
theorem lf_7_50 : km_lf 7 (50, 7, 10, 0, false) := ⟨_, rfl, by decide, (km_in1 188 rfl rfl), rfl, by decide +kernel, rfl, rfl⟩
theorem lf_7_53 : km_lf 7 (53, 7, 13, 0, false) := ⟨_, rfl, by decide, (km_in1 191 rfl rfl), rfl, by decide +kernel, rfl, rfl⟩
theorem lf_7_59 : km_lf 7 (59, 10, 4, 0, false) := ⟨_, rfl, by decide, (km_in1 47 rfl rfl), rfl, by decide +kernel, rfl, rfl⟩
theorem lf_7_68 : km_lf 7 (68, 10, 5, 0, false) := ⟨_, rfl, by decide, (km_in1 49 rfl rfl), rfl, by decide +kernel, rfl, rfl⟩
theorem lf_7_81 : km_lf 7 (81, 8, 7, 0, false) := ⟨_, rfl, by decide, (km_in2 12 rfl rfl), rfl, by decide +kernel, rfl, rfl⟩
theorem lf_7_92 : km_lf 7 (92, 7, 5, 0, false) := ⟨_, rfl, by decide, (km_in1 183 rfl rfl), rfl, by decide +kernel, rfl, rfl⟩
theorem lf_7_100 : km_lf 7 (100, 7, 6, 3, false) := ⟨_, rfl, by decide, (km_in1 184 rfl rfl), rfl, by decide +kernel, rfl, rfl⟩
theorem lf_7_120 : km_lf 7 (120, 8, 8, 0, false) := ⟨_, rfl, by decide, (km_in2 14 rfl rfl), rfl, by decide +kernel, rfl, rfl⟩
theorem lf_7_123 : km_lf 7 (123, 10, 6, 0, false) := ⟨_, rfl, by decide, (km_in1 52 rfl rfl), rfl, by decide +kernel, rfl, rfl⟩
theorem lf_7_139 : km_lf 7 (139, 8, 9, 0, false) := ⟨_, rfl, by decide, (km_in2 17 rfl rfl), rfl, by decide +kernel, rfl, rfl⟩
theorem lf_7_142 : km_lf 7 (142, 8, 4, 0, false) := ⟨_, rfl, by decide, (km_in2 6 rfl rfl), rfl, by decide +kernel, rfl, rfl⟩
theorem lf_7_145 : km_lf 7 (145, 7, 11, 0, false) := ⟨_, rfl, by decide, (km_in1 189 rfl rfl), rfl, by decide +kernel, rfl, rfl⟩
theorem lf_7_148 : km_lf 7 (148, 7, 12, 0, false) := ⟨_, rfl, by decide, (km_in1 190 rfl rfl), rfl, by decide +kernel, rfl, rfl⟩
theorem lf_7_151 : km_lf 7 (151, 7, 14, 3, false) := ⟨_, rfl, by decide, (km_in1 192 rfl rfl), rfl, by decide +kernel, rfl, rfl⟩
theorem lf_7_175 : km_lf 7 (175, 8, 1, 2, true) := ⟨_, rfl, by decide, (km_in1 237 rfl rfl), rfl, by decide +kernel, rfl, rfl⟩
theorem lf_7_178 : km_lf 7 (178, 8, 2, 2, true) := ⟨_, rfl, by decide, (km_in2 0 rfl rfl), rfl, by decide +kernel, rfl, rfl⟩
theorem lf_7_187 : km_lf 7 (187, 8, 3, 2, true) := ⟨_, rfl, by decide, (km_in2 3 rfl rfl), rfl, by decide +kernel, rfl, rfl⟩
theorem lf_7 : ∀ e ∈ km_flL 7, km_lf 7 e := (List.forall_mem_cons.mpr ⟨lf_7_13, (List.forall_mem_cons.mpr ⟨lf_7_17, (List.forall_mem_cons.mpr ⟨lf_7_21, (List.forall_mem_cons.mpr ⟨lf_7_24, (List.forall_mem_cons.mpr ⟨lf_7_28, (List.forall_mem_cons.mpr ⟨lf_7_41, (List.forall_mem_cons.mpr ⟨lf_7_44, (List.forall_mem_cons.mpr ⟨lf_7_47, (List.forall_mem_cons.mpr ⟨lf_7_50, (List.forall_mem_cons.mpr ⟨lf_7_53, (List.forall_mem_cons.mpr ⟨lf_7_59, (List.forall_mem_cons.mpr ⟨lf_7_68, (List.forall_mem_cons.mpr ⟨lf_7_81, (List.forall_mem_cons.mpr ⟨lf_7_92, (List.forall_mem_cons.mpr ⟨lf_7_100, (List.forall_mem_cons.mpr ⟨lf_7_120, (List.forall_mem_cons.mpr ⟨lf_7_123, (List.forall_mem_cons.mpr ⟨lf_7_139, (List.forall_mem_cons.mpr ⟨lf_7_142, (List.forall_mem_cons.mpr ⟨lf_7_145, (List.forall_mem_cons.mpr ⟨lf_7_148, (List.forall_mem_cons.mpr ⟨lf_7_151, (List.forall_mem_cons.mpr ⟨lf_7_175, (List.forall_mem_cons.mpr ⟨lf_7_178, (List.forall_mem_cons.mpr ⟨lf_7_187, (fun _ h => absurd h List.not_mem_nil)⟩)⟩)⟩)⟩)⟩)⟩)⟩)⟩)⟩)⟩)⟩)⟩)⟩)⟩)⟩)⟩)⟩)⟩)⟩)⟩)⟩)⟩)⟩)⟩)⟩)
theorem lf_8_11 : km_lf 8 (11, 8, 0, 2, true) := ⟨_, rfl, by decide, (km_in1 233 rfl rfl), rfl, by decide +kernel, rfl, rfl⟩
theorem lf_8_15 : km_lf 8 (15, 8, 1, 2, true) := ⟨_, rfl, by decide, (km_in1 235 rfl rfl), rfl, by decide +kernel, rfl, rfl⟩
theorem lf_8_18 : km_lf 8 (18, 8, 2, 2, true) := ⟨_, rfl, by decide, (km_in1 238 rfl rfl), rfl, by decide +kernel, rfl, rfl⟩
theorem lf_8_21 : km_lf 8 (21, 8, 3, 2, true) := ⟨_, rfl, by decide, (km_in2 1 rfl rfl), rfl, by decide +kernel, rfl, rfl⟩
theorem lf_8_24 : km_lf 8 (24, 8, 5, 2, true) := ⟨_, rfl, by decide, (km_in2 7 rfl rfl), rfl, by decide +kernel, rfl, rfl⟩
theorem lf_8_33 : km_lf 8 (33, 8, 4, 0, false) := ⟨_, rfl, by decide, (km_in2 4 rfl rfl), rfl, by decide +kernel, rfl, rfl⟩
theorem lf_8_37 : km_lf 8 (37, 8, 6, 0, false) := ⟨_, rfl, by decide, (km_in2 9 rfl rfl), rfl, by decide +kernel, rfl, rfl⟩
theorem lf_8_40 : km_lf 8 (40, 8, 7, 0, false) := ⟨_, rfl, by decide, (km_in2 11 rfl rfl), rfl, by decide +kernel, rfl, rfl⟩
theorem lf_8_43 : km_lf 8 (43, 8, 8, 0, false) := ⟨_, rfl, by decide, (km_in2 13 rfl rfl), rfl, by decide +kernel, rfl, rfl⟩
theorem lf_8_46 : km_lf 8 (46, 8, 9, 0, false) := ⟨_, rfl, by decide, (km_in2 16 rfl rfl), rfl, by decide +kernel, rfl, rfl⟩
theorem lf_8 : ∀ e ∈ km_flL 8, km_lf 8 e := (List.forall_mem_cons.mpr ⟨lf_8_11, (List.forall_mem_cons.mpr ⟨lf_8_15, (List.forall_mem_cons.mpr ⟨lf_8_18, (List.forall_mem_cons.mpr ⟨lf_8_21, (List.forall_mem_cons.mpr ⟨lf_8_24, (List.forall_mem_cons.mpr ⟨lf_8_33, (List.forall_mem_cons.mpr ⟨lf_8_37, (List.forall_mem_cons.mpr ⟨lf_8_40, (List.forall_mem_cons.mpr ⟨lf_8_43, (List.forall_mem_cons.mpr ⟨lf_8_46, (fun _ h => absurd h List.not_mem_nil)⟩)⟩)⟩)⟩)⟩)⟩)⟩)⟩)⟩)⟩)
theorem lf_9_9 : km_lf 9 (9, 9, 0, 2, true) := ⟨_, rfl, by decide, (km_in3 33 rfl rfl), rfl, by decide +kernel, rfl, rfl⟩
theorem lf_9_15 : km_lf 9 (15, 9, 1, 2, true) := ⟨_, rfl, by decide, (km_in3 35 rfl rfl), rfl, by decide +kernel, rfl, rfl⟩
theorem lf_9_19 : km_lf 9 (19, 9, 2, 2, true) := ⟨_, rfl, by decide, (km_in3 37 rfl rfl), rfl, by decide +kernel, rfl, rfl⟩
theorem lf_9_22 : km_lf 9 (22, 9, 3, 2, true) := ⟨_, rfl, by decide, (km_in3 39 rfl rfl), rfl, by decide +kernel, rfl, rfl⟩
theorem lf_9_25 : km_lf 9 (25, 9, 4, 2, true) := ⟨_, rfl, by decide, (km_in3 40 rfl rfl), rfl, by decide +kernel, rfl, rfl⟩
theorem lf_9_28 : km_lf 9 (28, 9, 5, 2, true) := ⟨_, rfl, by decide, (km_in3 41 rfl rfl), rfl, by decide +kernel, rfl, rfl⟩
theorem lf_9_31 : km_lf 9 (31, 9, 7, 2, true) := ⟨_, rfl, by decide, (km_in3 44 rfl rfl), rfl, by decide +kernel, rfl, rfl⟩
theorem lf_9_34 : km_lf 9 (34, 9, 8, 2, true) := ⟨_, rfl, by decide, (km_in3 46 rfl rfl), rfl, by decide +kernel, rfl, rfl⟩
theorem lf_9_37 : km_lf 9 (37, 9, 9, 2, true) := ⟨_, rfl, by decide, (km_in3 48 rfl rfl), rfl, by decide +kernel, rfl, rfl⟩
theorem lf_9_56 : km_lf 9 (56, 9, 6, 0, false) := ⟨_, rfl, by decide, (km_in3 42 rfl rfl), rfl, by decide +kernel, rfl, rfl⟩
theorem lf_9 : ∀ e ∈ km_flL 9, km_lf 9 e := (List.forall_mem_cons.mpr ⟨lf_9_9, (List.forall_mem_cons.mpr ⟨lf_9_15, (List.forall_mem_cons.mpr ⟨lf_9_19, (List.forall_mem_cons.mpr ⟨lf_9_22, (List.forall_mem_cons.mpr ⟨lf_9_25, (List.forall_mem_cons.mpr ⟨lf_9_28, (List.forall_mem_cons.mpr ⟨lf_9_31, (List.forall_mem_cons.mpr ⟨lf_9_34, (List.forall_mem_cons.mpr ⟨lf_9_37, (List.forall_mem_cons.mpr ⟨lf_9_56, (fun _ h => absurd h List.not_mem_nil)⟩)⟩)⟩)⟩)⟩)⟩)⟩)⟩)⟩)⟩)
theorem lf_10_11 : km_lf 10 (11, 10, 0, 2, true) := ⟨_, rfl, by decide, (km_in1 42 rfl rfl), rfl, by decide +kernel, rfl, rfl⟩
theorem lf_10_15 : km_lf 10 (15, 10, 1, 0, false) := ⟨_, rfl, by decide, (km_in1 44 rfl rfl), rfl, by decide +kernel, rfl, rfl⟩
theorem lf_10_25 : km_lf 10 (25, 10, 2, 0, false) := ⟨_, rfl, by decide, (km_in1 45 rfl rfl), rfl, by decide +kernel, rfl, rfl⟩
theorem lf_10_28 : km_lf 10 (28, 10, 3, 0, false) := ⟨_, rfl, by decide, (km_in1 46 rfl rfl), rfl, by decide +kernel, rfl, rfl⟩
theorem lf_10_31 : km_lf 10 (31, 10, 5, 0, false) := ⟨_, rfl, by decide, (km_in1 50 rfl rfl), rfl, by decide +kernel, rfl, rfl⟩
theorem lf_10_34 : km_lf 10 (34, 10, 4, 0, false) := ⟨_, rfl, by decide, (km_in1 48 rfl rfl), rfl, by decide +kernel, rfl, rfl⟩
theorem lf_10_57 : km_lf 10 (57, 10, 6, 0, false) := ⟨_, rfl, by decide, (km_in1 51 rfl rfl), rfl, by decide +kernel, rfl, rfl⟩
theorem lf_10 : ∀ e ∈ km_flL 10, km_lf 10 e := (List.forall_mem_cons.mpr ⟨lf_10_11, (List.forall_mem_cons.mpr ⟨lf_10_15, (List.forall_mem_cons.mpr ⟨lf_10_25, (List.forall_mem_cons.mpr ⟨lf_10_28, (List.forall_mem_cons.mpr ⟨lf_10_31, (List.forall_mem_cons.mpr ⟨lf_10_34, (List.forall_mem_cons.mpr ⟨lf_10_57, (fun _ h => absurd h List.not_mem_nil)⟩)⟩)⟩)⟩)⟩)⟩)⟩)
theorem lf_11_9 : km_lf 11 (9, 11, 12, 2, true) := ⟨_, rfl, by decide, (km_in3 84 rfl rfl), rfl, by decide +kernel, rfl, rfl⟩
theorem lf_11_13 : km_lf 11 (13, 11, 13, 2, true) := ⟨_, rfl, by decide, (km_in3 85 rfl rfl), rfl, by decide +kernel, rfl, rfl⟩
theorem lf_11_27 : km_lf 11 (27, 11, 0, 2, true) := ⟨_, rfl, by decide, (km_in3 72 rfl rfl), rfl, by decide +kernel, rfl, rfl⟩
theorem lf_11_36 : km_lf 11 (36, 11, 1, 2, true) := ⟨_, rfl, by decide, (km_in3 73 rfl rfl), rfl, by decide +kernel, rfl, rfl⟩
theorem lf_11_43 : km_lf 11 (43, 11, 2, 2, false) := ⟨_, rfl, by decide, (km_in3 74 rfl rfl), rfl, by decide +kernel, rfl, rfl⟩
theorem lf_11_47 : km_lf 11 (47, 11, 3, 2, false) := ⟨_, rfl, by decide, (km_in3 75 rfl rfl), rfl, by decide +kernel, rfl, rfl⟩
theorem lf_11_50 : km_lf 11 (50, 11, 4, 2, true) := ⟨_, rfl, by decide, (km_in3 76 rfl rfl), rfl, by decide +kernel, rfl, rfl⟩
theorem lf_11_57 : km_lf 11 (57, 11, 5, 2, true) := ⟨_, rfl, by decide, (km_in3 77 rfl rfl), rfl, by decide +kernel, rfl, rfl⟩
theorem lf_11_61 : km_lf 11 (61, 11, 6, 2, true) := ⟨_, rfl, by decide, (km_in3 78 rfl rfl), rfl, by decide +kernel, rfl, rfl⟩
theorem lf_11_68 : km_lf 11 (68, 11, 7, 2, true) := ⟨_, rfl, by decide, (km_in3 79 rfl rfl), rfl, by decide +kernel, rfl, rfl⟩
theorem lf_11_77 : km_lf 11 (77, 11, 8, 2, true) := ⟨_, rfl, by decide, (km_in3 80 rfl rfl), rfl, by decide +kernel, rfl, rfl⟩
theorem lf_11_84 : km_lf 11 (84, 11, 9, 2, true) := ⟨_, rfl, by decide, (km_in3 81 rfl rfl), rfl, by decide +kernel, rfl, rfl⟩
theorem lf_11_91 : km_lf 11 (91, 11, 10, 2, true) := ⟨_, rfl, by decide, (km_in3 82 rfl rfl), rfl, by decide +kernel, rfl, rfl⟩
theorem lf_11_98 : km_lf 11 (98, 11, 11, 2, true) := ⟨_, rfl, by decide, (km_in3 83 rfl rfl), rfl, by decide +kernel, rfl, rfl⟩
theorem lf_11_108 : km_lf 11 (108, 10, 1, 0, false) := ⟨_, rfl, by decide, (km_in1 43 rfl rfl), rfl, by decide +kernel, rfl, rfl⟩
theorem lf_11_120 : km_lf 11 (120, 7, 2, 0, false) := ⟨_, rfl, by decide, (km_in1 179 rfl rfl), rfl, by decide +kernel, rfl, rfl⟩
theorem lf_11_123 : km_lf 11 (123, 8, 6, 0, false) := ⟨_, rfl, by decide, (km_in2 10 rfl rfl), rfl, by decide +kernel, rfl, rfl⟩
theorem lf_11_126 : km_lf 11 (126, 7, 3, 0, false) := ⟨_, rfl, by decide, (km_in1 181 rfl rfl), rfl, by decide +kernel, rfl, rfl⟩
theorem lf_11_129 : km_lf 11 (129, 1, 1, 0, false) := ⟨_, rfl, by decide, (km_in1 82 rfl rfl), rfl, by decide +kernel, rfl, rfl⟩
theorem lf_11_144 : km_lf 11 (144, 1, 0, 2, true) := ⟨_, rfl, by decide, (km_in1 79 rfl rfl), rfl, by decide +kernel, rfl, rfl⟩
theorem lf_11_156 : km_lf 11 (156, 1, 3, 0, false) := ⟨_, rfl, by decide, (km_in1 90 rfl rfl), rfl, by decide +kernel, rfl, rfl⟩
theorem lf_11_188 : km_lf 11 (188, 0, 0, 2, true) := ⟨_, rfl, by decide, (km_in2 46 rfl rfl), rfl, by decide +kernel, rfl, rfl⟩
theorem lf_11_197 : km_lf 11 (197, 1, 2, 0, false) := ⟨_, rfl, by decide, (km_in1 87 rfl rfl), rfl, by decide +kernel, rfl, rfl⟩
theorem lf_11_214 : km_lf 11 (214, 6, 1, 0, false) := ⟨_, rfl, by decide, (km_in1 143 rfl rfl), rfl, by decide +kernel, rfl, rfl⟩
theorem lf_11_223 : km_lf 11 (223, 6, 4, 2, true) := ⟨_, rfl, by decide, (km_in1 151 rfl rfl), rfl, by decide +kernel, rfl, rfl⟩
theorem lf_11_226 : km_lf 11 (226, 2, 0, 0, false) := ⟨_, rfl, by decide, (km_in2 84 rfl rfl), rfl, by decide +kernel, rfl, rfl⟩
theorem lf_11_239 : km_lf 11 (239, 2, 10, 0, false) := ⟨_, rfl, by decide, (km_in2 96 rfl rfl), rfl, by decide +kernel, rfl, rfl⟩
theorem lf_11_242 : km_lf 11 (242, 2, 11, 0, false) := ⟨_, rfl, by decide, (km_in2 98 rfl rfl), rfl, by decide +kernel, rfl, rfl⟩
theorem lf_11_267 : km_lf 11 (267, 5, 0, 0, false) := ⟨_, rfl, by decide, (km_in2 239 rfl rfl), rfl, by decide +kernel, rfl, rfl⟩
theorem lf_11_270 : km_lf 11 (270, 5, 1, 0, false) := ⟨_, rfl, by decide, (km_in3 1 rfl rfl), rfl, by decide +kernel, rfl, rfl⟩
theorem lf_11_279 : km_lf 11 (279, 5, 2, 2, true) := ⟨_, rfl, by decide, (km_in3 3 rfl rfl), rfl, by decide +kernel, rfl, rfl⟩
theorem lf_11_282 : km_lf 11 (282, 3, 0, 0, false) := ⟨_, rfl, by decide, (km_in2 190 rfl rfl), rfl, by decide +kernel, rfl, rfl⟩
theorem lf_11_295 : km_lf 11 (295, 3, 5, 2, true) := ⟨_, rfl, by decide, (km_in2 197 rfl rfl), rfl, by decide +kernel, rfl, rfl⟩
theorem lf_11_298 : km_lf 11 (298, 5, 3, 2, true) := ⟨_, rfl, by decide, (km_in3 5 rfl rfl), rfl, by decide +kernel, rfl, rfl⟩
theorem lf_11_305 : km_lf 11 (305, 3, 11, 2, true) := ⟨_, rfl, by decide, (km_in2 204 rfl rfl), rfl, by decide +kernel, rfl, rfl⟩
theorem lf_11_311 : km_lf 11 (311, 3, 2, 0, false) := ⟨_, rfl, by decide, (km_in2 193 rfl rfl), rfl, by decide +kernel, rfl, rfl⟩
theorem lf_11_317 : km_lf 11 (317, 5, 4, 0, false) := ⟨_, rfl, by decide, (km_in3 7 rfl rfl), rfl, by decide +kernel, rfl, rfl⟩
theorem lf_11_320 : km_lf 11 (320, 5, 6, 2, true) := ⟨_, rfl, by decide, (km_in3 11 rfl rfl), rfl, by decide +kernel, rfl, rfl⟩
theorem lf_11_329 : km_lf 11 (329, 5, 5, 2, true) := ⟨_, rfl, by decide, (km_in3 9 rfl rfl), rfl, by decide +kernel, rfl, rfl⟩
theorem lf_11_337 : km_lf 11 (337, 9, 0, 2, true) := ⟨_, rfl, by decide, (km_in3 34 rfl rfl), rfl, by decide +kernel, rfl, rfl⟩
theorem lf_11_341 : km_lf 11 (341, 9, 1, 2, true) := ⟨_, rfl, by decide, (km_in3 36 rfl rfl), rfl, by decide +kernel, rfl, rfl⟩
theorem lf_11_344 : km_lf 11 (344, 9, 2, 2, true) := ⟨_, rfl, by decide, (km_in3 38 rfl rfl), rfl, by decide +kernel, rfl, rfl⟩
theorem lf_11_350 : km_lf 11 (350, 9, 6, 0, false) := ⟨_, rfl, by decide, (km_in3 43 rfl rfl), rfl, by decide +kernel, rfl, rfl⟩
theorem lf_11_353 : km_lf 11 (353, 9, 7, 2, true) := ⟨_, rfl, by decide, (km_in3 45 rfl rfl), rfl, by decide +kernel, rfl, rfl⟩
theorem lf_11_356 : km_lf 11 (356, 9, 8, 2, true) := ⟨_, rfl, by decide, (km_in3 47 rfl rfl), rfl, by decide +kernel, rfl, rfl⟩
theorem lf_11_359 : km_lf 11 (359, 9, 9, 2, true) := ⟨_, rfl, by decide, (km_in3 49 rfl rfl), rfl, by decide +kernel, rfl, rfl⟩
theorem lf_11_393 : km_lf 11 (393, 8, 8, 0, false) := ⟨_, rfl, by decide, (km_in2 15 rfl rfl), rfl, by decide +kernel, rfl, rfl⟩
theorem lf_11_399 : km_lf 11 (399, 2, 6, 2, true) := ⟨_, rfl, by decide, (km_in2 91 rfl rfl), rfl, by decide +kernel, rfl, rfl⟩
theorem lf_11_402 : km_lf 11 (402, 6, 2, 2, true) := ⟨_, rfl, by decide, (km_in1 146 rfl rfl), rfl, by decide +kernel, rfl, rfl⟩
theorem lf_11_405 : km_lf 11 (405, 6, 3, 2, true) := ⟨_, rfl, by decide, (km_in1 149 rfl rfl), rfl, by decide +kernel, rfl, rfl⟩
theorem lf_11_431 : km_lf 11 (431, 4, 2, 0, false) := ⟨_, rfl, by decide, (km_in2 134 rfl rfl), rfl, by decide +kernel, rfl, rfl⟩
theorem lf_11 : ∀ e ∈ km_flL 11, km_lf 11 e := (List.forall_mem_cons.mpr ⟨lf_11_9, (List.forall_mem_cons.mpr ⟨lf_11_13, (List.forall_mem_cons.mpr ⟨lf_11_27, (List.forall_mem_cons.mpr ⟨lf_11_36, (List.forall_mem_cons.mpr ⟨lf_11_43, (List.forall_mem_cons.mpr ⟨lf_11_47, (List.forall_mem_cons.mpr ⟨lf_11_50, (List.forall_mem_cons.mpr ⟨lf_11_57, (List.forall_mem_cons.mpr ⟨lf_11_61, (List.forall_mem_cons.mpr ⟨lf_11_68, (List.forall_mem_cons.mpr ⟨lf_11_77, (List.forall_mem_cons.mpr ⟨lf_11_84, (List.forall_mem_cons.mpr ⟨lf_11_91, (List.forall_mem_cons.mpr ⟨lf_11_98, (List.forall_mem_cons.mpr ⟨lf_11_108, (List.forall_mem_cons.mpr ⟨lf_11_120, (List.forall_mem_cons.mpr ⟨lf_11_123, (List.forall_mem_cons.mpr ⟨lf_11_126, (List.forall_mem_cons.mpr ⟨lf_11_129, (List.forall_mem_cons.mpr ⟨lf_11_144, (List.forall_mem_cons.mpr ⟨lf_11_156, (List.forall_mem_cons.mpr ⟨lf_11_188, (List.forall_mem_cons.mpr ⟨lf_11_197, (List.forall_mem_cons.mpr ⟨lf_11_214, (List.forall_mem_cons.mpr ⟨lf_11_223, (List.forall_mem_cons.mpr ⟨lf_11_226, (List.forall_mem_cons.mpr ⟨lf_11_239, (List.forall_mem_cons.mpr ⟨lf_11_242, (List.forall_mem_cons.mpr ⟨lf_11_267, (List.forall_mem_cons.mpr ⟨lf_11_270, (List.forall_mem_cons.mpr ⟨lf_11_279, (List.forall_mem_cons.mpr ⟨lf_11_282, (List.forall_mem_cons.mpr ⟨lf_11_295, (List.forall_mem_cons.mpr ⟨lf_11_298, (List.forall_mem_cons.mpr ⟨lf_11_305, (List.forall_mem_cons.mpr ⟨lf_11_311, (List.forall_mem_cons.mpr ⟨lf_11_317, (List.forall_mem_cons.mpr ⟨lf_11_320, (List.forall_mem_cons.mpr ⟨lf_11_329, (List.forall_mem_cons.mpr ⟨lf_11_337, (List.forall_mem_cons.mpr ⟨lf_11_341, (List.forall_mem_cons.mpr ⟨lf_11_344, (List.forall_mem_cons.mpr ⟨lf_11_350, (List.forall_mem_cons.mpr ⟨lf_11_353, (List.forall_mem_cons.mpr ⟨lf_11_356, (List.forall_mem_cons.mpr ⟨lf_11_359, (List.forall_mem_cons.mpr ⟨lf_11_393, (List.forall_mem_cons.mpr ⟨lf_11_399, (List.forall_mem_cons.mpr ⟨lf_11_402, (List.forall_mem_cons.mpr ⟨lf_11_405, (List.forall_mem_cons.mpr ⟨lf_11_431, (fun _ h => absurd h List.not_mem_nil)⟩)⟩)⟩)⟩)⟩)⟩)⟩)⟩)⟩)⟩)⟩)⟩)⟩)⟩)⟩)⟩)⟩)⟩)⟩)⟩)⟩)⟩)⟩)⟩)⟩)⟩)⟩)⟩)⟩)⟩)⟩)⟩)⟩)⟩)⟩)⟩)⟩)⟩)⟩)⟩)⟩)⟩)⟩)⟩)⟩)⟩)⟩)⟩)⟩)⟩)⟩)
theorem lf_12_7 : km_lf 12 (7, 12, 0, 2, true) := ⟨_, rfl, by decide, (km_in7 116 rfl rfl), rfl, by decide +kernel, rfl, rfl⟩
theorem lf_12_13 : km_lf 12 (13, 12, 4, 2, true) := ⟨_, rfl, by decide, (km_in7 120 rfl rfl), rfl, by decide +kernel, rfl, rfl⟩
theorem lf_12_16 : km_lf 12 (16, 12, 6, 2, true) := ⟨_, rfl, by decide, (km_in7 122 rfl rfl), rfl, by decide +kernel, rfl, rfl⟩
theorem lf_12_19 : km_lf 12 (19, 12, 7, 2, true) := ⟨_, rfl, by decide, (km_in7 123 rfl rfl), rfl, by decide +kernel, rfl, rfl⟩
theorem lf_12_22 : km_lf 12 (22, 12, 8, 2, true) := ⟨_, rfl, by decide, (km_in7 124 rfl rfl), rfl, by decide +kernel, rfl, rfl⟩
theorem lf_12_25 : km_lf 12 (25, 12, 9, 2, true) := ⟨_, rfl, by decide, (km_in7 125 rfl rfl), rfl, by decide +kernel, rfl, rfl⟩
theorem lf_12_28 : km_lf 12 (28, 12, 10, 2, true) := ⟨_, rfl, by decide, (km_in7 126 rfl rfl), rfl, by decide +kernel, rfl, rfl⟩
theorem lf_12_32 : km_lf 12 (32, 12, 12, 2, true) := ⟨_, rfl, by decide, (km_in7 128 rfl rfl), rfl, by decide +kernel, rfl, rfl⟩
theorem lf_12_35 : km_lf 12 (35, 12, 13, 2, true) := ⟨_, rfl, by decide, (km_in7 129 rfl rfl), rfl, by decide +kernel, rfl, rfl⟩
theorem lf_12_38 : km_lf 12 (38, 12, 15, 2, true) := ⟨_, rfl, by decide, (km_in7 131 rfl rfl), rfl, by decide +kernel, rfl, rfl⟩
theorem lf_12_41 : km_lf 12 (41, 12, 16, 2, true) := ⟨_, rfl, by decide, (km_in7 132 rfl rfl), rfl, by decide +kernel, rfl, rfl⟩
theorem lf_12_44 : km_lf 12 (44, 12, 17, 2, true) := ⟨_, rfl, by decide, (km_in7 133 rfl rfl), rfl, by decide +kernel, rfl, rfl⟩
theorem lf_12_47 : km_lf 12 (47, 12, 18, 2, true) := ⟨_, rfl, by decide, (km_in7 134 rfl rfl), rfl, by decide +kernel, rfl, rfl⟩
theorem lf_12_50 : km_lf 12 (50, 12, 22, 2, true) := ⟨_, rfl, by decide, (km_in7 138 rfl rfl), rfl, by decide +kernel, rfl, rfl⟩
theorem lf_12_53 : km_lf 12 (53, 12, 24, 0, false) := ⟨_, rfl, by decide, (km_in7 140 rfl rfl), rfl, by decide +kernel, rfl, rfl⟩
theorem lf_12_57 : km_lf 12 (57, 12, 30, 2, true) := ⟨_, rfl, by decide, (km_in7 146 rfl rfl), rfl, by decide +kernel, rfl, rfl⟩
theorem lf_12_60 : km_lf 12 (60, 12, 31, 2, true) := ⟨_, rfl, by decide, (km_in7 147 rfl rfl), rfl, by decide +kernel, rfl, rfl⟩
theorem lf_12_63 : km_lf 12 (63, 12, 32, 2, true) := ⟨_, rfl, by decide, (km_in7 148 rfl rfl), rfl, by decide +kernel, rfl, rfl⟩
theorem lf_12_66 : km_lf 12 (66, 12, 33, 2, true) := ⟨_, rfl, by decide, (km_in7 149 rfl rfl), rfl, by decide +kernel, rfl, rfl⟩
theorem lf_12_69 : km_lf 12 (69, 12, 34, 2, true) := ⟨_, rfl, by decide, (km_in7 150 rfl rfl), rfl, by decide +kernel, rfl, rfl⟩
theorem lf_12_72 : km_lf 12 (72, 12, 37, 2, true) := ⟨_, rfl, by decide, (km_in7 153 rfl rfl), rfl, by decide +kernel, rfl, rfl⟩
theorem lf_12_75 : km_lf 12 (75, 12, 38, 2, true) := ⟨_, rfl, by decide, (km_in7 154 rfl rfl), rfl, by decide +kernel, rfl, rfl⟩
theorem lf_12_78 : km_lf 12 (78, 12, 40, 2, true) := ⟨_, rfl, by decide, (km_in7 156 rfl rfl), rfl, by decide +kernel, rfl, rfl⟩
theorem lf_12_81 : km_lf 12 (81, 12, 42, 2, true) := ⟨_, rfl, by decide, (km_in7 158 rfl rfl), rfl, by decide +kernel, rfl, rfl⟩
theorem lf_12_84 : km_lf 12 (84, 12, 49, 2, true) := ⟨_, rfl, by decide, (km_in7 165 rfl rfl), rfl, by decide +kernel, rfl, rfl⟩
theorem lf_12_87 : km_lf 12 (87, 12, 50, 2, true) := ⟨_, rfl, by decide, (km_in7 166 rfl rfl), rfl, by decide +kernel, rfl, rfl⟩
theorem lf_12_90 : km_lf 12 (90, 12, 52, 2, true) := ⟨_, rfl, by decide, (km_in7 168 rfl rfl), rfl, by decide +kernel, rfl, rfl⟩
theorem lf_12_94 : km_lf 12 (94, 12, 62, 2, true) := ⟨_, rfl, by decide, (km_in7 178 rfl rfl), rfl, by decide +kernel, rfl, rfl⟩
theorem lf_12_97 : km_lf 12 (97, 12, 64, 2, true) := ⟨_, rfl, by decide, (km_in7 180 rfl rfl), rfl, by decide +kernel, rfl, rfl⟩
theorem lf_12_100 : km_lf 12 (100, 12, 65, 2, true) := ⟨_, rfl, by decide, (km_in7 181 rfl rfl), rfl, by decide +kernel, rfl, rfl⟩
theorem lf_12_103 : km_lf 12 (103, 12, 66, 2, true) := ⟨_, rfl, by decide, (km_in7 182 rfl rfl), rfl, by decide +kernel, rfl, rfl⟩
theorem lf_12_106 : km_lf 12 (106, 12, 68, 2, true) := ⟨_, rfl, by decide, (km_in7 184 rfl rfl), rfl, by decide +kernel, rfl, rfl⟩
theorem lf_12_109 : km_lf 12 (109, 12, 69, 2, true) := ⟨_, rfl, by decide, (km_in7 185 rfl rfl), rfl, by decide +kernel, rfl, rfl⟩
theorem lf_12_112 : km_lf 12 (112, 12, 70, 2, true) := ⟨_, rfl, by decide, (km_in7 186 rfl rfl), rfl, by decide +kernel, rfl, rfl⟩
theorem lf_12_115 : km_lf 12 (115, 12, 71, 2, true) := ⟨_, rfl, by decide, (km_in7 187 rfl rfl), rfl, by decide +kernel, rfl, rfl⟩
theorem lf_12_118 : km_lf 12 (118, 12, 72, 2, true) := ⟨_, rfl, by decide, (km_in7 188 rfl rfl), rfl, by decide +kernel, rfl, rfl⟩
theorem lf_12_121 : km_lf 12 (121, 12, 73, 2, true) := ⟨_, rfl, by decide, (km_in7 189 rfl rfl), rfl, by decide +kernel, rfl, rfl⟩
theorem lf_12_124 : km_lf 12 (124, 12, 74, 2, true) := ⟨_, rfl, by decide, (km_in7 190 rfl rfl), rfl, by decide +kernel, rfl, rfl⟩
theorem lf_12_127 : km_lf 12 (127, 12, 75, 2, true) := ⟨_, rfl, by decide, (km_in7 191 rfl rfl), rfl, by decide +kernel, rfl, rfl⟩
theorem lf_12_130 : km_lf 12 (130, 12, 76, 2, true) := ⟨_, rfl, by decide, (km_in7 192 rfl rfl), rfl, by decide +kernel, rfl, rfl⟩
theorem lf_12_133 : km_lf 12 (133, 12, 81, 0, false) := ⟨_, rfl, by decide, (km_in7 197 rfl rfl), rfl, by decide +kernel, rfl, rfl⟩
theorem lf_12_136 : km_lf 12 (136, 12, 84, 2, true) := ⟨_, rfl, by decide, (km_in7 200 rfl rfl), rfl, by decide +kernel, rfl, rfl⟩
theorem lf_12_139 : km_lf 12 (139, 12, 85, 2, true) := ⟨_, rfl, by decide, (km_in7 201 rfl rfl), rfl, by decide +kernel, rfl, rfl⟩
theorem lf_12_142 : km_lf 12 (142, 12, 86, 2, true) := ⟨_, rfl, by decide, (km_in7 202 rfl rfl), rfl, by decide +kernel, rfl, rfl⟩
theorem lf_12_145 : km_lf 12 (145, 12, 87, 0, false) := ⟨_, rfl, by decide, (km_in7 203 rfl rfl), rfl, by decide +kernel, rfl, rfl⟩
theorem lf_12_148 : km_lf 12 (148, 12, 88, 2, true) := ⟨_, rfl, by decide, (km_in7 204 rfl rfl), rfl, by decide +kernel, rfl, rfl⟩
theorem lf_12_151 : km_lf 12 (151, 12, 90, 2, true) := ⟨_, rfl, by decide, (km_in7 206 rfl rfl), rfl, by decide +kernel, rfl, rfl⟩
theorem lf_12_154 : km_lf 12 (154, 12, 92, 2, true) := ⟨_, rfl, by decide, (km_in7 208 rfl rfl), rfl, by decide +kernel, rfl, rfl⟩
theorem lf_12_157 : km_lf 12 (157, 12, 93, 2, true) := ⟨_, rfl, by decide, (km_in7 209 rfl rfl), rfl, by decide +kernel, rfl, rfl⟩
theorem lf_12_160 : km_lf 12 (160, 12, 94, 2, true) := ⟨_, rfl, by decide, (km_in7 210 rfl rfl), rfl, by decide +kernel, rfl, rfl⟩
theorem lf_12_163 : km_lf 12 (163, 12, 95, 2, true) := ⟨_, rfl, by decide, (km_in7 211 rfl rfl), rfl, by decide +kernel, rfl, rfl⟩
theorem lf_12_166 : km_lf 12 (166, 12, 96, 2, true) := ⟨_, rfl, by decide, (km_in7 212 rfl rfl), rfl, by decide +kernel, rfl, rfl⟩
theorem lf_12_169 : km_lf 12 (169, 12, 97, 2, true) := ⟨_, rfl, by decide, (km_in7 213 rfl rfl), rfl, by decide +kernel, rfl, rfl⟩
theorem lf_12_172 : km_lf 12 (172, 12, 98, 2, true) := ⟨_, rfl, by decide, (km_in7 214 rfl rfl), rfl, by decide +kernel, rfl, rfl⟩
theorem lf_12_175 : km_lf 12 (175, 12, 99, 2, true) := ⟨_, rfl, by decide, (km_in7 215 rfl rfl), rfl, by decide +kernel, rfl, rfl⟩
theorem lf_12_178 : km_lf 12 (178, 12, 100, 2, true) := ⟨_, rfl, by decide, (km_in7 216 rfl rfl), rfl, by decide +kernel, rfl, rfl⟩
theorem lf_12_181 : km_lf 12 (181, 12, 102, 2, true) := ⟨_, rfl, by decide, (km_in7 218 rfl rfl), rfl, by decide +kernel, rfl, rfl⟩
theorem lf_12_184 : km_lf 12 (184, 12, 103, 2, true) := ⟨_, rfl, by decide, (km_in7 219 rfl rfl), rfl, by decide +kernel, rfl, rfl⟩
theorem lf_12_187 : km_lf 12 (187, 12, 104, 2, true) := ⟨_, rfl, by decide, (km_in7 220 rfl rfl), rfl, by decide +kernel, rfl, rfl⟩
theorem lf_12_190 : km_lf 12 (190, 12, 105, 2, true) := ⟨_, rfl, by decide, (km_in7 221 rfl rfl), rfl, by decide +kernel, rfl, rfl⟩
theorem lf_12_193 : km_lf 12 (193, 12, 106, 2, true) := ⟨_, rfl, by decide, (km_in7 222 rfl rfl), rfl, by decide +kernel, rfl, rfl⟩
theorem lf_12_196 : km_lf 12 (196, 12, 107, 2, true) := ⟨_, rfl, by decide, (km_in7 223 rfl rfl), rfl, by decide +kernel, rfl, rfl⟩
theorem lf_12_199 : km_lf 12 (199, 12, 108, 2, true) := ⟨_, rfl, by decide, (km_in7 224 rfl rfl), rfl, by decide +kernel, rfl, rfl⟩
theorem lf_12_202 : km_lf 12 (202, 12, 2, 0, false) := ⟨_, rfl, by decide, (km_in7 118 rfl rfl), rfl, by decide +kernel, rfl, rfl⟩
theorem lf_12_205 : km_lf 12 (205, 12, 1, 0, false) := ⟨_, rfl, by decide, (km_in7 117 rfl rfl), rfl, by decide +kernel, rfl, rfl⟩
theorem lf_12_208 : km_lf 12 (208, 12, 3, 0, false) := ⟨_, rfl, by decide, (km_in7 119 rfl rfl), rfl, by decide +kernel, rfl, rfl⟩
theorem lf_12_219 : km_lf 12 (219, 12, 5, 0, false) := ⟨_, rfl, by decide, (km_in7 121 rfl rfl), rfl, by decide +kernel, rfl, rfl⟩
theorem lf_12_228 : km_lf 12 (228, 12, 14, 0, false) := ⟨_, rfl, by decide, (km_in7 130 rfl rfl), rfl, by decide +kernel, rfl, rfl⟩
theorem lf_12_236 : km_lf 12 (236, 12, 19, 0, false) := ⟨_, rfl, by decide, (km_in7 135 rfl rfl), rfl, by decide +kernel, rfl, rfl⟩
theorem lf_12_239 : km_lf 12 (239, 12, 20, 0, false) := ⟨_, rfl, by decide, (km_in7 136 rfl rfl), rfl, by decide +kernel, rfl, rfl⟩
theorem lf_12_242 : km_lf 12 (242, 12, 21, 0, false) := ⟨_, rfl, by decide, (km_in7 137 rfl rfl), rfl, by decide +kernel, rfl, rfl⟩
theorem lf_12_272 : km_lf 12 (272, 12, 11, 0, false) := ⟨_, rfl, by decide, (km_in7 127 rfl rfl), rfl, by decide +kernel, rfl, rfl⟩
theorem lf_12_275 : km_lf 12 (275, 12, 80, 3, false) := ⟨_, rfl, by decide, (km_in7 196 rfl rfl), rfl, by decide +kernel, rfl, rfl⟩
theorem lf_12_279 : km_lf 12 (279, 12, 23, 0, false) := ⟨_, rfl, by decide, (km_in7 139 rfl rfl), rfl, by decide +kernel, rfl, rfl⟩
theorem lf_12_282 : km_lf 12 (282, 12, 29, 0, false) := ⟨_, rfl, by decide, (km_in7 145 rfl rfl), rfl, by decide +kernel, rfl, rfl⟩
theorem lf_12_285 : km_lf 12 (285, 12, 25, 0, false) := ⟨_, rfl, by decide, (km_in7 141 rfl rfl), rfl, by decide +kernel, rfl, rfl⟩
theorem lf_12_288 : km_lf 12 (288, 12, 26, 0, false) := ⟨_, rfl, by decide, (km_in7 142 rfl rfl), rfl, by decide +kernel, rfl, rfl⟩
theorem lf_12_294 : km_lf 12 (294, 12, 27, 0, false) := ⟨_, rfl, by decide, (km_in7 143 rfl rfl), rfl, by decide +kernel, rfl, rfl⟩
theorem lf_12_303 : km_lf 12 (303, 12, 28, 0, false) := ⟨_, rfl, by decide, (km_in7 144 rfl rfl), rfl, by decide +kernel, rfl, rfl⟩
theorem lf_12_314 : km_lf 12 (314, 12, 36, 0, false) := ⟨_, rfl, by decide, (km_in7 152 rfl rfl), rfl, by decide +kernel, rfl, rfl⟩
theorem lf_12_320 : km_lf 12 (320, 12, 41, 0, false) := ⟨_, rfl, by decide, (km_in7 157 rfl rfl), rfl, by decide +kernel, rfl, rfl⟩
theorem lf_12_323 : km_lf 12 (323, 12, 39, 0, false) := ⟨_, rfl, by decide, (km_in7 155 rfl rfl), rfl, by decide +kernel, rfl, rfl⟩
theorem lf_12_336 : km_lf 12 (336, 12, 43, 0, false) := ⟨_, rfl, by decide, (km_in7 159 rfl rfl), rfl, by decide +kernel, rfl, rfl⟩
theorem lf_12_343 : km_lf 12 (343, 12, 45, 3, false) := ⟨_, rfl, by decide, (km_in7 161 rfl rfl), rfl, by decide +kernel, rfl, rfl⟩
theorem lf_12_346 : km_lf 12 (346, 12, 47, 3, false) := ⟨_, rfl, by decide, (km_in7 163 rfl rfl), rfl, by decide +kernel, rfl, rfl⟩
theorem lf_12_352 : km_lf 12 (352, 12, 44, 3, false) := ⟨_, rfl, by decide, (km_in7 160 rfl rfl), rfl, by decide +kernel, rfl, rfl⟩
theorem lf_12_364 : km_lf 12 (364, 12, 46, 3, false) := ⟨_, rfl, by decide, (km_in7 162 rfl rfl), rfl, by decide +kernel, rfl, rfl⟩
theorem lf_12_386 : km_lf 12 (386, 12, 48, 0, false) := ⟨_, rfl, by decide, (km_in7 164 rfl rfl), rfl, by decide +kernel, rfl, rfl⟩
theorem lf_12_395 : km_lf 12 (395, 12, 35, 0, false) := ⟨_, rfl, by decide, (km_in7 151 rfl rfl), rfl, by decide +kernel, rfl, rfl⟩
theorem lf_12_398 : km_lf 12 (398, 12, 51, 0, false) := ⟨_, rfl, by decide, (km_in7 167 rfl rfl), rfl, by decide +kernel, rfl, rfl⟩
theorem lf_12_401 : km_lf 12 (401, 12, 53, 0, false) := ⟨_, rfl, by decide, (km_in7 169 rfl rfl), rfl, by decide +kernel, rfl, rfl⟩
theorem lf_12_404 : km_lf 12 (404, 12, 56, 0, false) := ⟨_, rfl, by decide, (km_in7 172 rfl rfl), rfl, by decide +kernel, rfl, rfl⟩
theorem lf_12_407 : km_lf 12 (407, 12, 57, 0, false) := ⟨_, rfl, by decide, (km_in7 173 rfl rfl), rfl, by decide +kernel, rfl, rfl⟩
theorem lf_12_410 : km_lf 12 (410, 12, 55, 0, false) := ⟨_, rfl, by decide, (km_in7 171 rfl rfl), rfl, by decide +kernel, rfl, rfl⟩
theorem lf_12_425 : km_lf 12 (425, 12, 58, 0, false) := ⟨_, rfl, by decide, (km_in7 174 rfl rfl), rfl, by decide +kernel, rfl, rfl⟩
theorem lf_12_439 : km_lf 12 (439, 12, 54, 3, false) := ⟨_, rfl, by decide, (km_in7 170 rfl rfl), rfl, by decide +kernel, rfl, rfl⟩
theorem lf_12_450 : km_lf 12 (450, 12, 59, 1, false) := ⟨_, rfl, by decide, (km_in7 175 rfl rfl), rfl, by decide +kernel, rfl, rfl⟩
theorem lf_12_454 : km_lf 12 (454, 12, 61, 3, false) := ⟨_, rfl, by decide, (km_in7 177 rfl rfl), rfl, by decide +kernel, rfl, rfl⟩
theorem lf_12_457 : km_lf 12 (457, 12, 60, 1, false) := ⟨_, rfl, by decide, (km_in7 176 rfl rfl), rfl, by decide +kernel, rfl, rfl⟩
theorem lf_12_491 : km_lf 12 (491, 12, 63, 0, false) := ⟨_, rfl, by decide, (km_in7 179 rfl rfl), rfl, by decide +kernel, rfl, rfl⟩
theorem lf_12_500 : km_lf 12 (500, 12, 67, 0, false) := ⟨_, rfl, by decide, (km_in7 183 rfl rfl), rfl, by decide +kernel, rfl, rfl⟩
theorem lf_12_503 : km_lf 12 (503, 12, 79, 3, false) := ⟨_, rfl, by decide, (km_in7 195 rfl rfl), rfl, by decide +kernel, rfl, rfl⟩
theorem lf_12_510 : km_lf 12 (510, 12, 78, 0, false) := ⟨_, rfl, by decide, (km_in7 194 rfl rfl), rfl, by decide +kernel, rfl, rfl⟩
theorem lf_12_513 : km_lf 12 (513, 12, 77, 0, false) := ⟨_, rfl, by decide, (km_in7 193 rfl rfl), rfl, by decide +kernel, rfl, rfl⟩
theorem lf_12_542 : km_lf 12 (542, 12, 82, 0, false) := ⟨_, rfl, by decide, (km_in7 198 rfl rfl), rfl, by decide +kernel, rfl, rfl⟩
theorem lf_12_545 : km_lf 12 (545, 12, 91, 0, false) := ⟨_, rfl, by decide, (km_in7 207 rfl rfl), rfl, by decide +kernel, rfl, rfl⟩
theorem lf_12_551 : km_lf 12 (551, 12, 83, 0, false) := ⟨_, rfl, by decide, (km_in7 199 rfl rfl), rfl, by decide +kernel, rfl, rfl⟩
theorem lf_12_567 : km_lf 12 (567, 12, 89, 0, false) := ⟨_, rfl, by decide, (km_in7 205 rfl rfl), rfl, by decide +kernel, rfl, rfl⟩
theorem lf_12_582 : km_lf 12 (582, 12, 101, 0, false) := ⟨_, rfl, by decide, (km_in7 217 rfl rfl), rfl, by decide +kernel, rfl, rfl⟩
theorem lf_12 : ∀ e ∈ km_flL 12, km_lf 12 e := (List.forall_mem_cons.mpr ⟨lf_12_7, (List.forall_mem_cons.mpr ⟨lf_12_13, (List.forall_mem_cons.mpr ⟨lf_12_16, (List.forall_mem_cons.mpr ⟨lf_12_19, (List.forall_mem_cons.mpr ⟨lf_12_22, (List.forall_mem_cons.mpr ⟨lf_12_25, (List.forall_mem_cons.mpr ⟨lf_12_28, (List.forall_mem_cons.mpr ⟨lf_12_32, (List.forall_mem_cons.mpr ⟨lf_12_35, (List.forall_mem_cons.mpr ⟨lf_12_38, (List.forall_mem_cons.mpr ⟨lf_12_41, (List.forall_mem_cons.mpr ⟨lf_12_44, (List.forall_mem_cons.mpr ⟨lf_12_47, (List.forall_mem_cons.mpr ⟨lf_12_50, (List.forall_mem_cons.mpr ⟨lf_12_53, (List.forall_mem_cons.mpr ⟨lf_12_57, (List.forall_mem_cons.mpr ⟨lf_12_60, (List.forall_mem_cons.mpr ⟨lf_12_63, (List.forall_mem_cons.mpr ⟨lf_12_66, (List.forall_mem_cons.mpr ⟨lf_12_69, (List.forall_mem_cons.mpr ⟨lf_12_72, (List.forall_mem_cons.mpr ⟨lf_12_75, (List.forall_mem_cons.mpr ⟨lf_12_78, (List.forall_mem_cons.mpr ⟨lf_12_81, (List.forall_mem_cons.mpr ⟨lf_12_84, (List.forall_mem_cons.mpr ⟨lf_12_87, (List.forall_mem_cons.mpr ⟨lf_12_90, (List.forall_mem_cons.mpr ⟨lf_12_94, (List.forall_mem_cons.mpr ⟨lf_12_97, (List.forall_mem_cons.mpr ⟨lf_12_100, (List.forall_mem_cons.mpr ⟨lf_12_103, (List.forall_mem_cons.mpr ⟨lf_12_106, (List.forall_mem_cons.mpr ⟨lf_12_109, (List.forall_mem_cons.mpr ⟨lf_12_112, (List.forall_mem_cons.mpr ⟨lf_12_115, (List.forall_mem_cons.mpr ⟨lf_12_118, (List.forall_mem_cons.mpr ⟨lf_12_121, (List.forall_mem_cons.mpr ⟨lf_12_124, (List.forall_mem_cons.mpr ⟨lf_12_127, (List.forall_mem_cons.mpr ⟨lf_12_130, (List.forall_mem_cons.mpr ⟨lf_12_133, (List.forall_mem_cons.mpr ⟨lf_12_136, (List.forall_mem_cons.mpr ⟨lf_12_139, (List.forall_mem_cons.mpr ⟨lf_12_142, (List.forall_mem_cons.mpr ⟨lf_12_145, (List.forall_mem_cons.mpr ⟨lf_12_148, (List.forall_mem_cons.mpr ⟨lf_12_151, (List.forall_mem_cons.mpr ⟨lf_12_154, (List.forall_mem_cons.mpr ⟨lf_12_157, (List.forall_mem_cons.mpr ⟨lf_12_160, (List.forall_mem_cons.mpr ⟨lf_12_163, (List.forall_mem_cons.mpr ⟨lf_12_166, (List.forall_mem_cons.mpr ⟨lf_12_169, (List.forall_mem_cons.mpr ⟨lf_12_172, (List.forall_mem_cons.mpr ⟨lf_12_175, (List.forall_mem_cons.mpr ⟨lf_12_178, (List.forall_mem_cons.mpr ⟨lf_12_181, (List.forall_mem_cons.mpr ⟨lf_12_184, (List.forall_mem_cons.mpr ⟨lf_12_187, (List.forall_mem_cons.mpr ⟨lf_12_190, (List.forall_mem_cons.mpr ⟨lf_12_193, (List.forall_mem_cons.mpr ⟨lf_12_196, (List.forall_mem_cons.mpr ⟨lf_12_199, (List.forall_mem_cons.mpr ⟨lf_12_202, (List.forall_mem_cons.mpr ⟨lf_12_205, (List.forall_mem_cons.mpr ⟨lf_12_208, (List.forall_mem_cons.mpr ⟨lf_12_219, (List.forall_mem_cons.mpr ⟨lf_12_228, (List.forall_mem_cons.mpr ⟨lf_12_236, (List.forall_mem_cons.mpr ⟨lf_12_239, (List.forall_mem_cons.mpr ⟨lf_12_242, (List.forall_mem_cons.mpr ⟨lf_12_272, (List.forall_mem_cons.mpr ⟨lf_12_275, (List.forall_mem_cons.mpr ⟨lf_12_279, (List.forall_mem_cons.mpr ⟨lf_12_282, (List.forall_mem_cons.mpr ⟨lf_12_285, (List.forall_mem_cons.mpr ⟨lf_12_288, (List.forall_mem_cons.mpr ⟨lf_12_294, (List.forall_mem_cons.mpr ⟨lf_12_303, (List.forall_mem_cons.mpr ⟨lf_12_314, (List.forall_mem_cons.mpr ⟨lf_12_320, (List.forall_mem_cons.mpr ⟨lf_12_323, (List.forall_mem_cons.mpr ⟨lf_12_336, (List.forall_mem_cons.mpr ⟨lf_12_343, (List.forall_mem_cons.mpr ⟨lf_12_346, (List.forall_mem_cons.mpr ⟨lf_12_352, (List.forall_mem_cons.mpr ⟨lf_12_364, (List.forall_mem_cons.mpr ⟨lf_12_386, (List.forall_mem_cons.mpr ⟨lf_12_395, (List.forall_mem_cons.mpr ⟨lf_12_398, (List.forall_mem_cons.mpr ⟨lf_12_401, (List.forall_mem_cons.mpr ⟨lf_12_404, (List.forall_mem_cons.mpr ⟨lf_12_407, (List.forall_mem_cons.mpr ⟨lf_12_410, (List.forall_mem_cons.mpr ⟨lf_12_425, (List.forall_mem_cons.mpr ⟨lf_12_439, (List.forall_mem_cons.mpr ⟨lf_12_450, (List.forall_mem_cons.mpr ⟨lf_12_454, (List.forall_mem_cons.mpr ⟨lf_12_457, (List.forall_mem_cons.mpr ⟨lf_12_491, (List.forall_mem_cons.mpr ⟨lf_12_500, (List.forall_mem_cons.mpr ⟨lf_12_503, (List.forall_mem_cons.mpr ⟨lf_12_510, (List.forall_mem_cons.mpr ⟨lf_12_513, (List.forall_mem_cons.mpr ⟨lf_12_542, (List.forall_mem_cons.mpr ⟨lf_12_545, (List.forall_mem_cons.mpr ⟨lf_12_551, (List.forall_mem_cons.mpr ⟨lf_12_567, (List.forall_mem_cons.mpr ⟨lf_12_582, (fun _ h => absurd h List.not_mem_nil)⟩)⟩)⟩)⟩)⟩)⟩)⟩)⟩)⟩)⟩)⟩)⟩)⟩)⟩)⟩)⟩)⟩)⟩)⟩)⟩)⟩)⟩)⟩)⟩)⟩)⟩)⟩)⟩)⟩)⟩)⟩)⟩)⟩)⟩)⟩)⟩)⟩)⟩)⟩)⟩)⟩)⟩)⟩)⟩)⟩)⟩)⟩)⟩)⟩)⟩)⟩)⟩)⟩)⟩)⟩)⟩)⟩)⟩)⟩)⟩)⟩)⟩)⟩)⟩)⟩)⟩)⟩)⟩)⟩)⟩)⟩)⟩)⟩)⟩)⟩)⟩)⟩)⟩)⟩)⟩)⟩)⟩)⟩)⟩)⟩)⟩)⟩)⟩)⟩)⟩)⟩)⟩)⟩)⟩)⟩)⟩)⟩)⟩)⟩)⟩)⟩)⟩)⟩)⟩)⟩)⟩)⟩)⟩)⟩)
def km_lc (o : Nat) (e : Nat × Int) : Prop := Cond.constant (km_cn o) e.1 (Int32.ofInt e.2) ∈ km_gw ∧ -2147483648 ≤ e.2 ∧ e.2 ≤ 2147483647
theorem lc_2_63 : km_lc 2 (63, 1000000) := ⟨(km_in5 116 rfl rfl), by decide, by decide⟩
theorem lc_2 : ∀ e ∈ km_csL 2, km_lc 2 e := (List.forall_mem_cons.mpr ⟨lc_2_63, (fun _ h => absurd h List.not_mem_nil)⟩)
theorem lc_3_70 : km_lc 3 (70, 1000000) := ⟨(km_in6 86 rfl rfl), by decide, by decide⟩
theorem lc_3_82 : km_lc 3 (82, 500000) := ⟨(km_in6 108 rfl rfl), by decide, by decide⟩
theorem lc_3 : ∀ e ∈ km_csL 3, km_lc 3 e := (List.forall_mem_cons.mpr ⟨lc_3_70, (List.forall_mem_cons.mpr ⟨lc_3_82, (fun _ h => absurd h List.not_mem_nil)⟩)⟩)
theorem lc_4_96 : km_lc 4 (96, 100000) := ⟨(km_in5 157 rfl rfl), by decide, by decide⟩
theorem lc_4 : ∀ e ∈ km_csL 4, km_lc 4 e := (List.forall_mem_cons.mpr ⟨lc_4_96, (fun _ h => absurd h List.not_mem_nil)⟩)
theorem lc_7_126 : km_lc 7 (126, 999999) := ⟨(km_in4 72 rfl rfl), by decide, by decide⟩
theorem lc_7 : ∀ e ∈ km_csL 7, km_lc 7 e := (List.forall_mem_cons.mpr ⟨lc_7_126, (fun _ h => absurd h List.not_mem_nil)⟩)
theorem lc_10_60 : km_lc 10 (60, 1000000) := ⟨(km_in3 213 rfl rfl), by decide, by decide⟩
theorem lc_10 : ∀ e ∈ km_csL 10, km_lc 10 e := (List.forall_mem_cons.mpr ⟨lc_10_60, (fun _ h => absurd h List.not_mem_nil)⟩)
theorem lc_11_332 : km_lc 11 (332, 99999) := ⟨(km_in6 160 rfl rfl), by decide, by decide⟩
theorem lc_11_333 : km_lc 11 (333, 999999) := ⟨(km_in6 161 rfl rfl), by decide, by decide⟩
theorem lc_11 : ∀ e ∈ km_csL 11, km_lc 11 e := (List.forall_mem_cons.mpr ⟨lc_11_332, (List.forall_mem_cons.mpr ⟨lc_11_333, (fun _ h => absurd h List.not_mem_nil)⟩)⟩)
theorem lc_12_231 : km_lc 12 (231, 1000000) := ⟨(km_in9 23 rfl rfl), by decide, by decide⟩
theorem lc_12_309 : km_lc 12 (309, 999999) := ⟨(km_in9 72 rfl rfl), by decide, by decide⟩
theorem lc_12_573 : km_lc 12 (573, 99999) := ⟨(km_in10 125 rfl rfl), by decide, by decide⟩
theorem lc_12 : ∀ e ∈ km_csL 12, km_lc 12 e := (List.forall_mem_cons.mpr ⟨lc_12_231, (List.forall_mem_cons.mpr ⟨lc_12_309, (List.forall_mem_cons.mpr ⟨lc_12_573, (fun _ h => absurd h List.not_mem_nil)⟩)⟩)⟩)
theorem lc_14_264 : km_lc 14 (264, 65536) := ⟨(km_in6 85 rfl rfl), by decide, by decide⟩
theorem lc_14_265 : km_lc 14 (265, 1431655765) := ⟨(km_in4 213 rfl rfl), by decide, by decide⟩
theorem lc_14_266 : km_lc 14 (266, 858993459) := ⟨(km_in4 214 rfl rfl), by decide, by decide⟩
theorem lc_14_267 : km_lc 14 (267, 252645135) := ⟨(km_in4 215 rfl rfl), by decide, by decide⟩
theorem lc_14 : ∀ e ∈ km_csL 14, km_lc 14 e := (List.forall_mem_cons.mpr ⟨lc_14_264, (List.forall_mem_cons.mpr ⟨lc_14_265, (List.forall_mem_cons.mpr ⟨lc_14_266, (List.forall_mem_cons.mpr ⟨lc_14_267, (fun _ h => absurd h List.not_mem_nil)⟩)⟩)⟩)⟩)
def km_ld (o : Nat) (e : Nat × Int) : Prop := Cond.constantLong (km_cn o) e.1 (Int64.ofInt e.2) ∈ km_gw ∧ -9223372036854775808 ≤ e.2 ∧ e.2 ≤ 9223372036854775807
theorem ld_4_110 : km_ld 4 (110, (-9223372036854775808)) := ⟨(km_in5 221 rfl rfl), by decide, by decide⟩
theorem ld_4_160 : km_ld 4 (160, 1000000000000) := ⟨(km_in5 195 rfl rfl), by decide, by decide⟩
theorem ld_4_162 : km_ld 4 (162, (-1000000000000)) := ⟨(km_in5 196 rfl rfl), by decide, by decide⟩
theorem ld_4 : ∀ e ∈ km_clL 4, km_ld 4 e := (List.forall_mem_cons.mpr ⟨ld_4_110, (List.forall_mem_cons.mpr ⟨ld_4_160, (List.forall_mem_cons.mpr ⟨ld_4_162, (fun _ h => absurd h List.not_mem_nil)⟩)⟩)⟩)
theorem ld_11_245 : km_ld 11 (245, (-9223372036854775808)) := ⟨(km_in5 129 rfl rfl), by decide, by decide⟩
theorem ld_11_433 : km_ld 11 (433, 1000000) := ⟨(km_in6 174 rfl rfl), by decide, by decide⟩
theorem ld_11 : ∀ e ∈ km_clL 11, km_ld 11 e := (List.forall_mem_cons.mpr ⟨ld_11_245, (List.forall_mem_cons.mpr ⟨ld_11_433, (fun _ h => absurd h List.not_mem_nil)⟩)⟩)
theorem ld_12_445 : km_ld 12 (445, 1000000000000) := ⟨(km_in10 14 rfl rfl), by decide, by decide⟩
theorem ld_12_525 : km_ld 12 (525, (-9223372036854775808)) := ⟨(km_in9 210 rfl rfl), by decide, by decide⟩
theorem ld_12_574 : km_ld 12 (574, 1000000) := ⟨(km_in10 138 rfl rfl), by decide, by decide⟩
theorem ld_12 : ∀ e ∈ km_clL 12, km_ld 12 e := (List.forall_mem_cons.mpr ⟨ld_12_445, (List.forall_mem_cons.mpr ⟨ld_12_525, (List.forall_mem_cons.mpr ⟨ld_12_574, (fun _ h => absurd h List.not_mem_nil)⟩)⟩)⟩)
def km_ln_ok (o : Nat) (e : Nat × Nat × Nat) : Prop := ∃ q : vw_C, vwCl[e.2.1]? = some q ∧ q.2.2 = e.2.2 ∧ Cond.classLink (km_cn o) e.1 q.1 ∈ km_gw ∧ Cond.instantiable q.1 q.2.2 ∈ km_gw ∧ Cond.initialized q.1 ∈ km_gw ∧ (km_ftL.getD e.2.1 []).length = e.2.2
theorem lnw_11_16 : km_ln_ok 11 (16, 10, 7) := ⟨_, rfl, rfl, (km_in1 36 rfl rfl), (km_in1 37 rfl rfl), km_ini10, by decide⟩
theorem lnw_11_19 : km_ln_ok 11 (19, 1, 13) := ⟨_, rfl, rfl, (km_in1 69 rfl rfl), (km_in1 70 rfl rfl), km_ini1, by decide⟩
theorem lnw_11_22 : km_ln_ok 11 (22, 6, 7) := ⟨_, rfl, rfl, (km_in1 134 rfl rfl), (km_in1 135 rfl rfl), km_ini6, by decide⟩
theorem lnw_11_31 : km_ln_ok 11 (31, 7, 15) := ⟨_, rfl, rfl, (km_in1 170 rfl rfl), (km_in1 171 rfl rfl), km_ini7, by decide⟩
theorem lnw_11_40 : km_ln_ok 11 (40, 8, 10) := ⟨_, rfl, rfl, (km_in1 224 rfl rfl), (km_in1 225 rfl rfl), km_ini8, by decide⟩
theorem lnw_11_54 : km_ln_ok 11 (54, 0, 10) := ⟨_, rfl, rfl, (km_in2 39 rfl rfl), (km_in2 40 rfl rfl), km_ini0, by decide⟩
theorem lnw_11_65 : km_ln_ok 11 (65, 2, 12) := ⟨_, rfl, rfl, (km_in2 77 rfl rfl), (km_in2 78 rfl rfl), km_ini2, by decide⟩
theorem lnw_11_72 : km_ln_ok 11 (72, 4, 16) := ⟨_, rfl, rfl, (km_in2 124 rfl rfl), (km_in2 125 rfl rfl), km_ini4, by decide⟩
theorem lnw_11_81 : km_ln_ok 11 (81, 3, 12) := ⟨_, rfl, rfl, (km_in2 182 rfl rfl), (km_in2 183 rfl rfl), km_ini3, by decide⟩
theorem lnw_11_88 : km_ln_ok 11 (88, 5, 7) := ⟨_, rfl, rfl, (km_in2 230 rfl rfl), (km_in2 231 rfl rfl), km_ini5, by decide⟩
theorem lnw_11_95 : km_ln_ok 11 (95, 9, 10) := ⟨_, rfl, rfl, (km_in3 27 rfl rfl), (km_in3 28 rfl rfl), km_ini9, by decide⟩
theorem lnw_11 : ∀ e ∈ km_nwL 11, km_ln_ok 11 e := (List.forall_mem_cons.mpr ⟨lnw_11_16, (List.forall_mem_cons.mpr ⟨lnw_11_19, (List.forall_mem_cons.mpr ⟨lnw_11_22, (List.forall_mem_cons.mpr ⟨lnw_11_31, (List.forall_mem_cons.mpr ⟨lnw_11_40, (List.forall_mem_cons.mpr ⟨lnw_11_54, (List.forall_mem_cons.mpr ⟨lnw_11_65, (List.forall_mem_cons.mpr ⟨lnw_11_72, (List.forall_mem_cons.mpr ⟨lnw_11_81, (List.forall_mem_cons.mpr ⟨lnw_11_88, (List.forall_mem_cons.mpr ⟨lnw_11_95, (fun _ h => absurd h List.not_mem_nil)⟩)⟩)⟩)⟩)⟩)⟩)⟩)⟩)⟩)⟩)⟩)
theorem lnw_13_8 : km_ln_ok 13 (8, 11, 14) := ⟨_, rfl, rfl, (km_in1 28 rfl rfl), (km_in1 29 rfl rfl), km_ini11, by decide⟩
theorem lnw_13_18 : km_ln_ok 13 (18, 12, 109) := ⟨_, rfl, rfl, (km_in7 110 rfl rfl), (km_in7 111 rfl rfl), km_ini12, by decide⟩
theorem lnw_13 : ∀ e ∈ km_nwL 13, km_ln_ok 13 e := (List.forall_mem_cons.mpr ⟨lnw_13_8, (List.forall_mem_cons.mpr ⟨lnw_13_18, (fun _ h => absurd h List.not_mem_nil)⟩)⟩)
theorem km_objI : Cond.instanceMethod objectInit ∈ km_gw := (km_in1 34 rfl rfl)
theorem km_objC : Cond.code objectInit ⟨#[0xb1]⟩ 1 none ∈ km_gw := (km_in1 35 rfl rfl)
def km_lo (o : Nat) (i : Nat) : Prop := Cond.methodLink (km_cn o) i objectInit ∈ km_gw
theorem lo_0_3 : km_lo 0 3 := (km_in2 44 rfl rfl)
theorem lo_0 : ∀ e ∈ km_oi 0, km_lo 0 e := (List.forall_mem_cons.mpr ⟨lo_0_3, (fun _ h => absurd h List.not_mem_nil)⟩)
theorem lo_1_3 : km_lo 1 3 := (km_in1 74 rfl rfl)
theorem lo_1 : ∀ e ∈ km_oi 1, km_lo 1 e := (List.forall_mem_cons.mpr ⟨lo_1_3, (fun _ h => absurd h List.not_mem_nil)⟩)
theorem lo_2_3 : km_lo 2 3 := (km_in2 82 rfl rfl)
theorem lo_2 : ∀ e ∈ km_oi 2, km_lo 2 e := (List.forall_mem_cons.mpr ⟨lo_2_3, (fun _ h => absurd h List.not_mem_nil)⟩)
theorem lo_3_5 : km_lo 3 5 := (km_in2 187 rfl rfl)
theorem lo_3 : ∀ e ∈ km_oi 3, km_lo 3 e := (List.forall_mem_cons.mpr ⟨lo_3_5, (fun _ h => absurd h List.not_mem_nil)⟩)
theorem lo_4_3 : km_lo 4 3 := (km_in2 129 rfl rfl)
theorem lo_4 : ∀ e ∈ km_oi 4, km_lo 4 e := (List.forall_mem_cons.mpr ⟨lo_4_3, (fun _ h => absurd h List.not_mem_nil)⟩)
theorem lo_5_3 : km_lo 5 3 := (km_in2 235 rfl rfl)
theorem lo_5 : ∀ e ∈ km_oi 5, km_lo 5 e := (List.forall_mem_cons.mpr ⟨lo_5_3, (fun _ h => absurd h List.not_mem_nil)⟩)
theorem lo_6_3 : km_lo 6 3 := (km_in1 139 rfl rfl)
theorem lo_6 : ∀ e ∈ km_oi 6, km_lo 6 e := (List.forall_mem_cons.mpr ⟨lo_6_3, (fun _ h => absurd h List.not_mem_nil)⟩)
theorem lo_7_7 : km_lo 7 7 := (km_in1 175 rfl rfl)
theorem lo_7 : ∀ e ∈ km_oi 7, km_lo 7 e := (List.forall_mem_cons.mpr ⟨lo_7_7, (fun _ h => absurd h List.not_mem_nil)⟩)
theorem lo_8_5 : km_lo 8 5 := (km_in1 229 rfl rfl)
theorem lo_8 : ∀ e ∈ km_oi 8, km_lo 8 e := (List.forall_mem_cons.mpr ⟨lo_8_5, (fun _ h => absurd h List.not_mem_nil)⟩)
theorem lo_9_3 : km_lo 9 3 := (km_in3 32 rfl rfl)
theorem lo_9 : ∀ e ∈ km_oi 9, km_lo 9 e := (List.forall_mem_cons.mpr ⟨lo_9_3, (fun _ h => absurd h List.not_mem_nil)⟩)
theorem lo_10_3 : km_lo 10 3 := (km_in1 41 rfl rfl)
theorem lo_10 : ∀ e ∈ km_oi 10, km_lo 10 e := (List.forall_mem_cons.mpr ⟨lo_10_3, (fun _ h => absurd h List.not_mem_nil)⟩)
theorem lo_11_3 : km_lo 11 3 := (km_in1 33 rfl rfl)
theorem lo_11 : ∀ e ∈ km_oi 11, km_lo 11 e := (List.forall_mem_cons.mpr ⟨lo_11_3, (fun _ h => absurd h List.not_mem_nil)⟩)
theorem lo_12_1 : km_lo 12 1 := (km_in7 115 rfl rfl)
theorem lo_12 : ∀ e ∈ km_oi 12, km_lo 12 e := (List.forall_mem_cons.mpr ⟨lo_12_1, (fun _ h => absurd h List.not_mem_nil)⟩)
theorem km_opS1 : Cond.static Lib.Math.max.name ∈ km_gw := (km_in3 235 rfl rfl)
theorem km_opC1 : Cond.code Lib.Math.max.name Lib.Math.max.code 2 (some .int) ∈ km_gw := (km_in3 236 rfl rfl)
theorem km_opS2 : Cond.static Lib.Math.min.name ∈ km_gw := (km_in3 140 rfl rfl)
theorem km_opC2 : Cond.code Lib.Math.min.name Lib.Math.min.code 2 (some .int) ∈ km_gw := (km_in3 141 rfl rfl)
theorem km_opS3 : Cond.static Lib.MathLoose.max_long.x ∈ km_gw := (km_in5 198 rfl rfl)
theorem km_opC3 : Cond.code Lib.MathLoose.max_long.x Lib.MathLoose.max_long.code 4 (some .long) ∈ km_gw := (km_in5 199 rfl rfl)
theorem km_opS4 : Cond.static Lib.MathLoose.min_long.x ∈ km_gw := (km_in5 201 rfl rfl)
theorem km_opC4 : Cond.code Lib.MathLoose.min_long.x Lib.MathLoose.min_long.code 4 (some .long) ∈ km_gw := (km_in5 202 rfl rfl)
theorem km_opS5 : Cond.static Lib.MathLoose.abs_long.x ∈ km_gw := (km_in5 212 rfl rfl)
theorem km_opC5 : Cond.code Lib.MathLoose.abs_long.x Lib.MathLoose.abs_long.code 2 (some .long) ∈ km_gw := (km_in5 213 rfl rfl)
theorem km_opS6 : Cond.static arraycopyName ∈ km_gw := (km_in4 229 rfl rfl)
theorem km_opN : Cond.native arraycopyName ∈ km_gw := (km_in4 230 rfl rfl)
def km_opName (o : Nat) : MethodName := if o = 1 then Lib.Math.max.name else if o = 2 then Lib.Math.min.name else if o = 3 then Lib.MathLoose.max_long.x else if o = 4 then Lib.MathLoose.min_long.x else if o = 5 then Lib.MathLoose.abs_long.x else arraycopyName
def km_lp (o : Nat) (e : Nat × Nat) : Prop := Cond.methodLink (km_cn o) e.1 (km_opName e.2) ∈ km_gw
theorem lp_0_74 : km_lp 0 (74, 6) := (km_in4 228 rfl rfl)
theorem lp_0_103 : km_lp 0 (103, 2) := (km_in5 7 rfl rfl)
theorem lp_0 : ∀ e ∈ km_opL 0, km_lp 0 e := (List.forall_mem_cons.mpr ⟨lp_0_74, (List.forall_mem_cons.mpr ⟨lp_0_103, (fun _ h => absurd h List.not_mem_nil)⟩)⟩)
theorem lp_1_55 : km_lp 1 (55, 2) := (km_in4 196 rfl rfl)
theorem lp_1 : ∀ e ∈ km_opL 1, km_lp 1 e := (List.forall_mem_cons.mpr ⟨lp_1_55, (fun _ h => absurd h List.not_mem_nil)⟩)
theorem lp_3_107 : km_lp 3 (107, 6) := (km_in6 100 rfl rfl)
theorem lp_3 : ∀ e ∈ km_opL 3, km_lp 3 e := (List.forall_mem_cons.mpr ⟨lp_3_107, (fun _ h => absurd h List.not_mem_nil)⟩)
theorem lp_4_164 : km_lp 4 (164, 5) := (km_in5 211 rfl rfl)
theorem lp_4_185 : km_lp 4 (185, 3) := (km_in5 197 rfl rfl)
theorem lp_4_188 : km_lp 4 (188, 4) := (km_in5 200 rfl rfl)
theorem lp_4 : ∀ e ∈ km_opL 4, km_lp 4 e := (List.forall_mem_cons.mpr ⟨lp_4_164, (List.forall_mem_cons.mpr ⟨lp_4_185, (List.forall_mem_cons.mpr ⟨lp_4_188, (fun _ h => absurd h List.not_mem_nil)⟩)⟩)⟩)
theorem lp_7_181 : km_lp 7 (181, 1) := (km_in4 128 rfl rfl)
theorem lp_7 : ∀ e ∈ km_opL 7, km_lp 7 e := (List.forall_mem_cons.mpr ⟨lp_7_181, (fun _ h => absurd h List.not_mem_nil)⟩)
theorem lp_9_46 : km_lp 9 (46, 1) := (km_in6 186 rfl rfl)
theorem lp_9_72 : km_lp 9 (72, 2) := (km_in6 215 rfl rfl)
theorem lp_9 : ∀ e ∈ km_opL 9, km_lp 9 e := (List.forall_mem_cons.mpr ⟨lp_9_46, (List.forall_mem_cons.mpr ⟨lp_9_72, (fun _ h => absurd h List.not_mem_nil)⟩)⟩)
theorem lp_10_19 : km_lp 10 (19, 2) := (km_in3 139 rfl rfl)
theorem lp_10 : ∀ e ∈ km_opL 10, km_lp 10 e := (List.forall_mem_cons.mpr ⟨lp_10_19, (fun _ h => absurd h List.not_mem_nil)⟩)
theorem lp_11_435 : km_lp 11 (435, 4) := (km_in6 175 rfl rfl)
theorem lp_11_441 : km_lp 11 (441, 3) := (km_in6 176 rfl rfl)
theorem lp_11 : ∀ e ∈ km_opL 11, km_lp 11 e := (List.forall_mem_cons.mpr ⟨lp_11_435, (List.forall_mem_cons.mpr ⟨lp_11_441, (fun _ h => absurd h List.not_mem_nil)⟩)⟩)
def km_lm2 (o : Nat) (i : Nat) : Prop := Cond.classLink (km_cn o) i "[[I" ∈ km_gw
theorem lm2_1_9 : km_lm2 1 9 := (km_in1 75 rfl rfl)
theorem lm2_1 : ∀ e ∈ km_mi 1, km_lm2 1 e := (List.forall_mem_cons.mpr ⟨lm2_1_9, (fun _ h => absurd h List.not_mem_nil)⟩)
theorem lm2_3_36 : km_lm2 3 36 := (km_in2 188 rfl rfl)
theorem lm2_3 : ∀ e ∈ km_mi 3, km_lm2 3 e := (List.forall_mem_cons.mpr ⟨lm2_3_36, (fun _ h => absurd h List.not_mem_nil)⟩)
theorem lm2_4_22 : km_lm2 4 22 := (km_in2 130 rfl rfl)
theorem lm2_4 : ∀ e ∈ km_mi 4, km_lm2 4 e := (List.forall_mem_cons.mpr ⟨lm2_4_22, (fun _ h => absurd h List.not_mem_nil)⟩)
theorem lm2_5_22 : km_lm2 5 22 := (km_in2 236 rfl rfl)
theorem lm2_5 : ∀ e ∈ km_mi 5, km_lm2 5 e := (List.forall_mem_cons.mpr ⟨lm2_5_22, (fun _ h => absurd h List.not_mem_nil)⟩)
theorem lm2_6_18 : km_lm2 6 18 := (km_in1 140 rfl rfl)
theorem lm2_6 : ∀ e ∈ km_mi 6, km_lm2 6 e := (List.forall_mem_cons.mpr ⟨lm2_6_18, (fun _ h => absurd h List.not_mem_nil)⟩)
theorem km_acI : Cond.arrayClass .int ∈ km_gw := (km_in1 68 rfl rfl)
theorem km_acJ : Cond.arrayClass .long ∈ km_gw := (km_in2 181 rfl rfl)
theorem km_acZ : Cond.arrayClass .boolean ∈ km_gw := (km_in8 204 rfl rfl)
