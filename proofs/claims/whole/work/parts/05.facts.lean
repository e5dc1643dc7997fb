/-! the words that a method may use: the good ones of the tables; each that a row needs by its place -/
def WG : List Cond := lw_tbl.filter goodWord
theorem WG_of {w : Cond} (h : w ∈ lw_tbl) (hg : goodWord w = true) : w ∈ WG := List.mem_filter.mpr ⟨h, hg⟩
def FL (own : String) (index ci : Nat) (C : String) (T : u_T) (N k : Nat) : Prop := (∀ w ∈ u_ws C T N, w ∈ WG) ∧ vwCl[ci]? = some (C, T, N) ∧ k < N ∧ Cond.fieldLink own index (T k).1 (T k).2.1 (T k).2.2.1 ∈ WG
def FT (C : String) (T : u_T) (N : Nat) (ty0 : Nat → FieldType) : Prop := (∀ k, k < N → parseFieldDescriptor (T k).2.2.1 = some (ty0 k)) ∧ (∀ a, a < N → ∀ b, b < N → a ≠ b → (T a).2.1 ≠ (T b).2.1)
def MV (y : MethodName) (cc : ByteArray) (nL : Nat) (ret : Option FieldType) (n : Nat) : Prop := Cond.code y cc nL ret ∈ WG ∧ Cond.instanceMethod y ∈ WG ∧ Cond.selects y.cls y y ∈ WG ∧ Cond.initialized y.cls ∈ WG ∧ (y.cls ≠ "java/lang/invoke/MethodHandle" ∧ y.cls ≠ "java/lang/invoke/VarHandle" ∧ (parseMethodDescriptor y.desc).map (fun d => d.parameters.length) = some n)
def MS (y : MethodName) (cc : ByteArray) (nL : Nat) (ret : Option FieldType) (n : Nat) : Prop := Cond.code y cc nL ret ∈ WG ∧ Cond.static y ∈ WG ∧ Cond.initialized y.cls ∈ WG ∧ (y.cls ≠ "java/lang/invoke/MethodHandle" ∧ y.cls ≠ "java/lang/invoke/VarHandle" ∧ (parseMethodDescriptor y.desc).map (fun d => d.parameters.length) = some n)
theorem tb_1 : ∀ w ∈ tables_1_1, w ∈ lw_tbl := fun _ h => List.mem_append_right _ (List.mem_append_left _ h)
theorem tb_2 : ∀ w ∈ tables_1_2, w ∈ lw_tbl := fun _ h => List.mem_append_right _ (List.mem_append_right _ (List.mem_append_left _ h))
theorem tb_3 : ∀ w ∈ tables_1_3, w ∈ lw_tbl := fun _ h => List.mem_append_right _ (List.mem_append_right _ (List.mem_append_right _ (List.mem_append_left _ h)))
theorem tb_4 : ∀ w ∈ tables_1_4, w ∈ lw_tbl := fun _ h => List.mem_append_right _ (List.mem_append_right _ (List.mem_append_right _ (List.mem_append_right _ (List.mem_append_left _ h))))
theorem tb_5 : ∀ w ∈ tables_1_5, w ∈ lw_tbl := fun _ h => List.mem_append_right _ (List.mem_append_right _ (List.mem_append_right _ (List.mem_append_right _ (List.mem_append_right _ (List.mem_append_left _ h)))))
theorem tb_6 : ∀ w ∈ tables_1_6, w ∈ lw_tbl := fun _ h => List.mem_append_right _ (List.mem_append_right _ (List.mem_append_right _ (List.mem_append_right _ (List.mem_append_right _ (List.mem_append_right _ (List.mem_append_left _ h))))))
theorem tb_7 : ∀ w ∈ tables_1_7, w ∈ lw_tbl := fun _ h => List.mem_append_right _ (List.mem_append_right _ (List.mem_append_right _ (List.mem_append_right _ (List.mem_append_right _ (List.mem_append_right _ (List.mem_append_right _ (List.mem_append_left _ h)))))))
theorem tb_8 : ∀ w ∈ tables_1_8, w ∈ lw_tbl := fun _ h => List.mem_append_right _ (List.mem_append_right _ (List.mem_append_right _ (List.mem_append_right _ (List.mem_append_right _ (List.mem_append_right _ (List.mem_append_right _ (List.mem_append_right _ (h))))))))
theorem iu_X0 : ∀ w ∈ u_ws RX0 TX0 4, w ∈ WG := by
  intro w h
  obtain ⟨k, hk, rfl⟩ := List.mem_map.mp h
  have hk : k < 4 := List.mem_range.mp hk
  rcases (show k = 0 ∨ k = 1 ∨ k = 2 ∨ k = 3 by omega) with rfl | rfl | rfl | rfl
  · exact WG_of (tb_1 _ (List.mem_of_getElem? (i := 229) rfl)) rfl
  · exact WG_of (tb_1 _ (List.mem_of_getElem? (i := 231) rfl)) rfl
  · exact WG_of (tb_1 _ (List.mem_of_getElem? (i := 233) rfl)) rfl
  · exact WG_of (tb_1 _ (List.mem_of_getElem? (i := 235) rfl)) rfl
theorem ft_X0 : FT RX0 TX0 4 tyX0 := ⟨tyX0_ok, nmX0⟩
theorem iu_X1 : ∀ w ∈ u_ws RX1 TX1 3, w ∈ WG := by
  intro w h
  obtain ⟨k, hk, rfl⟩ := List.mem_map.mp h
  have hk : k < 3 := List.mem_range.mp hk
  rcases (show k = 0 ∨ k = 1 ∨ k = 2 by omega) with rfl | rfl | rfl
  · exact WG_of (tb_1 _ (List.mem_of_getElem? (i := 94) rfl)) rfl
  · exact WG_of (tb_1 _ (List.mem_of_getElem? (i := 96) rfl)) rfl
  · exact WG_of (tb_1 _ (List.mem_of_getElem? (i := 98) rfl)) rfl
theorem ft_X1 : FT RX1 TX1 3 tyX1 := ⟨tyX1_ok, nmX1⟩
theorem iu_X2 : ∀ w ∈ u_ws RX2 TX2 3, w ∈ WG := by
  intro w h
  obtain ⟨k, hk, rfl⟩ := List.mem_map.mp h
  have hk : k < 3 := List.mem_range.mp hk
  rcases (show k = 0 ∨ k = 1 ∨ k = 2 by omega) with rfl | rfl | rfl
  · exact WG_of (tb_2 _ (List.mem_of_getElem? (i := 9) rfl)) rfl
  · exact WG_of (tb_2 _ (List.mem_of_getElem? (i := 11) rfl)) rfl
  · exact WG_of (tb_2 _ (List.mem_of_getElem? (i := 13) rfl)) rfl
theorem ft_X2 : FT RX2 TX2 3 tyX2 := ⟨tyX2_ok, nmX2⟩
theorem iu_X3 : ∀ w ∈ u_ws RX3 TX3 5, w ∈ WG := by
  intro w h
  obtain ⟨k, hk, rfl⟩ := List.mem_map.mp h
  have hk : k < 5 := List.mem_range.mp hk
  rcases (show k = 0 ∨ k = 1 ∨ k = 2 ∨ k = 3 ∨ k = 4 by omega) with rfl | rfl | rfl | rfl | rfl
  · exact WG_of (tb_1 _ (List.mem_of_getElem? (i := 207) rfl)) rfl
  · exact WG_of (tb_1 _ (List.mem_of_getElem? (i := 209) rfl)) rfl
  · exact WG_of (tb_1 _ (List.mem_of_getElem? (i := 211) rfl)) rfl
  · exact WG_of (tb_1 _ (List.mem_of_getElem? (i := 213) rfl)) rfl
  · exact WG_of (tb_1 _ (List.mem_of_getElem? (i := 215) rfl)) rfl
theorem ft_X3 : FT RX3 TX3 5 tyX3 := ⟨tyX3_ok, nmX3⟩
theorem iu_X4 : ∀ w ∈ u_ws RX4 TX4 9, w ∈ WG := by
  intro w h
  obtain ⟨k, hk, rfl⟩ := List.mem_map.mp h
  have hk : k < 9 := List.mem_range.mp hk
  rcases (show k = 0 ∨ k = 1 ∨ k = 2 ∨ k = 3 ∨ k = 4 ∨ k = 5 ∨ k = 6 ∨ k = 7 ∨ k = 8 by omega) with rfl | rfl | rfl | rfl | rfl | rfl | rfl | rfl | rfl
  · exact WG_of (tb_1 _ (List.mem_of_getElem? (i := 61) rfl)) rfl
  · exact WG_of (tb_1 _ (List.mem_of_getElem? (i := 63) rfl)) rfl
  · exact WG_of (tb_1 _ (List.mem_of_getElem? (i := 65) rfl)) rfl
  · exact WG_of (tb_1 _ (List.mem_of_getElem? (i := 67) rfl)) rfl
  · exact WG_of (tb_1 _ (List.mem_of_getElem? (i := 69) rfl)) rfl
  · exact WG_of (tb_1 _ (List.mem_of_getElem? (i := 71) rfl)) rfl
  · exact WG_of (tb_1 _ (List.mem_of_getElem? (i := 73) rfl)) rfl
  · exact WG_of (tb_1 _ (List.mem_of_getElem? (i := 75) rfl)) rfl
  · exact WG_of (tb_1 _ (List.mem_of_getElem? (i := 77) rfl)) rfl
theorem ft_X4 : FT RX4 TX4 9 tyX4 := ⟨tyX4_ok, nmX4⟩
theorem iu_X5 : ∀ w ∈ u_ws RX5 TX5 12, w ∈ WG := by
  intro w h
  obtain ⟨k, hk, rfl⟩ := List.mem_map.mp h
  have hk : k < 12 := List.mem_range.mp hk
  rcases (show k = 0 ∨ k = 1 ∨ k = 2 ∨ k = 3 ∨ k = 4 ∨ k = 5 ∨ k = 6 ∨ k = 7 ∨ k = 8 ∨ k = 9 ∨ k = 10 ∨ k = 11 by omega) with rfl | rfl | rfl | rfl | rfl | rfl | rfl | rfl | rfl | rfl | rfl | rfl
  · exact WG_of (tb_1 _ (List.mem_of_getElem? (i := 166) rfl)) rfl
  · exact WG_of (tb_1 _ (List.mem_of_getElem? (i := 168) rfl)) rfl
  · exact WG_of (tb_1 _ (List.mem_of_getElem? (i := 170) rfl)) rfl
  · exact WG_of (tb_1 _ (List.mem_of_getElem? (i := 172) rfl)) rfl
  · exact WG_of (tb_1 _ (List.mem_of_getElem? (i := 174) rfl)) rfl
  · exact WG_of (tb_1 _ (List.mem_of_getElem? (i := 176) rfl)) rfl
  · exact WG_of (tb_1 _ (List.mem_of_getElem? (i := 178) rfl)) rfl
  · exact WG_of (tb_1 _ (List.mem_of_getElem? (i := 180) rfl)) rfl
  · exact WG_of (tb_1 _ (List.mem_of_getElem? (i := 182) rfl)) rfl
  · exact WG_of (tb_1 _ (List.mem_of_getElem? (i := 184) rfl)) rfl
  · exact WG_of (tb_1 _ (List.mem_of_getElem? (i := 186) rfl)) rfl
  · exact WG_of (tb_1 _ (List.mem_of_getElem? (i := 188) rfl)) rfl
theorem ft_X5 : FT RX5 TX5 12 tyX5 := ⟨tyX5_ok, nmX5⟩
theorem iu_X6 : ∀ w ∈ u_ws RX6 TX6 8, w ∈ WG := by
  intro w h
  obtain ⟨k, hk, rfl⟩ := List.mem_map.mp h
  have hk : k < 8 := List.mem_range.mp hk
  rcases (show k = 0 ∨ k = 1 ∨ k = 2 ∨ k = 3 ∨ k = 4 ∨ k = 5 ∨ k = 6 ∨ k = 7 by omega) with rfl | rfl | rfl | rfl | rfl | rfl | rfl | rfl
  · exact WG_of (tb_1 _ (List.mem_of_getElem? (i := 125) rfl)) rfl
  · exact WG_of (tb_1 _ (List.mem_of_getElem? (i := 127) rfl)) rfl
  · exact WG_of (tb_1 _ (List.mem_of_getElem? (i := 129) rfl)) rfl
  · exact WG_of (tb_1 _ (List.mem_of_getElem? (i := 131) rfl)) rfl
  · exact WG_of (tb_1 _ (List.mem_of_getElem? (i := 133) rfl)) rfl
  · exact WG_of (tb_1 _ (List.mem_of_getElem? (i := 135) rfl)) rfl
  · exact WG_of (tb_1 _ (List.mem_of_getElem? (i := 137) rfl)) rfl
  · exact WG_of (tb_1 _ (List.mem_of_getElem? (i := 139) rfl)) rfl
theorem ft_X6 : FT RX6 TX6 8 tyX6 := ⟨tyX6_ok, nmX6⟩
theorem iu_X7 : ∀ w ∈ u_ws RX7 TX7 13, w ∈ WG := by
  intro w h
  obtain ⟨k, hk, rfl⟩ := List.mem_map.mp h
  have hk : k < 13 := List.mem_range.mp hk
  rcases (show k = 0 ∨ k = 1 ∨ k = 2 ∨ k = 3 ∨ k = 4 ∨ k = 5 ∨ k = 6 ∨ k = 7 ∨ k = 8 ∨ k = 9 ∨ k = 10 ∨ k = 11 ∨ k = 12 by omega) with rfl | rfl | rfl | rfl | rfl | rfl | rfl | rfl | rfl | rfl | rfl | rfl | rfl
  · exact WG_of (tb_2 _ (List.mem_of_getElem? (i := 30) rfl)) rfl
  · exact WG_of (tb_2 _ (List.mem_of_getElem? (i := 32) rfl)) rfl
  · exact WG_of (tb_2 _ (List.mem_of_getElem? (i := 34) rfl)) rfl
  · exact WG_of (tb_2 _ (List.mem_of_getElem? (i := 36) rfl)) rfl
  · exact WG_of (tb_2 _ (List.mem_of_getElem? (i := 38) rfl)) rfl
  · exact WG_of (tb_2 _ (List.mem_of_getElem? (i := 40) rfl)) rfl
  · exact WG_of (tb_2 _ (List.mem_of_getElem? (i := 42) rfl)) rfl
  · exact WG_of (tb_2 _ (List.mem_of_getElem? (i := 44) rfl)) rfl
  · exact WG_of (tb_2 _ (List.mem_of_getElem? (i := 46) rfl)) rfl
  · exact WG_of (tb_2 _ (List.mem_of_getElem? (i := 48) rfl)) rfl
  · exact WG_of (tb_2 _ (List.mem_of_getElem? (i := 50) rfl)) rfl
  · exact WG_of (tb_2 _ (List.mem_of_getElem? (i := 52) rfl)) rfl
  · exact WG_of (tb_2 _ (List.mem_of_getElem? (i := 54) rfl)) rfl
theorem ft_X7 : FT RX7 TX7 13 tyX7 := ⟨tyX7_ok, nmX7⟩
theorem iu_X8 : ∀ w ∈ u_ws RX8 TX8 31, w ∈ WG := by
  intro w h
  obtain ⟨k, hk, rfl⟩ := List.mem_map.mp h
  have hk : k < 31 := List.mem_range.mp hk
  rcases (show k = 0 ∨ k = 1 ∨ k = 2 ∨ k = 3 ∨ k = 4 ∨ k = 5 ∨ k = 6 ∨ k = 7 ∨ k = 8 ∨ k = 9 ∨ k = 10 ∨ k = 11 ∨ k = 12 ∨ k = 13 ∨ k = 14 ∨ k = 15 ∨ k = 16 ∨ k = 17 ∨ k = 18 ∨ k = 19 ∨ k = 20 ∨ k = 21 ∨ k = 22 ∨ k = 23 ∨ k = 24 ∨ k = 25 ∨ k = 26 ∨ k = 27 ∨ k = 28 ∨ k = 29 ∨ k = 30 by omega) with rfl | rfl | rfl | rfl | rfl | rfl | rfl | rfl | rfl | rfl | rfl | rfl | rfl | rfl | rfl | rfl | rfl | rfl | rfl | rfl | rfl | rfl | rfl | rfl | rfl | rfl | rfl | rfl | rfl | rfl | rfl
  · exact WG_of (tb_6 _ (List.mem_of_getElem? (i := 49) rfl)) rfl
  · exact WG_of (tb_6 _ (List.mem_of_getElem? (i := 51) rfl)) rfl
  · exact WG_of (tb_6 _ (List.mem_of_getElem? (i := 53) rfl)) rfl
  · exact WG_of (tb_6 _ (List.mem_of_getElem? (i := 55) rfl)) rfl
  · exact WG_of (tb_6 _ (List.mem_of_getElem? (i := 57) rfl)) rfl
  · exact WG_of (tb_6 _ (List.mem_of_getElem? (i := 59) rfl)) rfl
  · exact WG_of (tb_6 _ (List.mem_of_getElem? (i := 61) rfl)) rfl
  · exact WG_of (tb_6 _ (List.mem_of_getElem? (i := 63) rfl)) rfl
  · exact WG_of (tb_6 _ (List.mem_of_getElem? (i := 65) rfl)) rfl
  · exact WG_of (tb_6 _ (List.mem_of_getElem? (i := 67) rfl)) rfl
  · exact WG_of (tb_6 _ (List.mem_of_getElem? (i := 69) rfl)) rfl
  · exact WG_of (tb_6 _ (List.mem_of_getElem? (i := 71) rfl)) rfl
  · exact WG_of (tb_6 _ (List.mem_of_getElem? (i := 73) rfl)) rfl
  · exact WG_of (tb_6 _ (List.mem_of_getElem? (i := 75) rfl)) rfl
  · exact WG_of (tb_6 _ (List.mem_of_getElem? (i := 77) rfl)) rfl
  · exact WG_of (tb_6 _ (List.mem_of_getElem? (i := 79) rfl)) rfl
  · exact WG_of (tb_6 _ (List.mem_of_getElem? (i := 81) rfl)) rfl
  · exact WG_of (tb_6 _ (List.mem_of_getElem? (i := 83) rfl)) rfl
  · exact WG_of (tb_6 _ (List.mem_of_getElem? (i := 85) rfl)) rfl
  · exact WG_of (tb_6 _ (List.mem_of_getElem? (i := 87) rfl)) rfl
  · exact WG_of (tb_6 _ (List.mem_of_getElem? (i := 89) rfl)) rfl
  · exact WG_of (tb_6 _ (List.mem_of_getElem? (i := 91) rfl)) rfl
  · exact WG_of (tb_6 _ (List.mem_of_getElem? (i := 93) rfl)) rfl
  · exact WG_of (tb_6 _ (List.mem_of_getElem? (i := 95) rfl)) rfl
  · exact WG_of (tb_6 _ (List.mem_of_getElem? (i := 97) rfl)) rfl
  · exact WG_of (tb_6 _ (List.mem_of_getElem? (i := 99) rfl)) rfl
  · exact WG_of (tb_6 _ (List.mem_of_getElem? (i := 101) rfl)) rfl
  · exact WG_of (tb_6 _ (List.mem_of_getElem? (i := 103) rfl)) rfl
  · exact WG_of (tb_6 _ (List.mem_of_getElem? (i := 105) rfl)) rfl
  · exact WG_of (tb_6 _ (List.mem_of_getElem? (i := 107) rfl)) rfl
  · exact WG_of (tb_6 _ (List.mem_of_getElem? (i := 109) rfl)) rfl
theorem ft_X8 : FT RX8 TX8 31 tyX8 := ⟨tyX8_ok, nmX8⟩
theorem fl_X4_9 : FL RX4 9 6 RX4 TX4 9 0 := ⟨iu_X4, rfl, by decide, WG_of (tb_1 _ (List.mem_of_getElem? (i := 38) rfl)) rfl⟩
theorem fl_X7_79 : FL RX7 79 6 RX4 TX4 9 0 := ⟨iu_X4, rfl, by decide, WG_of (tb_1 _ (List.mem_of_getElem? (i := 39) rfl)) rfl⟩
theorem fl_X5_55 : FL RX5 55 6 RX4 TX4 9 0 := ⟨iu_X4, rfl, by decide, WG_of (tb_1 _ (List.mem_of_getElem? (i := 40) rfl)) rfl⟩
theorem fl_X6_43 : FL RX6 43 6 RX4 TX4 9 0 := ⟨iu_X4, rfl, by decide, WG_of (tb_1 _ (List.mem_of_getElem? (i := 41) rfl)) rfl⟩
theorem fl_X0_26 : FL RX0 26 6 RX4 TX4 9 0 := ⟨iu_X4, rfl, by decide, WG_of (tb_1 _ (List.mem_of_getElem? (i := 42) rfl)) rfl⟩
theorem fl_X4_15 : FL RX4 15 6 RX4 TX4 9 1 := ⟨iu_X4, rfl, by decide, WG_of (tb_1 _ (List.mem_of_getElem? (i := 43) rfl)) rfl⟩
theorem fl_X6_48 : FL RX6 48 6 RX4 TX4 9 1 := ⟨iu_X4, rfl, by decide, WG_of (tb_1 _ (List.mem_of_getElem? (i := 44) rfl)) rfl⟩
theorem fl_X7_185 : FL RX7 185 6 RX4 TX4 9 1 := ⟨iu_X4, rfl, by decide, WG_of (tb_1 _ (List.mem_of_getElem? (i := 45) rfl)) rfl⟩
theorem fl_X4_19 : FL RX4 19 6 RX4 TX4 9 2 := ⟨iu_X4, rfl, by decide, WG_of (tb_1 _ (List.mem_of_getElem? (i := 46) rfl)) rfl⟩
theorem fl_X7_179 : FL RX7 179 6 RX4 TX4 9 2 := ⟨iu_X4, rfl, by decide, WG_of (tb_1 _ (List.mem_of_getElem? (i := 47) rfl)) rfl⟩
theorem fl_X4_22 : FL RX4 22 6 RX4 TX4 9 3 := ⟨iu_X4, rfl, by decide, WG_of (tb_1 _ (List.mem_of_getElem? (i := 48) rfl)) rfl⟩
theorem fl_X7_182 : FL RX7 182 6 RX4 TX4 9 3 := ⟨iu_X4, rfl, by decide, WG_of (tb_1 _ (List.mem_of_getElem? (i := 49) rfl)) rfl⟩
theorem fl_X4_25 : FL RX4 25 6 RX4 TX4 9 4 := ⟨iu_X4, rfl, by decide, WG_of (tb_1 _ (List.mem_of_getElem? (i := 50) rfl)) rfl⟩
theorem fl_X0_31 : FL RX0 31 6 RX4 TX4 9 4 := ⟨iu_X4, rfl, by decide, WG_of (tb_1 _ (List.mem_of_getElem? (i := 51) rfl)) rfl⟩
theorem fl_X7_172 : FL RX7 172 6 RX4 TX4 9 4 := ⟨iu_X4, rfl, by decide, WG_of (tb_1 _ (List.mem_of_getElem? (i := 52) rfl)) rfl⟩
theorem fl_X4_28 : FL RX4 28 6 RX4 TX4 9 5 := ⟨iu_X4, rfl, by decide, WG_of (tb_1 _ (List.mem_of_getElem? (i := 53) rfl)) rfl⟩
theorem fl_X7_143 : FL RX7 143 6 RX4 TX4 9 5 := ⟨iu_X4, rfl, by decide, WG_of (tb_1 _ (List.mem_of_getElem? (i := 54) rfl)) rfl⟩
theorem fl_X4_31 : FL RX4 31 6 RX4 TX4 9 6 := ⟨iu_X4, rfl, by decide, WG_of (tb_1 _ (List.mem_of_getElem? (i := 55) rfl)) rfl⟩
theorem fl_X7_210 : FL RX7 210 6 RX4 TX4 9 6 := ⟨iu_X4, rfl, by decide, WG_of (tb_1 _ (List.mem_of_getElem? (i := 56) rfl)) rfl⟩
theorem fl_X4_34 : FL RX4 34 6 RX4 TX4 9 7 := ⟨iu_X4, rfl, by decide, WG_of (tb_1 _ (List.mem_of_getElem? (i := 57) rfl)) rfl⟩
theorem fl_X7_207 : FL RX7 207 6 RX4 TX4 9 7 := ⟨iu_X4, rfl, by decide, WG_of (tb_1 _ (List.mem_of_getElem? (i := 58) rfl)) rfl⟩
theorem fl_X4_37 : FL RX4 37 6 RX4 TX4 9 8 := ⟨iu_X4, rfl, by decide, WG_of (tb_1 _ (List.mem_of_getElem? (i := 59) rfl)) rfl⟩
theorem fl_X6_69 : FL RX6 69 6 RX4 TX4 9 8 := ⟨iu_X4, rfl, by decide, WG_of (tb_1 _ (List.mem_of_getElem? (i := 60) rfl)) rfl⟩
theorem fl_X1_9 : FL RX1 9 3 RX1 TX1 3 0 := ⟨iu_X1, rfl, by decide, WG_of (tb_1 _ (List.mem_of_getElem? (i := 90) rfl)) rfl⟩
theorem fl_X7_455 : FL RX7 455 3 RX1 TX1 3 0 := ⟨iu_X1, rfl, by decide, WG_of (tb_1 _ (List.mem_of_getElem? (i := 91) rfl)) rfl⟩
theorem fl_X1_15 : FL RX1 15 3 RX1 TX1 3 1 := ⟨iu_X1, rfl, by decide, WG_of (tb_1 _ (List.mem_of_getElem? (i := 92) rfl)) rfl⟩
theorem fl_X1_20 : FL RX1 20 3 RX1 TX1 3 2 := ⟨iu_X1, rfl, by decide, WG_of (tb_1 _ (List.mem_of_getElem? (i := 93) rfl)) rfl⟩
theorem fl_X6_9 : FL RX6 9 8 RX6 TX6 8 0 := ⟨iu_X6, rfl, by decide, WG_of (tb_1 _ (List.mem_of_getElem? (i := 107) rfl)) rfl⟩
theorem fl_X5_78 : FL RX5 78 8 RX6 TX6 8 0 := ⟨iu_X6, rfl, by decide, WG_of (tb_1 _ (List.mem_of_getElem? (i := 108) rfl)) rfl⟩
theorem fl_X7_250 : FL RX7 250 8 RX6 TX6 8 0 := ⟨iu_X6, rfl, by decide, WG_of (tb_1 _ (List.mem_of_getElem? (i := 109) rfl)) rfl⟩
theorem fl_X6_15 : FL RX6 15 8 RX6 TX6 8 1 := ⟨iu_X6, rfl, by decide, WG_of (tb_1 _ (List.mem_of_getElem? (i := 110) rfl)) rfl⟩
theorem fl_X7_255 : FL RX7 255 8 RX6 TX6 8 1 := ⟨iu_X6, rfl, by decide, WG_of (tb_1 _ (List.mem_of_getElem? (i := 111) rfl)) rfl⟩
theorem fl_X6_18 : FL RX6 18 8 RX6 TX6 8 2 := ⟨iu_X6, rfl, by decide, WG_of (tb_1 _ (List.mem_of_getElem? (i := 112) rfl)) rfl⟩
theorem fl_X5_81 : FL RX5 81 8 RX6 TX6 8 2 := ⟨iu_X6, rfl, by decide, WG_of (tb_1 _ (List.mem_of_getElem? (i := 113) rfl)) rfl⟩
theorem fl_X7_247 : FL RX7 247 8 RX6 TX6 8 2 := ⟨iu_X6, rfl, by decide, WG_of (tb_1 _ (List.mem_of_getElem? (i := 114) rfl)) rfl⟩
theorem fl_X6_21 : FL RX6 21 8 RX6 TX6 8 3 := ⟨iu_X6, rfl, by decide, WG_of (tb_1 _ (List.mem_of_getElem? (i := 115) rfl)) rfl⟩
theorem fl_X5_84 : FL RX5 84 8 RX6 TX6 8 3 := ⟨iu_X6, rfl, by decide, WG_of (tb_1 _ (List.mem_of_getElem? (i := 116) rfl)) rfl⟩
theorem fl_X7_244 : FL RX7 244 8 RX6 TX6 8 3 := ⟨iu_X6, rfl, by decide, WG_of (tb_1 _ (List.mem_of_getElem? (i := 117) rfl)) rfl⟩
theorem fl_X6_24 : FL RX6 24 8 RX6 TX6 8 4 := ⟨iu_X6, rfl, by decide, WG_of (tb_1 _ (List.mem_of_getElem? (i := 118) rfl)) rfl⟩
theorem fl_X7_191 : FL RX7 191 8 RX6 TX6 8 4 := ⟨iu_X6, rfl, by decide, WG_of (tb_1 _ (List.mem_of_getElem? (i := 119) rfl)) rfl⟩
theorem fl_X6_28 : FL RX6 28 8 RX6 TX6 8 5 := ⟨iu_X6, rfl, by decide, WG_of (tb_1 _ (List.mem_of_getElem? (i := 120) rfl)) rfl⟩
theorem fl_X7_194 : FL RX7 194 8 RX6 TX6 8 5 := ⟨iu_X6, rfl, by decide, WG_of (tb_1 _ (List.mem_of_getElem? (i := 121) rfl)) rfl⟩
theorem fl_X6_31 : FL RX6 31 8 RX6 TX6 8 6 := ⟨iu_X6, rfl, by decide, WG_of (tb_1 _ (List.mem_of_getElem? (i := 122) rfl)) rfl⟩
theorem fl_X7_188 : FL RX7 188 8 RX6 TX6 8 6 := ⟨iu_X6, rfl, by decide, WG_of (tb_1 _ (List.mem_of_getElem? (i := 123) rfl)) rfl⟩
theorem fl_X6_34 : FL RX6 34 8 RX6 TX6 8 7 := ⟨iu_X6, rfl, by decide, WG_of (tb_1 _ (List.mem_of_getElem? (i := 124) rfl)) rfl⟩
theorem fl_X5_9 : FL RX5 9 7 RX5 TX5 12 0 := ⟨iu_X5, rfl, by decide, WG_of (tb_1 _ (List.mem_of_getElem? (i := 151) rfl)) rfl⟩
theorem fl_X7_470 : FL RX7 470 7 RX5 TX5 12 0 := ⟨iu_X5, rfl, by decide, WG_of (tb_1 _ (List.mem_of_getElem? (i := 152) rfl)) rfl⟩
theorem fl_X5_15 : FL RX5 15 7 RX5 TX5 12 1 := ⟨iu_X5, rfl, by decide, WG_of (tb_1 _ (List.mem_of_getElem? (i := 153) rfl)) rfl⟩
theorem fl_X7_283 : FL RX7 283 7 RX5 TX5 12 1 := ⟨iu_X5, rfl, by decide, WG_of (tb_1 _ (List.mem_of_getElem? (i := 154) rfl)) rfl⟩
theorem fl_X5_19 : FL RX5 19 7 RX5 TX5 12 2 := ⟨iu_X5, rfl, by decide, WG_of (tb_1 _ (List.mem_of_getElem? (i := 155) rfl)) rfl⟩
theorem fl_X5_22 : FL RX5 22 7 RX5 TX5 12 3 := ⟨iu_X5, rfl, by decide, WG_of (tb_1 _ (List.mem_of_getElem? (i := 156) rfl)) rfl⟩
theorem fl_X5_26 : FL RX5 26 7 RX5 TX5 12 4 := ⟨iu_X5, rfl, by decide, WG_of (tb_1 _ (List.mem_of_getElem? (i := 157) rfl)) rfl⟩
theorem fl_X5_29 : FL RX5 29 7 RX5 TX5 12 5 := ⟨iu_X5, rfl, by decide, WG_of (tb_1 _ (List.mem_of_getElem? (i := 158) rfl)) rfl⟩
theorem fl_X5_32 : FL RX5 32 7 RX5 TX5 12 6 := ⟨iu_X5, rfl, by decide, WG_of (tb_1 _ (List.mem_of_getElem? (i := 159) rfl)) rfl⟩
theorem fl_X5_35 : FL RX5 35 7 RX5 TX5 12 7 := ⟨iu_X5, rfl, by decide, WG_of (tb_1 _ (List.mem_of_getElem? (i := 160) rfl)) rfl⟩
theorem fl_X5_38 : FL RX5 38 7 RX5 TX5 12 8 := ⟨iu_X5, rfl, by decide, WG_of (tb_1 _ (List.mem_of_getElem? (i := 161) rfl)) rfl⟩
theorem fl_X7_307 : FL RX7 307 7 RX5 TX5 12 8 := ⟨iu_X5, rfl, by decide, WG_of (tb_1 _ (List.mem_of_getElem? (i := 162) rfl)) rfl⟩
theorem fl_X5_42 : FL RX5 42 7 RX5 TX5 12 9 := ⟨iu_X5, rfl, by decide, WG_of (tb_1 _ (List.mem_of_getElem? (i := 163) rfl)) rfl⟩
theorem fl_X5_48 : FL RX5 48 7 RX5 TX5 12 10 := ⟨iu_X5, rfl, by decide, WG_of (tb_1 _ (List.mem_of_getElem? (i := 164) rfl)) rfl⟩
theorem fl_X5_52 : FL RX5 52 7 RX5 TX5 12 11 := ⟨iu_X5, rfl, by decide, WG_of (tb_1 _ (List.mem_of_getElem? (i := 165) rfl)) rfl⟩
theorem fl_X3_9 : FL RX3 9 5 RX3 TX3 5 0 := ⟨iu_X3, rfl, by decide, WG_of (tb_1 _ (List.mem_of_getElem? (i := 197) rfl)) rfl⟩
theorem fl_X7_467 : FL RX7 467 5 RX3 TX3 5 0 := ⟨iu_X3, rfl, by decide, WG_of (tb_1 _ (List.mem_of_getElem? (i := 198) rfl)) rfl⟩
theorem fl_X3_15 : FL RX3 15 5 RX3 TX3 5 1 := ⟨iu_X3, rfl, by decide, WG_of (tb_1 _ (List.mem_of_getElem? (i := 199) rfl)) rfl⟩
theorem fl_X5_122 : FL RX5 122 5 RX3 TX3 5 1 := ⟨iu_X3, rfl, by decide, WG_of (tb_1 _ (List.mem_of_getElem? (i := 200) rfl)) rfl⟩
theorem fl_X7_394 : FL RX7 394 5 RX3 TX3 5 1 := ⟨iu_X3, rfl, by decide, WG_of (tb_1 _ (List.mem_of_getElem? (i := 201) rfl)) rfl⟩
theorem fl_X3_19 : FL RX3 19 5 RX3 TX3 5 2 := ⟨iu_X3, rfl, by decide, WG_of (tb_1 _ (List.mem_of_getElem? (i := 202) rfl)) rfl⟩
theorem fl_X7_375 : FL RX7 375 5 RX3 TX3 5 2 := ⟨iu_X3, rfl, by decide, WG_of (tb_1 _ (List.mem_of_getElem? (i := 203) rfl)) rfl⟩
theorem fl_X3_22 : FL RX3 22 5 RX3 TX3 5 3 := ⟨iu_X3, rfl, by decide, WG_of (tb_1 _ (List.mem_of_getElem? (i := 204) rfl)) rfl⟩
theorem fl_X7_385 : FL RX7 385 5 RX3 TX3 5 3 := ⟨iu_X3, rfl, by decide, WG_of (tb_1 _ (List.mem_of_getElem? (i := 205) rfl)) rfl⟩
theorem fl_X3_25 : FL RX3 25 5 RX3 TX3 5 4 := ⟨iu_X3, rfl, by decide, WG_of (tb_1 _ (List.mem_of_getElem? (i := 206) rfl)) rfl⟩
theorem fl_X0_9 : FL RX0 9 2 RX0 TX0 4 0 := ⟨iu_X0, rfl, by decide, WG_of (tb_1 _ (List.mem_of_getElem? (i := 224) rfl)) rfl⟩
theorem fl_X7_410 : FL RX7 410 2 RX0 TX0 4 0 := ⟨iu_X0, rfl, by decide, WG_of (tb_1 _ (List.mem_of_getElem? (i := 225) rfl)) rfl⟩
theorem fl_X0_15 : FL RX0 15 2 RX0 TX0 4 1 := ⟨iu_X0, rfl, by decide, WG_of (tb_1 _ (List.mem_of_getElem? (i := 226) rfl)) rfl⟩
theorem fl_X0_19 : FL RX0 19 2 RX0 TX0 4 2 := ⟨iu_X0, rfl, by decide, WG_of (tb_1 _ (List.mem_of_getElem? (i := 227) rfl)) rfl⟩
theorem fl_X0_23 : FL RX0 23 2 RX0 TX0 4 3 := ⟨iu_X0, rfl, by decide, WG_of (tb_1 _ (List.mem_of_getElem? (i := 228) rfl)) rfl⟩
theorem fl_X2_9 : FL RX2 9 4 RX2 TX2 3 0 := ⟨iu_X2, rfl, by decide, WG_of (tb_2 _ (List.mem_of_getElem? (i := 5) rfl)) rfl⟩
theorem fl_X7_433 : FL RX7 433 4 RX2 TX2 3 0 := ⟨iu_X2, rfl, by decide, WG_of (tb_2 _ (List.mem_of_getElem? (i := 6) rfl)) rfl⟩
theorem fl_X2_15 : FL RX2 15 4 RX2 TX2 3 1 := ⟨iu_X2, rfl, by decide, WG_of (tb_2 _ (List.mem_of_getElem? (i := 7) rfl)) rfl⟩
theorem fl_X2_19 : FL RX2 19 4 RX2 TX2 3 2 := ⟨iu_X2, rfl, by decide, WG_of (tb_2 _ (List.mem_of_getElem? (i := 8) rfl)) rfl⟩
theorem fl_X7_12 : FL RX7 12 9 RX7 TX7 13 0 := ⟨iu_X7, rfl, by decide, WG_of (tb_2 _ (List.mem_of_getElem? (i := 17) rfl)) rfl⟩
theorem fl_X7_16 : FL RX7 16 9 RX7 TX7 13 1 := ⟨iu_X7, rfl, by decide, WG_of (tb_2 _ (List.mem_of_getElem? (i := 18) rfl)) rfl⟩
theorem fl_X7_19 : FL RX7 19 9 RX7 TX7 13 2 := ⟨iu_X7, rfl, by decide, WG_of (tb_2 _ (List.mem_of_getElem? (i := 19) rfl)) rfl⟩
theorem fl_X7_25 : FL RX7 25 9 RX7 TX7 13 3 := ⟨iu_X7, rfl, by decide, WG_of (tb_2 _ (List.mem_of_getElem? (i := 20) rfl)) rfl⟩
theorem fl_X7_32 : FL RX7 32 9 RX7 TX7 13 4 := ⟨iu_X7, rfl, by decide, WG_of (tb_2 _ (List.mem_of_getElem? (i := 21) rfl)) rfl⟩
theorem fl_X7_39 : FL RX7 39 9 RX7 TX7 13 5 := ⟨iu_X7, rfl, by decide, WG_of (tb_2 _ (List.mem_of_getElem? (i := 22) rfl)) rfl⟩
theorem fl_X7_46 : FL RX7 46 9 RX7 TX7 13 6 := ⟨iu_X7, rfl, by decide, WG_of (tb_2 _ (List.mem_of_getElem? (i := 23) rfl)) rfl⟩
theorem fl_X7_53 : FL RX7 53 9 RX7 TX7 13 7 := ⟨iu_X7, rfl, by decide, WG_of (tb_2 _ (List.mem_of_getElem? (i := 24) rfl)) rfl⟩
theorem fl_X7_60 : FL RX7 60 9 RX7 TX7 13 8 := ⟨iu_X7, rfl, by decide, WG_of (tb_2 _ (List.mem_of_getElem? (i := 25) rfl)) rfl⟩
theorem fl_X7_64 : FL RX7 64 9 RX7 TX7 13 9 := ⟨iu_X7, rfl, by decide, WG_of (tb_2 _ (List.mem_of_getElem? (i := 26) rfl)) rfl⟩
theorem fl_X7_68 : FL RX7 68 9 RX7 TX7 13 10 := ⟨iu_X7, rfl, by decide, WG_of (tb_2 _ (List.mem_of_getElem? (i := 27) rfl)) rfl⟩
theorem fl_X7_71 : FL RX7 71 9 RX7 TX7 13 11 := ⟨iu_X7, rfl, by decide, WG_of (tb_2 _ (List.mem_of_getElem? (i := 28) rfl)) rfl⟩
theorem fl_X7_75 : FL RX7 75 9 RX7 TX7 13 12 := ⟨iu_X7, rfl, by decide, WG_of (tb_2 _ (List.mem_of_getElem? (i := 29) rfl)) rfl⟩
theorem fl_X8_7 : FL RX8 7 10 RX8 TX8 31 0 := ⟨iu_X8, rfl, by decide, WG_of (tb_6 _ (List.mem_of_getElem? (i := 18) rfl)) rfl⟩
theorem fl_X8_13 : FL RX8 13 10 RX8 TX8 31 1 := ⟨iu_X8, rfl, by decide, WG_of (tb_6 _ (List.mem_of_getElem? (i := 19) rfl)) rfl⟩
theorem fl_X8_90 : FL RX8 90 10 RX8 TX8 31 2 := ⟨iu_X8, rfl, by decide, WG_of (tb_6 _ (List.mem_of_getElem? (i := 20) rfl)) rfl⟩
theorem fl_X8_16 : FL RX8 16 10 RX8 TX8 31 3 := ⟨iu_X8, rfl, by decide, WG_of (tb_6 _ (List.mem_of_getElem? (i := 21) rfl)) rfl⟩
theorem fl_X8_83 : FL RX8 83 10 RX8 TX8 31 4 := ⟨iu_X8, rfl, by decide, WG_of (tb_6 _ (List.mem_of_getElem? (i := 22) rfl)) rfl⟩
theorem fl_X8_19 : FL RX8 19 10 RX8 TX8 31 5 := ⟨iu_X8, rfl, by decide, WG_of (tb_6 _ (List.mem_of_getElem? (i := 23) rfl)) rfl⟩
theorem fl_X8_22 : FL RX8 22 10 RX8 TX8 31 6 := ⟨iu_X8, rfl, by decide, WG_of (tb_6 _ (List.mem_of_getElem? (i := 24) rfl)) rfl⟩
theorem fl_X8_252 : FL RX8 252 10 RX8 TX8 31 7 := ⟨iu_X8, rfl, by decide, WG_of (tb_6 _ (List.mem_of_getElem? (i := 25) rfl)) rfl⟩
theorem fl_X8_76 : FL RX8 76 10 RX8 TX8 31 8 := ⟨iu_X8, rfl, by decide, WG_of (tb_6 _ (List.mem_of_getElem? (i := 26) rfl)) rfl⟩
theorem fl_X8_26 : FL RX8 26 10 RX8 TX8 31 9 := ⟨iu_X8, rfl, by decide, WG_of (tb_6 _ (List.mem_of_getElem? (i := 27) rfl)) rfl⟩
theorem fl_X8_29 : FL RX8 29 10 RX8 TX8 31 10 := ⟨iu_X8, rfl, by decide, WG_of (tb_6 _ (List.mem_of_getElem? (i := 28) rfl)) rfl⟩
theorem fl_X8_32 : FL RX8 32 10 RX8 TX8 31 11 := ⟨iu_X8, rfl, by decide, WG_of (tb_6 _ (List.mem_of_getElem? (i := 29) rfl)) rfl⟩
theorem fl_X8_35 : FL RX8 35 10 RX8 TX8 31 12 := ⟨iu_X8, rfl, by decide, WG_of (tb_6 _ (List.mem_of_getElem? (i := 30) rfl)) rfl⟩
theorem fl_X8_171 : FL RX8 171 10 RX8 TX8 31 13 := ⟨iu_X8, rfl, by decide, WG_of (tb_6 _ (List.mem_of_getElem? (i := 31) rfl)) rfl⟩
theorem fl_X8_38 : FL RX8 38 10 RX8 TX8 31 14 := ⟨iu_X8, rfl, by decide, WG_of (tb_6 _ (List.mem_of_getElem? (i := 32) rfl)) rfl⟩
theorem fl_X8_42 : FL RX8 42 10 RX8 TX8 31 15 := ⟨iu_X8, rfl, by decide, WG_of (tb_6 _ (List.mem_of_getElem? (i := 33) rfl)) rfl⟩
theorem fl_X8_45 : FL RX8 45 10 RX8 TX8 31 16 := ⟨iu_X8, rfl, by decide, WG_of (tb_6 _ (List.mem_of_getElem? (i := 34) rfl)) rfl⟩
theorem fl_X8_48 : FL RX8 48 10 RX8 TX8 31 17 := ⟨iu_X8, rfl, by decide, WG_of (tb_6 _ (List.mem_of_getElem? (i := 35) rfl)) rfl⟩
theorem fl_X8_234 : FL RX8 234 10 RX8 TX8 31 18 := ⟨iu_X8, rfl, by decide, WG_of (tb_6 _ (List.mem_of_getElem? (i := 36) rfl)) rfl⟩
theorem fl_X8_51 : FL RX8 51 10 RX8 TX8 31 19 := ⟨iu_X8, rfl, by decide, WG_of (tb_6 _ (List.mem_of_getElem? (i := 37) rfl)) rfl⟩
theorem fl_X8_55 : FL RX8 55 10 RX8 TX8 31 20 := ⟨iu_X8, rfl, by decide, WG_of (tb_6 _ (List.mem_of_getElem? (i := 38) rfl)) rfl⟩
theorem fl_X8_58 : FL RX8 58 10 RX8 TX8 31 21 := ⟨iu_X8, rfl, by decide, WG_of (tb_6 _ (List.mem_of_getElem? (i := 39) rfl)) rfl⟩
theorem fl_X8_61 : FL RX8 61 10 RX8 TX8 31 22 := ⟨iu_X8, rfl, by decide, WG_of (tb_6 _ (List.mem_of_getElem? (i := 40) rfl)) rfl⟩
theorem fl_X8_64 : FL RX8 64 10 RX8 TX8 31 23 := ⟨iu_X8, rfl, by decide, WG_of (tb_6 _ (List.mem_of_getElem? (i := 41) rfl)) rfl⟩
theorem fl_X8_285 : FL RX8 285 10 RX8 TX8 31 24 := ⟨iu_X8, rfl, by decide, WG_of (tb_6 _ (List.mem_of_getElem? (i := 42) rfl)) rfl⟩
theorem fl_X8_288 : FL RX8 288 10 RX8 TX8 31 25 := ⟨iu_X8, rfl, by decide, WG_of (tb_6 _ (List.mem_of_getElem? (i := 43) rfl)) rfl⟩
theorem fl_X8_67 : FL RX8 67 10 RX8 TX8 31 26 := ⟨iu_X8, rfl, by decide, WG_of (tb_6 _ (List.mem_of_getElem? (i := 44) rfl)) rfl⟩
theorem fl_X8_70 : FL RX8 70 10 RX8 TX8 31 27 := ⟨iu_X8, rfl, by decide, WG_of (tb_6 _ (List.mem_of_getElem? (i := 45) rfl)) rfl⟩
theorem fl_X8_300 : FL RX8 300 10 RX8 TX8 31 28 := ⟨iu_X8, rfl, by decide, WG_of (tb_6 _ (List.mem_of_getElem? (i := 46) rfl)) rfl⟩
theorem fl_X8_294 : FL RX8 294 10 RX8 TX8 31 29 := ⟨iu_X8, rfl, by decide, WG_of (tb_6 _ (List.mem_of_getElem? (i := 47) rfl)) rfl⟩
theorem fl_X8_73 : FL RX8 73 10 RX8 TX8 31 30 := ⟨iu_X8, rfl, by decide, WG_of (tb_6 _ (List.mem_of_getElem? (i := 48) rfl)) rfl⟩
theorem pv_1 : ∀ q ∈ lw_privs_1, Cond.selects q.1.cls q.1 q.1 ∈ lw_tbl := fun q h => List.mem_append_left _ (List.mem_map.mpr ⟨q, List.mem_append_left _ h, rfl⟩)
theorem pv_2 : ∀ q ∈ lw_privs_2, Cond.selects q.1.cls q.1 q.1 ∈ lw_tbl := fun q h => List.mem_append_left _ (List.mem_map.mpr ⟨q, List.mem_append_right _ (List.mem_append_left _ h), rfl⟩)
theorem pv_3 : ∀ q ∈ lw_privs_3, Cond.selects q.1.cls q.1 q.1 ∈ lw_tbl := fun q h => List.mem_append_left _ (List.mem_map.mpr ⟨q, List.mem_append_right _ (List.mem_append_right _ (List.mem_append_left _ h)), rfl⟩)
theorem pv_4 : ∀ q ∈ lw_privs_4, Cond.selects q.1.cls q.1 q.1 ∈ lw_tbl := fun q h => List.mem_append_left _ (List.mem_map.mpr ⟨q, List.mem_append_right _ (List.mem_append_right _ (List.mem_append_right _ (List.mem_append_left _ h))), rfl⟩)
theorem pv_5 : ∀ q ∈ lw_privs_5, Cond.selects q.1.cls q.1 q.1 ∈ lw_tbl := fun q h => List.mem_append_left _ (List.mem_map.mpr ⟨q, List.mem_append_right _ (List.mem_append_right _ (List.mem_append_right _ (List.mem_append_right _ (List.mem_append_left _ h)))), rfl⟩)
theorem pv_6 : ∀ q ∈ lw_privs_6, Cond.selects q.1.cls q.1 q.1 ∈ lw_tbl := fun q h => List.mem_append_left _ (List.mem_map.mpr ⟨q, List.mem_append_right _ (List.mem_append_right _ (List.mem_append_right _ (List.mem_append_right _ (List.mem_append_right _ (h))))), rfl⟩)
theorem mv_X7_clear : MV yX7_clear cX7_clear 2 (some .int) 0 := ⟨WG_of (tb_2 _ (List.mem_of_getElem? (i := 60) rfl)) rfl, WG_of (tb_2 _ (List.mem_of_getElem? (i := 58) rfl)) rfl, WG_of (tb_2 _ (List.mem_of_getElem? (i := 59) rfl)) rfl, WG_of (tb_1 _ (List.mem_of_getElem? (i := 1) rfl)) rfl, by decide +kernel⟩
theorem mv_X4_empty : MV yX4_empty cX4_empty 1 none 0 := ⟨WG_of (tb_2 _ (List.mem_of_getElem? (i := 64) rfl)) rfl, WG_of (tb_2 _ (List.mem_of_getElem? (i := 62) rfl)) rfl, WG_of (tb_2 _ (List.mem_of_getElem? (i := 63) rfl)) rfl, WG_of (tb_1 _ (List.mem_of_getElem? (i := 2) rfl)) rfl, by decide +kernel⟩
theorem ms_J7_fill_53178 : MS yJ7_fill_53178 cJ7_fill_53178 4 none 2 := ⟨WG_of (tb_2 _ (List.mem_of_getElem? (i := 67) rfl)) rfl, WG_of (tb_2 _ (List.mem_of_getElem? (i := 66) rfl)) rfl, WG_of (tb_1 _ (List.mem_of_getElem? (i := 10) rfl)) rfl, by decide +kernel⟩
theorem mv_X1_forget : MV yX1_forget cX1_forget 1 none 0 := ⟨WG_of (tb_2 _ (List.mem_of_getElem? (i := 71) rfl)) rfl, WG_of (tb_2 _ (List.mem_of_getElem? (i := 69) rfl)) rfl, WG_of (tb_2 _ (List.mem_of_getElem? (i := 70) rfl)) rfl, WG_of (tb_1 _ (List.mem_of_getElem? (i := 3) rfl)) rfl, by decide +kernel⟩
theorem mv_X7_dropPlans : MV yX7_dropPlans cX7_dropPlans 1 none 0 := ⟨WG_of (tb_2 _ (List.mem_of_getElem? (i := 75) rfl)) rfl, WG_of (tb_2 _ (List.mem_of_getElem? (i := 74) rfl)) rfl, WG_of (pv_1 _ (List.mem_of_getElem? (i := 0) rfl)) rfl, WG_of (tb_1 _ (List.mem_of_getElem? (i := 1) rfl)) rfl, by decide +kernel⟩
theorem mv_X7_moves : MV yX7_moves cX7_moves 3 (some .int) 0 := ⟨WG_of (tb_2 _ (List.mem_of_getElem? (i := 79) rfl)) rfl, WG_of (tb_2 _ (List.mem_of_getElem? (i := 77) rfl)) rfl, WG_of (tb_2 _ (List.mem_of_getElem? (i := 78) rfl)) rfl, WG_of (tb_1 _ (List.mem_of_getElem? (i := 1) rfl)) rfl, by decide +kernel⟩
theorem mv_X7_isFreeNow : MV yX7_isFreeNow cX7_isFreeNow 1 (some .boolean) 0 := ⟨WG_of (tb_2 _ (List.mem_of_getElem? (i := 83) rfl)) rfl, WG_of (tb_2 _ (List.mem_of_getElem? (i := 82) rfl)) rfl, WG_of (pv_1 _ (List.mem_of_getElem? (i := 1) rfl)) rfl, WG_of (tb_1 _ (List.mem_of_getElem? (i := 1) rfl)) rfl, by decide +kernel⟩
theorem mv_X6_along : MV yX6_along cX6_along 6 none 2 := ⟨WG_of (tb_2 _ (List.mem_of_getElem? (i := 87) rfl)) rfl, WG_of (tb_2 _ (List.mem_of_getElem? (i := 85) rfl)) rfl, WG_of (tb_2 _ (List.mem_of_getElem? (i := 86) rfl)) rfl, WG_of (tb_1 _ (List.mem_of_getElem? (i := 4) rfl)) rfl, by decide +kernel⟩
theorem mv_X6_enterCell : MV yX6_enterCell cX6_enterCell 5 none 2 := ⟨WG_of (tb_2 _ (List.mem_of_getElem? (i := 96) rfl)) rfl, WG_of (tb_2 _ (List.mem_of_getElem? (i := 95) rfl)) rfl, WG_of (pv_1 _ (List.mem_of_getElem? (i := 2) rfl)) rfl, WG_of (tb_1 _ (List.mem_of_getElem? (i := 4) rfl)) rfl, by decide +kernel⟩
theorem ms_X7_isInside : MS yX7_isInside cX7_isInside 2 (some .boolean) 2 := ⟨WG_of (tb_2 _ (List.mem_of_getElem? (i := 99) rfl)) rfl, WG_of (tb_2 _ (List.mem_of_getElem? (i := 98) rfl)) rfl, WG_of (tb_1 _ (List.mem_of_getElem? (i := 1) rfl)) rfl, by decide +kernel⟩
theorem mv_X6_note : MV yX6_note cX6_note 3 none 2 := ⟨WG_of (tb_2 _ (List.mem_of_getElem? (i := 103) rfl)) rfl, WG_of (tb_2 _ (List.mem_of_getElem? (i := 102) rfl)) rfl, WG_of (pv_1 _ (List.mem_of_getElem? (i := 3) rfl)) rfl, WG_of (tb_1 _ (List.mem_of_getElem? (i := 4) rfl)) rfl, by decide +kernel⟩
theorem mv_X7_leadsToFree : MV yX7_leadsToFree cX7_leadsToFree 4 (some .boolean) 1 := ⟨WG_of (tb_2 _ (List.mem_of_getElem? (i := 107) rfl)) rfl, WG_of (tb_2 _ (List.mem_of_getElem? (i := 106) rfl)) rfl, WG_of (pv_1 _ (List.mem_of_getElem? (i := 4) rfl)) rfl, WG_of (tb_1 _ (List.mem_of_getElem? (i := 1) rfl)) rfl, by decide +kernel⟩
theorem ms_X7_jointOf : MS yX7_jointOf cX7_jointOf 1 (some .int) 1 := ⟨WG_of (tb_2 _ (List.mem_of_getElem? (i := 110) rfl)) rfl, WG_of (tb_2 _ (List.mem_of_getElem? (i := 109) rfl)) rfl, WG_of (tb_1 _ (List.mem_of_getElem? (i := 1) rfl)) rfl, by decide +kernel⟩
theorem mv_X4_valueOf : MV yX4_valueOf cX4_valueOf 2 (some .int) 1 := ⟨WG_of (tb_2 _ (List.mem_of_getElem? (i := 114) rfl)) rfl, WG_of (tb_2 _ (List.mem_of_getElem? (i := 112) rfl)) rfl, WG_of (tb_2 _ (List.mem_of_getElem? (i := 113) rfl)) rfl, WG_of (tb_1 _ (List.mem_of_getElem? (i := 2) rfl)) rfl, by decide +kernel⟩
theorem ms_X7_turnOf : MS yX7_turnOf cX7_turnOf 1 (some .int) 1 := ⟨WG_of (tb_2 _ (List.mem_of_getElem? (i := 117) rfl)) rfl, WG_of (tb_2 _ (List.mem_of_getElem? (i := 116) rfl)) rfl, WG_of (tb_1 _ (List.mem_of_getElem? (i := 1) rfl)) rfl, by decide +kernel⟩
theorem mv_X4_allows : MV yX4_allows cX4_allows 3 (some .boolean) 2 := ⟨WG_of (tb_2 _ (List.mem_of_getElem? (i := 121) rfl)) rfl, WG_of (tb_2 _ (List.mem_of_getElem? (i := 119) rfl)) rfl, WG_of (tb_2 _ (List.mem_of_getElem? (i := 120) rfl)) rfl, WG_of (tb_1 _ (List.mem_of_getElem? (i := 2) rfl)) rfl, by decide +kernel⟩
theorem mv_X4_hasLink : MV yX4_hasLink cX4_hasLink 2 (some .boolean) 1 := ⟨WG_of (tb_2 _ (List.mem_of_getElem? (i := 125) rfl)) rfl, WG_of (tb_2 _ (List.mem_of_getElem? (i := 123) rfl)) rfl, WG_of (tb_2 _ (List.mem_of_getElem? (i := 124) rfl)) rfl, WG_of (tb_1 _ (List.mem_of_getElem? (i := 2) rfl)) rfl, by decide +kernel⟩
theorem mv_X7_tip : MV yX7_tip cX7_tip 2 (some .int) 1 := ⟨WG_of (tb_2 _ (List.mem_of_getElem? (i := 132) rfl)) rfl, WG_of (tb_2 _ (List.mem_of_getElem? (i := 130) rfl)) rfl, WG_of (tb_2 _ (List.mem_of_getElem? (i := 131) rfl)) rfl, WG_of (tb_1 _ (List.mem_of_getElem? (i := 1) rfl)) rfl, by decide +kernel⟩
theorem mv_X7_fault : MV yX7_fault cX7_fault 1 (some .int) 0 := ⟨WG_of (tb_2 _ (List.mem_of_getElem? (i := 136) rfl)) rfl, WG_of (tb_2 _ (List.mem_of_getElem? (i := 134) rfl)) rfl, WG_of (tb_2 _ (List.mem_of_getElem? (i := 135) rfl)) rfl, WG_of (tb_1 _ (List.mem_of_getElem? (i := 1) rfl)) rfl, by decide +kernel⟩
theorem mv_X7_poseNumber : MV yX7_poseNumber cX7_poseNumber 1 (some .int) 0 := ⟨WG_of (tb_2 _ (List.mem_of_getElem? (i := 140) rfl)) rfl, WG_of (tb_2 _ (List.mem_of_getElem? (i := 138) rfl)) rfl, WG_of (tb_2 _ (List.mem_of_getElem? (i := 139) rfl)) rfl, WG_of (tb_1 _ (List.mem_of_getElem? (i := 1) rfl)) rfl, by decide +kernel⟩
theorem mv_X4_numberOf : MV yX4_numberOf cX4_numberOf 4 (some .int) 1 := ⟨WG_of (tb_2 _ (List.mem_of_getElem? (i := 144) rfl)) rfl, WG_of (tb_2 _ (List.mem_of_getElem? (i := 142) rfl)) rfl, WG_of (tb_2 _ (List.mem_of_getElem? (i := 143) rfl)) rfl, WG_of (tb_1 _ (List.mem_of_getElem? (i := 2) rfl)) rfl, by decide +kernel⟩
theorem mv_X4_span : MV yX4_span cX4_span 2 (some .int) 1 := ⟨WG_of (tb_2 _ (List.mem_of_getElem? (i := 148) rfl)) rfl, WG_of (tb_2 _ (List.mem_of_getElem? (i := 146) rfl)) rfl, WG_of (tb_2 _ (List.mem_of_getElem? (i := 147) rfl)) rfl, WG_of (tb_1 _ (List.mem_of_getElem? (i := 2) rfl)) rfl, by decide +kernel⟩
theorem ms_J9_max_7cf53 : MS yJ9_max_7cf53 cJ9_max_7cf53 2 (some .int) 2 := ⟨WG_of (tb_2 _ (List.mem_of_getElem? (i := 151) rfl)) rfl, WG_of (tb_2 _ (List.mem_of_getElem? (i := 150) rfl)) rfl, WG_of (tb_1 _ (List.mem_of_getElem? (i := 20) rfl)) rfl, by decide +kernel⟩
theorem mv_X7_winding : MV yX7_winding cX7_winding 3 (some .int) 0 := ⟨WG_of (tb_2 _ (List.mem_of_getElem? (i := 155) rfl)) rfl, WG_of (tb_2 _ (List.mem_of_getElem? (i := 153) rfl)) rfl, WG_of (tb_2 _ (List.mem_of_getElem? (i := 154) rfl)) rfl, WG_of (tb_1 _ (List.mem_of_getElem? (i := 1) rfl)) rfl, by decide +kernel⟩
theorem ms_J9_floorDiv_7cf53 : MS yJ9_floorDiv_7cf53 cJ9_floorDiv_7cf53 3 (some .int) 2 := ⟨WG_of (tb_2 _ (List.mem_of_getElem? (i := 158) rfl)) rfl, WG_of (tb_2 _ (List.mem_of_getElem? (i := 157) rfl)) rfl, WG_of (tb_1 _ (List.mem_of_getElem? (i := 20) rfl)) rfl, by decide +kernel⟩
theorem mv_X7_save : MV yX7_save cX7_save 1 (some .int) 0 := ⟨WG_of (tb_2 _ (List.mem_of_getElem? (i := 162) rfl)) rfl, WG_of (tb_2 _ (List.mem_of_getElem? (i := 160) rfl)) rfl, WG_of (tb_2 _ (List.mem_of_getElem? (i := 161) rfl)) rfl, WG_of (tb_1 _ (List.mem_of_getElem? (i := 1) rfl)) rfl, by decide +kernel⟩
theorem mv_X4_copyFrom : MV yX4_copyFrom cX4_copyFrom 2 none 1 := ⟨WG_of (tb_2 _ (List.mem_of_getElem? (i := 166) rfl)) rfl, WG_of (tb_2 _ (List.mem_of_getElem? (i := 164) rfl)) rfl, WG_of (tb_2 _ (List.mem_of_getElem? (i := 165) rfl)) rfl, WG_of (tb_1 _ (List.mem_of_getElem? (i := 2) rfl)) rfl, by decide +kernel⟩
theorem mv_X7_addLink : MV yX7_addLink cX7_addLink 4 (some .int) 3 := ⟨WG_of (tb_2 _ (List.mem_of_getElem? (i := 176) rfl)) rfl, WG_of (tb_2 _ (List.mem_of_getElem? (i := 174) rfl)) rfl, WG_of (tb_2 _ (List.mem_of_getElem? (i := 175) rfl)) rfl, WG_of (tb_1 _ (List.mem_of_getElem? (i := 1) rfl)) rfl, by decide +kernel⟩
theorem ms_X7_isLimit : MS yX7_isLimit cX7_isLimit 1 (some .boolean) 1 := ⟨WG_of (tb_2 _ (List.mem_of_getElem? (i := 179) rfl)) rfl, WG_of (tb_2 _ (List.mem_of_getElem? (i := 178) rfl)) rfl, WG_of (tb_1 _ (List.mem_of_getElem? (i := 1) rfl)) rfl, by decide +kernel⟩
theorem mv_X7_beginChange : MV yX7_beginChange cX7_beginChange 1 none 0 := ⟨WG_of (tb_3 _ (List.mem_of_getElem? (i := 31) rfl)) rfl, WG_of (tb_3 _ (List.mem_of_getElem? (i := 30) rfl)) rfl, WG_of (pv_1 _ (List.mem_of_getElem? (i := 6) rfl)) rfl, WG_of (tb_1 _ (List.mem_of_getElem? (i := 1) rfl)) rfl, by decide +kernel⟩
theorem mv_X1_remember : MV yX1_remember cX1_remember 3 none 1 := ⟨WG_of (tb_3 _ (List.mem_of_getElem? (i := 35) rfl)) rfl, WG_of (tb_3 _ (List.mem_of_getElem? (i := 33) rfl)) rfl, WG_of (tb_3 _ (List.mem_of_getElem? (i := 34) rfl)) rfl, WG_of (tb_1 _ (List.mem_of_getElem? (i := 3) rfl)) rfl, by decide +kernel⟩
theorem mv_X4_attach : MV yX4_attach cX4_attach 4 (some .boolean) 3 := ⟨WG_of (tb_3 _ (List.mem_of_getElem? (i := 40) rfl)) rfl, WG_of (tb_3 _ (List.mem_of_getElem? (i := 38) rfl)) rfl, WG_of (tb_3 _ (List.mem_of_getElem? (i := 39) rfl)) rfl, WG_of (tb_1 _ (List.mem_of_getElem? (i := 2) rfl)) rfl, by decide +kernel⟩
theorem mv_X7_removeLink : MV yX7_removeLink cX7_removeLink 1 (some .int) 0 := ⟨WG_of (tb_3 _ (List.mem_of_getElem? (i := 47) rfl)) rfl, WG_of (tb_3 _ (List.mem_of_getElem? (i := 45) rfl)) rfl, WG_of (tb_3 _ (List.mem_of_getElem? (i := 46) rfl)) rfl, WG_of (tb_1 _ (List.mem_of_getElem? (i := 1) rfl)) rfl, by decide +kernel⟩
theorem mv_X4_detach : MV yX4_detach cX4_detach 1 none 0 := ⟨WG_of (tb_3 _ (List.mem_of_getElem? (i := 52) rfl)) rfl, WG_of (tb_3 _ (List.mem_of_getElem? (i := 50) rfl)) rfl, WG_of (tb_3 _ (List.mem_of_getElem? (i := 51) rfl)) rfl, WG_of (tb_1 _ (List.mem_of_getElem? (i := 2) rfl)) rfl, by decide +kernel⟩
theorem mv_X7_setLimits : MV yX7_setLimits cX7_setLimits 4 (some .int) 3 := ⟨WG_of (tb_3 _ (List.mem_of_getElem? (i := 83) rfl)) rfl, WG_of (tb_3 _ (List.mem_of_getElem? (i := 81) rfl)) rfl, WG_of (tb_3 _ (List.mem_of_getElem? (i := 82) rfl)) rfl, WG_of (tb_1 _ (List.mem_of_getElem? (i := 1) rfl)) rfl, by decide +kernel⟩
theorem mv_X4_limit : MV yX4_limit cX4_limit 4 none 3 := ⟨WG_of (tb_3 _ (List.mem_of_getElem? (i := 102) rfl)) rfl, WG_of (tb_3 _ (List.mem_of_getElem? (i := 100) rfl)) rfl, WG_of (tb_3 _ (List.mem_of_getElem? (i := 101) rfl)) rfl, WG_of (tb_1 _ (List.mem_of_getElem? (i := 2) rfl)) rfl, by decide +kernel⟩
theorem ms_J9_min_7cf53 : MS yJ9_min_7cf53 cJ9_min_7cf53 2 (some .int) 2 := ⟨WG_of (tb_3 _ (List.mem_of_getElem? (i := 105) rfl)) rfl, WG_of (tb_3 _ (List.mem_of_getElem? (i := 104) rfl)) rfl, WG_of (tb_1 _ (List.mem_of_getElem? (i := 20) rfl)) rfl, by decide +kernel⟩
theorem mv_X7_addObstacle : MV yX7_addObstacle cX7_addObstacle 3 (some .int) 2 := ⟨WG_of (tb_3 _ (List.mem_of_getElem? (i := 112) rfl)) rfl, WG_of (tb_3 _ (List.mem_of_getElem? (i := 110) rfl)) rfl, WG_of (tb_3 _ (List.mem_of_getElem? (i := 111) rfl)) rfl, WG_of (tb_1 _ (List.mem_of_getElem? (i := 1) rfl)) rfl, by decide +kernel⟩
theorem ms_X7_requireCell : MS yX7_requireCell cX7_requireCell 2 none 2 := ⟨WG_of (tb_3 _ (List.mem_of_getElem? (i := 115) rfl)) rfl, WG_of (tb_3 _ (List.mem_of_getElem? (i := 114) rfl)) rfl, WG_of (tb_1 _ (List.mem_of_getElem? (i := 1) rfl)) rfl, by decide +kernel⟩
theorem mv_X4_isBlocked : MV yX4_isBlocked cX4_isBlocked 3 (some .boolean) 2 := ⟨WG_of (tb_3 _ (List.mem_of_getElem? (i := 122) rfl)) rfl, WG_of (tb_3 _ (List.mem_of_getElem? (i := 120) rfl)) rfl, WG_of (tb_3 _ (List.mem_of_getElem? (i := 121) rfl)) rfl, WG_of (tb_1 _ (List.mem_of_getElem? (i := 2) rfl)) rfl, by decide +kernel⟩
theorem mv_X4_block : MV yX4_block cX4_block 3 (some .boolean) 2 := ⟨WG_of (tb_3 _ (List.mem_of_getElem? (i := 128) rfl)) rfl, WG_of (tb_3 _ (List.mem_of_getElem? (i := 126) rfl)) rfl, WG_of (tb_3 _ (List.mem_of_getElem? (i := 127) rfl)) rfl, WG_of (tb_1 _ (List.mem_of_getElem? (i := 2) rfl)) rfl, by decide +kernel⟩
theorem mv_X7_removeObstacle : MV yX7_removeObstacle cX7_removeObstacle 3 (some .int) 2 := ⟨WG_of (tb_3 _ (List.mem_of_getElem? (i := 137) rfl)) rfl, WG_of (tb_3 _ (List.mem_of_getElem? (i := 135) rfl)) rfl, WG_of (tb_3 _ (List.mem_of_getElem? (i := 136) rfl)) rfl, WG_of (tb_1 _ (List.mem_of_getElem? (i := 1) rfl)) rfl, by decide +kernel⟩
theorem mv_X4_unblock : MV yX4_unblock cX4_unblock 5 none 2 := ⟨WG_of (tb_3 _ (List.mem_of_getElem? (i := 157) rfl)) rfl, WG_of (tb_3 _ (List.mem_of_getElem? (i := 155) rfl)) rfl, WG_of (tb_3 _ (List.mem_of_getElem? (i := 156) rfl)) rfl, WG_of (tb_1 _ (List.mem_of_getElem? (i := 2) rfl)) rfl, by decide +kernel⟩
theorem mv_X7_count : MV yX7_count cX7_count 2 (some .int) 1 := ⟨WG_of (tb_3 _ (List.mem_of_getElem? (i := 164) rfl)) rfl, WG_of (tb_3 _ (List.mem_of_getElem? (i := 162) rfl)) rfl, WG_of (tb_3 _ (List.mem_of_getElem? (i := 163) rfl)) rfl, WG_of (tb_1 _ (List.mem_of_getElem? (i := 1) rfl)) rfl, by decide +kernel⟩
theorem mv_X4_poses : MV yX4_poses cX4_poses 3 (some .int) 0 := ⟨WG_of (tb_3 _ (List.mem_of_getElem? (i := 168) rfl)) rfl, WG_of (tb_3 _ (List.mem_of_getElem? (i := 166) rfl)) rfl, WG_of (tb_3 _ (List.mem_of_getElem? (i := 167) rfl)) rfl, WG_of (tb_1 _ (List.mem_of_getElem? (i := 2) rfl)) rfl, by decide +kernel⟩
theorem mv_X4_wholeLength : MV yX4_wholeLength cX4_wholeLength 3 (some .int) 0 := ⟨WG_of (tb_3 _ (List.mem_of_getElem? (i := 172) rfl)) rfl, WG_of (tb_3 _ (List.mem_of_getElem? (i := 170) rfl)) rfl, WG_of (tb_3 _ (List.mem_of_getElem? (i := 171) rfl)) rfl, WG_of (tb_1 _ (List.mem_of_getElem? (i := 2) rfl)) rfl, by decide +kernel⟩
theorem mv_X7_joint : MV yX7_joint cX7_joint 3 (some .int) 2 := ⟨WG_of (tb_3 _ (List.mem_of_getElem? (i := 180) rfl)) rfl, WG_of (tb_3 _ (List.mem_of_getElem? (i := 178) rfl)) rfl, WG_of (tb_3 _ (List.mem_of_getElem? (i := 179) rfl)) rfl, WG_of (tb_1 _ (List.mem_of_getElem? (i := 1) rfl)) rfl, by decide +kernel⟩
theorem ms_J9_floorMod_7cf53 : MS yJ9_floorMod_7cf53 cJ9_floorMod_7cf53 3 (some .int) 2 := ⟨WG_of (tb_3 _ (List.mem_of_getElem? (i := 183) rfl)) rfl, WG_of (tb_3 _ (List.mem_of_getElem? (i := 182) rfl)) rfl, WG_of (tb_1 _ (List.mem_of_getElem? (i := 20) rfl)) rfl, by decide +kernel⟩
theorem mv_X7_isObstacle : MV yX7_isObstacle cX7_isObstacle 3 (some .boolean) 2 := ⟨WG_of (tb_3 _ (List.mem_of_getElem? (i := 191) rfl)) rfl, WG_of (tb_3 _ (List.mem_of_getElem? (i := 189) rfl)) rfl, WG_of (tb_3 _ (List.mem_of_getElem? (i := 190) rfl)) rfl, WG_of (tb_1 _ (List.mem_of_getElem? (i := 1) rfl)) rfl, by decide +kernel⟩
theorem mv_X7_obstacle : MV yX7_obstacle cX7_obstacle 3 (some .int) 2 := ⟨WG_of (tb_3 _ (List.mem_of_getElem? (i := 198) rfl)) rfl, WG_of (tb_3 _ (List.mem_of_getElem? (i := 196) rfl)) rfl, WG_of (tb_3 _ (List.mem_of_getElem? (i := 197) rfl)) rfl, WG_of (tb_1 _ (List.mem_of_getElem? (i := 1) rfl)) rfl, by decide +kernel⟩
theorem mv_X7_setValue : MV yX7_setValue cX7_setValue 4 (some .int) 2 := ⟨WG_of (tb_3 _ (List.mem_of_getElem? (i := 206) rfl)) rfl, WG_of (tb_3 _ (List.mem_of_getElem? (i := 204) rfl)) rfl, WG_of (tb_3 _ (List.mem_of_getElem? (i := 205) rfl)) rfl, WG_of (tb_1 _ (List.mem_of_getElem? (i := 1) rfl)) rfl, by decide +kernel⟩
theorem mv_X7_beginTurn : MV yX7_beginTurn cX7_beginTurn 1 none 0 := ⟨WG_of (tb_3 _ (List.mem_of_getElem? (i := 211) rfl)) rfl, WG_of (tb_3 _ (List.mem_of_getElem? (i := 210) rfl)) rfl, WG_of (pv_1 _ (List.mem_of_getElem? (i := 7) rfl)) rfl, WG_of (tb_1 _ (List.mem_of_getElem? (i := 1) rfl)) rfl, by decide +kernel⟩
theorem mv_X4_turnTo : MV yX4_turnTo cX4_turnTo 3 none 2 := ⟨WG_of (tb_3 _ (List.mem_of_getElem? (i := 215) rfl)) rfl, WG_of (tb_3 _ (List.mem_of_getElem? (i := 213) rfl)) rfl, WG_of (tb_3 _ (List.mem_of_getElem? (i := 214) rfl)) rfl, WG_of (tb_1 _ (List.mem_of_getElem? (i := 2) rfl)) rfl, by decide +kernel⟩
theorem mv_X7_move : MV yX7_move cX7_move 2 (some .int) 1 := ⟨WG_of (tb_3 _ (List.mem_of_getElem? (i := 222) rfl)) rfl, WG_of (tb_3 _ (List.mem_of_getElem? (i := 220) rfl)) rfl, WG_of (tb_3 _ (List.mem_of_getElem? (i := 221) rfl)) rfl, WG_of (tb_1 _ (List.mem_of_getElem? (i := 1) rfl)) rfl, by decide +kernel⟩
theorem mv_X4_turnBy : MV yX4_turnBy cX4_turnBy 3 none 2 := ⟨WG_of (tb_3 _ (List.mem_of_getElem? (i := 228) rfl)) rfl, WG_of (tb_3 _ (List.mem_of_getElem? (i := 226) rfl)) rfl, WG_of (tb_3 _ (List.mem_of_getElem? (i := 227) rfl)) rfl, WG_of (tb_1 _ (List.mem_of_getElem? (i := 2) rfl)) rfl, by decide +kernel⟩
theorem mv_X7_faultyLink : MV yX7_faultyLink cX7_faultyLink 1 (some .int) 0 := ⟨WG_of (tb_3 _ (List.mem_of_getElem? (i := 235) rfl)) rfl, WG_of (tb_3 _ (List.mem_of_getElem? (i := 233) rfl)) rfl, WG_of (tb_3 _ (List.mem_of_getElem? (i := 234) rfl)) rfl, WG_of (tb_1 _ (List.mem_of_getElem? (i := 1) rfl)) rfl, by decide +kernel⟩
theorem mv_X7_linksAt : MV yX7_linksAt cX7_linksAt 6 (some .int) 2 := ⟨WG_of (tb_4 _ (List.mem_of_getElem? (i := 3) rfl)) rfl, WG_of (tb_4 _ (List.mem_of_getElem? (i := 1) rfl)) rfl, WG_of (tb_4 _ (List.mem_of_getElem? (i := 2) rfl)) rfl, WG_of (tb_1 _ (List.mem_of_getElem? (i := 1) rfl)) rfl, by decide +kernel⟩
theorem mv_X6_cellX : MV yX6_cellX cX6_cellX 3 (some .int) 2 := ⟨WG_of (tb_4 _ (List.mem_of_getElem? (i := 7) rfl)) rfl, WG_of (tb_4 _ (List.mem_of_getElem? (i := 5) rfl)) rfl, WG_of (tb_4 _ (List.mem_of_getElem? (i := 6) rfl)) rfl, WG_of (tb_1 _ (List.mem_of_getElem? (i := 4) rfl)) rfl, by decide +kernel⟩
theorem mv_X6_cellY : MV yX6_cellY cX6_cellY 3 (some .int) 2 := ⟨WG_of (tb_4 _ (List.mem_of_getElem? (i := 11) rfl)) rfl, WG_of (tb_4 _ (List.mem_of_getElem? (i := 9) rfl)) rfl, WG_of (tb_4 _ (List.mem_of_getElem? (i := 10) rfl)) rfl, WG_of (tb_1 _ (List.mem_of_getElem? (i := 4) rfl)) rfl, by decide +kernel⟩
theorem mv_X7_clearance : MV yX7_clearance cX7_clearance 4 (some .int) 0 := ⟨WG_of (tb_4 _ (List.mem_of_getElem? (i := 18) rfl)) rfl, WG_of (tb_4 _ (List.mem_of_getElem? (i := 16) rfl)) rfl, WG_of (tb_4 _ (List.mem_of_getElem? (i := 17) rfl)) rfl, WG_of (tb_1 _ (List.mem_of_getElem? (i := 1) rfl)) rfl, by decide +kernel⟩
theorem mv_X7_distanceToObstacles : MV yX7_distanceToObstacles cX7_distanceToObstacles 5 (some .int) 2 := ⟨WG_of (tb_4 _ (List.mem_of_getElem? (i := 24) rfl)) rfl, WG_of (tb_4 _ (List.mem_of_getElem? (i := 23) rfl)) rfl, WG_of (pv_1 _ (List.mem_of_getElem? (i := 8) rfl)) rfl, WG_of (tb_1 _ (List.mem_of_getElem? (i := 1) rfl)) rfl, by decide +kernel⟩
theorem ms_X7_distance : MS yX7_distance cX7_distance 4 (some .int) 4 := ⟨WG_of (tb_4 _ (List.mem_of_getElem? (i := 27) rfl)) rfl, WG_of (tb_4 _ (List.mem_of_getElem? (i := 26) rfl)) rfl, WG_of (tb_1 _ (List.mem_of_getElem? (i := 1) rfl)) rfl, by decide +kernel⟩
theorem ms_J9_abs_0f7a4 : MS yJ9_abs_0f7a4 cJ9_abs_0f7a4 1 (some .int) 1 := ⟨WG_of (tb_4 _ (List.mem_of_getElem? (i := 30) rfl)) rfl, WG_of (tb_4 _ (List.mem_of_getElem? (i := 29) rfl)) rfl, WG_of (tb_1 _ (List.mem_of_getElem? (i := 20) rfl)) rfl, by decide +kernel⟩
theorem mv_X7_freePoses : MV yX7_freePoses cX7_freePoses 3 (some .int) 0 := ⟨WG_of (tb_4 _ (List.mem_of_getElem? (i := 39) rfl)) rfl, WG_of (tb_4 _ (List.mem_of_getElem? (i := 37) rfl)) rfl, WG_of (tb_4 _ (List.mem_of_getElem? (i := 38) rfl)) rfl, WG_of (tb_1 _ (List.mem_of_getElem? (i := 1) rfl)) rfl, by decide +kernel⟩
theorem mv_X7_surveyPoses : MV yX7_surveyPoses cX7_surveyPoses 1 none 0 := ⟨WG_of (tb_4 _ (List.mem_of_getElem? (i := 43) rfl)) rfl, WG_of (tb_4 _ (List.mem_of_getElem? (i := 42) rfl)) rfl, WG_of (pv_1 _ (List.mem_of_getElem? (i := 9) rfl)) rfl, WG_of (tb_1 _ (List.mem_of_getElem? (i := 1) rfl)) rfl, by decide +kernel⟩
theorem mv_X5_survey : MV yX5_survey cX5_survey 4 none 1 := ⟨WG_of (tb_4 _ (List.mem_of_getElem? (i := 48) rfl)) rfl, WG_of (tb_4 _ (List.mem_of_getElem? (i := 46) rfl)) rfl, WG_of (tb_4 _ (List.mem_of_getElem? (i := 47) rfl)) rfl, WG_of (tb_1 _ (List.mem_of_getElem? (i := 5) rfl)) rfl, by decide +kernel⟩
theorem mv_X4_readPose : MV yX4_readPose cX4_readPose 6 none 2 := ⟨WG_of (tb_4 _ (List.mem_of_getElem? (i := 55) rfl)) rfl, WG_of (tb_4 _ (List.mem_of_getElem? (i := 53) rfl)) rfl, WG_of (tb_4 _ (List.mem_of_getElem? (i := 54) rfl)) rfl, WG_of (tb_1 _ (List.mem_of_getElem? (i := 2) rfl)) rfl, by decide +kernel⟩
theorem ms_X7_cellNumber : MS yX7_cellNumber cX7_cellNumber 2 (some .int) 2 := ⟨WG_of (tb_4 _ (List.mem_of_getElem? (i := 59) rfl)) rfl, WG_of (tb_4 _ (List.mem_of_getElem? (i := 58) rfl)) rfl, WG_of (tb_1 _ (List.mem_of_getElem? (i := 1) rfl)) rfl, by decide +kernel⟩
theorem mv_X5_isFree : MV yX5_isFree cX5_isFree 2 (some .boolean) 1 := ⟨WG_of (tb_4 _ (List.mem_of_getElem? (i := 63) rfl)) rfl, WG_of (tb_4 _ (List.mem_of_getElem? (i := 61) rfl)) rfl, WG_of (tb_4 _ (List.mem_of_getElem? (i := 62) rfl)) rfl, WG_of (tb_1 _ (List.mem_of_getElem? (i := 5) rfl)) rfl, by decide +kernel⟩
theorem mv_X5_tipOf : MV yX5_tipOf cX5_tipOf 2 (some .int) 1 := ⟨WG_of (tb_4 _ (List.mem_of_getElem? (i := 67) rfl)) rfl, WG_of (tb_4 _ (List.mem_of_getElem? (i := 65) rfl)) rfl, WG_of (tb_4 _ (List.mem_of_getElem? (i := 66) rfl)) rfl, WG_of (tb_1 _ (List.mem_of_getElem? (i := 5) rfl)) rfl, by decide +kernel⟩
theorem mv_X5_isPose : MV yX5_isPose cX5_isPose 2 (some .boolean) 1 := ⟨WG_of (tb_4 _ (List.mem_of_getElem? (i := 71) rfl)) rfl, WG_of (tb_4 _ (List.mem_of_getElem? (i := 69) rfl)) rfl, WG_of (tb_4 _ (List.mem_of_getElem? (i := 70) rfl)) rfl, WG_of (tb_1 _ (List.mem_of_getElem? (i := 5) rfl)) rfl, by decide +kernel⟩
theorem mv_X7_poseValue : MV yX7_poseValue cX7_poseValue 3 (some .int) 2 := ⟨WG_of (tb_4 _ (List.mem_of_getElem? (i := 78) rfl)) rfl, WG_of (tb_4 _ (List.mem_of_getElem? (i := 76) rfl)) rfl, WG_of (tb_4 _ (List.mem_of_getElem? (i := 77) rfl)) rfl, WG_of (tb_1 _ (List.mem_of_getElem? (i := 1) rfl)) rfl, by decide +kernel⟩
theorem mv_X7_isFreePose : MV yX7_isFreePose cX7_isFreePose 2 (some .boolean) 1 := ⟨WG_of (tb_4 _ (List.mem_of_getElem? (i := 87) rfl)) rfl, WG_of (tb_4 _ (List.mem_of_getElem? (i := 85) rfl)) rfl, WG_of (tb_4 _ (List.mem_of_getElem? (i := 86) rfl)) rfl, WG_of (tb_1 _ (List.mem_of_getElem? (i := 1) rfl)) rfl, by decide +kernel⟩
theorem mv_X7_requirePose : MV yX7_requirePose cX7_requirePose 2 none 1 := ⟨WG_of (tb_4 _ (List.mem_of_getElem? (i := 91) rfl)) rfl, WG_of (tb_4 _ (List.mem_of_getElem? (i := 90) rfl)) rfl, WG_of (pv_1 _ (List.mem_of_getElem? (i := 10) rfl)) rfl, WG_of (tb_1 _ (List.mem_of_getElem? (i := 1) rfl)) rfl, by decide +kernel⟩
theorem mv_X7_posesAt : MV yX7_posesAt cX7_posesAt 5 (some .int) 2 := ⟨WG_of (tb_4 _ (List.mem_of_getElem? (i := 99) rfl)) rfl, WG_of (tb_4 _ (List.mem_of_getElem? (i := 97) rfl)) rfl, WG_of (tb_4 _ (List.mem_of_getElem? (i := 98) rfl)) rfl, WG_of (tb_1 _ (List.mem_of_getElem? (i := 1) rfl)) rfl, by decide +kernel⟩
theorem mv_X7_connected : MV yX7_connected cX7_connected 1 (some .int) 0 := ⟨WG_of (tb_4 _ (List.mem_of_getElem? (i := 108) rfl)) rfl, WG_of (tb_4 _ (List.mem_of_getElem? (i := 106) rfl)) rfl, WG_of (tb_4 _ (List.mem_of_getElem? (i := 107) rfl)) rfl, WG_of (tb_1 _ (List.mem_of_getElem? (i := 1) rfl)) rfl, by decide +kernel⟩
theorem mv_X7_searchFromPresent : MV yX7_searchFromPresent cX7_searchFromPresent 1 none 0 := ⟨WG_of (tb_4 _ (List.mem_of_getElem? (i := 112) rfl)) rfl, WG_of (tb_4 _ (List.mem_of_getElem? (i := 111) rfl)) rfl, WG_of (pv_1 _ (List.mem_of_getElem? (i := 11) rfl)) rfl, WG_of (tb_1 _ (List.mem_of_getElem? (i := 1) rfl)) rfl, by decide +kernel⟩
theorem mv_X5_beginSearch : MV yX5_beginSearch cX5_beginSearch 1 none 0 := ⟨WG_of (tb_4 _ (List.mem_of_getElem? (i := 116) rfl)) rfl, WG_of (tb_4 _ (List.mem_of_getElem? (i := 114) rfl)) rfl, WG_of (tb_4 _ (List.mem_of_getElem? (i := 115) rfl)) rfl, WG_of (tb_1 _ (List.mem_of_getElem? (i := 5) rfl)) rfl, by decide +kernel⟩
theorem mv_X5_reach : MV yX5_reach cX5_reach 3 none 2 := ⟨WG_of (tb_4 _ (List.mem_of_getElem? (i := 121) rfl)) rfl, WG_of (tb_4 _ (List.mem_of_getElem? (i := 119) rfl)) rfl, WG_of (tb_4 _ (List.mem_of_getElem? (i := 120) rfl)) rfl, WG_of (tb_1 _ (List.mem_of_getElem? (i := 5) rfl)) rfl, by decide +kernel⟩
theorem mv_X5_spread : MV yX5_spread cX5_spread 5 none 1 := ⟨WG_of (tb_4 _ (List.mem_of_getElem? (i := 125) rfl)) rfl, WG_of (tb_4 _ (List.mem_of_getElem? (i := 123) rfl)) rfl, WG_of (tb_4 _ (List.mem_of_getElem? (i := 124) rfl)) rfl, WG_of (tb_1 _ (List.mem_of_getElem? (i := 5) rfl)) rfl, by decide +kernel⟩
theorem mv_X5_after : MV yX5_after cX5_after 6 (some .int) 2 := ⟨WG_of (tb_4 _ (List.mem_of_getElem? (i := 130) rfl)) rfl, WG_of (tb_4 _ (List.mem_of_getElem? (i := 128) rfl)) rfl, WG_of (tb_4 _ (List.mem_of_getElem? (i := 129) rfl)) rfl, WG_of (tb_1 _ (List.mem_of_getElem? (i := 5) rfl)) rfl, by decide +kernel⟩
theorem mv_X5_distanceOf : MV yX5_distanceOf cX5_distanceOf 2 (some .int) 1 := ⟨WG_of (tb_4 _ (List.mem_of_getElem? (i := 136) rfl)) rfl, WG_of (tb_4 _ (List.mem_of_getElem? (i := 134) rfl)) rfl, WG_of (tb_4 _ (List.mem_of_getElem? (i := 135) rfl)) rfl, WG_of (tb_1 _ (List.mem_of_getElem? (i := 5) rfl)) rfl, by decide +kernel⟩
theorem mv_X7_reachableCells : MV yX7_reachableCells cX7_reachableCells 3 (some .int) 0 := ⟨WG_of (tb_4 _ (List.mem_of_getElem? (i := 144) rfl)) rfl, WG_of (tb_4 _ (List.mem_of_getElem? (i := 142) rfl)) rfl, WG_of (tb_4 _ (List.mem_of_getElem? (i := 143) rfl)) rfl, WG_of (tb_1 _ (List.mem_of_getElem? (i := 1) rfl)) rfl, by decide +kernel⟩
theorem mv_X7_tallyTips : MV yX7_tallyTips cX7_tallyTips 3 none 0 := ⟨WG_of (tb_4 _ (List.mem_of_getElem? (i := 148) rfl)) rfl, WG_of (tb_4 _ (List.mem_of_getElem? (i := 147) rfl)) rfl, WG_of (pv_1 _ (List.mem_of_getElem? (i := 12) rfl)) rfl, WG_of (tb_1 _ (List.mem_of_getElem? (i := 1) rfl)) rfl, by decide +kernel⟩
theorem mv_X5_reachedPose : MV yX5_reachedPose cX5_reachedPose 2 (some .int) 1 := ⟨WG_of (tb_4 _ (List.mem_of_getElem? (i := 153) rfl)) rfl, WG_of (tb_4 _ (List.mem_of_getElem? (i := 151) rfl)) rfl, WG_of (tb_4 _ (List.mem_of_getElem? (i := 152) rfl)) rfl, WG_of (tb_1 _ (List.mem_of_getElem? (i := 5) rfl)) rfl, by decide +kernel⟩
theorem ms_X7_isCellNumber : MS yX7_isCellNumber cX7_isCellNumber 1 (some .boolean) 1 := ⟨WG_of (tb_4 _ (List.mem_of_getElem? (i := 156) rfl)) rfl, WG_of (tb_4 _ (List.mem_of_getElem? (i := 155) rfl)) rfl, WG_of (tb_1 _ (List.mem_of_getElem? (i := 1) rfl)) rfl, by decide +kernel⟩
theorem mv_X7_favorite : MV yX7_favorite cX7_favorite 4 (some .int) 1 := ⟨WG_of (tb_4 _ (List.mem_of_getElem? (i := 163) rfl)) rfl, WG_of (tb_4 _ (List.mem_of_getElem? (i := 161) rfl)) rfl, WG_of (tb_4 _ (List.mem_of_getElem? (i := 162) rfl)) rfl, WG_of (tb_1 _ (List.mem_of_getElem? (i := 1) rfl)) rfl, by decide +kernel⟩
theorem mv_X7_requireReached : MV yX7_requireReached cX7_requireReached 1 none 0 := ⟨WG_of (tb_4 _ (List.mem_of_getElem? (i := 167) rfl)) rfl, WG_of (tb_4 _ (List.mem_of_getElem? (i := 166) rfl)) rfl, WG_of (pv_1 _ (List.mem_of_getElem? (i := 13) rfl)) rfl, WG_of (tb_1 _ (List.mem_of_getElem? (i := 1) rfl)) rfl, by decide +kernel⟩
theorem ms_X7_cellY : MS yX7_cellY cX7_cellY 1 (some .int) 1 := ⟨WG_of (tb_4 _ (List.mem_of_getElem? (i := 171) rfl)) rfl, WG_of (tb_4 _ (List.mem_of_getElem? (i := 170) rfl)) rfl, WG_of (tb_1 _ (List.mem_of_getElem? (i := 1) rfl)) rfl, by decide +kernel⟩
theorem ms_X7_cellX : MS yX7_cellX cX7_cellX 1 (some .int) 1 := ⟨WG_of (tb_4 _ (List.mem_of_getElem? (i := 174) rfl)) rfl, WG_of (tb_4 _ (List.mem_of_getElem? (i := 173) rfl)) rfl, WG_of (tb_1 _ (List.mem_of_getElem? (i := 1) rfl)) rfl, by decide +kernel⟩
theorem mv_X7_farthest : MV yX7_farthest cX7_farthest 1 (some .int) 0 := ⟨WG_of (tb_4 _ (List.mem_of_getElem? (i := 181) rfl)) rfl, WG_of (tb_4 _ (List.mem_of_getElem? (i := 179) rfl)) rfl, WG_of (tb_4 _ (List.mem_of_getElem? (i := 180) rfl)) rfl, WG_of (tb_1 _ (List.mem_of_getElem? (i := 1) rfl)) rfl, by decide +kernel⟩
theorem mv_X7_groups : MV yX7_groups cX7_groups 4 (some .int) 0 := ⟨WG_of (tb_4 _ (List.mem_of_getElem? (i := 189) rfl)) rfl, WG_of (tb_4 _ (List.mem_of_getElem? (i := 187) rfl)) rfl, WG_of (tb_4 _ (List.mem_of_getElem? (i := 188) rfl)) rfl, WG_of (tb_1 _ (List.mem_of_getElem? (i := 1) rfl)) rfl, by decide +kernel⟩
theorem mv_X7_freedom : MV yX7_freedom cX7_freedom 4 (some .double) 0 := ⟨WG_of (tb_4 _ (List.mem_of_getElem? (i := 210) rfl)) rfl, WG_of (tb_4 _ (List.mem_of_getElem? (i := 208) rfl)) rfl, WG_of (tb_4 _ (List.mem_of_getElem? (i := 209) rfl)) rfl, WG_of (tb_1 _ (List.mem_of_getElem? (i := 1) rfl)) rfl, by decide +kernel⟩
theorem mv_X5_movesFrom : MV yX5_movesFrom cX5_movesFrom 4 (some .int) 1 := ⟨WG_of (tb_4 _ (List.mem_of_getElem? (i := 214) rfl)) rfl, WG_of (tb_4 _ (List.mem_of_getElem? (i := 212) rfl)) rfl, WG_of (tb_4 _ (List.mem_of_getElem? (i := 213) rfl)) rfl, WG_of (tb_1 _ (List.mem_of_getElem? (i := 5) rfl)) rfl, by decide +kernel⟩
theorem mv_X7_planToPose : MV yX7_planToPose cX7_planToPose 2 (some .int) 1 := ⟨WG_of (tb_4 _ (List.mem_of_getElem? (i := 224) rfl)) rfl, WG_of (tb_4 _ (List.mem_of_getElem? (i := 222) rfl)) rfl, WG_of (tb_4 _ (List.mem_of_getElem? (i := 223) rfl)) rfl, WG_of (tb_1 _ (List.mem_of_getElem? (i := 1) rfl)) rfl, by decide +kernel⟩
theorem mv_X7_planBestToPose : MV yX7_planBestToPose cX7_planBestToPose 2 (some .int) 1 := ⟨WG_of (tb_4 _ (List.mem_of_getElem? (i := 228) rfl)) rfl, WG_of (tb_4 _ (List.mem_of_getElem? (i := 227) rfl)) rfl, WG_of (pv_1 _ (List.mem_of_getElem? (i := 14) rfl)) rfl, WG_of (tb_1 _ (List.mem_of_getElem? (i := 1) rfl)) rfl, by decide +kernel⟩
theorem mv_X7_takeBest : MV yX7_takeBest cX7_takeBest 1 (some .int) 0 := ⟨WG_of (tb_4 _ (List.mem_of_getElem? (i := 232) rfl)) rfl, WG_of (tb_4 _ (List.mem_of_getElem? (i := 231) rfl)) rfl, WG_of (pv_1 _ (List.mem_of_getElem? (i := 15) rfl)) rfl, WG_of (tb_1 _ (List.mem_of_getElem? (i := 1) rfl)) rfl, by decide +kernel⟩
theorem mv_X7_requireWay : MV yX7_requireWay cX7_requireWay 1 none 0 := ⟨WG_of (tb_4 _ (List.mem_of_getElem? (i := 236) rfl)) rfl, WG_of (tb_4 _ (List.mem_of_getElem? (i := 235) rfl)) rfl, WG_of (pv_2 _ (List.mem_of_getElem? (i := 0) rfl)) rfl, WG_of (tb_1 _ (List.mem_of_getElem? (i := 1) rfl)) rfl, by decide +kernel⟩
theorem mv_X3_begin : MV yX3_begin cX3_begin 2 none 1 := ⟨WG_of (tb_5 _ (List.mem_of_getElem? (i := 1) rfl)) rfl, WG_of (tb_4 _ (List.mem_of_getElem? (i := 239) rfl)) rfl, WG_of (tb_5 _ (List.mem_of_getElem? (i := 0) rfl)) rfl, WG_of (tb_1 _ (List.mem_of_getElem? (i := 6) rfl)) rfl, by decide +kernel⟩
theorem mv_X5_descend : MV yX5_descend cX5_descend 5 none 1 := ⟨WG_of (tb_5 _ (List.mem_of_getElem? (i := 5) rfl)) rfl, WG_of (tb_5 _ (List.mem_of_getElem? (i := 3) rfl)) rfl, WG_of (tb_5 _ (List.mem_of_getElem? (i := 4) rfl)) rfl, WG_of (tb_1 _ (List.mem_of_getElem? (i := 5) rfl)) rfl, by decide +kernel⟩
theorem mv_X5_nearer : MV yX5_nearer cX5_nearer 4 (some .int) 2 := ⟨WG_of (tb_5 _ (List.mem_of_getElem? (i := 9) rfl)) rfl, WG_of (tb_5 _ (List.mem_of_getElem? (i := 8) rfl)) rfl, WG_of (pv_2 _ (List.mem_of_getElem? (i := 1) rfl)) rfl, WG_of (tb_1 _ (List.mem_of_getElem? (i := 5) rfl)) rfl, by decide +kernel⟩
theorem mv_X3_add : MV yX3_add cX3_add 2 none 1 := ⟨WG_of (tb_5 _ (List.mem_of_getElem? (i := 13) rfl)) rfl, WG_of (tb_5 _ (List.mem_of_getElem? (i := 11) rfl)) rfl, WG_of (tb_5 _ (List.mem_of_getElem? (i := 12) rfl)) rfl, WG_of (tb_1 _ (List.mem_of_getElem? (i := 6) rfl)) rfl, by decide +kernel⟩
theorem mv_X7_planToCell : MV yX7_planToCell cX7_planToCell 3 (some .int) 2 := ⟨WG_of (tb_5 _ (List.mem_of_getElem? (i := 20) rfl)) rfl, WG_of (tb_5 _ (List.mem_of_getElem? (i := 18) rfl)) rfl, WG_of (tb_5 _ (List.mem_of_getElem? (i := 19) rfl)) rfl, WG_of (tb_1 _ (List.mem_of_getElem? (i := 1) rfl)) rfl, by decide +kernel⟩
theorem mv_X7_searchFromTips : MV yX7_searchFromTips cX7_searchFromTips 6 none 3 := ⟨WG_of (tb_5 _ (List.mem_of_getElem? (i := 24) rfl)) rfl, WG_of (tb_5 _ (List.mem_of_getElem? (i := 23) rfl)) rfl, WG_of (pv_2 _ (List.mem_of_getElem? (i := 2) rfl)) rfl, WG_of (tb_1 _ (List.mem_of_getElem? (i := 1) rfl)) rfl, by decide +kernel⟩
theorem mv_X7_planSmooth : MV yX7_planSmooth cX7_planSmooth 3 (some .int) 2 := ⟨WG_of (tb_5 _ (List.mem_of_getElem? (i := 31) rfl)) rfl, WG_of (tb_5 _ (List.mem_of_getElem? (i := 29) rfl)) rfl, WG_of (tb_5 _ (List.mem_of_getElem? (i := 30) rfl)) rfl, WG_of (tb_1 _ (List.mem_of_getElem? (i := 1) rfl)) rfl, by decide +kernel⟩
theorem mv_X5_weighChanges : MV yX5_weighChanges cX5_weighChanges 4 none 0 := ⟨WG_of (tb_5 _ (List.mem_of_getElem? (i := 35) rfl)) rfl, WG_of (tb_5 _ (List.mem_of_getElem? (i := 33) rfl)) rfl, WG_of (tb_5 _ (List.mem_of_getElem? (i := 34) rfl)) rfl, WG_of (tb_1 _ (List.mem_of_getElem? (i := 5) rfl)) rfl, by decide +kernel⟩
theorem mv_X5_weight : MV yX5_weight cX5_weight 4 (some .int) 2 := ⟨WG_of (tb_5 _ (List.mem_of_getElem? (i := 39) rfl)) rfl, WG_of (tb_5 _ (List.mem_of_getElem? (i := 38) rfl)) rfl, WG_of (pv_2 _ (List.mem_of_getElem? (i := 3) rfl)) rfl, WG_of (tb_1 _ (List.mem_of_getElem? (i := 5) rfl)) rfl, by decide +kernel⟩
theorem mv_X5_smoothest : MV yX5_smoothest cX5_smoothest 5 (some .int) 2 := ⟨WG_of (tb_5 _ (List.mem_of_getElem? (i := 44) rfl)) rfl, WG_of (tb_5 _ (List.mem_of_getElem? (i := 43) rfl)) rfl, WG_of (pv_2 _ (List.mem_of_getElem? (i := 4) rfl)) rfl, WG_of (tb_1 _ (List.mem_of_getElem? (i := 5) rfl)) rfl, by decide +kernel⟩
theorem mv_X5_weightBehind : MV yX5_weightBehind cX5_weightBehind 4 (some .int) 3 := ⟨WG_of (tb_5 _ (List.mem_of_getElem? (i := 48) rfl)) rfl, WG_of (tb_5 _ (List.mem_of_getElem? (i := 47) rfl)) rfl, WG_of (pv_2 _ (List.mem_of_getElem? (i := 5) rfl)) rfl, WG_of (tb_1 _ (List.mem_of_getElem? (i := 5) rfl)) rfl, by decide +kernel⟩
theorem mv_X5_descendSmoothly : MV yX5_descendSmoothly cX5_descendSmoothly 5 none 1 := ⟨WG_of (tb_5 _ (List.mem_of_getElem? (i := 52) rfl)) rfl, WG_of (tb_5 _ (List.mem_of_getElem? (i := 50) rfl)) rfl, WG_of (tb_5 _ (List.mem_of_getElem? (i := 51) rfl)) rfl, WG_of (tb_1 _ (List.mem_of_getElem? (i := 5) rfl)) rfl, by decide +kernel⟩
theorem mv_X3_changes : MV yX3_changes cX3_changes 3 (some .int) 0 := ⟨WG_of (tb_5 _ (List.mem_of_getElem? (i := 56) rfl)) rfl, WG_of (tb_5 _ (List.mem_of_getElem? (i := 54) rfl)) rfl, WG_of (tb_5 _ (List.mem_of_getElem? (i := 55) rfl)) rfl, WG_of (tb_1 _ (List.mem_of_getElem? (i := 6) rfl)) rfl, by decide +kernel⟩
theorem mv_X3_stepAt : MV yX3_stepAt cX3_stepAt 2 (some .int) 1 := ⟨WG_of (tb_5 _ (List.mem_of_getElem? (i := 60) rfl)) rfl, WG_of (tb_5 _ (List.mem_of_getElem? (i := 58) rfl)) rfl, WG_of (tb_5 _ (List.mem_of_getElem? (i := 59) rfl)) rfl, WG_of (tb_1 _ (List.mem_of_getElem? (i := 6) rfl)) rfl, by decide +kernel⟩
theorem mv_X7_planNear : MV yX7_planNear cX7_planNear 6 (some .int) 2 := ⟨WG_of (tb_5 _ (List.mem_of_getElem? (i := 67) rfl)) rfl, WG_of (tb_5 _ (List.mem_of_getElem? (i := 65) rfl)) rfl, WG_of (tb_5 _ (List.mem_of_getElem? (i := 66) rfl)) rfl, WG_of (tb_1 _ (List.mem_of_getElem? (i := 1) rfl)) rfl, by decide +kernel⟩
theorem mv_X7_pathLength : MV yX7_pathLength cX7_pathLength 1 (some .int) 0 := ⟨WG_of (tb_5 _ (List.mem_of_getElem? (i := 74) rfl)) rfl, WG_of (tb_5 _ (List.mem_of_getElem? (i := 72) rfl)) rfl, WG_of (tb_5 _ (List.mem_of_getElem? (i := 73) rfl)) rfl, WG_of (tb_1 _ (List.mem_of_getElem? (i := 1) rfl)) rfl, by decide +kernel⟩
theorem mv_X7_requirePath : MV yX7_requirePath cX7_requirePath 1 none 0 := ⟨WG_of (tb_5 _ (List.mem_of_getElem? (i := 78) rfl)) rfl, WG_of (tb_5 _ (List.mem_of_getElem? (i := 77) rfl)) rfl, WG_of (pv_2 _ (List.mem_of_getElem? (i := 6) rfl)) rfl, WG_of (tb_1 _ (List.mem_of_getElem? (i := 1) rfl)) rfl, by decide +kernel⟩
theorem mv_X7_pathMove : MV yX7_pathMove cX7_pathMove 2 (some .int) 1 := ⟨WG_of (tb_5 _ (List.mem_of_getElem? (i := 85) rfl)) rfl, WG_of (tb_5 _ (List.mem_of_getElem? (i := 83) rfl)) rfl, WG_of (tb_5 _ (List.mem_of_getElem? (i := 84) rfl)) rfl, WG_of (tb_1 _ (List.mem_of_getElem? (i := 1) rfl)) rfl, by decide +kernel⟩
theorem mv_X7_pathChanges : MV yX7_pathChanges cX7_pathChanges 1 (some .int) 0 := ⟨WG_of (tb_5 _ (List.mem_of_getElem? (i := 94) rfl)) rfl, WG_of (tb_5 _ (List.mem_of_getElem? (i := 92) rfl)) rfl, WG_of (tb_5 _ (List.mem_of_getElem? (i := 93) rfl)) rfl, WG_of (tb_1 _ (List.mem_of_getElem? (i := 1) rfl)) rfl, by decide +kernel⟩
theorem mv_X7_follow : MV yX7_follow cX7_follow 5 (some .int) 1 := ⟨WG_of (tb_5 _ (List.mem_of_getElem? (i := 101) rfl)) rfl, WG_of (tb_5 _ (List.mem_of_getElem? (i := 99) rfl)) rfl, WG_of (tb_5 _ (List.mem_of_getElem? (i := 100) rfl)) rfl, WG_of (tb_1 _ (List.mem_of_getElem? (i := 1) rfl)) rfl, by decide +kernel⟩
theorem mv_X7_back : MV yX7_back cX7_back 5 (some .int) 1 := ⟨WG_of (tb_5 _ (List.mem_of_getElem? (i := 109) rfl)) rfl, WG_of (tb_5 _ (List.mem_of_getElem? (i := 107) rfl)) rfl, WG_of (tb_5 _ (List.mem_of_getElem? (i := 108) rfl)) rfl, WG_of (tb_1 _ (List.mem_of_getElem? (i := 1) rfl)) rfl, by decide +kernel⟩
theorem mv_X7_pathCells : MV yX7_pathCells cX7_pathCells 5 (some .int) 0 := ⟨WG_of (tb_5 _ (List.mem_of_getElem? (i := 116) rfl)) rfl, WG_of (tb_5 _ (List.mem_of_getElem? (i := 114) rfl)) rfl, WG_of (tb_5 _ (List.mem_of_getElem? (i := 115) rfl)) rfl, WG_of (tb_1 _ (List.mem_of_getElem? (i := 1) rfl)) rfl, by decide +kernel⟩
theorem mv_X7_bookmark : MV yX7_bookmark cX7_bookmark 2 (some .int) 1 := ⟨WG_of (tb_5 _ (List.mem_of_getElem? (i := 124) rfl)) rfl, WG_of (tb_5 _ (List.mem_of_getElem? (i := 122) rfl)) rfl, WG_of (tb_5 _ (List.mem_of_getElem? (i := 123) rfl)) rfl, WG_of (tb_1 _ (List.mem_of_getElem? (i := 1) rfl)) rfl, by decide +kernel⟩
theorem ms_X7_requireName : MS yX7_requireName cX7_requireName 1 none 1 := ⟨WG_of (tb_5 _ (List.mem_of_getElem? (i := 127) rfl)) rfl, WG_of (tb_5 _ (List.mem_of_getElem? (i := 126) rfl)) rfl, WG_of (tb_1 _ (List.mem_of_getElem? (i := 1) rfl)) rfl, by decide +kernel⟩
theorem mv_X0_has : MV yX0_has cX0_has 2 (some .boolean) 1 := ⟨WG_of (tb_5 _ (List.mem_of_getElem? (i := 132) rfl)) rfl, WG_of (tb_5 _ (List.mem_of_getElem? (i := 130) rfl)) rfl, WG_of (tb_5 _ (List.mem_of_getElem? (i := 131) rfl)) rfl, WG_of (tb_1 _ (List.mem_of_getElem? (i := 7) rfl)) rfl, by decide +kernel⟩
theorem mv_X0_put : MV yX0_put cX0_put 3 none 2 := ⟨WG_of (tb_5 _ (List.mem_of_getElem? (i := 137) rfl)) rfl, WG_of (tb_5 _ (List.mem_of_getElem? (i := 135) rfl)) rfl, WG_of (tb_5 _ (List.mem_of_getElem? (i := 136) rfl)) rfl, WG_of (tb_1 _ (List.mem_of_getElem? (i := 7) rfl)) rfl, by decide +kernel⟩
theorem mv_X7_planToName : MV yX7_planToName cX7_planToName 2 (some .int) 1 := ⟨WG_of (tb_5 _ (List.mem_of_getElem? (i := 146) rfl)) rfl, WG_of (tb_5 _ (List.mem_of_getElem? (i := 144) rfl)) rfl, WG_of (tb_5 _ (List.mem_of_getElem? (i := 145) rfl)) rfl, WG_of (tb_1 _ (List.mem_of_getElem? (i := 1) rfl)) rfl, by decide +kernel⟩
theorem mv_X0_suits : MV yX0_suits cX0_suits 4 (some .boolean) 2 := ⟨WG_of (tb_5 _ (List.mem_of_getElem? (i := 150) rfl)) rfl, WG_of (tb_5 _ (List.mem_of_getElem? (i := 148) rfl)) rfl, WG_of (tb_5 _ (List.mem_of_getElem? (i := 149) rfl)) rfl, WG_of (tb_1 _ (List.mem_of_getElem? (i := 7) rfl)) rfl, by decide +kernel⟩
theorem mv_X0_readValues : MV yX0_readValues cX0_readValues 3 none 2 := ⟨WG_of (tb_5 _ (List.mem_of_getElem? (i := 172) rfl)) rfl, WG_of (tb_5 _ (List.mem_of_getElem? (i := 170) rfl)) rfl, WG_of (tb_5 _ (List.mem_of_getElem? (i := 171) rfl)) rfl, WG_of (tb_1 _ (List.mem_of_getElem? (i := 7) rfl)) rfl, by decide +kernel⟩
theorem mv_X7_append : MV yX7_append cX7_append 2 (some .int) 1 := ⟨WG_of (tb_5 _ (List.mem_of_getElem? (i := 179) rfl)) rfl, WG_of (tb_5 _ (List.mem_of_getElem? (i := 177) rfl)) rfl, WG_of (tb_5 _ (List.mem_of_getElem? (i := 178) rfl)) rfl, WG_of (tb_1 _ (List.mem_of_getElem? (i := 1) rfl)) rfl, by decide +kernel⟩
theorem mv_X2_put : MV yX2_put cX2_put 2 none 1 := ⟨WG_of (tb_5 _ (List.mem_of_getElem? (i := 185) rfl)) rfl, WG_of (tb_5 _ (List.mem_of_getElem? (i := 183) rfl)) rfl, WG_of (tb_5 _ (List.mem_of_getElem? (i := 184) rfl)) rfl, WG_of (tb_1 _ (List.mem_of_getElem? (i := 8) rfl)) rfl, by decide +kernel⟩
theorem mv_X7_read : MV yX7_read cX7_read 3 (some .int) 0 := ⟨WG_of (tb_5 _ (List.mem_of_getElem? (i := 192) rfl)) rfl, WG_of (tb_5 _ (List.mem_of_getElem? (i := 190) rfl)) rfl, WG_of (tb_5 _ (List.mem_of_getElem? (i := 191) rfl)) rfl, WG_of (tb_1 _ (List.mem_of_getElem? (i := 1) rfl)) rfl, by decide +kernel⟩
theorem mv_X2_errorPlace : MV yX2_errorPlace cX2_errorPlace 3 (some .int) 0 := ⟨WG_of (tb_5 _ (List.mem_of_getElem? (i := 196) rfl)) rfl, WG_of (tb_5 _ (List.mem_of_getElem? (i := 194) rfl)) rfl, WG_of (tb_5 _ (List.mem_of_getElem? (i := 195) rfl)) rfl, WG_of (tb_1 _ (List.mem_of_getElem? (i := 8) rfl)) rfl, by decide +kernel⟩
theorem mv_X2_signAt : MV yX2_signAt cX2_signAt 2 (some .char) 1 := ⟨WG_of (tb_5 _ (List.mem_of_getElem? (i := 200) rfl)) rfl, WG_of (tb_5 _ (List.mem_of_getElem? (i := 199) rfl)) rfl, WG_of (pv_2 _ (List.mem_of_getElem? (i := 7) rfl)) rfl, WG_of (tb_1 _ (List.mem_of_getElem? (i := 8) rfl)) rfl, by decide +kernel⟩
theorem ms_X2_stateBehind : MS yX2_stateBehind cX2_stateBehind 2 (some .int) 2 := ⟨WG_of (tb_5 _ (List.mem_of_getElem? (i := 203) rfl)) rfl, WG_of (tb_5 _ (List.mem_of_getElem? (i := 202) rfl)) rfl, WG_of (tb_1 _ (List.mem_of_getElem? (i := 8) rfl)) rfl, by decide +kernel⟩
theorem ms_X2_isDigit : MS yX2_isDigit cX2_isDigit 3 (some .boolean) 3 := ⟨WG_of (tb_5 _ (List.mem_of_getElem? (i := 206) rfl)) rfl, WG_of (tb_5 _ (List.mem_of_getElem? (i := 205) rfl)) rfl, WG_of (tb_1 _ (List.mem_of_getElem? (i := 8) rfl)) rfl, by decide +kernel⟩
theorem ms_X2_stateInObstacle : MS yX2_stateInObstacle cX2_stateInObstacle 4 (some .int) 2 := ⟨WG_of (tb_5 _ (List.mem_of_getElem? (i := 209) rfl)) rfl, WG_of (tb_5 _ (List.mem_of_getElem? (i := 208) rfl)) rfl, WG_of (tb_1 _ (List.mem_of_getElem? (i := 8) rfl)) rfl, by decide +kernel⟩
theorem mv_X2_enter : MV yX2_enter cX2_enter 6 (some .int) 1 := ⟨WG_of (tb_5 _ (List.mem_of_getElem? (i := 213) rfl)) rfl, WG_of (tb_5 _ (List.mem_of_getElem? (i := 211) rfl)) rfl, WG_of (tb_5 _ (List.mem_of_getElem? (i := 212) rfl)) rfl, WG_of (tb_1 _ (List.mem_of_getElem? (i := 8) rfl)) rfl, by decide +kernel⟩
theorem mv_X2_readNumbers : MV yX2_readNumbers cX2_readNumbers 7 none 2 := ⟨WG_of (tb_5 _ (List.mem_of_getElem? (i := 217) rfl)) rfl, WG_of (tb_5 _ (List.mem_of_getElem? (i := 216) rfl)) rfl, WG_of (pv_2 _ (List.mem_of_getElem? (i := 8) rfl)) rfl, WG_of (tb_1 _ (List.mem_of_getElem? (i := 8) rfl)) rfl, by decide +kernel⟩
theorem mv_X7_errorPosition : MV yX7_errorPosition cX7_errorPosition 1 (some .int) 0 := ⟨WG_of (tb_5 _ (List.mem_of_getElem? (i := 229) rfl)) rfl, WG_of (tb_5 _ (List.mem_of_getElem? (i := 227) rfl)) rfl, WG_of (tb_5 _ (List.mem_of_getElem? (i := 228) rfl)) rfl, WG_of (tb_1 _ (List.mem_of_getElem? (i := 1) rfl)) rfl, by decide +kernel⟩
theorem mv_X7_undo : MV yX7_undo cX7_undo 1 (some .int) 0 := ⟨WG_of (tb_5 _ (List.mem_of_getElem? (i := 237) rfl)) rfl, WG_of (tb_5 _ (List.mem_of_getElem? (i := 235) rfl)) rfl, WG_of (tb_5 _ (List.mem_of_getElem? (i := 236) rfl)) rfl, WG_of (tb_1 _ (List.mem_of_getElem? (i := 1) rfl)) rfl, by decide +kernel⟩
theorem mv_X1_takeLatest : MV yX1_takeLatest cX1_takeLatest 2 none 1 := ⟨WG_of (tb_6 _ (List.mem_of_getElem? (i := 2) rfl)) rfl, WG_of (tb_6 _ (List.mem_of_getElem? (i := 0) rfl)) rfl, WG_of (tb_6 _ (List.mem_of_getElem? (i := 1) rfl)) rfl, WG_of (tb_1 _ (List.mem_of_getElem? (i := 3) rfl)) rfl, by decide +kernel⟩
theorem mv_X7_restore : MV yX7_restore cX7_restore 1 (some .int) 0 := ⟨WG_of (tb_6 _ (List.mem_of_getElem? (i := 9) rfl)) rfl, WG_of (tb_6 _ (List.mem_of_getElem? (i := 7) rfl)) rfl, WG_of (tb_6 _ (List.mem_of_getElem? (i := 8) rfl)) rfl, WG_of (tb_1 _ (List.mem_of_getElem? (i := 1) rfl)) rfl, by decide +kernel⟩
theorem mv_X8_thrown : MV yX8_thrown cX8_thrown 1 (some .int) 0 := ⟨WG_of (tb_6 _ (List.mem_of_getElem? (i := 115) rfl)) rfl, WG_of (tb_6 _ (List.mem_of_getElem? (i := 113) rfl)) rfl, WG_of (tb_6 _ (List.mem_of_getElem? (i := 114) rfl)) rfl, WG_of (tb_1 _ (List.mem_of_getElem? (i := 9) rfl)) rfl, by decide +kernel⟩
theorem mv_X8_undo : MV yX8_undo cX8_undo 2 (some .int) 0 := ⟨WG_of (tb_6 _ (List.mem_of_getElem? (i := 119) rfl)) rfl, WG_of (tb_6 _ (List.mem_of_getElem? (i := 117) rfl)) rfl, WG_of (tb_6 _ (List.mem_of_getElem? (i := 118) rfl)) rfl, WG_of (tb_1 _ (List.mem_of_getElem? (i := 9) rfl)) rfl, by decide +kernel⟩
theorem mv_X8_fails : MV yX8_fails cX8_fails 2 (some .int) 1 := ⟨WG_of (tb_6 _ (List.mem_of_getElem? (i := 123) rfl)) rfl, WG_of (tb_6 _ (List.mem_of_getElem? (i := 122) rfl)) rfl, WG_of (pv_2 _ (List.mem_of_getElem? (i := 9) rfl)) rfl, WG_of (tb_1 _ (List.mem_of_getElem? (i := 9) rfl)) rfl, by decide +kernel⟩
theorem mv_X8_save : MV yX8_save cX8_save 2 (some .int) 0 := ⟨WG_of (tb_6 _ (List.mem_of_getElem? (i := 127) rfl)) rfl, WG_of (tb_6 _ (List.mem_of_getElem? (i := 125) rfl)) rfl, WG_of (tb_6 _ (List.mem_of_getElem? (i := 126) rfl)) rfl, WG_of (tb_1 _ (List.mem_of_getElem? (i := 9) rfl)) rfl, by decide +kernel⟩
theorem mv_X8_restore : MV yX8_restore cX8_restore 2 (some .int) 0 := ⟨WG_of (tb_6 _ (List.mem_of_getElem? (i := 131) rfl)) rfl, WG_of (tb_6 _ (List.mem_of_getElem? (i := 129) rfl)) rfl, WG_of (tb_6 _ (List.mem_of_getElem? (i := 130) rfl)) rfl, WG_of (tb_1 _ (List.mem_of_getElem? (i := 9) rfl)) rfl, by decide +kernel⟩
theorem mv_X8_clear : MV yX8_clear cX8_clear 2 (some .int) 0 := ⟨WG_of (tb_6 _ (List.mem_of_getElem? (i := 135) rfl)) rfl, WG_of (tb_6 _ (List.mem_of_getElem? (i := 133) rfl)) rfl, WG_of (tb_6 _ (List.mem_of_getElem? (i := 134) rfl)) rfl, WG_of (tb_1 _ (List.mem_of_getElem? (i := 9) rfl)) rfl, by decide +kernel⟩
theorem mv_X8_addLink : MV yX8_addLink cX8_addLink 4 (some .int) 3 := ⟨WG_of (tb_6 _ (List.mem_of_getElem? (i := 139) rfl)) rfl, WG_of (tb_6 _ (List.mem_of_getElem? (i := 137) rfl)) rfl, WG_of (tb_6 _ (List.mem_of_getElem? (i := 138) rfl)) rfl, WG_of (tb_1 _ (List.mem_of_getElem? (i := 9) rfl)) rfl, by decide +kernel⟩
theorem mv_X8_linkStops : MV yX8_linkStops cX8_linkStops 4 (some .int) 3 := ⟨WG_of (tb_6 _ (List.mem_of_getElem? (i := 143) rfl)) rfl, WG_of (tb_6 _ (List.mem_of_getElem? (i := 142) rfl)) rfl, WG_of (pv_2 _ (List.mem_of_getElem? (i := 10) rfl)) rfl, WG_of (tb_1 _ (List.mem_of_getElem? (i := 9) rfl)) rfl, by decide +kernel⟩
theorem ms_X8_in : MS yX8_in cX8_in 3 (some .boolean) 3 := ⟨WG_of (tb_6 _ (List.mem_of_getElem? (i := 146) rfl)) rfl, WG_of (tb_6 _ (List.mem_of_getElem? (i := 145) rfl)) rfl, WG_of (tb_1 _ (List.mem_of_getElem? (i := 9) rfl)) rfl, by decide +kernel⟩
theorem mv_X8_changes : MV yX8_changes cX8_changes 2 none 0 := ⟨WG_of (tb_6 _ (List.mem_of_getElem? (i := 150) rfl)) rfl, WG_of (tb_6 _ (List.mem_of_getElem? (i := 149) rfl)) rfl, WG_of (pv_2 _ (List.mem_of_getElem? (i := 11) rfl)) rfl, WG_of (tb_1 _ (List.mem_of_getElem? (i := 9) rfl)) rfl, by decide +kernel⟩
theorem mv_X8_linkComes : MV yX8_linkComes cX8_linkComes 5 none 3 := ⟨WG_of (tb_6 _ (List.mem_of_getElem? (i := 154) rfl)) rfl, WG_of (tb_6 _ (List.mem_of_getElem? (i := 153) rfl)) rfl, WG_of (pv_2 _ (List.mem_of_getElem? (i := 12) rfl)) rfl, WG_of (tb_1 _ (List.mem_of_getElem? (i := 9) rfl)) rfl, by decide +kernel⟩
theorem mv_X8_removeLink : MV yX8_removeLink cX8_removeLink 1 (some .int) 0 := ⟨WG_of (tb_6 _ (List.mem_of_getElem? (i := 158) rfl)) rfl, WG_of (tb_6 _ (List.mem_of_getElem? (i := 156) rfl)) rfl, WG_of (tb_6 _ (List.mem_of_getElem? (i := 157) rfl)) rfl, WG_of (tb_1 _ (List.mem_of_getElem? (i := 9) rfl)) rfl, by decide +kernel⟩
theorem mv_X8_setLimits : MV yX8_setLimits cX8_setLimits 5 (some .int) 3 := ⟨WG_of (tb_6 _ (List.mem_of_getElem? (i := 162) rfl)) rfl, WG_of (tb_6 _ (List.mem_of_getElem? (i := 160) rfl)) rfl, WG_of (tb_6 _ (List.mem_of_getElem? (i := 161) rfl)) rfl, WG_of (tb_1 _ (List.mem_of_getElem? (i := 9) rfl)) rfl, by decide +kernel⟩
theorem mv_X8_isJoint : MV yX8_isJoint cX8_isJoint 2 (some .boolean) 1 := ⟨WG_of (tb_6 _ (List.mem_of_getElem? (i := 166) rfl)) rfl, WG_of (tb_6 _ (List.mem_of_getElem? (i := 165) rfl)) rfl, WG_of (pv_2 _ (List.mem_of_getElem? (i := 13) rfl)) rfl, WG_of (tb_1 _ (List.mem_of_getElem? (i := 9) rfl)) rfl, by decide +kernel⟩
theorem mv_X8_addObstacle : MV yX8_addObstacle cX8_addObstacle 3 (some .int) 2 := ⟨WG_of (tb_6 _ (List.mem_of_getElem? (i := 170) rfl)) rfl, WG_of (tb_6 _ (List.mem_of_getElem? (i := 168) rfl)) rfl, WG_of (tb_6 _ (List.mem_of_getElem? (i := 169) rfl)) rfl, WG_of (tb_1 _ (List.mem_of_getElem? (i := 9) rfl)) rfl, by decide +kernel⟩
theorem mv_X8_stoneStops : MV yX8_stoneStops cX8_stoneStops 3 (some .int) 2 := ⟨WG_of (tb_6 _ (List.mem_of_getElem? (i := 174) rfl)) rfl, WG_of (tb_6 _ (List.mem_of_getElem? (i := 173) rfl)) rfl, WG_of (pv_2 _ (List.mem_of_getElem? (i := 14) rfl)) rfl, WG_of (tb_1 _ (List.mem_of_getElem? (i := 9) rfl)) rfl, by decide +kernel⟩
theorem ms_X8_isCell : MS yX8_isCell cX8_isCell 2 (some .boolean) 2 := ⟨WG_of (tb_6 _ (List.mem_of_getElem? (i := 177) rfl)) rfl, WG_of (tb_6 _ (List.mem_of_getElem? (i := 176) rfl)) rfl, WG_of (tb_1 _ (List.mem_of_getElem? (i := 9) rfl)) rfl, by decide +kernel⟩
theorem mv_X8_stoneAt : MV yX8_stoneAt cX8_stoneAt 4 (some .int) 2 := ⟨WG_of (tb_6 _ (List.mem_of_getElem? (i := 181) rfl)) rfl, WG_of (tb_6 _ (List.mem_of_getElem? (i := 180) rfl)) rfl, WG_of (pv_2 _ (List.mem_of_getElem? (i := 15) rfl)) rfl, WG_of (tb_1 _ (List.mem_of_getElem? (i := 9) rfl)) rfl, by decide +kernel⟩
theorem mv_X8_stoneComes : MV yX8_stoneComes cX8_stoneComes 3 none 2 := ⟨WG_of (tb_6 _ (List.mem_of_getElem? (i := 185) rfl)) rfl, WG_of (tb_6 _ (List.mem_of_getElem? (i := 184) rfl)) rfl, WG_of (pv_3 _ (List.mem_of_getElem? (i := 0) rfl)) rfl, WG_of (tb_1 _ (List.mem_of_getElem? (i := 9) rfl)) rfl, by decide +kernel⟩
theorem mv_X8_removeObstacle : MV yX8_removeObstacle cX8_removeObstacle 5 (some .int) 2 := ⟨WG_of (tb_6 _ (List.mem_of_getElem? (i := 189) rfl)) rfl, WG_of (tb_6 _ (List.mem_of_getElem? (i := 187) rfl)) rfl, WG_of (tb_6 _ (List.mem_of_getElem? (i := 188) rfl)) rfl, WG_of (tb_1 _ (List.mem_of_getElem? (i := 9) rfl)) rfl, by decide +kernel⟩
theorem mv_X8_count : MV yX8_count cX8_count 4 (some .int) 1 := ⟨WG_of (tb_6 _ (List.mem_of_getElem? (i := 193) rfl)) rfl, WG_of (tb_6 _ (List.mem_of_getElem? (i := 191) rfl)) rfl, WG_of (tb_6 _ (List.mem_of_getElem? (i := 192) rfl)) rfl, WG_of (tb_1 _ (List.mem_of_getElem? (i := 9) rfl)) rfl, by decide +kernel⟩
theorem mv_X8_poses : MV yX8_poses cX8_poses 3 (some .int) 0 := ⟨WG_of (tb_6 _ (List.mem_of_getElem? (i := 197) rfl)) rfl, WG_of (tb_6 _ (List.mem_of_getElem? (i := 196) rfl)) rfl, WG_of (pv_3 _ (List.mem_of_getElem? (i := 1) rfl)) rfl, WG_of (tb_1 _ (List.mem_of_getElem? (i := 9) rfl)) rfl, by decide +kernel⟩
theorem mv_X8_values : MV yX8_values cX8_values 2 (some .int) 1 := ⟨WG_of (tb_6 _ (List.mem_of_getElem? (i := 201) rfl)) rfl, WG_of (tb_6 _ (List.mem_of_getElem? (i := 200) rfl)) rfl, WG_of (pv_3 _ (List.mem_of_getElem? (i := 2) rfl)) rfl, WG_of (tb_1 _ (List.mem_of_getElem? (i := 9) rfl)) rfl, by decide +kernel⟩
theorem mv_X8_down : MV yX8_down cX8_down 2 (some .int) 1 := ⟨WG_of (tb_6 _ (List.mem_of_getElem? (i := 205) rfl)) rfl, WG_of (tb_6 _ (List.mem_of_getElem? (i := 204) rfl)) rfl, WG_of (pv_3 _ (List.mem_of_getElem? (i := 3) rfl)) rfl, WG_of (tb_1 _ (List.mem_of_getElem? (i := 9) rfl)) rfl, by decide +kernel⟩
theorem mv_X8_up : MV yX8_up cX8_up 2 (some .int) 1 := ⟨WG_of (tb_6 _ (List.mem_of_getElem? (i := 209) rfl)) rfl, WG_of (tb_6 _ (List.mem_of_getElem? (i := 208) rfl)) rfl, WG_of (pv_3 _ (List.mem_of_getElem? (i := 4) rfl)) rfl, WG_of (tb_1 _ (List.mem_of_getElem? (i := 9) rfl)) rfl, by decide +kernel⟩
theorem mv_X8_lengthOf : MV yX8_lengthOf cX8_lengthOf 2 (some .int) 1 := ⟨WG_of (tb_6 _ (List.mem_of_getElem? (i := 213) rfl)) rfl, WG_of (tb_6 _ (List.mem_of_getElem? (i := 212) rfl)) rfl, WG_of (pv_3 _ (List.mem_of_getElem? (i := 5) rfl)) rfl, WG_of (tb_1 _ (List.mem_of_getElem? (i := 9) rfl)) rfl, by decide +kernel⟩
theorem mv_X8_joint : MV yX8_joint cX8_joint 3 (some .int) 2 := ⟨WG_of (tb_6 _ (List.mem_of_getElem? (i := 217) rfl)) rfl, WG_of (tb_6 _ (List.mem_of_getElem? (i := 215) rfl)) rfl, WG_of (tb_6 _ (List.mem_of_getElem? (i := 216) rfl)) rfl, WG_of (tb_1 _ (List.mem_of_getElem? (i := 9) rfl)) rfl, by decide +kernel⟩
theorem mv_X8_now : MV yX8_now cX8_now 2 none 0 := ⟨WG_of (tb_6 _ (List.mem_of_getElem? (i := 221) rfl)) rfl, WG_of (tb_6 _ (List.mem_of_getElem? (i := 220) rfl)) rfl, WG_of (pv_3 _ (List.mem_of_getElem? (i := 6) rfl)) rfl, WG_of (tb_1 _ (List.mem_of_getElem? (i := 9) rfl)) rfl, by decide +kernel⟩
theorem mv_X8_lays : MV yX8_lays cX8_lays 3 none 0 := ⟨WG_of (tb_6 _ (List.mem_of_getElem? (i := 225) rfl)) rfl, WG_of (tb_6 _ (List.mem_of_getElem? (i := 224) rfl)) rfl, WG_of (pv_3 _ (List.mem_of_getElem? (i := 7) rfl)) rfl, WG_of (tb_1 _ (List.mem_of_getElem? (i := 9) rfl)) rfl, by decide +kernel⟩
theorem ms_X8_stepX : MS yX8_stepX cX8_stepX 1 (some .int) 1 := ⟨WG_of (tb_6 _ (List.mem_of_getElem? (i := 228) rfl)) rfl, WG_of (tb_6 _ (List.mem_of_getElem? (i := 227) rfl)) rfl, WG_of (tb_1 _ (List.mem_of_getElem? (i := 9) rfl)) rfl, by decide +kernel⟩
theorem ms_X8_stepY : MS yX8_stepY cX8_stepY 1 (some .int) 1 := ⟨WG_of (tb_6 _ (List.mem_of_getElem? (i := 231) rfl)) rfl, WG_of (tb_6 _ (List.mem_of_getElem? (i := 230) rfl)) rfl, WG_of (tb_1 _ (List.mem_of_getElem? (i := 9) rfl)) rfl, by decide +kernel⟩
theorem mv_X8_jointTold : MV yX8_jointTold cX8_jointTold 3 (some .int) 2 := ⟨WG_of (tb_6 _ (List.mem_of_getElem? (i := 235) rfl)) rfl, WG_of (tb_6 _ (List.mem_of_getElem? (i := 234) rfl)) rfl, WG_of (pv_3 _ (List.mem_of_getElem? (i := 8) rfl)) rfl, WG_of (tb_1 _ (List.mem_of_getElem? (i := 9) rfl)) rfl, by decide +kernel⟩
theorem mv_X8_isObstacle : MV yX8_isObstacle cX8_isObstacle 3 (some .boolean) 2 := ⟨WG_of (tb_6 _ (List.mem_of_getElem? (i := 239) rfl)) rfl, WG_of (tb_6 _ (List.mem_of_getElem? (i := 237) rfl)) rfl, WG_of (tb_6 _ (List.mem_of_getElem? (i := 238) rfl)) rfl, WG_of (tb_1 _ (List.mem_of_getElem? (i := 9) rfl)) rfl, by decide +kernel⟩
theorem mv_X8_obstacle : MV yX8_obstacle cX8_obstacle 3 (some .int) 2 := ⟨WG_of (tb_7 _ (List.mem_of_getElem? (i := 3) rfl)) rfl, WG_of (tb_7 _ (List.mem_of_getElem? (i := 1) rfl)) rfl, WG_of (tb_7 _ (List.mem_of_getElem? (i := 2) rfl)) rfl, WG_of (tb_1 _ (List.mem_of_getElem? (i := 9) rfl)) rfl, by decide +kernel⟩
theorem mv_X8_setValue : MV yX8_setValue cX8_setValue 4 (some .int) 2 := ⟨WG_of (tb_7 _ (List.mem_of_getElem? (i := 7) rfl)) rfl, WG_of (tb_7 _ (List.mem_of_getElem? (i := 5) rfl)) rfl, WG_of (tb_7 _ (List.mem_of_getElem? (i := 6) rfl)) rfl, WG_of (tb_1 _ (List.mem_of_getElem? (i := 9) rfl)) rfl, by decide +kernel⟩
theorem mv_X8_move : MV yX8_move cX8_move 2 (some .int) 1 := ⟨WG_of (tb_7 _ (List.mem_of_getElem? (i := 11) rfl)) rfl, WG_of (tb_7 _ (List.mem_of_getElem? (i := 9) rfl)) rfl, WG_of (tb_7 _ (List.mem_of_getElem? (i := 10) rfl)) rfl, WG_of (tb_1 _ (List.mem_of_getElem? (i := 9) rfl)) rfl, by decide +kernel⟩
theorem mv_X8_isMove : MV yX8_isMove cX8_isMove 2 (some .boolean) 1 := ⟨WG_of (tb_7 _ (List.mem_of_getElem? (i := 15) rfl)) rfl, WG_of (tb_7 _ (List.mem_of_getElem? (i := 14) rfl)) rfl, WG_of (pv_3 _ (List.mem_of_getElem? (i := 9) rfl)) rfl, WG_of (tb_1 _ (List.mem_of_getElem? (i := 9) rfl)) rfl, by decide +kernel⟩
theorem mv_X8_mayMove : MV yX8_mayMove cX8_mayMove 3 (some .boolean) 1 := ⟨WG_of (tb_7 _ (List.mem_of_getElem? (i := 19) rfl)) rfl, WG_of (tb_7 _ (List.mem_of_getElem? (i := 18) rfl)) rfl, WG_of (pv_3 _ (List.mem_of_getElem? (i := 10) rfl)) rfl, WG_of (tb_1 _ (List.mem_of_getElem? (i := 9) rfl)) rfl, by decide +kernel⟩
theorem mv_X8_numberNow : MV yX8_numberNow cX8_numberNow 3 (some .int) 0 := ⟨WG_of (tb_7 _ (List.mem_of_getElem? (i := 23) rfl)) rfl, WG_of (tb_7 _ (List.mem_of_getElem? (i := 22) rfl)) rfl, WG_of (pv_3 _ (List.mem_of_getElem? (i := 11) rfl)) rfl, WG_of (tb_1 _ (List.mem_of_getElem? (i := 9) rfl)) rfl, by decide +kernel⟩
theorem mv_X8_behind : MV yX8_behind cX8_behind 7 (some .int) 2 := ⟨WG_of (tb_7 _ (List.mem_of_getElem? (i := 27) rfl)) rfl, WG_of (tb_7 _ (List.mem_of_getElem? (i := 26) rfl)) rfl, WG_of (pv_3 _ (List.mem_of_getElem? (i := 12) rfl)) rfl, WG_of (tb_1 _ (List.mem_of_getElem? (i := 9) rfl)) rfl, by decide +kernel⟩
theorem mv_X8_weight : MV yX8_weight cX8_weight 4 (some .int) 1 := ⟨WG_of (tb_7 _ (List.mem_of_getElem? (i := 31) rfl)) rfl, WG_of (tb_7 _ (List.mem_of_getElem? (i := 30) rfl)) rfl, WG_of (pv_3 _ (List.mem_of_getElem? (i := 13) rfl)) rfl, WG_of (tb_1 _ (List.mem_of_getElem? (i := 9) rfl)) rfl, by decide +kernel⟩
theorem mv_X8_isFreeNow : MV yX8_isFreeNow cX8_isFreeNow 1 (some .boolean) 0 := ⟨WG_of (tb_7 _ (List.mem_of_getElem? (i := 35) rfl)) rfl, WG_of (tb_7 _ (List.mem_of_getElem? (i := 34) rfl)) rfl, WG_of (pv_3 _ (List.mem_of_getElem? (i := 14) rfl)) rfl, WG_of (tb_1 _ (List.mem_of_getElem? (i := 9) rfl)) rfl, by decide +kernel⟩
theorem mv_X8_isFree : MV yX8_isFree cX8_isFree 2 (some .boolean) 1 := ⟨WG_of (tb_7 _ (List.mem_of_getElem? (i := 39) rfl)) rfl, WG_of (tb_7 _ (List.mem_of_getElem? (i := 38) rfl)) rfl, WG_of (pv_3 _ (List.mem_of_getElem? (i := 15) rfl)) rfl, WG_of (tb_1 _ (List.mem_of_getElem? (i := 9) rfl)) rfl, by decide +kernel⟩
theorem mv_X8_takes : MV yX8_takes cX8_takes 4 none 1 := ⟨WG_of (tb_7 _ (List.mem_of_getElem? (i := 43) rfl)) rfl, WG_of (tb_7 _ (List.mem_of_getElem? (i := 42) rfl)) rfl, WG_of (pv_4 _ (List.mem_of_getElem? (i := 0) rfl)) rfl, WG_of (tb_1 _ (List.mem_of_getElem? (i := 9) rfl)) rfl, by decide +kernel⟩
theorem mv_X8_faultHere : MV yX8_faultHere cX8_faultHere 3 (some .int) 0 := ⟨WG_of (tb_7 _ (List.mem_of_getElem? (i := 47) rfl)) rfl, WG_of (tb_7 _ (List.mem_of_getElem? (i := 46) rfl)) rfl, WG_of (pv_4 _ (List.mem_of_getElem? (i := 1) rfl)) rfl, WG_of (tb_1 _ (List.mem_of_getElem? (i := 9) rfl)) rfl, by decide +kernel⟩
theorem mv_X8_isOut : MV yX8_isOut cX8_isOut 2 (some .boolean) 1 := ⟨WG_of (tb_7 _ (List.mem_of_getElem? (i := 51) rfl)) rfl, WG_of (tb_7 _ (List.mem_of_getElem? (i := 50) rfl)) rfl, WG_of (pv_4 _ (List.mem_of_getElem? (i := 2) rfl)) rfl, WG_of (tb_1 _ (List.mem_of_getElem? (i := 9) rfl)) rfl, by decide +kernel⟩
theorem mv_X8_hits : MV yX8_hits cX8_hits 3 (some .boolean) 1 := ⟨WG_of (tb_7 _ (List.mem_of_getElem? (i := 55) rfl)) rfl, WG_of (tb_7 _ (List.mem_of_getElem? (i := 54) rfl)) rfl, WG_of (pv_4 _ (List.mem_of_getElem? (i := 3) rfl)) rfl, WG_of (tb_1 _ (List.mem_of_getElem? (i := 9) rfl)) rfl, by decide +kernel⟩
theorem mv_X8_cellX : MV yX8_cellX cX8_cellX 3 (some .int) 2 := ⟨WG_of (tb_7 _ (List.mem_of_getElem? (i := 59) rfl)) rfl, WG_of (tb_7 _ (List.mem_of_getElem? (i := 58) rfl)) rfl, WG_of (pv_4 _ (List.mem_of_getElem? (i := 4) rfl)) rfl, WG_of (tb_1 _ (List.mem_of_getElem? (i := 9) rfl)) rfl, by decide +kernel⟩
theorem mv_X8_cellY : MV yX8_cellY cX8_cellY 3 (some .int) 2 := ⟨WG_of (tb_7 _ (List.mem_of_getElem? (i := 63) rfl)) rfl, WG_of (tb_7 _ (List.mem_of_getElem? (i := 62) rfl)) rfl, WG_of (pv_4 _ (List.mem_of_getElem? (i := 5) rfl)) rfl, WG_of (tb_1 _ (List.mem_of_getElem? (i := 9) rfl)) rfl, by decide +kernel⟩
theorem mv_X8_crosses : MV yX8_crosses cX8_crosses 6 (some .boolean) 1 := ⟨WG_of (tb_7 _ (List.mem_of_getElem? (i := 67) rfl)) rfl, WG_of (tb_7 _ (List.mem_of_getElem? (i := 66) rfl)) rfl, WG_of (pv_4 _ (List.mem_of_getElem? (i := 6) rfl)) rfl, WG_of (tb_1 _ (List.mem_of_getElem? (i := 9) rfl)) rfl, by decide +kernel⟩
theorem mv_X8_has : MV yX8_has cX8_has 5 (some .boolean) 3 := ⟨WG_of (tb_7 _ (List.mem_of_getElem? (i := 71) rfl)) rfl, WG_of (tb_7 _ (List.mem_of_getElem? (i := 70) rfl)) rfl, WG_of (pv_4 _ (List.mem_of_getElem? (i := 7) rfl)) rfl, WG_of (tb_1 _ (List.mem_of_getElem? (i := 9) rfl)) rfl, by decide +kernel⟩
theorem mv_X8_isJointOf : MV yX8_isJointOf cX8_isJointOf 5 (some .boolean) 4 := ⟨WG_of (tb_7 _ (List.mem_of_getElem? (i := 75) rfl)) rfl, WG_of (tb_7 _ (List.mem_of_getElem? (i := 74) rfl)) rfl, WG_of (pv_4 _ (List.mem_of_getElem? (i := 8) rfl)) rfl, WG_of (tb_1 _ (List.mem_of_getElem? (i := 9) rfl)) rfl, by decide +kernel⟩
theorem mv_X8_turnsTo : MV yX8_turnsTo cX8_turnsTo 2 none 1 := ⟨WG_of (tb_7 _ (List.mem_of_getElem? (i := 79) rfl)) rfl, WG_of (tb_7 _ (List.mem_of_getElem? (i := 78) rfl)) rfl, WG_of (pv_4 _ (List.mem_of_getElem? (i := 9) rfl)) rfl, WG_of (tb_1 _ (List.mem_of_getElem? (i := 9) rfl)) rfl, by decide +kernel⟩
theorem mv_X8_moves : MV yX8_moves cX8_moves 3 (some .int) 0 := ⟨WG_of (tb_7 _ (List.mem_of_getElem? (i := 83) rfl)) rfl, WG_of (tb_7 _ (List.mem_of_getElem? (i := 81) rfl)) rfl, WG_of (tb_7 _ (List.mem_of_getElem? (i := 82) rfl)) rfl, WG_of (tb_1 _ (List.mem_of_getElem? (i := 9) rfl)) rfl, by decide +kernel⟩
theorem mv_X8_tip : MV yX8_tip cX8_tip 2 (some .int) 1 := ⟨WG_of (tb_7 _ (List.mem_of_getElem? (i := 87) rfl)) rfl, WG_of (tb_7 _ (List.mem_of_getElem? (i := 85) rfl)) rfl, WG_of (tb_7 _ (List.mem_of_getElem? (i := 86) rfl)) rfl, WG_of (tb_1 _ (List.mem_of_getElem? (i := 9) rfl)) rfl, by decide +kernel⟩
theorem mv_X8_fault : MV yX8_fault cX8_fault 1 (some .int) 0 := ⟨WG_of (tb_7 _ (List.mem_of_getElem? (i := 91) rfl)) rfl, WG_of (tb_7 _ (List.mem_of_getElem? (i := 89) rfl)) rfl, WG_of (tb_7 _ (List.mem_of_getElem? (i := 90) rfl)) rfl, WG_of (tb_1 _ (List.mem_of_getElem? (i := 9) rfl)) rfl, by decide +kernel⟩
theorem mv_X8_faultyLink : MV yX8_faultyLink cX8_faultyLink 1 (some .int) 0 := ⟨WG_of (tb_7 _ (List.mem_of_getElem? (i := 95) rfl)) rfl, WG_of (tb_7 _ (List.mem_of_getElem? (i := 93) rfl)) rfl, WG_of (tb_7 _ (List.mem_of_getElem? (i := 94) rfl)) rfl, WG_of (tb_1 _ (List.mem_of_getElem? (i := 9) rfl)) rfl, by decide +kernel⟩
theorem mv_X8_linksAt : MV yX8_linksAt cX8_linksAt 5 (some .int) 2 := ⟨WG_of (tb_7 _ (List.mem_of_getElem? (i := 99) rfl)) rfl, WG_of (tb_7 _ (List.mem_of_getElem? (i := 97) rfl)) rfl, WG_of (tb_7 _ (List.mem_of_getElem? (i := 98) rfl)) rfl, WG_of (tb_1 _ (List.mem_of_getElem? (i := 9) rfl)) rfl, by decide +kernel⟩
theorem mv_X8_poseNumber : MV yX8_poseNumber cX8_poseNumber 1 (some .int) 0 := ⟨WG_of (tb_7 _ (List.mem_of_getElem? (i := 103) rfl)) rfl, WG_of (tb_7 _ (List.mem_of_getElem? (i := 101) rfl)) rfl, WG_of (tb_7 _ (List.mem_of_getElem? (i := 102) rfl)) rfl, WG_of (tb_1 _ (List.mem_of_getElem? (i := 9) rfl)) rfl, by decide +kernel⟩
theorem mv_X8_clearance : MV yX8_clearance cX8_clearance 6 (some .int) 0 := ⟨WG_of (tb_7 _ (List.mem_of_getElem? (i := 107) rfl)) rfl, WG_of (tb_7 _ (List.mem_of_getElem? (i := 105) rfl)) rfl, WG_of (tb_7 _ (List.mem_of_getElem? (i := 106) rfl)) rfl, WG_of (tb_1 _ (List.mem_of_getElem? (i := 9) rfl)) rfl, by decide +kernel⟩
theorem ms_X8_distance : MS yX8_distance cX8_distance 4 (some .int) 4 := ⟨WG_of (tb_7 _ (List.mem_of_getElem? (i := 110) rfl)) rfl, WG_of (tb_7 _ (List.mem_of_getElem? (i := 109) rfl)) rfl, WG_of (tb_1 _ (List.mem_of_getElem? (i := 9) rfl)) rfl, by decide +kernel⟩
theorem ms_X8_size : MS yX8_size cX8_size 1 (some .int) 1 := ⟨WG_of (tb_7 _ (List.mem_of_getElem? (i := 113) rfl)) rfl, WG_of (tb_7 _ (List.mem_of_getElem? (i := 112) rfl)) rfl, WG_of (tb_1 _ (List.mem_of_getElem? (i := 9) rfl)) rfl, by decide +kernel⟩
theorem mv_X8_winding : MV yX8_winding cX8_winding 3 (some .int) 0 := ⟨WG_of (tb_7 _ (List.mem_of_getElem? (i := 117) rfl)) rfl, WG_of (tb_7 _ (List.mem_of_getElem? (i := 115) rfl)) rfl, WG_of (tb_7 _ (List.mem_of_getElem? (i := 116) rfl)) rfl, WG_of (tb_1 _ (List.mem_of_getElem? (i := 9) rfl)) rfl, by decide +kernel⟩
theorem mv_X8_freePoses : MV yX8_freePoses cX8_freePoses 1 (some .int) 0 := ⟨WG_of (tb_7 _ (List.mem_of_getElem? (i := 121) rfl)) rfl, WG_of (tb_7 _ (List.mem_of_getElem? (i := 119) rfl)) rfl, WG_of (tb_7 _ (List.mem_of_getElem? (i := 120) rfl)) rfl, WG_of (tb_1 _ (List.mem_of_getElem? (i := 9) rfl)) rfl, by decide +kernel⟩
theorem mv_X8_isMany : MV yX8_isMany cX8_isMany 1 (some .boolean) 0 := ⟨WG_of (tb_7 _ (List.mem_of_getElem? (i := 125) rfl)) rfl, WG_of (tb_7 _ (List.mem_of_getElem? (i := 124) rfl)) rfl, WG_of (pv_4 _ (List.mem_of_getElem? (i := 10) rfl)) rfl, WG_of (tb_1 _ (List.mem_of_getElem? (i := 9) rfl)) rfl, by decide +kernel⟩
theorem mv_X8_freeAt : MV yX8_freeAt cX8_freeAt 4 (some .int) 1 := ⟨WG_of (tb_7 _ (List.mem_of_getElem? (i := 129) rfl)) rfl, WG_of (tb_7 _ (List.mem_of_getElem? (i := 128) rfl)) rfl, WG_of (pv_4 _ (List.mem_of_getElem? (i := 11) rfl)) rfl, WG_of (tb_1 _ (List.mem_of_getElem? (i := 9) rfl)) rfl, by decide +kernel⟩
theorem mv_X8_laysAll : MV yX8_laysAll cX8_laysAll 2 none 0 := ⟨WG_of (tb_7 _ (List.mem_of_getElem? (i := 133) rfl)) rfl, WG_of (tb_7 _ (List.mem_of_getElem? (i := 132) rfl)) rfl, WG_of (pv_4 _ (List.mem_of_getElem? (i := 12) rfl)) rfl, WG_of (tb_1 _ (List.mem_of_getElem? (i := 9) rfl)) rfl, by decide +kernel⟩
theorem ms_X8_cellOf : MS yX8_cellOf cX8_cellOf 2 (some .int) 2 := ⟨WG_of (tb_7 _ (List.mem_of_getElem? (i := 136) rfl)) rfl, WG_of (tb_7 _ (List.mem_of_getElem? (i := 135) rfl)) rfl, WG_of (tb_1 _ (List.mem_of_getElem? (i := 9) rfl)) rfl, by decide +kernel⟩
theorem mv_X8_poseValue : MV yX8_poseValue cX8_poseValue 3 (some .int) 2 := ⟨WG_of (tb_7 _ (List.mem_of_getElem? (i := 140) rfl)) rfl, WG_of (tb_7 _ (List.mem_of_getElem? (i := 138) rfl)) rfl, WG_of (tb_7 _ (List.mem_of_getElem? (i := 139) rfl)) rfl, WG_of (tb_1 _ (List.mem_of_getElem? (i := 9) rfl)) rfl, by decide +kernel⟩
theorem mv_X8_isPose : MV yX8_isPose cX8_isPose 2 (some .boolean) 1 := ⟨WG_of (tb_7 _ (List.mem_of_getElem? (i := 144) rfl)) rfl, WG_of (tb_7 _ (List.mem_of_getElem? (i := 143) rfl)) rfl, WG_of (pv_4 _ (List.mem_of_getElem? (i := 13) rfl)) rfl, WG_of (tb_1 _ (List.mem_of_getElem? (i := 9) rfl)) rfl, by decide +kernel⟩
theorem mv_X8_isFreePose : MV yX8_isFreePose cX8_isFreePose 2 (some .boolean) 1 := ⟨WG_of (tb_7 _ (List.mem_of_getElem? (i := 148) rfl)) rfl, WG_of (tb_7 _ (List.mem_of_getElem? (i := 146) rfl)) rfl, WG_of (tb_7 _ (List.mem_of_getElem? (i := 147) rfl)) rfl, WG_of (tb_1 _ (List.mem_of_getElem? (i := 9) rfl)) rfl, by decide +kernel⟩
theorem mv_X8_posesAt : MV yX8_posesAt cX8_posesAt 3 (some .int) 2 := ⟨WG_of (tb_7 _ (List.mem_of_getElem? (i := 152) rfl)) rfl, WG_of (tb_7 _ (List.mem_of_getElem? (i := 150) rfl)) rfl, WG_of (tb_7 _ (List.mem_of_getElem? (i := 151) rfl)) rfl, WG_of (tb_1 _ (List.mem_of_getElem? (i := 9) rfl)) rfl, by decide +kernel⟩
theorem mv_X8_connected : MV yX8_connected cX8_connected 1 (some .int) 0 := ⟨WG_of (tb_7 _ (List.mem_of_getElem? (i := 156) rfl)) rfl, WG_of (tb_7 _ (List.mem_of_getElem? (i := 154) rfl)) rfl, WG_of (tb_7 _ (List.mem_of_getElem? (i := 155) rfl)) rfl, WG_of (tb_1 _ (List.mem_of_getElem? (i := 9) rfl)) rfl, by decide +kernel⟩
theorem mv_X8_connects : MV yX8_connects cX8_connects 1 none 0 := ⟨WG_of (tb_7 _ (List.mem_of_getElem? (i := 160) rfl)) rfl, WG_of (tb_7 _ (List.mem_of_getElem? (i := 159) rfl)) rfl, WG_of (pv_4 _ (List.mem_of_getElem? (i := 14) rfl)) rfl, WG_of (tb_1 _ (List.mem_of_getElem? (i := 9) rfl)) rfl, by decide +kernel⟩
theorem mv_X8_forgets : MV yX8_forgets cX8_forgets 2 none 0 := ⟨WG_of (tb_7 _ (List.mem_of_getElem? (i := 164) rfl)) rfl, WG_of (tb_7 _ (List.mem_of_getElem? (i := 163) rfl)) rfl, WG_of (pv_4 _ (List.mem_of_getElem? (i := 15) rfl)) rfl, WG_of (tb_1 _ (List.mem_of_getElem? (i := 9) rfl)) rfl, by decide +kernel⟩
theorem mv_X8_starts : MV yX8_starts cX8_starts 2 none 1 := ⟨WG_of (tb_7 _ (List.mem_of_getElem? (i := 168) rfl)) rfl, WG_of (tb_7 _ (List.mem_of_getElem? (i := 167) rfl)) rfl, WG_of (pv_5 _ (List.mem_of_getElem? (i := 0) rfl)) rfl, WG_of (tb_1 _ (List.mem_of_getElem? (i := 9) rfl)) rfl, by decide +kernel⟩
theorem mv_X8_spreads : MV yX8_spreads cX8_spreads 5 none 1 := ⟨WG_of (tb_7 _ (List.mem_of_getElem? (i := 172) rfl)) rfl, WG_of (tb_7 _ (List.mem_of_getElem? (i := 171) rfl)) rfl, WG_of (pv_5 _ (List.mem_of_getElem? (i := 1) rfl)) rfl, WG_of (tb_1 _ (List.mem_of_getElem? (i := 9) rfl)) rfl, by decide +kernel⟩
theorem mv_X8_reachableCells : MV yX8_reachableCells cX8_reachableCells 1 (some .int) 0 := ⟨WG_of (tb_7 _ (List.mem_of_getElem? (i := 176) rfl)) rfl, WG_of (tb_7 _ (List.mem_of_getElem? (i := 174) rfl)) rfl, WG_of (tb_7 _ (List.mem_of_getElem? (i := 175) rfl)) rfl, WG_of (tb_1 _ (List.mem_of_getElem? (i := 9) rfl)) rfl, by decide +kernel⟩
theorem mv_X8_counts : MV yX8_counts cX8_counts 3 (some .int) 0 := ⟨WG_of (tb_7 _ (List.mem_of_getElem? (i := 180) rfl)) rfl, WG_of (tb_7 _ (List.mem_of_getElem? (i := 179) rfl)) rfl, WG_of (pv_5 _ (List.mem_of_getElem? (i := 2) rfl)) rfl, WG_of (tb_1 _ (List.mem_of_getElem? (i := 9) rfl)) rfl, by decide +kernel⟩
theorem mv_X8_favorite : MV yX8_favorite cX8_favorite 4 (some .int) 1 := ⟨WG_of (tb_7 _ (List.mem_of_getElem? (i := 184) rfl)) rfl, WG_of (tb_7 _ (List.mem_of_getElem? (i := 182) rfl)) rfl, WG_of (tb_7 _ (List.mem_of_getElem? (i := 183) rfl)) rfl, WG_of (tb_1 _ (List.mem_of_getElem? (i := 9) rfl)) rfl, by decide +kernel⟩
theorem mv_X8_farthest : MV yX8_farthest cX8_farthest 1 (some .int) 0 := ⟨WG_of (tb_7 _ (List.mem_of_getElem? (i := 188) rfl)) rfl, WG_of (tb_7 _ (List.mem_of_getElem? (i := 186) rfl)) rfl, WG_of (tb_7 _ (List.mem_of_getElem? (i := 187) rfl)) rfl, WG_of (tb_1 _ (List.mem_of_getElem? (i := 9) rfl)) rfl, by decide +kernel⟩
theorem mv_X8_groups : MV yX8_groups cX8_groups 4 (some .int) 0 := ⟨WG_of (tb_7 _ (List.mem_of_getElem? (i := 192) rfl)) rfl, WG_of (tb_7 _ (List.mem_of_getElem? (i := 190) rfl)) rfl, WG_of (tb_7 _ (List.mem_of_getElem? (i := 191) rfl)) rfl, WG_of (tb_1 _ (List.mem_of_getElem? (i := 9) rfl)) rfl, by decide +kernel⟩
theorem mv_X8_freedom : MV yX8_freedom cX8_freedom 6 (some .double) 0 := ⟨WG_of (tb_7 _ (List.mem_of_getElem? (i := 196) rfl)) rfl, WG_of (tb_7 _ (List.mem_of_getElem? (i := 194) rfl)) rfl, WG_of (tb_7 _ (List.mem_of_getElem? (i := 195) rfl)) rfl, WG_of (tb_1 _ (List.mem_of_getElem? (i := 9) rfl)) rfl, by decide +kernel⟩
theorem mv_X8_planToPose : MV yX8_planToPose cX8_planToPose 2 (some .int) 1 := ⟨WG_of (tb_7 _ (List.mem_of_getElem? (i := 200) rfl)) rfl, WG_of (tb_7 _ (List.mem_of_getElem? (i := 198) rfl)) rfl, WG_of (tb_7 _ (List.mem_of_getElem? (i := 199) rfl)) rfl, WG_of (tb_1 _ (List.mem_of_getElem? (i := 9) rfl)) rfl, by decide +kernel⟩
theorem mv_X8_toPose : MV yX8_toPose cX8_toPose 2 none 1 := ⟨WG_of (tb_7 _ (List.mem_of_getElem? (i := 204) rfl)) rfl, WG_of (tb_7 _ (List.mem_of_getElem? (i := 203) rfl)) rfl, WG_of (pv_5 _ (List.mem_of_getElem? (i := 3) rfl)) rfl, WG_of (tb_1 _ (List.mem_of_getElem? (i := 9) rfl)) rfl, by decide +kernel⟩
theorem mv_X8_leads : MV yX8_leads cX8_leads 3 (some .boolean) 0 := ⟨WG_of (tb_7 _ (List.mem_of_getElem? (i := 208) rfl)) rfl, WG_of (tb_7 _ (List.mem_of_getElem? (i := 207) rfl)) rfl, WG_of (pv_5 _ (List.mem_of_getElem? (i := 4) rfl)) rfl, WG_of (tb_1 _ (List.mem_of_getElem? (i := 9) rfl)) rfl, by decide +kernel⟩
theorem mv_X8_isNearer : MV yX8_isNearer cX8_isNearer 4 (some .boolean) 2 := ⟨WG_of (tb_7 _ (List.mem_of_getElem? (i := 212) rfl)) rfl, WG_of (tb_7 _ (List.mem_of_getElem? (i := 211) rfl)) rfl, WG_of (pv_5 _ (List.mem_of_getElem? (i := 5) rfl)) rfl, WG_of (tb_1 _ (List.mem_of_getElem? (i := 9) rfl)) rfl, by decide +kernel⟩
theorem mv_X8_planToCell : MV yX8_planToCell cX8_planToCell 3 (some .int) 2 := ⟨WG_of (tb_7 _ (List.mem_of_getElem? (i := 216) rfl)) rfl, WG_of (tb_7 _ (List.mem_of_getElem? (i := 214) rfl)) rfl, WG_of (tb_7 _ (List.mem_of_getElem? (i := 215) rfl)) rfl, WG_of (tb_1 _ (List.mem_of_getElem? (i := 9) rfl)) rfl, by decide +kernel⟩
theorem mv_X8_toCell : MV yX8_toCell cX8_toCell 3 none 1 := ⟨WG_of (tb_7 _ (List.mem_of_getElem? (i := 220) rfl)) rfl, WG_of (tb_7 _ (List.mem_of_getElem? (i := 219) rfl)) rfl, WG_of (pv_5 _ (List.mem_of_getElem? (i := 6) rfl)) rfl, WG_of (tb_1 _ (List.mem_of_getElem? (i := 9) rfl)) rfl, by decide +kernel⟩
theorem mv_X8_planSmooth : MV yX8_planSmooth cX8_planSmooth 7 (some .int) 2 := ⟨WG_of (tb_7 _ (List.mem_of_getElem? (i := 224) rfl)) rfl, WG_of (tb_7 _ (List.mem_of_getElem? (i := 222) rfl)) rfl, WG_of (tb_7 _ (List.mem_of_getElem? (i := 223) rfl)) rfl, WG_of (tb_1 _ (List.mem_of_getElem? (i := 9) rfl)) rfl, by decide +kernel⟩
theorem mv_X8_leastTurns : MV yX8_leastTurns cX8_leastTurns 5 (some .int) 2 := ⟨WG_of (tb_7 _ (List.mem_of_getElem? (i := 228) rfl)) rfl, WG_of (tb_7 _ (List.mem_of_getElem? (i := 227) rfl)) rfl, WG_of (pv_5 _ (List.mem_of_getElem? (i := 7) rfl)) rfl, WG_of (tb_1 _ (List.mem_of_getElem? (i := 9) rfl)) rfl, by decide +kernel⟩
theorem mv_X8_turnsBy : MV yX8_turnsBy cX8_turnsBy 4 (some .int) 3 := ⟨WG_of (tb_7 _ (List.mem_of_getElem? (i := 232) rfl)) rfl, WG_of (tb_7 _ (List.mem_of_getElem? (i := 231) rfl)) rfl, WG_of (pv_5 _ (List.mem_of_getElem? (i := 8) rfl)) rfl, WG_of (tb_1 _ (List.mem_of_getElem? (i := 9) rfl)) rfl, by decide +kernel⟩
theorem mv_X8_changesOf : MV yX8_changesOf cX8_changesOf 3 (some .int) 0 := ⟨WG_of (tb_7 _ (List.mem_of_getElem? (i := 236) rfl)) rfl, WG_of (tb_7 _ (List.mem_of_getElem? (i := 235) rfl)) rfl, WG_of (pv_5 _ (List.mem_of_getElem? (i := 9) rfl)) rfl, WG_of (tb_1 _ (List.mem_of_getElem? (i := 9) rfl)) rfl, by decide +kernel⟩
theorem mv_X8_planNear : MV yX8_planNear cX8_planNear 6 (some .int) 2 := ⟨WG_of (tb_8 _ (List.mem_of_getElem? (i := 0) rfl)) rfl, WG_of (tb_7 _ (List.mem_of_getElem? (i := 238) rfl)) rfl, WG_of (tb_7 _ (List.mem_of_getElem? (i := 239) rfl)) rfl, WG_of (tb_1 _ (List.mem_of_getElem? (i := 9) rfl)) rfl, by decide +kernel⟩
theorem mv_X8_tipDistance : MV yX8_tipDistance cX8_tipDistance 4 (some .int) 3 := ⟨WG_of (tb_8 _ (List.mem_of_getElem? (i := 4) rfl)) rfl, WG_of (tb_8 _ (List.mem_of_getElem? (i := 3) rfl)) rfl, WG_of (pv_5 _ (List.mem_of_getElem? (i := 10) rfl)) rfl, WG_of (tb_1 _ (List.mem_of_getElem? (i := 9) rfl)) rfl, by decide +kernel⟩
theorem mv_X8_pathLength : MV yX8_pathLength cX8_pathLength 1 (some .int) 0 := ⟨WG_of (tb_8 _ (List.mem_of_getElem? (i := 8) rfl)) rfl, WG_of (tb_8 _ (List.mem_of_getElem? (i := 6) rfl)) rfl, WG_of (tb_8 _ (List.mem_of_getElem? (i := 7) rfl)) rfl, WG_of (tb_1 _ (List.mem_of_getElem? (i := 9) rfl)) rfl, by decide +kernel⟩
theorem mv_X8_pathMove : MV yX8_pathMove cX8_pathMove 2 (some .int) 1 := ⟨WG_of (tb_8 _ (List.mem_of_getElem? (i := 12) rfl)) rfl, WG_of (tb_8 _ (List.mem_of_getElem? (i := 10) rfl)) rfl, WG_of (tb_8 _ (List.mem_of_getElem? (i := 11) rfl)) rfl, WG_of (tb_1 _ (List.mem_of_getElem? (i := 9) rfl)) rfl, by decide +kernel⟩
theorem mv_X8_pathChanges : MV yX8_pathChanges cX8_pathChanges 1 (some .int) 0 := ⟨WG_of (tb_8 _ (List.mem_of_getElem? (i := 16) rfl)) rfl, WG_of (tb_8 _ (List.mem_of_getElem? (i := 14) rfl)) rfl, WG_of (tb_8 _ (List.mem_of_getElem? (i := 15) rfl)) rfl, WG_of (tb_1 _ (List.mem_of_getElem? (i := 9) rfl)) rfl, by decide +kernel⟩
theorem mv_X8_follow : MV yX8_follow cX8_follow 3 (some .int) 1 := ⟨WG_of (tb_8 _ (List.mem_of_getElem? (i := 20) rfl)) rfl, WG_of (tb_8 _ (List.mem_of_getElem? (i := 18) rfl)) rfl, WG_of (tb_8 _ (List.mem_of_getElem? (i := 19) rfl)) rfl, WG_of (tb_1 _ (List.mem_of_getElem? (i := 9) rfl)) rfl, by decide +kernel⟩
theorem mv_X8_back : MV yX8_back cX8_back 3 (some .int) 1 := ⟨WG_of (tb_8 _ (List.mem_of_getElem? (i := 24) rfl)) rfl, WG_of (tb_8 _ (List.mem_of_getElem? (i := 22) rfl)) rfl, WG_of (tb_8 _ (List.mem_of_getElem? (i := 23) rfl)) rfl, WG_of (tb_1 _ (List.mem_of_getElem? (i := 9) rfl)) rfl, by decide +kernel⟩
theorem mv_X8_pathCells : MV yX8_pathCells cX8_pathCells 3 (some .int) 0 := ⟨WG_of (tb_8 _ (List.mem_of_getElem? (i := 28) rfl)) rfl, WG_of (tb_8 _ (List.mem_of_getElem? (i := 26) rfl)) rfl, WG_of (tb_8 _ (List.mem_of_getElem? (i := 27) rfl)) rfl, WG_of (tb_1 _ (List.mem_of_getElem? (i := 9) rfl)) rfl, by decide +kernel⟩
theorem mv_X8_bookmark : MV yX8_bookmark cX8_bookmark 4 (some .int) 1 := ⟨WG_of (tb_8 _ (List.mem_of_getElem? (i := 32) rfl)) rfl, WG_of (tb_8 _ (List.mem_of_getElem? (i := 30) rfl)) rfl, WG_of (tb_8 _ (List.mem_of_getElem? (i := 31) rfl)) rfl, WG_of (tb_1 _ (List.mem_of_getElem? (i := 9) rfl)) rfl, by decide +kernel⟩
theorem mv_X8_used : MV yX8_used cX8_used 3 (some .int) 0 := ⟨WG_of (tb_8 _ (List.mem_of_getElem? (i := 36) rfl)) rfl, WG_of (tb_8 _ (List.mem_of_getElem? (i := 35) rfl)) rfl, WG_of (pv_5 _ (List.mem_of_getElem? (i := 11) rfl)) rfl, WG_of (tb_1 _ (List.mem_of_getElem? (i := 9) rfl)) rfl, by decide +kernel⟩
theorem mv_X8_planToName : MV yX8_planToName cX8_planToName 5 (some .int) 1 := ⟨WG_of (tb_8 _ (List.mem_of_getElem? (i := 40) rfl)) rfl, WG_of (tb_8 _ (List.mem_of_getElem? (i := 38) rfl)) rfl, WG_of (tb_8 _ (List.mem_of_getElem? (i := 39) rfl)) rfl, WG_of (tb_1 _ (List.mem_of_getElem? (i := 9) rfl)) rfl, by decide +kernel⟩
theorem mv_X8_isNamed : MV yX8_isNamed cX8_isNamed 4 (some .boolean) 1 := ⟨WG_of (tb_8 _ (List.mem_of_getElem? (i := 44) rfl)) rfl, WG_of (tb_8 _ (List.mem_of_getElem? (i := 43) rfl)) rfl, WG_of (pv_5 _ (List.mem_of_getElem? (i := 12) rfl)) rfl, WG_of (tb_1 _ (List.mem_of_getElem? (i := 9) rfl)) rfl, by decide +kernel⟩
theorem mv_X8_append : MV yX8_append cX8_append 2 (some .int) 1 := ⟨WG_of (tb_8 _ (List.mem_of_getElem? (i := 48) rfl)) rfl, WG_of (tb_8 _ (List.mem_of_getElem? (i := 46) rfl)) rfl, WG_of (tb_8 _ (List.mem_of_getElem? (i := 47) rfl)) rfl, WG_of (tb_1 _ (List.mem_of_getElem? (i := 9) rfl)) rfl, by decide +kernel⟩
theorem mv_X8_read : MV yX8_read cX8_read 3 (some .int) 0 := ⟨WG_of (tb_8 _ (List.mem_of_getElem? (i := 52) rfl)) rfl, WG_of (tb_8 _ (List.mem_of_getElem? (i := 50) rfl)) rfl, WG_of (tb_8 _ (List.mem_of_getElem? (i := 51) rfl)) rfl, WG_of (tb_1 _ (List.mem_of_getElem? (i := 9) rfl)) rfl, by decide +kernel⟩
theorem mv_X8_isText : MV yX8_isText cX8_isText 1 (some .boolean) 0 := ⟨WG_of (tb_8 _ (List.mem_of_getElem? (i := 56) rfl)) rfl, WG_of (tb_8 _ (List.mem_of_getElem? (i := 55) rfl)) rfl, WG_of (pv_5 _ (List.mem_of_getElem? (i := 13) rfl)) rfl, WG_of (tb_1 _ (List.mem_of_getElem? (i := 9) rfl)) rfl, by decide +kernel⟩
theorem mv_X8_skips : MV yX8_skips cX8_skips 2 (some .boolean) 1 := ⟨WG_of (tb_8 _ (List.mem_of_getElem? (i := 60) rfl)) rfl, WG_of (tb_8 _ (List.mem_of_getElem? (i := 59) rfl)) rfl, WG_of (pv_5 _ (List.mem_of_getElem? (i := 14) rfl)) rfl, WG_of (tb_1 _ (List.mem_of_getElem? (i := 9) rfl)) rfl, by decide +kernel⟩
theorem mv_X8_here : MV yX8_here cX8_here 1 (some .int) 0 := ⟨WG_of (tb_8 _ (List.mem_of_getElem? (i := 64) rfl)) rfl, WG_of (tb_8 _ (List.mem_of_getElem? (i := 63) rfl)) rfl, WG_of (pv_5 _ (List.mem_of_getElem? (i := 15) rfl)) rfl, WG_of (tb_1 _ (List.mem_of_getElem? (i := 9) rfl)) rfl, by decide +kernel⟩
theorem mv_X8_linkHere : MV yX8_linkHere cX8_linkHere 1 (some .boolean) 0 := ⟨WG_of (tb_8 _ (List.mem_of_getElem? (i := 68) rfl)) rfl, WG_of (tb_8 _ (List.mem_of_getElem? (i := 67) rfl)) rfl, WG_of (pv_6 _ (List.mem_of_getElem? (i := 0) rfl)) rfl, WG_of (tb_1 _ (List.mem_of_getElem? (i := 9) rfl)) rfl, by decide +kernel⟩
theorem mv_X8_digit : MV yX8_digit cX8_digit 3 (some .boolean) 2 := ⟨WG_of (tb_8 _ (List.mem_of_getElem? (i := 72) rfl)) rfl, WG_of (tb_8 _ (List.mem_of_getElem? (i := 71) rfl)) rfl, WG_of (pv_6 _ (List.mem_of_getElem? (i := 1) rfl)) rfl, WG_of (tb_1 _ (List.mem_of_getElem? (i := 9) rfl)) rfl, by decide +kernel⟩
theorem mv_X8_stoneHere : MV yX8_stoneHere cX8_stoneHere 1 (some .boolean) 0 := ⟨WG_of (tb_8 _ (List.mem_of_getElem? (i := 76) rfl)) rfl, WG_of (tb_8 _ (List.mem_of_getElem? (i := 75) rfl)) rfl, WG_of (pv_6 _ (List.mem_of_getElem? (i := 2) rfl)) rfl, WG_of (tb_1 _ (List.mem_of_getElem? (i := 9) rfl)) rfl, by decide +kernel⟩
theorem mv_X8_coordinate : MV yX8_coordinate cX8_coordinate 2 (some .boolean) 0 := ⟨WG_of (tb_8 _ (List.mem_of_getElem? (i := 80) rfl)) rfl, WG_of (tb_8 _ (List.mem_of_getElem? (i := 79) rfl)) rfl, WG_of (pv_6 _ (List.mem_of_getElem? (i := 3) rfl)) rfl, WG_of (tb_1 _ (List.mem_of_getElem? (i := 9) rfl)) rfl, by decide +kernel⟩
theorem mv_X8_addsAll : MV yX8_addsAll cX8_addsAll 4 (some .boolean) 0 := ⟨WG_of (tb_8 _ (List.mem_of_getElem? (i := 84) rfl)) rfl, WG_of (tb_8 _ (List.mem_of_getElem? (i := 83) rfl)) rfl, WG_of (pv_6 _ (List.mem_of_getElem? (i := 4) rfl)) rfl, WG_of (tb_1 _ (List.mem_of_getElem? (i := 9) rfl)) rfl, by decide +kernel⟩
theorem mv_X8_errorPosition : MV yX8_errorPosition cX8_errorPosition 1 (some .int) 0 := ⟨WG_of (tb_8 _ (List.mem_of_getElem? (i := 88) rfl)) rfl, WG_of (tb_8 _ (List.mem_of_getElem? (i := 86) rfl)) rfl, WG_of (tb_8 _ (List.mem_of_getElem? (i := 87) rfl)) rfl, WG_of (tb_1 _ (List.mem_of_getElem? (i := 9) rfl)) rfl, by decide +kernel⟩
theorem ml_L_154 : Cond.methodLink RL 154 yX7_init ∈ WG := WG_of (tb_1 _ (List.mem_of_getElem? (i := 26) rfl)) rfl
theorem ml_X7_3 : Cond.methodLink RX7 3 objectInit ∈ WG := WG_of (tb_1 _ (List.mem_of_getElem? (i := 29) rfl)) rfl
theorem ml_X4_3 : Cond.methodLink RX4 3 objectInit ∈ WG := WG_of (tb_1 _ (List.mem_of_getElem? (i := 37) rfl)) rfl
theorem ml_X7_24 : Cond.methodLink RX7 24 yX1_init ∈ WG := WG_of (tb_1 _ (List.mem_of_getElem? (i := 83) rfl)) rfl
theorem ml_X1_3 : Cond.methodLink RX1 3 objectInit ∈ WG := WG_of (tb_1 _ (List.mem_of_getElem? (i := 86) rfl)) rfl
theorem ml_X6_3 : Cond.methodLink RX6 3 objectInit ∈ WG := WG_of (tb_1 _ (List.mem_of_getElem? (i := 106) rfl)) rfl
theorem ml_X5_3 : Cond.methodLink RX5 3 objectInit ∈ WG := WG_of (tb_1 _ (List.mem_of_getElem? (i := 147) rfl)) rfl
theorem ml_X3_3 : Cond.methodLink RX3 3 objectInit ∈ WG := WG_of (tb_1 _ (List.mem_of_getElem? (i := 196) rfl)) rfl
theorem ml_X0_3 : Cond.methodLink RX0 3 objectInit ∈ WG := WG_of (tb_1 _ (List.mem_of_getElem? (i := 223) rfl)) rfl
theorem ml_X2_3 : Cond.methodLink RX2 3 objectInit ∈ WG := WG_of (tb_2 _ (List.mem_of_getElem? (i := 4) rfl)) rfl
theorem ml_L_158 : Cond.methodLink RL 158 yX7_clear ∈ WG := WG_of (tb_2 _ (List.mem_of_getElem? (i := 57) rfl)) rfl
theorem ml_X7_82 : Cond.methodLink RX7 82 yX4_empty ∈ WG := WG_of (tb_2 _ (List.mem_of_getElem? (i := 61) rfl)) rfl
theorem ml_X4_46 : Cond.methodLink RX4 46 yJ7_fill_53178 ∈ WG := WG_of (tb_2 _ (List.mem_of_getElem? (i := 65) rfl)) rfl
theorem ml_X7_85 : Cond.methodLink RX7 85 yX1_forget ∈ WG := WG_of (tb_2 _ (List.mem_of_getElem? (i := 68) rfl)) rfl
theorem ml_X7_88 : Cond.methodLink RX7 88 yX7_dropPlans ∈ WG := WG_of (tb_2 _ (List.mem_of_getElem? (i := 72) rfl)) rfl
theorem ml_L_205 : Cond.methodLink RL 205 yX7_moves ∈ WG := WG_of (tb_2 _ (List.mem_of_getElem? (i := 76) rfl)) rfl
theorem ml_X7_229 : Cond.methodLink RX7 229 yX7_isFreeNow ∈ WG := WG_of (tb_2 _ (List.mem_of_getElem? (i := 80) rfl)) rfl
theorem ml_X7_175 : Cond.methodLink RX7 175 yX6_along ∈ WG := WG_of (tb_2 _ (List.mem_of_getElem? (i := 84) rfl)) rfl
theorem ml_X6_37 : Cond.methodLink RX6 37 yJ7_fill_53178 ∈ WG := WG_of (tb_2 _ (List.mem_of_getElem? (i := 88) rfl)) rfl
theorem ml_X6_57 : Cond.methodLink RX6 57 yX6_enterCell ∈ WG := WG_of (tb_2 _ (List.mem_of_getElem? (i := 93) rfl)) rfl
theorem ml_X6_65 : Cond.methodLink RX6 65 yX6_note ∈ WG := WG_of (tb_2 _ (List.mem_of_getElem? (i := 100) rfl)) rfl
theorem ml_X7_233 : Cond.methodLink RX7 233 yX7_leadsToFree ∈ WG := WG_of (tb_2 _ (List.mem_of_getElem? (i := 104) rfl)) rfl
theorem ml_X7_224 : Cond.methodLink RX7 224 yX7_jointOf ∈ WG := WG_of (tb_2 _ (List.mem_of_getElem? (i := 108) rfl)) rfl
theorem ml_X7_133 : Cond.methodLink RX7 133 yX4_valueOf ∈ WG := WG_of (tb_2 _ (List.mem_of_getElem? (i := 111) rfl)) rfl
theorem ml_X7_238 : Cond.methodLink RX7 238 yX7_turnOf ∈ WG := WG_of (tb_2 _ (List.mem_of_getElem? (i := 115) rfl)) rfl
theorem ml_X7_213 : Cond.methodLink RX7 213 yX4_allows ∈ WG := WG_of (tb_2 _ (List.mem_of_getElem? (i := 118) rfl)) rfl
theorem ml_X4_52 : Cond.methodLink RX4 52 yX4_hasLink ∈ WG := WG_of (tb_2 _ (List.mem_of_getElem? (i := 122) rfl)) rfl
theorem ml_X7_487 : Cond.methodLink RX7 487 arraycopyName ∈ WG := WG_of (tb_2 _ (List.mem_of_getElem? (i := 126) rfl)) rfl
theorem ml_L_209 : Cond.methodLink RL 209 yX7_tip ∈ WG := WG_of (tb_2 _ (List.mem_of_getElem? (i := 129) rfl)) rfl
theorem ml_L_213 : Cond.methodLink RL 213 yX7_fault ∈ WG := WG_of (tb_2 _ (List.mem_of_getElem? (i := 133) rfl)) rfl
theorem ml_L_223 : Cond.methodLink RL 223 yX7_poseNumber ∈ WG := WG_of (tb_2 _ (List.mem_of_getElem? (i := 137) rfl)) rfl
theorem ml_X7_264 : Cond.methodLink RX7 264 yX4_numberOf ∈ WG := WG_of (tb_2 _ (List.mem_of_getElem? (i := 141) rfl)) rfl
theorem ml_X4_72 : Cond.methodLink RX4 72 yX4_span ∈ WG := WG_of (tb_2 _ (List.mem_of_getElem? (i := 145) rfl)) rfl
theorem ml_X4_62 : Cond.methodLink RX4 62 yJ9_max_7cf53 ∈ WG := WG_of (tb_2 _ (List.mem_of_getElem? (i := 149) rfl)) rfl
theorem ml_L_230 : Cond.methodLink RL 230 yX7_winding ∈ WG := WG_of (tb_2 _ (List.mem_of_getElem? (i := 152) rfl)) rfl
theorem ml_X7_277 : Cond.methodLink RX7 277 yJ9_floorDiv_7cf53 ∈ WG := WG_of (tb_2 _ (List.mem_of_getElem? (i := 156) rfl)) rfl
theorem ml_L_315 : Cond.methodLink RL 315 yX7_save ∈ WG := WG_of (tb_2 _ (List.mem_of_getElem? (i := 159) rfl)) rfl
theorem ml_X7_441 : Cond.methodLink RX7 441 yX4_copyFrom ∈ WG := WG_of (tb_2 _ (List.mem_of_getElem? (i := 163) rfl)) rfl
theorem ml_X4_40 : Cond.methodLink RX4 40 arraycopyName ∈ WG := WG_of (tb_2 _ (List.mem_of_getElem? (i := 167) rfl)) rfl
theorem ml_L_162 : Cond.methodLink RL 162 yL_addLink ∈ WG := WG_of (tb_2 _ (List.mem_of_getElem? (i := 168) rfl)) rfl
theorem ml_L_7 : Cond.methodLink RL 7 yX7_addLink ∈ WG := WG_of (tb_2 _ (List.mem_of_getElem? (i := 173) rfl)) rfl
theorem ml_X7_91 : Cond.methodLink RX7 91 yX7_isLimit ∈ WG := WG_of (tb_2 _ (List.mem_of_getElem? (i := 177) rfl)) rfl
theorem ml_X7_107 : Cond.methodLink RX7 107 yX7_beginChange ∈ WG := WG_of (tb_3 _ (List.mem_of_getElem? (i := 28) rfl)) rfl
theorem ml_X7_464 : Cond.methodLink RX7 464 yX1_remember ∈ WG := WG_of (tb_3 _ (List.mem_of_getElem? (i := 32) rfl)) rfl
theorem ml_X1_25 : Cond.methodLink RX1 25 yX4_copyFrom ∈ WG := WG_of (tb_3 _ (List.mem_of_getElem? (i := 36) rfl)) rfl
theorem ml_X7_110 : Cond.methodLink RX7 110 yX4_attach ∈ WG := WG_of (tb_3 _ (List.mem_of_getElem? (i := 37) rfl)) rfl
theorem ml_L_171 : Cond.methodLink RL 171 yL_removeLink ∈ WG := WG_of (tb_3 _ (List.mem_of_getElem? (i := 41) rfl)) rfl
theorem ml_L_17 : Cond.methodLink RL 17 yX7_removeLink ∈ WG := WG_of (tb_3 _ (List.mem_of_getElem? (i := 44) rfl)) rfl
theorem ml_X7_116 : Cond.methodLink RX7 116 yX4_detach ∈ WG := WG_of (tb_3 _ (List.mem_of_getElem? (i := 49) rfl)) rfl
theorem ml_L_175 : Cond.methodLink RL 175 yL_setLimits ∈ WG := WG_of (tb_3 _ (List.mem_of_getElem? (i := 53) rfl)) rfl
theorem ml_L_21 : Cond.methodLink RL 21 yX7_setLimits ∈ WG := WG_of (tb_3 _ (List.mem_of_getElem? (i := 80) rfl)) rfl
theorem ml_X7_119 : Cond.methodLink RX7 119 yX4_hasLink ∈ WG := WG_of (tb_3 _ (List.mem_of_getElem? (i := 84) rfl)) rfl
theorem ml_X7_129 : Cond.methodLink RX7 129 yX4_limit ∈ WG := WG_of (tb_3 _ (List.mem_of_getElem? (i := 99) rfl)) rfl
theorem ml_X4_56 : Cond.methodLink RX4 56 yJ9_min_7cf53 ∈ WG := WG_of (tb_3 _ (List.mem_of_getElem? (i := 103) rfl)) rfl
theorem ml_L_178 : Cond.methodLink RL 178 yL_addObstacle ∈ WG := WG_of (tb_3 _ (List.mem_of_getElem? (i := 106) rfl)) rfl
theorem ml_L_26 : Cond.methodLink RL 26 yX7_addObstacle ∈ WG := WG_of (tb_3 _ (List.mem_of_getElem? (i := 109) rfl)) rfl
theorem ml_X7_137 : Cond.methodLink RX7 137 yX7_requireCell ∈ WG := WG_of (tb_3 _ (List.mem_of_getElem? (i := 113) rfl)) rfl
theorem ml_X7_493 : Cond.methodLink RX7 493 yX7_isInside ∈ WG := WG_of (tb_3 _ (List.mem_of_getElem? (i := 116) rfl)) rfl
theorem ml_X7_146 : Cond.methodLink RX7 146 yX4_isBlocked ∈ WG := WG_of (tb_3 _ (List.mem_of_getElem? (i := 119) rfl)) rfl
theorem ml_X7_152 : Cond.methodLink RX7 152 yX4_block ∈ WG := WG_of (tb_3 _ (List.mem_of_getElem? (i := 125) rfl)) rfl
theorem ml_X4_69 : Cond.methodLink RX4 69 yX4_isBlocked ∈ WG := WG_of (tb_3 _ (List.mem_of_getElem? (i := 129) rfl)) rfl
theorem ml_L_182 : Cond.methodLink RL 182 yL_removeObstacle ∈ WG := WG_of (tb_3 _ (List.mem_of_getElem? (i := 130) rfl)) rfl
theorem ml_L_30 : Cond.methodLink RL 30 yX7_removeObstacle ∈ WG := WG_of (tb_3 _ (List.mem_of_getElem? (i := 134) rfl)) rfl
theorem ml_X7_160 : Cond.methodLink RX7 160 yX4_unblock ∈ WG := WG_of (tb_3 _ (List.mem_of_getElem? (i := 154) rfl)) rfl
theorem ml_L_185 : Cond.methodLink RL 185 yL_count ∈ WG := WG_of (tb_3 _ (List.mem_of_getElem? (i := 158) rfl)) rfl
theorem ml_L_35 : Cond.methodLink RL 35 yX7_count ∈ WG := WG_of (tb_3 _ (List.mem_of_getElem? (i := 161) rfl)) rfl
theorem ml_X7_163 : Cond.methodLink RX7 163 yX4_poses ∈ WG := WG_of (tb_3 _ (List.mem_of_getElem? (i := 165) rfl)) rfl
theorem ml_X7_167 : Cond.methodLink RX7 167 yX4_wholeLength ∈ WG := WG_of (tb_3 _ (List.mem_of_getElem? (i := 169) rfl)) rfl
theorem ml_L_189 : Cond.methodLink RL 189 yL_joint ∈ WG := WG_of (tb_3 _ (List.mem_of_getElem? (i := 174) rfl)) rfl
theorem ml_L_39 : Cond.methodLink RL 39 yX7_joint ∈ WG := WG_of (tb_3 _ (List.mem_of_getElem? (i := 177) rfl)) rfl
theorem ml_X7_197 : Cond.methodLink RX7 197 yJ9_floorMod_7cf53 ∈ WG := WG_of (tb_3 _ (List.mem_of_getElem? (i := 181) rfl)) rfl
theorem ml_L_192 : Cond.methodLink RL 192 yL_isObstacle ∈ WG := WG_of (tb_3 _ (List.mem_of_getElem? (i := 185) rfl)) rfl
theorem ml_L_42 : Cond.methodLink RL 42 yX7_isObstacle ∈ WG := WG_of (tb_3 _ (List.mem_of_getElem? (i := 188) rfl)) rfl
theorem ml_L_195 : Cond.methodLink RL 195 yL_obstacle ∈ WG := WG_of (tb_3 _ (List.mem_of_getElem? (i := 192) rfl)) rfl
theorem ml_L_46 : Cond.methodLink RL 46 yX7_obstacle ∈ WG := WG_of (tb_3 _ (List.mem_of_getElem? (i := 195) rfl)) rfl
theorem ml_L_199 : Cond.methodLink RL 199 yL_setValue ∈ WG := WG_of (tb_3 _ (List.mem_of_getElem? (i := 200) rfl)) rfl
theorem ml_L_50 : Cond.methodLink RL 50 yX7_setValue ∈ WG := WG_of (tb_3 _ (List.mem_of_getElem? (i := 203) rfl)) rfl
theorem ml_X7_218 : Cond.methodLink RX7 218 yX7_beginTurn ∈ WG := WG_of (tb_3 _ (List.mem_of_getElem? (i := 208) rfl)) rfl
theorem ml_X7_221 : Cond.methodLink RX7 221 yX4_turnTo ∈ WG := WG_of (tb_3 _ (List.mem_of_getElem? (i := 212) rfl)) rfl
theorem ml_L_202 : Cond.methodLink RL 202 yL_move ∈ WG := WG_of (tb_3 _ (List.mem_of_getElem? (i := 216) rfl)) rfl
theorem ml_L_53 : Cond.methodLink RL 53 yX7_move ∈ WG := WG_of (tb_3 _ (List.mem_of_getElem? (i := 219) rfl)) rfl
theorem ml_X7_241 : Cond.methodLink RX7 241 yX4_turnBy ∈ WG := WG_of (tb_3 _ (List.mem_of_getElem? (i := 225) rfl)) rfl
theorem ml_L_217 : Cond.methodLink RL 217 yL_faultyLink ∈ WG := WG_of (tb_3 _ (List.mem_of_getElem? (i := 229) rfl)) rfl
theorem ml_L_56 : Cond.methodLink RL 56 yX7_faultyLink ∈ WG := WG_of (tb_3 _ (List.mem_of_getElem? (i := 232) rfl)) rfl
theorem ml_L_220 : Cond.methodLink RL 220 yL_linksAt ∈ WG := WG_of (tb_3 _ (List.mem_of_getElem? (i := 237) rfl)) rfl
theorem ml_L_59 : Cond.methodLink RL 59 yX7_linksAt ∈ WG := WG_of (tb_4 _ (List.mem_of_getElem? (i := 0) rfl)) rfl
theorem ml_X7_258 : Cond.methodLink RX7 258 yX6_cellX ∈ WG := WG_of (tb_4 _ (List.mem_of_getElem? (i := 4) rfl)) rfl
theorem ml_X7_261 : Cond.methodLink RX7 261 yX6_cellY ∈ WG := WG_of (tb_4 _ (List.mem_of_getElem? (i := 8) rfl)) rfl
theorem ml_L_227 : Cond.methodLink RL 227 yL_clearance ∈ WG := WG_of (tb_4 _ (List.mem_of_getElem? (i := 12) rfl)) rfl
theorem ml_L_62 : Cond.methodLink RL 62 yX7_clearance ∈ WG := WG_of (tb_4 _ (List.mem_of_getElem? (i := 15) rfl)) rfl
theorem ml_X7_271 : Cond.methodLink RX7 271 yX7_distanceToObstacles ∈ WG := WG_of (tb_4 _ (List.mem_of_getElem? (i := 21) rfl)) rfl
theorem ml_X7_368 : Cond.methodLink RX7 368 yX7_distance ∈ WG := WG_of (tb_4 _ (List.mem_of_getElem? (i := 25) rfl)) rfl
theorem ml_X7_500 : Cond.methodLink RX7 500 yJ9_abs_0f7a4 ∈ WG := WG_of (tb_4 _ (List.mem_of_getElem? (i := 28) rfl)) rfl
theorem ml_X7_503 : Cond.methodLink RX7 503 yJ9_max_7cf53 ∈ WG := WG_of (tb_4 _ (List.mem_of_getElem? (i := 31) rfl)) rfl
theorem ml_X7_274 : Cond.methodLink RX7 274 yJ9_min_7cf53 ∈ WG := WG_of (tb_4 _ (List.mem_of_getElem? (i := 32) rfl)) rfl
theorem ml_L_234 : Cond.methodLink RL 234 yL_freePoses ∈ WG := WG_of (tb_4 _ (List.mem_of_getElem? (i := 33) rfl)) rfl
theorem ml_L_65 : Cond.methodLink RL 65 yX7_freePoses ∈ WG := WG_of (tb_4 _ (List.mem_of_getElem? (i := 36) rfl)) rfl
theorem ml_X7_280 : Cond.methodLink RX7 280 yX7_surveyPoses ∈ WG := WG_of (tb_4 _ (List.mem_of_getElem? (i := 40) rfl)) rfl
theorem ml_X7_475 : Cond.methodLink RX7 475 yX5_survey ∈ WG := WG_of (tb_4 _ (List.mem_of_getElem? (i := 45) rfl)) rfl
theorem ml_X5_58 : Cond.methodLink RX5 58 yJ9_min_7cf53 ∈ WG := WG_of (tb_4 _ (List.mem_of_getElem? (i := 49) rfl)) rfl
theorem ml_X5_64 : Cond.methodLink RX5 64 yX4_poses ∈ WG := WG_of (tb_4 _ (List.mem_of_getElem? (i := 50) rfl)) rfl
theorem ml_X5_67 : Cond.methodLink RX5 67 yX4_span ∈ WG := WG_of (tb_4 _ (List.mem_of_getElem? (i := 51) rfl)) rfl
theorem ml_X5_70 : Cond.methodLink RX5 70 yX4_readPose ∈ WG := WG_of (tb_4 _ (List.mem_of_getElem? (i := 52) rfl)) rfl
theorem ml_X5_74 : Cond.methodLink RX5 74 yX6_along ∈ WG := WG_of (tb_4 _ (List.mem_of_getElem? (i := 56) rfl)) rfl
theorem ml_X7_285 : Cond.methodLink RX7 285 yX5_isFree ∈ WG := WG_of (tb_4 _ (List.mem_of_getElem? (i := 60) rfl)) rfl
theorem ml_X5_94 : Cond.methodLink RX5 94 yX5_tipOf ∈ WG := WG_of (tb_4 _ (List.mem_of_getElem? (i := 64) rfl)) rfl
theorem ml_X5_90 : Cond.methodLink RX5 90 yX5_isPose ∈ WG := WG_of (tb_4 _ (List.mem_of_getElem? (i := 68) rfl)) rfl
theorem ml_L_237 : Cond.methodLink RL 237 yL_poseValue ∈ WG := WG_of (tb_4 _ (List.mem_of_getElem? (i := 72) rfl)) rfl
theorem ml_L_68 : Cond.methodLink RL 68 yX7_poseValue ∈ WG := WG_of (tb_4 _ (List.mem_of_getElem? (i := 75) rfl)) rfl
theorem ml_X7_290 : Cond.methodLink RX7 290 yX4_readPose ∈ WG := WG_of (tb_4 _ (List.mem_of_getElem? (i := 80) rfl)) rfl
theorem ml_L_240 : Cond.methodLink RL 240 yL_isFreePose ∈ WG := WG_of (tb_4 _ (List.mem_of_getElem? (i := 81) rfl)) rfl
theorem ml_L_71 : Cond.methodLink RL 71 yX7_isFreePose ∈ WG := WG_of (tb_4 _ (List.mem_of_getElem? (i := 84) rfl)) rfl
theorem ml_X7_294 : Cond.methodLink RX7 294 yX7_requirePose ∈ WG := WG_of (tb_4 _ (List.mem_of_getElem? (i := 88) rfl)) rfl
theorem ml_L_243 : Cond.methodLink RL 243 yL_posesAt ∈ WG := WG_of (tb_4 _ (List.mem_of_getElem? (i := 93) rfl)) rfl
theorem ml_L_75 : Cond.methodLink RL 75 yX7_posesAt ∈ WG := WG_of (tb_4 _ (List.mem_of_getElem? (i := 96) rfl)) rfl
theorem ml_X7_298 : Cond.methodLink RX7 298 yX5_tipOf ∈ WG := WG_of (tb_4 _ (List.mem_of_getElem? (i := 100) rfl)) rfl
theorem ml_X7_301 : Cond.methodLink RX7 301 yX7_cellNumber ∈ WG := WG_of (tb_4 _ (List.mem_of_getElem? (i := 101) rfl)) rfl
theorem ml_L_246 : Cond.methodLink RL 246 yL_connected ∈ WG := WG_of (tb_4 _ (List.mem_of_getElem? (i := 102) rfl)) rfl
theorem ml_L_78 : Cond.methodLink RL 78 yX7_connected ∈ WG := WG_of (tb_4 _ (List.mem_of_getElem? (i := 105) rfl)) rfl
theorem ml_X7_304 : Cond.methodLink RX7 304 yX7_searchFromPresent ∈ WG := WG_of (tb_4 _ (List.mem_of_getElem? (i := 109) rfl)) rfl
theorem ml_X7_326 : Cond.methodLink RX7 326 yX5_beginSearch ∈ WG := WG_of (tb_4 _ (List.mem_of_getElem? (i := 113) rfl)) rfl
theorem ml_X5_106 : Cond.methodLink RX5 106 yJ7_fill_53178 ∈ WG := WG_of (tb_4 _ (List.mem_of_getElem? (i := 117) rfl)) rfl
theorem ml_X7_329 : Cond.methodLink RX7 329 yX5_reach ∈ WG := WG_of (tb_4 _ (List.mem_of_getElem? (i := 118) rfl)) rfl
theorem ml_X7_332 : Cond.methodLink RX7 332 yX5_spread ∈ WG := WG_of (tb_4 _ (List.mem_of_getElem? (i := 122) rfl)) rfl
theorem ml_X5_112 : Cond.methodLink RX5 112 yJ9_max_7cf53 ∈ WG := WG_of (tb_4 _ (List.mem_of_getElem? (i := 126) rfl)) rfl
theorem ml_X5_103 : Cond.methodLink RX5 103 yX5_after ∈ WG := WG_of (tb_4 _ (List.mem_of_getElem? (i := 127) rfl)) rfl
theorem ml_X5_115 : Cond.methodLink RX5 115 yX5_distanceOf ∈ WG := WG_of (tb_4 _ (List.mem_of_getElem? (i := 133) rfl)) rfl
theorem ml_X5_118 : Cond.methodLink RX5 118 yX5_reach ∈ WG := WG_of (tb_4 _ (List.mem_of_getElem? (i := 137) rfl)) rfl
theorem ml_L_249 : Cond.methodLink RL 249 yL_reachableCells ∈ WG := WG_of (tb_4 _ (List.mem_of_getElem? (i := 138) rfl)) rfl
theorem ml_L_81 : Cond.methodLink RL 81 yX7_reachableCells ∈ WG := WG_of (tb_4 _ (List.mem_of_getElem? (i := 141) rfl)) rfl
theorem ml_X7_310 : Cond.methodLink RX7 310 yX7_tallyTips ∈ WG := WG_of (tb_4 _ (List.mem_of_getElem? (i := 145) rfl)) rfl
theorem ml_X7_388 : Cond.methodLink RX7 388 yJ7_fill_53178 ∈ WG := WG_of (tb_4 _ (List.mem_of_getElem? (i := 149) rfl)) rfl
theorem ml_X7_320 : Cond.methodLink RX7 320 yX5_reachedPose ∈ WG := WG_of (tb_4 _ (List.mem_of_getElem? (i := 150) rfl)) rfl
theorem ml_X7_397 : Cond.methodLink RX7 397 yX7_isCellNumber ∈ WG := WG_of (tb_4 _ (List.mem_of_getElem? (i := 154) rfl)) rfl
theorem ml_L_252 : Cond.methodLink RL 252 yL_favorite ∈ WG := WG_of (tb_4 _ (List.mem_of_getElem? (i := 157) rfl)) rfl
theorem ml_L_84 : Cond.methodLink RL 84 yX7_favorite ∈ WG := WG_of (tb_4 _ (List.mem_of_getElem? (i := 160) rfl)) rfl
theorem ml_X7_313 : Cond.methodLink RX7 313 yX7_requireReached ∈ WG := WG_of (tb_4 _ (List.mem_of_getElem? (i := 164) rfl)) rfl
theorem ml_X7_316 : Cond.methodLink RX7 316 yX7_cellY ∈ WG := WG_of (tb_4 _ (List.mem_of_getElem? (i := 169) rfl)) rfl
theorem ml_X7_318 : Cond.methodLink RX7 318 yX7_cellX ∈ WG := WG_of (tb_4 _ (List.mem_of_getElem? (i := 172) rfl)) rfl
theorem ml_L_256 : Cond.methodLink RL 256 yL_farthest ∈ WG := WG_of (tb_4 _ (List.mem_of_getElem? (i := 175) rfl)) rfl
theorem ml_L_88 : Cond.methodLink RL 88 yX7_farthest ∈ WG := WG_of (tb_4 _ (List.mem_of_getElem? (i := 178) rfl)) rfl
theorem ml_X7_323 : Cond.methodLink RX7 323 yX5_distanceOf ∈ WG := WG_of (tb_4 _ (List.mem_of_getElem? (i := 182) rfl)) rfl
theorem ml_L_259 : Cond.methodLink RL 259 yL_groups ∈ WG := WG_of (tb_4 _ (List.mem_of_getElem? (i := 183) rfl)) rfl
theorem ml_L_91 : Cond.methodLink RL 91 yX7_groups ∈ WG := WG_of (tb_4 _ (List.mem_of_getElem? (i := 186) rfl)) rfl
theorem ml_L_262 : Cond.methodLink RL 262 yL_freedom ∈ WG := WG_of (tb_4 _ (List.mem_of_getElem? (i := 190) rfl)) rfl
theorem ml_L_94 : Cond.methodLink RL 94 yX7_freedom ∈ WG := WG_of (tb_4 _ (List.mem_of_getElem? (i := 207) rfl)) rfl
theorem ml_X7_335 : Cond.methodLink RX7 335 yX5_movesFrom ∈ WG := WG_of (tb_4 _ (List.mem_of_getElem? (i := 211) rfl)) rfl
theorem ml_L_266 : Cond.methodLink RL 266 yL_planToPose ∈ WG := WG_of (tb_4 _ (List.mem_of_getElem? (i := 218) rfl)) rfl
theorem ml_L_100 : Cond.methodLink RL 100 yX7_planToPose ∈ WG := WG_of (tb_4 _ (List.mem_of_getElem? (i := 221) rfl)) rfl
theorem ml_X7_343 : Cond.methodLink RX7 343 yX7_planBestToPose ∈ WG := WG_of (tb_4 _ (List.mem_of_getElem? (i := 225) rfl)) rfl
theorem ml_X7_349 : Cond.methodLink RX7 349 yX7_takeBest ∈ WG := WG_of (tb_4 _ (List.mem_of_getElem? (i := 229) rfl)) rfl
theorem ml_X7_352 : Cond.methodLink RX7 352 yX7_requireWay ∈ WG := WG_of (tb_4 _ (List.mem_of_getElem? (i := 233) rfl)) rfl
theorem ml_X7_358 : Cond.methodLink RX7 358 yX3_begin ∈ WG := WG_of (tb_4 _ (List.mem_of_getElem? (i := 238) rfl)) rfl
theorem ml_X7_478 : Cond.methodLink RX7 478 yX5_descend ∈ WG := WG_of (tb_5 _ (List.mem_of_getElem? (i := 2) rfl)) rfl
theorem ml_X5_127 : Cond.methodLink RX5 127 yX5_nearer ∈ WG := WG_of (tb_5 _ (List.mem_of_getElem? (i := 6) rfl)) rfl
theorem ml_X5_130 : Cond.methodLink RX5 130 yX3_add ∈ WG := WG_of (tb_5 _ (List.mem_of_getElem? (i := 10) rfl)) rfl
theorem ml_L_269 : Cond.methodLink RL 269 yL_planToCell ∈ WG := WG_of (tb_5 _ (List.mem_of_getElem? (i := 14) rfl)) rfl
theorem ml_L_103 : Cond.methodLink RL 103 yX7_planToCell ∈ WG := WG_of (tb_5 _ (List.mem_of_getElem? (i := 17) rfl)) rfl
theorem ml_X7_346 : Cond.methodLink RX7 346 yX7_searchFromTips ∈ WG := WG_of (tb_5 _ (List.mem_of_getElem? (i := 21) rfl)) rfl
theorem ml_L_272 : Cond.methodLink RL 272 yL_planSmooth ∈ WG := WG_of (tb_5 _ (List.mem_of_getElem? (i := 25) rfl)) rfl
theorem ml_L_106 : Cond.methodLink RL 106 yX7_planSmooth ∈ WG := WG_of (tb_5 _ (List.mem_of_getElem? (i := 28) rfl)) rfl
theorem ml_X7_355 : Cond.methodLink RX7 355 yX5_weighChanges ∈ WG := WG_of (tb_5 _ (List.mem_of_getElem? (i := 32) rfl)) rfl
theorem ml_X5_134 : Cond.methodLink RX5 134 yX5_weight ∈ WG := WG_of (tb_5 _ (List.mem_of_getElem? (i := 36) rfl)) rfl
theorem ml_X5_138 : Cond.methodLink RX5 138 yX5_smoothest ∈ WG := WG_of (tb_5 _ (List.mem_of_getElem? (i := 41) rfl)) rfl
theorem ml_X5_141 : Cond.methodLink RX5 141 yX5_weightBehind ∈ WG := WG_of (tb_5 _ (List.mem_of_getElem? (i := 45) rfl)) rfl
theorem ml_X7_361 : Cond.methodLink RX7 361 yX5_descendSmoothly ∈ WG := WG_of (tb_5 _ (List.mem_of_getElem? (i := 49) rfl)) rfl
theorem ml_X7_365 : Cond.methodLink RX7 365 yX3_changes ∈ WG := WG_of (tb_5 _ (List.mem_of_getElem? (i := 53) rfl)) rfl
theorem ml_X3_29 : Cond.methodLink RX3 29 yX3_stepAt ∈ WG := WG_of (tb_5 _ (List.mem_of_getElem? (i := 57) rfl)) rfl
theorem ml_L_275 : Cond.methodLink RL 275 yL_planNear ∈ WG := WG_of (tb_5 _ (List.mem_of_getElem? (i := 61) rfl)) rfl
theorem ml_L_109 : Cond.methodLink RL 109 yX7_planNear ∈ WG := WG_of (tb_5 _ (List.mem_of_getElem? (i := 64) rfl)) rfl
theorem ml_L_278 : Cond.methodLink RL 278 yL_pathLength ∈ WG := WG_of (tb_5 _ (List.mem_of_getElem? (i := 68) rfl)) rfl
theorem ml_L_112 : Cond.methodLink RL 112 yX7_pathLength ∈ WG := WG_of (tb_5 _ (List.mem_of_getElem? (i := 71) rfl)) rfl
theorem ml_X7_372 : Cond.methodLink RX7 372 yX7_requirePath ∈ WG := WG_of (tb_5 _ (List.mem_of_getElem? (i := 75) rfl)) rfl
theorem ml_L_281 : Cond.methodLink RL 281 yL_pathMove ∈ WG := WG_of (tb_5 _ (List.mem_of_getElem? (i := 79) rfl)) rfl
theorem ml_L_115 : Cond.methodLink RL 115 yX7_pathMove ∈ WG := WG_of (tb_5 _ (List.mem_of_getElem? (i := 82) rfl)) rfl
theorem ml_X7_380 : Cond.methodLink RX7 380 yX3_stepAt ∈ WG := WG_of (tb_5 _ (List.mem_of_getElem? (i := 87) rfl)) rfl
theorem ml_L_284 : Cond.methodLink RL 284 yL_pathChanges ∈ WG := WG_of (tb_5 _ (List.mem_of_getElem? (i := 88) rfl)) rfl
theorem ml_L_118 : Cond.methodLink RL 118 yX7_pathChanges ∈ WG := WG_of (tb_5 _ (List.mem_of_getElem? (i := 91) rfl)) rfl
theorem ml_L_287 : Cond.methodLink RL 287 yL_follow ∈ WG := WG_of (tb_5 _ (List.mem_of_getElem? (i := 95) rfl)) rfl
theorem ml_L_121 : Cond.methodLink RL 121 yX7_follow ∈ WG := WG_of (tb_5 _ (List.mem_of_getElem? (i := 98) rfl)) rfl
theorem ml_L_290 : Cond.methodLink RL 290 yL_back ∈ WG := WG_of (tb_5 _ (List.mem_of_getElem? (i := 103) rfl)) rfl
theorem ml_L_124 : Cond.methodLink RL 124 yX7_back ∈ WG := WG_of (tb_5 _ (List.mem_of_getElem? (i := 106) rfl)) rfl
theorem ml_L_293 : Cond.methodLink RL 293 yL_pathCells ∈ WG := WG_of (tb_5 _ (List.mem_of_getElem? (i := 110) rfl)) rfl
theorem ml_L_127 : Cond.methodLink RL 127 yX7_pathCells ∈ WG := WG_of (tb_5 _ (List.mem_of_getElem? (i := 113) rfl)) rfl
theorem ml_X7_400 : Cond.methodLink RX7 400 yX5_after ∈ WG := WG_of (tb_5 _ (List.mem_of_getElem? (i := 117) rfl)) rfl
theorem ml_L_296 : Cond.methodLink RL 296 yL_bookmark ∈ WG := WG_of (tb_5 _ (List.mem_of_getElem? (i := 118) rfl)) rfl
theorem ml_L_130 : Cond.methodLink RL 130 yX7_bookmark ∈ WG := WG_of (tb_5 _ (List.mem_of_getElem? (i := 121) rfl)) rfl
theorem ml_X7_403 : Cond.methodLink RX7 403 yX7_requireName ∈ WG := WG_of (tb_5 _ (List.mem_of_getElem? (i := 125) rfl)) rfl
theorem ml_X7_407 : Cond.methodLink RX7 407 yX0_has ∈ WG := WG_of (tb_5 _ (List.mem_of_getElem? (i := 129) rfl)) rfl
theorem ml_X7_415 : Cond.methodLink RX7 415 yX0_put ∈ WG := WG_of (tb_5 _ (List.mem_of_getElem? (i := 134) rfl)) rfl
theorem ml_X0_34 : Cond.methodLink RX0 34 arraycopyName ∈ WG := WG_of (tb_5 _ (List.mem_of_getElem? (i := 138) rfl)) rfl
theorem ml_L_300 : Cond.methodLink RL 300 yL_planToName ∈ WG := WG_of (tb_5 _ (List.mem_of_getElem? (i := 139) rfl)) rfl
theorem ml_L_134 : Cond.methodLink RL 134 yX7_planToName ∈ WG := WG_of (tb_5 _ (List.mem_of_getElem? (i := 143) rfl)) rfl
theorem ml_X7_419 : Cond.methodLink RX7 419 yX0_suits ∈ WG := WG_of (tb_5 _ (List.mem_of_getElem? (i := 147) rfl)) rfl
theorem ml_X0_40 : Cond.methodLink RX0 40 yX0_has ∈ WG := WG_of (tb_5 _ (List.mem_of_getElem? (i := 151) rfl)) rfl
theorem ml_X0_44 : Cond.methodLink RX0 44 yX4_allows ∈ WG := WG_of (tb_5 _ (List.mem_of_getElem? (i := 152) rfl)) rfl
theorem ml_X7_428 : Cond.methodLink RX7 428 yX0_readValues ∈ WG := WG_of (tb_5 _ (List.mem_of_getElem? (i := 169) rfl)) rfl
theorem ml_L_303 : Cond.methodLink RL 303 yL_append ∈ WG := WG_of (tb_5 _ (List.mem_of_getElem? (i := 173) rfl)) rfl
theorem ml_L_139 : Cond.methodLink RL 139 yX7_append ∈ WG := WG_of (tb_5 _ (List.mem_of_getElem? (i := 176) rfl)) rfl
theorem ml_X7_436 : Cond.methodLink RX7 436 yX2_put ∈ WG := WG_of (tb_5 _ (List.mem_of_getElem? (i := 182) rfl)) rfl
theorem ml_L_306 : Cond.methodLink RL 306 yL_read ∈ WG := WG_of (tb_5 _ (List.mem_of_getElem? (i := 186) rfl)) rfl
theorem ml_L_142 : Cond.methodLink RL 142 yX7_read ∈ WG := WG_of (tb_5 _ (List.mem_of_getElem? (i := 189) rfl)) rfl
theorem ml_X7_438 : Cond.methodLink RX7 438 yX2_errorPlace ∈ WG := WG_of (tb_5 _ (List.mem_of_getElem? (i := 193) rfl)) rfl
theorem ml_X2_23 : Cond.methodLink RX2 23 yX2_signAt ∈ WG := WG_of (tb_5 _ (List.mem_of_getElem? (i := 197) rfl)) rfl
theorem ml_X2_27 : Cond.methodLink RX2 27 yX2_stateBehind ∈ WG := WG_of (tb_5 _ (List.mem_of_getElem? (i := 201) rfl)) rfl
theorem ml_X2_31 : Cond.methodLink RX2 31 yX2_isDigit ∈ WG := WG_of (tb_5 _ (List.mem_of_getElem? (i := 204) rfl)) rfl
theorem ml_X2_35 : Cond.methodLink RX2 35 yX2_stateInObstacle ∈ WG := WG_of (tb_5 _ (List.mem_of_getElem? (i := 207) rfl)) rfl
theorem ml_X7_445 : Cond.methodLink RX7 445 yX2_enter ∈ WG := WG_of (tb_5 _ (List.mem_of_getElem? (i := 210) rfl)) rfl
theorem ml_X2_38 : Cond.methodLink RX2 38 yX2_readNumbers ∈ WG := WG_of (tb_5 _ (List.mem_of_getElem? (i := 214) rfl)) rfl
theorem ml_X2_52 : Cond.methodLink RX2 52 yJ7_fill_53178 ∈ WG := WG_of (tb_5 _ (List.mem_of_getElem? (i := 218) rfl)) rfl
theorem ml_X2_42 : Cond.methodLink RX2 42 yX4_attach ∈ WG := WG_of (tb_5 _ (List.mem_of_getElem? (i := 219) rfl)) rfl
theorem ml_X2_48 : Cond.methodLink RX2 48 yX4_block ∈ WG := WG_of (tb_5 _ (List.mem_of_getElem? (i := 220) rfl)) rfl
theorem ml_L_309 : Cond.methodLink RL 309 yL_errorPosition ∈ WG := WG_of (tb_5 _ (List.mem_of_getElem? (i := 223) rfl)) rfl
theorem ml_L_145 : Cond.methodLink RL 145 yX7_errorPosition ∈ WG := WG_of (tb_5 _ (List.mem_of_getElem? (i := 226) rfl)) rfl
theorem ml_L_312 : Cond.methodLink RL 312 yL_undo ∈ WG := WG_of (tb_5 _ (List.mem_of_getElem? (i := 231) rfl)) rfl
theorem ml_L_148 : Cond.methodLink RL 148 yX7_undo ∈ WG := WG_of (tb_5 _ (List.mem_of_getElem? (i := 234) rfl)) rfl
theorem ml_X7_459 : Cond.methodLink RX7 459 yX1_takeLatest ∈ WG := WG_of (tb_5 _ (List.mem_of_getElem? (i := 239) rfl)) rfl
theorem ml_L_319 : Cond.methodLink RL 319 yL_restore ∈ WG := WG_of (tb_6 _ (List.mem_of_getElem? (i := 3) rfl)) rfl
theorem ml_L_151 : Cond.methodLink RL 151 yX7_restore ∈ WG := WG_of (tb_6 _ (List.mem_of_getElem? (i := 6) rfl)) rfl
theorem ml_L_157 : Cond.methodLink RL 157 yX8_init ∈ WG := WG_of (tb_6 _ (List.mem_of_getElem? (i := 13) rfl)) rfl
theorem ml_X8_1 : Cond.methodLink RX8 1 objectInit ∈ WG := WG_of (tb_6 _ (List.mem_of_getElem? (i := 16) rfl)) rfl
theorem ml_L_168 : Cond.methodLink RL 168 yX8_thrown ∈ WG := WG_of (tb_6 _ (List.mem_of_getElem? (i := 112) rfl)) rfl
theorem ml_L_314 : Cond.methodLink RL 314 yX8_undo ∈ WG := WG_of (tb_6 _ (List.mem_of_getElem? (i := 116) rfl)) rfl
theorem ml_X8_86 : Cond.methodLink RX8 86 yX8_fails ∈ WG := WG_of (tb_6 _ (List.mem_of_getElem? (i := 120) rfl)) rfl
theorem ml_L_318 : Cond.methodLink RL 318 yX8_save ∈ WG := WG_of (tb_6 _ (List.mem_of_getElem? (i := 124) rfl)) rfl
theorem ml_L_321 : Cond.methodLink RL 321 yX8_restore ∈ WG := WG_of (tb_6 _ (List.mem_of_getElem? (i := 128) rfl)) rfl
theorem ml_L_161 : Cond.methodLink RL 161 yX8_clear ∈ WG := WG_of (tb_6 _ (List.mem_of_getElem? (i := 132) rfl)) rfl
theorem ml_L_167 : Cond.methodLink RL 167 yX8_addLink ∈ WG := WG_of (tb_6 _ (List.mem_of_getElem? (i := 136) rfl)) rfl
theorem ml_X8_94 : Cond.methodLink RX8 94 yX8_linkStops ∈ WG := WG_of (tb_6 _ (List.mem_of_getElem? (i := 140) rfl)) rfl
theorem ml_X8_79 : Cond.methodLink RX8 79 yX8_in ∈ WG := WG_of (tb_6 _ (List.mem_of_getElem? (i := 144) rfl)) rfl
theorem ml_X8_98 : Cond.methodLink RX8 98 yX8_changes ∈ WG := WG_of (tb_6 _ (List.mem_of_getElem? (i := 147) rfl)) rfl
theorem ml_X8_101 : Cond.methodLink RX8 101 yX8_linkComes ∈ WG := WG_of (tb_6 _ (List.mem_of_getElem? (i := 151) rfl)) rfl
theorem ml_L_174 : Cond.methodLink RL 174 yX8_removeLink ∈ WG := WG_of (tb_6 _ (List.mem_of_getElem? (i := 155) rfl)) rfl
theorem ml_L_177 : Cond.methodLink RL 177 yX8_setLimits ∈ WG := WG_of (tb_6 _ (List.mem_of_getElem? (i := 159) rfl)) rfl
theorem ml_X8_105 : Cond.methodLink RX8 105 yX8_isJoint ∈ WG := WG_of (tb_6 _ (List.mem_of_getElem? (i := 163) rfl)) rfl
theorem ml_L_181 : Cond.methodLink RL 181 yX8_addObstacle ∈ WG := WG_of (tb_6 _ (List.mem_of_getElem? (i := 167) rfl)) rfl
theorem ml_X8_117 : Cond.methodLink RX8 117 yX8_stoneStops ∈ WG := WG_of (tb_6 _ (List.mem_of_getElem? (i := 171) rfl)) rfl
theorem ml_X8_109 : Cond.methodLink RX8 109 yX8_isCell ∈ WG := WG_of (tb_6 _ (List.mem_of_getElem? (i := 175) rfl)) rfl
theorem ml_X8_113 : Cond.methodLink RX8 113 yX8_stoneAt ∈ WG := WG_of (tb_6 _ (List.mem_of_getElem? (i := 178) rfl)) rfl
theorem ml_X8_120 : Cond.methodLink RX8 120 yX8_stoneComes ∈ WG := WG_of (tb_6 _ (List.mem_of_getElem? (i := 182) rfl)) rfl
theorem ml_L_184 : Cond.methodLink RL 184 yX8_removeObstacle ∈ WG := WG_of (tb_6 _ (List.mem_of_getElem? (i := 186) rfl)) rfl
theorem ml_L_188 : Cond.methodLink RL 188 yX8_count ∈ WG := WG_of (tb_6 _ (List.mem_of_getElem? (i := 190) rfl)) rfl
theorem ml_X8_133 : Cond.methodLink RX8 133 yX8_poses ∈ WG := WG_of (tb_6 _ (List.mem_of_getElem? (i := 194) rfl)) rfl
theorem ml_X8_130 : Cond.methodLink RX8 130 yX8_values ∈ WG := WG_of (tb_6 _ (List.mem_of_getElem? (i := 198) rfl)) rfl
theorem ml_X8_124 : Cond.methodLink RX8 124 yX8_down ∈ WG := WG_of (tb_6 _ (List.mem_of_getElem? (i := 202) rfl)) rfl
theorem ml_X8_127 : Cond.methodLink RX8 127 yX8_up ∈ WG := WG_of (tb_6 _ (List.mem_of_getElem? (i := 206) rfl)) rfl
theorem ml_X8_137 : Cond.methodLink RX8 137 yX8_lengthOf ∈ WG := WG_of (tb_6 _ (List.mem_of_getElem? (i := 210) rfl)) rfl
theorem ml_L_191 : Cond.methodLink RL 191 yX8_joint ∈ WG := WG_of (tb_6 _ (List.mem_of_getElem? (i := 214) rfl)) rfl
theorem ml_X8_187 : Cond.methodLink RX8 187 yX8_now ∈ WG := WG_of (tb_6 _ (List.mem_of_getElem? (i := 218) rfl)) rfl
theorem ml_X8_146 : Cond.methodLink RX8 146 yX8_lays ∈ WG := WG_of (tb_6 _ (List.mem_of_getElem? (i := 222) rfl)) rfl
theorem ml_X8_140 : Cond.methodLink RX8 140 yX8_stepX ∈ WG := WG_of (tb_6 _ (List.mem_of_getElem? (i := 226) rfl)) rfl
theorem ml_X8_143 : Cond.methodLink RX8 143 yX8_stepY ∈ WG := WG_of (tb_6 _ (List.mem_of_getElem? (i := 229) rfl)) rfl
theorem ml_X8_190 : Cond.methodLink RX8 190 yX8_jointTold ∈ WG := WG_of (tb_6 _ (List.mem_of_getElem? (i := 232) rfl)) rfl
theorem ml_L_194 : Cond.methodLink RL 194 yX8_isObstacle ∈ WG := WG_of (tb_6 _ (List.mem_of_getElem? (i := 236) rfl)) rfl
theorem ml_L_198 : Cond.methodLink RL 198 yX8_obstacle ∈ WG := WG_of (tb_7 _ (List.mem_of_getElem? (i := 0) rfl)) rfl
theorem ml_L_201 : Cond.methodLink RL 201 yX8_setValue ∈ WG := WG_of (tb_7 _ (List.mem_of_getElem? (i := 4) rfl)) rfl
theorem ml_L_204 : Cond.methodLink RL 204 yX8_move ∈ WG := WG_of (tb_7 _ (List.mem_of_getElem? (i := 8) rfl)) rfl
theorem ml_X8_203 : Cond.methodLink RX8 203 yX8_isMove ∈ WG := WG_of (tb_7 _ (List.mem_of_getElem? (i := 12) rfl)) rfl
theorem ml_X8_206 : Cond.methodLink RX8 206 yX8_mayMove ∈ WG := WG_of (tb_7 _ (List.mem_of_getElem? (i := 16) rfl)) rfl
theorem ml_X8_181 : Cond.methodLink RX8 181 yX8_numberNow ∈ WG := WG_of (tb_7 _ (List.mem_of_getElem? (i := 20) rfl)) rfl
theorem ml_X8_196 : Cond.methodLink RX8 196 yX8_behind ∈ WG := WG_of (tb_7 _ (List.mem_of_getElem? (i := 24) rfl)) rfl
theorem ml_X8_193 : Cond.methodLink RX8 193 yX8_weight ∈ WG := WG_of (tb_7 _ (List.mem_of_getElem? (i := 28) rfl)) rfl
theorem ml_X8_199 : Cond.methodLink RX8 199 yX8_isFreeNow ∈ WG := WG_of (tb_7 _ (List.mem_of_getElem? (i := 32) rfl)) rfl
theorem ml_X8_184 : Cond.methodLink RX8 184 yX8_isFree ∈ WG := WG_of (tb_7 _ (List.mem_of_getElem? (i := 36) rfl)) rfl
theorem ml_X8_174 : Cond.methodLink RX8 174 yX8_takes ∈ WG := WG_of (tb_7 _ (List.mem_of_getElem? (i := 40) rfl)) rfl
theorem ml_X8_178 : Cond.methodLink RX8 178 yX8_faultHere ∈ WG := WG_of (tb_7 _ (List.mem_of_getElem? (i := 44) rfl)) rfl
theorem ml_X8_162 : Cond.methodLink RX8 162 yX8_isOut ∈ WG := WG_of (tb_7 _ (List.mem_of_getElem? (i := 48) rfl)) rfl
theorem ml_X8_165 : Cond.methodLink RX8 165 yX8_hits ∈ WG := WG_of (tb_7 _ (List.mem_of_getElem? (i := 52) rfl)) rfl
theorem ml_X8_149 : Cond.methodLink RX8 149 yX8_cellX ∈ WG := WG_of (tb_7 _ (List.mem_of_getElem? (i := 56) rfl)) rfl
theorem ml_X8_152 : Cond.methodLink RX8 152 yX8_cellY ∈ WG := WG_of (tb_7 _ (List.mem_of_getElem? (i := 60) rfl)) rfl
theorem ml_X8_168 : Cond.methodLink RX8 168 yX8_crosses ∈ WG := WG_of (tb_7 _ (List.mem_of_getElem? (i := 64) rfl)) rfl
theorem ml_X8_155 : Cond.methodLink RX8 155 yX8_has ∈ WG := WG_of (tb_7 _ (List.mem_of_getElem? (i := 68) rfl)) rfl
theorem ml_X8_158 : Cond.methodLink RX8 158 yX8_isJointOf ∈ WG := WG_of (tb_7 _ (List.mem_of_getElem? (i := 72) rfl)) rfl
theorem ml_X8_209 : Cond.methodLink RX8 209 yX8_turnsTo ∈ WG := WG_of (tb_7 _ (List.mem_of_getElem? (i := 76) rfl)) rfl
theorem ml_L_208 : Cond.methodLink RL 208 yX8_moves ∈ WG := WG_of (tb_7 _ (List.mem_of_getElem? (i := 80) rfl)) rfl
theorem ml_L_212 : Cond.methodLink RL 212 yX8_tip ∈ WG := WG_of (tb_7 _ (List.mem_of_getElem? (i := 84) rfl)) rfl
theorem ml_L_216 : Cond.methodLink RL 216 yX8_fault ∈ WG := WG_of (tb_7 _ (List.mem_of_getElem? (i := 88) rfl)) rfl
theorem ml_L_219 : Cond.methodLink RL 219 yX8_faultyLink ∈ WG := WG_of (tb_7 _ (List.mem_of_getElem? (i := 92) rfl)) rfl
theorem ml_L_222 : Cond.methodLink RL 222 yX8_linksAt ∈ WG := WG_of (tb_7 _ (List.mem_of_getElem? (i := 96) rfl)) rfl
theorem ml_L_226 : Cond.methodLink RL 226 yX8_poseNumber ∈ WG := WG_of (tb_7 _ (List.mem_of_getElem? (i := 100) rfl)) rfl
theorem ml_L_229 : Cond.methodLink RL 229 yX8_clearance ∈ WG := WG_of (tb_7 _ (List.mem_of_getElem? (i := 104) rfl)) rfl
theorem ml_X8_215 : Cond.methodLink RX8 215 yX8_distance ∈ WG := WG_of (tb_7 _ (List.mem_of_getElem? (i := 108) rfl)) rfl
theorem ml_X8_212 : Cond.methodLink RX8 212 yX8_size ∈ WG := WG_of (tb_7 _ (List.mem_of_getElem? (i := 111) rfl)) rfl
theorem ml_L_233 : Cond.methodLink RL 233 yX8_winding ∈ WG := WG_of (tb_7 _ (List.mem_of_getElem? (i := 114) rfl)) rfl
theorem ml_L_236 : Cond.methodLink RL 236 yX8_freePoses ∈ WG := WG_of (tb_7 _ (List.mem_of_getElem? (i := 118) rfl)) rfl
theorem ml_X8_222 : Cond.methodLink RX8 222 yX8_isMany ∈ WG := WG_of (tb_7 _ (List.mem_of_getElem? (i := 122) rfl)) rfl
theorem ml_X8_225 : Cond.methodLink RX8 225 yX8_freeAt ∈ WG := WG_of (tb_7 _ (List.mem_of_getElem? (i := 126) rfl)) rfl
theorem ml_X8_228 : Cond.methodLink RX8 228 yX8_laysAll ∈ WG := WG_of (tb_7 _ (List.mem_of_getElem? (i := 130) rfl)) rfl
theorem ml_X8_219 : Cond.methodLink RX8 219 yX8_cellOf ∈ WG := WG_of (tb_7 _ (List.mem_of_getElem? (i := 134) rfl)) rfl
theorem ml_L_239 : Cond.methodLink RL 239 yX8_poseValue ∈ WG := WG_of (tb_7 _ (List.mem_of_getElem? (i := 137) rfl)) rfl
theorem ml_X8_231 : Cond.methodLink RX8 231 yX8_isPose ∈ WG := WG_of (tb_7 _ (List.mem_of_getElem? (i := 141) rfl)) rfl
theorem ml_L_242 : Cond.methodLink RL 242 yX8_isFreePose ∈ WG := WG_of (tb_7 _ (List.mem_of_getElem? (i := 145) rfl)) rfl
theorem ml_L_245 : Cond.methodLink RL 245 yX8_posesAt ∈ WG := WG_of (tb_7 _ (List.mem_of_getElem? (i := 149) rfl)) rfl
theorem ml_L_248 : Cond.methodLink RL 248 yX8_connected ∈ WG := WG_of (tb_7 _ (List.mem_of_getElem? (i := 153) rfl)) rfl
theorem ml_X8_246 : Cond.methodLink RX8 246 yX8_connects ∈ WG := WG_of (tb_7 _ (List.mem_of_getElem? (i := 157) rfl)) rfl
theorem ml_X8_237 : Cond.methodLink RX8 237 yX8_forgets ∈ WG := WG_of (tb_7 _ (List.mem_of_getElem? (i := 161) rfl)) rfl
theorem ml_X8_240 : Cond.methodLink RX8 240 yX8_starts ∈ WG := WG_of (tb_7 _ (List.mem_of_getElem? (i := 165) rfl)) rfl
theorem ml_X8_243 : Cond.methodLink RX8 243 yX8_spreads ∈ WG := WG_of (tb_7 _ (List.mem_of_getElem? (i := 169) rfl)) rfl
theorem ml_L_251 : Cond.methodLink RL 251 yX8_reachableCells ∈ WG := WG_of (tb_7 _ (List.mem_of_getElem? (i := 173) rfl)) rfl
theorem ml_X8_249 : Cond.methodLink RX8 249 yX8_counts ∈ WG := WG_of (tb_7 _ (List.mem_of_getElem? (i := 177) rfl)) rfl
theorem ml_L_255 : Cond.methodLink RL 255 yX8_favorite ∈ WG := WG_of (tb_7 _ (List.mem_of_getElem? (i := 181) rfl)) rfl
theorem ml_L_258 : Cond.methodLink RL 258 yX8_farthest ∈ WG := WG_of (tb_7 _ (List.mem_of_getElem? (i := 185) rfl)) rfl
theorem ml_L_261 : Cond.methodLink RL 261 yX8_groups ∈ WG := WG_of (tb_7 _ (List.mem_of_getElem? (i := 189) rfl)) rfl
theorem ml_L_265 : Cond.methodLink RL 265 yX8_freedom ∈ WG := WG_of (tb_7 _ (List.mem_of_getElem? (i := 193) rfl)) rfl
theorem ml_L_268 : Cond.methodLink RL 268 yX8_planToPose ∈ WG := WG_of (tb_7 _ (List.mem_of_getElem? (i := 197) rfl)) rfl
theorem ml_X8_258 : Cond.methodLink RX8 258 yX8_toPose ∈ WG := WG_of (tb_7 _ (List.mem_of_getElem? (i := 201) rfl)) rfl
theorem ml_X8_261 : Cond.methodLink RX8 261 yX8_leads ∈ WG := WG_of (tb_7 _ (List.mem_of_getElem? (i := 205) rfl)) rfl
theorem ml_X8_255 : Cond.methodLink RX8 255 yX8_isNearer ∈ WG := WG_of (tb_7 _ (List.mem_of_getElem? (i := 209) rfl)) rfl
theorem ml_L_271 : Cond.methodLink RL 271 yX8_planToCell ∈ WG := WG_of (tb_7 _ (List.mem_of_getElem? (i := 213) rfl)) rfl
theorem ml_X8_264 : Cond.methodLink RX8 264 yX8_toCell ∈ WG := WG_of (tb_7 _ (List.mem_of_getElem? (i := 217) rfl)) rfl
theorem ml_L_274 : Cond.methodLink RL 274 yX8_planSmooth ∈ WG := WG_of (tb_7 _ (List.mem_of_getElem? (i := 221) rfl)) rfl
theorem ml_X8_270 : Cond.methodLink RX8 270 yX8_leastTurns ∈ WG := WG_of (tb_7 _ (List.mem_of_getElem? (i := 225) rfl)) rfl
theorem ml_X8_267 : Cond.methodLink RX8 267 yX8_turnsBy ∈ WG := WG_of (tb_7 _ (List.mem_of_getElem? (i := 229) rfl)) rfl
theorem ml_X8_273 : Cond.methodLink RX8 273 yX8_changesOf ∈ WG := WG_of (tb_7 _ (List.mem_of_getElem? (i := 233) rfl)) rfl
theorem ml_L_277 : Cond.methodLink RL 277 yX8_planNear ∈ WG := WG_of (tb_7 _ (List.mem_of_getElem? (i := 237) rfl)) rfl
theorem ml_X8_276 : Cond.methodLink RX8 276 yX8_tipDistance ∈ WG := WG_of (tb_8 _ (List.mem_of_getElem? (i := 1) rfl)) rfl
theorem ml_L_280 : Cond.methodLink RL 280 yX8_pathLength ∈ WG := WG_of (tb_8 _ (List.mem_of_getElem? (i := 5) rfl)) rfl
theorem ml_L_283 : Cond.methodLink RL 283 yX8_pathMove ∈ WG := WG_of (tb_8 _ (List.mem_of_getElem? (i := 9) rfl)) rfl
theorem ml_L_286 : Cond.methodLink RL 286 yX8_pathChanges ∈ WG := WG_of (tb_8 _ (List.mem_of_getElem? (i := 13) rfl)) rfl
theorem ml_L_289 : Cond.methodLink RL 289 yX8_follow ∈ WG := WG_of (tb_8 _ (List.mem_of_getElem? (i := 17) rfl)) rfl
theorem ml_L_292 : Cond.methodLink RL 292 yX8_back ∈ WG := WG_of (tb_8 _ (List.mem_of_getElem? (i := 21) rfl)) rfl
theorem ml_L_295 : Cond.methodLink RL 295 yX8_pathCells ∈ WG := WG_of (tb_8 _ (List.mem_of_getElem? (i := 25) rfl)) rfl
theorem ml_L_299 : Cond.methodLink RL 299 yX8_bookmark ∈ WG := WG_of (tb_8 _ (List.mem_of_getElem? (i := 29) rfl)) rfl
theorem ml_X8_279 : Cond.methodLink RX8 279 yX8_used ∈ WG := WG_of (tb_8 _ (List.mem_of_getElem? (i := 33) rfl)) rfl
theorem ml_L_302 : Cond.methodLink RL 302 yX8_planToName ∈ WG := WG_of (tb_8 _ (List.mem_of_getElem? (i := 37) rfl)) rfl
theorem ml_X8_282 : Cond.methodLink RX8 282 yX8_isNamed ∈ WG := WG_of (tb_8 _ (List.mem_of_getElem? (i := 41) rfl)) rfl
theorem ml_L_305 : Cond.methodLink RL 305 yX8_append ∈ WG := WG_of (tb_8 _ (List.mem_of_getElem? (i := 45) rfl)) rfl
theorem ml_L_308 : Cond.methodLink RL 308 yX8_read ∈ WG := WG_of (tb_8 _ (List.mem_of_getElem? (i := 49) rfl)) rfl
theorem ml_X8_315 : Cond.methodLink RX8 315 yX8_isText ∈ WG := WG_of (tb_8 _ (List.mem_of_getElem? (i := 53) rfl)) rfl
theorem ml_X8_303 : Cond.methodLink RX8 303 yX8_skips ∈ WG := WG_of (tb_8 _ (List.mem_of_getElem? (i := 57) rfl)) rfl
theorem ml_X8_291 : Cond.methodLink RX8 291 yX8_here ∈ WG := WG_of (tb_8 _ (List.mem_of_getElem? (i := 61) rfl)) rfl
theorem ml_X8_309 : Cond.methodLink RX8 309 yX8_linkHere ∈ WG := WG_of (tb_8 _ (List.mem_of_getElem? (i := 65) rfl)) rfl
theorem ml_X8_297 : Cond.methodLink RX8 297 yX8_digit ∈ WG := WG_of (tb_8 _ (List.mem_of_getElem? (i := 69) rfl)) rfl
theorem ml_X8_312 : Cond.methodLink RX8 312 yX8_stoneHere ∈ WG := WG_of (tb_8 _ (List.mem_of_getElem? (i := 73) rfl)) rfl
theorem ml_X8_306 : Cond.methodLink RX8 306 yX8_coordinate ∈ WG := WG_of (tb_8 _ (List.mem_of_getElem? (i := 77) rfl)) rfl
theorem ml_X8_318 : Cond.methodLink RX8 318 yX8_addsAll ∈ WG := WG_of (tb_8 _ (List.mem_of_getElem? (i := 81) rfl)) rfl
theorem ml_L_311 : Cond.methodLink RL 311 yX8_errorPosition ∈ WG := WG_of (tb_8 _ (List.mem_of_getElem? (i := 85) rfl)) rfl
theorem m_ac_nat : Cond.native arraycopyName ∈ WG := WG_of (tb_2 _ (List.mem_of_getElem? (i := 128) rfl)) rfl
theorem m_ac_stat : Cond.static arraycopyName ∈ WG := WG_of (tb_2 _ (List.mem_of_getElem? (i := 127) rfl)) rfl
theorem m_ac_ini : Cond.initialized "java/lang/System" ∈ WG := WG_of (tb_1 _ (List.mem_of_getElem? (i := 16) rfl)) rfl
theorem m_math_ini : Cond.initialized "java/lang/Math" ∈ WG := WG_of (tb_1 _ (List.mem_of_getElem? (i := 20) rfl)) rfl
theorem m_max_stat : Cond.static Lib.Math.max.name ∈ WG := WG_of (tb_2 _ (List.mem_of_getElem? (i := 150) rfl)) rfl
theorem m_max_code : Cond.code Lib.Math.max.name Lib.Math.max.code 2 (some .int) ∈ WG := WG_of (tb_2 _ (List.mem_of_getElem? (i := 151) rfl)) rfl
theorem m_min_stat : Cond.static Lib.Math.min.name ∈ WG := WG_of (tb_3 _ (List.mem_of_getElem? (i := 104) rfl)) rfl
theorem m_min_code : Cond.code Lib.Math.min.name Lib.Math.min.code 2 (some .int) ∈ WG := WG_of (tb_3 _ (List.mem_of_getElem? (i := 105) rfl)) rfl
theorem m_abs_stat : Cond.static Lib.Math.abs.name ∈ WG := WG_of (tb_4 _ (List.mem_of_getElem? (i := 29) rfl)) rfl
theorem m_abs_code : Cond.code Lib.Math.abs.name Lib.Math.abs.code 1 (some .int) ∈ WG := WG_of (tb_4 _ (List.mem_of_getElem? (i := 30) rfl)) rfl
theorem pn_X0 : plainName RX0 = true := by decide +kernel
theorem pn_X1 : plainName RX1 = true := by decide +kernel
theorem pn_X2 : plainName RX2 = true := by decide +kernel
theorem pn_X3 : plainName RX3 = true := by decide +kernel
theorem pn_X4 : plainName RX4 = true := by decide +kernel
theorem pn_X5 : plainName RX5 = true := by decide +kernel
theorem pn_X6 : plainName RX6 = true := by decide +kernel
theorem pn_X7 : plainName RX7 = true := by decide +kernel
theorem pn_X8 : plainName RX8 = true := by decide +kernel
theorem pn_J7 : plainName RJ7 = true := by decide +kernel
theorem lc_X5_41 : Cond.constant RX5 41 (40000) ∈ WG := WG_of (tb_1 _ (List.mem_of_getElem? (i := 148) rfl)) rfl
theorem lc_X7_270 : Cond.constant RX7 270 (1000000) ∈ WG := WG_of (tb_4 _ (List.mem_of_getElem? (i := 20) rfl)) rfl
theorem lc_X5_137 : Cond.constant RX5 137 (1000000) ∈ WG := WG_of (tb_5 _ (List.mem_of_getElem? (i := 40) rfl)) rfl
theorem lc_X8_54 : Cond.constant RX8 54 (45000) ∈ WG := WG_of (tb_6 _ (List.mem_of_getElem? (i := 17) rfl)) rfl
/-! links between nest mates: each method is told of them -/
def NW : List Cond := [.methodLinkNest RX7 11 yX4_init RX7, .methodLinkNest RX1 24 yX4_init RX7, .methodLinkNest RX7 31 yX6_init RX7, .methodLinkNest RX7 38 yX5_init RX7, .methodLinkNest RX5 47 yX6_init RX7, .methodLinkNest RX7 45 yX3_init RX7, .methodLinkNest RX7 52 yX0_init RX7, .methodLinkNest RX7 59 yX2_init RX7, .fieldLinkNest RX6 51 RX7 "STEP_X" "[I" RX7, .fieldLinkNest RX6 54 RX7 "STEP_Y" "[I" RX7, .methodLinkNest RX6 61 yX7_isInside RX7, .methodLinkNest RX4 65 yX7_isInside RX7, .methodLinkNest RX5 87 yX7_cellNumber RX7, .methodLinkNest RX5 97 yX7_jointOf RX7, .methodLinkNest RX5 100 yX7_turnOf RX7, .castable "java/lang/IllegalArgumentException" "java/lang/IllegalArgumentException", .castable "java/lang/IllegalStateException" "java/lang/IllegalStateException", .castable "java/lang/IndexOutOfBoundsException" "java/lang/IndexOutOfBoundsException", .castable "java/util/NoSuchElementException" "java/util/NoSuchElementException", .castable "java/lang/ArithmeticException" "java/lang/ArithmeticException", .castable "java/lang/UnsupportedOperationException" "java/lang/UnsupportedOperationException", .declares ⟨"java/lang/RuntimeException", "<init>", "(Ljava/lang/String;)V"⟩, .declares ⟨"java/lang/Exception", "<init>", "(Ljava/lang/String;)V"⟩, .declares ⟨"java/lang/Throwable", "<init>", "(Ljava/lang/String;)V"⟩]
theorem NW_tbl : ∀ w ∈ NW, w ∈ lw_tbl := List.forall_mem_cons.mpr ⟨tb_1 _ (List.mem_of_getElem? (i := 34) rfl), List.forall_mem_cons.mpr ⟨tb_1 _ (List.mem_of_getElem? (i := 89) rfl), List.forall_mem_cons.mpr ⟨tb_1 _ (List.mem_of_getElem? (i := 103) rfl), List.forall_mem_cons.mpr ⟨tb_1 _ (List.mem_of_getElem? (i := 144) rfl), List.forall_mem_cons.mpr ⟨tb_1 _ (List.mem_of_getElem? (i := 150) rfl), List.forall_mem_cons.mpr ⟨tb_1 _ (List.mem_of_getElem? (i := 193) rfl), List.forall_mem_cons.mpr ⟨tb_1 _ (List.mem_of_getElem? (i := 220) rfl), List.forall_mem_cons.mpr ⟨tb_2 _ (List.mem_of_getElem? (i := 1) rfl), List.forall_mem_cons.mpr ⟨tb_2 _ (List.mem_of_getElem? (i := 89) rfl), List.forall_mem_cons.mpr ⟨tb_2 _ (List.mem_of_getElem? (i := 91) rfl), List.forall_mem_cons.mpr ⟨tb_2 _ (List.mem_of_getElem? (i := 97) rfl), List.forall_mem_cons.mpr ⟨tb_3 _ (List.mem_of_getElem? (i := 123) rfl), List.forall_mem_cons.mpr ⟨tb_4 _ (List.mem_of_getElem? (i := 57) rfl), List.forall_mem_cons.mpr ⟨tb_4 _ (List.mem_of_getElem? (i := 131) rfl), List.forall_mem_cons.mpr ⟨tb_4 _ (List.mem_of_getElem? (i := 132) rfl), List.forall_mem_cons.mpr ⟨tb_2 _ (List.mem_of_getElem? (i := 182) rfl), List.forall_mem_cons.mpr ⟨tb_3 _ (List.mem_of_getElem? (i := 14) rfl), List.forall_mem_cons.mpr ⟨tb_3 _ (List.mem_of_getElem? (i := 87) rfl), List.forall_mem_cons.mpr ⟨tb_3 _ (List.mem_of_getElem? (i := 140) rfl), List.forall_mem_cons.mpr ⟨tb_4 _ (List.mem_of_getElem? (i := 205) rfl), List.forall_mem_cons.mpr ⟨tb_5 _ (List.mem_of_getElem? (i := 155) rfl), List.forall_mem_cons.mpr ⟨tb_2 _ (List.mem_of_getElem? (i := 184) rfl), List.forall_mem_cons.mpr ⟨tb_2 _ (List.mem_of_getElem? (i := 186) rfl), List.forall_mem_cons.mpr ⟨tb_2 _ (List.mem_of_getElem? (i := 188) rfl), (fun _ h => nomatch h)⟩⟩⟩⟩⟩⟩⟩⟩⟩⟩⟩⟩⟩⟩⟩⟩⟩⟩⟩⟩⟩⟩⟩⟩
theorem NW_on : ∀ w ∈ NW, w.onTables = true := List.forall_mem_cons.mpr ⟨rfl, List.forall_mem_cons.mpr ⟨rfl, List.forall_mem_cons.mpr ⟨rfl, List.forall_mem_cons.mpr ⟨rfl, List.forall_mem_cons.mpr ⟨rfl, List.forall_mem_cons.mpr ⟨rfl, List.forall_mem_cons.mpr ⟨rfl, List.forall_mem_cons.mpr ⟨rfl, List.forall_mem_cons.mpr ⟨rfl, List.forall_mem_cons.mpr ⟨rfl, List.forall_mem_cons.mpr ⟨rfl, List.forall_mem_cons.mpr ⟨rfl, List.forall_mem_cons.mpr ⟨rfl, List.forall_mem_cons.mpr ⟨rfl, List.forall_mem_cons.mpr ⟨rfl, List.forall_mem_cons.mpr ⟨rfl, List.forall_mem_cons.mpr ⟨rfl, List.forall_mem_cons.mpr ⟨rfl, List.forall_mem_cons.mpr ⟨rfl, List.forall_mem_cons.mpr ⟨rfl, List.forall_mem_cons.mpr ⟨rfl, List.forall_mem_cons.mpr ⟨rfl, List.forall_mem_cons.mpr ⟨rfl, List.forall_mem_cons.mpr ⟨rfl, (fun _ h => nomatch h)⟩⟩⟩⟩⟩⟩⟩⟩⟩⟩⟩⟩⟩⟩⟩⟩⟩⟩⟩⟩⟩⟩⟩⟩
theorem NW_warm {s U : State} (hW : s.WarmedH U.vm) : ∀ w ∈ NW, va_Nw w s → va_Nw w U := List.forall_mem_cons.mpr ⟨fun h => va_Nw.warmM hW h, List.forall_mem_cons.mpr ⟨fun h => va_Nw.warmM hW h, List.forall_mem_cons.mpr ⟨fun h => va_Nw.warmM hW h, List.forall_mem_cons.mpr ⟨fun h => va_Nw.warmM hW h, List.forall_mem_cons.mpr ⟨fun h => va_Nw.warmM hW h, List.forall_mem_cons.mpr ⟨fun h => va_Nw.warmM hW h, List.forall_mem_cons.mpr ⟨fun h => va_Nw.warmM hW h, List.forall_mem_cons.mpr ⟨fun h => va_Nw.warmM hW h, List.forall_mem_cons.mpr ⟨fun h => va_Nw.warmF hW h, List.forall_mem_cons.mpr ⟨fun h => va_Nw.warmF hW h, List.forall_mem_cons.mpr ⟨fun h => va_Nw.warmM hW h, List.forall_mem_cons.mpr ⟨fun h => va_Nw.warmM hW h, List.forall_mem_cons.mpr ⟨fun h => va_Nw.warmM hW h, List.forall_mem_cons.mpr ⟨fun h => va_Nw.warmM hW h, List.forall_mem_cons.mpr ⟨fun h => va_Nw.warmM hW h, List.forall_mem_cons.mpr ⟨fun h => va_Nw.warmC hW h, List.forall_mem_cons.mpr ⟨fun h => va_Nw.warmC hW h, List.forall_mem_cons.mpr ⟨fun h => va_Nw.warmC hW h, List.forall_mem_cons.mpr ⟨fun h => va_Nw.warmC hW h, List.forall_mem_cons.mpr ⟨fun h => va_Nw.warmC hW h, List.forall_mem_cons.mpr ⟨fun h => va_Nw.warmC hW h, List.forall_mem_cons.mpr ⟨fun h => va_Nw.warmD hW h, List.forall_mem_cons.mpr ⟨fun h => va_Nw.warmD hW h, List.forall_mem_cons.mpr ⟨fun h => va_Nw.warmD hW h, (fun _ h => nomatch h)⟩⟩⟩⟩⟩⟩⟩⟩⟩⟩⟩⟩⟩⟩⟩⟩⟩⟩⟩⟩⟩⟩⟩⟩
theorem nw_X7_11 : Cond.methodLinkNest RX7 11 yX4_init RX7 ∈ NW := List.mem_of_getElem? (i := 0) rfl
theorem nw_X1_24 : Cond.methodLinkNest RX1 24 yX4_init RX7 ∈ NW := List.mem_of_getElem? (i := 1) rfl
theorem nw_X7_31 : Cond.methodLinkNest RX7 31 yX6_init RX7 ∈ NW := List.mem_of_getElem? (i := 2) rfl
theorem nw_X7_38 : Cond.methodLinkNest RX7 38 yX5_init RX7 ∈ NW := List.mem_of_getElem? (i := 3) rfl
theorem nw_X5_47 : Cond.methodLinkNest RX5 47 yX6_init RX7 ∈ NW := List.mem_of_getElem? (i := 4) rfl
theorem nw_X7_45 : Cond.methodLinkNest RX7 45 yX3_init RX7 ∈ NW := List.mem_of_getElem? (i := 5) rfl
theorem nw_X7_52 : Cond.methodLinkNest RX7 52 yX0_init RX7 ∈ NW := List.mem_of_getElem? (i := 6) rfl
theorem nw_X7_59 : Cond.methodLinkNest RX7 59 yX2_init RX7 ∈ NW := List.mem_of_getElem? (i := 7) rfl
theorem nw_X6_51 : Cond.fieldLinkNest RX6 51 RX7 "STEP_X" "[I" RX7 ∈ NW := List.mem_of_getElem? (i := 8) rfl
theorem nw_X6_54 : Cond.fieldLinkNest RX6 54 RX7 "STEP_Y" "[I" RX7 ∈ NW := List.mem_of_getElem? (i := 9) rfl
theorem nw_X6_61 : Cond.methodLinkNest RX6 61 yX7_isInside RX7 ∈ NW := List.mem_of_getElem? (i := 10) rfl
theorem nw_X4_65 : Cond.methodLinkNest RX4 65 yX7_isInside RX7 ∈ NW := List.mem_of_getElem? (i := 11) rfl
theorem nw_X5_87 : Cond.methodLinkNest RX5 87 yX7_cellNumber RX7 ∈ NW := List.mem_of_getElem? (i := 12) rfl
theorem nw_X5_97 : Cond.methodLinkNest RX5 97 yX7_jointOf RX7 ∈ NW := List.mem_of_getElem? (i := 13) rfl
theorem nw_X5_100 : Cond.methodLinkNest RX5 100 yX7_turnOf RX7 ∈ NW := List.mem_of_getElem? (i := 14) rfl
