theorem nw_tbl : ∀ w ∈ NW, w ∈ lw_tbl := by
  unfold NW
  exact List.forall_mem_cons.mpr ⟨tb_1 _ (List.mem_of_getElem? (i := 34) rfl), List.forall_mem_cons.mpr ⟨tb_1 _ (List.mem_of_getElem? (i := 89) rfl), List.forall_mem_cons.mpr ⟨tb_1 _ (List.mem_of_getElem? (i := 103) rfl), List.forall_mem_cons.mpr ⟨tb_1 _ (List.mem_of_getElem? (i := 144) rfl), List.forall_mem_cons.mpr ⟨tb_1 _ (List.mem_of_getElem? (i := 150) rfl), List.forall_mem_cons.mpr ⟨tb_1 _ (List.mem_of_getElem? (i := 193) rfl), List.forall_mem_cons.mpr ⟨tb_1 _ (List.mem_of_getElem? (i := 220) rfl), List.forall_mem_cons.mpr ⟨tb_2 _ (List.mem_of_getElem? (i := 1) rfl), List.forall_mem_cons.mpr ⟨tb_2 _ (List.mem_of_getElem? (i := 89) rfl), List.forall_mem_cons.mpr ⟨tb_2 _ (List.mem_of_getElem? (i := 91) rfl), List.forall_mem_cons.mpr ⟨tb_2 _ (List.mem_of_getElem? (i := 97) rfl), List.forall_mem_cons.mpr ⟨tb_3 _ (List.mem_of_getElem? (i := 123) rfl), List.forall_mem_cons.mpr ⟨tb_4 _ (List.mem_of_getElem? (i := 57) rfl), List.forall_mem_cons.mpr ⟨tb_4 _ (List.mem_of_getElem? (i := 131) rfl), List.forall_mem_cons.mpr ⟨tb_4 _ (List.mem_of_getElem? (i := 132) rfl), List.forall_mem_cons.mpr ⟨tb_2 _ (List.mem_of_getElem? (i := 182) rfl), List.forall_mem_cons.mpr ⟨tb_3 _ (List.mem_of_getElem? (i := 14) rfl), List.forall_mem_cons.mpr ⟨tb_3 _ (List.mem_of_getElem? (i := 87) rfl), List.forall_mem_cons.mpr ⟨tb_3 _ (List.mem_of_getElem? (i := 140) rfl), List.forall_mem_cons.mpr ⟨tb_4 _ (List.mem_of_getElem? (i := 205) rfl), List.forall_mem_cons.mpr ⟨tb_5 _ (List.mem_of_getElem? (i := 155) rfl), List.forall_mem_cons.mpr ⟨tb_2 _ (List.mem_of_getElem? (i := 184) rfl), List.forall_mem_cons.mpr ⟨tb_2 _ (List.mem_of_getElem? (i := 186) rfl), List.forall_mem_cons.mpr ⟨tb_2 _ (List.mem_of_getElem? (i := 188) rfl), fun _ h => by cases h⟩⟩⟩⟩⟩⟩⟩⟩⟩⟩⟩⟩⟩⟩⟩⟩⟩⟩⟩⟩⟩⟩⟩⟩
theorem iu_J0 : ∀ w ∈ u_ws RJ0 TJ0 2, w ∈ WG := by
  intro w h
  obtain ⟨k, hk, rfl⟩ := List.mem_map.mp h
  have hk : k < 2 := List.mem_range.mp hk
  rcases (show k = 0 ∨ k = 1 by omega) with rfl | rfl
  · exact WG_of (tb_3 _ (List.mem_of_getElem? (i := 76) rfl)) rfl
  · exact WG_of (tb_3 _ (List.mem_of_getElem? (i := 78) rfl)) rfl
theorem iu_Jx00060 : ∀ w ∈ u_ws RJx00060 TJx00060 6, w ∈ WG := by
  intro w h
  obtain ⟨k, hk, rfl⟩ := List.mem_map.mp h
  have hk : k < 6 := List.mem_range.mp hk
  rcases (show k = 0 ∨ k = 1 ∨ k = 2 ∨ k = 3 ∨ k = 4 ∨ k = 5 by omega) with rfl | rfl | rfl | rfl | rfl | rfl
  · exact WG_of (tb_3 _ (List.mem_of_getElem? (i := 64) rfl)) rfl
  · exact WG_of (tb_3 _ (List.mem_of_getElem? (i := 65) rfl)) rfl
  · exact WG_of (tb_3 _ (List.mem_of_getElem? (i := 66) rfl)) rfl
  · exact WG_of (tb_3 _ (List.mem_of_getElem? (i := 67) rfl)) rfl
  · exact WG_of (tb_3 _ (List.mem_of_getElem? (i := 68) rfl)) rfl
  · exact WG_of (tb_3 _ (List.mem_of_getElem? (i := 69) rfl)) rfl
theorem arrT {args : Array Value} {s : State} {ty : FieldType} (h : (Cond.arrayClass ty).before args s = true) (hr : ∀ c, va_RA s c ty = (s.vm.findClass ("[" ++ ty.toString) = some c)) : ∃ c, ArrOfT s c ty ∧ va_RA s c ty := by
  obtain ⟨c, k, comp, h1, h2, h3⟩ := Cond.arrayClass_spec h
  exact ⟨c, fun n z => ⟨fun k h => (by cases h), k, h2, comp, h3⟩, by rw [hr]; exact h1⟩
theorem arrO {args : Array Value} {s : State} {C : String} (h : (Cond.arrayOver (.object C)).before args s = true) : ∃ c, ArrOfT s c (.object C) ∧ va_RA s c (.object C) := by
  obtain ⟨comp, c, k, h1, h2, h3, h4, h5⟩ := Cond.arrayOver_spec h
  exact ⟨c, fun n z => ⟨fun k h => (by cases h), k, h3, comp, h4⟩, ⟨k, comp, h3, h4, h1, h5⟩⟩
theorem known_all {args : Array Value} {s : State} (hts : ∀ w ∈ lw_tbl, w.before args s = true) : ∃ (D : va_G) (E : Nat → ClassId), va_K D vwCl (TY E) s := by
  have hw : ∀ w ∈ WG, w.before args s = true := fun w h => hts w (List.mem_filter.mp h).1
  obtain ⟨c0, i0, h0⟩ := u_known (C := RJ0) (T := TJ0) (N := 2) (n := 4) hw iu_J0 (hts _ (tb_3 _ (List.mem_of_getElem? (i := 75) rfl)))
  obtain ⟨c1, i1, h1⟩ := u_known (C := RJx00060) (T := TJx00060) (N := 6) (n := 6) hw iu_Jx00060 (hts _ (tb_3 _ (List.mem_of_getElem? (i := 57) rfl)))
  obtain ⟨c2, i2, h2⟩ := u_known (C := RX0) (T := TX0) (N := 4) (n := 4) hw iu_X0 (hts _ (tb_1 _ (List.mem_of_getElem? (i := 219) rfl)))
  obtain ⟨c3, i3, h3⟩ := u_known (C := RX1) (T := TX1) (N := 3) (n := 3) hw iu_X1 (hts _ (tb_1 _ (List.mem_of_getElem? (i := 82) rfl)))
  obtain ⟨c4, i4, h4⟩ := u_known (C := RX2) (T := TX2) (N := 3) (n := 3) hw iu_X2 (hts _ (tb_2 _ (List.mem_of_getElem? (i := 0) rfl)))
  obtain ⟨c5, i5, h5⟩ := u_known (C := RX3) (T := TX3) (N := 5) (n := 5) hw iu_X3 (hts _ (tb_1 _ (List.mem_of_getElem? (i := 192) rfl)))
  obtain ⟨c6, i6, h6⟩ := u_known (C := RX4) (T := TX4) (N := 9) (n := 9) hw iu_X4 (hts _ (tb_1 _ (List.mem_of_getElem? (i := 33) rfl)))
  obtain ⟨c7, i7, h7⟩ := u_known (C := RX5) (T := TX5) (N := 12) (n := 12) hw iu_X5 (hts _ (tb_1 _ (List.mem_of_getElem? (i := 143) rfl)))
  obtain ⟨c8, i8, h8⟩ := u_known (C := RX6) (T := TX6) (N := 8) (n := 8) hw iu_X6 (hts _ (tb_1 _ (List.mem_of_getElem? (i := 102) rfl)))
  obtain ⟨c9, i9, h9⟩ := u_known (C := RX7) (T := TX7) (N := 13) (n := 13) hw iu_X7 (hts _ (tb_1 _ (List.mem_of_getElem? (i := 25) rfl)))
  obtain ⟨c10, i10, h10⟩ := u_known (C := RX8) (T := TX8) (N := 31) (n := 31) hw iu_X8 (hts _ (tb_6 _ (List.mem_of_getElem? (i := 12) rfl)))
  obtain ⟨e0, a0, r0⟩ := arrT (ty := .int) (hts _ (tb_1 _ (List.mem_of_getElem? (i := 80) rfl))) (fun _ => rfl)
  obtain ⟨e1, a1, r1⟩ := arrT (ty := .boolean) (hts _ (tb_1 _ (List.mem_of_getElem? (i := 238) rfl))) (fun _ => rfl)
  obtain ⟨e2, a2, r2⟩ := arrT (ty := .char) (hts _ (tb_2 _ (List.mem_of_getElem? (i := 16) rfl))) (fun _ => rfl)
  obtain ⟨e3, a3, r3⟩ := arrO (C := "LatticeArm$Scene") (hts _ (tb_1 _ (List.mem_of_getElem? (i := 88) rfl)))
  obtain ⟨e4, a4, r4⟩ := arrT (ty := .long) (hts _ (tb_8 _ (List.mem_of_getElem? (i := 89) rfl))) (fun _ => rfl)
  obtain ⟨e5, a5, r5⟩ := arrT (ty := .double) (hts _ (tb_8 _ (List.mem_of_getElem? (i := 90) rfl))) (fun _ => rfl)
  refine ⟨(fun k => [c0, c1, c2, c3, c4, c5, c6, c7, c8, c9, c10].getD k c0, fun k => [i0, i1, i2, i3, i4, i5, i6, i7, i8, i9, i10].getD k i0), fun k => [e0, e1, e2, e3, e4, e5].getD k e0, fun k q hq => ?_, fun k q hq => ?_⟩
  · match k, hq with
    | 0, hq => cases hq; exact h0
    | 1, hq => cases hq; exact h1
    | 2, hq => cases hq; exact h2
    | 3, hq => cases hq; exact h3
    | 4, hq => cases hq; exact h4
    | 5, hq => cases hq; exact h5
    | 6, hq => cases hq; exact h6
    | 7, hq => cases hq; exact h7
    | 8, hq => cases hq; exact h8
    | 9, hq => cases hq; exact h9
    | 10, hq => cases hq; exact h10
    | k + 11, hq => simp [vwCl] at hq
  · match k, hq with
    | 0, hq => cases hq; exact ⟨a0, r0⟩
    | 1, hq => cases hq; exact ⟨a1, r1⟩
    | 2, hq => cases hq; exact ⟨a2, r2⟩
    | 3, hq => cases hq; exact ⟨a3, r3⟩
    | 4, hq => cases hq; exact ⟨a4, r4⟩
    | 5, hq => cases hq; exact ⟨a5, r5⟩
    | k + 6, hq => simp [TY] at hq
set_option maxRecDepth 100000 in
theorem st_row {args : Array Value} {s : State} {E : Nat → ClassId} (n : String) (f : Nat → Int32) (hl : (Cond.laysStatic "LatticeArm" n "[I").before args s = true) (hi : (Cond.initialized "LatticeArm").before args s = true) (ha : (Cond.arrayOf (.static "LatticeArm" n "[I") .int).before args s = true) (h8 : (Cond.eq (.length (.static "LatticeArm" n "[I")) (.int 8)).before args s = true) (hel : ∀ j : Nat, j < 8 → (Cond.eq (.elem (.static "LatticeArm" n "[I") (.int (Int32.ofNat j))) (.int (f j))).before args s = true) : SA E n f (fun q => s.heap.size ≤ q) s s.heap := by
  have hA : ∀ a : Nat, a < s.heap.size → ¬ (fun q => s.heap.size ≤ q) a := fun a h => Nat.not_le.mpr h
  obtain ⟨t, ht, hT⟩ := va_Tof (A := fun q => s.heap.size ≤ q) (tm := .static "LatticeArm" n "[I") (ty := .int) (N := 8) (f := fun j => .int (f j)) (by decide) ha (va_eqt h8) (fun j hj => va_eqt (hel j hj)) hA
  exact ⟨t, va_Zof hl hi ht hA, hT⟩
theorem st_tx {args : Array Value} {s : State} {k : Nat} {t : String} (h1 : (Cond.stringRef "LatticeArm" k t).before args s = true) (h2 : (Cond.exactly (.string "LatticeArm" k) "java/lang/String").before args s = true) : ∃ sa, vk_R RX7 (k, t).1 (k, t).2 sa s := by
  obtain ⟨a, -, -, -, ha, -⟩ := Cond.exactly_spec h2
  exact ⟨a, vk_R.of h1 ha⟩
set_option maxHeartbeats 4000000 in
set_option maxRecDepth 100000 in
theorem st_SF {args : Array Value} {s : State} {E : Nat → ClassId} (hts : ∀ w ∈ lw_tbl, w.before args s = true) (hg : (Jvm.Cond.and given_1 narrow_1).before args s = true) : SF E TXL (fun q => s.heap.size ≤ q) s s.heap := by
  have hs := flat_of_before _ hg
  have hA : ∀ a : Nat, a < s.heap.size → ¬ (fun q => s.heap.size ≤ q) a := fun a h => Nat.not_le.mpr h
  refine ⟨?_, ?_, ?_, ?_, ?_, fun w hw => va_Nw.of (NW_on w hw) (hts w (nw_tbl w hw))⟩
  · refine st_row "STEP_X" stepX (hts _ (tb_2 _ (List.mem_of_getElem? (i := 90) rfl))) (hts _ (tb_1 _ (List.mem_of_getElem? (i := 1) rfl))) (hs _ (by decide +kernel)) (hs _ (by decide +kernel)) (fun j hj => ?_)
    rcases (show j = 0 ∨ j = 1 ∨ j = 2 ∨ j = 3 ∨ j = 4 ∨ j = 5 ∨ j = 6 ∨ j = 7 by omega) with rfl | rfl | rfl | rfl | rfl | rfl | rfl | rfl
    · exact hs (.eq (.elem (.static "LatticeArm" "STEP_X" "[I") (.int 0)) (.int 1)) (by decide +kernel)
    · exact hs (.eq (.elem (.static "LatticeArm" "STEP_X" "[I") (.int 1)) (.int 1)) (by decide +kernel)
    · exact hs (.eq (.elem (.static "LatticeArm" "STEP_X" "[I") (.int 2)) (.int 0)) (by decide +kernel)
    · exact hs (.eq (.elem (.static "LatticeArm" "STEP_X" "[I") (.int 3)) (.int (-1))) (by decide +kernel)
    · exact hs (.eq (.elem (.static "LatticeArm" "STEP_X" "[I") (.int 4)) (.int (-1))) (by decide +kernel)
    · exact hs (.eq (.elem (.static "LatticeArm" "STEP_X" "[I") (.int 5)) (.int (-1))) (by decide +kernel)
    · exact hs (.eq (.elem (.static "LatticeArm" "STEP_X" "[I") (.int 6)) (.int 0)) (by decide +kernel)
    · exact hs (.eq (.elem (.static "LatticeArm" "STEP_X" "[I") (.int 7)) (.int 1)) (by decide +kernel)
  · refine st_row "STEP_Y" stepY (hts _ (tb_2 _ (List.mem_of_getElem? (i := 92) rfl))) (hts _ (tb_1 _ (List.mem_of_getElem? (i := 1) rfl))) (hs _ (by decide +kernel)) (hs _ (by decide +kernel)) (fun j hj => ?_)
    rcases (show j = 0 ∨ j = 1 ∨ j = 2 ∨ j = 3 ∨ j = 4 ∨ j = 5 ∨ j = 6 ∨ j = 7 by omega) with rfl | rfl | rfl | rfl | rfl | rfl | rfl | rfl
    · exact hs (.eq (.elem (.static "LatticeArm" "STEP_Y" "[I") (.int 0)) (.int 0)) (by decide +kernel)
    · exact hs (.eq (.elem (.static "LatticeArm" "STEP_Y" "[I") (.int 1)) (.int 1)) (by decide +kernel)
    · exact hs (.eq (.elem (.static "LatticeArm" "STEP_Y" "[I") (.int 2)) (.int 1)) (by decide +kernel)
    · exact hs (.eq (.elem (.static "LatticeArm" "STEP_Y" "[I") (.int 3)) (.int 1)) (by decide +kernel)
    · exact hs (.eq (.elem (.static "LatticeArm" "STEP_Y" "[I") (.int 4)) (.int 0)) (by decide +kernel)
    · exact hs (.eq (.elem (.static "LatticeArm" "STEP_Y" "[I") (.int 5)) (.int (-1))) (by decide +kernel)
    · exact hs (.eq (.elem (.static "LatticeArm" "STEP_Y" "[I") (.int 6)) (.int (-1))) (by decide +kernel)
    · exact hs (.eq (.elem (.static "LatticeArm" "STEP_Y" "[I") (.int 7)) (.int (-1))) (by decide +kernel)
  · exact vx_Zqof (C := Bundle.tN) (n := "UNASSIGNED_STACK") (d := Bundle.steD) (hts _ (tb_2 _ (List.mem_of_getElem? (i := 207) rfl))) (hts _ (tb_1 _ (List.mem_of_getElem? (i := 11) rfl))) (hs _ (by decide +kernel)) hA
  · exact vx_Zqof (C := Bundle.tN) (n := "SUPPRESSED_SENTINEL") (d := Bundle.listD) (hts _ (tb_2 _ (List.mem_of_getElem? (i := 209) rfl))) (hts _ (tb_1 _ (List.mem_of_getElem? (i := 11) rfl))) (hs _ (by decide +kernel)) hA
  · unfold TXL
    exact List.forall_mem_cons.mpr ⟨st_tx (hts _ (tb_2 _ (List.mem_of_getElem? (i := 225) rfl))) (hs (.exactly (.string "LatticeArm" 97) "java/lang/String") (by decide +kernel)), List.forall_mem_cons.mpr ⟨st_tx (hts _ (tb_3 _ (List.mem_of_getElem? (i := 21) rfl))) (hs (.exactly (.string "LatticeArm" 104) "java/lang/String") (by decide +kernel)), List.forall_mem_cons.mpr ⟨st_tx (hts _ (tb_3 _ (List.mem_of_getElem? (i := 48) rfl))) (hs (.exactly (.string "LatticeArm" 114) "java/lang/String") (by decide +kernel)), List.forall_mem_cons.mpr ⟨st_tx (hts _ (tb_3 _ (List.mem_of_getElem? (i := 94) rfl))) (hs (.exactly (.string "LatticeArm" 124) "java/lang/String") (by decide +kernel)), List.forall_mem_cons.mpr ⟨st_tx (hts _ (tb_3 _ (List.mem_of_getElem? (i := 98) rfl))) (hs (.exactly (.string "LatticeArm" 127) "java/lang/String") (by decide +kernel)), List.forall_mem_cons.mpr ⟨st_tx (hts _ (tb_3 _ (List.mem_of_getElem? (i := 117) rfl))) (hs (.exactly (.string "LatticeArm" 496) "java/lang/String") (by decide +kernel)), List.forall_mem_cons.mpr ⟨st_tx (hts _ (tb_3 _ (List.mem_of_getElem? (i := 118) rfl))) (hs (.exactly (.string "LatticeArm" 141) "java/lang/String") (by decide +kernel)), List.forall_mem_cons.mpr ⟨st_tx (hts _ (tb_3 _ (List.mem_of_getElem? (i := 124) rfl))) (hs (.exactly (.string "LatticeArm" 150) "java/lang/String") (by decide +kernel)), List.forall_mem_cons.mpr ⟨st_tx (hts _ (tb_3 _ (List.mem_of_getElem? (i := 147) rfl))) (hs (.exactly (.string "LatticeArm" 157) "java/lang/String") (by decide +kernel)), List.forall_mem_cons.mpr ⟨st_tx (hts _ (tb_3 _ (List.mem_of_getElem? (i := 173) rfl))) (hs (.exactly (.string "LatticeArm" 170) "java/lang/String") (by decide +kernel)), List.forall_mem_cons.mpr ⟨st_tx (hts _ (tb_3 _ (List.mem_of_getElem? (i := 184) rfl))) (hs (.exactly (.string "LatticeArm" 203) "java/lang/String") (by decide +kernel)), List.forall_mem_cons.mpr ⟨st_tx (hts _ (tb_3 _ (List.mem_of_getElem? (i := 199) rfl))) (hs (.exactly (.string "LatticeArm" 205) "java/lang/String") (by decide +kernel)), List.forall_mem_cons.mpr ⟨st_tx (hts _ (tb_3 _ (List.mem_of_getElem? (i := 207) rfl))) (hs (.exactly (.string "LatticeArm" 216) "java/lang/String") (by decide +kernel)), List.forall_mem_cons.mpr ⟨st_tx (hts _ (tb_3 _ (List.mem_of_getElem? (i := 223) rfl))) (hs (.exactly (.string "LatticeArm" 227) "java/lang/String") (by decide +kernel)), List.forall_mem_cons.mpr ⟨st_tx (hts _ (tb_3 _ (List.mem_of_getElem? (i := 224) rfl))) (hs (.exactly (.string "LatticeArm" 236) "java/lang/String") (by decide +kernel)), List.forall_mem_cons.mpr ⟨st_tx (hts _ (tb_3 _ (List.mem_of_getElem? (i := 236) rfl))) (hs (.exactly (.string "LatticeArm" 253) "java/lang/String") (by decide +kernel)), List.forall_mem_cons.mpr ⟨st_tx (hts _ (tb_4 _ (List.mem_of_getElem? (i := 19) rfl))) (hs (.exactly (.string "LatticeArm" 268) "java/lang/String") (by decide +kernel)), List.forall_mem_cons.mpr ⟨st_tx (hts _ (tb_4 _ (List.mem_of_getElem? (i := 44) rfl))) (hs (.exactly (.string "LatticeArm" 473) "java/lang/String") (by decide +kernel)), List.forall_mem_cons.mpr ⟨st_tx (hts _ (tb_4 _ (List.mem_of_getElem? (i := 79) rfl))) (hs (.exactly (.string "LatticeArm" 288) "java/lang/String") (by decide +kernel)), List.forall_mem_cons.mpr ⟨st_tx (hts _ (tb_4 _ (List.mem_of_getElem? (i := 92) rfl))) (hs (.exactly (.string "LatticeArm" 485) "java/lang/String") (by decide +kernel)), List.forall_mem_cons.mpr ⟨st_tx (hts _ (tb_4 _ (List.mem_of_getElem? (i := 168) rfl))) (hs (.exactly (.string "LatticeArm" 483) "java/lang/String") (by decide +kernel)), List.forall_mem_cons.mpr ⟨st_tx (hts _ (tb_4 _ (List.mem_of_getElem? (i := 216) rfl))) (hs (.exactly (.string "LatticeArm" 340) "java/lang/String") (by decide +kernel)), List.forall_mem_cons.mpr ⟨st_tx (hts _ (tb_4 _ (List.mem_of_getElem? (i := 237) rfl))) (hs (.exactly (.string "LatticeArm" 481) "java/lang/String") (by decide +kernel)), List.forall_mem_cons.mpr ⟨st_tx (hts _ (tb_5 _ (List.mem_of_getElem? (i := 86) rfl))) (hs (.exactly (.string "LatticeArm" 378) "java/lang/String") (by decide +kernel)), List.forall_mem_cons.mpr ⟨st_tx (hts _ (tb_5 _ (List.mem_of_getElem? (i := 102) rfl))) (hs (.exactly (.string "LatticeArm" 383) "java/lang/String") (by decide +kernel)), List.forall_mem_cons.mpr ⟨st_tx (hts _ (tb_5 _ (List.mem_of_getElem? (i := 128) rfl))) (hs (.exactly (.string "LatticeArm" 498) "java/lang/String") (by decide +kernel)), List.forall_mem_cons.mpr ⟨st_tx (hts _ (tb_5 _ (List.mem_of_getElem? (i := 133) rfl))) (hs (.exactly (.string "LatticeArm" 413) "java/lang/String") (by decide +kernel)), List.forall_mem_cons.mpr ⟨st_tx (hts _ (tb_5 _ (List.mem_of_getElem? (i := 162) rfl))) (hs (.exactly (.string "LatticeArm" 425) "java/lang/String") (by decide +kernel)), List.forall_mem_cons.mpr ⟨st_tx (hts _ (tb_5 _ (List.mem_of_getElem? (i := 180) rfl))) (hs (.exactly (.string "LatticeArm" 431) "java/lang/String") (by decide +kernel)), List.forall_mem_cons.mpr ⟨st_tx (hts _ (tb_5 _ (List.mem_of_getElem? (i := 181) rfl))) (hs (.exactly (.string "LatticeArm" 434) "java/lang/String") (by decide +kernel)), List.forall_mem_cons.mpr ⟨st_tx (hts _ (tb_5 _ (List.mem_of_getElem? (i := 221) rfl))) (hs (.exactly (.string "LatticeArm" 449) "java/lang/String") (by decide +kernel)), List.forall_mem_cons.mpr ⟨st_tx (hts _ (tb_5 _ (List.mem_of_getElem? (i := 222) rfl))) (hs (.exactly (.string "LatticeArm" 451) "java/lang/String") (by decide +kernel)), List.forall_mem_cons.mpr ⟨st_tx (hts _ (tb_5 _ (List.mem_of_getElem? (i := 230) rfl))) (hs (.exactly (.string "LatticeArm" 453) "java/lang/String") (by decide +kernel)), List.forall_mem_cons.mpr ⟨st_tx (hts _ (tb_5 _ (List.mem_of_getElem? (i := 238) rfl))) (hs (.exactly (.string "LatticeArm" 457) "java/lang/String") (by decide +kernel)), List.forall_mem_cons.mpr ⟨st_tx (hts _ (tb_6 _ (List.mem_of_getElem? (i := 10) rfl))) (hs (.exactly (.string "LatticeArm" 462) "java/lang/String") (by decide +kernel)), fun _ h => by cases h⟩⟩⟩⟩⟩⟩⟩⟩⟩⟩⟩⟩⟩⟩⟩⟩⟩⟩⟩⟩⟩⟩⟩⟩⟩⟩⟩⟩⟩⟩⟩⟩⟩⟩⟩
set_option maxHeartbeats 4000000 in
set_option maxRecDepth 100000 in
theorem st_NC {args : Array Value} {s : State} (hg : (Jvm.Cond.and given_1 narrow_1).before args s = true) : NCX s := by
  have hs := flat_of_before _ hg
  intro i j hi hj hij
  rcases (show i = 1 ∨ i = 2 ∨ i = 3 ∨ i = 4 ∨ i = 5 ∨ i = 6 by omega) with rfl | rfl | rfl | rfl | rfl | rfl
  · rcases (show j = 1 ∨ j = 2 ∨ j = 3 ∨ j = 4 ∨ j = 5 ∨ j = 6 by omega) with rfl | rfl | rfl | rfl | rfl | rfl
    · exact absurd rfl hij
    · exact va_Nc.of (hs (.not (.castable "java/lang/IllegalArgumentException" "java/lang/IllegalStateException")) (by decide +kernel))
    · exact va_Nc.of (hs (.not (.castable "java/lang/IllegalArgumentException" "java/lang/IndexOutOfBoundsException")) (by decide +kernel))
    · exact va_Nc.of (hs (.not (.castable "java/lang/IllegalArgumentException" "java/util/NoSuchElementException")) (by decide +kernel))
    · exact va_Nc.of (hs (.not (.castable "java/lang/IllegalArgumentException" "java/lang/ArithmeticException")) (by decide +kernel))
    · exact va_Nc.of (hs (.not (.castable "java/lang/IllegalArgumentException" "java/lang/UnsupportedOperationException")) (by decide +kernel))
  · rcases (show j = 1 ∨ j = 2 ∨ j = 3 ∨ j = 4 ∨ j = 5 ∨ j = 6 by omega) with rfl | rfl | rfl | rfl | rfl | rfl
    · exact va_Nc.of (hs (.not (.castable "java/lang/IllegalStateException" "java/lang/IllegalArgumentException")) (by decide +kernel))
    · exact absurd rfl hij
    · exact va_Nc.of (hs (.not (.castable "java/lang/IllegalStateException" "java/lang/IndexOutOfBoundsException")) (by decide +kernel))
    · exact va_Nc.of (hs (.not (.castable "java/lang/IllegalStateException" "java/util/NoSuchElementException")) (by decide +kernel))
    · exact va_Nc.of (hs (.not (.castable "java/lang/IllegalStateException" "java/lang/ArithmeticException")) (by decide +kernel))
    · exact va_Nc.of (hs (.not (.castable "java/lang/IllegalStateException" "java/lang/UnsupportedOperationException")) (by decide +kernel))
  · rcases (show j = 1 ∨ j = 2 ∨ j = 3 ∨ j = 4 ∨ j = 5 ∨ j = 6 by omega) with rfl | rfl | rfl | rfl | rfl | rfl
    · exact va_Nc.of (hs (.not (.castable "java/lang/IndexOutOfBoundsException" "java/lang/IllegalArgumentException")) (by decide +kernel))
    · exact va_Nc.of (hs (.not (.castable "java/lang/IndexOutOfBoundsException" "java/lang/IllegalStateException")) (by decide +kernel))
    · exact absurd rfl hij
    · exact va_Nc.of (hs (.not (.castable "java/lang/IndexOutOfBoundsException" "java/util/NoSuchElementException")) (by decide +kernel))
    · exact va_Nc.of (hs (.not (.castable "java/lang/IndexOutOfBoundsException" "java/lang/ArithmeticException")) (by decide +kernel))
    · exact va_Nc.of (hs (.not (.castable "java/lang/IndexOutOfBoundsException" "java/lang/UnsupportedOperationException")) (by decide +kernel))
  · rcases (show j = 1 ∨ j = 2 ∨ j = 3 ∨ j = 4 ∨ j = 5 ∨ j = 6 by omega) with rfl | rfl | rfl | rfl | rfl | rfl
    · exact va_Nc.of (hs (.not (.castable "java/util/NoSuchElementException" "java/lang/IllegalArgumentException")) (by decide +kernel))
    · exact va_Nc.of (hs (.not (.castable "java/util/NoSuchElementException" "java/lang/IllegalStateException")) (by decide +kernel))
    · exact va_Nc.of (hs (.not (.castable "java/util/NoSuchElementException" "java/lang/IndexOutOfBoundsException")) (by decide +kernel))
    · exact absurd rfl hij
    · exact va_Nc.of (hs (.not (.castable "java/util/NoSuchElementException" "java/lang/ArithmeticException")) (by decide +kernel))
    · exact va_Nc.of (hs (.not (.castable "java/util/NoSuchElementException" "java/lang/UnsupportedOperationException")) (by decide +kernel))
  · rcases (show j = 1 ∨ j = 2 ∨ j = 3 ∨ j = 4 ∨ j = 5 ∨ j = 6 by omega) with rfl | rfl | rfl | rfl | rfl | rfl
    · exact va_Nc.of (hs (.not (.castable "java/lang/ArithmeticException" "java/lang/IllegalArgumentException")) (by decide +kernel))
    · exact va_Nc.of (hs (.not (.castable "java/lang/ArithmeticException" "java/lang/IllegalStateException")) (by decide +kernel))
    · exact va_Nc.of (hs (.not (.castable "java/lang/ArithmeticException" "java/lang/IndexOutOfBoundsException")) (by decide +kernel))
    · exact va_Nc.of (hs (.not (.castable "java/lang/ArithmeticException" "java/util/NoSuchElementException")) (by decide +kernel))
    · exact absurd rfl hij
    · exact va_Nc.of (hs (.not (.castable "java/lang/ArithmeticException" "java/lang/UnsupportedOperationException")) (by decide +kernel))
  · rcases (show j = 1 ∨ j = 2 ∨ j = 3 ∨ j = 4 ∨ j = 5 ∨ j = 6 by omega) with rfl | rfl | rfl | rfl | rfl | rfl
    · exact va_Nc.of (hs (.not (.castable "java/lang/UnsupportedOperationException" "java/lang/IllegalArgumentException")) (by decide +kernel))
    · exact va_Nc.of (hs (.not (.castable "java/lang/UnsupportedOperationException" "java/lang/IllegalStateException")) (by decide +kernel))
    · exact va_Nc.of (hs (.not (.castable "java/lang/UnsupportedOperationException" "java/lang/IndexOutOfBoundsException")) (by decide +kernel))
    · exact va_Nc.of (hs (.not (.castable "java/lang/UnsupportedOperationException" "java/util/NoSuchElementException")) (by decide +kernel))
    · exact va_Nc.of (hs (.not (.castable "java/lang/UnsupportedOperationException" "java/lang/ArithmeticException")) (by decide +kernel))
    · exact absurd rfl hij
def S0S : Nat → Int32 := fun i => if i = 1 then -1 else 0
def S0A : Nat → Nat → Int32 := fun _ _ => 0
def S0M : Nat → Int32 := fun i => if i = 2 then -1 else if i = 9 then -1 else 0
def S0N : Nat → Nat → Int32 := fun i _ => if i = 14 then -1 else 0
theorem TB0 (x : Int) : ¬ TB (J 0) x := by
  unfold TB
  rw [show (J 0).toBitVec = 0#32 from rfl]
  simp
theorem REL_0 : REL S0S S0A (fun _ => 0) (fun _ => 0) (fun _ _ _ => 0) S0M S0N := by
  have hW : WF (fun _ => 0) := ⟨⟨by dsimp only; omega, fun k h1 h2 => absurd h2 (by dsimp only; omega)⟩, fun k h1 h2 => absurd h2 (by dsimp only; omega), by dsimp only; omega, fun i h1 h2 => absurd h2 (by dsimp only; omega), fun i j h1 h2 h3 => absurd h3 (by dsimp only; omega)⟩
  have hS : SC (fun _ => 0) (fun _ _ => 0) := ⟨fun k h1 h2 => absurd h2 (by dsimp only; omega), fun i h1 h2 => absurd h2 (by dsimp only; omega), fun x y _ => ⟨fun h => absurd h (TB0 _), fun h => by obtain ⟨i, ⟨h1, h2⟩, -⟩ := h; exact absurd h2 (by dsimp only; omega)⟩⟩
  refine ⟨fun _ => 0, fun _ _ => 0, ⟨⟨rfl, rfl⟩, ⟨rfl, rfl, rfl, rfl, rfl, rfl, rfl⟩, rfl, hS, hW⟩, Or.inl ⟨rfl, rfl⟩, ⟨0, 0, fun _ => 0, rfl, rfl, rfl, rfl, by omega, fun i h1 h2 => absurd h2 (by omega)⟩, Or.inl rfl, Or.inl ⟨rfl, rfl⟩, ⟨fun _ => 0, fun _ => 0, fun _ => 0, fun _ => -1, fun _ => 0, rfl, rfl, rfl, rfl, rfl, rfl, by decide, fun c h1 h2 => Or.inr ⟨rfl, rfl⟩⟩, ⟨0, fun _ => 0, fun _ => 0, rfl, rfl, rfl, rfl, by omega, fun i h1 h2 => absurd h2 (by omega)⟩, ⟨-1, rfl, rfl, by omega, by omega⟩, ⟨fun _ => 0, rfl, rfl⟩, ⟨fun _ => 0, rfl, rfl⟩⟩
theorem WD_sub {D : va_G} {A : Nat → Prop} {s : State} {ws ws' : va_W} {H : Heap} {locs : List Loc} (hW : WD D A s ws H locs) (is : List Nat) (hn : va_nd is = true) (hs : is.map (fun i => ws[i]?) = ws'.map some) : WD D A s ws' H locs :=
  ⟨fun k q hq => by obtain ⟨i, -, hi⟩ := va_at2 hs hq; exact hW.1 i q hi, hW.2.1.sub is hn hs, hW.2.2⟩
set_option maxHeartbeats 4000000 in
set_option maxRecDepth 100000 in
theorem LSS_0 {D : va_G} {E : Nat → ClassId} {A : Nat → Prop} {s : State} {H : Heap} {locs : List Loc} {a1 a2 a3 a4 a5 a6 a7 a8 a9 g : Nat → Nat} {hp : Nat → Nat → Nat} {q1 b10 b11 o od : Nat} (hW : WD D A s (((([] ++ n7_w E a1 a2 a3 a4 a5 a6 a7 a8 a9 hp q1 b10 b11) ++ n8_w E g) ++ [(o, .inl (E 4, 1, .inr (.inl fun _ => 0)))]) ++ [(od, .inl (E 5, 1, .inr (.inr (.inr (.inl fun _ => 0)))))]) H locs) : LSS D E A s (fun i : Nat => [q1, (a1 0), (a2 0), (a3 0), (a4 0), (a5 0), (a6 0), (a7 0), (a8 0), (a9 0), b10, b11, (a1 1), (a1 2), (a1 3), (a1 4), (a1 5), (a1 6), (a1 7), (a4 1), (a6 1), (a6 2), (a6 3), (a6 4), (a6 5), (a6 6), (a6 7), (a6 12), (a7 1), (a5 1), (a5 2), (a5 3), (a5 4), (a6 8), (a6 9), (a6 10), (a6 11), (a8 1), (a8 2), (a8 3), (a9 1), (a9 2), (a3 1), (a3 2), (a3 3), (a3 4), (a3 5), (a3 6), (a3 7), (a2 1), (a2 2), (a2 3), (a2 4), (a2 5), (a2 6), (a2 7)].getD i 0) g hp o od H locs := by
  have hW : WD D A s [(q1, .inr (9, [.ref (a1 0), .ref (a2 0), .ref (a3 0), .ref (a4 0), .ref (a5 0), .ref (a6 0), .ref (a7 0), .ref (a8 0), .ref (a9 0), .ref b10, .ref b11, .int 0, .int (-1)])), ((a1 0), .inr (6, [.int 0, .ref (a1 1), .ref (a1 2), .ref (a1 3), .ref (a1 4), .int 0, .ref (a1 5), .ref (a1 6), .ref (a1 7)])), ((a1 1), .inl (E 0, 4, .inl fun _ => 0)), ((a1 2), .inl (E 0, 4, .inl fun _ => 0)), ((a1 3), .inl (E 0, 4, .inl fun _ => 0)), ((a1 4), .inl (E 0, 4, .inl fun _ => 0)), ((a1 5), .inl (E 0, 60, .inl fun _ => 0)), ((a1 6), .inl (E 0, 60, .inl fun _ => 0)), ((a1 7), .inl (E 0, 21, .inl fun _ => 0)), ((a2 0), .inr (6, [.int 0, .ref (a2 1), .ref (a2 2), .ref (a2 3), .ref (a2 4), .int 0, .ref (a2 5), .ref (a2 6), .ref (a2 7)])), ((a2 1), .inl (E 0, 4, .inl fun _ => 0)), ((a2 2), .inl (E 0, 4, .inl fun _ => 0)), ((a2 3), .inl (E 0, 4, .inl fun _ => 0)), ((a2 4), .inl (E 0, 4, .inl fun _ => 0)), ((a2 5), .inl (E 0, 60, .inl fun _ => 0)), ((a2 6), .inl (E 0, 60, .inl fun _ => 0)), ((a2 7), .inl (E 0, 21, .inl fun _ => 0)), ((a3 0), .inr (6, [.int 0, .ref (a3 1), .ref (a3 2), .ref (a3 3), .ref (a3 4), .int 0, .ref (a3 5), .ref (a3 6), .ref (a3 7)])), ((a3 1), .inl (E 0, 4, .inl fun _ => 0)), ((a3 2), .inl (E 0, 4, .inl fun _ => 0)), ((a3 3), .inl (E 0, 4, .inl fun _ => 0)), ((a3 4), .inl (E 0, 4, .inl fun _ => 0)), ((a3 5), .inl (E 0, 60, .inl fun _ => 0)), ((a3 6), .inl (E 0, 60, .inl fun _ => 0)), ((a3 7), .inl (E 0, 21, .inl fun _ => 0)), ((a4 0), .inr (3, [.int 0, .int 0, .ref (a4 1)])), ((a4 1), .inl (E 3, 8, .inr (.inr (.inr (.inr fun i => some (hp i 0)))))), ((hp 0 0), .inr (6, [.int 0, .ref (hp 0 1), .ref (hp 0 2), .ref (hp 0 3), .ref (hp 0 4), .int 0, .ref (hp 0 5), .ref (hp 0 6), .ref (hp 0 7)])), ((hp 0 1), .inl (E 0, 4, .inl fun _ => 0)), ((hp 0 2), .inl (E 0, 4, .inl fun _ => 0)), ((hp 0 3), .inl (E 0, 4, .inl fun _ => 0)), ((hp 0 4), .inl (E 0, 4, .inl fun _ => 0)), ((hp 0 5), .inl (E 0, 60, .inl fun _ => 0)), ((hp 0 6), .inl (E 0, 60, .inl fun _ => 0)), ((hp 0 7), .inl (E 0, 21, .inl fun _ => 0)), ((hp 1 0), .inr (6, [.int 0, .ref (hp 1 1), .ref (hp 1 2), .ref (hp 1 3), .ref (hp 1 4), .int 0, .ref (hp 1 5), .ref (hp 1 6), .ref (hp 1 7)])), ((hp 1 1), .inl (E 0, 4, .inl fun _ => 0)), ((hp 1 2), .inl (E 0, 4, .inl fun _ => 0)), ((hp 1 3), .inl (E 0, 4, .inl fun _ => 0)), ((hp 1 4), .inl (E 0, 4, .inl fun _ => 0)), ((hp 1 5), .inl (E 0, 60, .inl fun _ => 0)), ((hp 1 6), .inl (E 0, 60, .inl fun _ => 0)), ((hp 1 7), .inl (E 0, 21, .inl fun _ => 0)), ((hp 2 0), .inr (6, [.int 0, .ref (hp 2 1), .ref (hp 2 2), .ref (hp 2 3), .ref (hp 2 4), .int 0, .ref (hp 2 5), .ref (hp 2 6), .ref (hp 2 7)])), ((hp 2 1), .inl (E 0, 4, .inl fun _ => 0)), ((hp 2 2), .inl (E 0, 4, .inl fun _ => 0)), ((hp 2 3), .inl (E 0, 4, .inl fun _ => 0)), ((hp 2 4), .inl (E 0, 4, .inl fun _ => 0)), ((hp 2 5), .inl (E 0, 60, .inl fun _ => 0)), ((hp 2 6), .inl (E 0, 60, .inl fun _ => 0)), ((hp 2 7), .inl (E 0, 21, .inl fun _ => 0)), ((hp 3 0), .inr (6, [.int 0, .ref (hp 3 1), .ref (hp 3 2), .ref (hp 3 3), .ref (hp 3 4), .int 0, .ref (hp 3 5), .ref (hp 3 6), .ref (hp 3 7)])), ((hp 3 1), .inl (E 0, 4, .inl fun _ => 0)), ((hp 3 2), .inl (E 0, 4, .inl fun _ => 0)), ((hp 3 3), .inl (E 0, 4, .inl fun _ => 0)), ((hp 3 4), .inl (E 0, 4, .inl fun _ => 0)), ((hp 3 5), .inl (E 0, 60, .inl fun _ => 0)), ((hp 3 6), .inl (E 0, 60, .inl fun _ => 0)), ((hp 3 7), .inl (E 0, 21, .inl fun _ => 0)), ((hp 4 0), .inr (6, [.int 0, .ref (hp 4 1), .ref (hp 4 2), .ref (hp 4 3), .ref (hp 4 4), .int 0, .ref (hp 4 5), .ref (hp 4 6), .ref (hp 4 7)])), ((hp 4 1), .inl (E 0, 4, .inl fun _ => 0)), ((hp 4 2), .inl (E 0, 4, .inl fun _ => 0)), ((hp 4 3), .inl (E 0, 4, .inl fun _ => 0)), ((hp 4 4), .inl (E 0, 4, .inl fun _ => 0)), ((hp 4 5), .inl (E 0, 60, .inl fun _ => 0)), ((hp 4 6), .inl (E 0, 60, .inl fun _ => 0)), ((hp 4 7), .inl (E 0, 21, .inl fun _ => 0)), ((hp 5 0), .inr (6, [.int 0, .ref (hp 5 1), .ref (hp 5 2), .ref (hp 5 3), .ref (hp 5 4), .int 0, .ref (hp 5 5), .ref (hp 5 6), .ref (hp 5 7)])), ((hp 5 1), .inl (E 0, 4, .inl fun _ => 0)), ((hp 5 2), .inl (E 0, 4, .inl fun _ => 0)), ((hp 5 3), .inl (E 0, 4, .inl fun _ => 0)), ((hp 5 4), .inl (E 0, 4, .inl fun _ => 0)), ((hp 5 5), .inl (E 0, 60, .inl fun _ => 0)), ((hp 5 6), .inl (E 0, 60, .inl fun _ => 0)), ((hp 5 7), .inl (E 0, 21, .inl fun _ => 0)), ((hp 6 0), .inr (6, [.int 0, .ref (hp 6 1), .ref (hp 6 2), .ref (hp 6 3), .ref (hp 6 4), .int 0, .ref (hp 6 5), .ref (hp 6 6), .ref (hp 6 7)])), ((hp 6 1), .inl (E 0, 4, .inl fun _ => 0)), ((hp 6 2), .inl (E 0, 4, .inl fun _ => 0)), ((hp 6 3), .inl (E 0, 4, .inl fun _ => 0)), ((hp 6 4), .inl (E 0, 4, .inl fun _ => 0)), ((hp 6 5), .inl (E 0, 60, .inl fun _ => 0)), ((hp 6 6), .inl (E 0, 60, .inl fun _ => 0)), ((hp 6 7), .inl (E 0, 21, .inl fun _ => 0)), ((hp 7 0), .inr (6, [.int 0, .ref (hp 7 1), .ref (hp 7 2), .ref (hp 7 3), .ref (hp 7 4), .int 0, .ref (hp 7 5), .ref (hp 7 6), .ref (hp 7 7)])), ((hp 7 1), .inl (E 0, 4, .inl fun _ => 0)), ((hp 7 2), .inl (E 0, 4, .inl fun _ => 0)), ((hp 7 3), .inl (E 0, 4, .inl fun _ => 0)), ((hp 7 4), .inl (E 0, 4, .inl fun _ => 0)), ((hp 7 5), .inl (E 0, 60, .inl fun _ => 0)), ((hp 7 6), .inl (E 0, 60, .inl fun _ => 0)), ((hp 7 7), .inl (E 0, 21, .inl fun _ => 0)), ((a5 0), .inr (8, [.int 0, .int 0, .int 0, .int 0, .ref (a5 1), .ref (a5 2), .ref (a5 3), .ref (a5 4)])), ((a5 1), .inl (E 0, 4, .inl fun _ => 0)), ((a5 2), .inl (E 0, 4, .inl fun _ => 0)), ((a5 3), .inl (E 0, 4, .inl fun _ => 0)), ((a5 4), .inl (E 0, 21, .inl fun _ => 0)), ((a6 0), .inr (7, [.int 0, .int 0, .int 0, .ref (a6 1), .ref (a6 2), .ref (a6 3), .ref (a6 4), .ref (a6 5), .int 0, .ref (a6 6), .ref (a6 7), .ref (a6 12)])), ((a6 1), .inl (E 0, 4, .inl fun _ => 0)), ((a6 2), .inl (E 0, 4, .inl fun _ => 0)), ((a6 3), .inl (E 0, 5000, .inl fun _ => 0)), ((a6 4), .inl (E 0, 5000, .inl fun _ => 0)), ((a6 5), .inl (E 0, 5000, .inl fun _ => 0)), ((a6 6), .inl (E 0, 40000, .inl fun _ => 0)), ((a6 7), .inr (8, [.int 0, .int 0, .int 0, .int 0, .ref (a6 8), .ref (a6 9), .ref (a6 10), .ref (a6 11)])), ((a6 8), .inl (E 0, 4, .inl fun _ => 0)), ((a6 9), .inl (E 0, 4, .inl fun _ => 0)), ((a6 10), .inl (E 0, 4, .inl fun _ => 0)), ((a6 11), .inl (E 0, 21, .inl fun _ => 0)), ((a6 12), .inl (E 0, 4, .inl fun _ => 0)), ((a7 0), .inr (5, [.int 0, .int 0, .int 0, .int 0, .ref (a7 1)])), ((a7 1), .inl (E 0, 5000, .inl fun _ => 0)), ((a8 0), .inr (2, [.int 0, .ref (a8 1), .ref (a8 2), .ref (a8 3)])), ((a8 1), .inl (E 1, 26, .inl fun _ => 0)), ((a8 2), .inl (E 0, 26, .inl fun _ => 0)), ((a8 3), .inl (E 0, 104, .inl fun _ => 0)), ((a9 0), .inr (4, [.int 0, .ref (a9 1), .ref (a9 2)])), ((a9 1), .inl (E 2, 60, .inl fun _ => 0)), ((a9 2), .inl (E 0, 3, .inl fun _ => 0)), (b10, .inl (E 0, 4, .inl fun _ => 0)), (b11, .inl (E 0, 441, .inl fun _ => 0)), ((g 0), .inr (10, [.ref (g 1), .ref (g 2), .int 0, .ref (g 3), .int 0, .ref (g 4), .int (-1), .int 0, .int 0, .ref (g 5), .ref (g 6), .ref (g 7), .ref (g 8), .int 0, .ref (g 9), .ref (g 10), .ref (g 11), .ref (g 12), .int 0, .ref (g 13), .ref (g 14), .ref (g 15), .ref (g 16), .ref (g 17), .int 0, .int 0, .int (-1), .ref (g 18), .int 0, .int 0, .ref (g 19)])), ((g 1), .inl (E 0, 141, .inl fun _ => 0)), ((g 2), .inl (E 0, 141, .inl fun _ => 0)), ((g 3), .inl (E 0, 1128, .inl fun _ => 0)), ((g 4), .inl (E 0, 5000, .inl fun _ => 0)), ((g 5), .inl (E 0, 4, .inl fun _ => 0)), ((g 6), .inl (E 0, 4, .inl fun _ => 0)), ((g 7), .inl (E 0, 5, .inl fun _ => 0)), ((g 8), .inl (E 0, 5, .inl fun _ => 0)), ((g 9), .inl (E 1, 5000, .inl fun _ => 0)), ((g 10), .inl (E 0, 5000, .inl fun _ => 0)), ((g 11), .inl (E 0, 5000, .inl fun _ => 0)), ((g 12), .inl (E 0, 5000, .inl fun _ => 0)), ((g 13), .inl (E 0, 441, .inl fun _ => 0)), ((g 14), .inl (E 0, 45000, .inl fun _ => 0)), ((g 15), .inl (E 0, 26, .inl fun _ => -1)), ((g 16), .inl (E 0, 104, .inl fun _ => 0)), ((g 17), .inl (E 0, 60, .inl fun _ => 0)), ((g 18), .inl (E 0, 60, .inl fun _ => 0)), ((g 19), .inl (E 0, 141, .inl fun _ => 0)), (o, .inl (E 4, 1, .inr (.inl fun _ => 0))), (od, .inl (E 5, 1, .inr (.inr (.inr (.inl fun _ => 0)))))] H locs := hW
  refine ⟨S0S, S0A, fun _ => 0, fun _ => 0, fun _ _ _ => 0, S0M, S0N, fun _ => 0, fun _ => 0, REL_0, ?_⟩
  exact WD_sub hW [0, 1, 2, 3, 4, 5, 6, 7, 8, 17, 9, 18, 10, 19, 11, 20, 12, 21, 13, 22, 14, 23, 15, 24, 16, 25, 96, 91, 97, 92, 98, 93, 99, 94, 100, 95, 101, 102, 103, 104, 105, 106, 107, 108, 109, 110, 115, 119, 111, 116, 112, 117, 113, 114, 118, 120, 121, 123, 124, 122, 137, 125, 138, 126, 139, 127, 128, 129, 130, 131, 132, 133, 134, 135, 136, 140, 141, 26, 27, 28, 29, 30, 31, 32, 33, 34, 35, 36, 37, 38, 39, 40, 41, 42, 43, 44, 45, 46, 47, 48, 49, 50, 51, 52, 53, 54, 55, 56, 57, 58, 59, 60, 61, 62, 63, 64, 65, 66, 67, 68, 69, 70, 71, 72, 73, 74, 75, 76, 77, 78, 79, 80, 81, 82, 83, 84, 85, 86, 87, 88, 89, 90] (by decide +kernel) rfl
