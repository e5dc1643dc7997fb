theorem in_X0 : Cond.initialized RX0 ∈ WG := WG_of (tb_1 _ (List.mem_of_getElem? (i := 7) rfl)) rfl
theorem mi_X0 : MI yX0_init cX0_init 1 := ⟨WG_of (tb_1 _ (List.mem_of_getElem? (i := 222) rfl)) rfl, WG_of (tb_1 _ (List.mem_of_getElem? (i := 221) rfl)) rfl, in_X0, rfl, by decide +kernel⟩
def zf_X0 : List Value := [.int 0, .null, .null, .null]
theorem zo_X0 : ∀ j, j < 4 → defaultValue (tyX0 j) = vp_V zf_X0 j := fun j hj => by rcases (show j = 0 ∨ j = 1 ∨ j = 2 ∨ j = 3 by omega) with rfl | rfl | rfl | rfl <;> rfl
theorem nc_X7_50 : NWc RX7 50 RX0 4 := ⟨WG_of (tb_1 _ (List.mem_of_getElem? (i := 218) rfl)) rfl, WG_of (tb_1 _ (List.mem_of_getElem? (i := 219) rfl)) rfl, in_X0⟩
theorem in_X1 : Cond.initialized RX1 ∈ WG := WG_of (tb_1 _ (List.mem_of_getElem? (i := 3) rfl)) rfl
theorem mi_X1 : MI yX1_init cX1_init 2 := ⟨WG_of (tb_1 _ (List.mem_of_getElem? (i := 85) rfl)) rfl, WG_of (tb_1 _ (List.mem_of_getElem? (i := 84) rfl)) rfl, in_X1, rfl, by decide +kernel⟩
def zf_X1 : List Value := [.int 0, .int 0, .null]
theorem zo_X1 : ∀ j, j < 3 → defaultValue (tyX1 j) = vp_V zf_X1 j := fun j hj => by rcases (show j = 0 ∨ j = 1 ∨ j = 2 by omega) with rfl | rfl | rfl <;> rfl
theorem nc_X7_22 : NWc RX7 22 RX1 3 := ⟨WG_of (tb_1 _ (List.mem_of_getElem? (i := 81) rfl)) rfl, WG_of (tb_1 _ (List.mem_of_getElem? (i := 82) rfl)) rfl, in_X1⟩
theorem in_X2 : Cond.initialized RX2 ∈ WG := WG_of (tb_1 _ (List.mem_of_getElem? (i := 8) rfl)) rfl
theorem mi_X2 : MI yX2_init cX2_init 1 := ⟨WG_of (tb_2 _ (List.mem_of_getElem? (i := 3) rfl)) rfl, WG_of (tb_2 _ (List.mem_of_getElem? (i := 2) rfl)) rfl, in_X2, rfl, by decide +kernel⟩
def zf_X2 : List Value := [.int 0, .null, .null]
theorem zo_X2 : ∀ j, j < 3 → defaultValue (tyX2 j) = vp_V zf_X2 j := fun j hj => by rcases (show j = 0 ∨ j = 1 ∨ j = 2 by omega) with rfl | rfl | rfl <;> rfl
theorem nc_X7_57 : NWc RX7 57 RX2 3 := ⟨WG_of (tb_1 _ (List.mem_of_getElem? (i := 239) rfl)) rfl, WG_of (tb_2 _ (List.mem_of_getElem? (i := 0) rfl)) rfl, in_X2⟩
theorem in_X3 : Cond.initialized RX3 ∈ WG := WG_of (tb_1 _ (List.mem_of_getElem? (i := 6) rfl)) rfl
theorem mi_X3 : MI yX3_init cX3_init 1 := ⟨WG_of (tb_1 _ (List.mem_of_getElem? (i := 195) rfl)) rfl, WG_of (tb_1 _ (List.mem_of_getElem? (i := 194) rfl)) rfl, in_X3, rfl, by decide +kernel⟩
def zf_X3 : List Value := [.int 0, .int 0, .int 0, .int 0, .null]
theorem zo_X3 : ∀ j, j < 5 → defaultValue (tyX3 j) = vp_V zf_X3 j := fun j hj => by rcases (show j = 0 ∨ j = 1 ∨ j = 2 ∨ j = 3 ∨ j = 4 by omega) with rfl | rfl | rfl | rfl | rfl <;> rfl
theorem nc_X7_43 : NWc RX7 43 RX3 5 := ⟨WG_of (tb_1 _ (List.mem_of_getElem? (i := 191) rfl)) rfl, WG_of (tb_1 _ (List.mem_of_getElem? (i := 192) rfl)) rfl, in_X3⟩
theorem in_X4 : Cond.initialized RX4 ∈ WG := WG_of (tb_1 _ (List.mem_of_getElem? (i := 2) rfl)) rfl
theorem mi_X4 : MI yX4_init cX4_init 1 := ⟨WG_of (tb_1 _ (List.mem_of_getElem? (i := 36) rfl)) rfl, WG_of (tb_1 _ (List.mem_of_getElem? (i := 35) rfl)) rfl, in_X4, rfl, by decide +kernel⟩
def zf_X4 : List Value := [.int 0, .null, .null, .null, .null, .int 0, .null, .null, .null]
theorem zo_X4 : ∀ j, j < 9 → defaultValue (tyX4 j) = vp_V zf_X4 j := fun j hj => by rcases (show j = 0 ∨ j = 1 ∨ j = 2 ∨ j = 3 ∨ j = 4 ∨ j = 5 ∨ j = 6 ∨ j = 7 ∨ j = 8 by omega) with rfl | rfl | rfl | rfl | rfl | rfl | rfl | rfl | rfl <;> rfl
theorem nc_X7_9 : NWc RX7 9 RX4 9 := ⟨WG_of (tb_1 _ (List.mem_of_getElem? (i := 32) rfl)) rfl, WG_of (tb_1 _ (List.mem_of_getElem? (i := 33) rfl)) rfl, in_X4⟩
theorem nc_X1_18 : NWc RX1 18 RX4 9 := ⟨WG_of (tb_1 _ (List.mem_of_getElem? (i := 87) rfl)) rfl, WG_of (tb_1 _ (List.mem_of_getElem? (i := 33) rfl)) rfl, in_X4⟩
theorem in_X5 : Cond.initialized RX5 ∈ WG := WG_of (tb_1 _ (List.mem_of_getElem? (i := 5) rfl)) rfl
theorem mi_X5 : MI yX5_init cX5_init 1 := ⟨WG_of (tb_1 _ (List.mem_of_getElem? (i := 146) rfl)) rfl, WG_of (tb_1 _ (List.mem_of_getElem? (i := 145) rfl)) rfl, in_X5, rfl, by decide +kernel⟩
def zf_X5 : List Value := [.int 0, .int 0, .int 0, .null, .null, .null, .null, .null, .int 0, .null, .null, .null]
theorem zo_X5 : ∀ j, j < 12 → defaultValue (tyX5 j) = vp_V zf_X5 j := fun j hj => by rcases (show j = 0 ∨ j = 1 ∨ j = 2 ∨ j = 3 ∨ j = 4 ∨ j = 5 ∨ j = 6 ∨ j = 7 ∨ j = 8 ∨ j = 9 ∨ j = 10 ∨ j = 11 by omega) with rfl | rfl | rfl | rfl | rfl | rfl | rfl | rfl | rfl | rfl | rfl | rfl <;> rfl
theorem nc_X7_36 : NWc RX7 36 RX5 12 := ⟨WG_of (tb_1 _ (List.mem_of_getElem? (i := 142) rfl)) rfl, WG_of (tb_1 _ (List.mem_of_getElem? (i := 143) rfl)) rfl, in_X5⟩
theorem in_X6 : Cond.initialized RX6 ∈ WG := WG_of (tb_1 _ (List.mem_of_getElem? (i := 4) rfl)) rfl
theorem mi_X6 : MI yX6_init cX6_init 1 := ⟨WG_of (tb_1 _ (List.mem_of_getElem? (i := 105) rfl)) rfl, WG_of (tb_1 _ (List.mem_of_getElem? (i := 104) rfl)) rfl, in_X6, rfl, by decide +kernel⟩
def zf_X6 : List Value := [.int 0, .int 0, .int 0, .int 0, .null, .null, .null, .null]
theorem zo_X6 : ∀ j, j < 8 → defaultValue (tyX6 j) = vp_V zf_X6 j := fun j hj => by rcases (show j = 0 ∨ j = 1 ∨ j = 2 ∨ j = 3 ∨ j = 4 ∨ j = 5 ∨ j = 6 ∨ j = 7 by omega) with rfl | rfl | rfl | rfl | rfl | rfl | rfl | rfl <;> rfl
theorem nc_X7_29 : NWc RX7 29 RX6 8 := ⟨WG_of (tb_1 _ (List.mem_of_getElem? (i := 101) rfl)) rfl, WG_of (tb_1 _ (List.mem_of_getElem? (i := 102) rfl)) rfl, in_X6⟩
theorem nc_X5_45 : NWc RX5 45 RX6 8 := ⟨WG_of (tb_1 _ (List.mem_of_getElem? (i := 149) rfl)) rfl, WG_of (tb_1 _ (List.mem_of_getElem? (i := 102) rfl)) rfl, in_X6⟩
theorem in_X7 : Cond.initialized RX7 ∈ WG := WG_of (tb_1 _ (List.mem_of_getElem? (i := 1) rfl)) rfl
theorem mi_X7 : MI yX7_init cX7_init 1 := ⟨WG_of (tb_1 _ (List.mem_of_getElem? (i := 28) rfl)) rfl, WG_of (tb_1 _ (List.mem_of_getElem? (i := 27) rfl)) rfl, in_X7, rfl, by decide +kernel⟩
def zf_X7 : List Value := [.null, .null, .null, .null, .null, .null, .null, .null, .null, .null, .null, .int 0, .int 0]
theorem zo_X7 : ∀ j, j < 13 → defaultValue (tyX7 j) = vp_V zf_X7 j := fun j hj => by rcases (show j = 0 ∨ j = 1 ∨ j = 2 ∨ j = 3 ∨ j = 4 ∨ j = 5 ∨ j = 6 ∨ j = 7 ∨ j = 8 ∨ j = 9 ∨ j = 10 ∨ j = 11 ∨ j = 12 by omega) with rfl | rfl | rfl | rfl | rfl | rfl | rfl | rfl | rfl | rfl | rfl | rfl | rfl <;> rfl
theorem nc_L_8 : NWc RL 8 RX7 13 := ⟨WG_of (tb_1 _ (List.mem_of_getElem? (i := 24) rfl)) rfl, WG_of (tb_1 _ (List.mem_of_getElem? (i := 25) rfl)) rfl, in_X7⟩
theorem in_X8 : Cond.initialized RX8 ∈ WG := WG_of (tb_1 _ (List.mem_of_getElem? (i := 9) rfl)) rfl
theorem mi_X8 : MI yX8_init cX8_init 1 := ⟨WG_of (tb_6 _ (List.mem_of_getElem? (i := 15) rfl)) rfl, WG_of (tb_6 _ (List.mem_of_getElem? (i := 14) rfl)) rfl, in_X8, rfl, by decide +kernel⟩
def zf_X8 : List Value := [.null, .null, .int 0, .null, .int 0, .null, .int 0, .int 0, .int 0, .null, .null, .null, .null, .int 0, .null, .null, .null, .null, .int 0, .null, .null, .null, .null, .null, .int 0, .int 0, .int 0, .null, .int 0, .int 0, .null]
theorem zo_X8 : ∀ j, j < 31 → defaultValue (tyX8 j) = vp_V zf_X8 j := fun j hj => by rcases (show j = 0 ∨ j = 1 ∨ j = 2 ∨ j = 3 ∨ j = 4 ∨ j = 5 ∨ j = 6 ∨ j = 7 ∨ j = 8 ∨ j = 9 ∨ j = 10 ∨ j = 11 ∨ j = 12 ∨ j = 13 ∨ j = 14 ∨ j = 15 ∨ j = 16 ∨ j = 17 ∨ j = 18 ∨ j = 19 ∨ j = 20 ∨ j = 21 ∨ j = 22 ∨ j = 23 ∨ j = 24 ∨ j = 25 ∨ j = 26 ∨ j = 27 ∨ j = 28 ∨ j = 29 ∨ j = 30 by omega) with rfl | rfl | rfl | rfl | rfl | rfl | rfl | rfl | rfl | rfl | rfl | rfl | rfl | rfl | rfl | rfl | rfl | rfl | rfl | rfl | rfl | rfl | rfl | rfl | rfl | rfl | rfl | rfl | rfl | rfl | rfl <;> rfl
theorem nc_L_155 : NWc RL 155 RX8 31 := ⟨WG_of (tb_6 _ (List.mem_of_getElem? (i := 11) rfl)) rfl, WG_of (tb_6 _ (List.mem_of_getElem? (i := 12) rfl)) rfl, in_X8⟩
theorem fb_true {As : List Value} : FrameBlind (va_Pc As (fun _ : State => True)) := fun _ _ _ _ q => q
theorem fb_ao {As : List Value} {C : String} : FrameBlind (va_Pc As (va_AO C)) := fun a U g mk q => ⟨q.1, va_AO.moved (u := U) (U := U.calling g mk a) (Vm.Alike.refl U.vm) q.2⟩
set_option maxHeartbeats 4000000 in
set_option maxRecDepth 100000 in
theorem n_X4 (l : Launch) (D : va_G) (E : Nat → ClassId) (tx : List (Nat × String)) (h_ : Nat) : NC l yX4_init cX4_init 1 1 20 7 157 D E tx (fun _ => True) (h_, .inr (6, zf_X4)) (fun u => ∃ a : Nat → Nat, a 0 = h_ ∧ u = w_sc E a 0 0 (fun _ _ => 0)) := by
  refine NC_of RX4 pn_X4 rfl rfl (Nat.le_of_ble_eq_true rfl) (fun p e s m args below meth c A Q hF hin hK hA hZ hX hW hret ls hl => ?_)
  have hx := hF.1
  have hb := hF.2.1
  have hl : lv_has ls 1 [(0, .ref h_)] := hl
  have hW : WD D A s ((h_, .inr (6, [.int 0, .null, .null, .null, .null, .int 0, .null, .null, .null])) :: []) s.heap [] := hW
  refine lv_aload_n hx hb dX4_init_0 rfl (lv_at hl 0 rfl) ?_
  refine q_obj hF hl.1 ml_X4_3 (Nat.le_of_ble_eq_true rfl) ⟨Nat.le_of_ble_eq_true rfl, Nat.le_of_ble_eq_true rfl⟩ dX4_init_1 ?_
  refine lv_aload_n hx hb dX4_init_4 rfl (lv_at hl 0 rfl) ?_
  refine lv_iconst (v := 0) hx hb dX4_init_5 (by decide) ?_
  refine q_put hF hK hW fl_X4_9 ft_X4 rfl 0 rfl rfl rfl (Nat.le_of_ble_eq_true rfl) dX4_init_6 (fun H locs hW => ?_)
  have hW : WD D A s ((h_, .inr (6, [.int 0, .null, .null, .null, .null, .int 0, .null, .null, .null])) :: ([])) H _ := hW
  refine lv_aload_n hx hb dX4_init_9 rfl (lv_at hl 0 rfl) ?_
  refine lv_iconst (v := 4) hx hb dX4_init_10 (by decide) ?_
  refine q_newA hF hK hA hW ac_int rfl 0 rfl (fun _ => rfl) (N' := 4) (a0 := (4, .inl fun _ => 0)) (fun _ => rfl) (by decide) (by decide) (Nat.le_of_ble_eq_true rfl) (Nat.le_of_ble_eq_true rfl) (Nat.le_of_ble_eq_true rfl) dX4_init_11 (fun b1 H hW => ?_)
  have hW : WD D A s ((h_, .inr (6, [.int 0, .null, .null, .null, .null, .int 0, .null, .null, .null])) :: (([]) ++ [(b1, .inl (E 0, 4, .inl fun _ => 0))])) H _ := hW
  refine q_putF hF hin hK hW fl_X4_15 ft_X4 rfl rfl 0 rfl rfl rfl (Nat.le_of_ble_eq_true rfl) dX4_init_13 (fun H locs hW => ?_)
  have hW : WD D A s ((h_, .inr (6, [.int 0, .ref b1, .null, .null, .null, .int 0, .null, .null, .null])) :: (([]) ++ [(b1, .inl (E 0, 4, .inl fun _ => 0))])) H _ := hW
  refine lv_aload_n hx hb dX4_init_16 rfl (lv_at hl 0 rfl) ?_
  refine lv_iconst (v := 4) hx hb dX4_init_17 (by decide) ?_
  refine q_newA hF hK hA hW ac_int rfl 0 rfl (fun _ => rfl) (N' := 4) (a0 := (4, .inl fun _ => 0)) (fun _ => rfl) (by decide) (by decide) (Nat.le_of_ble_eq_true rfl) (Nat.le_of_ble_eq_true rfl) (Nat.le_of_ble_eq_true rfl) dX4_init_18 (fun b2 H hW => ?_)
  have hW : WD D A s ((h_, .inr (6, [.int 0, .ref b1, .null, .null, .null, .int 0, .null, .null, .null])) :: ((([]) ++ [(b1, .inl (E 0, 4, .inl fun _ => 0))]) ++ [(b2, .inl (E 0, 4, .inl fun _ => 0))])) H _ := hW
  refine q_putF hF hin hK hW fl_X4_19 ft_X4 rfl rfl 0 rfl rfl rfl (Nat.le_of_ble_eq_true rfl) dX4_init_20 (fun H locs hW => ?_)
  have hW : WD D A s ((h_, .inr (6, [.int 0, .ref b1, .ref b2, .null, .null, .int 0, .null, .null, .null])) :: ((([]) ++ [(b1, .inl (E 0, 4, .inl fun _ => 0))]) ++ [(b2, .inl (E 0, 4, .inl fun _ => 0))])) H _ := hW
  refine lv_aload_n hx hb dX4_init_23 rfl (lv_at hl 0 rfl) ?_
  refine lv_iconst (v := 4) hx hb dX4_init_24 (by decide) ?_
  refine q_newA hF hK hA hW ac_int rfl 0 rfl (fun _ => rfl) (N' := 4) (a0 := (4, .inl fun _ => 0)) (fun _ => rfl) (by decide) (by decide) (Nat.le_of_ble_eq_true rfl) (Nat.le_of_ble_eq_true rfl) (Nat.le_of_ble_eq_true rfl) dX4_init_25 (fun b3 H hW => ?_)
  have hW : WD D A s ((h_, .inr (6, [.int 0, .ref b1, .ref b2, .null, .null, .int 0, .null, .null, .null])) :: (((([]) ++ [(b1, .inl (E 0, 4, .inl fun _ => 0))]) ++ [(b2, .inl (E 0, 4, .inl fun _ => 0))]) ++ [(b3, .inl (E 0, 4, .inl fun _ => 0))])) H _ := hW
  refine q_putF hF hin hK hW fl_X4_22 ft_X4 rfl rfl 0 rfl rfl rfl (Nat.le_of_ble_eq_true rfl) dX4_init_27 (fun H locs hW => ?_)
  have hW : WD D A s ((h_, .inr (6, [.int 0, .ref b1, .ref b2, .ref b3, .null, .int 0, .null, .null, .null])) :: (((([]) ++ [(b1, .inl (E 0, 4, .inl fun _ => 0))]) ++ [(b2, .inl (E 0, 4, .inl fun _ => 0))]) ++ [(b3, .inl (E 0, 4, .inl fun _ => 0))])) H _ := hW
  refine lv_aload_n hx hb dX4_init_30 rfl (lv_at hl 0 rfl) ?_
  refine lv_iconst (v := 4) hx hb dX4_init_31 (by decide) ?_
  refine q_newA hF hK hA hW ac_int rfl 0 rfl (fun _ => rfl) (N' := 4) (a0 := (4, .inl fun _ => 0)) (fun _ => rfl) (by decide) (by decide) (Nat.le_of_ble_eq_true rfl) (Nat.le_of_ble_eq_true rfl) (Nat.le_of_ble_eq_true rfl) dX4_init_32 (fun b4 H hW => ?_)
  have hW : WD D A s ((h_, .inr (6, [.int 0, .ref b1, .ref b2, .ref b3, .null, .int 0, .null, .null, .null])) :: ((((([]) ++ [(b1, .inl (E 0, 4, .inl fun _ => 0))]) ++ [(b2, .inl (E 0, 4, .inl fun _ => 0))]) ++ [(b3, .inl (E 0, 4, .inl fun _ => 0))]) ++ [(b4, .inl (E 0, 4, .inl fun _ => 0))])) H _ := hW
  refine q_putF hF hin hK hW fl_X4_25 ft_X4 rfl rfl 0 rfl rfl rfl (Nat.le_of_ble_eq_true rfl) dX4_init_34 (fun H locs hW => ?_)
  have hW : WD D A s ((h_, .inr (6, [.int 0, .ref b1, .ref b2, .ref b3, .ref b4, .int 0, .null, .null, .null])) :: ((((([]) ++ [(b1, .inl (E 0, 4, .inl fun _ => 0))]) ++ [(b2, .inl (E 0, 4, .inl fun _ => 0))]) ++ [(b3, .inl (E 0, 4, .inl fun _ => 0))]) ++ [(b4, .inl (E 0, 4, .inl fun _ => 0))])) H _ := hW
  refine lv_aload_n hx hb dX4_init_37 rfl (lv_at hl 0 rfl) ?_
  refine lv_iconst (v := 0) hx hb dX4_init_38 (by decide) ?_
  refine q_put hF hK hW fl_X4_28 ft_X4 rfl 0 rfl rfl rfl (Nat.le_of_ble_eq_true rfl) dX4_init_39 (fun H locs hW => ?_)
  have hW : WD D A s ((h_, .inr (6, [.int 0, .ref b1, .ref b2, .ref b3, .ref b4, .int 0, .null, .null, .null])) :: ((((([]) ++ [(b1, .inl (E 0, 4, .inl fun _ => 0))]) ++ [(b2, .inl (E 0, 4, .inl fun _ => 0))]) ++ [(b3, .inl (E 0, 4, .inl fun _ => 0))]) ++ [(b4, .inl (E 0, 4, .inl fun _ => 0))])) H _ := hW
  refine lv_aload_n hx hb dX4_init_42 rfl (lv_at hl 0 rfl) ?_
  refine lv_bipush (v := 60) hx hb dX4_init_43 (by decide) ?_
  refine q_newA hF hK hA hW ac_int rfl 0 rfl (fun _ => rfl) (N' := 60) (a0 := (60, .inl fun _ => 0)) (fun _ => rfl) (by decide) (by decide) (Nat.le_of_ble_eq_true rfl) (Nat.le_of_ble_eq_true rfl) (Nat.le_of_ble_eq_true rfl) dX4_init_45 (fun b5 H hW => ?_)
  have hW : WD D A s ((h_, .inr (6, [.int 0, .ref b1, .ref b2, .ref b3, .ref b4, .int 0, .null, .null, .null])) :: (((((([]) ++ [(b1, .inl (E 0, 4, .inl fun _ => 0))]) ++ [(b2, .inl (E 0, 4, .inl fun _ => 0))]) ++ [(b3, .inl (E 0, 4, .inl fun _ => 0))]) ++ [(b4, .inl (E 0, 4, .inl fun _ => 0))]) ++ [(b5, .inl (E 0, 60, .inl fun _ => 0))])) H _ := hW
  refine q_putF hF hin hK hW fl_X4_31 ft_X4 rfl rfl 0 rfl rfl rfl (Nat.le_of_ble_eq_true rfl) dX4_init_47 (fun H locs hW => ?_)
  have hW : WD D A s ((h_, .inr (6, [.int 0, .ref b1, .ref b2, .ref b3, .ref b4, .int 0, .ref b5, .null, .null])) :: (((((([]) ++ [(b1, .inl (E 0, 4, .inl fun _ => 0))]) ++ [(b2, .inl (E 0, 4, .inl fun _ => 0))]) ++ [(b3, .inl (E 0, 4, .inl fun _ => 0))]) ++ [(b4, .inl (E 0, 4, .inl fun _ => 0))]) ++ [(b5, .inl (E 0, 60, .inl fun _ => 0))])) H _ := hW
  refine lv_aload_n hx hb dX4_init_50 rfl (lv_at hl 0 rfl) ?_
  refine lv_bipush (v := 60) hx hb dX4_init_51 (by decide) ?_
  refine q_newA hF hK hA hW ac_int rfl 0 rfl (fun _ => rfl) (N' := 60) (a0 := (60, .inl fun _ => 0)) (fun _ => rfl) (by decide) (by decide) (Nat.le_of_ble_eq_true rfl) (Nat.le_of_ble_eq_true rfl) (Nat.le_of_ble_eq_true rfl) dX4_init_53 (fun b6 H hW => ?_)
  have hW : WD D A s ((h_, .inr (6, [.int 0, .ref b1, .ref b2, .ref b3, .ref b4, .int 0, .ref b5, .null, .null])) :: ((((((([]) ++ [(b1, .inl (E 0, 4, .inl fun _ => 0))]) ++ [(b2, .inl (E 0, 4, .inl fun _ => 0))]) ++ [(b3, .inl (E 0, 4, .inl fun _ => 0))]) ++ [(b4, .inl (E 0, 4, .inl fun _ => 0))]) ++ [(b5, .inl (E 0, 60, .inl fun _ => 0))]) ++ [(b6, .inl (E 0, 60, .inl fun _ => 0))])) H _ := hW
  refine q_putF hF hin hK hW fl_X4_34 ft_X4 rfl rfl 0 rfl rfl rfl (Nat.le_of_ble_eq_true rfl) dX4_init_55 (fun H locs hW => ?_)
  have hW : WD D A s ((h_, .inr (6, [.int 0, .ref b1, .ref b2, .ref b3, .ref b4, .int 0, .ref b5, .ref b6, .null])) :: ((((((([]) ++ [(b1, .inl (E 0, 4, .inl fun _ => 0))]) ++ [(b2, .inl (E 0, 4, .inl fun _ => 0))]) ++ [(b3, .inl (E 0, 4, .inl fun _ => 0))]) ++ [(b4, .inl (E 0, 4, .inl fun _ => 0))]) ++ [(b5, .inl (E 0, 60, .inl fun _ => 0))]) ++ [(b6, .inl (E 0, 60, .inl fun _ => 0))])) H _ := hW
  refine lv_aload_n hx hb dX4_init_58 rfl (lv_at hl 0 rfl) ?_
  refine lv_bipush (v := 21) hx hb dX4_init_59 (by decide) ?_
  refine q_newA hF hK hA hW ac_int rfl 0 rfl (fun _ => rfl) (N' := 21) (a0 := (21, .inl fun _ => 0)) (fun _ => rfl) (by decide) (by decide) (Nat.le_of_ble_eq_true rfl) (Nat.le_of_ble_eq_true rfl) (Nat.le_of_ble_eq_true rfl) dX4_init_61 (fun b7 H hW => ?_)
  have hW : WD D A s ((h_, .inr (6, [.int 0, .ref b1, .ref b2, .ref b3, .ref b4, .int 0, .ref b5, .ref b6, .null])) :: (((((((([]) ++ [(b1, .inl (E 0, 4, .inl fun _ => 0))]) ++ [(b2, .inl (E 0, 4, .inl fun _ => 0))]) ++ [(b3, .inl (E 0, 4, .inl fun _ => 0))]) ++ [(b4, .inl (E 0, 4, .inl fun _ => 0))]) ++ [(b5, .inl (E 0, 60, .inl fun _ => 0))]) ++ [(b6, .inl (E 0, 60, .inl fun _ => 0))]) ++ [(b7, .inl (E 0, 21, .inl fun _ => 0))])) H _ := hW
  refine q_putF hF hin hK hW fl_X4_37 ft_X4 rfl rfl 0 rfl rfl rfl (Nat.le_of_ble_eq_true rfl) dX4_init_63 (fun H locs hW => ?_)
  have hW : WD D A s ((h_, .inr (6, [.int 0, .ref b1, .ref b2, .ref b3, .ref b4, .int 0, .ref b5, .ref b6, .ref b7])) :: (((((((([]) ++ [(b1, .inl (E 0, 4, .inl fun _ => 0))]) ++ [(b2, .inl (E 0, 4, .inl fun _ => 0))]) ++ [(b3, .inl (E 0, 4, .inl fun _ => 0))]) ++ [(b4, .inl (E 0, 4, .inl fun _ => 0))]) ++ [(b5, .inl (E 0, 60, .inl fun _ => 0))]) ++ [(b6, .inl (E 0, 60, .inl fun _ => 0))]) ++ [(b7, .inl (E 0, 21, .inl fun _ => 0))])) H _ := hW
  have hW : WD D A s (w_sc E (fun i : Nat => [h_, b1, b2, b3, b4, b5, b6, b7].getD i 0) 0 0 (fun _ _ => 0)) H locs := hW
  exact hret dX4_init_66 ⟨(fun i : Nat => [h_, b1, b2, b3, b4, b5, b6, b7].getD i 0), rfl, rfl⟩ (Nat.le_of_ble_eq_true rfl) (Nat.le_of_ble_eq_true rfl) hW
def n6_w (E : Nat → ClassId) (a : Nat → Nat) : va_W := ((a 0), .inr (8, [.int 0, .int 0, .int 0, .int 0, .ref (a 1), .ref (a 2), .ref (a 3), .ref (a 4)])) :: ((((([]) ++ [((a 1), .inl (E 0, 4, .inl fun _ => 0))]) ++ [((a 2), .inl (E 0, 4, .inl fun _ => 0))]) ++ [((a 3), .inl (E 0, 4, .inl fun _ => 0))]) ++ [((a 4), .inl (E 0, 21, .inl fun _ => 0))])
set_option maxHeartbeats 4000000 in
set_option maxRecDepth 100000 in
theorem n_X6 (l : Launch) (D : va_G) (E : Nat → ClassId) (tx : List (Nat × String)) (h_ : Nat) : NC l yX6_init cX6_init 1 1 20 4 33 D E tx (fun _ => True) (h_, .inr (8, zf_X6)) (fun u => ∃ a : Nat → Nat, a 0 = h_ ∧ u = n6_w E a) := by
  refine NC_of RX6 pn_X6 rfl rfl (Nat.le_of_ble_eq_true rfl) (fun p e s m args below meth c A Q hF hin hK hA hZ hX hW hret ls hl => ?_)
  have hx := hF.1
  have hb := hF.2.1
  have hl : lv_has ls 1 [(0, .ref h_)] := hl
  have hW : WD D A s ((h_, .inr (8, [.int 0, .int 0, .int 0, .int 0, .null, .null, .null, .null])) :: []) s.heap [] := hW
  refine lv_aload_n hx hb dX6_init_0 rfl (lv_at hl 0 rfl) ?_
  refine q_obj hF hl.1 ml_X6_3 (Nat.le_of_ble_eq_true rfl) ⟨Nat.le_of_ble_eq_true rfl, Nat.le_of_ble_eq_true rfl⟩ dX6_init_1 ?_
  refine lv_aload_n hx hb dX6_init_4 rfl (lv_at hl 0 rfl) ?_
  refine lv_iconst (v := 0) hx hb dX6_init_5 (by decide) ?_
  refine q_put hF hK hW fl_X6_9 ft_X6 rfl 0 rfl rfl rfl (Nat.le_of_ble_eq_true rfl) dX6_init_6 (fun H locs hW => ?_)
  have hW : WD D A s ((h_, .inr (8, [.int 0, .int 0, .int 0, .int 0, .null, .null, .null, .null])) :: ([])) H _ := hW
  refine lv_aload_n hx hb dX6_init_9 rfl (lv_at hl 0 rfl) ?_
  refine lv_iconst (v := 0) hx hb dX6_init_10 (by decide) ?_
  refine q_put hF hK hW fl_X6_15 ft_X6 rfl 0 rfl rfl rfl (Nat.le_of_ble_eq_true rfl) dX6_init_11 (fun H locs hW => ?_)
  have hW : WD D A s ((h_, .inr (8, [.int 0, .int 0, .int 0, .int 0, .null, .null, .null, .null])) :: ([])) H _ := hW
  refine lv_aload_n hx hb dX6_init_14 rfl (lv_at hl 0 rfl) ?_
  refine lv_iconst (v := 0) hx hb dX6_init_15 (by decide) ?_
  refine q_put hF hK hW fl_X6_18 ft_X6 rfl 0 rfl rfl rfl (Nat.le_of_ble_eq_true rfl) dX6_init_16 (fun H locs hW => ?_)
  have hW : WD D A s ((h_, .inr (8, [.int 0, .int 0, .int 0, .int 0, .null, .null, .null, .null])) :: ([])) H _ := hW
  refine lv_aload_n hx hb dX6_init_19 rfl (lv_at hl 0 rfl) ?_
  refine lv_iconst (v := 0) hx hb dX6_init_20 (by decide) ?_
  refine q_put hF hK hW fl_X6_21 ft_X6 rfl 0 rfl rfl rfl (Nat.le_of_ble_eq_true rfl) dX6_init_21 (fun H locs hW => ?_)
  have hW : WD D A s ((h_, .inr (8, [.int 0, .int 0, .int 0, .int 0, .null, .null, .null, .null])) :: ([])) H _ := hW
  refine lv_aload_n hx hb dX6_init_24 rfl (lv_at hl 0 rfl) ?_
  refine lv_iconst (v := 4) hx hb dX6_init_25 (by decide) ?_
  refine q_newA hF hK hA hW ac_int rfl 0 rfl (fun _ => rfl) (N' := 4) (a0 := (4, .inl fun _ => 0)) (fun _ => rfl) (by decide) (by decide) (Nat.le_of_ble_eq_true rfl) (Nat.le_of_ble_eq_true rfl) (Nat.le_of_ble_eq_true rfl) dX6_init_26 (fun b1 H hW => ?_)
  have hW : WD D A s ((h_, .inr (8, [.int 0, .int 0, .int 0, .int 0, .null, .null, .null, .null])) :: (([]) ++ [(b1, .inl (E 0, 4, .inl fun _ => 0))])) H _ := hW
  refine q_putF hF hin hK hW fl_X6_24 ft_X6 rfl rfl 0 rfl rfl rfl (Nat.le_of_ble_eq_true rfl) dX6_init_28 (fun H locs hW => ?_)
  have hW : WD D A s ((h_, .inr (8, [.int 0, .int 0, .int 0, .int 0, .ref b1, .null, .null, .null])) :: (([]) ++ [(b1, .inl (E 0, 4, .inl fun _ => 0))])) H _ := hW
  refine lv_aload_n hx hb dX6_init_31 rfl (lv_at hl 0 rfl) ?_
  refine lv_iconst (v := 4) hx hb dX6_init_32 (by decide) ?_
  refine q_newA hF hK hA hW ac_int rfl 0 rfl (fun _ => rfl) (N' := 4) (a0 := (4, .inl fun _ => 0)) (fun _ => rfl) (by decide) (by decide) (Nat.le_of_ble_eq_true rfl) (Nat.le_of_ble_eq_true rfl) (Nat.le_of_ble_eq_true rfl) dX6_init_33 (fun b2 H hW => ?_)
  have hW : WD D A s ((h_, .inr (8, [.int 0, .int 0, .int 0, .int 0, .ref b1, .null, .null, .null])) :: ((([]) ++ [(b1, .inl (E 0, 4, .inl fun _ => 0))]) ++ [(b2, .inl (E 0, 4, .inl fun _ => 0))])) H _ := hW
  refine q_putF hF hin hK hW fl_X6_28 ft_X6 rfl rfl 0 rfl rfl rfl (Nat.le_of_ble_eq_true rfl) dX6_init_35 (fun H locs hW => ?_)
  have hW : WD D A s ((h_, .inr (8, [.int 0, .int 0, .int 0, .int 0, .ref b1, .ref b2, .null, .null])) :: ((([]) ++ [(b1, .inl (E 0, 4, .inl fun _ => 0))]) ++ [(b2, .inl (E 0, 4, .inl fun _ => 0))])) H _ := hW
  refine lv_aload_n hx hb dX6_init_38 rfl (lv_at hl 0 rfl) ?_
  refine lv_iconst (v := 4) hx hb dX6_init_39 (by decide) ?_
  refine q_newA hF hK hA hW ac_int rfl 0 rfl (fun _ => rfl) (N' := 4) (a0 := (4, .inl fun _ => 0)) (fun _ => rfl) (by decide) (by decide) (Nat.le_of_ble_eq_true rfl) (Nat.le_of_ble_eq_true rfl) (Nat.le_of_ble_eq_true rfl) dX6_init_40 (fun b3 H hW => ?_)
  have hW : WD D A s ((h_, .inr (8, [.int 0, .int 0, .int 0, .int 0, .ref b1, .ref b2, .null, .null])) :: (((([]) ++ [(b1, .inl (E 0, 4, .inl fun _ => 0))]) ++ [(b2, .inl (E 0, 4, .inl fun _ => 0))]) ++ [(b3, .inl (E 0, 4, .inl fun _ => 0))])) H _ := hW
  refine q_putF hF hin hK hW fl_X6_31 ft_X6 rfl rfl 0 rfl rfl rfl (Nat.le_of_ble_eq_true rfl) dX6_init_42 (fun H locs hW => ?_)
  have hW : WD D A s ((h_, .inr (8, [.int 0, .int 0, .int 0, .int 0, .ref b1, .ref b2, .ref b3, .null])) :: (((([]) ++ [(b1, .inl (E 0, 4, .inl fun _ => 0))]) ++ [(b2, .inl (E 0, 4, .inl fun _ => 0))]) ++ [(b3, .inl (E 0, 4, .inl fun _ => 0))])) H _ := hW
  refine lv_aload_n hx hb dX6_init_45 rfl (lv_at hl 0 rfl) ?_
  refine lv_bipush (v := 21) hx hb dX6_init_46 (by decide) ?_
  refine q_newA hF hK hA hW ac_int rfl 0 rfl (fun _ => rfl) (N' := 21) (a0 := (21, .inl fun _ => 0)) (fun _ => rfl) (by decide) (by decide) (Nat.le_of_ble_eq_true rfl) (Nat.le_of_ble_eq_true rfl) (Nat.le_of_ble_eq_true rfl) dX6_init_48 (fun b4 H hW => ?_)
  have hW : WD D A s ((h_, .inr (8, [.int 0, .int 0, .int 0, .int 0, .ref b1, .ref b2, .ref b3, .null])) :: ((((([]) ++ [(b1, .inl (E 0, 4, .inl fun _ => 0))]) ++ [(b2, .inl (E 0, 4, .inl fun _ => 0))]) ++ [(b3, .inl (E 0, 4, .inl fun _ => 0))]) ++ [(b4, .inl (E 0, 21, .inl fun _ => 0))])) H _ := hW
  refine q_putF hF hin hK hW fl_X6_34 ft_X6 rfl rfl 0 rfl rfl rfl (Nat.le_of_ble_eq_true rfl) dX6_init_50 (fun H locs hW => ?_)
  have hW : WD D A s ((h_, .inr (8, [.int 0, .int 0, .int 0, .int 0, .ref b1, .ref b2, .ref b3, .ref b4])) :: ((((([]) ++ [(b1, .inl (E 0, 4, .inl fun _ => 0))]) ++ [(b2, .inl (E 0, 4, .inl fun _ => 0))]) ++ [(b3, .inl (E 0, 4, .inl fun _ => 0))]) ++ [(b4, .inl (E 0, 21, .inl fun _ => 0))])) H _ := hW
  have hW : WD D A s (n6_w E (fun i : Nat => [h_, b1, b2, b3, b4].getD i 0)) H locs := hW
  exact hret dX6_init_53 ⟨(fun i : Nat => [h_, b1, b2, b3, b4].getD i 0), rfl, rfl⟩ (Nat.le_of_ble_eq_true rfl) (Nat.le_of_ble_eq_true rfl) hW
def n5_w (E : Nat → ClassId) (a : Nat → Nat) : va_W := ((a 0), .inr (7, [.int 0, .int 0, .int 0, .ref (a 1), .ref (a 2), .ref (a 3), .ref (a 4), .ref (a 5), .int 0, .ref (a 6), .ref (a 7), .ref (a 12)])) :: ((((((((([]) ++ [((a 1), .inl (E 0, 4, .inl fun _ => 0))]) ++ [((a 2), .inl (E 0, 4, .inl fun _ => 0))]) ++ [((a 3), .inl (E 0, 5000, .inl fun _ => 0))]) ++ [((a 4), .inl (E 0, 5000, .inl fun _ => 0))]) ++ [((a 5), .inl (E 0, 5000, .inl fun _ => 0))]) ++ [((a 6), .inl (E 0, 40000, .inl fun _ => 0))]) ++ (n6_w E (fun i => a (7 + i)) )) ++ [((a 12), .inl (E 0, 4, .inl fun _ => 0))])
set_option maxHeartbeats 4000000 in
set_option maxRecDepth 100000 in
theorem n_X5 (l : Launch) (D : va_G) (E : Nat → ClassId) (tx : List (Nat × String)) (h_ : Nat) : NC l yX5_init cX5_init 1 2 40 12 55053 D E tx (fun _ => True) (h_, .inr (7, zf_X5)) (fun u => ∃ a : Nat → Nat, a 0 = h_ ∧ u = n5_w E a) := by
  refine NC_of RX5 pn_X5 rfl rfl (Nat.le_of_ble_eq_true rfl) (fun p e s m args below meth c A Q hF hin hK hA hZ hX hW hret ls hl => ?_)
  have hx := hF.1
  have hb := hF.2.1
  have hl : lv_has ls 1 [(0, .ref h_)] := hl
  have hW : WD D A s ((h_, .inr (7, [.int 0, .int 0, .int 0, .null, .null, .null, .null, .null, .int 0, .null, .null, .null])) :: []) s.heap [] := hW
  refine lv_aload_n hx hb dX5_init_0 rfl (lv_at hl 0 rfl) ?_
  refine q_obj hF hl.1 ml_X5_3 (Nat.le_of_ble_eq_true rfl) ⟨Nat.le_of_ble_eq_true rfl, Nat.le_of_ble_eq_true rfl⟩ dX5_init_1 ?_
  refine lv_aload_n hx hb dX5_init_4 rfl (lv_at hl 0 rfl) ?_
  refine lv_iconst (v := 0) hx hb dX5_init_5 (by decide) ?_
  refine q_put hF hK hW fl_X5_9 ft_X5 rfl 0 rfl rfl rfl (Nat.le_of_ble_eq_true rfl) dX5_init_6 (fun H locs hW => ?_)
  have hW : WD D A s ((h_, .inr (7, [.int 0, .int 0, .int 0, .null, .null, .null, .null, .null, .int 0, .null, .null, .null])) :: ([])) H _ := hW
  refine lv_aload_n hx hb dX5_init_9 rfl (lv_at hl 0 rfl) ?_
  refine lv_iconst (v := 0) hx hb dX5_init_10 (by decide) ?_
  refine q_put hF hK hW fl_X5_15 ft_X5 rfl 0 rfl rfl rfl (Nat.le_of_ble_eq_true rfl) dX5_init_11 (fun H locs hW => ?_)
  have hW : WD D A s ((h_, .inr (7, [.int 0, .int 0, .int 0, .null, .null, .null, .null, .null, .int 0, .null, .null, .null])) :: ([])) H _ := hW
  refine lv_aload_n hx hb dX5_init_14 rfl (lv_at hl 0 rfl) ?_
  refine lv_iconst (v := 0) hx hb dX5_init_15 (by decide) ?_
  refine q_put hF hK hW fl_X5_19 ft_X5 rfl 0 rfl rfl rfl (Nat.le_of_ble_eq_true rfl) dX5_init_16 (fun H locs hW => ?_)
  have hW : WD D A s ((h_, .inr (7, [.int 0, .int 0, .int 0, .null, .null, .null, .null, .null, .int 0, .null, .null, .null])) :: ([])) H _ := hW
  refine lv_aload_n hx hb dX5_init_19 rfl (lv_at hl 0 rfl) ?_
  refine lv_iconst (v := 4) hx hb dX5_init_20 (by decide) ?_
  refine q_newA hF hK hA hW ac_int rfl 0 rfl (fun _ => rfl) (N' := 4) (a0 := (4, .inl fun _ => 0)) (fun _ => rfl) (by decide) (by decide) (Nat.le_of_ble_eq_true rfl) (Nat.le_of_ble_eq_true rfl) (Nat.le_of_ble_eq_true rfl) dX5_init_21 (fun b1 H hW => ?_)
  have hW : WD D A s ((h_, .inr (7, [.int 0, .int 0, .int 0, .null, .null, .null, .null, .null, .int 0, .null, .null, .null])) :: (([]) ++ [(b1, .inl (E 0, 4, .inl fun _ => 0))])) H _ := hW
  refine q_putF hF hin hK hW fl_X5_22 ft_X5 rfl rfl 0 rfl rfl rfl (Nat.le_of_ble_eq_true rfl) dX5_init_23 (fun H locs hW => ?_)
  have hW : WD D A s ((h_, .inr (7, [.int 0, .int 0, .int 0, .ref b1, .null, .null, .null, .null, .int 0, .null, .null, .null])) :: (([]) ++ [(b1, .inl (E 0, 4, .inl fun _ => 0))])) H _ := hW
  refine lv_aload_n hx hb dX5_init_26 rfl (lv_at hl 0 rfl) ?_
  refine lv_iconst (v := 4) hx hb dX5_init_27 (by decide) ?_
  refine q_newA hF hK hA hW ac_int rfl 0 rfl (fun _ => rfl) (N' := 4) (a0 := (4, .inl fun _ => 0)) (fun _ => rfl) (by decide) (by decide) (Nat.le_of_ble_eq_true rfl) (Nat.le_of_ble_eq_true rfl) (Nat.le_of_ble_eq_true rfl) dX5_init_28 (fun b2 H hW => ?_)
  have hW : WD D A s ((h_, .inr (7, [.int 0, .int 0, .int 0, .ref b1, .null, .null, .null, .null, .int 0, .null, .null, .null])) :: ((([]) ++ [(b1, .inl (E 0, 4, .inl fun _ => 0))]) ++ [(b2, .inl (E 0, 4, .inl fun _ => 0))])) H _ := hW
  refine q_putF hF hin hK hW fl_X5_26 ft_X5 rfl rfl 0 rfl rfl rfl (Nat.le_of_ble_eq_true rfl) dX5_init_30 (fun H locs hW => ?_)
  have hW : WD D A s ((h_, .inr (7, [.int 0, .int 0, .int 0, .ref b1, .ref b2, .null, .null, .null, .int 0, .null, .null, .null])) :: ((([]) ++ [(b1, .inl (E 0, 4, .inl fun _ => 0))]) ++ [(b2, .inl (E 0, 4, .inl fun _ => 0))])) H _ := hW
  refine lv_aload_n hx hb dX5_init_33 rfl (lv_at hl 0 rfl) ?_
  refine lv_sipush (v := 5000) hx hb dX5_init_34 (by decide) ?_
  refine q_newA hF hK hA hW ac_int rfl 0 rfl (fun _ => rfl) (N' := 5000) (a0 := (5000, .inl fun _ => 0)) (fun _ => rfl) (by decide) (by decide) (Nat.le_of_ble_eq_true rfl) (Nat.le_of_ble_eq_true rfl) (Nat.le_of_ble_eq_true rfl) dX5_init_37 (fun b3 H hW => ?_)
  have hW : WD D A s ((h_, .inr (7, [.int 0, .int 0, .int 0, .ref b1, .ref b2, .null, .null, .null, .int 0, .null, .null, .null])) :: (((([]) ++ [(b1, .inl (E 0, 4, .inl fun _ => 0))]) ++ [(b2, .inl (E 0, 4, .inl fun _ => 0))]) ++ [(b3, .inl (E 0, 5000, .inl fun _ => 0))])) H _ := hW
  refine q_putF hF hin hK hW fl_X5_29 ft_X5 rfl rfl 0 rfl rfl rfl (Nat.le_of_ble_eq_true rfl) dX5_init_39 (fun H locs hW => ?_)
  have hW : WD D A s ((h_, .inr (7, [.int 0, .int 0, .int 0, .ref b1, .ref b2, .ref b3, .null, .null, .int 0, .null, .null, .null])) :: (((([]) ++ [(b1, .inl (E 0, 4, .inl fun _ => 0))]) ++ [(b2, .inl (E 0, 4, .inl fun _ => 0))]) ++ [(b3, .inl (E 0, 5000, .inl fun _ => 0))])) H _ := hW
  refine lv_aload_n hx hb dX5_init_42 rfl (lv_at hl 0 rfl) ?_
  refine lv_sipush (v := 5000) hx hb dX5_init_43 (by decide) ?_
  refine q_newA hF hK hA hW ac_int rfl 0 rfl (fun _ => rfl) (N' := 5000) (a0 := (5000, .inl fun _ => 0)) (fun _ => rfl) (by decide) (by decide) (Nat.le_of_ble_eq_true rfl) (Nat.le_of_ble_eq_true rfl) (Nat.le_of_ble_eq_true rfl) dX5_init_46 (fun b4 H hW => ?_)
  have hW : WD D A s ((h_, .inr (7, [.int 0, .int 0, .int 0, .ref b1, .ref b2, .ref b3, .null, .null, .int 0, .null, .null, .null])) :: ((((([]) ++ [(b1, .inl (E 0, 4, .inl fun _ => 0))]) ++ [(b2, .inl (E 0, 4, .inl fun _ => 0))]) ++ [(b3, .inl (E 0, 5000, .inl fun _ => 0))]) ++ [(b4, .inl (E 0, 5000, .inl fun _ => 0))])) H _ := hW
  refine q_putF hF hin hK hW fl_X5_32 ft_X5 rfl rfl 0 rfl rfl rfl (Nat.le_of_ble_eq_true rfl) dX5_init_48 (fun H locs hW => ?_)
  have hW : WD D A s ((h_, .inr (7, [.int 0, .int 0, .int 0, .ref b1, .ref b2, .ref b3, .ref b4, .null, .int 0, .null, .null, .null])) :: ((((([]) ++ [(b1, .inl (E 0, 4, .inl fun _ => 0))]) ++ [(b2, .inl (E 0, 4, .inl fun _ => 0))]) ++ [(b3, .inl (E 0, 5000, .inl fun _ => 0))]) ++ [(b4, .inl (E 0, 5000, .inl fun _ => 0))])) H _ := hW
  refine lv_aload_n hx hb dX5_init_51 rfl (lv_at hl 0 rfl) ?_
  refine lv_sipush (v := 5000) hx hb dX5_init_52 (by decide) ?_
  refine q_newA hF hK hA hW ac_int rfl 0 rfl (fun _ => rfl) (N' := 5000) (a0 := (5000, .inl fun _ => 0)) (fun _ => rfl) (by decide) (by decide) (Nat.le_of_ble_eq_true rfl) (Nat.le_of_ble_eq_true rfl) (Nat.le_of_ble_eq_true rfl) dX5_init_55 (fun b5 H hW => ?_)
  have hW : WD D A s ((h_, .inr (7, [.int 0, .int 0, .int 0, .ref b1, .ref b2, .ref b3, .ref b4, .null, .int 0, .null, .null, .null])) :: (((((([]) ++ [(b1, .inl (E 0, 4, .inl fun _ => 0))]) ++ [(b2, .inl (E 0, 4, .inl fun _ => 0))]) ++ [(b3, .inl (E 0, 5000, .inl fun _ => 0))]) ++ [(b4, .inl (E 0, 5000, .inl fun _ => 0))]) ++ [(b5, .inl (E 0, 5000, .inl fun _ => 0))])) H _ := hW
  refine q_putF hF hin hK hW fl_X5_35 ft_X5 rfl rfl 0 rfl rfl rfl (Nat.le_of_ble_eq_true rfl) dX5_init_57 (fun H locs hW => ?_)
  have hW : WD D A s ((h_, .inr (7, [.int 0, .int 0, .int 0, .ref b1, .ref b2, .ref b3, .ref b4, .ref b5, .int 0, .null, .null, .null])) :: (((((([]) ++ [(b1, .inl (E 0, 4, .inl fun _ => 0))]) ++ [(b2, .inl (E 0, 4, .inl fun _ => 0))]) ++ [(b3, .inl (E 0, 5000, .inl fun _ => 0))]) ++ [(b4, .inl (E 0, 5000, .inl fun _ => 0))]) ++ [(b5, .inl (E 0, 5000, .inl fun _ => 0))])) H _ := hW
  refine lv_aload_n hx hb dX5_init_60 rfl (lv_at hl 0 rfl) ?_
  refine lv_iconst (v := 0) hx hb dX5_init_61 (by decide) ?_
  refine q_put hF hK hW fl_X5_38 ft_X5 rfl 0 rfl rfl rfl (Nat.le_of_ble_eq_true rfl) dX5_init_62 (fun H locs hW => ?_)
  have hW : WD D A s ((h_, .inr (7, [.int 0, .int 0, .int 0, .ref b1, .ref b2, .ref b3, .ref b4, .ref b5, .int 0, .null, .null, .null])) :: (((((([]) ++ [(b1, .inl (E 0, 4, .inl fun _ => 0))]) ++ [(b2, .inl (E 0, 4, .inl fun _ => 0))]) ++ [(b3, .inl (E 0, 5000, .inl fun _ => 0))]) ++ [(b4, .inl (E 0, 5000, .inl fun _ => 0))]) ++ [(b5, .inl (E 0, 5000, .inl fun _ => 0))])) H _ := hW
  refine lv_aload_n hx hb dX5_init_65 rfl (lv_at hl 0 rfl) ?_
  refine lv_ldc (v := 40000) hx hb hF.2.2.2.1 (hF.2.2.2.2 _ lc_X5_41) dX5_init_66 ?_
  refine q_newA hF hK hA hW ac_int rfl 0 rfl (fun _ => rfl) (N' := 40000) (a0 := (40000, .inl fun _ => 0)) (fun _ => rfl) (by decide) (by decide) (Nat.le_of_ble_eq_true rfl) (Nat.le_of_ble_eq_true rfl) (Nat.le_of_ble_eq_true rfl) dX5_init_68 (fun b6 H hW => ?_)
  have hW : WD D A s ((h_, .inr (7, [.int 0, .int 0, .int 0, .ref b1, .ref b2, .ref b3, .ref b4, .ref b5, .int 0, .null, .null, .null])) :: ((((((([]) ++ [(b1, .inl (E 0, 4, .inl fun _ => 0))]) ++ [(b2, .inl (E 0, 4, .inl fun _ => 0))]) ++ [(b3, .inl (E 0, 5000, .inl fun _ => 0))]) ++ [(b4, .inl (E 0, 5000, .inl fun _ => 0))]) ++ [(b5, .inl (E 0, 5000, .inl fun _ => 0))]) ++ [(b6, .inl (E 0, 40000, .inl fun _ => 0))])) H _ := hW
  refine q_putF hF hin hK hW fl_X5_42 ft_X5 rfl rfl 0 rfl rfl rfl (Nat.le_of_ble_eq_true rfl) dX5_init_70 (fun H locs hW => ?_)
  have hW : WD D A s ((h_, .inr (7, [.int 0, .int 0, .int 0, .ref b1, .ref b2, .ref b3, .ref b4, .ref b5, .int 0, .ref b6, .null, .null])) :: ((((((([]) ++ [(b1, .inl (E 0, 4, .inl fun _ => 0))]) ++ [(b2, .inl (E 0, 4, .inl fun _ => 0))]) ++ [(b3, .inl (E 0, 5000, .inl fun _ => 0))]) ++ [(b4, .inl (E 0, 5000, .inl fun _ => 0))]) ++ [(b5, .inl (E 0, 5000, .inl fun _ => 0))]) ++ [(b6, .inl (E 0, 40000, .inl fun _ => 0))])) H _ := hW
  refine lv_aload_n hx hb dX5_init_73 rfl (lv_at hl 0 rfl) ?_
  refine q_newO hF hK hA hW nc_X5_45 iu_X6 (ci := 8) rfl ft_X6 (fs := zf_X6) zo_X6 (Nat.le_of_ble_eq_true rfl) (Nat.le_of_ble_eq_true rfl) dX5_init_74 (fun q7 H hW => ?_)
  refine lv_dup hx hb dX5_init_77 rfl ?_
  refine q_initN hF hl.1 hK hA hZ hW mi_X6 nw_X5_47 (fun _ _ => trivial) fb_true (n_X6 l D E tx q7) ⟨Nat.le_of_ble_eq_true rfl, Nat.le_of_ble_eq_true rfl⟩ ⟨Nat.le_of_ble_eq_true rfl, Nat.le_of_ble_eq_true rfl⟩ (Nat.le_of_ble_eq_true rfl) dX5_init_78 (fun u1 H locs hu hW => ?_)
  obtain ⟨a1, rfl, rfl⟩ := hu
  have hW : WD D A s ((h_, .inr (7, [.int 0, .int 0, .int 0, .ref b1, .ref b2, .ref b3, .ref b4, .ref b5, .int 0, .ref b6, .null, .null])) :: (((((((([]) ++ [(b1, .inl (E 0, 4, .inl fun _ => 0))]) ++ [(b2, .inl (E 0, 4, .inl fun _ => 0))]) ++ [(b3, .inl (E 0, 5000, .inl fun _ => 0))]) ++ [(b4, .inl (E 0, 5000, .inl fun _ => 0))]) ++ [(b5, .inl (E 0, 5000, .inl fun _ => 0))]) ++ [(b6, .inl (E 0, 40000, .inl fun _ => 0))]) ++ (n6_w E a1 ))) H _ := hW
  refine q_putF hF hin hK hW fl_X5_48 ft_X5 rfl rfl 0 rfl rfl rfl (Nat.le_of_ble_eq_true rfl) dX5_init_81 (fun H locs hW => ?_)
  have hW : WD D A s ((h_, .inr (7, [.int 0, .int 0, .int 0, .ref b1, .ref b2, .ref b3, .ref b4, .ref b5, .int 0, .ref b6, .ref (a1 0), .null])) :: (((((((([]) ++ [(b1, .inl (E 0, 4, .inl fun _ => 0))]) ++ [(b2, .inl (E 0, 4, .inl fun _ => 0))]) ++ [(b3, .inl (E 0, 5000, .inl fun _ => 0))]) ++ [(b4, .inl (E 0, 5000, .inl fun _ => 0))]) ++ [(b5, .inl (E 0, 5000, .inl fun _ => 0))]) ++ [(b6, .inl (E 0, 40000, .inl fun _ => 0))]) ++ (n6_w E a1 ))) H _ := hW
  refine lv_aload_n hx hb dX5_init_84 rfl (lv_at hl 0 rfl) ?_
  refine lv_iconst (v := 4) hx hb dX5_init_85 (by decide) ?_
  refine q_newA hF hK hA hW ac_int rfl 0 rfl (fun _ => rfl) (N' := 4) (a0 := (4, .inl fun _ => 0)) (fun _ => rfl) (by decide) (by decide) (Nat.le_of_ble_eq_true rfl) (Nat.le_of_ble_eq_true rfl) (Nat.le_of_ble_eq_true rfl) dX5_init_86 (fun b8 H hW => ?_)
  have hW : WD D A s ((h_, .inr (7, [.int 0, .int 0, .int 0, .ref b1, .ref b2, .ref b3, .ref b4, .ref b5, .int 0, .ref b6, .ref (a1 0), .null])) :: ((((((((([]) ++ [(b1, .inl (E 0, 4, .inl fun _ => 0))]) ++ [(b2, .inl (E 0, 4, .inl fun _ => 0))]) ++ [(b3, .inl (E 0, 5000, .inl fun _ => 0))]) ++ [(b4, .inl (E 0, 5000, .inl fun _ => 0))]) ++ [(b5, .inl (E 0, 5000, .inl fun _ => 0))]) ++ [(b6, .inl (E 0, 40000, .inl fun _ => 0))]) ++ (n6_w E a1 )) ++ [(b8, .inl (E 0, 4, .inl fun _ => 0))])) H _ := hW
  refine q_putF hF hin hK hW fl_X5_52 ft_X5 rfl rfl 0 rfl rfl rfl (Nat.le_of_ble_eq_true rfl) dX5_init_88 (fun H locs hW => ?_)
  have hW : WD D A s ((h_, .inr (7, [.int 0, .int 0, .int 0, .ref b1, .ref b2, .ref b3, .ref b4, .ref b5, .int 0, .ref b6, .ref (a1 0), .ref b8])) :: ((((((((([]) ++ [(b1, .inl (E 0, 4, .inl fun _ => 0))]) ++ [(b2, .inl (E 0, 4, .inl fun _ => 0))]) ++ [(b3, .inl (E 0, 5000, .inl fun _ => 0))]) ++ [(b4, .inl (E 0, 5000, .inl fun _ => 0))]) ++ [(b5, .inl (E 0, 5000, .inl fun _ => 0))]) ++ [(b6, .inl (E 0, 40000, .inl fun _ => 0))]) ++ (n6_w E a1 )) ++ [(b8, .inl (E 0, 4, .inl fun _ => 0))])) H _ := hW
  have hW : WD D A s (n5_w E (fun i : Nat => [h_, b1, b2, b3, b4, b5, b6, (a1 0), (a1 1), (a1 2), (a1 3), (a1 4), b8].getD i 0)) H locs := hW
  exact hret dX5_init_91 ⟨(fun i : Nat => [h_, b1, b2, b3, b4, b5, b6, (a1 0), (a1 1), (a1 2), (a1 3), (a1 4), b8].getD i 0), rfl, rfl⟩ (Nat.le_of_ble_eq_true rfl) (Nat.le_of_ble_eq_true rfl) hW
def n3_w (E : Nat → ClassId) (a : Nat → Nat) : va_W := ((a 0), .inr (5, [.int 0, .int 0, .int 0, .int 0, .ref (a 1)])) :: (([]) ++ [((a 1), .inl (E 0, 5000, .inl fun _ => 0))])
set_option maxHeartbeats 4000000 in
set_option maxRecDepth 100000 in
theorem n_X3 (l : Launch) (D : va_G) (E : Nat → ClassId) (tx : List (Nat × String)) (h_ : Nat) : NC l yX3_init cX3_init 1 1 20 1 5000 D E tx (fun _ => True) (h_, .inr (5, zf_X3)) (fun u => ∃ a : Nat → Nat, a 0 = h_ ∧ u = n3_w E a) := by
  refine NC_of RX3 pn_X3 rfl rfl (Nat.le_of_ble_eq_true rfl) (fun p e s m args below meth c A Q hF hin hK hA hZ hX hW hret ls hl => ?_)
  have hx := hF.1
  have hb := hF.2.1
  have hl : lv_has ls 1 [(0, .ref h_)] := hl
  have hW : WD D A s ((h_, .inr (5, [.int 0, .int 0, .int 0, .int 0, .null])) :: []) s.heap [] := hW
  refine lv_aload_n hx hb dX3_init_0 rfl (lv_at hl 0 rfl) ?_
  refine q_obj hF hl.1 ml_X3_3 (Nat.le_of_ble_eq_true rfl) ⟨Nat.le_of_ble_eq_true rfl, Nat.le_of_ble_eq_true rfl⟩ dX3_init_1 ?_
  refine lv_aload_n hx hb dX3_init_4 rfl (lv_at hl 0 rfl) ?_
  refine lv_iconst (v := 0) hx hb dX3_init_5 (by decide) ?_
  refine q_put hF hK hW fl_X3_9 ft_X3 rfl 0 rfl rfl rfl (Nat.le_of_ble_eq_true rfl) dX3_init_6 (fun H locs hW => ?_)
  have hW : WD D A s ((h_, .inr (5, [.int 0, .int 0, .int 0, .int 0, .null])) :: ([])) H _ := hW
  refine lv_aload_n hx hb dX3_init_9 rfl (lv_at hl 0 rfl) ?_
  refine lv_iconst (v := 0) hx hb dX3_init_10 (by decide) ?_
  refine q_put hF hK hW fl_X3_15 ft_X3 rfl 0 rfl rfl rfl (Nat.le_of_ble_eq_true rfl) dX3_init_11 (fun H locs hW => ?_)
  have hW : WD D A s ((h_, .inr (5, [.int 0, .int 0, .int 0, .int 0, .null])) :: ([])) H _ := hW
  refine lv_aload_n hx hb dX3_init_14 rfl (lv_at hl 0 rfl) ?_
  refine lv_iconst (v := 0) hx hb dX3_init_15 (by decide) ?_
  refine q_put hF hK hW fl_X3_19 ft_X3 rfl 0 rfl rfl rfl (Nat.le_of_ble_eq_true rfl) dX3_init_16 (fun H locs hW => ?_)
  have hW : WD D A s ((h_, .inr (5, [.int 0, .int 0, .int 0, .int 0, .null])) :: ([])) H _ := hW
  refine lv_aload_n hx hb dX3_init_19 rfl (lv_at hl 0 rfl) ?_
  refine lv_iconst (v := 0) hx hb dX3_init_20 (by decide) ?_
  refine q_put hF hK hW fl_X3_22 ft_X3 rfl 0 rfl rfl rfl (Nat.le_of_ble_eq_true rfl) dX3_init_21 (fun H locs hW => ?_)
  have hW : WD D A s ((h_, .inr (5, [.int 0, .int 0, .int 0, .int 0, .null])) :: ([])) H _ := hW
  refine lv_aload_n hx hb dX3_init_24 rfl (lv_at hl 0 rfl) ?_
  refine lv_sipush (v := 5000) hx hb dX3_init_25 (by decide) ?_
  refine q_newA hF hK hA hW ac_int rfl 0 rfl (fun _ => rfl) (N' := 5000) (a0 := (5000, .inl fun _ => 0)) (fun _ => rfl) (by decide) (by decide) (Nat.le_of_ble_eq_true rfl) (Nat.le_of_ble_eq_true rfl) (Nat.le_of_ble_eq_true rfl) dX3_init_28 (fun b1 H hW => ?_)
  have hW : WD D A s ((h_, .inr (5, [.int 0, .int 0, .int 0, .int 0, .null])) :: (([]) ++ [(b1, .inl (E 0, 5000, .inl fun _ => 0))])) H _ := hW
  refine q_putF hF hin hK hW fl_X3_25 ft_X3 rfl rfl 0 rfl rfl rfl (Nat.le_of_ble_eq_true rfl) dX3_init_30 (fun H locs hW => ?_)
  have hW : WD D A s ((h_, .inr (5, [.int 0, .int 0, .int 0, .int 0, .ref b1])) :: (([]) ++ [(b1, .inl (E 0, 5000, .inl fun _ => 0))])) H _ := hW
  have hW : WD D A s (n3_w E (fun i : Nat => [h_, b1].getD i 0)) H locs := hW
  exact hret dX3_init_33 ⟨(fun i : Nat => [h_, b1].getD i 0), rfl, rfl⟩ (Nat.le_of_ble_eq_true rfl) (Nat.le_of_ble_eq_true rfl) hW
def n0_w (E : Nat → ClassId) (a : Nat → Nat) : va_W := ((a 0), .inr (2, [.int 0, .ref (a 1), .ref (a 2), .ref (a 3)])) :: (((([]) ++ [((a 1), .inl (E 1, 26, .inl fun _ => 0))]) ++ [((a 2), .inl (E 0, 26, .inl fun _ => 0))]) ++ [((a 3), .inl (E 0, 104, .inl fun _ => 0))])
set_option maxHeartbeats 4000000 in
set_option maxRecDepth 100000 in
theorem n_X0 (l : Launch) (D : va_G) (E : Nat → ClassId) (tx : List (Nat × String)) (h_ : Nat) : NC l yX0_init cX0_init 1 1 20 3 156 D E tx (fun _ => True) (h_, .inr (2, zf_X0)) (fun u => ∃ a : Nat → Nat, a 0 = h_ ∧ u = n0_w E a) := by
  refine NC_of RX0 pn_X0 rfl rfl (Nat.le_of_ble_eq_true rfl) (fun p e s m args below meth c A Q hF hin hK hA hZ hX hW hret ls hl => ?_)
  have hx := hF.1
  have hb := hF.2.1
  have hl : lv_has ls 1 [(0, .ref h_)] := hl
  have hW : WD D A s ((h_, .inr (2, [.int 0, .null, .null, .null])) :: []) s.heap [] := hW
  refine lv_aload_n hx hb dX0_init_0 rfl (lv_at hl 0 rfl) ?_
  refine q_obj hF hl.1 ml_X0_3 (Nat.le_of_ble_eq_true rfl) ⟨Nat.le_of_ble_eq_true rfl, Nat.le_of_ble_eq_true rfl⟩ dX0_init_1 ?_
  refine lv_aload_n hx hb dX0_init_4 rfl (lv_at hl 0 rfl) ?_
  refine lv_iconst (v := 0) hx hb dX0_init_5 (by decide) ?_
  refine q_put hF hK hW fl_X0_9 ft_X0 rfl 0 rfl rfl rfl (Nat.le_of_ble_eq_true rfl) dX0_init_6 (fun H locs hW => ?_)
  have hW : WD D A s ((h_, .inr (2, [.int 0, .null, .null, .null])) :: ([])) H _ := hW
  refine lv_aload_n hx hb dX0_init_9 rfl (lv_at hl 0 rfl) ?_
  refine lv_bipush (v := 26) hx hb dX0_init_10 (by decide) ?_
  refine q_newA hF hK hA hW ac_bool rfl 1 rfl (fun _ => rfl) (N' := 26) (a0 := (26, .inl fun _ => 0)) (fun _ => rfl) (by decide) (by decide) (Nat.le_of_ble_eq_true rfl) (Nat.le_of_ble_eq_true rfl) (Nat.le_of_ble_eq_true rfl) dX0_init_12 (fun b1 H hW => ?_)
  have hW : WD D A s ((h_, .inr (2, [.int 0, .null, .null, .null])) :: (([]) ++ [(b1, .inl (E 1, 26, .inl fun _ => 0))])) H _ := hW
  refine q_putF hF hin hK hW fl_X0_15 ft_X0 rfl rfl 0 rfl rfl rfl (Nat.le_of_ble_eq_true rfl) dX0_init_14 (fun H locs hW => ?_)
  have hW : WD D A s ((h_, .inr (2, [.int 0, .ref b1, .null, .null])) :: (([]) ++ [(b1, .inl (E 1, 26, .inl fun _ => 0))])) H _ := hW
  refine lv_aload_n hx hb dX0_init_17 rfl (lv_at hl 0 rfl) ?_
  refine lv_bipush (v := 26) hx hb dX0_init_18 (by decide) ?_
  refine q_newA hF hK hA hW ac_int rfl 0 rfl (fun _ => rfl) (N' := 26) (a0 := (26, .inl fun _ => 0)) (fun _ => rfl) (by decide) (by decide) (Nat.le_of_ble_eq_true rfl) (Nat.le_of_ble_eq_true rfl) (Nat.le_of_ble_eq_true rfl) dX0_init_20 (fun b2 H hW => ?_)
  have hW : WD D A s ((h_, .inr (2, [.int 0, .ref b1, .null, .null])) :: ((([]) ++ [(b1, .inl (E 1, 26, .inl fun _ => 0))]) ++ [(b2, .inl (E 0, 26, .inl fun _ => 0))])) H _ := hW
  refine q_putF hF hin hK hW fl_X0_19 ft_X0 rfl rfl 0 rfl rfl rfl (Nat.le_of_ble_eq_true rfl) dX0_init_22 (fun H locs hW => ?_)
  have hW : WD D A s ((h_, .inr (2, [.int 0, .ref b1, .ref b2, .null])) :: ((([]) ++ [(b1, .inl (E 1, 26, .inl fun _ => 0))]) ++ [(b2, .inl (E 0, 26, .inl fun _ => 0))])) H _ := hW
  refine lv_aload_n hx hb dX0_init_25 rfl (lv_at hl 0 rfl) ?_
  refine lv_bipush (v := 104) hx hb dX0_init_26 (by decide) ?_
  refine q_newA hF hK hA hW ac_int rfl 0 rfl (fun _ => rfl) (N' := 104) (a0 := (104, .inl fun _ => 0)) (fun _ => rfl) (by decide) (by decide) (Nat.le_of_ble_eq_true rfl) (Nat.le_of_ble_eq_true rfl) (Nat.le_of_ble_eq_true rfl) dX0_init_28 (fun b3 H hW => ?_)
  have hW : WD D A s ((h_, .inr (2, [.int 0, .ref b1, .ref b2, .null])) :: (((([]) ++ [(b1, .inl (E 1, 26, .inl fun _ => 0))]) ++ [(b2, .inl (E 0, 26, .inl fun _ => 0))]) ++ [(b3, .inl (E 0, 104, .inl fun _ => 0))])) H _ := hW
  refine q_putF hF hin hK hW fl_X0_23 ft_X0 rfl rfl 0 rfl rfl rfl (Nat.le_of_ble_eq_true rfl) dX0_init_30 (fun H locs hW => ?_)
  have hW : WD D A s ((h_, .inr (2, [.int 0, .ref b1, .ref b2, .ref b3])) :: (((([]) ++ [(b1, .inl (E 1, 26, .inl fun _ => 0))]) ++ [(b2, .inl (E 0, 26, .inl fun _ => 0))]) ++ [(b3, .inl (E 0, 104, .inl fun _ => 0))])) H _ := hW
  have hW : WD D A s (n0_w E (fun i : Nat => [h_, b1, b2, b3].getD i 0)) H locs := hW
  exact hret dX0_init_33 ⟨(fun i : Nat => [h_, b1, b2, b3].getD i 0), rfl, rfl⟩ (Nat.le_of_ble_eq_true rfl) (Nat.le_of_ble_eq_true rfl) hW
def n2_w (E : Nat → ClassId) (a : Nat → Nat) : va_W := ((a 0), .inr (4, [.int 0, .ref (a 1), .ref (a 2)])) :: ((([]) ++ [((a 1), .inl (E 2, 60, .inl fun _ => 0))]) ++ [((a 2), .inl (E 0, 3, .inl fun _ => 0))])
set_option maxHeartbeats 4000000 in
set_option maxRecDepth 100000 in
theorem n_X2 (l : Launch) (D : va_G) (E : Nat → ClassId) (tx : List (Nat × String)) (h_ : Nat) : NC l yX2_init cX2_init 1 1 20 2 63 D E tx (fun _ => True) (h_, .inr (4, zf_X2)) (fun u => ∃ a : Nat → Nat, a 0 = h_ ∧ u = n2_w E a) := by
  refine NC_of RX2 pn_X2 rfl rfl (Nat.le_of_ble_eq_true rfl) (fun p e s m args below meth c A Q hF hin hK hA hZ hX hW hret ls hl => ?_)
  have hx := hF.1
  have hb := hF.2.1
  have hl : lv_has ls 1 [(0, .ref h_)] := hl
  have hW : WD D A s ((h_, .inr (4, [.int 0, .null, .null])) :: []) s.heap [] := hW
  refine lv_aload_n hx hb dX2_init_0 rfl (lv_at hl 0 rfl) ?_
  refine q_obj hF hl.1 ml_X2_3 (Nat.le_of_ble_eq_true rfl) ⟨Nat.le_of_ble_eq_true rfl, Nat.le_of_ble_eq_true rfl⟩ dX2_init_1 ?_
  refine lv_aload_n hx hb dX2_init_4 rfl (lv_at hl 0 rfl) ?_
  refine lv_iconst (v := 0) hx hb dX2_init_5 (by decide) ?_
  refine q_put hF hK hW fl_X2_9 ft_X2 rfl 0 rfl rfl rfl (Nat.le_of_ble_eq_true rfl) dX2_init_6 (fun H locs hW => ?_)
  have hW : WD D A s ((h_, .inr (4, [.int 0, .null, .null])) :: ([])) H _ := hW
  refine lv_aload_n hx hb dX2_init_9 rfl (lv_at hl 0 rfl) ?_
  refine lv_bipush (v := 60) hx hb dX2_init_10 (by decide) ?_
  refine q_newA hF hK hA hW ac_char rfl 2 rfl (fun _ => rfl) (N' := 60) (a0 := (60, .inl fun _ => 0)) (fun _ => rfl) (by decide) (by decide) (Nat.le_of_ble_eq_true rfl) (Nat.le_of_ble_eq_true rfl) (Nat.le_of_ble_eq_true rfl) dX2_init_12 (fun b1 H hW => ?_)
  have hW : WD D A s ((h_, .inr (4, [.int 0, .null, .null])) :: (([]) ++ [(b1, .inl (E 2, 60, .inl fun _ => 0))])) H _ := hW
  refine q_putF hF hin hK hW fl_X2_15 ft_X2 rfl rfl 0 rfl rfl rfl (Nat.le_of_ble_eq_true rfl) dX2_init_14 (fun H locs hW => ?_)
  have hW : WD D A s ((h_, .inr (4, [.int 0, .ref b1, .null])) :: (([]) ++ [(b1, .inl (E 2, 60, .inl fun _ => 0))])) H _ := hW
  refine lv_aload_n hx hb dX2_init_17 rfl (lv_at hl 0 rfl) ?_
  refine lv_iconst (v := 3) hx hb dX2_init_18 (by decide) ?_
  refine q_newA hF hK hA hW ac_int rfl 0 rfl (fun _ => rfl) (N' := 3) (a0 := (3, .inl fun _ => 0)) (fun _ => rfl) (by decide) (by decide) (Nat.le_of_ble_eq_true rfl) (Nat.le_of_ble_eq_true rfl) (Nat.le_of_ble_eq_true rfl) dX2_init_19 (fun b2 H hW => ?_)
  have hW : WD D A s ((h_, .inr (4, [.int 0, .ref b1, .null])) :: ((([]) ++ [(b1, .inl (E 2, 60, .inl fun _ => 0))]) ++ [(b2, .inl (E 0, 3, .inl fun _ => 0))])) H _ := hW
  refine q_putF hF hin hK hW fl_X2_19 ft_X2 rfl rfl 0 rfl rfl rfl (Nat.le_of_ble_eq_true rfl) dX2_init_21 (fun H locs hW => ?_)
  have hW : WD D A s ((h_, .inr (4, [.int 0, .ref b1, .ref b2])) :: ((([]) ++ [(b1, .inl (E 2, 60, .inl fun _ => 0))]) ++ [(b2, .inl (E 0, 3, .inl fun _ => 0))])) H _ := hW
  have hW : WD D A s (n2_w E (fun i : Nat => [h_, b1, b2].getD i 0)) H locs := hW
  exact hret dX2_init_24 ⟨(fun i : Nat => [h_, b1, b2].getD i 0), rfl, rfl⟩ (Nat.le_of_ble_eq_true rfl) (Nat.le_of_ble_eq_true rfl) hW
def n1_w (E : Nat → ClassId) (a : Nat → Nat) (hp : Nat → Nat → Nat) : va_W := (a 0, .inr (3, [.int 0, .int 0, .ref (a 1)])) :: w_pool E (a 1) hp (fun _ => 0) (fun _ => 0) (fun _ _ _ => 0)
set_option maxHeartbeats 4000000 in
set_option maxRecDepth 100000 in
theorem n_X1 (l : Launch) (D : va_G) (E : Nat → ClassId) (tx : List (Nat × String)) (h_ : Nat) : NC l yX1_init cX1_init 2 2 40 65 1336 D E tx (va_AO RX4) (h_, .inr (3, zf_X1)) (fun u => ∃ (a : Nat → Nat) (hp : Nat → Nat → Nat), a 0 = h_ ∧ u = n1_w E a hp) := by
  refine NC_of RX1 pn_X1 rfl rfl (Nat.le_of_ble_eq_true rfl) (fun p e s m args below meth c A Q hF hin hK hA hZ hX hW hret ls hl => ?_)
  have hx := hF.1
  have hb := hF.2.1
  have hl : lv_has ls 2 [(0, .ref h_)] := hl
  have hW : WD D A s ((h_, .inr (3, [.int 0, .int 0, .null])) :: []) s.heap [] := hW
  refine lv_aload_n hx hb dX1_init_0 rfl (lv_at hl 0 rfl) ?_
  refine q_obj hF hl.1 ml_X1_3 (Nat.le_of_ble_eq_true rfl) ⟨Nat.le_of_ble_eq_true rfl, Nat.le_of_ble_eq_true rfl⟩ dX1_init_1 ?_
  refine lv_aload_n hx hb dX1_init_4 rfl (lv_at hl 0 rfl) ?_
  refine lv_iconst (v := 0) hx hb dX1_init_5 (by decide) ?_
  refine q_put hF hK hW fl_X1_9 ft_X1 rfl 0 rfl rfl rfl (Nat.le_of_ble_eq_true rfl) dX1_init_6 (fun H locs hW => ?_)
  have hW : WD D A s ((h_, .inr (3, [.int 0, .int 0, .null])) :: ([])) H _ := hW
  refine lv_aload_n hx hb dX1_init_9 rfl (lv_at hl 0 rfl) ?_
  refine lv_iconst (v := 0) hx hb dX1_init_10 (by decide) ?_
  refine q_put hF hK hW fl_X1_15 ft_X1 rfl 0 rfl rfl rfl (Nat.le_of_ble_eq_true rfl) dX1_init_11 (fun H locs hW => ?_)
  have hW : WD D A s ((h_, .inr (3, [.int 0, .int 0, .null])) :: ([])) H _ := hW
  refine lv_aload_n hx hb dX1_init_14 rfl (lv_at hl 0 rfl) ?_
  refine lv_bipush (v := 8) hx hb dX1_init_15 (by decide) ?_
  refine q_newS hF hK hA hW nc_X1_18 hX 3 rfl (N' := 8) (by decide) (by decide) (Nat.le_of_ble_eq_true rfl) (Nat.le_of_ble_eq_true rfl) (Nat.le_of_ble_eq_true rfl) dX1_init_17 (fun b1 H hW => ?_)
  have hW : WD D A s ((h_, .inr (3, [.int 0, .int 0, .null])) :: (([]) ++ [(b1, .inl (E 3, 8, .inr (.inr (.inr (.inr (fun _ => none))))))])) H _ := hW
  refine q_putF hF hin hK hW fl_X1_20 ft_X1 rfl rfl 0 rfl rfl rfl (Nat.le_of_ble_eq_true rfl) dX1_init_20 (fun H locs hW => ?_)
  have hW : WD D A s ((h_, .inr (3, [.int 0, .int 0, .ref b1])) :: (([]) ++ [(b1, .inl (E 3, 8, .inr (.inr (.inr (.inr (fun _ => none))))))])) H _ := hW
  refine lv_iconst (v := 0) hx hb dX1_init_23 (by decide) ?_
  refine lv_istore_n (lv' := [(1, .int 0), (0, .ref h_)]) hx hb dX1_init_24 rfl hl (by decide) rfl (fun ls hl => ?_)
  refine lv_iload_n hx hb dX1_init_25 rfl (lv_at hl 0 rfl) ?_
  refine lv_bipush (v := 8) hx hb dX1_init_26 (by decide) ?_
  refine lv_icmp_ge (tgt := 50) hx hb dX1_init_28 (by decide) (fun z => absurd z (by decide)) (fun _ => ?_)
  refine lv_aload_n hx hb dX1_init_31 rfl (lv_at hl 1 rfl) ?_
  refine q_get hF hK hW fl_X1_20 0 rfl rfl dX1_init_32 ?_
  refine lv_iload_n hx hb dX1_init_35 rfl (lv_at hl 0 rfl) ?_
  refine q_newO hF hK hA hW nc_X1_18 iu_X4 (ci := 6) rfl ft_X4 (fs := zf_X4) zo_X4 (Nat.le_of_ble_eq_true rfl) (Nat.le_of_ble_eq_true rfl) dX1_init_36 (fun q2 H hW => ?_)
  refine lv_dup hx hb dX1_init_39 rfl ?_
  refine q_initN hF hl.1 hK hA hZ hW mi_X4 nw_X1_24 (fun _ _ => trivial) fb_true (n_X4 l D E tx q2) ⟨Nat.le_of_ble_eq_true rfl, Nat.le_of_ble_eq_true rfl⟩ ⟨Nat.le_of_ble_eq_true rfl, Nat.le_of_ble_eq_true rfl⟩ (Nat.le_of_ble_eq_true rfl) dX1_init_40 (fun u1 H locs hu hW => ?_)
  obtain ⟨a1, rfl, rfl⟩ := hu
  have hW : WD D A s ((h_, .inr (3, [.int 0, .int 0, .ref b1])) :: ((([]) ++ [(b1, .inl (E 3, 8, .inr (.inr (.inr (.inr (fun _ => none))))))]) ++ (w_sc E a1 0 0 (fun _ _ => 0)))) H _ := hW
  refine q_astS hF hK hW 1 3 2 6 rfl rfl rfl rfl (by unfold vp_in; decide) dX1_init_43 (fun H locs hW => ?_)
  have hW : WD D A s ((h_, .inr (3, [.int 0, .int 0, .ref b1])) :: ((([]) ++ [(b1, .inl (E 3, 8, .inr (.inr (.inr (.inr (va_up (fun _ => none) 0 (some (a1 0))))))))]) ++ (w_sc E a1 0 0 (fun _ _ => 0)))) H _ := hW
  refine lv_iinc (v := 1) (lv' := [(1, .int 1), (0, .ref h_)]) hx hb dX1_init_44 hl (k := 0) rfl (by decide) (by decide) rfl (fun ls hl => ?_)
  refine lv_goto (tgt := 25) hx hb dX1_init_47 (by decide) ?_
  refine lv_iload_n hx hb dX1_init_25 rfl (lv_at hl 0 rfl) ?_
  refine lv_bipush (v := 8) hx hb dX1_init_26 (by decide) ?_
  refine lv_icmp_ge (tgt := 50) hx hb dX1_init_28 (by decide) (fun z => absurd z (by decide)) (fun _ => ?_)
  refine lv_aload_n hx hb dX1_init_31 rfl (lv_at hl 1 rfl) ?_
  refine q_get hF hK hW fl_X1_20 0 rfl rfl dX1_init_32 ?_
  refine lv_iload_n hx hb dX1_init_35 rfl (lv_at hl 0 rfl) ?_
  refine q_newO hF hK hA hW nc_X1_18 iu_X4 (ci := 6) rfl ft_X4 (fs := zf_X4) zo_X4 (Nat.le_of_ble_eq_true rfl) (Nat.le_of_ble_eq_true rfl) dX1_init_36 (fun q3 H hW => ?_)
  refine lv_dup hx hb dX1_init_39 rfl ?_
  refine q_initN hF hl.1 hK hA hZ hW mi_X4 nw_X1_24 (fun _ _ => trivial) fb_true (n_X4 l D E tx q3) ⟨Nat.le_of_ble_eq_true rfl, Nat.le_of_ble_eq_true rfl⟩ ⟨Nat.le_of_ble_eq_true rfl, Nat.le_of_ble_eq_true rfl⟩ (Nat.le_of_ble_eq_true rfl) dX1_init_40 (fun u2 H locs hu hW => ?_)
  obtain ⟨a2, rfl, rfl⟩ := hu
  have hW : WD D A s ((h_, .inr (3, [.int 0, .int 0, .ref b1])) :: (((([]) ++ [(b1, .inl (E 3, 8, .inr (.inr (.inr (.inr (va_up (fun _ => none) 0 (some (a1 0))))))))]) ++ (w_sc E a1 0 0 (fun _ _ => 0))) ++ (w_sc E a2 0 0 (fun _ _ => 0)))) H _ := hW
  refine q_astS hF hK hW 1 3 10 6 rfl rfl rfl rfl (by unfold vp_in; decide) dX1_init_43 (fun H locs hW => ?_)
  have hW : WD D A s ((h_, .inr (3, [.int 0, .int 0, .ref b1])) :: (((([]) ++ [(b1, .inl (E 3, 8, .inr (.inr (.inr (.inr (va_up (va_up (fun _ => none) 0 (some (a1 0))) 1 (some (a2 0))))))))]) ++ (w_sc E a1 0 0 (fun _ _ => 0))) ++ (w_sc E a2 0 0 (fun _ _ => 0)))) H _ := hW
  refine lv_iinc (v := 2) (lv' := [(1, .int 2), (0, .ref h_)]) hx hb dX1_init_44 hl (k := 0) rfl (by decide) (by decide) rfl (fun ls hl => ?_)
  refine lv_goto (tgt := 25) hx hb dX1_init_47 (by decide) ?_
  refine lv_iload_n hx hb dX1_init_25 rfl (lv_at hl 0 rfl) ?_
  refine lv_bipush (v := 8) hx hb dX1_init_26 (by decide) ?_
  refine lv_icmp_ge (tgt := 50) hx hb dX1_init_28 (by decide) (fun z => absurd z (by decide)) (fun _ => ?_)
  refine lv_aload_n hx hb dX1_init_31 rfl (lv_at hl 1 rfl) ?_
  refine q_get hF hK hW fl_X1_20 0 rfl rfl dX1_init_32 ?_
  refine lv_iload_n hx hb dX1_init_35 rfl (lv_at hl 0 rfl) ?_
  refine q_newO hF hK hA hW nc_X1_18 iu_X4 (ci := 6) rfl ft_X4 (fs := zf_X4) zo_X4 (Nat.le_of_ble_eq_true rfl) (Nat.le_of_ble_eq_true rfl) dX1_init_36 (fun q4 H hW => ?_)
  refine lv_dup hx hb dX1_init_39 rfl ?_
  refine q_initN hF hl.1 hK hA hZ hW mi_X4 nw_X1_24 (fun _ _ => trivial) fb_true (n_X4 l D E tx q4) ⟨Nat.le_of_ble_eq_true rfl, Nat.le_of_ble_eq_true rfl⟩ ⟨Nat.le_of_ble_eq_true rfl, Nat.le_of_ble_eq_true rfl⟩ (Nat.le_of_ble_eq_true rfl) dX1_init_40 (fun u3 H locs hu hW => ?_)
  obtain ⟨a3, rfl, rfl⟩ := hu
  have hW : WD D A s ((h_, .inr (3, [.int 0, .int 0, .ref b1])) :: ((((([]) ++ [(b1, .inl (E 3, 8, .inr (.inr (.inr (.inr (va_up (va_up (fun _ => none) 0 (some (a1 0))) 1 (some (a2 0))))))))]) ++ (w_sc E a1 0 0 (fun _ _ => 0))) ++ (w_sc E a2 0 0 (fun _ _ => 0))) ++ (w_sc E a3 0 0 (fun _ _ => 0)))) H _ := hW
  refine q_astS hF hK hW 1 3 18 6 rfl rfl rfl rfl (by unfold vp_in; decide) dX1_init_43 (fun H locs hW => ?_)
  have hW : WD D A s ((h_, .inr (3, [.int 0, .int 0, .ref b1])) :: ((((([]) ++ [(b1, .inl (E 3, 8, .inr (.inr (.inr (.inr (va_up (va_up (va_up (fun _ => none) 0 (some (a1 0))) 1 (some (a2 0))) 2 (some (a3 0))))))))]) ++ (w_sc E a1 0 0 (fun _ _ => 0))) ++ (w_sc E a2 0 0 (fun _ _ => 0))) ++ (w_sc E a3 0 0 (fun _ _ => 0)))) H _ := hW
  refine lv_iinc (v := 3) (lv' := [(1, .int 3), (0, .ref h_)]) hx hb dX1_init_44 hl (k := 0) rfl (by decide) (by decide) rfl (fun ls hl => ?_)
  refine lv_goto (tgt := 25) hx hb dX1_init_47 (by decide) ?_
  refine lv_iload_n hx hb dX1_init_25 rfl (lv_at hl 0 rfl) ?_
  refine lv_bipush (v := 8) hx hb dX1_init_26 (by decide) ?_
  refine lv_icmp_ge (tgt := 50) hx hb dX1_init_28 (by decide) (fun z => absurd z (by decide)) (fun _ => ?_)
  refine lv_aload_n hx hb dX1_init_31 rfl (lv_at hl 1 rfl) ?_
  refine q_get hF hK hW fl_X1_20 0 rfl rfl dX1_init_32 ?_
  refine lv_iload_n hx hb dX1_init_35 rfl (lv_at hl 0 rfl) ?_
  refine q_newO hF hK hA hW nc_X1_18 iu_X4 (ci := 6) rfl ft_X4 (fs := zf_X4) zo_X4 (Nat.le_of_ble_eq_true rfl) (Nat.le_of_ble_eq_true rfl) dX1_init_36 (fun q5 H hW => ?_)
  refine lv_dup hx hb dX1_init_39 rfl ?_
  refine q_initN hF hl.1 hK hA hZ hW mi_X4 nw_X1_24 (fun _ _ => trivial) fb_true (n_X4 l D E tx q5) ⟨Nat.le_of_ble_eq_true rfl, Nat.le_of_ble_eq_true rfl⟩ ⟨Nat.le_of_ble_eq_true rfl, Nat.le_of_ble_eq_true rfl⟩ (Nat.le_of_ble_eq_true rfl) dX1_init_40 (fun u4 H locs hu hW => ?_)
  obtain ⟨a4, rfl, rfl⟩ := hu
  have hW : WD D A s ((h_, .inr (3, [.int 0, .int 0, .ref b1])) :: (((((([]) ++ [(b1, .inl (E 3, 8, .inr (.inr (.inr (.inr (va_up (va_up (va_up (fun _ => none) 0 (some (a1 0))) 1 (some (a2 0))) 2 (some (a3 0))))))))]) ++ (w_sc E a1 0 0 (fun _ _ => 0))) ++ (w_sc E a2 0 0 (fun _ _ => 0))) ++ (w_sc E a3 0 0 (fun _ _ => 0))) ++ (w_sc E a4 0 0 (fun _ _ => 0)))) H _ := hW
  refine q_astS hF hK hW 1 3 26 6 rfl rfl rfl rfl (by unfold vp_in; decide) dX1_init_43 (fun H locs hW => ?_)
  have hW : WD D A s ((h_, .inr (3, [.int 0, .int 0, .ref b1])) :: (((((([]) ++ [(b1, .inl (E 3, 8, .inr (.inr (.inr (.inr (va_up (va_up (va_up (va_up (fun _ => none) 0 (some (a1 0))) 1 (some (a2 0))) 2 (some (a3 0))) 3 (some (a4 0))))))))]) ++ (w_sc E a1 0 0 (fun _ _ => 0))) ++ (w_sc E a2 0 0 (fun _ _ => 0))) ++ (w_sc E a3 0 0 (fun _ _ => 0))) ++ (w_sc E a4 0 0 (fun _ _ => 0)))) H _ := hW
  refine lv_iinc (v := 4) (lv' := [(1, .int 4), (0, .ref h_)]) hx hb dX1_init_44 hl (k := 0) rfl (by decide) (by decide) rfl (fun ls hl => ?_)
  refine lv_goto (tgt := 25) hx hb dX1_init_47 (by decide) ?_
  refine lv_iload_n hx hb dX1_init_25 rfl (lv_at hl 0 rfl) ?_
  refine lv_bipush (v := 8) hx hb dX1_init_26 (by decide) ?_
  refine lv_icmp_ge (tgt := 50) hx hb dX1_init_28 (by decide) (fun z => absurd z (by decide)) (fun _ => ?_)
  refine lv_aload_n hx hb dX1_init_31 rfl (lv_at hl 1 rfl) ?_
  refine q_get hF hK hW fl_X1_20 0 rfl rfl dX1_init_32 ?_
  refine lv_iload_n hx hb dX1_init_35 rfl (lv_at hl 0 rfl) ?_
  refine q_newO hF hK hA hW nc_X1_18 iu_X4 (ci := 6) rfl ft_X4 (fs := zf_X4) zo_X4 (Nat.le_of_ble_eq_true rfl) (Nat.le_of_ble_eq_true rfl) dX1_init_36 (fun q6 H hW => ?_)
  refine lv_dup hx hb dX1_init_39 rfl ?_
  refine q_initN hF hl.1 hK hA hZ hW mi_X4 nw_X1_24 (fun _ _ => trivial) fb_true (n_X4 l D E tx q6) ⟨Nat.le_of_ble_eq_true rfl, Nat.le_of_ble_eq_true rfl⟩ ⟨Nat.le_of_ble_eq_true rfl, Nat.le_of_ble_eq_true rfl⟩ (Nat.le_of_ble_eq_true rfl) dX1_init_40 (fun u5 H locs hu hW => ?_)
  obtain ⟨a5, rfl, rfl⟩ := hu
  have hW : WD D A s ((h_, .inr (3, [.int 0, .int 0, .ref b1])) :: ((((((([]) ++ [(b1, .inl (E 3, 8, .inr (.inr (.inr (.inr (va_up (va_up (va_up (va_up (fun _ => none) 0 (some (a1 0))) 1 (some (a2 0))) 2 (some (a3 0))) 3 (some (a4 0))))))))]) ++ (w_sc E a1 0 0 (fun _ _ => 0))) ++ (w_sc E a2 0 0 (fun _ _ => 0))) ++ (w_sc E a3 0 0 (fun _ _ => 0))) ++ (w_sc E a4 0 0 (fun _ _ => 0))) ++ (w_sc E a5 0 0 (fun _ _ => 0)))) H _ := hW
  refine q_astS hF hK hW 1 3 34 6 rfl rfl rfl rfl (by unfold vp_in; decide) dX1_init_43 (fun H locs hW => ?_)
  have hW : WD D A s ((h_, .inr (3, [.int 0, .int 0, .ref b1])) :: ((((((([]) ++ [(b1, .inl (E 3, 8, .inr (.inr (.inr (.inr (va_up (va_up (va_up (va_up (va_up (fun _ => none) 0 (some (a1 0))) 1 (some (a2 0))) 2 (some (a3 0))) 3 (some (a4 0))) 4 (some (a5 0))))))))]) ++ (w_sc E a1 0 0 (fun _ _ => 0))) ++ (w_sc E a2 0 0 (fun _ _ => 0))) ++ (w_sc E a3 0 0 (fun _ _ => 0))) ++ (w_sc E a4 0 0 (fun _ _ => 0))) ++ (w_sc E a5 0 0 (fun _ _ => 0)))) H _ := hW
  refine lv_iinc (v := 5) (lv' := [(1, .int 5), (0, .ref h_)]) hx hb dX1_init_44 hl (k := 0) rfl (by decide) (by decide) rfl (fun ls hl => ?_)
  refine lv_goto (tgt := 25) hx hb dX1_init_47 (by decide) ?_
  refine lv_iload_n hx hb dX1_init_25 rfl (lv_at hl 0 rfl) ?_
  refine lv_bipush (v := 8) hx hb dX1_init_26 (by decide) ?_
  refine lv_icmp_ge (tgt := 50) hx hb dX1_init_28 (by decide) (fun z => absurd z (by decide)) (fun _ => ?_)
  refine lv_aload_n hx hb dX1_init_31 rfl (lv_at hl 1 rfl) ?_
  refine q_get hF hK hW fl_X1_20 0 rfl rfl dX1_init_32 ?_
  refine lv_iload_n hx hb dX1_init_35 rfl (lv_at hl 0 rfl) ?_
  refine q_newO hF hK hA hW nc_X1_18 iu_X4 (ci := 6) rfl ft_X4 (fs := zf_X4) zo_X4 (Nat.le_of_ble_eq_true rfl) (Nat.le_of_ble_eq_true rfl) dX1_init_36 (fun q7 H hW => ?_)
  refine lv_dup hx hb dX1_init_39 rfl ?_
  refine q_initN hF hl.1 hK hA hZ hW mi_X4 nw_X1_24 (fun _ _ => trivial) fb_true (n_X4 l D E tx q7) ⟨Nat.le_of_ble_eq_true rfl, Nat.le_of_ble_eq_true rfl⟩ ⟨Nat.le_of_ble_eq_true rfl, Nat.le_of_ble_eq_true rfl⟩ (Nat.le_of_ble_eq_true rfl) dX1_init_40 (fun u6 H locs hu hW => ?_)
  obtain ⟨a6, rfl, rfl⟩ := hu
  have hW : WD D A s ((h_, .inr (3, [.int 0, .int 0, .ref b1])) :: (((((((([]) ++ [(b1, .inl (E 3, 8, .inr (.inr (.inr (.inr (va_up (va_up (va_up (va_up (va_up (fun _ => none) 0 (some (a1 0))) 1 (some (a2 0))) 2 (some (a3 0))) 3 (some (a4 0))) 4 (some (a5 0))))))))]) ++ (w_sc E a1 0 0 (fun _ _ => 0))) ++ (w_sc E a2 0 0 (fun _ _ => 0))) ++ (w_sc E a3 0 0 (fun _ _ => 0))) ++ (w_sc E a4 0 0 (fun _ _ => 0))) ++ (w_sc E a5 0 0 (fun _ _ => 0))) ++ (w_sc E a6 0 0 (fun _ _ => 0)))) H _ := hW
  refine q_astS hF hK hW 1 3 42 6 rfl rfl rfl rfl (by unfold vp_in; decide) dX1_init_43 (fun H locs hW => ?_)
  have hW : WD D A s ((h_, .inr (3, [.int 0, .int 0, .ref b1])) :: (((((((([]) ++ [(b1, .inl (E 3, 8, .inr (.inr (.inr (.inr (va_up (va_up (va_up (va_up (va_up (va_up (fun _ => none) 0 (some (a1 0))) 1 (some (a2 0))) 2 (some (a3 0))) 3 (some (a4 0))) 4 (some (a5 0))) 5 (some (a6 0))))))))]) ++ (w_sc E a1 0 0 (fun _ _ => 0))) ++ (w_sc E a2 0 0 (fun _ _ => 0))) ++ (w_sc E a3 0 0 (fun _ _ => 0))) ++ (w_sc E a4 0 0 (fun _ _ => 0))) ++ (w_sc E a5 0 0 (fun _ _ => 0))) ++ (w_sc E a6 0 0 (fun _ _ => 0)))) H _ := hW
  refine lv_iinc (v := 6) (lv' := [(1, .int 6), (0, .ref h_)]) hx hb dX1_init_44 hl (k := 0) rfl (by decide) (by decide) rfl (fun ls hl => ?_)
  refine lv_goto (tgt := 25) hx hb dX1_init_47 (by decide) ?_
  refine lv_iload_n hx hb dX1_init_25 rfl (lv_at hl 0 rfl) ?_
  refine lv_bipush (v := 8) hx hb dX1_init_26 (by decide) ?_
  refine lv_icmp_ge (tgt := 50) hx hb dX1_init_28 (by decide) (fun z => absurd z (by decide)) (fun _ => ?_)
  refine lv_aload_n hx hb dX1_init_31 rfl (lv_at hl 1 rfl) ?_
  refine q_get hF hK hW fl_X1_20 0 rfl rfl dX1_init_32 ?_
  refine lv_iload_n hx hb dX1_init_35 rfl (lv_at hl 0 rfl) ?_
  refine q_newO hF hK hA hW nc_X1_18 iu_X4 (ci := 6) rfl ft_X4 (fs := zf_X4) zo_X4 (Nat.le_of_ble_eq_true rfl) (Nat.le_of_ble_eq_true rfl) dX1_init_36 (fun q8 H hW => ?_)
  refine lv_dup hx hb dX1_init_39 rfl ?_
  refine q_initN hF hl.1 hK hA hZ hW mi_X4 nw_X1_24 (fun _ _ => trivial) fb_true (n_X4 l D E tx q8) ⟨Nat.le_of_ble_eq_true rfl, Nat.le_of_ble_eq_true rfl⟩ ⟨Nat.le_of_ble_eq_true rfl, Nat.le_of_ble_eq_true rfl⟩ (Nat.le_of_ble_eq_true rfl) dX1_init_40 (fun u7 H locs hu hW => ?_)
  obtain ⟨a7, rfl, rfl⟩ := hu
  have hW : WD D A s ((h_, .inr (3, [.int 0, .int 0, .ref b1])) :: ((((((((([]) ++ [(b1, .inl (E 3, 8, .inr (.inr (.inr (.inr (va_up (va_up (va_up (va_up (va_up (va_up (fun _ => none) 0 (some (a1 0))) 1 (some (a2 0))) 2 (some (a3 0))) 3 (some (a4 0))) 4 (some (a5 0))) 5 (some (a6 0))))))))]) ++ (w_sc E a1 0 0 (fun _ _ => 0))) ++ (w_sc E a2 0 0 (fun _ _ => 0))) ++ (w_sc E a3 0 0 (fun _ _ => 0))) ++ (w_sc E a4 0 0 (fun _ _ => 0))) ++ (w_sc E a5 0 0 (fun _ _ => 0))) ++ (w_sc E a6 0 0 (fun _ _ => 0))) ++ (w_sc E a7 0 0 (fun _ _ => 0)))) H _ := hW
  refine q_astS hF hK hW 1 3 50 6 rfl rfl rfl rfl (by unfold vp_in; decide) dX1_init_43 (fun H locs hW => ?_)
  have hW : WD D A s ((h_, .inr (3, [.int 0, .int 0, .ref b1])) :: ((((((((([]) ++ [(b1, .inl (E 3, 8, .inr (.inr (.inr (.inr (va_up (va_up (va_up (va_up (va_up (va_up (va_up (fun _ => none) 0 (some (a1 0))) 1 (some (a2 0))) 2 (some (a3 0))) 3 (some (a4 0))) 4 (some (a5 0))) 5 (some (a6 0))) 6 (some (a7 0))))))))]) ++ (w_sc E a1 0 0 (fun _ _ => 0))) ++ (w_sc E a2 0 0 (fun _ _ => 0))) ++ (w_sc E a3 0 0 (fun _ _ => 0))) ++ (w_sc E a4 0 0 (fun _ _ => 0))) ++ (w_sc E a5 0 0 (fun _ _ => 0))) ++ (w_sc E a6 0 0 (fun _ _ => 0))) ++ (w_sc E a7 0 0 (fun _ _ => 0)))) H _ := hW
  refine lv_iinc (v := 7) (lv' := [(1, .int 7), (0, .ref h_)]) hx hb dX1_init_44 hl (k := 0) rfl (by decide) (by decide) rfl (fun ls hl => ?_)
  refine lv_goto (tgt := 25) hx hb dX1_init_47 (by decide) ?_
  refine lv_iload_n hx hb dX1_init_25 rfl (lv_at hl 0 rfl) ?_
  refine lv_bipush (v := 8) hx hb dX1_init_26 (by decide) ?_
  refine lv_icmp_ge (tgt := 50) hx hb dX1_init_28 (by decide) (fun z => absurd z (by decide)) (fun _ => ?_)
  refine lv_aload_n hx hb dX1_init_31 rfl (lv_at hl 1 rfl) ?_
  refine q_get hF hK hW fl_X1_20 0 rfl rfl dX1_init_32 ?_
  refine lv_iload_n hx hb dX1_init_35 rfl (lv_at hl 0 rfl) ?_
  refine q_newO hF hK hA hW nc_X1_18 iu_X4 (ci := 6) rfl ft_X4 (fs := zf_X4) zo_X4 (Nat.le_of_ble_eq_true rfl) (Nat.le_of_ble_eq_true rfl) dX1_init_36 (fun q9 H hW => ?_)
  refine lv_dup hx hb dX1_init_39 rfl ?_
  refine q_initN hF hl.1 hK hA hZ hW mi_X4 nw_X1_24 (fun _ _ => trivial) fb_true (n_X4 l D E tx q9) ⟨Nat.le_of_ble_eq_true rfl, Nat.le_of_ble_eq_true rfl⟩ ⟨Nat.le_of_ble_eq_true rfl, Nat.le_of_ble_eq_true rfl⟩ (Nat.le_of_ble_eq_true rfl) dX1_init_40 (fun u8 H locs hu hW => ?_)
  obtain ⟨a8, rfl, rfl⟩ := hu
  have hW : WD D A s ((h_, .inr (3, [.int 0, .int 0, .ref b1])) :: (((((((((([]) ++ [(b1, .inl (E 3, 8, .inr (.inr (.inr (.inr (va_up (va_up (va_up (va_up (va_up (va_up (va_up (fun _ => none) 0 (some (a1 0))) 1 (some (a2 0))) 2 (some (a3 0))) 3 (some (a4 0))) 4 (some (a5 0))) 5 (some (a6 0))) 6 (some (a7 0))))))))]) ++ (w_sc E a1 0 0 (fun _ _ => 0))) ++ (w_sc E a2 0 0 (fun _ _ => 0))) ++ (w_sc E a3 0 0 (fun _ _ => 0))) ++ (w_sc E a4 0 0 (fun _ _ => 0))) ++ (w_sc E a5 0 0 (fun _ _ => 0))) ++ (w_sc E a6 0 0 (fun _ _ => 0))) ++ (w_sc E a7 0 0 (fun _ _ => 0))) ++ (w_sc E a8 0 0 (fun _ _ => 0)))) H _ := hW
  refine q_astS hF hK hW 1 3 58 6 rfl rfl rfl rfl (by unfold vp_in; decide) dX1_init_43 (fun H locs hW => ?_)
  have hW : WD D A s ((h_, .inr (3, [.int 0, .int 0, .ref b1])) :: (((((((((([]) ++ [(b1, .inl (E 3, 8, .inr (.inr (.inr (.inr (va_up (va_up (va_up (va_up (va_up (va_up (va_up (va_up (fun _ => none) 0 (some (a1 0))) 1 (some (a2 0))) 2 (some (a3 0))) 3 (some (a4 0))) 4 (some (a5 0))) 5 (some (a6 0))) 6 (some (a7 0))) 7 (some (a8 0))))))))]) ++ (w_sc E a1 0 0 (fun _ _ => 0))) ++ (w_sc E a2 0 0 (fun _ _ => 0))) ++ (w_sc E a3 0 0 (fun _ _ => 0))) ++ (w_sc E a4 0 0 (fun _ _ => 0))) ++ (w_sc E a5 0 0 (fun _ _ => 0))) ++ (w_sc E a6 0 0 (fun _ _ => 0))) ++ (w_sc E a7 0 0 (fun _ _ => 0))) ++ (w_sc E a8 0 0 (fun _ _ => 0)))) H _ := hW
  refine lv_iinc (v := 8) (lv' := [(1, .int 8), (0, .ref h_)]) hx hb dX1_init_44 hl (k := 0) rfl (by decide) (by decide) rfl (fun ls hl => ?_)
  refine lv_goto (tgt := 25) hx hb dX1_init_47 (by decide) ?_
  refine lv_iload_n hx hb dX1_init_25 rfl (lv_at hl 0 rfl) ?_
  refine lv_bipush (v := 8) hx hb dX1_init_26 (by decide) ?_
  refine lv_icmp_ge (tgt := 50) hx hb dX1_init_28 (by decide) (fun _ => ?_) (fun z => absurd (by decide) z)
  have hW := WD_cell hW 1 rfl (y := (8, .inr (.inr (.inr (.inr fun i => some ((fun i : Nat => [a1, a2, a3, a4, a5, a6, a7, a8].getD i (fun _ => 0)) i 0)))))) (cellq 8 _ _ (fun j hj => by rcases (show j = 0 ∨ j = 1 ∨ j = 2 ∨ j = 3 ∨ j = 4 ∨ j = 5 ∨ j = 6 ∨ j = 7 by omega) with rfl | rfl | rfl | rfl | rfl | rfl | rfl | rfl <;> rfl) _)
  have hW : WD D A s (n1_w E (fun i : Nat => [h_, b1].getD i 0) (fun i : Nat => [a1, a2, a3, a4, a5, a6, a7, a8].getD i (fun _ => 0))) H locs := hW
  exact hret dX1_init_50 ⟨(fun i : Nat => [h_, b1].getD i 0), (fun i : Nat => [a1, a2, a3, a4, a5, a6, a7, a8].getD i (fun _ => 0)), rfl, rfl⟩ (Nat.le_of_ble_eq_true rfl) (Nat.le_of_ble_eq_true rfl) hW
def n7_w (E : Nat → ClassId) (a1 a2 a3 a4 a5 a6 a7 a8 a9 : Nat → Nat) (hp : Nat → Nat → Nat) (h_ b10 b11 : Nat) : va_W := (h_, .inr (9, [.ref (a1 0), .ref (a2 0), .ref (a3 0), .ref (a4 0), .ref (a5 0), .ref (a6 0), .ref (a7 0), .ref (a8 0), .ref (a9 0), .ref b10, .ref b11, .int 0, .int (-1)])) :: (((((((((((([]) ++ (w_sc E a1 0 0 (fun _ _ => 0))) ++ (w_sc E a2 0 0 (fun _ _ => 0))) ++ (w_sc E a3 0 0 (fun _ _ => 0))) ++ (n1_w E a4 hp)) ++ (n6_w E a5 )) ++ (n5_w E a6 )) ++ (n3_w E a7 )) ++ (n0_w E a8 )) ++ (n2_w E a9 )) ++ [(b10, .inl (E 0, 4, .inl fun _ => 0))]) ++ [(b11, .inl (E 0, 441, .inl fun _ => 0))])
set_option maxHeartbeats 4000000 in
set_option maxRecDepth 100000 in
theorem n_X7 (l : Launch) (D : va_G) (E : Nat → ClassId) (tx : List (Nat × String)) (h_ : Nat) : NC l yX7_init cX7_init 1 3 61 119 62619 D E tx (va_AO RX4) (h_, .inr (9, zf_X7)) (fun u => ∃ (a1 a2 a3 a4 a5 a6 a7 a8 a9 : Nat → Nat) (hp : Nat → Nat → Nat) (b10 b11 : Nat), u = n7_w E a1 a2 a3 a4 a5 a6 a7 a8 a9 hp h_ b10 b11) := by
  refine NC_of RX7 pn_X7 rfl rfl (Nat.le_of_ble_eq_true rfl) (fun p e s m args below meth c A Q hF hin hK hA hZ hX hW hret ls hl => ?_)
  have hx := hF.1
  have hb := hF.2.1
  have hl : lv_has ls 1 [(0, .ref h_)] := hl
  have hW : WD D A s ((h_, .inr (9, [.null, .null, .null, .null, .null, .null, .null, .null, .null, .null, .null, .int 0, .int 0])) :: []) s.heap [] := hW
  refine lv_aload_n hx hb dX7_init_0 rfl (lv_at hl 0 rfl) ?_
  refine q_obj hF hl.1 ml_X7_3 (Nat.le_of_ble_eq_true rfl) ⟨Nat.le_of_ble_eq_true rfl, Nat.le_of_ble_eq_true rfl⟩ dX7_init_1 ?_
  refine lv_aload_n hx hb dX7_init_4 rfl (lv_at hl 0 rfl) ?_
  refine q_newO hF hK hA hW nc_X7_9 iu_X4 (ci := 6) rfl ft_X4 (fs := zf_X4) zo_X4 (Nat.le_of_ble_eq_true rfl) (Nat.le_of_ble_eq_true rfl) dX7_init_5 (fun q1 H hW => ?_)
  refine lv_dup hx hb dX7_init_8 rfl ?_
  refine q_initN hF hl.1 hK hA hZ hW mi_X4 nw_X7_11 (fun _ _ => trivial) fb_true (n_X4 l D E tx q1) ⟨Nat.le_of_ble_eq_true rfl, Nat.le_of_ble_eq_true rfl⟩ ⟨Nat.le_of_ble_eq_true rfl, Nat.le_of_ble_eq_true rfl⟩ (Nat.le_of_ble_eq_true rfl) dX7_init_9 (fun u1 H locs hu hW => ?_)
  obtain ⟨a1, rfl, rfl⟩ := hu
  have hW : WD D A s ((h_, .inr (9, [.null, .null, .null, .null, .null, .null, .null, .null, .null, .null, .null, .int 0, .int 0])) :: (([]) ++ (w_sc E a1 0 0 (fun _ _ => 0)))) H _ := hW
  refine q_putF hF hin hK hW fl_X7_12 ft_X7 rfl rfl 0 rfl rfl rfl (Nat.le_of_ble_eq_true rfl) dX7_init_12 (fun H locs hW => ?_)
  have hW : WD D A s ((h_, .inr (9, [.ref (a1 0), .null, .null, .null, .null, .null, .null, .null, .null, .null, .null, .int 0, .int 0])) :: (([]) ++ (w_sc E a1 0 0 (fun _ _ => 0)))) H _ := hW
  refine lv_aload_n hx hb dX7_init_15 rfl (lv_at hl 0 rfl) ?_
  refine q_newO hF hK hA hW nc_X7_9 iu_X4 (ci := 6) rfl ft_X4 (fs := zf_X4) zo_X4 (Nat.le_of_ble_eq_true rfl) (Nat.le_of_ble_eq_true rfl) dX7_init_16 (fun q2 H hW => ?_)
  refine lv_dup hx hb dX7_init_19 rfl ?_
  refine q_initN hF hl.1 hK hA hZ hW mi_X4 nw_X7_11 (fun _ _ => trivial) fb_true (n_X4 l D E tx q2) ⟨Nat.le_of_ble_eq_true rfl, Nat.le_of_ble_eq_true rfl⟩ ⟨Nat.le_of_ble_eq_true rfl, Nat.le_of_ble_eq_true rfl⟩ (Nat.le_of_ble_eq_true rfl) dX7_init_20 (fun u2 H locs hu hW => ?_)
  obtain ⟨a2, rfl, rfl⟩ := hu
  have hW : WD D A s ((h_, .inr (9, [.ref (a1 0), .null, .null, .null, .null, .null, .null, .null, .null, .null, .null, .int 0, .int 0])) :: ((([]) ++ (w_sc E a1 0 0 (fun _ _ => 0))) ++ (w_sc E a2 0 0 (fun _ _ => 0)))) H _ := hW
  refine q_putF hF hin hK hW fl_X7_16 ft_X7 rfl rfl 0 rfl rfl rfl (Nat.le_of_ble_eq_true rfl) dX7_init_23 (fun H locs hW => ?_)
  have hW : WD D A s ((h_, .inr (9, [.ref (a1 0), .ref (a2 0), .null, .null, .null, .null, .null, .null, .null, .null, .null, .int 0, .int 0])) :: ((([]) ++ (w_sc E a1 0 0 (fun _ _ => 0))) ++ (w_sc E a2 0 0 (fun _ _ => 0)))) H _ := hW
  refine lv_aload_n hx hb dX7_init_26 rfl (lv_at hl 0 rfl) ?_
  refine q_newO hF hK hA hW nc_X7_9 iu_X4 (ci := 6) rfl ft_X4 (fs := zf_X4) zo_X4 (Nat.le_of_ble_eq_true rfl) (Nat.le_of_ble_eq_true rfl) dX7_init_27 (fun q3 H hW => ?_)
  refine lv_dup hx hb dX7_init_30 rfl ?_
  refine q_initN hF hl.1 hK hA hZ hW mi_X4 nw_X7_11 (fun _ _ => trivial) fb_true (n_X4 l D E tx q3) ⟨Nat.le_of_ble_eq_true rfl, Nat.le_of_ble_eq_true rfl⟩ ⟨Nat.le_of_ble_eq_true rfl, Nat.le_of_ble_eq_true rfl⟩ (Nat.le_of_ble_eq_true rfl) dX7_init_31 (fun u3 H locs hu hW => ?_)
  obtain ⟨a3, rfl, rfl⟩ := hu
  have hW : WD D A s ((h_, .inr (9, [.ref (a1 0), .ref (a2 0), .null, .null, .null, .null, .null, .null, .null, .null, .null, .int 0, .int 0])) :: (((([]) ++ (w_sc E a1 0 0 (fun _ _ => 0))) ++ (w_sc E a2 0 0 (fun _ _ => 0))) ++ (w_sc E a3 0 0 (fun _ _ => 0)))) H _ := hW
  refine q_putF hF hin hK hW fl_X7_19 ft_X7 rfl rfl 0 rfl rfl rfl (Nat.le_of_ble_eq_true rfl) dX7_init_34 (fun H locs hW => ?_)
  have hW : WD D A s ((h_, .inr (9, [.ref (a1 0), .ref (a2 0), .ref (a3 0), .null, .null, .null, .null, .null, .null, .null, .null, .int 0, .int 0])) :: (((([]) ++ (w_sc E a1 0 0 (fun _ _ => 0))) ++ (w_sc E a2 0 0 (fun _ _ => 0))) ++ (w_sc E a3 0 0 (fun _ _ => 0)))) H _ := hW
  refine lv_aload_n hx hb dX7_init_37 rfl (lv_at hl 0 rfl) ?_
  refine q_newO hF hK hA hW nc_X7_22 iu_X1 (ci := 3) rfl ft_X1 (fs := zf_X1) zo_X1 (Nat.le_of_ble_eq_true rfl) (Nat.le_of_ble_eq_true rfl) dX7_init_38 (fun q4 H hW => ?_)
  refine lv_dup hx hb dX7_init_41 rfl ?_
  refine q_initP hF hl.1 hK hA hZ hW mi_X1 ml_X7_24 (fun _ h => hX.moved h.alike) fb_ao (n_X1 l D E tx q4) ⟨Nat.le_of_ble_eq_true rfl, Nat.le_of_ble_eq_true rfl⟩ ⟨Nat.le_of_ble_eq_true rfl, Nat.le_of_ble_eq_true rfl⟩ (Nat.le_of_ble_eq_true rfl) dX7_init_42 (fun u4 H locs hu hW => ?_)
  obtain ⟨a4, hp, rfl, rfl⟩ := hu
  have hW : WD D A s ((h_, .inr (9, [.ref (a1 0), .ref (a2 0), .ref (a3 0), .null, .null, .null, .null, .null, .null, .null, .null, .int 0, .int 0])) :: ((((([]) ++ (w_sc E a1 0 0 (fun _ _ => 0))) ++ (w_sc E a2 0 0 (fun _ _ => 0))) ++ (w_sc E a3 0 0 (fun _ _ => 0))) ++ (n1_w E a4 hp))) H _ := hW
  refine q_putF hF hin hK hW fl_X7_25 ft_X7 rfl rfl 0 rfl rfl rfl (Nat.le_of_ble_eq_true rfl) dX7_init_45 (fun H locs hW => ?_)
  have hW : WD D A s ((h_, .inr (9, [.ref (a1 0), .ref (a2 0), .ref (a3 0), .ref (a4 0), .null, .null, .null, .null, .null, .null, .null, .int 0, .int 0])) :: ((((([]) ++ (w_sc E a1 0 0 (fun _ _ => 0))) ++ (w_sc E a2 0 0 (fun _ _ => 0))) ++ (w_sc E a3 0 0 (fun _ _ => 0))) ++ (n1_w E a4 hp))) H _ := hW
  refine lv_aload_n hx hb dX7_init_48 rfl (lv_at hl 0 rfl) ?_
  refine q_newO hF hK hA hW nc_X7_29 iu_X6 (ci := 8) rfl ft_X6 (fs := zf_X6) zo_X6 (Nat.le_of_ble_eq_true rfl) (Nat.le_of_ble_eq_true rfl) dX7_init_49 (fun q5 H hW => ?_)
  refine lv_dup hx hb dX7_init_52 rfl ?_
  refine q_initN hF hl.1 hK hA hZ hW mi_X6 nw_X7_31 (fun _ _ => trivial) fb_true (n_X6 l D E tx q5) ⟨Nat.le_of_ble_eq_true rfl, Nat.le_of_ble_eq_true rfl⟩ ⟨Nat.le_of_ble_eq_true rfl, Nat.le_of_ble_eq_true rfl⟩ (Nat.le_of_ble_eq_true rfl) dX7_init_53 (fun u5 H locs hu hW => ?_)
  obtain ⟨a5, rfl, rfl⟩ := hu
  have hW : WD D A s ((h_, .inr (9, [.ref (a1 0), .ref (a2 0), .ref (a3 0), .ref (a4 0), .null, .null, .null, .null, .null, .null, .null, .int 0, .int 0])) :: (((((([]) ++ (w_sc E a1 0 0 (fun _ _ => 0))) ++ (w_sc E a2 0 0 (fun _ _ => 0))) ++ (w_sc E a3 0 0 (fun _ _ => 0))) ++ (n1_w E a4 hp)) ++ (n6_w E a5 ))) H _ := hW
  refine q_putF hF hin hK hW fl_X7_32 ft_X7 rfl rfl 0 rfl rfl rfl (Nat.le_of_ble_eq_true rfl) dX7_init_56 (fun H locs hW => ?_)
  have hW : WD D A s ((h_, .inr (9, [.ref (a1 0), .ref (a2 0), .ref (a3 0), .ref (a4 0), .ref (a5 0), .null, .null, .null, .null, .null, .null, .int 0, .int 0])) :: (((((([]) ++ (w_sc E a1 0 0 (fun _ _ => 0))) ++ (w_sc E a2 0 0 (fun _ _ => 0))) ++ (w_sc E a3 0 0 (fun _ _ => 0))) ++ (n1_w E a4 hp)) ++ (n6_w E a5 ))) H _ := hW
  refine lv_aload_n hx hb dX7_init_59 rfl (lv_at hl 0 rfl) ?_
  refine q_newO hF hK hA hW nc_X7_36 iu_X5 (ci := 7) rfl ft_X5 (fs := zf_X5) zo_X5 (Nat.le_of_ble_eq_true rfl) (Nat.le_of_ble_eq_true rfl) dX7_init_60 (fun q6 H hW => ?_)
  refine lv_dup hx hb dX7_init_63 rfl ?_
  refine q_initN hF hl.1 hK hA hZ hW mi_X5 nw_X7_38 (fun _ _ => trivial) fb_true (n_X5 l D E tx q6) ⟨Nat.le_of_ble_eq_true rfl, Nat.le_of_ble_eq_true rfl⟩ ⟨Nat.le_of_ble_eq_true rfl, Nat.le_of_ble_eq_true rfl⟩ (Nat.le_of_ble_eq_true rfl) dX7_init_64 (fun u6 H locs hu hW => ?_)
  obtain ⟨a6, rfl, rfl⟩ := hu
  have hW : WD D A s ((h_, .inr (9, [.ref (a1 0), .ref (a2 0), .ref (a3 0), .ref (a4 0), .ref (a5 0), .null, .null, .null, .null, .null, .null, .int 0, .int 0])) :: ((((((([]) ++ (w_sc E a1 0 0 (fun _ _ => 0))) ++ (w_sc E a2 0 0 (fun _ _ => 0))) ++ (w_sc E a3 0 0 (fun _ _ => 0))) ++ (n1_w E a4 hp)) ++ (n6_w E a5 )) ++ (n5_w E a6 ))) H _ := hW
  refine q_putF hF hin hK hW fl_X7_39 ft_X7 rfl rfl 0 rfl rfl rfl (Nat.le_of_ble_eq_true rfl) dX7_init_67 (fun H locs hW => ?_)
  have hW : WD D A s ((h_, .inr (9, [.ref (a1 0), .ref (a2 0), .ref (a3 0), .ref (a4 0), .ref (a5 0), .ref (a6 0), .null, .null, .null, .null, .null, .int 0, .int 0])) :: ((((((([]) ++ (w_sc E a1 0 0 (fun _ _ => 0))) ++ (w_sc E a2 0 0 (fun _ _ => 0))) ++ (w_sc E a3 0 0 (fun _ _ => 0))) ++ (n1_w E a4 hp)) ++ (n6_w E a5 )) ++ (n5_w E a6 ))) H _ := hW
  refine lv_aload_n hx hb dX7_init_70 rfl (lv_at hl 0 rfl) ?_
  refine q_newO hF hK hA hW nc_X7_43 iu_X3 (ci := 5) rfl ft_X3 (fs := zf_X3) zo_X3 (Nat.le_of_ble_eq_true rfl) (Nat.le_of_ble_eq_true rfl) dX7_init_71 (fun q7 H hW => ?_)
  refine lv_dup hx hb dX7_init_74 rfl ?_
  refine q_initN hF hl.1 hK hA hZ hW mi_X3 nw_X7_45 (fun _ _ => trivial) fb_true (n_X3 l D E tx q7) ⟨Nat.le_of_ble_eq_true rfl, Nat.le_of_ble_eq_true rfl⟩ ⟨Nat.le_of_ble_eq_true rfl, Nat.le_of_ble_eq_true rfl⟩ (Nat.le_of_ble_eq_true rfl) dX7_init_75 (fun u7 H locs hu hW => ?_)
  obtain ⟨a7, rfl, rfl⟩ := hu
  have hW : WD D A s ((h_, .inr (9, [.ref (a1 0), .ref (a2 0), .ref (a3 0), .ref (a4 0), .ref (a5 0), .ref (a6 0), .null, .null, .null, .null, .null, .int 0, .int 0])) :: (((((((([]) ++ (w_sc E a1 0 0 (fun _ _ => 0))) ++ (w_sc E a2 0 0 (fun _ _ => 0))) ++ (w_sc E a3 0 0 (fun _ _ => 0))) ++ (n1_w E a4 hp)) ++ (n6_w E a5 )) ++ (n5_w E a6 )) ++ (n3_w E a7 ))) H _ := hW
  refine q_putF hF hin hK hW fl_X7_46 ft_X7 rfl rfl 0 rfl rfl rfl (Nat.le_of_ble_eq_true rfl) dX7_init_78 (fun H locs hW => ?_)
  have hW : WD D A s ((h_, .inr (9, [.ref (a1 0), .ref (a2 0), .ref (a3 0), .ref (a4 0), .ref (a5 0), .ref (a6 0), .ref (a7 0), .null, .null, .null, .null, .int 0, .int 0])) :: (((((((([]) ++ (w_sc E a1 0 0 (fun _ _ => 0))) ++ (w_sc E a2 0 0 (fun _ _ => 0))) ++ (w_sc E a3 0 0 (fun _ _ => 0))) ++ (n1_w E a4 hp)) ++ (n6_w E a5 )) ++ (n5_w E a6 )) ++ (n3_w E a7 ))) H _ := hW
  refine lv_aload_n hx hb dX7_init_81 rfl (lv_at hl 0 rfl) ?_
  refine q_newO hF hK hA hW nc_X7_50 iu_X0 (ci := 2) rfl ft_X0 (fs := zf_X0) zo_X0 (Nat.le_of_ble_eq_true rfl) (Nat.le_of_ble_eq_true rfl) dX7_init_82 (fun q8 H hW => ?_)
  refine lv_dup hx hb dX7_init_85 rfl ?_
  refine q_initN hF hl.1 hK hA hZ hW mi_X0 nw_X7_52 (fun _ _ => trivial) fb_true (n_X0 l D E tx q8) ⟨Nat.le_of_ble_eq_true rfl, Nat.le_of_ble_eq_true rfl⟩ ⟨Nat.le_of_ble_eq_true rfl, Nat.le_of_ble_eq_true rfl⟩ (Nat.le_of_ble_eq_true rfl) dX7_init_86 (fun u8 H locs hu hW => ?_)
  obtain ⟨a8, rfl, rfl⟩ := hu
  have hW : WD D A s ((h_, .inr (9, [.ref (a1 0), .ref (a2 0), .ref (a3 0), .ref (a4 0), .ref (a5 0), .ref (a6 0), .ref (a7 0), .null, .null, .null, .null, .int 0, .int 0])) :: ((((((((([]) ++ (w_sc E a1 0 0 (fun _ _ => 0))) ++ (w_sc E a2 0 0 (fun _ _ => 0))) ++ (w_sc E a3 0 0 (fun _ _ => 0))) ++ (n1_w E a4 hp)) ++ (n6_w E a5 )) ++ (n5_w E a6 )) ++ (n3_w E a7 )) ++ (n0_w E a8 ))) H _ := hW
  refine q_putF hF hin hK hW fl_X7_53 ft_X7 rfl rfl 0 rfl rfl rfl (Nat.le_of_ble_eq_true rfl) dX7_init_89 (fun H locs hW => ?_)
  have hW : WD D A s ((h_, .inr (9, [.ref (a1 0), .ref (a2 0), .ref (a3 0), .ref (a4 0), .ref (a5 0), .ref (a6 0), .ref (a7 0), .ref (a8 0), .null, .null, .null, .int 0, .int 0])) :: ((((((((([]) ++ (w_sc E a1 0 0 (fun _ _ => 0))) ++ (w_sc E a2 0 0 (fun _ _ => 0))) ++ (w_sc E a3 0 0 (fun _ _ => 0))) ++ (n1_w E a4 hp)) ++ (n6_w E a5 )) ++ (n5_w E a6 )) ++ (n3_w E a7 )) ++ (n0_w E a8 ))) H _ := hW
  refine lv_aload_n hx hb dX7_init_92 rfl (lv_at hl 0 rfl) ?_
  refine q_newO hF hK hA hW nc_X7_57 iu_X2 (ci := 4) rfl ft_X2 (fs := zf_X2) zo_X2 (Nat.le_of_ble_eq_true rfl) (Nat.le_of_ble_eq_true rfl) dX7_init_93 (fun q9 H hW => ?_)
  refine lv_dup hx hb dX7_init_96 rfl ?_
  refine q_initN hF hl.1 hK hA hZ hW mi_X2 nw_X7_59 (fun _ _ => trivial) fb_true (n_X2 l D E tx q9) ⟨Nat.le_of_ble_eq_true rfl, Nat.le_of_ble_eq_true rfl⟩ ⟨Nat.le_of_ble_eq_true rfl, Nat.le_of_ble_eq_true rfl⟩ (Nat.le_of_ble_eq_true rfl) dX7_init_97 (fun u9 H locs hu hW => ?_)
  obtain ⟨a9, rfl, rfl⟩ := hu
  have hW : WD D A s ((h_, .inr (9, [.ref (a1 0), .ref (a2 0), .ref (a3 0), .ref (a4 0), .ref (a5 0), .ref (a6 0), .ref (a7 0), .ref (a8 0), .null, .null, .null, .int 0, .int 0])) :: (((((((((([]) ++ (w_sc E a1 0 0 (fun _ _ => 0))) ++ (w_sc E a2 0 0 (fun _ _ => 0))) ++ (w_sc E a3 0 0 (fun _ _ => 0))) ++ (n1_w E a4 hp)) ++ (n6_w E a5 )) ++ (n5_w E a6 )) ++ (n3_w E a7 )) ++ (n0_w E a8 )) ++ (n2_w E a9 ))) H _ := hW
  refine q_putF hF hin hK hW fl_X7_60 ft_X7 rfl rfl 0 rfl rfl rfl (Nat.le_of_ble_eq_true rfl) dX7_init_100 (fun H locs hW => ?_)
  have hW : WD D A s ((h_, .inr (9, [.ref (a1 0), .ref (a2 0), .ref (a3 0), .ref (a4 0), .ref (a5 0), .ref (a6 0), .ref (a7 0), .ref (a8 0), .ref (a9 0), .null, .null, .int 0, .int 0])) :: (((((((((([]) ++ (w_sc E a1 0 0 (fun _ _ => 0))) ++ (w_sc E a2 0 0 (fun _ _ => 0))) ++ (w_sc E a3 0 0 (fun _ _ => 0))) ++ (n1_w E a4 hp)) ++ (n6_w E a5 )) ++ (n5_w E a6 )) ++ (n3_w E a7 )) ++ (n0_w E a8 )) ++ (n2_w E a9 ))) H _ := hW
  refine lv_aload_n hx hb dX7_init_103 rfl (lv_at hl 0 rfl) ?_
  refine lv_iconst (v := 4) hx hb dX7_init_104 (by decide) ?_
  refine q_newA hF hK hA hW ac_int rfl 0 rfl (fun _ => rfl) (N' := 4) (a0 := (4, .inl fun _ => 0)) (fun _ => rfl) (by decide) (by decide) (Nat.le_of_ble_eq_true rfl) (Nat.le_of_ble_eq_true rfl) (Nat.le_of_ble_eq_true rfl) dX7_init_105 (fun b10 H hW => ?_)
  have hW : WD D A s ((h_, .inr (9, [.ref (a1 0), .ref (a2 0), .ref (a3 0), .ref (a4 0), .ref (a5 0), .ref (a6 0), .ref (a7 0), .ref (a8 0), .ref (a9 0), .null, .null, .int 0, .int 0])) :: ((((((((((([]) ++ (w_sc E a1 0 0 (fun _ _ => 0))) ++ (w_sc E a2 0 0 (fun _ _ => 0))) ++ (w_sc E a3 0 0 (fun _ _ => 0))) ++ (n1_w E a4 hp)) ++ (n6_w E a5 )) ++ (n5_w E a6 )) ++ (n3_w E a7 )) ++ (n0_w E a8 )) ++ (n2_w E a9 )) ++ [(b10, .inl (E 0, 4, .inl fun _ => 0))])) H _ := hW
  refine q_putF hF hin hK hW fl_X7_64 ft_X7 rfl rfl 0 rfl rfl rfl (Nat.le_of_ble_eq_true rfl) dX7_init_107 (fun H locs hW => ?_)
  have hW : WD D A s ((h_, .inr (9, [.ref (a1 0), .ref (a2 0), .ref (a3 0), .ref (a4 0), .ref (a5 0), .ref (a6 0), .ref (a7 0), .ref (a8 0), .ref (a9 0), .ref b10, .null, .int 0, .int 0])) :: ((((((((((([]) ++ (w_sc E a1 0 0 (fun _ _ => 0))) ++ (w_sc E a2 0 0 (fun _ _ => 0))) ++ (w_sc E a3 0 0 (fun _ _ => 0))) ++ (n1_w E a4 hp)) ++ (n6_w E a5 )) ++ (n5_w E a6 )) ++ (n3_w E a7 )) ++ (n0_w E a8 )) ++ (n2_w E a9 )) ++ [(b10, .inl (E 0, 4, .inl fun _ => 0))])) H _ := hW
  refine lv_aload_n hx hb dX7_init_110 rfl (lv_at hl 0 rfl) ?_
  refine lv_sipush (v := 441) hx hb dX7_init_111 (by decide) ?_
  refine q_newA hF hK hA hW ac_int rfl 0 rfl (fun _ => rfl) (N' := 441) (a0 := (441, .inl fun _ => 0)) (fun _ => rfl) (by decide) (by decide) (Nat.le_of_ble_eq_true rfl) (Nat.le_of_ble_eq_true rfl) (Nat.le_of_ble_eq_true rfl) dX7_init_114 (fun b11 H hW => ?_)
  have hW : WD D A s ((h_, .inr (9, [.ref (a1 0), .ref (a2 0), .ref (a3 0), .ref (a4 0), .ref (a5 0), .ref (a6 0), .ref (a7 0), .ref (a8 0), .ref (a9 0), .ref b10, .null, .int 0, .int 0])) :: (((((((((((([]) ++ (w_sc E a1 0 0 (fun _ _ => 0))) ++ (w_sc E a2 0 0 (fun _ _ => 0))) ++ (w_sc E a3 0 0 (fun _ _ => 0))) ++ (n1_w E a4 hp)) ++ (n6_w E a5 )) ++ (n5_w E a6 )) ++ (n3_w E a7 )) ++ (n0_w E a8 )) ++ (n2_w E a9 )) ++ [(b10, .inl (E 0, 4, .inl fun _ => 0))]) ++ [(b11, .inl (E 0, 441, .inl fun _ => 0))])) H _ := hW
  refine q_putF hF hin hK hW fl_X7_68 ft_X7 rfl rfl 0 rfl rfl rfl (Nat.le_of_ble_eq_true rfl) dX7_init_116 (fun H locs hW => ?_)
  have hW : WD D A s ((h_, .inr (9, [.ref (a1 0), .ref (a2 0), .ref (a3 0), .ref (a4 0), .ref (a5 0), .ref (a6 0), .ref (a7 0), .ref (a8 0), .ref (a9 0), .ref b10, .ref b11, .int 0, .int 0])) :: (((((((((((([]) ++ (w_sc E a1 0 0 (fun _ _ => 0))) ++ (w_sc E a2 0 0 (fun _ _ => 0))) ++ (w_sc E a3 0 0 (fun _ _ => 0))) ++ (n1_w E a4 hp)) ++ (n6_w E a5 )) ++ (n5_w E a6 )) ++ (n3_w E a7 )) ++ (n0_w E a8 )) ++ (n2_w E a9 )) ++ [(b10, .inl (E 0, 4, .inl fun _ => 0))]) ++ [(b11, .inl (E 0, 441, .inl fun _ => 0))])) H _ := hW
  refine lv_aload_n hx hb dX7_init_119 rfl (lv_at hl 0 rfl) ?_
  refine lv_iconst (v := 0) hx hb dX7_init_120 (by decide) ?_
  refine q_put hF hK hW fl_X7_71 ft_X7 rfl 0 rfl rfl rfl (Nat.le_of_ble_eq_true rfl) dX7_init_121 (fun H locs hW => ?_)
  have hW : WD D A s ((h_, .inr (9, [.ref (a1 0), .ref (a2 0), .ref (a3 0), .ref (a4 0), .ref (a5 0), .ref (a6 0), .ref (a7 0), .ref (a8 0), .ref (a9 0), .ref b10, .ref b11, .int 0, .int 0])) :: (((((((((((([]) ++ (w_sc E a1 0 0 (fun _ _ => 0))) ++ (w_sc E a2 0 0 (fun _ _ => 0))) ++ (w_sc E a3 0 0 (fun _ _ => 0))) ++ (n1_w E a4 hp)) ++ (n6_w E a5 )) ++ (n5_w E a6 )) ++ (n3_w E a7 )) ++ (n0_w E a8 )) ++ (n2_w E a9 )) ++ [(b10, .inl (E 0, 4, .inl fun _ => 0))]) ++ [(b11, .inl (E 0, 441, .inl fun _ => 0))])) H _ := hW
  refine lv_aload_n hx hb dX7_init_124 rfl (lv_at hl 0 rfl) ?_
  refine lv_iconst (v := -1) hx hb dX7_init_125 (by decide) ?_
  refine q_put hF hK hW fl_X7_75 ft_X7 rfl 0 rfl rfl rfl (Nat.le_of_ble_eq_true rfl) dX7_init_126 (fun H locs hW => ?_)
  have hW : WD D A s ((h_, .inr (9, [.ref (a1 0), .ref (a2 0), .ref (a3 0), .ref (a4 0), .ref (a5 0), .ref (a6 0), .ref (a7 0), .ref (a8 0), .ref (a9 0), .ref b10, .ref b11, .int 0, .int (-1)])) :: (((((((((((([]) ++ (w_sc E a1 0 0 (fun _ _ => 0))) ++ (w_sc E a2 0 0 (fun _ _ => 0))) ++ (w_sc E a3 0 0 (fun _ _ => 0))) ++ (n1_w E a4 hp)) ++ (n6_w E a5 )) ++ (n5_w E a6 )) ++ (n3_w E a7 )) ++ (n0_w E a8 )) ++ (n2_w E a9 )) ++ [(b10, .inl (E 0, 4, .inl fun _ => 0))]) ++ [(b11, .inl (E 0, 441, .inl fun _ => 0))])) H _ := hW
  exact hret dX7_init_129 ⟨a1, a2, a3, a4, a5, a6, a7, a8, a9, hp, b10, b11, rfl⟩ (Nat.le_of_ble_eq_true rfl) (Nat.le_of_ble_eq_true rfl) hW
def nf_1 : Nat → Int32 := upd (fun _ => 0) 0 (-1)
def nf_2 : Nat → Int32 := upd nf_1 1 (-1)
def nf_3 : Nat → Int32 := upd nf_2 2 (-1)
def nf_4 : Nat → Int32 := upd nf_3 3 (-1)
def nf_5 : Nat → Int32 := upd nf_4 4 (-1)
def nf_6 : Nat → Int32 := upd nf_5 5 (-1)
def nf_7 : Nat → Int32 := upd nf_6 6 (-1)
def nf_8 : Nat → Int32 := upd nf_7 7 (-1)
def nf_9 : Nat → Int32 := upd nf_8 8 (-1)
def nf_10 : Nat → Int32 := upd nf_9 9 (-1)
def nf_11 : Nat → Int32 := upd nf_10 10 (-1)
def nf_12 : Nat → Int32 := upd nf_11 11 (-1)
def nf_13 : Nat → Int32 := upd nf_12 12 (-1)
def nf_14 : Nat → Int32 := upd nf_13 13 (-1)
def nf_15 : Nat → Int32 := upd nf_14 14 (-1)
def nf_16 : Nat → Int32 := upd nf_15 15 (-1)
def nf_17 : Nat → Int32 := upd nf_16 16 (-1)
def nf_18 : Nat → Int32 := upd nf_17 17 (-1)
def nf_19 : Nat → Int32 := upd nf_18 18 (-1)
def nf_20 : Nat → Int32 := upd nf_19 19 (-1)
def nf_21 : Nat → Int32 := upd nf_20 20 (-1)
def nf_22 : Nat → Int32 := upd nf_21 21 (-1)
def nf_23 : Nat → Int32 := upd nf_22 22 (-1)
def nf_24 : Nat → Int32 := upd nf_23 23 (-1)
def nf_25 : Nat → Int32 := upd nf_24 24 (-1)
def nf_26 : Nat → Int32 := upd nf_25 25 (-1)
theorem nf_ok : ∀ j, j < 26 → nf_26 j = (fun _ => -1 : Nat → Int32) j := fun j hj => by rcases (show j = 0 ∨ j = 1 ∨ j = 2 ∨ j = 3 ∨ j = 4 ∨ j = 5 ∨ j = 6 ∨ j = 7 ∨ j = 8 ∨ j = 9 ∨ j = 10 ∨ j = 11 ∨ j = 12 ∨ j = 13 ∨ j = 14 ∨ j = 15 ∨ j = 16 ∨ j = 17 ∨ j = 18 ∨ j = 19 ∨ j = 20 ∨ j = 21 ∨ j = 22 ∨ j = 23 ∨ j = 24 ∨ j = 25 by omega) with rfl | rfl | rfl | rfl | rfl | rfl | rfl | rfl | rfl | rfl | rfl | rfl | rfl | rfl | rfl | rfl | rfl | rfl | rfl | rfl | rfl | rfl | rfl | rfl | rfl | rfl <;> rfl
def n8_w (E : Nat → ClassId) (a : Nat → Nat) : va_W := ((a 0), .inr (10, [.ref (a 1), .ref (a 2), .int 0, .ref (a 3), .int 0, .ref (a 4), .int (-1), .int 0, .int 0, .ref (a 5), .ref (a 6), .ref (a 7), .ref (a 8), .int 0, .ref (a 9), .ref (a 10), .ref (a 11), .ref (a 12), .int 0, .ref (a 13), .ref (a 14), .ref (a 15), .ref (a 16), .ref (a 17), .int 0, .int 0, .int (-1), .ref (a 18), .int 0, .int 0, .ref (a 19)])) :: ([((a 1), .inl (E 0, 141, .inl fun _ => 0)), ((a 2), .inl (E 0, 141, .inl fun _ => 0)), ((a 3), .inl (E 0, 1128, .inl fun _ => 0)), ((a 4), .inl (E 0, 5000, .inl fun _ => 0)), ((a 5), .inl (E 0, 4, .inl fun _ => 0)), ((a 6), .inl (E 0, 4, .inl fun _ => 0)), ((a 7), .inl (E 0, 5, .inl fun _ => 0)), ((a 8), .inl (E 0, 5, .inl fun _ => 0)), ((a 9), .inl (E 1, 5000, .inl fun _ => 0)), ((a 10), .inl (E 0, 5000, .inl fun _ => 0)), ((a 11), .inl (E 0, 5000, .inl fun _ => 0)), ((a 12), .inl (E 0, 5000, .inl fun _ => 0)), ((a 13), .inl (E 0, 441, .inl fun _ => 0)), ((a 14), .inl (E 0, 45000, .inl fun _ => 0)), ((a 15), .inl (E 0, 26, .inl fun _ => -1)), ((a 16), .inl (E 0, 104, .inl fun _ => 0)), ((a 17), .inl (E 0, 60, .inl fun _ => 0)), ((a 18), .inl (E 0, 60, .inl fun _ => 0)), ((a 19), .inl (E 0, 141, .inl fun _ => 0))])
set_option maxHeartbeats 4000000 in
set_option maxRecDepth 100000 in
theorem n_X8 (l : Launch) (D : va_G) (E : Nat → ClassId) (tx : List (Nat × String)) (h_ : Nat) : NC l yX8_init cX8_init 1 1 20 19 72260 D E tx (fun _ => True) (h_, .inr (10, zf_X8)) (fun u => ∃ a : Nat → Nat, a 0 = h_ ∧ u = n8_w E a) := by
  refine NC_of RX8 pn_X8 rfl rfl (Nat.le_of_ble_eq_true rfl) (fun p e s m args below meth c A Q hF hin hK hA hZ hX hW hret ls hl => ?_)
  have hx := hF.1
  have hb := hF.2.1
  have hl : lv_has ls 1 [(0, .ref h_)] := hl
  have hW : WD D A s ((h_, .inr (10, [.null, .null, .int 0, .null, .int 0, .null, .int 0, .int 0, .int 0, .null, .null, .null, .null, .int 0, .null, .null, .null, .null, .int 0, .null, .null, .null, .null, .null, .int 0, .int 0, .int 0, .null, .int 0, .int 0, .null])) :: []) s.heap [] := hW
  refine lv_aload_n hx hb dX8_init_0 rfl (lv_at hl 0 rfl) ?_
  refine q_obj hF hl.1 ml_X8_1 (Nat.le_of_ble_eq_true rfl) ⟨Nat.le_of_ble_eq_true rfl, Nat.le_of_ble_eq_true rfl⟩ dX8_init_1 ?_
  refine lv_aload_n hx hb dX8_init_4 rfl (lv_at hl 0 rfl) ?_
  refine lv_sipush (v := 141) hx hb dX8_init_5 (by decide) ?_
  refine q_newA hF hK hA hW ac_int rfl 0 rfl (fun _ => rfl) (N' := 141) (a0 := (141, .inl fun _ => 0)) (fun _ => rfl) (by decide) (by decide) (Nat.le_of_ble_eq_true rfl) (Nat.le_of_ble_eq_true rfl) (Nat.le_of_ble_eq_true rfl) dX8_init_8 (fun b1 H hW => ?_)
  have hW : WD D A s ((h_, .inr (10, [.null, .null, .int 0, .null, .int 0, .null, .int 0, .int 0, .int 0, .null, .null, .null, .null, .int 0, .null, .null, .null, .null, .int 0, .null, .null, .null, .null, .null, .int 0, .int 0, .int 0, .null, .int 0, .int 0, .null])) :: ([(b1, .inl (E 0, 141, .inl fun _ => 0))])) H _ := hW
  refine q_putF hF hin hK hW fl_X8_7 ft_X8 rfl rfl 0 rfl rfl rfl (Nat.le_of_ble_eq_true rfl) dX8_init_10 (fun H locs hW => ?_)
  have hW : WD D A s ((h_, .inr (10, [.ref b1, .null, .int 0, .null, .int 0, .null, .int 0, .int 0, .int 0, .null, .null, .null, .null, .int 0, .null, .null, .null, .null, .int 0, .null, .null, .null, .null, .null, .int 0, .int 0, .int 0, .null, .int 0, .int 0, .null])) :: ([(b1, .inl (E 0, 141, .inl fun _ => 0))])) H _ := hW
  refine lv_aload_n hx hb dX8_init_13 rfl (lv_at hl 0 rfl) ?_
  refine lv_sipush (v := 141) hx hb dX8_init_14 (by decide) ?_
  refine q_newA hF hK hA hW ac_int rfl 0 rfl (fun _ => rfl) (N' := 141) (a0 := (141, .inl fun _ => 0)) (fun _ => rfl) (by decide) (by decide) (Nat.le_of_ble_eq_true rfl) (Nat.le_of_ble_eq_true rfl) (Nat.le_of_ble_eq_true rfl) dX8_init_17 (fun b2 H hW => ?_)
  have hW : WD D A s ((h_, .inr (10, [.ref b1, .null, .int 0, .null, .int 0, .null, .int 0, .int 0, .int 0, .null, .null, .null, .null, .int 0, .null, .null, .null, .null, .int 0, .null, .null, .null, .null, .null, .int 0, .int 0, .int 0, .null, .int 0, .int 0, .null])) :: ([(b1, .inl (E 0, 141, .inl fun _ => 0)), (b2, .inl (E 0, 141, .inl fun _ => 0))])) H _ := hW
  refine q_putF hF hin hK hW fl_X8_13 ft_X8 rfl rfl 0 rfl rfl rfl (Nat.le_of_ble_eq_true rfl) dX8_init_19 (fun H locs hW => ?_)
  have hW : WD D A s ((h_, .inr (10, [.ref b1, .ref b2, .int 0, .null, .int 0, .null, .int 0, .int 0, .int 0, .null, .null, .null, .null, .int 0, .null, .null, .null, .null, .int 0, .null, .null, .null, .null, .null, .int 0, .int 0, .int 0, .null, .int 0, .int 0, .null])) :: ([(b1, .inl (E 0, 141, .inl fun _ => 0)), (b2, .inl (E 0, 141, .inl fun _ => 0))])) H _ := hW
  refine lv_aload_n hx hb dX8_init_22 rfl (lv_at hl 0 rfl) ?_
  refine lv_sipush (v := 1128) hx hb dX8_init_23 (by decide) ?_
  refine q_newA hF hK hA hW ac_int rfl 0 rfl (fun _ => rfl) (N' := 1128) (a0 := (1128, .inl fun _ => 0)) (fun _ => rfl) (by decide) (by decide) (Nat.le_of_ble_eq_true rfl) (Nat.le_of_ble_eq_true rfl) (Nat.le_of_ble_eq_true rfl) dX8_init_26 (fun b3 H hW => ?_)
  have hW : WD D A s ((h_, .inr (10, [.ref b1, .ref b2, .int 0, .null, .int 0, .null, .int 0, .int 0, .int 0, .null, .null, .null, .null, .int 0, .null, .null, .null, .null, .int 0, .null, .null, .null, .null, .null, .int 0, .int 0, .int 0, .null, .int 0, .int 0, .null])) :: ([(b1, .inl (E 0, 141, .inl fun _ => 0)), (b2, .inl (E 0, 141, .inl fun _ => 0)), (b3, .inl (E 0, 1128, .inl fun _ => 0))])) H _ := hW
  refine q_putF hF hin hK hW fl_X8_16 ft_X8 rfl rfl 0 rfl rfl rfl (Nat.le_of_ble_eq_true rfl) dX8_init_28 (fun H locs hW => ?_)
  have hW : WD D A s ((h_, .inr (10, [.ref b1, .ref b2, .int 0, .ref b3, .int 0, .null, .int 0, .int 0, .int 0, .null, .null, .null, .null, .int 0, .null, .null, .null, .null, .int 0, .null, .null, .null, .null, .null, .int 0, .int 0, .int 0, .null, .int 0, .int 0, .null])) :: ([(b1, .inl (E 0, 141, .inl fun _ => 0)), (b2, .inl (E 0, 141, .inl fun _ => 0)), (b3, .inl (E 0, 1128, .inl fun _ => 0))])) H _ := hW
  refine lv_aload_n hx hb dX8_init_31 rfl (lv_at hl 0 rfl) ?_
  refine lv_sipush (v := 5000) hx hb dX8_init_32 (by decide) ?_
  refine q_newA hF hK hA hW ac_int rfl 0 rfl (fun _ => rfl) (N' := 5000) (a0 := (5000, .inl fun _ => 0)) (fun _ => rfl) (by decide) (by decide) (Nat.le_of_ble_eq_true rfl) (Nat.le_of_ble_eq_true rfl) (Nat.le_of_ble_eq_true rfl) dX8_init_35 (fun b4 H hW => ?_)
  have hW : WD D A s ((h_, .inr (10, [.ref b1, .ref b2, .int 0, .ref b3, .int 0, .null, .int 0, .int 0, .int 0, .null, .null, .null, .null, .int 0, .null, .null, .null, .null, .int 0, .null, .null, .null, .null, .null, .int 0, .int 0, .int 0, .null, .int 0, .int 0, .null])) :: ([(b1, .inl (E 0, 141, .inl fun _ => 0)), (b2, .inl (E 0, 141, .inl fun _ => 0)), (b3, .inl (E 0, 1128, .inl fun _ => 0)), (b4, .inl (E 0, 5000, .inl fun _ => 0))])) H _ := hW
  refine q_putF hF hin hK hW fl_X8_19 ft_X8 rfl rfl 0 rfl rfl rfl (Nat.le_of_ble_eq_true rfl) dX8_init_37 (fun H locs hW => ?_)
  have hW : WD D A s ((h_, .inr (10, [.ref b1, .ref b2, .int 0, .ref b3, .int 0, .ref b4, .int 0, .int 0, .int 0, .null, .null, .null, .null, .int 0, .null, .null, .null, .null, .int 0, .null, .null, .null, .null, .null, .int 0, .int 0, .int 0, .null, .int 0, .int 0, .null])) :: ([(b1, .inl (E 0, 141, .inl fun _ => 0)), (b2, .inl (E 0, 141, .inl fun _ => 0)), (b3, .inl (E 0, 1128, .inl fun _ => 0)), (b4, .inl (E 0, 5000, .inl fun _ => 0))])) H _ := hW
  refine lv_aload_n hx hb dX8_init_40 rfl (lv_at hl 0 rfl) ?_
  refine lv_iconst (v := -1) hx hb dX8_init_41 (by decide) ?_
  refine q_put hF hK hW fl_X8_22 ft_X8 rfl 0 rfl rfl rfl (Nat.le_of_ble_eq_true rfl) dX8_init_42 (fun H locs hW => ?_)
  have hW : WD D A s ((h_, .inr (10, [.ref b1, .ref b2, .int 0, .ref b3, .int 0, .ref b4, .int (-1), .int 0, .int 0, .null, .null, .null, .null, .int 0, .null, .null, .null, .null, .int 0, .null, .null, .null, .null, .null, .int 0, .int 0, .int 0, .null, .int 0, .int 0, .null])) :: ([(b1, .inl (E 0, 141, .inl fun _ => 0)), (b2, .inl (E 0, 141, .inl fun _ => 0)), (b3, .inl (E 0, 1128, .inl fun _ => 0)), (b4, .inl (E 0, 5000, .inl fun _ => 0))])) H _ := hW
  refine lv_aload_n hx hb dX8_init_45 rfl (lv_at hl 0 rfl) ?_
  refine lv_iconst (v := 4) hx hb dX8_init_46 (by decide) ?_
  refine q_newA hF hK hA hW ac_int rfl 0 rfl (fun _ => rfl) (N' := 4) (a0 := (4, .inl fun _ => 0)) (fun _ => rfl) (by decide) (by decide) (Nat.le_of_ble_eq_true rfl) (Nat.le_of_ble_eq_true rfl) (Nat.le_of_ble_eq_true rfl) dX8_init_47 (fun b5 H hW => ?_)
  have hW : WD D A s ((h_, .inr (10, [.ref b1, .ref b2, .int 0, .ref b3, .int 0, .ref b4, .int (-1), .int 0, .int 0, .null, .null, .null, .null, .int 0, .null, .null, .null, .null, .int 0, .null, .null, .null, .null, .null, .int 0, .int 0, .int 0, .null, .int 0, .int 0, .null])) :: ([(b1, .inl (E 0, 141, .inl fun _ => 0)), (b2, .inl (E 0, 141, .inl fun _ => 0)), (b3, .inl (E 0, 1128, .inl fun _ => 0)), (b4, .inl (E 0, 5000, .inl fun _ => 0)), (b5, .inl (E 0, 4, .inl fun _ => 0))])) H _ := hW
  refine q_putF hF hin hK hW fl_X8_26 ft_X8 rfl rfl 0 rfl rfl rfl (Nat.le_of_ble_eq_true rfl) dX8_init_49 (fun H locs hW => ?_)
  have hW : WD D A s ((h_, .inr (10, [.ref b1, .ref b2, .int 0, .ref b3, .int 0, .ref b4, .int (-1), .int 0, .int 0, .ref b5, .null, .null, .null, .int 0, .null, .null, .null, .null, .int 0, .null, .null, .null, .null, .null, .int 0, .int 0, .int 0, .null, .int 0, .int 0, .null])) :: ([(b1, .inl (E 0, 141, .inl fun _ => 0)), (b2, .inl (E 0, 141, .inl fun _ => 0)), (b3, .inl (E 0, 1128, .inl fun _ => 0)), (b4, .inl (E 0, 5000, .inl fun _ => 0)), (b5, .inl (E 0, 4, .inl fun _ => 0))])) H _ := hW
  refine lv_aload_n hx hb dX8_init_52 rfl (lv_at hl 0 rfl) ?_
  refine lv_iconst (v := 4) hx hb dX8_init_53 (by decide) ?_
  refine q_newA hF hK hA hW ac_int rfl 0 rfl (fun _ => rfl) (N' := 4) (a0 := (4, .inl fun _ => 0)) (fun _ => rfl) (by decide) (by decide) (Nat.le_of_ble_eq_true rfl) (Nat.le_of_ble_eq_true rfl) (Nat.le_of_ble_eq_true rfl) dX8_init_54 (fun b6 H hW => ?_)
  have hW : WD D A s ((h_, .inr (10, [.ref b1, .ref b2, .int 0, .ref b3, .int 0, .ref b4, .int (-1), .int 0, .int 0, .ref b5, .null, .null, .null, .int 0, .null, .null, .null, .null, .int 0, .null, .null, .null, .null, .null, .int 0, .int 0, .int 0, .null, .int 0, .int 0, .null])) :: ([(b1, .inl (E 0, 141, .inl fun _ => 0)), (b2, .inl (E 0, 141, .inl fun _ => 0)), (b3, .inl (E 0, 1128, .inl fun _ => 0)), (b4, .inl (E 0, 5000, .inl fun _ => 0)), (b5, .inl (E 0, 4, .inl fun _ => 0)), (b6, .inl (E 0, 4, .inl fun _ => 0))])) H _ := hW
  refine q_putF hF hin hK hW fl_X8_29 ft_X8 rfl rfl 0 rfl rfl rfl (Nat.le_of_ble_eq_true rfl) dX8_init_56 (fun H locs hW => ?_)
  have hW : WD D A s ((h_, .inr (10, [.ref b1, .ref b2, .int 0, .ref b3, .int 0, .ref b4, .int (-1), .int 0, .int 0, .ref b5, .ref b6, .null, .null, .int 0, .null, .null, .null, .null, .int 0, .null, .null, .null, .null, .null, .int 0, .int 0, .int 0, .null, .int 0, .int 0, .null])) :: ([(b1, .inl (E 0, 141, .inl fun _ => 0)), (b2, .inl (E 0, 141, .inl fun _ => 0)), (b3, .inl (E 0, 1128, .inl fun _ => 0)), (b4, .inl (E 0, 5000, .inl fun _ => 0)), (b5, .inl (E 0, 4, .inl fun _ => 0)), (b6, .inl (E 0, 4, .inl fun _ => 0))])) H _ := hW
  refine lv_aload_n hx hb dX8_init_59 rfl (lv_at hl 0 rfl) ?_
  refine lv_iconst (v := 5) hx hb dX8_init_60 (by decide) ?_
  refine q_newA hF hK hA hW ac_int rfl 0 rfl (fun _ => rfl) (N' := 5) (a0 := (5, .inl fun _ => 0)) (fun _ => rfl) (by decide) (by decide) (Nat.le_of_ble_eq_true rfl) (Nat.le_of_ble_eq_true rfl) (Nat.le_of_ble_eq_true rfl) dX8_init_61 (fun b7 H hW => ?_)
  have hW : WD D A s ((h_, .inr (10, [.ref b1, .ref b2, .int 0, .ref b3, .int 0, .ref b4, .int (-1), .int 0, .int 0, .ref b5, .ref b6, .null, .null, .int 0, .null, .null, .null, .null, .int 0, .null, .null, .null, .null, .null, .int 0, .int 0, .int 0, .null, .int 0, .int 0, .null])) :: ([(b1, .inl (E 0, 141, .inl fun _ => 0)), (b2, .inl (E 0, 141, .inl fun _ => 0)), (b3, .inl (E 0, 1128, .inl fun _ => 0)), (b4, .inl (E 0, 5000, .inl fun _ => 0)), (b5, .inl (E 0, 4, .inl fun _ => 0)), (b6, .inl (E 0, 4, .inl fun _ => 0)), (b7, .inl (E 0, 5, .inl fun _ => 0))])) H _ := hW
  refine q_putF hF hin hK hW fl_X8_32 ft_X8 rfl rfl 0 rfl rfl rfl (Nat.le_of_ble_eq_true rfl) dX8_init_63 (fun H locs hW => ?_)
  have hW : WD D A s ((h_, .inr (10, [.ref b1, .ref b2, .int 0, .ref b3, .int 0, .ref b4, .int (-1), .int 0, .int 0, .ref b5, .ref b6, .ref b7, .null, .int 0, .null, .null, .null, .null, .int 0, .null, .null, .null, .null, .null, .int 0, .int 0, .int 0, .null, .int 0, .int 0, .null])) :: ([(b1, .inl (E 0, 141, .inl fun _ => 0)), (b2, .inl (E 0, 141, .inl fun _ => 0)), (b3, .inl (E 0, 1128, .inl fun _ => 0)), (b4, .inl (E 0, 5000, .inl fun _ => 0)), (b5, .inl (E 0, 4, .inl fun _ => 0)), (b6, .inl (E 0, 4, .inl fun _ => 0)), (b7, .inl (E 0, 5, .inl fun _ => 0))])) H _ := hW
  refine lv_aload_n hx hb dX8_init_66 rfl (lv_at hl 0 rfl) ?_
  refine lv_iconst (v := 5) hx hb dX8_init_67 (by decide) ?_
  refine q_newA hF hK hA hW ac_int rfl 0 rfl (fun _ => rfl) (N' := 5) (a0 := (5, .inl fun _ => 0)) (fun _ => rfl) (by decide) (by decide) (Nat.le_of_ble_eq_true rfl) (Nat.le_of_ble_eq_true rfl) (Nat.le_of_ble_eq_true rfl) dX8_init_68 (fun b8 H hW => ?_)
  have hW : WD D A s ((h_, .inr (10, [.ref b1, .ref b2, .int 0, .ref b3, .int 0, .ref b4, .int (-1), .int 0, .int 0, .ref b5, .ref b6, .ref b7, .null, .int 0, .null, .null, .null, .null, .int 0, .null, .null, .null, .null, .null, .int 0, .int 0, .int 0, .null, .int 0, .int 0, .null])) :: ([(b1, .inl (E 0, 141, .inl fun _ => 0)), (b2, .inl (E 0, 141, .inl fun _ => 0)), (b3, .inl (E 0, 1128, .inl fun _ => 0)), (b4, .inl (E 0, 5000, .inl fun _ => 0)), (b5, .inl (E 0, 4, .inl fun _ => 0)), (b6, .inl (E 0, 4, .inl fun _ => 0)), (b7, .inl (E 0, 5, .inl fun _ => 0)), (b8, .inl (E 0, 5, .inl fun _ => 0))])) H _ := hW
  refine q_putF hF hin hK hW fl_X8_35 ft_X8 rfl rfl 0 rfl rfl rfl (Nat.le_of_ble_eq_true rfl) dX8_init_70 (fun H locs hW => ?_)
  have hW : WD D A s ((h_, .inr (10, [.ref b1, .ref b2, .int 0, .ref b3, .int 0, .ref b4, .int (-1), .int 0, .int 0, .ref b5, .ref b6, .ref b7, .ref b8, .int 0, .null, .null, .null, .null, .int 0, .null, .null, .null, .null, .null, .int 0, .int 0, .int 0, .null, .int 0, .int 0, .null])) :: ([(b1, .inl (E 0, 141, .inl fun _ => 0)), (b2, .inl (E 0, 141, .inl fun _ => 0)), (b3, .inl (E 0, 1128, .inl fun _ => 0)), (b4, .inl (E 0, 5000, .inl fun _ => 0)), (b5, .inl (E 0, 4, .inl fun _ => 0)), (b6, .inl (E 0, 4, .inl fun _ => 0)), (b7, .inl (E 0, 5, .inl fun _ => 0)), (b8, .inl (E 0, 5, .inl fun _ => 0))])) H _ := hW
  refine lv_aload_n hx hb dX8_init_73 rfl (lv_at hl 0 rfl) ?_
  refine lv_sipush (v := 5000) hx hb dX8_init_74 (by decide) ?_
  refine q_newA hF hK hA hW ac_bool rfl 1 rfl (fun _ => rfl) (N' := 5000) (a0 := (5000, .inl fun _ => 0)) (fun _ => rfl) (by decide) (by decide) (Nat.le_of_ble_eq_true rfl) (Nat.le_of_ble_eq_true rfl) (Nat.le_of_ble_eq_true rfl) dX8_init_77 (fun b9 H hW => ?_)
  have hW : WD D A s ((h_, .inr (10, [.ref b1, .ref b2, .int 0, .ref b3, .int 0, .ref b4, .int (-1), .int 0, .int 0, .ref b5, .ref b6, .ref b7, .ref b8, .int 0, .null, .null, .null, .null, .int 0, .null, .null, .null, .null, .null, .int 0, .int 0, .int 0, .null, .int 0, .int 0, .null])) :: ([(b1, .inl (E 0, 141, .inl fun _ => 0)), (b2, .inl (E 0, 141, .inl fun _ => 0)), (b3, .inl (E 0, 1128, .inl fun _ => 0)), (b4, .inl (E 0, 5000, .inl fun _ => 0)), (b5, .inl (E 0, 4, .inl fun _ => 0)), (b6, .inl (E 0, 4, .inl fun _ => 0)), (b7, .inl (E 0, 5, .inl fun _ => 0)), (b8, .inl (E 0, 5, .inl fun _ => 0)), (b9, .inl (E 1, 5000, .inl fun _ => 0))])) H _ := hW
  refine q_putF hF hin hK hW fl_X8_38 ft_X8 rfl rfl 0 rfl rfl rfl (Nat.le_of_ble_eq_true rfl) dX8_init_79 (fun H locs hW => ?_)
  have hW : WD D A s ((h_, .inr (10, [.ref b1, .ref b2, .int 0, .ref b3, .int 0, .ref b4, .int (-1), .int 0, .int 0, .ref b5, .ref b6, .ref b7, .ref b8, .int 0, .ref b9, .null, .null, .null, .int 0, .null, .null, .null, .null, .null, .int 0, .int 0, .int 0, .null, .int 0, .int 0, .null])) :: ([(b1, .inl (E 0, 141, .inl fun _ => 0)), (b2, .inl (E 0, 141, .inl fun _ => 0)), (b3, .inl (E 0, 1128, .inl fun _ => 0)), (b4, .inl (E 0, 5000, .inl fun _ => 0)), (b5, .inl (E 0, 4, .inl fun _ => 0)), (b6, .inl (E 0, 4, .inl fun _ => 0)), (b7, .inl (E 0, 5, .inl fun _ => 0)), (b8, .inl (E 0, 5, .inl fun _ => 0)), (b9, .inl (E 1, 5000, .inl fun _ => 0))])) H _ := hW
  refine lv_aload_n hx hb dX8_init_82 rfl (lv_at hl 0 rfl) ?_
  refine lv_sipush (v := 5000) hx hb dX8_init_83 (by decide) ?_
  refine q_newA hF hK hA hW ac_int rfl 0 rfl (fun _ => rfl) (N' := 5000) (a0 := (5000, .inl fun _ => 0)) (fun _ => rfl) (by decide) (by decide) (Nat.le_of_ble_eq_true rfl) (Nat.le_of_ble_eq_true rfl) (Nat.le_of_ble_eq_true rfl) dX8_init_86 (fun b10 H hW => ?_)
  have hW : WD D A s ((h_, .inr (10, [.ref b1, .ref b2, .int 0, .ref b3, .int 0, .ref b4, .int (-1), .int 0, .int 0, .ref b5, .ref b6, .ref b7, .ref b8, .int 0, .ref b9, .null, .null, .null, .int 0, .null, .null, .null, .null, .null, .int 0, .int 0, .int 0, .null, .int 0, .int 0, .null])) :: ([(b1, .inl (E 0, 141, .inl fun _ => 0)), (b2, .inl (E 0, 141, .inl fun _ => 0)), (b3, .inl (E 0, 1128, .inl fun _ => 0)), (b4, .inl (E 0, 5000, .inl fun _ => 0)), (b5, .inl (E 0, 4, .inl fun _ => 0)), (b6, .inl (E 0, 4, .inl fun _ => 0)), (b7, .inl (E 0, 5, .inl fun _ => 0)), (b8, .inl (E 0, 5, .inl fun _ => 0)), (b9, .inl (E 1, 5000, .inl fun _ => 0)), (b10, .inl (E 0, 5000, .inl fun _ => 0))])) H _ := hW
  refine q_putF hF hin hK hW fl_X8_42 ft_X8 rfl rfl 0 rfl rfl rfl (Nat.le_of_ble_eq_true rfl) dX8_init_88 (fun H locs hW => ?_)
  have hW : WD D A s ((h_, .inr (10, [.ref b1, .ref b2, .int 0, .ref b3, .int 0, .ref b4, .int (-1), .int 0, .int 0, .ref b5, .ref b6, .ref b7, .ref b8, .int 0, .ref b9, .ref b10, .null, .null, .int 0, .null, .null, .null, .null, .null, .int 0, .int 0, .int 0, .null, .int 0, .int 0, .null])) :: ([(b1, .inl (E 0, 141, .inl fun _ => 0)), (b2, .inl (E 0, 141, .inl fun _ => 0)), (b3, .inl (E 0, 1128, .inl fun _ => 0)), (b4, .inl (E 0, 5000, .inl fun _ => 0)), (b5, .inl (E 0, 4, .inl fun _ => 0)), (b6, .inl (E 0, 4, .inl fun _ => 0)), (b7, .inl (E 0, 5, .inl fun _ => 0)), (b8, .inl (E 0, 5, .inl fun _ => 0)), (b9, .inl (E 1, 5000, .inl fun _ => 0)), (b10, .inl (E 0, 5000, .inl fun _ => 0))])) H _ := hW
  refine lv_aload_n hx hb dX8_init_91 rfl (lv_at hl 0 rfl) ?_
  refine lv_sipush (v := 5000) hx hb dX8_init_92 (by decide) ?_
  refine q_newA hF hK hA hW ac_int rfl 0 rfl (fun _ => rfl) (N' := 5000) (a0 := (5000, .inl fun _ => 0)) (fun _ => rfl) (by decide) (by decide) (Nat.le_of_ble_eq_true rfl) (Nat.le_of_ble_eq_true rfl) (Nat.le_of_ble_eq_true rfl) dX8_init_95 (fun b11 H hW => ?_)
  have hW : WD D A s ((h_, .inr (10, [.ref b1, .ref b2, .int 0, .ref b3, .int 0, .ref b4, .int (-1), .int 0, .int 0, .ref b5, .ref b6, .ref b7, .ref b8, .int 0, .ref b9, .ref b10, .null, .null, .int 0, .null, .null, .null, .null, .null, .int 0, .int 0, .int 0, .null, .int 0, .int 0, .null])) :: ([(b1, .inl (E 0, 141, .inl fun _ => 0)), (b2, .inl (E 0, 141, .inl fun _ => 0)), (b3, .inl (E 0, 1128, .inl fun _ => 0)), (b4, .inl (E 0, 5000, .inl fun _ => 0)), (b5, .inl (E 0, 4, .inl fun _ => 0)), (b6, .inl (E 0, 4, .inl fun _ => 0)), (b7, .inl (E 0, 5, .inl fun _ => 0)), (b8, .inl (E 0, 5, .inl fun _ => 0)), (b9, .inl (E 1, 5000, .inl fun _ => 0)), (b10, .inl (E 0, 5000, .inl fun _ => 0)), (b11, .inl (E 0, 5000, .inl fun _ => 0))])) H _ := hW
  refine q_putF hF hin hK hW fl_X8_45 ft_X8 rfl rfl 0 rfl rfl rfl (Nat.le_of_ble_eq_true rfl) dX8_init_97 (fun H locs hW => ?_)
  have hW : WD D A s ((h_, .inr (10, [.ref b1, .ref b2, .int 0, .ref b3, .int 0, .ref b4, .int (-1), .int 0, .int 0, .ref b5, .ref b6, .ref b7, .ref b8, .int 0, .ref b9, .ref b10, .ref b11, .null, .int 0, .null, .null, .null, .null, .null, .int 0, .int 0, .int 0, .null, .int 0, .int 0, .null])) :: ([(b1, .inl (E 0, 141, .inl fun _ => 0)), (b2, .inl (E 0, 141, .inl fun _ => 0)), (b3, .inl (E 0, 1128, .inl fun _ => 0)), (b4, .inl (E 0, 5000, .inl fun _ => 0)), (b5, .inl (E 0, 4, .inl fun _ => 0)), (b6, .inl (E 0, 4, .inl fun _ => 0)), (b7, .inl (E 0, 5, .inl fun _ => 0)), (b8, .inl (E 0, 5, .inl fun _ => 0)), (b9, .inl (E 1, 5000, .inl fun _ => 0)), (b10, .inl (E 0, 5000, .inl fun _ => 0)), (b11, .inl (E 0, 5000, .inl fun _ => 0))])) H _ := hW
  refine lv_aload_n hx hb dX8_init_100 rfl (lv_at hl 0 rfl) ?_
  refine lv_sipush (v := 5000) hx hb dX8_init_101 (by decide) ?_
  refine q_newA hF hK hA hW ac_int rfl 0 rfl (fun _ => rfl) (N' := 5000) (a0 := (5000, .inl fun _ => 0)) (fun _ => rfl) (by decide) (by decide) (Nat.le_of_ble_eq_true rfl) (Nat.le_of_ble_eq_true rfl) (Nat.le_of_ble_eq_true rfl) dX8_init_104 (fun b12 H hW => ?_)
  have hW : WD D A s ((h_, .inr (10, [.ref b1, .ref b2, .int 0, .ref b3, .int 0, .ref b4, .int (-1), .int 0, .int 0, .ref b5, .ref b6, .ref b7, .ref b8, .int 0, .ref b9, .ref b10, .ref b11, .null, .int 0, .null, .null, .null, .null, .null, .int 0, .int 0, .int 0, .null, .int 0, .int 0, .null])) :: ([(b1, .inl (E 0, 141, .inl fun _ => 0)), (b2, .inl (E 0, 141, .inl fun _ => 0)), (b3, .inl (E 0, 1128, .inl fun _ => 0)), (b4, .inl (E 0, 5000, .inl fun _ => 0)), (b5, .inl (E 0, 4, .inl fun _ => 0)), (b6, .inl (E 0, 4, .inl fun _ => 0)), (b7, .inl (E 0, 5, .inl fun _ => 0)), (b8, .inl (E 0, 5, .inl fun _ => 0)), (b9, .inl (E 1, 5000, .inl fun _ => 0)), (b10, .inl (E 0, 5000, .inl fun _ => 0)), (b11, .inl (E 0, 5000, .inl fun _ => 0)), (b12, .inl (E 0, 5000, .inl fun _ => 0))])) H _ := hW
  refine q_putF hF hin hK hW fl_X8_48 ft_X8 rfl rfl 0 rfl rfl rfl (Nat.le_of_ble_eq_true rfl) dX8_init_106 (fun H locs hW => ?_)
  have hW : WD D A s ((h_, .inr (10, [.ref b1, .ref b2, .int 0, .ref b3, .int 0, .ref b4, .int (-1), .int 0, .int 0, .ref b5, .ref b6, .ref b7, .ref b8, .int 0, .ref b9, .ref b10, .ref b11, .ref b12, .int 0, .null, .null, .null, .null, .null, .int 0, .int 0, .int 0, .null, .int 0, .int 0, .null])) :: ([(b1, .inl (E 0, 141, .inl fun _ => 0)), (b2, .inl (E 0, 141, .inl fun _ => 0)), (b3, .inl (E 0, 1128, .inl fun _ => 0)), (b4, .inl (E 0, 5000, .inl fun _ => 0)), (b5, .inl (E 0, 4, .inl fun _ => 0)), (b6, .inl (E 0, 4, .inl fun _ => 0)), (b7, .inl (E 0, 5, .inl fun _ => 0)), (b8, .inl (E 0, 5, .inl fun _ => 0)), (b9, .inl (E 1, 5000, .inl fun _ => 0)), (b10, .inl (E 0, 5000, .inl fun _ => 0)), (b11, .inl (E 0, 5000, .inl fun _ => 0)), (b12, .inl (E 0, 5000, .inl fun _ => 0))])) H _ := hW
  refine lv_aload_n hx hb dX8_init_109 rfl (lv_at hl 0 rfl) ?_
  refine lv_sipush (v := 441) hx hb dX8_init_110 (by decide) ?_
  refine q_newA hF hK hA hW ac_int rfl 0 rfl (fun _ => rfl) (N' := 441) (a0 := (441, .inl fun _ => 0)) (fun _ => rfl) (by decide) (by decide) (Nat.le_of_ble_eq_true rfl) (Nat.le_of_ble_eq_true rfl) (Nat.le_of_ble_eq_true rfl) dX8_init_113 (fun b13 H hW => ?_)
  have hW : WD D A s ((h_, .inr (10, [.ref b1, .ref b2, .int 0, .ref b3, .int 0, .ref b4, .int (-1), .int 0, .int 0, .ref b5, .ref b6, .ref b7, .ref b8, .int 0, .ref b9, .ref b10, .ref b11, .ref b12, .int 0, .null, .null, .null, .null, .null, .int 0, .int 0, .int 0, .null, .int 0, .int 0, .null])) :: ([(b1, .inl (E 0, 141, .inl fun _ => 0)), (b2, .inl (E 0, 141, .inl fun _ => 0)), (b3, .inl (E 0, 1128, .inl fun _ => 0)), (b4, .inl (E 0, 5000, .inl fun _ => 0)), (b5, .inl (E 0, 4, .inl fun _ => 0)), (b6, .inl (E 0, 4, .inl fun _ => 0)), (b7, .inl (E 0, 5, .inl fun _ => 0)), (b8, .inl (E 0, 5, .inl fun _ => 0)), (b9, .inl (E 1, 5000, .inl fun _ => 0)), (b10, .inl (E 0, 5000, .inl fun _ => 0)), (b11, .inl (E 0, 5000, .inl fun _ => 0)), (b12, .inl (E 0, 5000, .inl fun _ => 0)), (b13, .inl (E 0, 441, .inl fun _ => 0))])) H _ := hW
  refine q_putF hF hin hK hW fl_X8_51 ft_X8 rfl rfl 0 rfl rfl rfl (Nat.le_of_ble_eq_true rfl) dX8_init_115 (fun H locs hW => ?_)
  have hW : WD D A s ((h_, .inr (10, [.ref b1, .ref b2, .int 0, .ref b3, .int 0, .ref b4, .int (-1), .int 0, .int 0, .ref b5, .ref b6, .ref b7, .ref b8, .int 0, .ref b9, .ref b10, .ref b11, .ref b12, .int 0, .ref b13, .null, .null, .null, .null, .int 0, .int 0, .int 0, .null, .int 0, .int 0, .null])) :: ([(b1, .inl (E 0, 141, .inl fun _ => 0)), (b2, .inl (E 0, 141, .inl fun _ => 0)), (b3, .inl (E 0, 1128, .inl fun _ => 0)), (b4, .inl (E 0, 5000, .inl fun _ => 0)), (b5, .inl (E 0, 4, .inl fun _ => 0)), (b6, .inl (E 0, 4, .inl fun _ => 0)), (b7, .inl (E 0, 5, .inl fun _ => 0)), (b8, .inl (E 0, 5, .inl fun _ => 0)), (b9, .inl (E 1, 5000, .inl fun _ => 0)), (b10, .inl (E 0, 5000, .inl fun _ => 0)), (b11, .inl (E 0, 5000, .inl fun _ => 0)), (b12, .inl (E 0, 5000, .inl fun _ => 0)), (b13, .inl (E 0, 441, .inl fun _ => 0))])) H _ := hW
  refine lv_aload_n hx hb dX8_init_118 rfl (lv_at hl 0 rfl) ?_
  refine lv_ldc (v := 45000) hx hb hF.2.2.2.1 (hF.2.2.2.2 _ lc_X8_54) dX8_init_119 ?_
  refine q_newA hF hK hA hW ac_int rfl 0 rfl (fun _ => rfl) (N' := 45000) (a0 := (45000, .inl fun _ => 0)) (fun _ => rfl) (by decide) (by decide) (Nat.le_of_ble_eq_true rfl) (Nat.le_of_ble_eq_true rfl) (Nat.le_of_ble_eq_true rfl) dX8_init_121 (fun b14 H hW => ?_)
  have hW : WD D A s ((h_, .inr (10, [.ref b1, .ref b2, .int 0, .ref b3, .int 0, .ref b4, .int (-1), .int 0, .int 0, .ref b5, .ref b6, .ref b7, .ref b8, .int 0, .ref b9, .ref b10, .ref b11, .ref b12, .int 0, .ref b13, .null, .null, .null, .null, .int 0, .int 0, .int 0, .null, .int 0, .int 0, .null])) :: ([(b1, .inl (E 0, 141, .inl fun _ => 0)), (b2, .inl (E 0, 141, .inl fun _ => 0)), (b3, .inl (E 0, 1128, .inl fun _ => 0)), (b4, .inl (E 0, 5000, .inl fun _ => 0)), (b5, .inl (E 0, 4, .inl fun _ => 0)), (b6, .inl (E 0, 4, .inl fun _ => 0)), (b7, .inl (E 0, 5, .inl fun _ => 0)), (b8, .inl (E 0, 5, .inl fun _ => 0)), (b9, .inl (E 1, 5000, .inl fun _ => 0)), (b10, .inl (E 0, 5000, .inl fun _ => 0)), (b11, .inl (E 0, 5000, .inl fun _ => 0)), (b12, .inl (E 0, 5000, .inl fun _ => 0)), (b13, .inl (E 0, 441, .inl fun _ => 0)), (b14, .inl (E 0, 45000, .inl fun _ => 0))])) H _ := hW
  refine q_putF hF hin hK hW fl_X8_55 ft_X8 rfl rfl 0 rfl rfl rfl (Nat.le_of_ble_eq_true rfl) dX8_init_123 (fun H locs hW => ?_)
  have hW : WD D A s ((h_, .inr (10, [.ref b1, .ref b2, .int 0, .ref b3, .int 0, .ref b4, .int (-1), .int 0, .int 0, .ref b5, .ref b6, .ref b7, .ref b8, .int 0, .ref b9, .ref b10, .ref b11, .ref b12, .int 0, .ref b13, .ref b14, .null, .null, .null, .int 0, .int 0, .int 0, .null, .int 0, .int 0, .null])) :: ([(b1, .inl (E 0, 141, .inl fun _ => 0)), (b2, .inl (E 0, 141, .inl fun _ => 0)), (b3, .inl (E 0, 1128, .inl fun _ => 0)), (b4, .inl (E 0, 5000, .inl fun _ => 0)), (b5, .inl (E 0, 4, .inl fun _ => 0)), (b6, .inl (E 0, 4, .inl fun _ => 0)), (b7, .inl (E 0, 5, .inl fun _ => 0)), (b8, .inl (E 0, 5, .inl fun _ => 0)), (b9, .inl (E 1, 5000, .inl fun _ => 0)), (b10, .inl (E 0, 5000, .inl fun _ => 0)), (b11, .inl (E 0, 5000, .inl fun _ => 0)), (b12, .inl (E 0, 5000, .inl fun _ => 0)), (b13, .inl (E 0, 441, .inl fun _ => 0)), (b14, .inl (E 0, 45000, .inl fun _ => 0))])) H _ := hW
  refine lv_aload_n hx hb dX8_init_126 rfl (lv_at hl 0 rfl) ?_
  refine lv_bipush (v := 26) hx hb dX8_init_127 (by decide) ?_
  refine q_newA hF hK hA hW ac_int rfl 0 rfl (fun _ => rfl) (N' := 26) (a0 := (26, .inl fun _ => 0)) (fun _ => rfl) (by decide) (by decide) (Nat.le_of_ble_eq_true rfl) (Nat.le_of_ble_eq_true rfl) (Nat.le_of_ble_eq_true rfl) dX8_init_129 (fun b15 H hW => ?_)
  have hW : WD D A s ((h_, .inr (10, [.ref b1, .ref b2, .int 0, .ref b3, .int 0, .ref b4, .int (-1), .int 0, .int 0, .ref b5, .ref b6, .ref b7, .ref b8, .int 0, .ref b9, .ref b10, .ref b11, .ref b12, .int 0, .ref b13, .ref b14, .null, .null, .null, .int 0, .int 0, .int 0, .null, .int 0, .int 0, .null])) :: ([(b1, .inl (E 0, 141, .inl fun _ => 0)), (b2, .inl (E 0, 141, .inl fun _ => 0)), (b3, .inl (E 0, 1128, .inl fun _ => 0)), (b4, .inl (E 0, 5000, .inl fun _ => 0)), (b5, .inl (E 0, 4, .inl fun _ => 0)), (b6, .inl (E 0, 4, .inl fun _ => 0)), (b7, .inl (E 0, 5, .inl fun _ => 0)), (b8, .inl (E 0, 5, .inl fun _ => 0)), (b9, .inl (E 1, 5000, .inl fun _ => 0)), (b10, .inl (E 0, 5000, .inl fun _ => 0)), (b11, .inl (E 0, 5000, .inl fun _ => 0)), (b12, .inl (E 0, 5000, .inl fun _ => 0)), (b13, .inl (E 0, 441, .inl fun _ => 0)), (b14, .inl (E 0, 45000, .inl fun _ => 0)), (b15, .inl (E 0, 26, .inl fun _ => 0))])) H _ := hW
  refine lv_dup hx hb dX8_init_131 rfl ?_
  refine lv_iconst (v := 0) hx hb dX8_init_132 (by decide) ?_
  refine lv_iconst (v := -1) hx hb dX8_init_133 (by decide) ?_
  refine q_iastC hF hK hW 15 0 rfl rfl (by unfold vp_in; decide) dX8_init_134 (fun H locs hW => ?_)
  have hW : WD D A s ((h_, .inr (10, [.ref b1, .ref b2, .int 0, .ref b3, .int 0, .ref b4, .int (-1), .int 0, .int 0, .ref b5, .ref b6, .ref b7, .ref b8, .int 0, .ref b9, .ref b10, .ref b11, .ref b12, .int 0, .ref b13, .ref b14, .null, .null, .null, .int 0, .int 0, .int 0, .null, .int 0, .int 0, .null])) :: ([(b1, .inl (E 0, 141, .inl fun _ => 0)), (b2, .inl (E 0, 141, .inl fun _ => 0)), (b3, .inl (E 0, 1128, .inl fun _ => 0)), (b4, .inl (E 0, 5000, .inl fun _ => 0)), (b5, .inl (E 0, 4, .inl fun _ => 0)), (b6, .inl (E 0, 4, .inl fun _ => 0)), (b7, .inl (E 0, 5, .inl fun _ => 0)), (b8, .inl (E 0, 5, .inl fun _ => 0)), (b9, .inl (E 1, 5000, .inl fun _ => 0)), (b10, .inl (E 0, 5000, .inl fun _ => 0)), (b11, .inl (E 0, 5000, .inl fun _ => 0)), (b12, .inl (E 0, 5000, .inl fun _ => 0)), (b13, .inl (E 0, 441, .inl fun _ => 0)), (b14, .inl (E 0, 45000, .inl fun _ => 0)), (b15, .inl (E 0, 26, .inl nf_1))])) H _ := hW
  refine lv_dup hx hb dX8_init_135 rfl ?_
  refine lv_iconst (v := 1) hx hb dX8_init_136 (by decide) ?_
  refine lv_iconst (v := -1) hx hb dX8_init_137 (by decide) ?_
  refine q_iastC hF hK hW 15 0 rfl rfl (by unfold vp_in; decide) dX8_init_138 (fun H locs hW => ?_)
  have hW : WD D A s ((h_, .inr (10, [.ref b1, .ref b2, .int 0, .ref b3, .int 0, .ref b4, .int (-1), .int 0, .int 0, .ref b5, .ref b6, .ref b7, .ref b8, .int 0, .ref b9, .ref b10, .ref b11, .ref b12, .int 0, .ref b13, .ref b14, .null, .null, .null, .int 0, .int 0, .int 0, .null, .int 0, .int 0, .null])) :: ([(b1, .inl (E 0, 141, .inl fun _ => 0)), (b2, .inl (E 0, 141, .inl fun _ => 0)), (b3, .inl (E 0, 1128, .inl fun _ => 0)), (b4, .inl (E 0, 5000, .inl fun _ => 0)), (b5, .inl (E 0, 4, .inl fun _ => 0)), (b6, .inl (E 0, 4, .inl fun _ => 0)), (b7, .inl (E 0, 5, .inl fun _ => 0)), (b8, .inl (E 0, 5, .inl fun _ => 0)), (b9, .inl (E 1, 5000, .inl fun _ => 0)), (b10, .inl (E 0, 5000, .inl fun _ => 0)), (b11, .inl (E 0, 5000, .inl fun _ => 0)), (b12, .inl (E 0, 5000, .inl fun _ => 0)), (b13, .inl (E 0, 441, .inl fun _ => 0)), (b14, .inl (E 0, 45000, .inl fun _ => 0)), (b15, .inl (E 0, 26, .inl nf_2))])) H _ := hW
  refine lv_dup hx hb dX8_init_139 rfl ?_
  refine lv_iconst (v := 2) hx hb dX8_init_140 (by decide) ?_
  refine lv_iconst (v := -1) hx hb dX8_init_141 (by decide) ?_
  refine q_iastC hF hK hW 15 0 rfl rfl (by unfold vp_in; decide) dX8_init_142 (fun H locs hW => ?_)
  have hW : WD D A s ((h_, .inr (10, [.ref b1, .ref b2, .int 0, .ref b3, .int 0, .ref b4, .int (-1), .int 0, .int 0, .ref b5, .ref b6, .ref b7, .ref b8, .int 0, .ref b9, .ref b10, .ref b11, .ref b12, .int 0, .ref b13, .ref b14, .null, .null, .null, .int 0, .int 0, .int 0, .null, .int 0, .int 0, .null])) :: ([(b1, .inl (E 0, 141, .inl fun _ => 0)), (b2, .inl (E 0, 141, .inl fun _ => 0)), (b3, .inl (E 0, 1128, .inl fun _ => 0)), (b4, .inl (E 0, 5000, .inl fun _ => 0)), (b5, .inl (E 0, 4, .inl fun _ => 0)), (b6, .inl (E 0, 4, .inl fun _ => 0)), (b7, .inl (E 0, 5, .inl fun _ => 0)), (b8, .inl (E 0, 5, .inl fun _ => 0)), (b9, .inl (E 1, 5000, .inl fun _ => 0)), (b10, .inl (E 0, 5000, .inl fun _ => 0)), (b11, .inl (E 0, 5000, .inl fun _ => 0)), (b12, .inl (E 0, 5000, .inl fun _ => 0)), (b13, .inl (E 0, 441, .inl fun _ => 0)), (b14, .inl (E 0, 45000, .inl fun _ => 0)), (b15, .inl (E 0, 26, .inl nf_3))])) H _ := hW
  refine lv_dup hx hb dX8_init_143 rfl ?_
  refine lv_iconst (v := 3) hx hb dX8_init_144 (by decide) ?_
  refine lv_iconst (v := -1) hx hb dX8_init_145 (by decide) ?_
  refine q_iastC hF hK hW 15 0 rfl rfl (by unfold vp_in; decide) dX8_init_146 (fun H locs hW => ?_)
  have hW : WD D A s ((h_, .inr (10, [.ref b1, .ref b2, .int 0, .ref b3, .int 0, .ref b4, .int (-1), .int 0, .int 0, .ref b5, .ref b6, .ref b7, .ref b8, .int 0, .ref b9, .ref b10, .ref b11, .ref b12, .int 0, .ref b13, .ref b14, .null, .null, .null, .int 0, .int 0, .int 0, .null, .int 0, .int 0, .null])) :: ([(b1, .inl (E 0, 141, .inl fun _ => 0)), (b2, .inl (E 0, 141, .inl fun _ => 0)), (b3, .inl (E 0, 1128, .inl fun _ => 0)), (b4, .inl (E 0, 5000, .inl fun _ => 0)), (b5, .inl (E 0, 4, .inl fun _ => 0)), (b6, .inl (E 0, 4, .inl fun _ => 0)), (b7, .inl (E 0, 5, .inl fun _ => 0)), (b8, .inl (E 0, 5, .inl fun _ => 0)), (b9, .inl (E 1, 5000, .inl fun _ => 0)), (b10, .inl (E 0, 5000, .inl fun _ => 0)), (b11, .inl (E 0, 5000, .inl fun _ => 0)), (b12, .inl (E 0, 5000, .inl fun _ => 0)), (b13, .inl (E 0, 441, .inl fun _ => 0)), (b14, .inl (E 0, 45000, .inl fun _ => 0)), (b15, .inl (E 0, 26, .inl nf_4))])) H _ := hW
  refine lv_dup hx hb dX8_init_147 rfl ?_
  refine lv_iconst (v := 4) hx hb dX8_init_148 (by decide) ?_
  refine lv_iconst (v := -1) hx hb dX8_init_149 (by decide) ?_
  refine q_iastC hF hK hW 15 0 rfl rfl (by unfold vp_in; decide) dX8_init_150 (fun H locs hW => ?_)
  have hW : WD D A s ((h_, .inr (10, [.ref b1, .ref b2, .int 0, .ref b3, .int 0, .ref b4, .int (-1), .int 0, .int 0, .ref b5, .ref b6, .ref b7, .ref b8, .int 0, .ref b9, .ref b10, .ref b11, .ref b12, .int 0, .ref b13, .ref b14, .null, .null, .null, .int 0, .int 0, .int 0, .null, .int 0, .int 0, .null])) :: ([(b1, .inl (E 0, 141, .inl fun _ => 0)), (b2, .inl (E 0, 141, .inl fun _ => 0)), (b3, .inl (E 0, 1128, .inl fun _ => 0)), (b4, .inl (E 0, 5000, .inl fun _ => 0)), (b5, .inl (E 0, 4, .inl fun _ => 0)), (b6, .inl (E 0, 4, .inl fun _ => 0)), (b7, .inl (E 0, 5, .inl fun _ => 0)), (b8, .inl (E 0, 5, .inl fun _ => 0)), (b9, .inl (E 1, 5000, .inl fun _ => 0)), (b10, .inl (E 0, 5000, .inl fun _ => 0)), (b11, .inl (E 0, 5000, .inl fun _ => 0)), (b12, .inl (E 0, 5000, .inl fun _ => 0)), (b13, .inl (E 0, 441, .inl fun _ => 0)), (b14, .inl (E 0, 45000, .inl fun _ => 0)), (b15, .inl (E 0, 26, .inl nf_5))])) H _ := hW
  refine lv_dup hx hb dX8_init_151 rfl ?_
  refine lv_iconst (v := 5) hx hb dX8_init_152 (by decide) ?_
  refine lv_iconst (v := -1) hx hb dX8_init_153 (by decide) ?_
  refine q_iastC hF hK hW 15 0 rfl rfl (by unfold vp_in; decide) dX8_init_154 (fun H locs hW => ?_)
  have hW : WD D A s ((h_, .inr (10, [.ref b1, .ref b2, .int 0, .ref b3, .int 0, .ref b4, .int (-1), .int 0, .int 0, .ref b5, .ref b6, .ref b7, .ref b8, .int 0, .ref b9, .ref b10, .ref b11, .ref b12, .int 0, .ref b13, .ref b14, .null, .null, .null, .int 0, .int 0, .int 0, .null, .int 0, .int 0, .null])) :: ([(b1, .inl (E 0, 141, .inl fun _ => 0)), (b2, .inl (E 0, 141, .inl fun _ => 0)), (b3, .inl (E 0, 1128, .inl fun _ => 0)), (b4, .inl (E 0, 5000, .inl fun _ => 0)), (b5, .inl (E 0, 4, .inl fun _ => 0)), (b6, .inl (E 0, 4, .inl fun _ => 0)), (b7, .inl (E 0, 5, .inl fun _ => 0)), (b8, .inl (E 0, 5, .inl fun _ => 0)), (b9, .inl (E 1, 5000, .inl fun _ => 0)), (b10, .inl (E 0, 5000, .inl fun _ => 0)), (b11, .inl (E 0, 5000, .inl fun _ => 0)), (b12, .inl (E 0, 5000, .inl fun _ => 0)), (b13, .inl (E 0, 441, .inl fun _ => 0)), (b14, .inl (E 0, 45000, .inl fun _ => 0)), (b15, .inl (E 0, 26, .inl nf_6))])) H _ := hW
  refine lv_dup hx hb dX8_init_155 rfl ?_
  refine lv_bipush (v := 6) hx hb dX8_init_156 (by decide) ?_
  refine lv_iconst (v := -1) hx hb dX8_init_158 (by decide) ?_
  refine q_iastC hF hK hW 15 0 rfl rfl (by unfold vp_in; decide) dX8_init_159 (fun H locs hW => ?_)
  have hW : WD D A s ((h_, .inr (10, [.ref b1, .ref b2, .int 0, .ref b3, .int 0, .ref b4, .int (-1), .int 0, .int 0, .ref b5, .ref b6, .ref b7, .ref b8, .int 0, .ref b9, .ref b10, .ref b11, .ref b12, .int 0, .ref b13, .ref b14, .null, .null, .null, .int 0, .int 0, .int 0, .null, .int 0, .int 0, .null])) :: ([(b1, .inl (E 0, 141, .inl fun _ => 0)), (b2, .inl (E 0, 141, .inl fun _ => 0)), (b3, .inl (E 0, 1128, .inl fun _ => 0)), (b4, .inl (E 0, 5000, .inl fun _ => 0)), (b5, .inl (E 0, 4, .inl fun _ => 0)), (b6, .inl (E 0, 4, .inl fun _ => 0)), (b7, .inl (E 0, 5, .inl fun _ => 0)), (b8, .inl (E 0, 5, .inl fun _ => 0)), (b9, .inl (E 1, 5000, .inl fun _ => 0)), (b10, .inl (E 0, 5000, .inl fun _ => 0)), (b11, .inl (E 0, 5000, .inl fun _ => 0)), (b12, .inl (E 0, 5000, .inl fun _ => 0)), (b13, .inl (E 0, 441, .inl fun _ => 0)), (b14, .inl (E 0, 45000, .inl fun _ => 0)), (b15, .inl (E 0, 26, .inl nf_7))])) H _ := hW
  refine lv_dup hx hb dX8_init_160 rfl ?_
  refine lv_bipush (v := 7) hx hb dX8_init_161 (by decide) ?_
  refine lv_iconst (v := -1) hx hb dX8_init_163 (by decide) ?_
  refine q_iastC hF hK hW 15 0 rfl rfl (by unfold vp_in; decide) dX8_init_164 (fun H locs hW => ?_)
  have hW : WD D A s ((h_, .inr (10, [.ref b1, .ref b2, .int 0, .ref b3, .int 0, .ref b4, .int (-1), .int 0, .int 0, .ref b5, .ref b6, .ref b7, .ref b8, .int 0, .ref b9, .ref b10, .ref b11, .ref b12, .int 0, .ref b13, .ref b14, .null, .null, .null, .int 0, .int 0, .int 0, .null, .int 0, .int 0, .null])) :: ([(b1, .inl (E 0, 141, .inl fun _ => 0)), (b2, .inl (E 0, 141, .inl fun _ => 0)), (b3, .inl (E 0, 1128, .inl fun _ => 0)), (b4, .inl (E 0, 5000, .inl fun _ => 0)), (b5, .inl (E 0, 4, .inl fun _ => 0)), (b6, .inl (E 0, 4, .inl fun _ => 0)), (b7, .inl (E 0, 5, .inl fun _ => 0)), (b8, .inl (E 0, 5, .inl fun _ => 0)), (b9, .inl (E 1, 5000, .inl fun _ => 0)), (b10, .inl (E 0, 5000, .inl fun _ => 0)), (b11, .inl (E 0, 5000, .inl fun _ => 0)), (b12, .inl (E 0, 5000, .inl fun _ => 0)), (b13, .inl (E 0, 441, .inl fun _ => 0)), (b14, .inl (E 0, 45000, .inl fun _ => 0)), (b15, .inl (E 0, 26, .inl nf_8))])) H _ := hW
  refine lv_dup hx hb dX8_init_165 rfl ?_
  refine lv_bipush (v := 8) hx hb dX8_init_166 (by decide) ?_
  refine lv_iconst (v := -1) hx hb dX8_init_168 (by decide) ?_
  refine q_iastC hF hK hW 15 0 rfl rfl (by unfold vp_in; decide) dX8_init_169 (fun H locs hW => ?_)
  have hW : WD D A s ((h_, .inr (10, [.ref b1, .ref b2, .int 0, .ref b3, .int 0, .ref b4, .int (-1), .int 0, .int 0, .ref b5, .ref b6, .ref b7, .ref b8, .int 0, .ref b9, .ref b10, .ref b11, .ref b12, .int 0, .ref b13, .ref b14, .null, .null, .null, .int 0, .int 0, .int 0, .null, .int 0, .int 0, .null])) :: ([(b1, .inl (E 0, 141, .inl fun _ => 0)), (b2, .inl (E 0, 141, .inl fun _ => 0)), (b3, .inl (E 0, 1128, .inl fun _ => 0)), (b4, .inl (E 0, 5000, .inl fun _ => 0)), (b5, .inl (E 0, 4, .inl fun _ => 0)), (b6, .inl (E 0, 4, .inl fun _ => 0)), (b7, .inl (E 0, 5, .inl fun _ => 0)), (b8, .inl (E 0, 5, .inl fun _ => 0)), (b9, .inl (E 1, 5000, .inl fun _ => 0)), (b10, .inl (E 0, 5000, .inl fun _ => 0)), (b11, .inl (E 0, 5000, .inl fun _ => 0)), (b12, .inl (E 0, 5000, .inl fun _ => 0)), (b13, .inl (E 0, 441, .inl fun _ => 0)), (b14, .inl (E 0, 45000, .inl fun _ => 0)), (b15, .inl (E 0, 26, .inl nf_9))])) H _ := hW
  refine lv_dup hx hb dX8_init_170 rfl ?_
  refine lv_bipush (v := 9) hx hb dX8_init_171 (by decide) ?_
  refine lv_iconst (v := -1) hx hb dX8_init_173 (by decide) ?_
  refine q_iastC hF hK hW 15 0 rfl rfl (by unfold vp_in; decide) dX8_init_174 (fun H locs hW => ?_)
  have hW : WD D A s ((h_, .inr (10, [.ref b1, .ref b2, .int 0, .ref b3, .int 0, .ref b4, .int (-1), .int 0, .int 0, .ref b5, .ref b6, .ref b7, .ref b8, .int 0, .ref b9, .ref b10, .ref b11, .ref b12, .int 0, .ref b13, .ref b14, .null, .null, .null, .int 0, .int 0, .int 0, .null, .int 0, .int 0, .null])) :: ([(b1, .inl (E 0, 141, .inl fun _ => 0)), (b2, .inl (E 0, 141, .inl fun _ => 0)), (b3, .inl (E 0, 1128, .inl fun _ => 0)), (b4, .inl (E 0, 5000, .inl fun _ => 0)), (b5, .inl (E 0, 4, .inl fun _ => 0)), (b6, .inl (E 0, 4, .inl fun _ => 0)), (b7, .inl (E 0, 5, .inl fun _ => 0)), (b8, .inl (E 0, 5, .inl fun _ => 0)), (b9, .inl (E 1, 5000, .inl fun _ => 0)), (b10, .inl (E 0, 5000, .inl fun _ => 0)), (b11, .inl (E 0, 5000, .inl fun _ => 0)), (b12, .inl (E 0, 5000, .inl fun _ => 0)), (b13, .inl (E 0, 441, .inl fun _ => 0)), (b14, .inl (E 0, 45000, .inl fun _ => 0)), (b15, .inl (E 0, 26, .inl nf_10))])) H _ := hW
  refine lv_dup hx hb dX8_init_175 rfl ?_
  refine lv_bipush (v := 10) hx hb dX8_init_176 (by decide) ?_
  refine lv_iconst (v := -1) hx hb dX8_init_178 (by decide) ?_
  refine q_iastC hF hK hW 15 0 rfl rfl (by unfold vp_in; decide) dX8_init_179 (fun H locs hW => ?_)
  have hW : WD D A s ((h_, .inr (10, [.ref b1, .ref b2, .int 0, .ref b3, .int 0, .ref b4, .int (-1), .int 0, .int 0, .ref b5, .ref b6, .ref b7, .ref b8, .int 0, .ref b9, .ref b10, .ref b11, .ref b12, .int 0, .ref b13, .ref b14, .null, .null, .null, .int 0, .int 0, .int 0, .null, .int 0, .int 0, .null])) :: ([(b1, .inl (E 0, 141, .inl fun _ => 0)), (b2, .inl (E 0, 141, .inl fun _ => 0)), (b3, .inl (E 0, 1128, .inl fun _ => 0)), (b4, .inl (E 0, 5000, .inl fun _ => 0)), (b5, .inl (E 0, 4, .inl fun _ => 0)), (b6, .inl (E 0, 4, .inl fun _ => 0)), (b7, .inl (E 0, 5, .inl fun _ => 0)), (b8, .inl (E 0, 5, .inl fun _ => 0)), (b9, .inl (E 1, 5000, .inl fun _ => 0)), (b10, .inl (E 0, 5000, .inl fun _ => 0)), (b11, .inl (E 0, 5000, .inl fun _ => 0)), (b12, .inl (E 0, 5000, .inl fun _ => 0)), (b13, .inl (E 0, 441, .inl fun _ => 0)), (b14, .inl (E 0, 45000, .inl fun _ => 0)), (b15, .inl (E 0, 26, .inl nf_11))])) H _ := hW
  refine lv_dup hx hb dX8_init_180 rfl ?_
  refine lv_bipush (v := 11) hx hb dX8_init_181 (by decide) ?_
  refine lv_iconst (v := -1) hx hb dX8_init_183 (by decide) ?_
  refine q_iastC hF hK hW 15 0 rfl rfl (by unfold vp_in; decide) dX8_init_184 (fun H locs hW => ?_)
  have hW : WD D A s ((h_, .inr (10, [.ref b1, .ref b2, .int 0, .ref b3, .int 0, .ref b4, .int (-1), .int 0, .int 0, .ref b5, .ref b6, .ref b7, .ref b8, .int 0, .ref b9, .ref b10, .ref b11, .ref b12, .int 0, .ref b13, .ref b14, .null, .null, .null, .int 0, .int 0, .int 0, .null, .int 0, .int 0, .null])) :: ([(b1, .inl (E 0, 141, .inl fun _ => 0)), (b2, .inl (E 0, 141, .inl fun _ => 0)), (b3, .inl (E 0, 1128, .inl fun _ => 0)), (b4, .inl (E 0, 5000, .inl fun _ => 0)), (b5, .inl (E 0, 4, .inl fun _ => 0)), (b6, .inl (E 0, 4, .inl fun _ => 0)), (b7, .inl (E 0, 5, .inl fun _ => 0)), (b8, .inl (E 0, 5, .inl fun _ => 0)), (b9, .inl (E 1, 5000, .inl fun _ => 0)), (b10, .inl (E 0, 5000, .inl fun _ => 0)), (b11, .inl (E 0, 5000, .inl fun _ => 0)), (b12, .inl (E 0, 5000, .inl fun _ => 0)), (b13, .inl (E 0, 441, .inl fun _ => 0)), (b14, .inl (E 0, 45000, .inl fun _ => 0)), (b15, .inl (E 0, 26, .inl nf_12))])) H _ := hW
  refine lv_dup hx hb dX8_init_185 rfl ?_
  refine lv_bipush (v := 12) hx hb dX8_init_186 (by decide) ?_
  refine lv_iconst (v := -1) hx hb dX8_init_188 (by decide) ?_
  refine q_iastC hF hK hW 15 0 rfl rfl (by unfold vp_in; decide) dX8_init_189 (fun H locs hW => ?_)
  have hW : WD D A s ((h_, .inr (10, [.ref b1, .ref b2, .int 0, .ref b3, .int 0, .ref b4, .int (-1), .int 0, .int 0, .ref b5, .ref b6, .ref b7, .ref b8, .int 0, .ref b9, .ref b10, .ref b11, .ref b12, .int 0, .ref b13, .ref b14, .null, .null, .null, .int 0, .int 0, .int 0, .null, .int 0, .int 0, .null])) :: ([(b1, .inl (E 0, 141, .inl fun _ => 0)), (b2, .inl (E 0, 141, .inl fun _ => 0)), (b3, .inl (E 0, 1128, .inl fun _ => 0)), (b4, .inl (E 0, 5000, .inl fun _ => 0)), (b5, .inl (E 0, 4, .inl fun _ => 0)), (b6, .inl (E 0, 4, .inl fun _ => 0)), (b7, .inl (E 0, 5, .inl fun _ => 0)), (b8, .inl (E 0, 5, .inl fun _ => 0)), (b9, .inl (E 1, 5000, .inl fun _ => 0)), (b10, .inl (E 0, 5000, .inl fun _ => 0)), (b11, .inl (E 0, 5000, .inl fun _ => 0)), (b12, .inl (E 0, 5000, .inl fun _ => 0)), (b13, .inl (E 0, 441, .inl fun _ => 0)), (b14, .inl (E 0, 45000, .inl fun _ => 0)), (b15, .inl (E 0, 26, .inl nf_13))])) H _ := hW
  refine lv_dup hx hb dX8_init_190 rfl ?_
  refine lv_bipush (v := 13) hx hb dX8_init_191 (by decide) ?_
  refine lv_iconst (v := -1) hx hb dX8_init_193 (by decide) ?_
  refine q_iastC hF hK hW 15 0 rfl rfl (by unfold vp_in; decide) dX8_init_194 (fun H locs hW => ?_)
  have hW : WD D A s ((h_, .inr (10, [.ref b1, .ref b2, .int 0, .ref b3, .int 0, .ref b4, .int (-1), .int 0, .int 0, .ref b5, .ref b6, .ref b7, .ref b8, .int 0, .ref b9, .ref b10, .ref b11, .ref b12, .int 0, .ref b13, .ref b14, .null, .null, .null, .int 0, .int 0, .int 0, .null, .int 0, .int 0, .null])) :: ([(b1, .inl (E 0, 141, .inl fun _ => 0)), (b2, .inl (E 0, 141, .inl fun _ => 0)), (b3, .inl (E 0, 1128, .inl fun _ => 0)), (b4, .inl (E 0, 5000, .inl fun _ => 0)), (b5, .inl (E 0, 4, .inl fun _ => 0)), (b6, .inl (E 0, 4, .inl fun _ => 0)), (b7, .inl (E 0, 5, .inl fun _ => 0)), (b8, .inl (E 0, 5, .inl fun _ => 0)), (b9, .inl (E 1, 5000, .inl fun _ => 0)), (b10, .inl (E 0, 5000, .inl fun _ => 0)), (b11, .inl (E 0, 5000, .inl fun _ => 0)), (b12, .inl (E 0, 5000, .inl fun _ => 0)), (b13, .inl (E 0, 441, .inl fun _ => 0)), (b14, .inl (E 0, 45000, .inl fun _ => 0)), (b15, .inl (E 0, 26, .inl nf_14))])) H _ := hW
  refine lv_dup hx hb dX8_init_195 rfl ?_
  refine lv_bipush (v := 14) hx hb dX8_init_196 (by decide) ?_
  refine lv_iconst (v := -1) hx hb dX8_init_198 (by decide) ?_
  refine q_iastC hF hK hW 15 0 rfl rfl (by unfold vp_in; decide) dX8_init_199 (fun H locs hW => ?_)
  have hW : WD D A s ((h_, .inr (10, [.ref b1, .ref b2, .int 0, .ref b3, .int 0, .ref b4, .int (-1), .int 0, .int 0, .ref b5, .ref b6, .ref b7, .ref b8, .int 0, .ref b9, .ref b10, .ref b11, .ref b12, .int 0, .ref b13, .ref b14, .null, .null, .null, .int 0, .int 0, .int 0, .null, .int 0, .int 0, .null])) :: ([(b1, .inl (E 0, 141, .inl fun _ => 0)), (b2, .inl (E 0, 141, .inl fun _ => 0)), (b3, .inl (E 0, 1128, .inl fun _ => 0)), (b4, .inl (E 0, 5000, .inl fun _ => 0)), (b5, .inl (E 0, 4, .inl fun _ => 0)), (b6, .inl (E 0, 4, .inl fun _ => 0)), (b7, .inl (E 0, 5, .inl fun _ => 0)), (b8, .inl (E 0, 5, .inl fun _ => 0)), (b9, .inl (E 1, 5000, .inl fun _ => 0)), (b10, .inl (E 0, 5000, .inl fun _ => 0)), (b11, .inl (E 0, 5000, .inl fun _ => 0)), (b12, .inl (E 0, 5000, .inl fun _ => 0)), (b13, .inl (E 0, 441, .inl fun _ => 0)), (b14, .inl (E 0, 45000, .inl fun _ => 0)), (b15, .inl (E 0, 26, .inl nf_15))])) H _ := hW
  refine lv_dup hx hb dX8_init_200 rfl ?_
  refine lv_bipush (v := 15) hx hb dX8_init_201 (by decide) ?_
  refine lv_iconst (v := -1) hx hb dX8_init_203 (by decide) ?_
  refine q_iastC hF hK hW 15 0 rfl rfl (by unfold vp_in; decide) dX8_init_204 (fun H locs hW => ?_)
  have hW : WD D A s ((h_, .inr (10, [.ref b1, .ref b2, .int 0, .ref b3, .int 0, .ref b4, .int (-1), .int 0, .int 0, .ref b5, .ref b6, .ref b7, .ref b8, .int 0, .ref b9, .ref b10, .ref b11, .ref b12, .int 0, .ref b13, .ref b14, .null, .null, .null, .int 0, .int 0, .int 0, .null, .int 0, .int 0, .null])) :: ([(b1, .inl (E 0, 141, .inl fun _ => 0)), (b2, .inl (E 0, 141, .inl fun _ => 0)), (b3, .inl (E 0, 1128, .inl fun _ => 0)), (b4, .inl (E 0, 5000, .inl fun _ => 0)), (b5, .inl (E 0, 4, .inl fun _ => 0)), (b6, .inl (E 0, 4, .inl fun _ => 0)), (b7, .inl (E 0, 5, .inl fun _ => 0)), (b8, .inl (E 0, 5, .inl fun _ => 0)), (b9, .inl (E 1, 5000, .inl fun _ => 0)), (b10, .inl (E 0, 5000, .inl fun _ => 0)), (b11, .inl (E 0, 5000, .inl fun _ => 0)), (b12, .inl (E 0, 5000, .inl fun _ => 0)), (b13, .inl (E 0, 441, .inl fun _ => 0)), (b14, .inl (E 0, 45000, .inl fun _ => 0)), (b15, .inl (E 0, 26, .inl nf_16))])) H _ := hW
  refine lv_dup hx hb dX8_init_205 rfl ?_
  refine lv_bipush (v := 16) hx hb dX8_init_206 (by decide) ?_
  refine lv_iconst (v := -1) hx hb dX8_init_208 (by decide) ?_
  refine q_iastC hF hK hW 15 0 rfl rfl (by unfold vp_in; decide) dX8_init_209 (fun H locs hW => ?_)
  have hW : WD D A s ((h_, .inr (10, [.ref b1, .ref b2, .int 0, .ref b3, .int 0, .ref b4, .int (-1), .int 0, .int 0, .ref b5, .ref b6, .ref b7, .ref b8, .int 0, .ref b9, .ref b10, .ref b11, .ref b12, .int 0, .ref b13, .ref b14, .null, .null, .null, .int 0, .int 0, .int 0, .null, .int 0, .int 0, .null])) :: ([(b1, .inl (E 0, 141, .inl fun _ => 0)), (b2, .inl (E 0, 141, .inl fun _ => 0)), (b3, .inl (E 0, 1128, .inl fun _ => 0)), (b4, .inl (E 0, 5000, .inl fun _ => 0)), (b5, .inl (E 0, 4, .inl fun _ => 0)), (b6, .inl (E 0, 4, .inl fun _ => 0)), (b7, .inl (E 0, 5, .inl fun _ => 0)), (b8, .inl (E 0, 5, .inl fun _ => 0)), (b9, .inl (E 1, 5000, .inl fun _ => 0)), (b10, .inl (E 0, 5000, .inl fun _ => 0)), (b11, .inl (E 0, 5000, .inl fun _ => 0)), (b12, .inl (E 0, 5000, .inl fun _ => 0)), (b13, .inl (E 0, 441, .inl fun _ => 0)), (b14, .inl (E 0, 45000, .inl fun _ => 0)), (b15, .inl (E 0, 26, .inl nf_17))])) H _ := hW
  refine lv_dup hx hb dX8_init_210 rfl ?_
  refine lv_bipush (v := 17) hx hb dX8_init_211 (by decide) ?_
  refine lv_iconst (v := -1) hx hb dX8_init_213 (by decide) ?_
  refine q_iastC hF hK hW 15 0 rfl rfl (by unfold vp_in; decide) dX8_init_214 (fun H locs hW => ?_)
  have hW : WD D A s ((h_, .inr (10, [.ref b1, .ref b2, .int 0, .ref b3, .int 0, .ref b4, .int (-1), .int 0, .int 0, .ref b5, .ref b6, .ref b7, .ref b8, .int 0, .ref b9, .ref b10, .ref b11, .ref b12, .int 0, .ref b13, .ref b14, .null, .null, .null, .int 0, .int 0, .int 0, .null, .int 0, .int 0, .null])) :: ([(b1, .inl (E 0, 141, .inl fun _ => 0)), (b2, .inl (E 0, 141, .inl fun _ => 0)), (b3, .inl (E 0, 1128, .inl fun _ => 0)), (b4, .inl (E 0, 5000, .inl fun _ => 0)), (b5, .inl (E 0, 4, .inl fun _ => 0)), (b6, .inl (E 0, 4, .inl fun _ => 0)), (b7, .inl (E 0, 5, .inl fun _ => 0)), (b8, .inl (E 0, 5, .inl fun _ => 0)), (b9, .inl (E 1, 5000, .inl fun _ => 0)), (b10, .inl (E 0, 5000, .inl fun _ => 0)), (b11, .inl (E 0, 5000, .inl fun _ => 0)), (b12, .inl (E 0, 5000, .inl fun _ => 0)), (b13, .inl (E 0, 441, .inl fun _ => 0)), (b14, .inl (E 0, 45000, .inl fun _ => 0)), (b15, .inl (E 0, 26, .inl nf_18))])) H _ := hW
  refine lv_dup hx hb dX8_init_215 rfl ?_
  refine lv_bipush (v := 18) hx hb dX8_init_216 (by decide) ?_
  refine lv_iconst (v := -1) hx hb dX8_init_218 (by decide) ?_
  refine q_iastC hF hK hW 15 0 rfl rfl (by unfold vp_in; decide) dX8_init_219 (fun H locs hW => ?_)
  have hW : WD D A s ((h_, .inr (10, [.ref b1, .ref b2, .int 0, .ref b3, .int 0, .ref b4, .int (-1), .int 0, .int 0, .ref b5, .ref b6, .ref b7, .ref b8, .int 0, .ref b9, .ref b10, .ref b11, .ref b12, .int 0, .ref b13, .ref b14, .null, .null, .null, .int 0, .int 0, .int 0, .null, .int 0, .int 0, .null])) :: ([(b1, .inl (E 0, 141, .inl fun _ => 0)), (b2, .inl (E 0, 141, .inl fun _ => 0)), (b3, .inl (E 0, 1128, .inl fun _ => 0)), (b4, .inl (E 0, 5000, .inl fun _ => 0)), (b5, .inl (E 0, 4, .inl fun _ => 0)), (b6, .inl (E 0, 4, .inl fun _ => 0)), (b7, .inl (E 0, 5, .inl fun _ => 0)), (b8, .inl (E 0, 5, .inl fun _ => 0)), (b9, .inl (E 1, 5000, .inl fun _ => 0)), (b10, .inl (E 0, 5000, .inl fun _ => 0)), (b11, .inl (E 0, 5000, .inl fun _ => 0)), (b12, .inl (E 0, 5000, .inl fun _ => 0)), (b13, .inl (E 0, 441, .inl fun _ => 0)), (b14, .inl (E 0, 45000, .inl fun _ => 0)), (b15, .inl (E 0, 26, .inl nf_19))])) H _ := hW
  refine lv_dup hx hb dX8_init_220 rfl ?_
  refine lv_bipush (v := 19) hx hb dX8_init_221 (by decide) ?_
  refine lv_iconst (v := -1) hx hb dX8_init_223 (by decide) ?_
  refine q_iastC hF hK hW 15 0 rfl rfl (by unfold vp_in; decide) dX8_init_224 (fun H locs hW => ?_)
  have hW : WD D A s ((h_, .inr (10, [.ref b1, .ref b2, .int 0, .ref b3, .int 0, .ref b4, .int (-1), .int 0, .int 0, .ref b5, .ref b6, .ref b7, .ref b8, .int 0, .ref b9, .ref b10, .ref b11, .ref b12, .int 0, .ref b13, .ref b14, .null, .null, .null, .int 0, .int 0, .int 0, .null, .int 0, .int 0, .null])) :: ([(b1, .inl (E 0, 141, .inl fun _ => 0)), (b2, .inl (E 0, 141, .inl fun _ => 0)), (b3, .inl (E 0, 1128, .inl fun _ => 0)), (b4, .inl (E 0, 5000, .inl fun _ => 0)), (b5, .inl (E 0, 4, .inl fun _ => 0)), (b6, .inl (E 0, 4, .inl fun _ => 0)), (b7, .inl (E 0, 5, .inl fun _ => 0)), (b8, .inl (E 0, 5, .inl fun _ => 0)), (b9, .inl (E 1, 5000, .inl fun _ => 0)), (b10, .inl (E 0, 5000, .inl fun _ => 0)), (b11, .inl (E 0, 5000, .inl fun _ => 0)), (b12, .inl (E 0, 5000, .inl fun _ => 0)), (b13, .inl (E 0, 441, .inl fun _ => 0)), (b14, .inl (E 0, 45000, .inl fun _ => 0)), (b15, .inl (E 0, 26, .inl nf_20))])) H _ := hW
  refine lv_dup hx hb dX8_init_225 rfl ?_
  refine lv_bipush (v := 20) hx hb dX8_init_226 (by decide) ?_
  refine lv_iconst (v := -1) hx hb dX8_init_228 (by decide) ?_
  refine q_iastC hF hK hW 15 0 rfl rfl (by unfold vp_in; decide) dX8_init_229 (fun H locs hW => ?_)
  have hW : WD D A s ((h_, .inr (10, [.ref b1, .ref b2, .int 0, .ref b3, .int 0, .ref b4, .int (-1), .int 0, .int 0, .ref b5, .ref b6, .ref b7, .ref b8, .int 0, .ref b9, .ref b10, .ref b11, .ref b12, .int 0, .ref b13, .ref b14, .null, .null, .null, .int 0, .int 0, .int 0, .null, .int 0, .int 0, .null])) :: ([(b1, .inl (E 0, 141, .inl fun _ => 0)), (b2, .inl (E 0, 141, .inl fun _ => 0)), (b3, .inl (E 0, 1128, .inl fun _ => 0)), (b4, .inl (E 0, 5000, .inl fun _ => 0)), (b5, .inl (E 0, 4, .inl fun _ => 0)), (b6, .inl (E 0, 4, .inl fun _ => 0)), (b7, .inl (E 0, 5, .inl fun _ => 0)), (b8, .inl (E 0, 5, .inl fun _ => 0)), (b9, .inl (E 1, 5000, .inl fun _ => 0)), (b10, .inl (E 0, 5000, .inl fun _ => 0)), (b11, .inl (E 0, 5000, .inl fun _ => 0)), (b12, .inl (E 0, 5000, .inl fun _ => 0)), (b13, .inl (E 0, 441, .inl fun _ => 0)), (b14, .inl (E 0, 45000, .inl fun _ => 0)), (b15, .inl (E 0, 26, .inl nf_21))])) H _ := hW
  refine lv_dup hx hb dX8_init_230 rfl ?_
  refine lv_bipush (v := 21) hx hb dX8_init_231 (by decide) ?_
  refine lv_iconst (v := -1) hx hb dX8_init_233 (by decide) ?_
  refine q_iastC hF hK hW 15 0 rfl rfl (by unfold vp_in; decide) dX8_init_234 (fun H locs hW => ?_)
  have hW : WD D A s ((h_, .inr (10, [.ref b1, .ref b2, .int 0, .ref b3, .int 0, .ref b4, .int (-1), .int 0, .int 0, .ref b5, .ref b6, .ref b7, .ref b8, .int 0, .ref b9, .ref b10, .ref b11, .ref b12, .int 0, .ref b13, .ref b14, .null, .null, .null, .int 0, .int 0, .int 0, .null, .int 0, .int 0, .null])) :: ([(b1, .inl (E 0, 141, .inl fun _ => 0)), (b2, .inl (E 0, 141, .inl fun _ => 0)), (b3, .inl (E 0, 1128, .inl fun _ => 0)), (b4, .inl (E 0, 5000, .inl fun _ => 0)), (b5, .inl (E 0, 4, .inl fun _ => 0)), (b6, .inl (E 0, 4, .inl fun _ => 0)), (b7, .inl (E 0, 5, .inl fun _ => 0)), (b8, .inl (E 0, 5, .inl fun _ => 0)), (b9, .inl (E 1, 5000, .inl fun _ => 0)), (b10, .inl (E 0, 5000, .inl fun _ => 0)), (b11, .inl (E 0, 5000, .inl fun _ => 0)), (b12, .inl (E 0, 5000, .inl fun _ => 0)), (b13, .inl (E 0, 441, .inl fun _ => 0)), (b14, .inl (E 0, 45000, .inl fun _ => 0)), (b15, .inl (E 0, 26, .inl nf_22))])) H _ := hW
  refine lv_dup hx hb dX8_init_235 rfl ?_
  refine lv_bipush (v := 22) hx hb dX8_init_236 (by decide) ?_
  refine lv_iconst (v := -1) hx hb dX8_init_238 (by decide) ?_
  refine q_iastC hF hK hW 15 0 rfl rfl (by unfold vp_in; decide) dX8_init_239 (fun H locs hW => ?_)
  have hW : WD D A s ((h_, .inr (10, [.ref b1, .ref b2, .int 0, .ref b3, .int 0, .ref b4, .int (-1), .int 0, .int 0, .ref b5, .ref b6, .ref b7, .ref b8, .int 0, .ref b9, .ref b10, .ref b11, .ref b12, .int 0, .ref b13, .ref b14, .null, .null, .null, .int 0, .int 0, .int 0, .null, .int 0, .int 0, .null])) :: ([(b1, .inl (E 0, 141, .inl fun _ => 0)), (b2, .inl (E 0, 141, .inl fun _ => 0)), (b3, .inl (E 0, 1128, .inl fun _ => 0)), (b4, .inl (E 0, 5000, .inl fun _ => 0)), (b5, .inl (E 0, 4, .inl fun _ => 0)), (b6, .inl (E 0, 4, .inl fun _ => 0)), (b7, .inl (E 0, 5, .inl fun _ => 0)), (b8, .inl (E 0, 5, .inl fun _ => 0)), (b9, .inl (E 1, 5000, .inl fun _ => 0)), (b10, .inl (E 0, 5000, .inl fun _ => 0)), (b11, .inl (E 0, 5000, .inl fun _ => 0)), (b12, .inl (E 0, 5000, .inl fun _ => 0)), (b13, .inl (E 0, 441, .inl fun _ => 0)), (b14, .inl (E 0, 45000, .inl fun _ => 0)), (b15, .inl (E 0, 26, .inl nf_23))])) H _ := hW
  refine lv_dup hx hb dX8_init_240 rfl ?_
  refine lv_bipush (v := 23) hx hb dX8_init_241 (by decide) ?_
  refine lv_iconst (v := -1) hx hb dX8_init_243 (by decide) ?_
  refine q_iastC hF hK hW 15 0 rfl rfl (by unfold vp_in; decide) dX8_init_244 (fun H locs hW => ?_)
  have hW : WD D A s ((h_, .inr (10, [.ref b1, .ref b2, .int 0, .ref b3, .int 0, .ref b4, .int (-1), .int 0, .int 0, .ref b5, .ref b6, .ref b7, .ref b8, .int 0, .ref b9, .ref b10, .ref b11, .ref b12, .int 0, .ref b13, .ref b14, .null, .null, .null, .int 0, .int 0, .int 0, .null, .int 0, .int 0, .null])) :: ([(b1, .inl (E 0, 141, .inl fun _ => 0)), (b2, .inl (E 0, 141, .inl fun _ => 0)), (b3, .inl (E 0, 1128, .inl fun _ => 0)), (b4, .inl (E 0, 5000, .inl fun _ => 0)), (b5, .inl (E 0, 4, .inl fun _ => 0)), (b6, .inl (E 0, 4, .inl fun _ => 0)), (b7, .inl (E 0, 5, .inl fun _ => 0)), (b8, .inl (E 0, 5, .inl fun _ => 0)), (b9, .inl (E 1, 5000, .inl fun _ => 0)), (b10, .inl (E 0, 5000, .inl fun _ => 0)), (b11, .inl (E 0, 5000, .inl fun _ => 0)), (b12, .inl (E 0, 5000, .inl fun _ => 0)), (b13, .inl (E 0, 441, .inl fun _ => 0)), (b14, .inl (E 0, 45000, .inl fun _ => 0)), (b15, .inl (E 0, 26, .inl nf_24))])) H _ := hW
  refine lv_dup hx hb dX8_init_245 rfl ?_
  refine lv_bipush (v := 24) hx hb dX8_init_246 (by decide) ?_
  refine lv_iconst (v := -1) hx hb dX8_init_248 (by decide) ?_
  refine q_iastC hF hK hW 15 0 rfl rfl (by unfold vp_in; decide) dX8_init_249 (fun H locs hW => ?_)
  have hW : WD D A s ((h_, .inr (10, [.ref b1, .ref b2, .int 0, .ref b3, .int 0, .ref b4, .int (-1), .int 0, .int 0, .ref b5, .ref b6, .ref b7, .ref b8, .int 0, .ref b9, .ref b10, .ref b11, .ref b12, .int 0, .ref b13, .ref b14, .null, .null, .null, .int 0, .int 0, .int 0, .null, .int 0, .int 0, .null])) :: ([(b1, .inl (E 0, 141, .inl fun _ => 0)), (b2, .inl (E 0, 141, .inl fun _ => 0)), (b3, .inl (E 0, 1128, .inl fun _ => 0)), (b4, .inl (E 0, 5000, .inl fun _ => 0)), (b5, .inl (E 0, 4, .inl fun _ => 0)), (b6, .inl (E 0, 4, .inl fun _ => 0)), (b7, .inl (E 0, 5, .inl fun _ => 0)), (b8, .inl (E 0, 5, .inl fun _ => 0)), (b9, .inl (E 1, 5000, .inl fun _ => 0)), (b10, .inl (E 0, 5000, .inl fun _ => 0)), (b11, .inl (E 0, 5000, .inl fun _ => 0)), (b12, .inl (E 0, 5000, .inl fun _ => 0)), (b13, .inl (E 0, 441, .inl fun _ => 0)), (b14, .inl (E 0, 45000, .inl fun _ => 0)), (b15, .inl (E 0, 26, .inl nf_25))])) H _ := hW
  refine lv_dup hx hb dX8_init_250 rfl ?_
  refine lv_bipush (v := 25) hx hb dX8_init_251 (by decide) ?_
  refine lv_iconst (v := -1) hx hb dX8_init_253 (by decide) ?_
  refine q_iastC hF hK hW 15 0 rfl rfl (by unfold vp_in; decide) dX8_init_254 (fun H locs hW => ?_)
  have hW : WD D A s ((h_, .inr (10, [.ref b1, .ref b2, .int 0, .ref b3, .int 0, .ref b4, .int (-1), .int 0, .int 0, .ref b5, .ref b6, .ref b7, .ref b8, .int 0, .ref b9, .ref b10, .ref b11, .ref b12, .int 0, .ref b13, .ref b14, .null, .null, .null, .int 0, .int 0, .int 0, .null, .int 0, .int 0, .null])) :: ([(b1, .inl (E 0, 141, .inl fun _ => 0)), (b2, .inl (E 0, 141, .inl fun _ => 0)), (b3, .inl (E 0, 1128, .inl fun _ => 0)), (b4, .inl (E 0, 5000, .inl fun _ => 0)), (b5, .inl (E 0, 4, .inl fun _ => 0)), (b6, .inl (E 0, 4, .inl fun _ => 0)), (b7, .inl (E 0, 5, .inl fun _ => 0)), (b8, .inl (E 0, 5, .inl fun _ => 0)), (b9, .inl (E 1, 5000, .inl fun _ => 0)), (b10, .inl (E 0, 5000, .inl fun _ => 0)), (b11, .inl (E 0, 5000, .inl fun _ => 0)), (b12, .inl (E 0, 5000, .inl fun _ => 0)), (b13, .inl (E 0, 441, .inl fun _ => 0)), (b14, .inl (E 0, 45000, .inl fun _ => 0)), (b15, .inl (E 0, 26, .inl nf_26))])) H _ := hW
  have hW := WD_cell hW 15 rfl (y := (26, .inl fun _ => -1)) (celli 26 _ _ nf_ok _)
  have hW : WD D A s ((h_, .inr (10, [.ref b1, .ref b2, .int 0, .ref b3, .int 0, .ref b4, .int (-1), .int 0, .int 0, .ref b5, .ref b6, .ref b7, .ref b8, .int 0, .ref b9, .ref b10, .ref b11, .ref b12, .int 0, .ref b13, .ref b14, .null, .null, .null, .int 0, .int 0, .int 0, .null, .int 0, .int 0, .null])) :: ([(b1, .inl (E 0, 141, .inl fun _ => 0)), (b2, .inl (E 0, 141, .inl fun _ => 0)), (b3, .inl (E 0, 1128, .inl fun _ => 0)), (b4, .inl (E 0, 5000, .inl fun _ => 0)), (b5, .inl (E 0, 4, .inl fun _ => 0)), (b6, .inl (E 0, 4, .inl fun _ => 0)), (b7, .inl (E 0, 5, .inl fun _ => 0)), (b8, .inl (E 0, 5, .inl fun _ => 0)), (b9, .inl (E 1, 5000, .inl fun _ => 0)), (b10, .inl (E 0, 5000, .inl fun _ => 0)), (b11, .inl (E 0, 5000, .inl fun _ => 0)), (b12, .inl (E 0, 5000, .inl fun _ => 0)), (b13, .inl (E 0, 441, .inl fun _ => 0)), (b14, .inl (E 0, 45000, .inl fun _ => 0)), (b15, .inl (E 0, 26, .inl fun _ => -1))])) H _ := hW
  refine q_putF hF hin hK hW fl_X8_58 ft_X8 rfl rfl 0 rfl rfl rfl (Nat.le_of_ble_eq_true rfl) dX8_init_255 (fun H locs hW => ?_)
  have hW : WD D A s ((h_, .inr (10, [.ref b1, .ref b2, .int 0, .ref b3, .int 0, .ref b4, .int (-1), .int 0, .int 0, .ref b5, .ref b6, .ref b7, .ref b8, .int 0, .ref b9, .ref b10, .ref b11, .ref b12, .int 0, .ref b13, .ref b14, .ref b15, .null, .null, .int 0, .int 0, .int 0, .null, .int 0, .int 0, .null])) :: ([(b1, .inl (E 0, 141, .inl fun _ => 0)), (b2, .inl (E 0, 141, .inl fun _ => 0)), (b3, .inl (E 0, 1128, .inl fun _ => 0)), (b4, .inl (E 0, 5000, .inl fun _ => 0)), (b5, .inl (E 0, 4, .inl fun _ => 0)), (b6, .inl (E 0, 4, .inl fun _ => 0)), (b7, .inl (E 0, 5, .inl fun _ => 0)), (b8, .inl (E 0, 5, .inl fun _ => 0)), (b9, .inl (E 1, 5000, .inl fun _ => 0)), (b10, .inl (E 0, 5000, .inl fun _ => 0)), (b11, .inl (E 0, 5000, .inl fun _ => 0)), (b12, .inl (E 0, 5000, .inl fun _ => 0)), (b13, .inl (E 0, 441, .inl fun _ => 0)), (b14, .inl (E 0, 45000, .inl fun _ => 0)), (b15, .inl (E 0, 26, .inl fun _ => -1))])) H _ := hW
  refine lv_aload_n hx hb dX8_init_258 rfl (lv_at hl 0 rfl) ?_
  refine lv_bipush (v := 104) hx hb dX8_init_259 (by decide) ?_
  refine q_newA hF hK hA hW ac_int rfl 0 rfl (fun _ => rfl) (N' := 104) (a0 := (104, .inl fun _ => 0)) (fun _ => rfl) (by decide) (by decide) (Nat.le_of_ble_eq_true rfl) (Nat.le_of_ble_eq_true rfl) (Nat.le_of_ble_eq_true rfl) dX8_init_261 (fun b16 H hW => ?_)
  have hW : WD D A s ((h_, .inr (10, [.ref b1, .ref b2, .int 0, .ref b3, .int 0, .ref b4, .int (-1), .int 0, .int 0, .ref b5, .ref b6, .ref b7, .ref b8, .int 0, .ref b9, .ref b10, .ref b11, .ref b12, .int 0, .ref b13, .ref b14, .ref b15, .null, .null, .int 0, .int 0, .int 0, .null, .int 0, .int 0, .null])) :: ([(b1, .inl (E 0, 141, .inl fun _ => 0)), (b2, .inl (E 0, 141, .inl fun _ => 0)), (b3, .inl (E 0, 1128, .inl fun _ => 0)), (b4, .inl (E 0, 5000, .inl fun _ => 0)), (b5, .inl (E 0, 4, .inl fun _ => 0)), (b6, .inl (E 0, 4, .inl fun _ => 0)), (b7, .inl (E 0, 5, .inl fun _ => 0)), (b8, .inl (E 0, 5, .inl fun _ => 0)), (b9, .inl (E 1, 5000, .inl fun _ => 0)), (b10, .inl (E 0, 5000, .inl fun _ => 0)), (b11, .inl (E 0, 5000, .inl fun _ => 0)), (b12, .inl (E 0, 5000, .inl fun _ => 0)), (b13, .inl (E 0, 441, .inl fun _ => 0)), (b14, .inl (E 0, 45000, .inl fun _ => 0)), (b15, .inl (E 0, 26, .inl fun _ => -1)), (b16, .inl (E 0, 104, .inl fun _ => 0))])) H _ := hW
  refine q_putF hF hin hK hW fl_X8_61 ft_X8 rfl rfl 0 rfl rfl rfl (Nat.le_of_ble_eq_true rfl) dX8_init_263 (fun H locs hW => ?_)
  have hW : WD D A s ((h_, .inr (10, [.ref b1, .ref b2, .int 0, .ref b3, .int 0, .ref b4, .int (-1), .int 0, .int 0, .ref b5, .ref b6, .ref b7, .ref b8, .int 0, .ref b9, .ref b10, .ref b11, .ref b12, .int 0, .ref b13, .ref b14, .ref b15, .ref b16, .null, .int 0, .int 0, .int 0, .null, .int 0, .int 0, .null])) :: ([(b1, .inl (E 0, 141, .inl fun _ => 0)), (b2, .inl (E 0, 141, .inl fun _ => 0)), (b3, .inl (E 0, 1128, .inl fun _ => 0)), (b4, .inl (E 0, 5000, .inl fun _ => 0)), (b5, .inl (E 0, 4, .inl fun _ => 0)), (b6, .inl (E 0, 4, .inl fun _ => 0)), (b7, .inl (E 0, 5, .inl fun _ => 0)), (b8, .inl (E 0, 5, .inl fun _ => 0)), (b9, .inl (E 1, 5000, .inl fun _ => 0)), (b10, .inl (E 0, 5000, .inl fun _ => 0)), (b11, .inl (E 0, 5000, .inl fun _ => 0)), (b12, .inl (E 0, 5000, .inl fun _ => 0)), (b13, .inl (E 0, 441, .inl fun _ => 0)), (b14, .inl (E 0, 45000, .inl fun _ => 0)), (b15, .inl (E 0, 26, .inl fun _ => -1)), (b16, .inl (E 0, 104, .inl fun _ => 0))])) H _ := hW
  refine lv_aload_n hx hb dX8_init_266 rfl (lv_at hl 0 rfl) ?_
  refine lv_bipush (v := 60) hx hb dX8_init_267 (by decide) ?_
  refine q_newA hF hK hA hW ac_int rfl 0 rfl (fun _ => rfl) (N' := 60) (a0 := (60, .inl fun _ => 0)) (fun _ => rfl) (by decide) (by decide) (Nat.le_of_ble_eq_true rfl) (Nat.le_of_ble_eq_true rfl) (Nat.le_of_ble_eq_true rfl) dX8_init_269 (fun b17 H hW => ?_)
  have hW : WD D A s ((h_, .inr (10, [.ref b1, .ref b2, .int 0, .ref b3, .int 0, .ref b4, .int (-1), .int 0, .int 0, .ref b5, .ref b6, .ref b7, .ref b8, .int 0, .ref b9, .ref b10, .ref b11, .ref b12, .int 0, .ref b13, .ref b14, .ref b15, .ref b16, .null, .int 0, .int 0, .int 0, .null, .int 0, .int 0, .null])) :: ([(b1, .inl (E 0, 141, .inl fun _ => 0)), (b2, .inl (E 0, 141, .inl fun _ => 0)), (b3, .inl (E 0, 1128, .inl fun _ => 0)), (b4, .inl (E 0, 5000, .inl fun _ => 0)), (b5, .inl (E 0, 4, .inl fun _ => 0)), (b6, .inl (E 0, 4, .inl fun _ => 0)), (b7, .inl (E 0, 5, .inl fun _ => 0)), (b8, .inl (E 0, 5, .inl fun _ => 0)), (b9, .inl (E 1, 5000, .inl fun _ => 0)), (b10, .inl (E 0, 5000, .inl fun _ => 0)), (b11, .inl (E 0, 5000, .inl fun _ => 0)), (b12, .inl (E 0, 5000, .inl fun _ => 0)), (b13, .inl (E 0, 441, .inl fun _ => 0)), (b14, .inl (E 0, 45000, .inl fun _ => 0)), (b15, .inl (E 0, 26, .inl fun _ => -1)), (b16, .inl (E 0, 104, .inl fun _ => 0)), (b17, .inl (E 0, 60, .inl fun _ => 0))])) H _ := hW
  refine q_putF hF hin hK hW fl_X8_64 ft_X8 rfl rfl 0 rfl rfl rfl (Nat.le_of_ble_eq_true rfl) dX8_init_271 (fun H locs hW => ?_)
  have hW : WD D A s ((h_, .inr (10, [.ref b1, .ref b2, .int 0, .ref b3, .int 0, .ref b4, .int (-1), .int 0, .int 0, .ref b5, .ref b6, .ref b7, .ref b8, .int 0, .ref b9, .ref b10, .ref b11, .ref b12, .int 0, .ref b13, .ref b14, .ref b15, .ref b16, .ref b17, .int 0, .int 0, .int 0, .null, .int 0, .int 0, .null])) :: ([(b1, .inl (E 0, 141, .inl fun _ => 0)), (b2, .inl (E 0, 141, .inl fun _ => 0)), (b3, .inl (E 0, 1128, .inl fun _ => 0)), (b4, .inl (E 0, 5000, .inl fun _ => 0)), (b5, .inl (E 0, 4, .inl fun _ => 0)), (b6, .inl (E 0, 4, .inl fun _ => 0)), (b7, .inl (E 0, 5, .inl fun _ => 0)), (b8, .inl (E 0, 5, .inl fun _ => 0)), (b9, .inl (E 1, 5000, .inl fun _ => 0)), (b10, .inl (E 0, 5000, .inl fun _ => 0)), (b11, .inl (E 0, 5000, .inl fun _ => 0)), (b12, .inl (E 0, 5000, .inl fun _ => 0)), (b13, .inl (E 0, 441, .inl fun _ => 0)), (b14, .inl (E 0, 45000, .inl fun _ => 0)), (b15, .inl (E 0, 26, .inl fun _ => -1)), (b16, .inl (E 0, 104, .inl fun _ => 0)), (b17, .inl (E 0, 60, .inl fun _ => 0))])) H _ := hW
  refine lv_aload_n hx hb dX8_init_274 rfl (lv_at hl 0 rfl) ?_
  refine lv_iconst (v := -1) hx hb dX8_init_275 (by decide) ?_
  refine q_put hF hK hW fl_X8_67 ft_X8 rfl 0 rfl rfl rfl (Nat.le_of_ble_eq_true rfl) dX8_init_276 (fun H locs hW => ?_)
  have hW : WD D A s ((h_, .inr (10, [.ref b1, .ref b2, .int 0, .ref b3, .int 0, .ref b4, .int (-1), .int 0, .int 0, .ref b5, .ref b6, .ref b7, .ref b8, .int 0, .ref b9, .ref b10, .ref b11, .ref b12, .int 0, .ref b13, .ref b14, .ref b15, .ref b16, .ref b17, .int 0, .int 0, .int (-1), .null, .int 0, .int 0, .null])) :: ([(b1, .inl (E 0, 141, .inl fun _ => 0)), (b2, .inl (E 0, 141, .inl fun _ => 0)), (b3, .inl (E 0, 1128, .inl fun _ => 0)), (b4, .inl (E 0, 5000, .inl fun _ => 0)), (b5, .inl (E 0, 4, .inl fun _ => 0)), (b6, .inl (E 0, 4, .inl fun _ => 0)), (b7, .inl (E 0, 5, .inl fun _ => 0)), (b8, .inl (E 0, 5, .inl fun _ => 0)), (b9, .inl (E 1, 5000, .inl fun _ => 0)), (b10, .inl (E 0, 5000, .inl fun _ => 0)), (b11, .inl (E 0, 5000, .inl fun _ => 0)), (b12, .inl (E 0, 5000, .inl fun _ => 0)), (b13, .inl (E 0, 441, .inl fun _ => 0)), (b14, .inl (E 0, 45000, .inl fun _ => 0)), (b15, .inl (E 0, 26, .inl fun _ => -1)), (b16, .inl (E 0, 104, .inl fun _ => 0)), (b17, .inl (E 0, 60, .inl fun _ => 0))])) H _ := hW
  refine lv_aload_n hx hb dX8_init_279 rfl (lv_at hl 0 rfl) ?_
  refine lv_bipush (v := 60) hx hb dX8_init_280 (by decide) ?_
  refine q_newA hF hK hA hW ac_int rfl 0 rfl (fun _ => rfl) (N' := 60) (a0 := (60, .inl fun _ => 0)) (fun _ => rfl) (by decide) (by decide) (Nat.le_of_ble_eq_true rfl) (Nat.le_of_ble_eq_true rfl) (Nat.le_of_ble_eq_true rfl) dX8_init_282 (fun b18 H hW => ?_)
  have hW : WD D A s ((h_, .inr (10, [.ref b1, .ref b2, .int 0, .ref b3, .int 0, .ref b4, .int (-1), .int 0, .int 0, .ref b5, .ref b6, .ref b7, .ref b8, .int 0, .ref b9, .ref b10, .ref b11, .ref b12, .int 0, .ref b13, .ref b14, .ref b15, .ref b16, .ref b17, .int 0, .int 0, .int (-1), .null, .int 0, .int 0, .null])) :: ([(b1, .inl (E 0, 141, .inl fun _ => 0)), (b2, .inl (E 0, 141, .inl fun _ => 0)), (b3, .inl (E 0, 1128, .inl fun _ => 0)), (b4, .inl (E 0, 5000, .inl fun _ => 0)), (b5, .inl (E 0, 4, .inl fun _ => 0)), (b6, .inl (E 0, 4, .inl fun _ => 0)), (b7, .inl (E 0, 5, .inl fun _ => 0)), (b8, .inl (E 0, 5, .inl fun _ => 0)), (b9, .inl (E 1, 5000, .inl fun _ => 0)), (b10, .inl (E 0, 5000, .inl fun _ => 0)), (b11, .inl (E 0, 5000, .inl fun _ => 0)), (b12, .inl (E 0, 5000, .inl fun _ => 0)), (b13, .inl (E 0, 441, .inl fun _ => 0)), (b14, .inl (E 0, 45000, .inl fun _ => 0)), (b15, .inl (E 0, 26, .inl fun _ => -1)), (b16, .inl (E 0, 104, .inl fun _ => 0)), (b17, .inl (E 0, 60, .inl fun _ => 0)), (b18, .inl (E 0, 60, .inl fun _ => 0))])) H _ := hW
  refine q_putF hF hin hK hW fl_X8_70 ft_X8 rfl rfl 0 rfl rfl rfl (Nat.le_of_ble_eq_true rfl) dX8_init_284 (fun H locs hW => ?_)
  have hW : WD D A s ((h_, .inr (10, [.ref b1, .ref b2, .int 0, .ref b3, .int 0, .ref b4, .int (-1), .int 0, .int 0, .ref b5, .ref b6, .ref b7, .ref b8, .int 0, .ref b9, .ref b10, .ref b11, .ref b12, .int 0, .ref b13, .ref b14, .ref b15, .ref b16, .ref b17, .int 0, .int 0, .int (-1), .ref b18, .int 0, .int 0, .null])) :: ([(b1, .inl (E 0, 141, .inl fun _ => 0)), (b2, .inl (E 0, 141, .inl fun _ => 0)), (b3, .inl (E 0, 1128, .inl fun _ => 0)), (b4, .inl (E 0, 5000, .inl fun _ => 0)), (b5, .inl (E 0, 4, .inl fun _ => 0)), (b6, .inl (E 0, 4, .inl fun _ => 0)), (b7, .inl (E 0, 5, .inl fun _ => 0)), (b8, .inl (E 0, 5, .inl fun _ => 0)), (b9, .inl (E 1, 5000, .inl fun _ => 0)), (b10, .inl (E 0, 5000, .inl fun _ => 0)), (b11, .inl (E 0, 5000, .inl fun _ => 0)), (b12, .inl (E 0, 5000, .inl fun _ => 0)), (b13, .inl (E 0, 441, .inl fun _ => 0)), (b14, .inl (E 0, 45000, .inl fun _ => 0)), (b15, .inl (E 0, 26, .inl fun _ => -1)), (b16, .inl (E 0, 104, .inl fun _ => 0)), (b17, .inl (E 0, 60, .inl fun _ => 0)), (b18, .inl (E 0, 60, .inl fun _ => 0))])) H _ := hW
  refine lv_aload_n hx hb dX8_init_287 rfl (lv_at hl 0 rfl) ?_
  refine lv_sipush (v := 141) hx hb dX8_init_288 (by decide) ?_
  refine q_newA hF hK hA hW ac_int rfl 0 rfl (fun _ => rfl) (N' := 141) (a0 := (141, .inl fun _ => 0)) (fun _ => rfl) (by decide) (by decide) (Nat.le_of_ble_eq_true rfl) (Nat.le_of_ble_eq_true rfl) (Nat.le_of_ble_eq_true rfl) dX8_init_291 (fun b19 H hW => ?_)
  have hW : WD D A s ((h_, .inr (10, [.ref b1, .ref b2, .int 0, .ref b3, .int 0, .ref b4, .int (-1), .int 0, .int 0, .ref b5, .ref b6, .ref b7, .ref b8, .int 0, .ref b9, .ref b10, .ref b11, .ref b12, .int 0, .ref b13, .ref b14, .ref b15, .ref b16, .ref b17, .int 0, .int 0, .int (-1), .ref b18, .int 0, .int 0, .null])) :: ([(b1, .inl (E 0, 141, .inl fun _ => 0)), (b2, .inl (E 0, 141, .inl fun _ => 0)), (b3, .inl (E 0, 1128, .inl fun _ => 0)), (b4, .inl (E 0, 5000, .inl fun _ => 0)), (b5, .inl (E 0, 4, .inl fun _ => 0)), (b6, .inl (E 0, 4, .inl fun _ => 0)), (b7, .inl (E 0, 5, .inl fun _ => 0)), (b8, .inl (E 0, 5, .inl fun _ => 0)), (b9, .inl (E 1, 5000, .inl fun _ => 0)), (b10, .inl (E 0, 5000, .inl fun _ => 0)), (b11, .inl (E 0, 5000, .inl fun _ => 0)), (b12, .inl (E 0, 5000, .inl fun _ => 0)), (b13, .inl (E 0, 441, .inl fun _ => 0)), (b14, .inl (E 0, 45000, .inl fun _ => 0)), (b15, .inl (E 0, 26, .inl fun _ => -1)), (b16, .inl (E 0, 104, .inl fun _ => 0)), (b17, .inl (E 0, 60, .inl fun _ => 0)), (b18, .inl (E 0, 60, .inl fun _ => 0)), (b19, .inl (E 0, 141, .inl fun _ => 0))])) H _ := hW
  refine q_putF hF hin hK hW fl_X8_73 ft_X8 rfl rfl 0 rfl rfl rfl (Nat.le_of_ble_eq_true rfl) dX8_init_293 (fun H locs hW => ?_)
  have hW : WD D A s ((h_, .inr (10, [.ref b1, .ref b2, .int 0, .ref b3, .int 0, .ref b4, .int (-1), .int 0, .int 0, .ref b5, .ref b6, .ref b7, .ref b8, .int 0, .ref b9, .ref b10, .ref b11, .ref b12, .int 0, .ref b13, .ref b14, .ref b15, .ref b16, .ref b17, .int 0, .int 0, .int (-1), .ref b18, .int 0, .int 0, .ref b19])) :: ([(b1, .inl (E 0, 141, .inl fun _ => 0)), (b2, .inl (E 0, 141, .inl fun _ => 0)), (b3, .inl (E 0, 1128, .inl fun _ => 0)), (b4, .inl (E 0, 5000, .inl fun _ => 0)), (b5, .inl (E 0, 4, .inl fun _ => 0)), (b6, .inl (E 0, 4, .inl fun _ => 0)), (b7, .inl (E 0, 5, .inl fun _ => 0)), (b8, .inl (E 0, 5, .inl fun _ => 0)), (b9, .inl (E 1, 5000, .inl fun _ => 0)), (b10, .inl (E 0, 5000, .inl fun _ => 0)), (b11, .inl (E 0, 5000, .inl fun _ => 0)), (b12, .inl (E 0, 5000, .inl fun _ => 0)), (b13, .inl (E 0, 441, .inl fun _ => 0)), (b14, .inl (E 0, 45000, .inl fun _ => 0)), (b15, .inl (E 0, 26, .inl fun _ => -1)), (b16, .inl (E 0, 104, .inl fun _ => 0)), (b17, .inl (E 0, 60, .inl fun _ => 0)), (b18, .inl (E 0, 60, .inl fun _ => 0)), (b19, .inl (E 0, 141, .inl fun _ => 0))])) H _ := hW
  have hW : WD D A s (n8_w E (fun i : Nat => [h_, b1, b2, b3, b4, b5, b6, b7, b8, b9, b10, b11, b12, b13, b14, b15, b16, b17, b18, b19].getD i 0)) H locs := hW
  exact hret dX8_init_296 ⟨(fun i : Nat => [h_, b1, b2, b3, b4, b5, b6, b7, b8, b9, b10, b11, b12, b13, b14, b15, b16, b17, b18, b19].getD i 0), rfl, rfl⟩ (Nat.le_of_ble_eq_true rfl) (Nat.le_of_ble_eq_true rfl) hW
