def w_X2_put (E : Nat → ClassId) (h_ h_signs h_numbers : Nat) (s_size : Int32) (s_signs : Nat → Int32) : va_W := [(h_, .inr (4, [.int s_size, .ref h_signs, .ref h_numbers])), (h_signs, .inl (E 2, 60, .inl s_signs))]
set_option maxHeartbeats 4000000 in
set_option maxRecDepth 100000 in
theorem c_X2_put (l : Launch) (D : va_G) (E : Nat → ClassId) (tx : List (Nat × String)) (h_ h_signs h_numbers : Nat) (s_size : Int32) (s_signs : Nat → Int32) (x1 : Int32) (r0 : Int32) (r1 : Nat → Int32) (hf : f_X2_put s_size s_signs x1 = some (r0, r1)) : CV l yX2_put cX2_put 2 0 0 D E tx [.ref h_, .int x1] (w_X2_put E h_ h_signs h_numbers s_size s_signs) (w_X2_put E h_ h_signs h_numbers r0 r1) := by
  refine CV_of RX2 pn_X2 rfl (Nat.le_of_ble_eq_true rfl) (fun p e s m args below meth c A Q hF hK hA hZ hW hret ls hl => ?_)
  have hx := hF.1
  have hb := hF.2.1
  have hl : lv_has ls 2 [(0, .ref h_), (1, .int x1)] := hl
  unfold f_X2_put at hf
  refine lv_aload_n hx hb dX2_put_0 rfl (lv_at hl 0 rfl) ?_
  refine q_get hF hK hW fl_X2_9 0 rfl rfl dX2_put_1 ?_
  refine q_if_lt (tgt := 36) hx hb dX2_put_4 (by decide) hf (fun hf => ?_) (fun hf => ?_)
  · cases hf
    exact hret dX2_put_36 hW
  · refine lv_aload_n hx hb dX2_put_7 rfl (lv_at hl 0 rfl) ?_
    refine q_get hF hK hW fl_X2_9 0 rfl rfl dX2_put_8 ?_
    refine lv_bipush (v := 60) hx hb dX2_put_11 (by decide) ?_
    refine q_icmp_ge (tgt := 36) hx hb dX2_put_13 (by decide) hf (fun hf => ?_) (fun hf => ?_)
    · cases hf
      exact hret dX2_put_36 hW
    · refine lv_aload_n hx hb dX2_put_16 rfl (lv_at hl 0 rfl) ?_
      refine q_get hF hK hW fl_X2_15 0 rfl rfl dX2_put_17 ?_
      refine lv_aload_n hx hb dX2_put_20 rfl (lv_at hl 0 rfl) ?_
      refine q_get hF hK hW fl_X2_9 0 rfl rfl dX2_put_21 ?_
      refine lv_iload_n hx hb dX2_put_24 rfl (lv_at hl 1 rfl) ?_
      refine q_cast hx hb hK hW 1 2 rfl rfl dX2_put_25 hf (fun a_1 hf H locs hW => ?_)
      have hW : WD D A s (w_X2_put E h_ h_signs h_numbers s_size a_1) H locs := hW
      refine lv_aload_n hx hb dX2_put_26 rfl (lv_at hl 0 rfl) ?_
      refine lv_dup hx hb dX2_put_27 rfl ?_
      refine q_get hF hK hW fl_X2_9 0 rfl rfl dX2_put_28 ?_
      refine lv_iconst (v := 1) hx hb dX2_put_31 (by decide) ?_
      refine lv_iadd hx hb dX2_put_32 ?_
      refine lv_topi (fun v_2 ev_2 => ?_)
      replace hf := ob_let hf ev_2
      refine q_put hF hK hW fl_X2_9 ft_X2 rfl 0 rfl rfl rfl (Nat.le_of_ble_eq_true rfl) dX2_put_33 (fun H locs hW => ?_)
      have hW : WD D A s (w_X2_put E h_ h_signs h_numbers v_2 a_1) H locs := hW
      cases hf
      exact hret dX2_put_36 hW
def w_X2_signAt (E : Nat → ClassId) (h_ h_signs h_numbers : Nat) (s_size : Int32) (s_signs : Nat → Int32) : va_W := [(h_, .inr (4, [.int s_size, .ref h_signs, .ref h_numbers])), (h_signs, .inl (E 2, 60, .inl s_signs))]
set_option maxHeartbeats 4000000 in
set_option maxRecDepth 100000 in
theorem c_X2_signAt (l : Launch) (D : va_G) (E : Nat → ClassId) (tx : List (Nat × String)) (h_ h_signs h_numbers : Nat) (s_size : Int32) (s_signs : Nat → Int32) (x1 : Int32) (r0 : Int32) (hf : f_X2_signAt s_size s_signs x1 = some r0) : CI l yX2_signAt cX2_signAt 2 (some .char) 0 0 D E tx [.ref h_, .int x1] (w_X2_signAt E h_ h_signs h_numbers s_size s_signs) (w_X2_signAt E h_ h_signs h_numbers s_size s_signs) r0 := by
  refine CI_of RX2 pn_X2 rfl (Nat.le_of_ble_eq_true rfl) (fun p e s m args below meth c A Q hF hK hA hZ hW hret ls hl => ?_)
  have hx := hF.1
  have hb := hF.2.1
  have hl : lv_has ls 2 [(0, .ref h_), (1, .int x1)] := hl
  unfold f_X2_signAt at hf
  refine lv_iload_n hx hb dX2_signAt_0 rfl (lv_at hl 1 rfl) ?_
  refine q_if_lt (tgt := 27) hx hb dX2_signAt_1 (by decide) hf (fun hf => ?_) (fun hf => ?_)
  · refine lv_bipush (v := 32) hx hb dX2_signAt_27 (by decide) ?_
    have hz := nar_c (ob_gc hf).1
    replace hf := (ob_gc hf).2
    cases hf
    exact hret dX2_signAt_29 hz.1 rfl hW
  · refine lv_iload_n hx hb dX2_signAt_4 rfl (lv_at hl 1 rfl) ?_
    refine lv_aload_n hx hb dX2_signAt_5 rfl (lv_at hl 0 rfl) ?_
    refine q_get hF hK hW fl_X2_9 0 rfl rfl dX2_signAt_6 ?_
    refine q_icmp_ge (tgt := 27) hx hb dX2_signAt_9 (by decide) hf (fun hf => ?_) (fun hf => ?_)
    · refine lv_bipush (v := 32) hx hb dX2_signAt_27 (by decide) ?_
      have hz := nar_c (ob_gc hf).1
      replace hf := (ob_gc hf).2
      cases hf
      exact hret dX2_signAt_29 hz.1 rfl hW
    · refine lv_iload_n hx hb dX2_signAt_12 rfl (lv_at hl 1 rfl) ?_
      refine lv_bipush (v := 60) hx hb dX2_signAt_13 (by decide) ?_
      refine q_icmp_ge (tgt := 27) hx hb dX2_signAt_15 (by decide) hf (fun hf => ?_) (fun hf => ?_)
      · refine lv_bipush (v := 32) hx hb dX2_signAt_27 (by decide) ?_
        have hz := nar_c (ob_gc hf).1
        replace hf := (ob_gc hf).2
        cases hf
        exact hret dX2_signAt_29 hz.1 rfl hW
      · refine lv_aload_n hx hb dX2_signAt_18 rfl (lv_at hl 0 rfl) ?_
        refine q_get hF hK hW fl_X2_15 0 rfl rfl dX2_signAt_19 ?_
        refine lv_iload_n hx hb dX2_signAt_22 rfl (lv_at hl 1 rfl) ?_
        refine q_cald hx hb hK hW 1 2 rfl rfl dX2_signAt_23 hf (fun hf => ?_)
        refine lv_goto (tgt := 29) hx hb dX2_signAt_24 (by decide) ?_
        have hz := nar_c (ob_gc hf).1
        replace hf := (ob_gc hf).2
        cases hf
        exact hret dX2_signAt_29 hz.1 rfl hW
def w_X2_isDigit (E : Nat → ClassId)   : va_W := []
set_option maxHeartbeats 4000000 in
set_option maxRecDepth 100000 in
theorem c_X2_isDigit (l : Launch) (D : va_G) (E : Nat → ClassId) (tx : List (Nat × String))   (x0 : Int32) (x1 : Int32) (x2 : Int32) (r0 : Int32) (hf : f_X2_isDigit x0 x1 x2 = some r0) : CI l yX2_isDigit cX2_isDigit 3 (some .boolean) 0 0 D E tx [.int x0, .int x1, .int x2] (w_X2_isDigit E ) (w_X2_isDigit E ) r0 := by
  refine CI_of RX2 pn_X2 rfl (Nat.le_of_ble_eq_true rfl) (fun p e s m args below meth c A Q hF hK hA hZ hW hret ls hl => ?_)
  have hx := hF.1
  have hb := hF.2.1
  have hl : lv_has ls 3 [(0, .int x0), (1, .int x1), (2, .int x2)] := hl
  unfold f_X2_isDigit at hf
  refine lv_iload_n hx hb dX2_isDigit_0 rfl (lv_at hl 0 rfl) ?_
  refine lv_iload_n hx hb dX2_isDigit_1 rfl (lv_at hl 1 rfl) ?_
  refine q_icmp_lt (tgt := 14) hx hb dX2_isDigit_2 (by decide) hf (fun hf => ?_) (fun hf => ?_)
  · refine lv_iconst (v := 0) hx hb dX2_isDigit_14 (by decide) ?_
    cases hf
    exact hret dX2_isDigit_15 rfl rfl hW
  · refine lv_iload_n hx hb dX2_isDigit_5 rfl (lv_at hl 0 rfl) ?_
    refine lv_iload_n hx hb dX2_isDigit_6 rfl (lv_at hl 2 rfl) ?_
    refine q_icmp_gt (tgt := 14) hx hb dX2_isDigit_7 (by decide) hf (fun hf => ?_) (fun hf => ?_)
    · refine lv_iconst (v := 0) hx hb dX2_isDigit_14 (by decide) ?_
      cases hf
      exact hret dX2_isDigit_15 rfl rfl hW
    · refine lv_iconst (v := 1) hx hb dX2_isDigit_10 (by decide) ?_
      refine lv_goto (tgt := 15) hx hb dX2_isDigit_11 (by decide) ?_
      cases hf
      exact hret dX2_isDigit_15 rfl rfl hW
def w_X2_stateInObstacle (E : Nat → ClassId)   : va_W := []
set_option maxHeartbeats 4000000 in
set_option maxRecDepth 100000 in
theorem c_X2_stateInObstacle (l : Launch) (D : va_G) (E : Nat → ClassId) (tx : List (Nat × String))   (x0 : Int32) (x1 : Int32) (r0 : Int32) (hf : f_X2_stateInObstacle x0 x1 = some r0) : CI l yX2_stateInObstacle cX2_stateInObstacle 4 (some .int) 1 22 D E tx [.int x0, .int x1] (w_X2_stateInObstacle E ) (w_X2_stateInObstacle E ) r0 := by
  refine CI_of RX2 pn_X2 rfl (Nat.le_of_ble_eq_true rfl) (fun p e s m args below meth c A Q hF hK hA hZ hW hret ls hl => ?_)
  have hx := hF.1
  have hb := hF.2.1
  have hl : lv_has ls 4 [(0, .int x0), (1, .int x1)] := hl
  unfold f_X2_stateInObstacle at hf
  have hL94 : ∀ (y1_94 : Int32) (y2_94 : Int32) (H : Heap) (locs : List Loc) (ls : Array Slot), f_X2_stateInObstacle_L94 y1_94 y2_94 = some r0 → lv_has ls 4 [(1, .int y1_94), (2, .int y2_94)] → WD D A s (w_X2_stateInObstacle E ) H locs → W p l e (RM 1 22) s m args below meth c H locs 0 0 Q (F0 m 94 ls []) := by
    intro y1_94 y2_94 H locs ls hf hl hW
    unfold f_X2_stateInObstacle_L94 at hf
    refine lv_iload_n hx hb dX2_stateInObstacle_94 rfl (lv_at hl 1 rfl) ?_
    refine lv_bipush (v := 9) hx hb dX2_stateInObstacle_95 (by decide) ?_
    refine q_icmp_ne (tgt := 113) hx hb dX2_stateInObstacle_97 (by decide) hf (fun hf => ?_) (fun hf => ?_)
    · refine lv_iload_n hx hb dX2_stateInObstacle_113 rfl (lv_at hl 0 rfl) ?_
      refine lv_bipush (v := 59) hx hb dX2_stateInObstacle_114 (by decide) ?_
      refine q_icmp_ne (tgt := 123) hx hb dX2_stateInObstacle_116 (by decide) hf (fun hf => ?_) (fun hf => ?_)
      · refine lv_iconst (v := (-1)) hx hb dX2_stateInObstacle_123 (by decide) ?_
        cases hf
        exact hret dX2_stateInObstacle_124 rfl rfl hW
      · refine lv_iconst (v := 0) hx hb dX2_stateInObstacle_119 (by decide) ?_
        refine lv_goto (tgt := 124) hx hb dX2_stateInObstacle_120 (by decide) ?_
        cases hf
        exact hret dX2_stateInObstacle_124 rfl rfl hW
    · refine lv_iload_n hx hb dX2_stateInObstacle_100 rfl (lv_at hl 0 rfl) ?_
      refine lv_bipush (v := 44) hx hb dX2_stateInObstacle_101 (by decide) ?_
      refine q_icmp_ne (tgt := 111) hx hb dX2_stateInObstacle_103 (by decide) hf (fun hf => ?_) (fun hf => ?_)
      · refine lv_iconst (v := (-1)) hx hb dX2_stateInObstacle_111 (by decide) ?_
        cases hf
        exact hret dX2_stateInObstacle_112 rfl rfl hW
      · refine lv_bipush (v := 13) hx hb dX2_stateInObstacle_106 (by decide) ?_
        refine lv_goto (tgt := 112) hx hb dX2_stateInObstacle_108 (by decide) ?_
        cases hf
        exact hret dX2_stateInObstacle_112 rfl rfl hW
  have hL43 : ∀ (y1_43 : Int32) (y2_43 : Int32) (y3_43 : Int32) (H : Heap) (locs : List Loc) (ls : Array Slot), f_X2_stateInObstacle_L43 y1_43 y2_43 y3_43 = some r0 → lv_has ls 4 [(1, .int y1_43), (2, .int y2_43), (3, .int y3_43)] → WD D A s (w_X2_stateInObstacle E ) H locs → W p l e (RM 1 22) s m args below meth c H locs 0 0 Q (F0 m 43 ls []) := by
    intro y1_43 y2_43 y3_43 H locs ls hf hl hW
    unfold f_X2_stateInObstacle_L43 at hf
    refine lv_iload_n hx hb dX2_stateInObstacle_43 rfl (lv_at hl 2 rfl) ?_
    refine lv_iconst (v := 1) hx hb dX2_stateInObstacle_44 (by decide) ?_
    refine q_icmp_gt (tgt := 79) hx hb dX2_stateInObstacle_45 (by decide) hf (fun hf => ?_) (fun hf => ?_)
    · refine lv_iload_n hx hb dX2_stateInObstacle_79 rfl (lv_at hl 2 rfl) ?_
      refine lv_iconst (v := 2) hx hb dX2_stateInObstacle_80 (by decide) ?_
      refine q_icmp_ne (tgt := 94) hx hb dX2_stateInObstacle_81 (by decide) hf (fun hf => ?_) (fun hf => ?_)
      · exact hL94 y1_43 y2_43 _ _ _ hf (lv_sub hl [0, 1] rfl) hW
      · refine lv_iload_n hx hb dX2_stateInObstacle_84 rfl (lv_at hl 0 rfl) ?_
        refine lv_bipush (v := 48) hx hb dX2_stateInObstacle_85 (by decide) ?_
        refine q_icmp_ne (tgt := 94) hx hb dX2_stateInObstacle_87 (by decide) hf (fun hf => ?_) (fun hf => ?_)
        · exact hL94 y1_43 y2_43 _ _ _ hf (lv_sub hl [0, 1] rfl) hW
        · refine lv_iload_n hx hb dX2_stateInObstacle_90 rfl (lv_at hl 1 rfl) ?_
          refine lv_iconst (v := 3) hx hb dX2_stateInObstacle_91 (by decide) ?_
          refine lv_iadd hx hb dX2_stateInObstacle_92 ?_
          cases hf
          exact hret dX2_stateInObstacle_93 rfl rfl hW
    · refine lv_iload_n hx hb dX2_stateInObstacle_48 rfl (lv_at hl 0 rfl) ?_
      refine lv_bipush (v := 49) hx hb dX2_stateInObstacle_49 (by decide) ?_
      refine q_icmp_ne (tgt := 60) hx hb dX2_stateInObstacle_51 (by decide) hf (fun hf => ?_) (fun hf => ?_)
      · refine lv_iload_n hx hb dX2_stateInObstacle_60 rfl (lv_at hl 0 rfl) ?_
        refine lv_bipush (v := 48) hx hb dX2_stateInObstacle_61 (by decide) ?_
        refine lv_bipush (v := 57) hx hb dX2_stateInObstacle_63 (by decide) ?_
        obtain ⟨o_1, hc_1, hf⟩ := ob_bind hf
        refine q_callSI hF hl.1 hK hA hZ hW ms_X2_isDigit ml_X2_31 (c_X2_isDigit l D E tx y1_43 48 57 o_1 hc_1) [] rfl rfl rfl ⟨Nat.le_of_ble_eq_true rfl, Nat.le_of_ble_eq_true rfl⟩ ⟨Nat.le_of_ble_eq_true rfl, Nat.le_of_ble_eq_true rfl⟩ rfl rfl (Nat.le_of_ble_eq_true rfl) dX2_stateInObstacle_65 (fun H locs hW => ?_)
        have hW : WD D A s (w_X2_stateInObstacle E ) H locs := hW
        refine q_if_eq (tgt := 77) hx hb dX2_stateInObstacle_68 (by decide) hf (fun hf => ?_) (fun hf => ?_)
        · refine lv_iconst (v := (-1)) hx hb dX2_stateInObstacle_77 (by decide) ?_
          cases hf
          exact hret dX2_stateInObstacle_78 rfl rfl hW
        · refine lv_iload_n hx hb dX2_stateInObstacle_71 rfl (lv_at hl 1 rfl) ?_
          refine lv_iconst (v := 3) hx hb dX2_stateInObstacle_72 (by decide) ?_
          refine lv_iadd hx hb dX2_stateInObstacle_73 ?_
          refine lv_goto (tgt := 78) hx hb dX2_stateInObstacle_74 (by decide) ?_
          cases hf
          exact hret dX2_stateInObstacle_78 rfl rfl hW
      · refine lv_iload_n hx hb dX2_stateInObstacle_54 rfl (lv_at hl 1 rfl) ?_
        refine lv_iconst (v := 2) hx hb dX2_stateInObstacle_55 (by decide) ?_
        refine lv_iadd hx hb dX2_stateInObstacle_56 ?_
        refine lv_goto (tgt := 78) hx hb dX2_stateInObstacle_57 (by decide) ?_
        cases hf
        exact hret dX2_stateInObstacle_78 rfl rfl hW
  have hL13 : ∀ (y0_13 : Int32) (y1_13 : Int32) (k0_13 : Int32) (H : Heap) (locs : List Loc) (ls : Array Slot), f_X2_stateInObstacle_L13 y0_13 y1_13 k0_13 = some r0 → lv_has ls 4 [(0, .int y0_13), (1, .int y1_13)] → WD D A s (w_X2_stateInObstacle E ) H locs → W p l e (RM 1 22) s m args below meth c H locs 0 0 Q (F0 m 13 ls [.int k0_13]) := by
    intro y0_13 y1_13 k0_13 H locs ls hf hl hW
    unfold f_X2_stateInObstacle_L13 at hf
    refine lv_istore_n (lv' := [(2, .int k0_13), (0, .int y0_13), (1, .int y1_13)]) hx hb dX2_stateInObstacle_13 rfl hl (by decide) rfl (fun ls hl => ?_)
    refine lv_iload_n hx hb dX2_stateInObstacle_14 rfl (lv_at hl 1 rfl) ?_
    refine lv_iload_n hx hb dX2_stateInObstacle_15 rfl (lv_at hl 0 rfl) ?_
    refine lv_isub hx hb dX2_stateInObstacle_16 ?_
    refine lv_topi (fun v_2 ev_2 => ?_)
    replace hf := ob_let hf ev_2
    refine lv_istore_n (lv' := [(3, .int v_2), (2, .int k0_13), (0, .int y0_13), (1, .int y1_13)]) hx hb dX2_stateInObstacle_17 rfl hl (by decide) rfl (fun ls hl => ?_)
    refine lv_iload_n hx hb dX2_stateInObstacle_18 rfl (lv_at hl 0 rfl) ?_
    refine q_if_lt (tgt := 27) hx hb dX2_stateInObstacle_19 (by decide) hf (fun hf => ?_) (fun hf => ?_)
    · refine lv_iconst (v := (-1)) hx hb dX2_stateInObstacle_27 (by decide) ?_
      cases hf
      exact hret dX2_stateInObstacle_28 rfl rfl hW
    · refine lv_iload_n hx hb dX2_stateInObstacle_22 rfl (lv_at hl 0 rfl) ?_
      refine lv_iconst (v := 3) hx hb dX2_stateInObstacle_23 (by decide) ?_
      refine q_icmp_le (tgt := 29) hx hb dX2_stateInObstacle_24 (by decide) hf (fun hf => ?_) (fun hf => ?_)
      · refine lv_iload_n hx hb dX2_stateInObstacle_29 rfl (lv_at hl 0 rfl) ?_
        refine q_if_ne (tgt := 43) hx hb dX2_stateInObstacle_30 (by decide) hf (fun hf => ?_) (fun hf => ?_)
        · exact hL43 y1_13 k0_13 v_2 _ _ _ hf (lv_sub hl [3, 1, 0] rfl) hW
        · refine lv_iload_n hx hb dX2_stateInObstacle_33 rfl (lv_at hl 3 rfl) ?_
          refine lv_bipush (v := 45) hx hb dX2_stateInObstacle_34 (by decide) ?_
          refine q_icmp_ne (tgt := 43) hx hb dX2_stateInObstacle_36 (by decide) hf (fun hf => ?_) (fun hf => ?_)
          · exact hL43 y1_13 k0_13 v_2 _ _ _ hf (lv_sub hl [3, 1, 0] rfl) hW
          · refine lv_iload_n hx hb dX2_stateInObstacle_39 rfl (lv_at hl 1 rfl) ?_
            refine lv_iconst (v := 1) hx hb dX2_stateInObstacle_40 (by decide) ?_
            refine lv_iadd hx hb dX2_stateInObstacle_41 ?_
            cases hf
            exact hret dX2_stateInObstacle_42 rfl rfl hW
      · refine lv_iconst (v := (-1)) hx hb dX2_stateInObstacle_27 (by decide) ?_
        cases hf
        exact hret dX2_stateInObstacle_28 rfl rfl hW
  refine lv_iload_n hx hb dX2_stateInObstacle_0 rfl (lv_at hl 0 rfl) ?_
  refine lv_bipush (v := 13) hx hb dX2_stateInObstacle_1 (by decide) ?_
  refine q_icmp_ge (tgt := 11) hx hb dX2_stateInObstacle_3 (by decide) hf (fun hf => ?_) (fun hf => ?_)
  · refine lv_bipush (v := 13) hx hb dX2_stateInObstacle_11 (by decide) ?_
    exact hL13 x0 x1 13 _ _ _ hf (lv_sub hl [0, 1] rfl) hW
  · refine lv_bipush (v := 9) hx hb dX2_stateInObstacle_6 (by decide) ?_
    refine lv_goto (tgt := 13) hx hb dX2_stateInObstacle_8 (by decide) ?_
    exact hL13 x0 x1 9 _ _ _ hf (lv_sub hl [0, 1] rfl) hW
def w_X2_stateBehind (E : Nat → ClassId)   : va_W := []
set_option maxHeartbeats 4000000 in
set_option maxRecDepth 100000 in
theorem c_X2_stateBehind (l : Launch) (D : va_G) (E : Nat → ClassId) (tx : List (Nat × String))   (x0 : Int32) (x1 : Int32) (r0 : Int32) (hf : f_X2_stateBehind x0 x1 = some r0) : CI l yX2_stateBehind cX2_stateBehind 2 (some .int) 2 45 D E tx [.int x0, .int x1] (w_X2_stateBehind E ) (w_X2_stateBehind E ) r0 := by
  refine CI_of RX2 pn_X2 rfl (Nat.le_of_ble_eq_true rfl) (fun p e s m args below meth c A Q hF hK hA hZ hW hret ls hl => ?_)
  have hx := hF.1
  have hb := hF.2.1
  have hl : lv_has ls 2 [(0, .int x0), (1, .int x1)] := hl
  unfold f_X2_stateBehind at hf
  refine lv_iload_n hx hb dX2_stateBehind_0 rfl (lv_at hl 0 rfl) ?_
  by_cases c_1_0 : x0 = 0
  · rw [if_pos c_1_0] at hf
    refine lv_tableIn (off := 51) (tgt := 52) hx hb dX2_stateBehind_1 (by rw [c_1_0]; decide) (by rw [c_1_0]; decide) (by rw [c_1_0]; rfl) (by decide) ?_
    refine lv_iload_n hx hb dX2_stateBehind_52 rfl (lv_at hl 1 rfl) ?_
    refine lv_bipush (v := 76) hx hb dX2_stateBehind_53 (by decide) ?_
    refine q_icmp_ne (tgt := 62) hx hb dX2_stateBehind_55 (by decide) hf (fun hf => ?_) (fun hf => ?_)
    · refine lv_iload_n hx hb dX2_stateBehind_62 rfl (lv_at hl 1 rfl) ?_
      refine lv_bipush (v := 79) hx hb dX2_stateBehind_63 (by decide) ?_
      refine q_icmp_ne (tgt := 73) hx hb dX2_stateBehind_65 (by decide) hf (fun hf => ?_) (fun hf => ?_)
      · refine lv_iconst (v := (-1)) hx hb dX2_stateBehind_73 (by decide) ?_
        cases hf
        exact hret dX2_stateBehind_74 rfl rfl hW
      · refine lv_bipush (v := 9) hx hb dX2_stateBehind_68 (by decide) ?_
        refine lv_goto (tgt := 74) hx hb dX2_stateBehind_70 (by decide) ?_
        cases hf
        exact hret dX2_stateBehind_74 rfl rfl hW
    · refine lv_iconst (v := 1) hx hb dX2_stateBehind_58 (by decide) ?_
      refine lv_goto (tgt := 74) hx hb dX2_stateBehind_59 (by decide) ?_
      cases hf
      exact hret dX2_stateBehind_74 rfl rfl hW
  · rw [if_neg c_1_0] at hf
    by_cases c_1_1 : x0 = 1
    · rw [if_pos c_1_1] at hf
      refine lv_tableIn (off := 74) (tgt := 75) hx hb dX2_stateBehind_1 (by rw [c_1_1]; decide) (by rw [c_1_1]; decide) (by rw [c_1_1]; rfl) (by decide) ?_
      refine lv_iload_n hx hb dX2_stateBehind_75 rfl (lv_at hl 1 rfl) ?_
      refine lv_bipush (v := 49) hx hb dX2_stateBehind_76 (by decide) ?_
      refine lv_bipush (v := 53) hx hb dX2_stateBehind_78 (by decide) ?_
      obtain ⟨o_1, hc_1, hf⟩ := ob_bind hf
      refine q_callSI hF hl.1 hK hA hZ hW ms_X2_isDigit ml_X2_31 (c_X2_isDigit l D E tx x1 49 53 o_1 hc_1) [] rfl rfl rfl ⟨Nat.le_of_ble_eq_true rfl, Nat.le_of_ble_eq_true rfl⟩ ⟨Nat.le_of_ble_eq_true rfl, Nat.le_of_ble_eq_true rfl⟩ rfl rfl (Nat.le_of_ble_eq_true rfl) dX2_stateBehind_80 (fun H locs hW => ?_)
      have hW : WD D A s (w_X2_stateBehind E ) H locs := hW
      refine q_if_eq (tgt := 90) hx hb dX2_stateBehind_83 (by decide) hf (fun hf => ?_) (fun hf => ?_)
      · refine lv_iconst (v := (-1)) hx hb dX2_stateBehind_90 (by decide) ?_
        cases hf
        exact hret dX2_stateBehind_91 rfl rfl hW
      · refine lv_iconst (v := 2) hx hb dX2_stateBehind_86 (by decide) ?_
        refine lv_goto (tgt := 91) hx hb dX2_stateBehind_87 (by decide) ?_
        cases hf
        exact hret dX2_stateBehind_91 rfl rfl hW
    · rw [if_neg c_1_1] at hf
      by_cases c_1_2 : x0 = 2
      · rw [if_pos c_1_2] at hf
        refine lv_tableIn (off := 91) (tgt := 92) hx hb dX2_stateBehind_1 (by rw [c_1_2]; decide) (by rw [c_1_2]; decide) (by rw [c_1_2]; rfl) (by decide) ?_
        refine lv_iload_n hx hb dX2_stateBehind_92 rfl (lv_at hl 1 rfl) ?_
        refine lv_bipush (v := 40) hx hb dX2_stateBehind_93 (by decide) ?_
        refine q_icmp_ne (tgt := 102) hx hb dX2_stateBehind_95 (by decide) hf (fun hf => ?_) (fun hf => ?_)
        · refine lv_iconst (v := (-1)) hx hb dX2_stateBehind_102 (by decide) ?_
          cases hf
          exact hret dX2_stateBehind_103 rfl rfl hW
        · refine lv_iconst (v := 3) hx hb dX2_stateBehind_98 (by decide) ?_
          refine lv_goto (tgt := 103) hx hb dX2_stateBehind_99 (by decide) ?_
          cases hf
          exact hret dX2_stateBehind_103 rfl rfl hW
      · rw [if_neg c_1_2] at hf
        by_cases c_1_3 : x0 = 3
        · rw [if_pos c_1_3] at hf
          refine lv_tableIn (off := 103) (tgt := 104) hx hb dX2_stateBehind_1 (by rw [c_1_3]; decide) (by rw [c_1_3]; decide) (by rw [c_1_3]; rfl) (by decide) ?_
          refine lv_iload_n hx hb dX2_stateBehind_104 rfl (lv_at hl 1 rfl) ?_
          refine lv_bipush (v := 45) hx hb dX2_stateBehind_105 (by decide) ?_
          refine q_icmp_ne (tgt := 114) hx hb dX2_stateBehind_107 (by decide) hf (fun hf => ?_) (fun hf => ?_)
          · refine lv_iconst (v := (-1)) hx hb dX2_stateBehind_114 (by decide) ?_
            cases hf
            exact hret dX2_stateBehind_115 rfl rfl hW
          · refine lv_iconst (v := 4) hx hb dX2_stateBehind_110 (by decide) ?_
            refine lv_goto (tgt := 115) hx hb dX2_stateBehind_111 (by decide) ?_
            cases hf
            exact hret dX2_stateBehind_115 rfl rfl hW
        · rw [if_neg c_1_3] at hf
          by_cases c_1_4 : x0 = 4
          · rw [if_pos c_1_4] at hf
            refine lv_tableIn (off := 115) (tgt := 116) hx hb dX2_stateBehind_1 (by rw [c_1_4]; decide) (by rw [c_1_4]; decide) (by rw [c_1_4]; rfl) (by decide) ?_
            refine lv_iload_n hx hb dX2_stateBehind_116 rfl (lv_at hl 1 rfl) ?_
            refine lv_bipush (v := 48) hx hb dX2_stateBehind_117 (by decide) ?_
            refine lv_bipush (v := 56) hx hb dX2_stateBehind_119 (by decide) ?_
            obtain ⟨o_2, hc_2, hf⟩ := ob_bind hf
            refine q_callSI hF hl.1 hK hA hZ hW ms_X2_isDigit ml_X2_31 (c_X2_isDigit l D E tx x1 48 56 o_2 hc_2) [] rfl rfl rfl ⟨Nat.le_of_ble_eq_true rfl, Nat.le_of_ble_eq_true rfl⟩ ⟨Nat.le_of_ble_eq_true rfl, Nat.le_of_ble_eq_true rfl⟩ rfl rfl (Nat.le_of_ble_eq_true rfl) dX2_stateBehind_121 (fun H locs hW => ?_)
            have hW : WD D A s (w_X2_stateBehind E ) H locs := hW
            refine q_if_eq (tgt := 131) hx hb dX2_stateBehind_124 (by decide) hf (fun hf => ?_) (fun hf => ?_)
            · refine lv_iconst (v := (-1)) hx hb dX2_stateBehind_131 (by decide) ?_
              cases hf
              exact hret dX2_stateBehind_132 rfl rfl hW
            · refine lv_iconst (v := 5) hx hb dX2_stateBehind_127 (by decide) ?_
              refine lv_goto (tgt := 132) hx hb dX2_stateBehind_128 (by decide) ?_
              cases hf
              exact hret dX2_stateBehind_132 rfl rfl hW
          · rw [if_neg c_1_4] at hf
            by_cases c_1_5 : x0 = 5
            · rw [if_pos c_1_5] at hf
              refine lv_tableIn (off := 132) (tgt := 133) hx hb dX2_stateBehind_1 (by rw [c_1_5]; decide) (by rw [c_1_5]; decide) (by rw [c_1_5]; rfl) (by decide) ?_
              refine lv_iload_n hx hb dX2_stateBehind_133 rfl (lv_at hl 1 rfl) ?_
              refine lv_bipush (v := 44) hx hb dX2_stateBehind_134 (by decide) ?_
              refine q_icmp_ne (tgt := 144) hx hb dX2_stateBehind_136 (by decide) hf (fun hf => ?_) (fun hf => ?_)
              · refine lv_iconst (v := (-1)) hx hb dX2_stateBehind_144 (by decide) ?_
                cases hf
                exact hret dX2_stateBehind_145 rfl rfl hW
              · refine lv_bipush (v := 6) hx hb dX2_stateBehind_139 (by decide) ?_
                refine lv_goto (tgt := 145) hx hb dX2_stateBehind_141 (by decide) ?_
                cases hf
                exact hret dX2_stateBehind_145 rfl rfl hW
            · rw [if_neg c_1_5] at hf
              by_cases c_1_6 : x0 = 6
              · rw [if_pos c_1_6] at hf
                refine lv_tableIn (off := 145) (tgt := 146) hx hb dX2_stateBehind_1 (by rw [c_1_6]; decide) (by rw [c_1_6]; decide) (by rw [c_1_6]; rfl) (by decide) ?_
                refine lv_iload_n hx hb dX2_stateBehind_146 rfl (lv_at hl 1 rfl) ?_
                refine lv_bipush (v := 48) hx hb dX2_stateBehind_147 (by decide) ?_
                refine lv_bipush (v := 56) hx hb dX2_stateBehind_149 (by decide) ?_
                obtain ⟨o_3, hc_3, hf⟩ := ob_bind hf
                refine q_callSI hF hl.1 hK hA hZ hW ms_X2_isDigit ml_X2_31 (c_X2_isDigit l D E tx x1 48 56 o_3 hc_3) [] rfl rfl rfl ⟨Nat.le_of_ble_eq_true rfl, Nat.le_of_ble_eq_true rfl⟩ ⟨Nat.le_of_ble_eq_true rfl, Nat.le_of_ble_eq_true rfl⟩ rfl rfl (Nat.le_of_ble_eq_true rfl) dX2_stateBehind_151 (fun H locs hW => ?_)
                have hW : WD D A s (w_X2_stateBehind E ) H locs := hW
                refine q_if_eq (tgt := 162) hx hb dX2_stateBehind_154 (by decide) hf (fun hf => ?_) (fun hf => ?_)
                · refine lv_iconst (v := (-1)) hx hb dX2_stateBehind_162 (by decide) ?_
                  cases hf
                  exact hret dX2_stateBehind_163 rfl rfl hW
                · refine lv_bipush (v := 7) hx hb dX2_stateBehind_157 (by decide) ?_
                  refine lv_goto (tgt := 163) hx hb dX2_stateBehind_159 (by decide) ?_
                  cases hf
                  exact hret dX2_stateBehind_163 rfl rfl hW
              · rw [if_neg c_1_6] at hf
                by_cases c_1_7 : x0 = 7
                · rw [if_pos c_1_7] at hf
                  refine lv_tableIn (off := 163) (tgt := 164) hx hb dX2_stateBehind_1 (by rw [c_1_7]; decide) (by rw [c_1_7]; decide) (by rw [c_1_7]; rfl) (by decide) ?_
                  refine lv_iload_n hx hb dX2_stateBehind_164 rfl (lv_at hl 1 rfl) ?_
                  refine lv_bipush (v := 41) hx hb dX2_stateBehind_165 (by decide) ?_
                  refine q_icmp_ne (tgt := 175) hx hb dX2_stateBehind_167 (by decide) hf (fun hf => ?_) (fun hf => ?_)
                  · refine lv_iconst (v := (-1)) hx hb dX2_stateBehind_175 (by decide) ?_
                    cases hf
                    exact hret dX2_stateBehind_176 rfl rfl hW
                  · refine lv_bipush (v := 8) hx hb dX2_stateBehind_170 (by decide) ?_
                    refine lv_goto (tgt := 176) hx hb dX2_stateBehind_172 (by decide) ?_
                    cases hf
                    exact hret dX2_stateBehind_176 rfl rfl hW
                · rw [if_neg c_1_7] at hf
                  by_cases c_1_8 : x0 = 8
                  · rw [if_pos c_1_8] at hf
                    refine lv_tableIn (off := 176) (tgt := 177) hx hb dX2_stateBehind_1 (by rw [c_1_8]; decide) (by rw [c_1_8]; decide) (by rw [c_1_8]; rfl) (by decide) ?_
                    refine lv_iload_n hx hb dX2_stateBehind_177 rfl (lv_at hl 1 rfl) ?_
                    refine lv_bipush (v := 59) hx hb dX2_stateBehind_178 (by decide) ?_
                    refine q_icmp_ne (tgt := 187) hx hb dX2_stateBehind_180 (by decide) hf (fun hf => ?_) (fun hf => ?_)
                    · refine lv_iconst (v := (-1)) hx hb dX2_stateBehind_187 (by decide) ?_
                      cases hf
                      exact hret dX2_stateBehind_188 rfl rfl hW
                    · refine lv_iconst (v := 0) hx hb dX2_stateBehind_183 (by decide) ?_
                      refine lv_goto (tgt := 188) hx hb dX2_stateBehind_184 (by decide) ?_
                      cases hf
                      exact hret dX2_stateBehind_188 rfl rfl hW
                  · rw [if_neg c_1_8] at hf
                    refine lv_tableOut (tgt := 189) hx hb dX2_stateBehind_1 (tab_out [(0, 0), (1, 1), (2, 2), (3, 3), (4, 4), (5, 5), (6, 6), (7, 7), (8, 8)] (by decide) (List.forall_mem_cons.mpr ⟨c_1_0, List.forall_mem_cons.mpr ⟨c_1_1, List.forall_mem_cons.mpr ⟨c_1_2, List.forall_mem_cons.mpr ⟨c_1_3, List.forall_mem_cons.mpr ⟨c_1_4, List.forall_mem_cons.mpr ⟨c_1_5, List.forall_mem_cons.mpr ⟨c_1_6, List.forall_mem_cons.mpr ⟨c_1_7, List.forall_mem_cons.mpr ⟨c_1_8, (fun _ h => nomatch h)⟩⟩⟩⟩⟩⟩⟩⟩⟩) (by decide)) (by decide) ?_
                    refine lv_iload_n hx hb dX2_stateBehind_189 rfl (lv_at hl 0 rfl) ?_
                    refine lv_iload_n hx hb dX2_stateBehind_190 rfl (lv_at hl 1 rfl) ?_
                    obtain ⟨o_4, hc_4, hf⟩ := ob_bind hf
                    refine q_callSI hF hl.1 hK hA hZ hW ms_X2_stateInObstacle ml_X2_35 (c_X2_stateInObstacle l D E tx x0 x1 o_4 hc_4) [] rfl rfl rfl ⟨Nat.le_of_ble_eq_true rfl, Nat.le_of_ble_eq_true rfl⟩ ⟨Nat.le_of_ble_eq_true rfl, Nat.le_of_ble_eq_true rfl⟩ rfl rfl (Nat.le_of_ble_eq_true rfl) dX2_stateBehind_191 (fun H locs hW => ?_)
                    have hW : WD D A s (w_X2_stateBehind E ) H locs := hW
                    cases hf
                    exact hret dX2_stateBehind_194 rfl rfl hW
def w_X2_errorPlace (E : Nat → ClassId) (h_ h_signs h_numbers : Nat) (s_size : Int32) (s_signs : Nat → Int32) : va_W := [(h_, .inr (4, [.int s_size, .ref h_signs, .ref h_numbers])), (h_signs, .inl (E 2, 60, .inl s_signs))]
set_option maxHeartbeats 4000000 in
set_option maxRecDepth 100000 in
theorem c_X2_errorPlace (l : Launch) (D : va_G) (E : Nat → ClassId) (tx : List (Nat × String)) (h_ h_signs h_numbers : Nat) (s_size : Int32) (s_signs : Nat → Int32)  (r0 : Int32) (hf : f_X2_errorPlace s_size s_signs = some r0) : CI l yX2_errorPlace cX2_errorPlace 3 (some .int) 3 66 D E tx [.ref h_] (w_X2_errorPlace E h_ h_signs h_numbers s_size s_signs) (w_X2_errorPlace E h_ h_signs h_numbers s_size s_signs) r0 := by
  refine CI_of RX2 pn_X2 rfl (Nat.le_of_ble_eq_true rfl) (fun p e s m args below meth c A Q hF hK hA hZ hW hret ls hl => ?_)
  have hx := hF.1
  have hb := hF.2.1
  have hl : lv_has ls 3 [(0, .ref h_)] := hl
  unfold f_X2_errorPlace at hf
  refine lv_iconst (v := 0) hx hb dX2_errorPlace_0 (by decide) ?_
  refine lv_istore_n (lv' := [(1, .int 0), (0, .ref h_)]) hx hb dX2_errorPlace_1 rfl hl (by decide) rfl (fun ls hl => ?_)
  refine lv_iconst (v := 0) hx hb dX2_errorPlace_2 (by decide) ?_
  refine lv_istore_n (lv' := [(2, .int 0), (1, .int 0), (0, .ref h_)]) hx hb dX2_errorPlace_3 rfl hl (by decide) rfl (fun ls hl => ?_)
  have hB4 : ∀ (n : Nat) (z1_4 : Int32) (z2_4 : Int32) (ex : (Int32) ⊕ (Int32)) (H : Heap) (locs : List Loc) (ls : Array Slot), LPF (fun z => f_X2_errorPlace_B4 s_size s_signs z.1 z.2) n (z1_4, z2_4) = some ex → lv_has ls 3 [(0, .ref h_), (1, .int z1_4), (2, .int z2_4)] → WD D A s (w_X2_errorPlace E h_ h_signs h_numbers s_size s_signs) H locs → (∀ (u9 : Int32), ex = .inl u9 → ∀ (H : Heap) (locs : List Loc) (ls : Array Slot), lv_has ls 3 [(2, .int u9)] → WD D A s (w_X2_errorPlace E h_ h_signs h_numbers s_size s_signs) H locs → W p l e (RM 3 66) s m args below meth c H locs 0 0 Q (F0 m 26 ls [])) → (∀ (u9 : Int32), ex = .inr u9 → ∀ (H : Heap) (locs : List Loc) (ls : Array Slot), lv_has ls 3 [(0, .ref h_), (1, .int u9)] → WD D A s (w_X2_errorPlace E h_ h_signs h_numbers s_size s_signs) H locs → W p l e (RM 3 66) s m args below meth c H locs 0 0 Q (F0 m 34 ls [])) → W p l e (RM 3 66) s m args below meth c H locs 0 0 Q (F0 m 4 ls []) := by
    intro n
    induction n with
    | zero => intro z1_4 z2_4 ex H locs ls h9; exact (ob_lp0 h9).elim
    | succ n ih =>
      intro z1_4 z2_4 ex H locs ls h9 hl hW kx0 kx1
      obtain ⟨q9, hf, h9, k9⟩ := ob_lp h9
      have hf : f_X2_errorPlace_B4 s_size s_signs z1_4 z2_4 = some q9 := hf
      unfold f_X2_errorPlace_B4 at hf
      refine lv_iload_n hx hb dX2_errorPlace_4 rfl (lv_at hl 2 rfl) ?_
      refine lv_aload_n hx hb dX2_errorPlace_5 rfl (lv_at hl 0 rfl) ?_
      refine q_get hF hK hW fl_X2_9 0 rfl rfl dX2_errorPlace_6 ?_
      refine q_icmp_ge (tgt := 34) hx hb dX2_errorPlace_9 (by decide) hf (fun hf => ?_) (fun hf => ?_)
      · cases hf
        exact kx1 _ (k9 _ rfl) _ _ _ (lv_sub hl [0, 1] rfl) hW
      · refine lv_iload_n hx hb dX2_errorPlace_12 rfl (lv_at hl 1 rfl) ?_
        refine lv_aload_n hx hb dX2_errorPlace_13 rfl (lv_at hl 0 rfl) ?_
        refine lv_iload_n hx hb dX2_errorPlace_14 rfl (lv_at hl 2 rfl) ?_
        obtain ⟨o_1, hc_1, hf⟩ := ob_bind hf
        refine q_callI hF hl.1 hK hA hZ hW mv_X2_signAt ml_X2_23 (c_X2_signAt l D E tx h_ h_signs h_numbers s_size s_signs z2_4 o_1 hc_1) [0, 1] rfl rfl rfl rfl rfl rfl ⟨Nat.le_of_ble_eq_true rfl, Nat.le_of_ble_eq_true rfl⟩ ⟨Nat.le_of_ble_eq_true rfl, Nat.le_of_ble_eq_true rfl⟩ rfl rfl (Nat.le_of_ble_eq_true rfl) dX2_errorPlace_15 (fun H locs hW => ?_)
        have hW : WD D A s (w_X2_errorPlace E h_ h_signs h_numbers s_size s_signs) H locs := hW
        obtain ⟨o_2, hc_2, hf⟩ := ob_bind hf
        refine q_callSI hF hl.1 hK hA hZ hW ms_X2_stateBehind ml_X2_27 (c_X2_stateBehind l D E tx z1_4 o_1 o_2 hc_2) [] rfl rfl rfl ⟨Nat.le_of_ble_eq_true rfl, Nat.le_of_ble_eq_true rfl⟩ ⟨Nat.le_of_ble_eq_true rfl, Nat.le_of_ble_eq_true rfl⟩ rfl rfl (Nat.le_of_ble_eq_true rfl) dX2_errorPlace_18 (fun H locs hW => ?_)
        have hW : WD D A s (w_X2_errorPlace E h_ h_signs h_numbers s_size s_signs) H locs := hW
        refine lv_istore_n (lv' := [(1, .int o_2), (0, .ref h_), (2, .int z2_4)]) hx hb dX2_errorPlace_21 rfl hl (by decide) rfl (fun ls hl => ?_)
        refine lv_iload_n hx hb dX2_errorPlace_22 rfl (lv_at hl 0 rfl) ?_
        refine q_if_ge (tgt := 28) hx hb dX2_errorPlace_23 (by decide) hf (fun hf => ?_) (fun hf => ?_)
        · obtain ⟨v_3, ev_3⟩ : ∃ y : Int32, y = z2_4 + 1 := ⟨_, rfl⟩
          replace hf := ob_let hf ev_3
          refine lv_iinc (v := v_3) (lv' := [(2, .int v_3), (1, .int o_2), (0, .ref h_)]) hx hb dX2_errorPlace_28 hl (k := 2) rfl (by rw [ev_3]; rfl) (by decide) rfl (fun ls hl => ?_)
          refine lv_goto (tgt := 4) hx hb dX2_errorPlace_31 (by decide) ?_
          cases hf
          exact ih o_2 v_3 ex _ _ _ (h9 _ rfl) (lv_sub hl [2, 1, 0] rfl) hW kx0 kx1
        · cases hf
          exact kx0 _ (k9 _ rfl) _ _ _ (lv_sub hl [2] rfl) hW
  obtain ⟨e_4, hc_4, hf⟩ := ob_bind hf
  refine hB4 lfuel 0 0 e_4 _ _ _ hc_4 (lv_sub hl [2, 1, 0] rfl) hW ?_ ?_
  · intro u_5 hu H locs ls hl hW
    subst hu
    dsimp only at hf
    refine lv_iload_n hx hb dX2_errorPlace_26 rfl (lv_at hl 0 rfl) ?_
    cases hf
    exact hret dX2_errorPlace_27 rfl rfl hW
  · intro u_6 hu H locs ls hl hW
    subst hu
    dsimp only at hf
    refine lv_aload_n hx hb dX2_errorPlace_34 rfl (lv_at hl 0 rfl) ?_
    refine q_get hF hK hW fl_X2_9 0 rfl rfl dX2_errorPlace_35 ?_
    refine q_if_le (tgt := 49) hx hb dX2_errorPlace_38 (by decide) hf (fun hf => ?_) (fun hf => ?_)
    · refine lv_aload_n hx hb dX2_errorPlace_49 rfl (lv_at hl 0 rfl) ?_
      refine q_get hF hK hW fl_X2_9 0 rfl rfl dX2_errorPlace_50 ?_
      cases hf
      exact hret dX2_errorPlace_53 rfl rfl hW
    · refine lv_iload_n hx hb dX2_errorPlace_41 rfl (lv_at hl 1 rfl) ?_
      refine q_if_ne (tgt := 49) hx hb dX2_errorPlace_42 (by decide) hf (fun hf => ?_) (fun hf => ?_)
      · refine lv_aload_n hx hb dX2_errorPlace_49 rfl (lv_at hl 0 rfl) ?_
        refine q_get hF hK hW fl_X2_9 0 rfl rfl dX2_errorPlace_50 ?_
        cases hf
        exact hret dX2_errorPlace_53 rfl rfl hW
      · refine lv_iconst (v := (-1)) hx hb dX2_errorPlace_45 (by decide) ?_
        refine lv_goto (tgt := 53) hx hb dX2_errorPlace_46 (by decide) ?_
        cases hf
        exact hret dX2_errorPlace_53 rfl rfl hW
def w_X2_readNumbers (E : Nat → ClassId) (h_ h_signs h_numbers : Nat) (s_size : Int32) (s_signs : Nat → Int32) (s_numbers : Nat → Int32) : va_W := [(h_, .inr (4, [.int s_size, .ref h_signs, .ref h_numbers])), (h_signs, .inl (E 2, 60, .inl s_signs)), (h_numbers, .inl (E 0, 3, .inl s_numbers))]
set_option maxHeartbeats 4000000 in
set_option maxRecDepth 100000 in
theorem c_X2_readNumbers (l : Launch) (D : va_G) (E : Nat → ClassId) (tx : List (Nat × String)) (h_ h_signs h_numbers : Nat) (s_size : Int32) (s_signs : Nat → Int32) (s_numbers : Nat → Int32) (x1 : Int32) (x2 : Int32) (r0 : Nat → Int32) (hf : f_X2_readNumbers s_size s_signs s_numbers x1 x2 = some r0) : CV l yX2_readNumbers cX2_readNumbers 7 1 23 D E tx [.ref h_, .int x1, .int x2] (w_X2_readNumbers E h_ h_signs h_numbers s_size s_signs s_numbers) (w_X2_readNumbers E h_ h_signs h_numbers s_size s_signs r0) := by
  refine CV_of RX2 pn_X2 rfl (Nat.le_of_ble_eq_true rfl) (fun p e s m args below meth c A Q hF hK hA hZ hW hret ls hl => ?_)
  have hx := hF.1
  have hb := hF.2.1
  have hl : lv_has ls 7 [(0, .ref h_), (1, .int x1), (2, .int x2)] := hl
  unfold f_X2_readNumbers at hf
  refine lv_aload_n hx hb dX2_readNumbers_0 rfl (lv_at hl 0 rfl) ?_
  refine q_get hF hK hW fl_X2_19 0 rfl rfl dX2_readNumbers_1 ?_
  refine lv_iconst (v := 0) hx hb dX2_readNumbers_4 (by decide) ?_
  obtain ⟨o_1, hc_1, hf⟩ := ob_bind hf
  refine q_callSV hF hl.1 hK hA hZ hW ms_J7_fill_53178 ml_X2_52 (c_J7_fill_53178_3 l D E tx h_numbers s_numbers 0 o_1 hc_1) [2] rfl rfl rfl ⟨Nat.le_of_ble_eq_true rfl, Nat.le_of_ble_eq_true rfl⟩ ⟨Nat.le_of_ble_eq_true rfl, Nat.le_of_ble_eq_true rfl⟩ rfl rfl (Nat.le_of_ble_eq_true rfl) dX2_readNumbers_5 (fun H locs hW => ?_)
  have hW : WD D A s (w_X2_readNumbers E h_ h_signs h_numbers s_size s_signs o_1) H locs := hW
  refine lv_iconst (v := 0) hx hb dX2_readNumbers_8 (by decide) ?_
  refine lv_istore_n (lv' := [(3, .int 0), (0, .ref h_), (1, .int x1), (2, .int x2)]) hx hb dX2_readNumbers_9 rfl hl (by decide) rfl (fun ls hl => ?_)
  refine lv_iconst (v := 1) hx hb dX2_readNumbers_10 (by decide) ?_
  refine lv_istore (lv' := [(4, .int 1), (3, .int 0), (0, .ref h_), (1, .int x1), (2, .int x2)]) hx hb dX2_readNumbers_11 hl (by decide) rfl (fun ls hl => ?_)
  refine lv_iload_n hx hb dX2_readNumbers_13 rfl (lv_at hl 3 rfl) ?_
  refine lv_istore (lv' := [(5, .int x1), (4, .int 1), (3, .int 0), (0, .ref h_), (1, .int x1), (2, .int x2)]) hx hb dX2_readNumbers_14 hl (by decide) rfl (fun ls hl => ?_)
  have hB16 : ∀ (n : Nat) (s_numbers_16 : Nat → Int32) (z3_16 : Int32) (z4_16 : Int32) (z5_16 : Int32) (ex : (Nat → Int32)) (H : Heap) (locs : List Loc) (ls : Array Slot), LPF (fun z => f_X2_readNumbers_B16 s_size s_signs z.1 x2 z.2.1 z.2.2.1 z.2.2.2) n (s_numbers_16, z3_16, z4_16, z5_16) = some ex → lv_has ls 7 [(0, .ref h_), (2, .int x2), (3, .int z3_16), (4, .int z4_16), (5, .int z5_16)] → WD D A s (w_X2_readNumbers E h_ h_signs h_numbers s_size s_signs s_numbers_16) H locs → (∀ (H : Heap) (locs : List Loc) (ls : Array Slot), lv_has ls 7 [] → WD D A s (w_X2_readNumbers E h_ h_signs h_numbers s_size s_signs ex) H locs → W p l e (RM 1 23) s m args below meth c H locs 0 0 Q (F0 m 121 ls [])) → W p l e (RM 1 23) s m args below meth c H locs 0 0 Q (F0 m 16 ls []) := by
    intro n
    induction n with
    | zero => intro s_numbers_16 z3_16 z4_16 z5_16 ex H locs ls h9; exact (ob_lp0 h9).elim
    | succ n ih =>
      intro s_numbers_16 z3_16 z4_16 z5_16 ex H locs ls h9 hl hW kx0
      obtain ⟨q9, hf, h9, k9⟩ := ob_lp h9
      have hf : f_X2_readNumbers_B16 s_size s_signs s_numbers_16 x2 z3_16 z4_16 z5_16 = some q9 := hf
      unfold f_X2_readNumbers_B16 at hf
      refine lv_iload hx hb dX2_readNumbers_16 (lv_at hl 4 rfl) ?_
      refine lv_iload_n hx hb dX2_readNumbers_18 rfl (lv_at hl 1 rfl) ?_
      refine q_icmp_ge (tgt := 121) hx hb dX2_readNumbers_19 (by decide) hf (fun hf => ?_) (fun hf => ?_)
      · cases hf
        have hx9 := k9 _ rfl
        subst hx9
        exact kx0 _ _ _ (lv_sub hl [] rfl) hW
      · refine lv_aload_n hx hb dX2_readNumbers_22 rfl (lv_at hl 0 rfl) ?_
        refine lv_iload hx hb dX2_readNumbers_23 (lv_at hl 4 rfl) ?_
        obtain ⟨o_2, hc_2, hf⟩ := ob_bind hf
        refine q_callI hF hl.1 hK hA hZ hW mv_X2_signAt ml_X2_23 (c_X2_signAt l D E tx h_ h_signs h_numbers s_size s_signs z5_16 o_2 hc_2) [0, 1] rfl rfl rfl rfl rfl rfl ⟨Nat.le_of_ble_eq_true rfl, Nat.le_of_ble_eq_true rfl⟩ ⟨Nat.le_of_ble_eq_true rfl, Nat.le_of_ble_eq_true rfl⟩ rfl rfl (Nat.le_of_ble_eq_true rfl) dX2_readNumbers_25 (fun H locs hW => ?_)
        have hW : WD D A s (w_X2_readNumbers E h_ h_signs h_numbers s_size s_signs s_numbers_16) H locs := hW
        refine lv_istore (lv' := [(6, .int o_2), (0, .ref h_), (2, .int x2), (3, .int z3_16), (4, .int z4_16), (5, .int z5_16)]) hx hb dX2_readNumbers_28 hl (by decide) rfl (fun ls hl => ?_)
        refine lv_iload hx hb dX2_readNumbers_30 (lv_at hl 0 rfl) ?_
        refine lv_bipush (v := 45) hx hb dX2_readNumbers_32 (by decide) ?_
        refine q_icmp_ne (tgt := 43) hx hb dX2_readNumbers_34 (by decide) hf (fun hf => ?_) (fun hf => ?_)
        · refine lv_iload hx hb dX2_readNumbers_43 (lv_at hl 0 rfl) ?_
          refine lv_bipush (v := 48) hx hb dX2_readNumbers_45 (by decide) ?_
          refine lv_bipush (v := 57) hx hb dX2_readNumbers_47 (by decide) ?_
          obtain ⟨o_3, hc_3, hf⟩ := ob_bind hf
          refine q_callSI hF hl.1 hK hA hZ hW ms_X2_isDigit ml_X2_31 (c_X2_isDigit l D E tx o_2 48 57 o_3 hc_3) [] rfl rfl rfl ⟨Nat.le_of_ble_eq_true rfl, Nat.le_of_ble_eq_true rfl⟩ ⟨Nat.le_of_ble_eq_true rfl, Nat.le_of_ble_eq_true rfl⟩ rfl rfl (Nat.le_of_ble_eq_true rfl) dX2_readNumbers_49 (fun H locs hW => ?_)
          have hW : WD D A s (w_X2_readNumbers E h_ h_signs h_numbers s_size s_signs s_numbers_16) H locs := hW
          refine q_if_eq (tgt := 91) hx hb dX2_readNumbers_52 (by decide) hf (fun hf => ?_) (fun hf => ?_)
          · refine lv_aload_n hx hb dX2_readNumbers_91 rfl (lv_at hl 1 rfl) ?_
            refine lv_iload hx hb dX2_readNumbers_92 (lv_at hl 5 rfl) ?_
            refine lv_iconst (v := 1) hx hb dX2_readNumbers_94 (by decide) ?_
            refine lv_isub hx hb dX2_readNumbers_95 ?_
            obtain ⟨o_4, hc_4, hf⟩ := ob_bind hf
            refine q_callI hF hl.1 hK hA hZ hW mv_X2_signAt ml_X2_23 (c_X2_signAt l D E tx h_ h_signs h_numbers s_size s_signs (z5_16 - 1) o_4 hc_4) [0, 1] rfl rfl rfl rfl rfl rfl ⟨Nat.le_of_ble_eq_true rfl, Nat.le_of_ble_eq_true rfl⟩ ⟨Nat.le_of_ble_eq_true rfl, Nat.le_of_ble_eq_true rfl⟩ rfl rfl (Nat.le_of_ble_eq_true rfl) dX2_readNumbers_96 (fun H locs hW => ?_)
            have hW : WD D A s (w_X2_readNumbers E h_ h_signs h_numbers s_size s_signs s_numbers_16) H locs := hW
            refine lv_bipush (v := 48) hx hb dX2_readNumbers_99 (by decide) ?_
            refine lv_bipush (v := 57) hx hb dX2_readNumbers_101 (by decide) ?_
            obtain ⟨o_5, hc_5, hf⟩ := ob_bind hf
            refine q_callSI hF hl.1 hK hA hZ hW ms_X2_isDigit ml_X2_31 (c_X2_isDigit l D E tx o_4 48 57 o_5 hc_5) [] rfl rfl rfl ⟨Nat.le_of_ble_eq_true rfl, Nat.le_of_ble_eq_true rfl⟩ ⟨Nat.le_of_ble_eq_true rfl, Nat.le_of_ble_eq_true rfl⟩ rfl rfl (Nat.le_of_ble_eq_true rfl) dX2_readNumbers_103 (fun H locs hW => ?_)
            have hW : WD D A s (w_X2_readNumbers E h_ h_signs h_numbers s_size s_signs s_numbers_16) H locs := hW
            refine q_if_eq (tgt := 115) hx hb dX2_readNumbers_106 (by decide) hf (fun hf => ?_) (fun hf => ?_)
            · obtain ⟨v_6, ev_6⟩ : ∃ y : Int32, y = z5_16 + 1 := ⟨_, rfl⟩
              replace hf := ob_let hf ev_6
              refine lv_iinc (v := v_6) (lv' := [(5, .int v_6), (6, .int o_2), (0, .ref h_), (2, .int x2), (3, .int z3_16), (4, .int z4_16)]) hx hb dX2_readNumbers_115 hl (k := 5) rfl (by rw [ev_6]; rfl) (by decide) rfl (fun ls hl => ?_)
              refine lv_goto (tgt := 16) hx hb dX2_readNumbers_118 (by decide) ?_
              cases hf
              exact ih s_numbers_16 z3_16 z4_16 v_6 ex _ _ _ (h9 _ rfl) (lv_sub hl [2, 3, 4, 5, 0] rfl) hW kx0
            · obtain ⟨v_7, ev_7⟩ : ∃ y : Int32, y = z3_16 + 1 := ⟨_, rfl⟩
              replace hf := ob_let hf ev_7
              refine lv_iinc (v := v_7) (lv' := [(3, .int v_7), (6, .int o_2), (0, .ref h_), (2, .int x2), (4, .int z4_16), (5, .int z5_16)]) hx hb dX2_readNumbers_109 hl (k := 3) rfl (by rw [ev_7]; rfl) (by decide) rfl (fun ls hl => ?_)
              refine lv_iconst (v := 1) hx hb dX2_readNumbers_112 (by decide) ?_
              refine lv_istore (lv' := [(4, .int 1), (3, .int v_7), (6, .int o_2), (0, .ref h_), (2, .int x2), (5, .int z5_16)]) hx hb dX2_readNumbers_113 hl (by decide) rfl (fun ls hl => ?_)
              obtain ⟨v_8, ev_8⟩ : ∃ y : Int32, y = z5_16 + 1 := ⟨_, rfl⟩
              replace hf := ob_let hf ev_8
              refine lv_iinc (v := v_8) (lv' := [(5, .int v_8), (4, .int 1), (3, .int v_7), (6, .int o_2), (0, .ref h_), (2, .int x2)]) hx hb dX2_readNumbers_115 hl (k := 5) rfl (by rw [ev_8]; rfl) (by decide) rfl (fun ls hl => ?_)
              refine lv_goto (tgt := 16) hx hb dX2_readNumbers_118 (by decide) ?_
              cases hf
              exact ih s_numbers_16 v_7 1 v_8 ex _ _ _ (h9 _ rfl) (lv_sub hl [4, 5, 2, 1, 0] rfl) hW kx0
          · refine lv_iload_n hx hb dX2_readNumbers_55 rfl (lv_at hl 3 rfl) ?_
            refine lv_aload_n hx hb dX2_readNumbers_56 rfl (lv_at hl 1 rfl) ?_
            refine q_get hF hK hW fl_X2_19 0 rfl rfl dX2_readNumbers_57 ?_
            refine q_alen (v := 3) hx hb hK hW 2 0 rfl rfl rfl dX2_readNumbers_60 ?_
            refine q_icmp_ge (tgt := 115) hx hb dX2_readNumbers_61 (by decide) hf (fun hf => ?_) (fun hf => ?_)
            · obtain ⟨v_9, ev_9⟩ : ∃ y : Int32, y = z5_16 + 1 := ⟨_, rfl⟩
              replace hf := ob_let hf ev_9
              refine lv_iinc (v := v_9) (lv' := [(5, .int v_9), (6, .int o_2), (0, .ref h_), (2, .int x2), (3, .int z3_16), (4, .int z4_16)]) hx hb dX2_readNumbers_115 hl (k := 5) rfl (by rw [ev_9]; rfl) (by decide) rfl (fun ls hl => ?_)
              refine lv_goto (tgt := 16) hx hb dX2_readNumbers_118 (by decide) ?_
              cases hf
              exact ih s_numbers_16 z3_16 z4_16 v_9 ex _ _ _ (h9 _ rfl) (lv_sub hl [2, 3, 4, 5, 0] rfl) hW kx0
            · refine lv_aload_n hx hb dX2_readNumbers_64 rfl (lv_at hl 1 rfl) ?_
              refine q_get hF hK hW fl_X2_19 0 rfl rfl dX2_readNumbers_65 ?_
              refine lv_iload_n hx hb dX2_readNumbers_68 rfl (lv_at hl 3 rfl) ?_
              refine lv_aload_n hx hb dX2_readNumbers_69 rfl (lv_at hl 1 rfl) ?_
              refine q_get hF hK hW fl_X2_19 0 rfl rfl dX2_readNumbers_70 ?_
              refine lv_iload_n hx hb dX2_readNumbers_73 rfl (lv_at hl 3 rfl) ?_
              refine q_iald hx hb hK hW 2 0 rfl rfl dX2_readNumbers_74 hf (fun hf => ?_)
              refine lv_bipush (v := 10) hx hb dX2_readNumbers_75 (by decide) ?_
              refine lv_imul hx hb dX2_readNumbers_77 ?_
              refine lv_iload hx hb dX2_readNumbers_78 (lv_at hl 4 rfl) ?_
              refine lv_iload hx hb dX2_readNumbers_80 (lv_at hl 0 rfl) ?_
              refine lv_bipush (v := 48) hx hb dX2_readNumbers_82 (by decide) ?_
              refine lv_isub hx hb dX2_readNumbers_84 ?_
              refine lv_imul hx hb dX2_readNumbers_85 ?_
              refine lv_iadd hx hb dX2_readNumbers_86 ?_
              refine q_iast hx hb hK hW 2 0 rfl rfl dX2_readNumbers_87 hf (fun a_10 hf H locs hW => ?_)
              have hW : WD D A s (w_X2_readNumbers E h_ h_signs h_numbers s_size s_signs a_10) H locs := hW
              refine lv_goto (tgt := 115) hx hb dX2_readNumbers_88 (by decide) ?_
              obtain ⟨v_11, ev_11⟩ : ∃ y : Int32, y = z5_16 + 1 := ⟨_, rfl⟩
              replace hf := ob_let hf ev_11
              refine lv_iinc (v := v_11) (lv' := [(5, .int v_11), (6, .int o_2), (0, .ref h_), (2, .int x2), (3, .int z3_16), (4, .int z4_16)]) hx hb dX2_readNumbers_115 hl (k := 5) rfl (by rw [ev_11]; rfl) (by decide) rfl (fun ls hl => ?_)
              refine lv_goto (tgt := 16) hx hb dX2_readNumbers_118 (by decide) ?_
              cases hf
              exact ih a_10 z3_16 z4_16 v_11 ex _ _ _ (h9 _ rfl) (lv_sub hl [2, 3, 4, 5, 0] rfl) hW kx0
        · refine lv_iconst (v := (-1)) hx hb dX2_readNumbers_37 (by decide) ?_
          refine lv_istore (lv' := [(4, .int ((-1))), (6, .int o_2), (0, .ref h_), (2, .int x2), (3, .int z3_16), (5, .int z5_16)]) hx hb dX2_readNumbers_38 hl (by decide) rfl (fun ls hl => ?_)
          refine lv_goto (tgt := 115) hx hb dX2_readNumbers_40 (by decide) ?_
          obtain ⟨v_12, ev_12⟩ : ∃ y : Int32, y = z5_16 + 1 := ⟨_, rfl⟩
          replace hf := ob_let hf ev_12
          refine lv_iinc (v := v_12) (lv' := [(5, .int v_12), (4, .int ((-1))), (6, .int o_2), (0, .ref h_), (2, .int x2), (3, .int z3_16)]) hx hb dX2_readNumbers_115 hl (k := 5) rfl (by rw [ev_12]; rfl) (by decide) rfl (fun ls hl => ?_)
          refine lv_goto (tgt := 16) hx hb dX2_readNumbers_118 (by decide) ?_
          cases hf
          exact ih s_numbers_16 z3_16 ((-1)) v_12 ex _ _ _ (h9 _ rfl) (lv_sub hl [3, 4, 5, 1, 0] rfl) hW kx0
  obtain ⟨e_13, hc_13, hf⟩ := ob_bind hf
  refine hB16 lfuel o_1 0 1 x1 e_13 _ _ _ hc_13 (lv_sub hl [3, 5, 2, 1, 0] rfl) hW ?_
  intro H locs ls hl hW
  cases hf
  exact hret dX2_readNumbers_121 hW
def w_X2_enter (E : Nat → ClassId) (h_ h_signs h_numbers h_p1 h_p1_length h_p1_lower h_p1_upper h_p1_value h_p1_obstacleX h_p1_obstacleY h_p1_blocked : Nat) (s_size : Int32) (s_signs : Nat → Int32) (s_numbers : Nat → Int32) (s_p1_links : Int32) (s_p1_obstacles : Int32) (s_p1_length : Nat → Int32) (s_p1_lower : Nat → Int32) (s_p1_upper : Nat → Int32) (s_p1_value : Nat → Int32) (s_p1_obstacleX : Nat → Int32) (s_p1_obstacleY : Nat → Int32) (s_p1_blocked : Nat → Int32) : va_W := [(h_, .inr (4, [.int s_size, .ref h_signs, .ref h_numbers])), (h_signs, .inl (E 2, 60, .inl s_signs)), (h_numbers, .inl (E 0, 3, .inl s_numbers)), (h_p1, .inr (6, [.int s_p1_links, .ref h_p1_length, .ref h_p1_lower, .ref h_p1_upper, .ref h_p1_value, .int s_p1_obstacles, .ref h_p1_obstacleX, .ref h_p1_obstacleY, .ref h_p1_blocked])), (h_p1_length, .inl (E 0, 4, .inl s_p1_length)), (h_p1_lower, .inl (E 0, 4, .inl s_p1_lower)), (h_p1_upper, .inl (E 0, 4, .inl s_p1_upper)), (h_p1_value, .inl (E 0, 4, .inl s_p1_value)), (h_p1_obstacleX, .inl (E 0, 60, .inl s_p1_obstacleX)), (h_p1_obstacleY, .inl (E 0, 60, .inl s_p1_obstacleY)), (h_p1_blocked, .inl (E 0, 21, .inl s_p1_blocked))]
set_option maxHeartbeats 4000000 in
set_option maxRecDepth 100000 in
theorem c_X2_enter (l : Launch) (D : va_G) (E : Nat → ClassId) (tx : List (Nat × String)) (h_ h_signs h_numbers h_p1 h_p1_length h_p1_lower h_p1_upper h_p1_value h_p1_obstacleX h_p1_obstacleY h_p1_blocked : Nat) (s_size : Int32) (s_signs : Nat → Int32) (s_numbers : Nat → Int32) (s_p1_links : Int32) (s_p1_obstacles : Int32) (s_p1_length : Nat → Int32) (s_p1_lower : Nat → Int32) (s_p1_upper : Nat → Int32) (s_p1_value : Nat → Int32) (s_p1_obstacleX : Nat → Int32) (s_p1_obstacleY : Nat → Int32) (s_p1_blocked : Nat → Int32)  (r0 : Int32) (r1 : Nat → Int32) (r2 : Int32) (r3 : Int32) (r4 : Nat → Int32) (r5 : Nat → Int32) (r6 : Nat → Int32) (r7 : Nat → Int32) (r8 : Nat → Int32) (r9 : Nat → Int32) (r10 : Nat → Int32) (hf : f_X2_enter s_size s_signs s_numbers s_p1_links s_p1_obstacles s_p1_length s_p1_lower s_p1_upper s_p1_value s_p1_obstacleX s_p1_obstacleY s_p1_blocked = some (r0, r1, r2, r3, r4, r5, r6, r7, r8, r9, r10)) : CI l yX2_enter cX2_enter 6 (some .int) 3 65 D E tx [.ref h_, .ref h_p1] (w_X2_enter E h_ h_signs h_numbers h_p1 h_p1_length h_p1_lower h_p1_upper h_p1_value h_p1_obstacleX h_p1_obstacleY h_p1_blocked s_size s_signs s_numbers s_p1_links s_p1_obstacles s_p1_length s_p1_lower s_p1_upper s_p1_value s_p1_obstacleX s_p1_obstacleY s_p1_blocked) (w_X2_enter E h_ h_signs h_numbers h_p1 h_p1_length h_p1_lower h_p1_upper h_p1_value h_p1_obstacleX h_p1_obstacleY h_p1_blocked s_size s_signs r1 r2 r3 r4 r5 r6 r7 r8 r9 r10) r0 := by
  refine CI_of RX2 pn_X2 rfl (Nat.le_of_ble_eq_true rfl) (fun p e s m args below meth c A Q hF hK hA hZ hW hret ls hl => ?_)
  have hx := hF.1
  have hb := hF.2.1
  have hl : lv_has ls 6 [(0, .ref h_), (1, .ref h_p1)] := hl
  unfold f_X2_enter at hf
  refine lv_iconst (v := 0) hx hb dX2_enter_0 (by decide) ?_
  refine lv_istore_n (lv' := [(2, .int 0), (0, .ref h_), (1, .ref h_p1)]) hx hb dX2_enter_1 rfl hl (by decide) rfl (fun ls hl => ?_)
  refine lv_iconst (v := 0) hx hb dX2_enter_2 (by decide) ?_
  refine lv_istore_n (lv' := [(3, .int 0), (2, .int 0), (0, .ref h_), (1, .ref h_p1)]) hx hb dX2_enter_3 rfl hl (by decide) rfl (fun ls hl => ?_)
  refine lv_iconst (v := 0) hx hb dX2_enter_4 (by decide) ?_
  refine lv_istore (lv' := [(4, .int 0), (3, .int 0), (2, .int 0), (0, .ref h_), (1, .ref h_p1)]) hx hb dX2_enter_5 hl (by decide) rfl (fun ls hl => ?_)
  have hB7 : ∀ (n : Nat) (s_numbers_7 : Nat → Int32) (s_p1_links_7 : Int32) (s_p1_obstacles_7 : Int32) (s_p1_length_7 : Nat → Int32) (s_p1_lower_7 : Nat → Int32) (s_p1_upper_7 : Nat → Int32) (s_p1_value_7 : Nat → Int32) (s_p1_obstacleX_7 : Nat → Int32) (s_p1_obstacleY_7 : Nat → Int32) (s_p1_blocked_7 : Nat → Int32) (z2_7 : Int32) (z3_7 : Int32) (z4_7 : Int32) (ex : ((Nat → Int32) × Int32 × Int32 × (Nat → Int32) × (Nat → Int32) × (Nat → Int32) × (Nat → Int32) × (Nat → Int32) × (Nat → Int32) × (Nat → Int32)) ⊕ ((Nat → Int32) × Int32 × Int32 × (Nat → Int32) × (Nat → Int32) × (Nat → Int32) × (Nat → Int32) × (Nat → Int32) × (Nat → Int32) × (Nat → Int32) × Int32)) (H : Heap) (locs : List Loc) (ls : Array Slot), LPF (fun z => f_X2_enter_B7 s_size s_signs z.1 z.2.1 z.2.2.1 z.2.2.2.1 z.2.2.2.2.1 z.2.2.2.2.2.1 z.2.2.2.2.2.2.1 z.2.2.2.2.2.2.2.1 z.2.2.2.2.2.2.2.2.1 z.2.2.2.2.2.2.2.2.2.1 z.2.2.2.2.2.2.2.2.2.2.1 z.2.2.2.2.2.2.2.2.2.2.2.1 z.2.2.2.2.2.2.2.2.2.2.2.2) n (s_numbers_7, s_p1_links_7, s_p1_obstacles_7, s_p1_length_7, s_p1_lower_7, s_p1_upper_7, s_p1_value_7, s_p1_obstacleX_7, s_p1_obstacleY_7, s_p1_blocked_7, z2_7, z3_7, z4_7) = some ex → lv_has ls 6 [(0, .ref h_), (1, .ref h_p1), (2, .int z2_7), (3, .int z3_7), (4, .int z4_7)] → WD D A s (w_X2_enter E h_ h_signs h_numbers h_p1 h_p1_length h_p1_lower h_p1_upper h_p1_value h_p1_obstacleX h_p1_obstacleY h_p1_blocked s_size s_signs s_numbers_7 s_p1_links_7 s_p1_obstacles_7 s_p1_length_7 s_p1_lower_7 s_p1_upper_7 s_p1_value_7 s_p1_obstacleX_7 s_p1_obstacleY_7 s_p1_blocked_7) H locs → (∀ (u9 : (Nat → Int32) × Int32 × Int32 × (Nat → Int32) × (Nat → Int32) × (Nat → Int32) × (Nat → Int32) × (Nat → Int32) × (Nat → Int32) × (Nat → Int32)), ex = .inl u9 → ∀ (H : Heap) (locs : List Loc) (ls : Array Slot), lv_has ls 6 [] → WD D A s (w_X2_enter E h_ h_signs h_numbers h_p1 h_p1_length h_p1_lower h_p1_upper h_p1_value h_p1_obstacleX h_p1_obstacleY h_p1_blocked s_size s_signs u9.1 u9.2.1 u9.2.2.1 u9.2.2.2.1 u9.2.2.2.2.1 u9.2.2.2.2.2.1 u9.2.2.2.2.2.2.1 u9.2.2.2.2.2.2.2.1 u9.2.2.2.2.2.2.2.2.1 u9.2.2.2.2.2.2.2.2.2) H locs → W p l e (RM 3 65) s m args below meth c H locs 0 0 Q (F0 m 95 ls [])) → (∀ (u9 : (Nat → Int32) × Int32 × Int32 × (Nat → Int32) × (Nat → Int32) × (Nat → Int32) × (Nat → Int32) × (Nat → Int32) × (Nat → Int32) × (Nat → Int32) × Int32), ex = .inr u9 → ∀ (H : Heap) (locs : List Loc) (ls : Array Slot), lv_has ls 6 [(2, .int u9.2.2.2.2.2.2.2.2.2.2)] → WD D A s (w_X2_enter E h_ h_signs h_numbers h_p1 h_p1_length h_p1_lower h_p1_upper h_p1_value h_p1_obstacleX h_p1_obstacleY h_p1_blocked s_size s_signs u9.1 u9.2.1 u9.2.2.1 u9.2.2.2.1 u9.2.2.2.2.1 u9.2.2.2.2.2.1 u9.2.2.2.2.2.2.1 u9.2.2.2.2.2.2.2.1 u9.2.2.2.2.2.2.2.2.1 u9.2.2.2.2.2.2.2.2.2.1) H locs → W p l e (RM 3 65) s m args below meth c H locs 0 0 Q (F0 m 111 ls [])) → W p l e (RM 3 65) s m args below meth c H locs 0 0 Q (F0 m 7 ls []) := by
    intro n
    induction n with
    | zero => intro s_numbers_7 s_p1_links_7 s_p1_obstacles_7 s_p1_length_7 s_p1_lower_7 s_p1_upper_7 s_p1_value_7 s_p1_obstacleX_7 s_p1_obstacleY_7 s_p1_blocked_7 z2_7 z3_7 z4_7 ex H locs ls h9; exact (ob_lp0 h9).elim
    | succ n ih =>
      intro s_numbers_7 s_p1_links_7 s_p1_obstacles_7 s_p1_length_7 s_p1_lower_7 s_p1_upper_7 s_p1_value_7 s_p1_obstacleX_7 s_p1_obstacleY_7 s_p1_blocked_7 z2_7 z3_7 z4_7 ex H locs ls h9 hl hW kx0 kx1
      obtain ⟨q9, hf, h9, k9⟩ := ob_lp h9
      have hf : f_X2_enter_B7 s_size s_signs s_numbers_7 s_p1_links_7 s_p1_obstacles_7 s_p1_length_7 s_p1_lower_7 s_p1_upper_7 s_p1_value_7 s_p1_obstacleX_7 s_p1_obstacleY_7 s_p1_blocked_7 z2_7 z3_7 z4_7 = some q9 := hf
      unfold f_X2_enter_B7 at hf
      have hL88 : ∀ (s_numbers_88 : Nat → Int32) (s_p1_links_88 : Int32) (s_p1_obstacles_88 : Int32) (s_p1_length_88 : Nat → Int32) (s_p1_lower_88 : Nat → Int32) (s_p1_upper_88 : Nat → Int32) (s_p1_value_88 : Nat → Int32) (s_p1_obstacleX_88 : Nat → Int32) (s_p1_obstacleY_88 : Nat → Int32) (s_p1_blocked_88 : Nat → Int32) (y2_88 : Int32) (y4_88 : Int32) (k0_88 : Int32) (H : Heap) (locs : List Loc) (ls : Array Slot), f_X2_enter_L88 s_size s_signs s_numbers_88 s_p1_links_88 s_p1_obstacles_88 s_p1_length_88 s_p1_lower_88 s_p1_upper_88 s_p1_value_88 s_p1_obstacleX_88 s_p1_obstacleY_88 s_p1_blocked_88 y2_88 y4_88 k0_88 = some q9 → lv_has ls 6 [(0, .ref h_), (1, .ref h_p1), (2, .int y2_88), (4, .int y4_88)] → WD D A s (w_X2_enter E h_ h_signs h_numbers h_p1 h_p1_length h_p1_lower h_p1_upper h_p1_value h_p1_obstacleX h_p1_obstacleY h_p1_blocked s_size s_signs s_numbers_88 s_p1_links_88 s_p1_obstacles_88 s_p1_length_88 s_p1_lower_88 s_p1_upper_88 s_p1_value_88 s_p1_obstacleX_88 s_p1_obstacleY_88 s_p1_blocked_88) H locs → W p l e (RM 3 65) s m args below meth c H locs 0 0 Q (F0 m 88 ls [.int k0_88]) := by
        intro s_numbers_88 s_p1_links_88 s_p1_obstacles_88 s_p1_length_88 s_p1_lower_88 s_p1_upper_88 s_p1_value_88 s_p1_obstacleX_88 s_p1_obstacleY_88 s_p1_blocked_88 y2_88 y4_88 k0_88 H locs ls hf hl hW
        unfold f_X2_enter_L88 at hf
        refine lv_istore (lv' := [(5, .int k0_88), (0, .ref h_), (1, .ref h_p1), (2, .int y2_88), (4, .int y4_88)]) hx hb dX2_enter_88 hl (by decide) rfl (fun ls hl => ?_)
        refine lv_iload hx hb dX2_enter_90 (lv_at hl 0 rfl) ?_
        refine q_if_ne (tgt := 97) hx hb dX2_enter_92 (by decide) hf (fun hf => ?_) (fun hf => ?_)
        · obtain ⟨v_1, ev_1⟩ : ∃ y : Int32, y = y2_88 + 1 := ⟨_, rfl⟩
          replace hf := ob_let hf ev_1
          refine lv_iinc (v := v_1) (lv' := [(2, .int v_1), (5, .int k0_88), (0, .ref h_), (1, .ref h_p1), (4, .int y4_88)]) hx hb dX2_enter_97 hl (k := 3) rfl (by rw [ev_1]; rfl) (by decide) rfl (fun ls hl => ?_)
          refine lv_iload hx hb dX2_enter_100 (lv_at hl 4 rfl) ?_
          refine lv_iconst (v := 1) hx hb dX2_enter_102 (by decide) ?_
          refine lv_iadd hx hb dX2_enter_103 ?_
          refine lv_topi (fun v_2 ev_2 => ?_)
          replace hf := ob_let hf ev_2
          refine lv_istore_n (lv' := [(3, .int v_2), (2, .int v_1), (5, .int k0_88), (0, .ref h_), (1, .ref h_p1), (4, .int y4_88)]) hx hb dX2_enter_104 rfl hl (by decide) rfl (fun ls hl => ?_)
          obtain ⟨v_3, ev_3⟩ : ∃ y : Int32, y = y4_88 + 1 := ⟨_, rfl⟩
          replace hf := ob_let hf ev_3
          refine lv_iinc (v := v_3) (lv' := [(4, .int v_3), (3, .int v_2), (2, .int v_1), (5, .int k0_88), (0, .ref h_), (1, .ref h_p1)]) hx hb dX2_enter_105 hl (k := 5) rfl (by rw [ev_3]; rfl) (by decide) rfl (fun ls hl => ?_)
          refine lv_goto (tgt := 7) hx hb dX2_enter_108 (by decide) ?_
          cases hf
          exact ih s_numbers_88 s_p1_links_88 s_p1_obstacles_88 s_p1_length_88 s_p1_lower_88 s_p1_upper_88 s_p1_value_88 s_p1_obstacleX_88 s_p1_obstacleY_88 s_p1_blocked_88 v_1 v_2 v_3 ex _ _ _ (h9 _ rfl) (lv_sub hl [4, 5, 2, 1, 0] rfl) hW kx0 kx1
        · cases hf
          exact kx0 _ (k9 _ rfl) _ _ _ (lv_sub hl [] rfl) hW
      refine lv_iload hx hb dX2_enter_7 (lv_at hl 4 rfl) ?_
      refine lv_aload_n hx hb dX2_enter_9 rfl (lv_at hl 0 rfl) ?_
      refine q_get hF hK hW fl_X2_9 0 rfl rfl dX2_enter_10 ?_
      refine q_icmp_ge (tgt := 111) hx hb dX2_enter_13 (by decide) hf (fun hf => ?_) (fun hf => ?_)
      · cases hf
        exact kx1 _ (k9 _ rfl) _ _ _ (lv_sub hl [2] rfl) hW
      · refine lv_aload_n hx hb dX2_enter_16 rfl (lv_at hl 0 rfl) ?_
        refine lv_iload hx hb dX2_enter_17 (lv_at hl 4 rfl) ?_
        obtain ⟨o_4, hc_4, hf⟩ := ob_bind hf
        refine q_callI hF hl.1 hK hA hZ hW mv_X2_signAt ml_X2_23 (c_X2_signAt l D E tx h_ h_signs h_numbers s_size s_signs z4_7 o_4 hc_4) [0, 1] rfl rfl rfl rfl rfl rfl ⟨Nat.le_of_ble_eq_true rfl, Nat.le_of_ble_eq_true rfl⟩ ⟨Nat.le_of_ble_eq_true rfl, Nat.le_of_ble_eq_true rfl⟩ rfl rfl (Nat.le_of_ble_eq_true rfl) dX2_enter_19 (fun H locs hW => ?_)
        have hW : WD D A s (w_X2_enter E h_ h_signs h_numbers h_p1 h_p1_length h_p1_lower h_p1_upper h_p1_value h_p1_obstacleX h_p1_obstacleY h_p1_blocked s_size s_signs s_numbers_7 s_p1_links_7 s_p1_obstacles_7 s_p1_length_7 s_p1_lower_7 s_p1_upper_7 s_p1_value_7 s_p1_obstacleX_7 s_p1_obstacleY_7 s_p1_blocked_7) H locs := hW
        refine lv_bipush (v := 59) hx hb dX2_enter_22 (by decide) ?_
        refine q_icmp_ne (tgt := 105) hx hb dX2_enter_24 (by decide) hf (fun hf => ?_) (fun hf => ?_)
        · obtain ⟨v_5, ev_5⟩ : ∃ y : Int32, y = z4_7 + 1 := ⟨_, rfl⟩
          replace hf := ob_let hf ev_5
          refine lv_iinc (v := v_5) (lv' := [(4, .int v_5), (0, .ref h_), (1, .ref h_p1), (2, .int z2_7), (3, .int z3_7)]) hx hb dX2_enter_105 hl (k := 4) rfl (by rw [ev_5]; rfl) (by decide) rfl (fun ls hl => ?_)
          refine lv_goto (tgt := 7) hx hb dX2_enter_108 (by decide) ?_
          cases hf
          exact ih s_numbers_7 s_p1_links_7 s_p1_obstacles_7 s_p1_length_7 s_p1_lower_7 s_p1_upper_7 s_p1_value_7 s_p1_obstacleX_7 s_p1_obstacleY_7 s_p1_blocked_7 z2_7 z3_7 v_5 ex _ _ _ (h9 _ rfl) (lv_sub hl [1, 2, 3, 4, 0] rfl) hW kx0 kx1
        · refine lv_aload_n hx hb dX2_enter_27 rfl (lv_at hl 0 rfl) ?_
          refine lv_iload_n hx hb dX2_enter_28 rfl (lv_at hl 3 rfl) ?_
          refine lv_iconst (v := 1) hx hb dX2_enter_29 (by decide) ?_
          refine lv_iadd hx hb dX2_enter_30 ?_
          refine lv_iload hx hb dX2_enter_31 (lv_at hl 4 rfl) ?_
          obtain ⟨o_6, hc_6, hf⟩ := ob_bind hf
          refine q_callV hF hl.1 hK hA hZ hW mv_X2_readNumbers ml_X2_38 (c_X2_readNumbers l D E tx h_ h_signs h_numbers s_size s_signs s_numbers_7 (z3_7 + 1) z4_7 o_6 hc_6) [0, 1, 2] rfl rfl rfl rfl rfl rfl ⟨Nat.le_of_ble_eq_true rfl, Nat.le_of_ble_eq_true rfl⟩ ⟨Nat.le_of_ble_eq_true rfl, Nat.le_of_ble_eq_true rfl⟩ rfl rfl (Nat.le_of_ble_eq_true rfl) dX2_enter_33 (fun H locs hW => ?_)
          have hW : WD D A s (w_X2_enter E h_ h_signs h_numbers h_p1 h_p1_length h_p1_lower h_p1_upper h_p1_value h_p1_obstacleX h_p1_obstacleY h_p1_blocked s_size s_signs o_6 s_p1_links_7 s_p1_obstacles_7 s_p1_length_7 s_p1_lower_7 s_p1_upper_7 s_p1_value_7 s_p1_obstacleX_7 s_p1_obstacleY_7 s_p1_blocked_7) H locs := hW
          refine lv_aload_n hx hb dX2_enter_36 rfl (lv_at hl 0 rfl) ?_
          refine lv_iload_n hx hb dX2_enter_37 rfl (lv_at hl 3 rfl) ?_
          obtain ⟨o_7, hc_7, hf⟩ := ob_bind hf
          refine q_callI hF hl.1 hK hA hZ hW mv_X2_signAt ml_X2_23 (c_X2_signAt l D E tx h_ h_signs h_numbers s_size s_signs z3_7 o_7 hc_7) [0, 1] rfl rfl rfl rfl rfl rfl ⟨Nat.le_of_ble_eq_true rfl, Nat.le_of_ble_eq_true rfl⟩ ⟨Nat.le_of_ble_eq_true rfl, Nat.le_of_ble_eq_true rfl⟩ rfl rfl (Nat.le_of_ble_eq_true rfl) dX2_enter_38 (fun H locs hW => ?_)
          have hW : WD D A s (w_X2_enter E h_ h_signs h_numbers h_p1 h_p1_length h_p1_lower h_p1_upper h_p1_value h_p1_obstacleX h_p1_obstacleY h_p1_blocked s_size s_signs o_6 s_p1_links_7 s_p1_obstacles_7 s_p1_length_7 s_p1_lower_7 s_p1_upper_7 s_p1_value_7 s_p1_obstacleX_7 s_p1_obstacleY_7 s_p1_blocked_7) H locs := hW
          refine lv_bipush (v := 76) hx hb dX2_enter_41 (by decide) ?_
          refine q_icmp_ne (tgt := 72) hx hb dX2_enter_43 (by decide) hf (fun hf => ?_) (fun hf => ?_)
          · refine lv_aload_n hx hb dX2_enter_72 rfl (lv_at hl 1 rfl) ?_
            refine lv_aload_n hx hb dX2_enter_73 rfl (lv_at hl 0 rfl) ?_
            refine q_get hF hK hW fl_X2_19 0 rfl rfl dX2_enter_74 ?_
            refine lv_iconst (v := 0) hx hb dX2_enter_77 (by decide) ?_
            refine q_iald hx hb hK hW 2 0 rfl rfl dX2_enter_78 hf (fun hf => ?_)
            refine lv_aload_n hx hb dX2_enter_79 rfl (lv_at hl 0 rfl) ?_
            refine q_get hF hK hW fl_X2_19 0 rfl rfl dX2_enter_80 ?_
            refine lv_iconst (v := 1) hx hb dX2_enter_83 (by decide) ?_
            refine q_iald hx hb hK hW 2 0 rfl rfl dX2_enter_84 hf (fun hf => ?_)
            obtain ⟨o_8, hc_8, hf⟩ := ob_bind hf
            refine q_callI hF hl.1 hK hA hZ hW mv_X4_block ml_X2_48 (c_X4_block l D E tx h_p1 h_p1_length h_p1_lower h_p1_upper h_p1_value h_p1_obstacleX h_p1_obstacleY h_p1_blocked s_p1_links_7 s_p1_obstacles_7 s_p1_obstacleX_7 s_p1_obstacleY_7 s_p1_blocked_7 (o_6 (0 : Int32).toNatClampNeg) (o_6 (1 : Int32).toNatClampNeg) o_8.1 o_8.2.1 o_8.2.2.1 o_8.2.2.2.1 o_8.2.2.2.2 hc_8) [3, 8, 9, 10] rfl rfl rfl rfl rfl rfl ⟨Nat.le_of_ble_eq_true rfl, Nat.le_of_ble_eq_true rfl⟩ ⟨Nat.le_of_ble_eq_true rfl, Nat.le_of_ble_eq_true rfl⟩ rfl rfl (Nat.le_of_ble_eq_true rfl) dX2_enter_85 (fun H locs hW => ?_)
            have hW : WD D A s (w_X2_enter E h_ h_signs h_numbers h_p1 h_p1_length h_p1_lower h_p1_upper h_p1_value h_p1_obstacleX h_p1_obstacleY h_p1_blocked s_size s_signs o_6 s_p1_links_7 o_8.2.1 s_p1_length_7 s_p1_lower_7 s_p1_upper_7 s_p1_value_7 o_8.2.2.1 o_8.2.2.2.1 o_8.2.2.2.2) H locs := hW
            exact hL88 o_6 s_p1_links_7 o_8.2.1 s_p1_length_7 s_p1_lower_7 s_p1_upper_7 s_p1_value_7 o_8.2.2.1 o_8.2.2.2.1 o_8.2.2.2.2 z2_7 z4_7 o_8.1 _ _ _ hf (lv_sub hl [0, 1, 2, 4] rfl) hW
          · refine lv_aload_n hx hb dX2_enter_46 rfl (lv_at hl 1 rfl) ?_
            refine lv_aload_n hx hb dX2_enter_47 rfl (lv_at hl 0 rfl) ?_
            refine q_get hF hK hW fl_X2_19 0 rfl rfl dX2_enter_48 ?_
            refine lv_iconst (v := 0) hx hb dX2_enter_51 (by decide) ?_
            refine q_iald hx hb hK hW 2 0 rfl rfl dX2_enter_52 hf (fun hf => ?_)
            refine lv_aload_n hx hb dX2_enter_53 rfl (lv_at hl 0 rfl) ?_
            refine q_get hF hK hW fl_X2_19 0 rfl rfl dX2_enter_54 ?_
            refine lv_iconst (v := 1) hx hb dX2_enter_57 (by decide) ?_
            refine q_iald hx hb hK hW 2 0 rfl rfl dX2_enter_58 hf (fun hf => ?_)
            refine lv_ineg hx hb dX2_enter_59 ?_
            refine lv_aload_n hx hb dX2_enter_60 rfl (lv_at hl 0 rfl) ?_
            refine q_get hF hK hW fl_X2_19 0 rfl rfl dX2_enter_61 ?_
            refine lv_iconst (v := 2) hx hb dX2_enter_64 (by decide) ?_
            refine q_iald hx hb hK hW 2 0 rfl rfl dX2_enter_65 hf (fun hf => ?_)
            obtain ⟨o_9, hc_9, hf⟩ := ob_bind hf
            refine q_callI hF hl.1 hK hA hZ hW mv_X4_attach ml_X2_42 (c_X4_attach l D E tx h_p1 h_p1_length h_p1_lower h_p1_upper h_p1_value h_p1_obstacleX h_p1_obstacleY h_p1_blocked s_p1_links_7 s_p1_obstacles_7 s_p1_length_7 s_p1_lower_7 s_p1_upper_7 s_p1_value_7 (o_6 (0 : Int32).toNatClampNeg) (-(o_6 (1 : Int32).toNatClampNeg)) (o_6 (2 : Int32).toNatClampNeg) o_9.1 o_9.2.1 o_9.2.2.1 o_9.2.2.2.1 o_9.2.2.2.2.1 o_9.2.2.2.2.2 hc_9) [3, 4, 5, 6, 7] rfl rfl rfl rfl rfl rfl ⟨Nat.le_of_ble_eq_true rfl, Nat.le_of_ble_eq_true rfl⟩ ⟨Nat.le_of_ble_eq_true rfl, Nat.le_of_ble_eq_true rfl⟩ rfl rfl (Nat.le_of_ble_eq_true rfl) dX2_enter_66 (fun H locs hW => ?_)
            have hW : WD D A s (w_X2_enter E h_ h_signs h_numbers h_p1 h_p1_length h_p1_lower h_p1_upper h_p1_value h_p1_obstacleX h_p1_obstacleY h_p1_blocked s_size s_signs o_6 o_9.2.1 s_p1_obstacles_7 o_9.2.2.1 o_9.2.2.2.1 o_9.2.2.2.2.1 o_9.2.2.2.2.2 s_p1_obstacleX_7 s_p1_obstacleY_7 s_p1_blocked_7) H locs := hW
            refine lv_goto (tgt := 88) hx hb dX2_enter_69 (by decide) ?_
            exact hL88 o_6 o_9.2.1 s_p1_obstacles_7 o_9.2.2.1 o_9.2.2.2.1 o_9.2.2.2.2.1 o_9.2.2.2.2.2 s_p1_obstacleX_7 s_p1_obstacleY_7 s_p1_blocked_7 z2_7 z4_7 o_9.1 _ _ _ hf (lv_sub hl [0, 1, 2, 4] rfl) hW
  obtain ⟨e_10, hc_10, hf⟩ := ob_bind hf
  refine hB7 lfuel s_numbers s_p1_links s_p1_obstacles s_p1_length s_p1_lower s_p1_upper s_p1_value s_p1_obstacleX s_p1_obstacleY s_p1_blocked 0 0 0 e_10 _ _ _ hc_10 (lv_sub hl [3, 4, 2, 1, 0] rfl) hW ?_ ?_
  · intro u_11 hu H locs ls hl hW
    subst hu
    dsimp only at hf
    refine lv_iconst (v := (-1)) hx hb dX2_enter_95 (by decide) ?_
    cases hf
    exact hret dX2_enter_96 rfl rfl hW
  · intro u_12 hu H locs ls hl hW
    subst hu
    dsimp only at hf
    refine lv_iload_n hx hb dX2_enter_111 rfl (lv_at hl 0 rfl) ?_
    cases hf
    exact hret dX2_enter_112 rfl rfl hW
