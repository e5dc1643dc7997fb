def w_X1_forget (E : Nat → ClassId) (h_ h_past : Nat) (s_changes : Int32) (s_oldest : Int32) : va_W := [(h_, .inr (3, [.int s_changes, .int s_oldest, .ref h_past]))]
set_option maxHeartbeats 4000000 in
set_option maxRecDepth 100000 in
theorem c_X1_forget (l : Launch) (D : va_G) (E : Nat → ClassId) (tx : List (Nat × String)) (h_ h_past : Nat) (s_changes : Int32) (s_oldest : Int32)  (r0 : Int32) (hf : f_X1_forget s_changes = some r0) : CV l yX1_forget cX1_forget 1 0 0 D E tx [.ref h_] (w_X1_forget E h_ h_past s_changes s_oldest) (w_X1_forget E h_ h_past r0 s_oldest) := by
  refine CV_of RX1 pn_X1 rfl (Nat.le_of_ble_eq_true rfl) (fun p e s m args below meth c A Q hF hK hA hZ hW hret ls hl => ?_)
  have hx := hF.1
  have hb := hF.2.1
  have hl : lv_has ls 1 [(0, .ref h_)] := hl
  unfold f_X1_forget at hf
  refine lv_aload_n hx hb dX1_forget_0 rfl (lv_at hl 0 rfl) ?_
  refine lv_iconst (v := 0) hx hb dX1_forget_1 (by decide) ?_
  refine q_put hF hK hW fl_X1_9 ft_X1 rfl 0 rfl rfl rfl (Nat.le_of_ble_eq_true rfl) dX1_forget_2 (fun H locs hW => ?_)
  have hW : WD D A s (w_X1_forget E h_ h_past 0 s_oldest) H locs := hW
  cases hf
  exact hret dX1_forget_5 hW
def w_X1_remember (E : Nat → ClassId) (h_ h_past h_p1 h_p1_length h_p1_lower h_p1_upper h_p1_value h_p1_obstacleX h_p1_obstacleY h_p1_blocked : Nat) (s_changes : Int32) (s_oldest : Int32) (s_p1_links : Int32) (s_p1_obstacles : Int32) (s_p1_length : Nat → Int32) (s_p1_lower : Nat → Int32) (s_p1_upper : Nat → Int32) (s_p1_value : Nat → Int32) (s_p1_obstacleX : Nat → Int32) (s_p1_obstacleY : Nat → Int32) (s_p1_blocked : Nat → Int32) : va_W := [(h_, .inr (3, [.int s_changes, .int s_oldest, .ref h_past])), (h_p1, .inr (6, [.int s_p1_links, .ref h_p1_length, .ref h_p1_lower, .ref h_p1_upper, .ref h_p1_value, .int s_p1_obstacles, .ref h_p1_obstacleX, .ref h_p1_obstacleY, .ref h_p1_blocked])), (h_p1_length, .inl (E 0, 4, .inl s_p1_length)), (h_p1_lower, .inl (E 0, 4, .inl s_p1_lower)), (h_p1_upper, .inl (E 0, 4, .inl s_p1_upper)), (h_p1_value, .inl (E 0, 4, .inl s_p1_value)), (h_p1_obstacleX, .inl (E 0, 60, .inl s_p1_obstacleX)), (h_p1_obstacleY, .inl (E 0, 60, .inl s_p1_obstacleY)), (h_p1_blocked, .inl (E 0, 21, .inl s_p1_blocked))]
set_option maxHeartbeats 4000000 in
set_option maxRecDepth 100000 in
theorem c_X1_remember (l : Launch) (D : va_G) (E : Nat → ClassId) (tx : List (Nat × String)) (h_ h_past h_p1 h_p1_length h_p1_lower h_p1_upper h_p1_value h_p1_obstacleX h_p1_obstacleY h_p1_blocked : Nat) (hp_past : Nat → Nat → Nat) (s_changes : Int32) (s_oldest : Int32) (s_p1_links : Int32) (s_p1_obstacles : Int32) (s_p1_length : Nat → Int32) (s_p1_lower : Nat → Int32) (s_p1_upper : Nat → Int32) (s_p1_value : Nat → Int32) (s_p1_obstacleX : Nat → Int32) (s_p1_obstacleY : Nat → Int32) (s_p1_blocked : Nat → Int32) (s_past_l : Nat → Int32) (s_past_o : Nat → Int32) (s_past_a : Nat → Nat → Nat → Int32)  (r0 : Int32) (r1 : Int32) (r2 : Nat → Int32) (r3 : Nat → Int32) (r4 : Nat → Nat → Nat → Int32) (hf : f_X1_remember s_changes s_oldest s_p1_links s_p1_obstacles s_p1_length s_p1_lower s_p1_upper s_p1_value s_p1_obstacleX s_p1_obstacleY s_p1_blocked s_past_l s_past_o s_past_a = some (r0, r1, r2, r3, r4)) : CV l yX1_remember cX1_remember 3 2 85 D E tx [.ref h_, .ref h_p1] (w_X1_remember E h_ h_past h_p1 h_p1_length h_p1_lower h_p1_upper h_p1_value h_p1_obstacleX h_p1_obstacleY h_p1_blocked s_changes s_oldest s_p1_links s_p1_obstacles s_p1_length s_p1_lower s_p1_upper s_p1_value s_p1_obstacleX s_p1_obstacleY s_p1_blocked ++ w_pool E h_past hp_past s_past_l s_past_o s_past_a) (w_X1_remember E h_ h_past h_p1 h_p1_length h_p1_lower h_p1_upper h_p1_value h_p1_obstacleX h_p1_obstacleY h_p1_blocked r0 r1 s_p1_links s_p1_obstacles s_p1_length s_p1_lower s_p1_upper s_p1_value s_p1_obstacleX s_p1_obstacleY s_p1_blocked ++ w_pool E h_past hp_past r2 r3 r4) := by
  refine CV_of RX1 pn_X1 rfl (Nat.le_of_ble_eq_true rfl) (fun p e s m args below meth c A Q hF hK hA hZ hW hret ls hl => ?_)
  have hx := hF.1
  have hb := hF.2.1
  have hl : lv_has ls 3 [(0, .ref h_), (1, .ref h_p1)] := hl
  unfold f_X1_remember at hf
  have hL27 : ∀ (s_changes_27 : Int32) (s_oldest_27 : Int32) (s_past_l_27 : Nat → Int32) (s_past_o_27 : Nat → Int32) (s_past_a_27 : Nat → Nat → Nat → Int32) (H : Heap) (locs : List Loc) (ls : Array Slot), f_X1_remember_L27 s_changes_27 s_oldest_27 s_p1_links s_p1_obstacles s_p1_length s_p1_lower s_p1_upper s_p1_value s_p1_obstacleX s_p1_obstacleY s_p1_blocked s_past_l_27 s_past_o_27 s_past_a_27 = some (r0, r1, r2, r3, r4) → lv_has ls 3 [(0, .ref h_)] → WD D A s (w_X1_remember E h_ h_past h_p1 h_p1_length h_p1_lower h_p1_upper h_p1_value h_p1_obstacleX h_p1_obstacleY h_p1_blocked s_changes_27 s_oldest_27 s_p1_links s_p1_obstacles s_p1_length s_p1_lower s_p1_upper s_p1_value s_p1_obstacleX s_p1_obstacleY s_p1_blocked ++ w_pool E h_past hp_past s_past_l_27 s_past_o_27 s_past_a_27) H locs → W p l e (RM 2 85) s m args below meth c H locs 0 0 Q (F0 m 27 ls []) := by
    intro s_changes_27 s_oldest_27 s_past_l_27 s_past_o_27 s_past_a_27 H locs ls hf hl hW
    unfold f_X1_remember_L27 at hf
    refine lv_aload_n hx hb dX1_remember_27 rfl (lv_at hl 0 rfl) ?_
    refine q_get hF hK hW fl_X1_9 0 rfl rfl dX1_remember_28 ?_
    refine lv_bipush (v := 8) hx hb dX1_remember_31 (by decide) ?_
    refine q_icmp_ge (tgt := 49) hx hb dX1_remember_33 (by decide) hf (fun hf => ?_) (fun hf => ?_)
    · refine lv_aload_n hx hb dX1_remember_49 rfl (lv_at hl 0 rfl) ?_
      refine lv_aload_n hx hb dX1_remember_50 rfl (lv_at hl 0 rfl) ?_
      refine q_get hF hK hW fl_X1_15 0 rfl rfl dX1_remember_51 ?_
      refine lv_iconst (v := 1) hx hb dX1_remember_54 (by decide) ?_
      refine lv_iadd hx hb dX1_remember_55 ?_
      refine lv_bipush (v := 7) hx hb dX1_remember_56 (by decide) ?_
      refine lv_iand hx hb dX1_remember_58 ?_
      refine lv_topi (fun v_1 ev_1 => ?_)
      replace hf := ob_let hf ev_1
      refine q_put hF hK hW fl_X1_15 ft_X1 rfl 0 rfl rfl rfl (Nat.le_of_ble_eq_true rfl) dX1_remember_59 (fun H locs hW => ?_)
      have hW : WD D A s (w_X1_remember E h_ h_past h_p1 h_p1_length h_p1_lower h_p1_upper h_p1_value h_p1_obstacleX h_p1_obstacleY h_p1_blocked s_changes_27 v_1 s_p1_links s_p1_obstacles s_p1_length s_p1_lower s_p1_upper s_p1_value s_p1_obstacleX s_p1_obstacleY s_p1_blocked ++ w_pool E h_past hp_past s_past_l_27 s_past_o_27 s_past_a_27) H locs := hW
      cases hf
      exact hret dX1_remember_62 hW
    · refine lv_aload_n hx hb dX1_remember_36 rfl (lv_at hl 0 rfl) ?_
      refine lv_dup hx hb dX1_remember_37 rfl ?_
      refine q_get hF hK hW fl_X1_9 0 rfl rfl dX1_remember_38 ?_
      refine lv_iconst (v := 1) hx hb dX1_remember_41 (by decide) ?_
      refine lv_iadd hx hb dX1_remember_42 ?_
      refine lv_topi (fun v_2 ev_2 => ?_)
      replace hf := ob_let hf ev_2
      refine q_put hF hK hW fl_X1_9 ft_X1 rfl 0 rfl rfl rfl (Nat.le_of_ble_eq_true rfl) dX1_remember_43 (fun H locs hW => ?_)
      have hW : WD D A s (w_X1_remember E h_ h_past h_p1 h_p1_length h_p1_lower h_p1_upper h_p1_value h_p1_obstacleX h_p1_obstacleY h_p1_blocked v_2 s_oldest_27 s_p1_links s_p1_obstacles s_p1_length s_p1_lower s_p1_upper s_p1_value s_p1_obstacleX s_p1_obstacleY s_p1_blocked ++ w_pool E h_past hp_past s_past_l_27 s_past_o_27 s_past_a_27) H locs := hW
      refine lv_goto (tgt := 62) hx hb dX1_remember_46 (by decide) ?_
      cases hf
      exact hret dX1_remember_62 hW
  refine lv_aload_n hx hb dX1_remember_0 rfl (lv_at hl 0 rfl) ?_
  refine q_get hF hK hW fl_X1_20 0 rfl rfl dX1_remember_1 ?_
  refine lv_aload_n hx hb dX1_remember_4 rfl (lv_at hl 0 rfl) ?_
  refine q_get hF hK hW fl_X1_15 0 rfl rfl dX1_remember_5 ?_
  refine lv_aload_n hx hb dX1_remember_8 rfl (lv_at hl 0 rfl) ?_
  refine q_get hF hK hW fl_X1_9 0 rfl rfl dX1_remember_9 ?_
  refine lv_iadd hx hb dX1_remember_12 ?_
  refine lv_bipush (v := 7) hx hb dX1_remember_13 (by decide) ?_
  refine lv_iand hx hb dX1_remember_15 ?_
  refine q_aald8 hx hb hK hW 9 3 rfl rfl dX1_remember_16 hf (fun hf => ?_) (fun hf => ?_) (fun hf => ?_) (fun hf => ?_) (fun hf => ?_) (fun hf => ?_) (fun hf => ?_) (fun hf => ?_)
  · refine lv_astore_n (lv' := [(2, .ref (hp_past 0 0)), (0, .ref h_), (1, .ref h_p1)]) hx hb dX1_remember_17 rfl hl (by decide) rfl (fun ls hl => ?_)
    refine lv_aload_n hx hb dX1_remember_18 rfl (lv_at hl 0 rfl) ?_
    refine lv_ifnull hx hb dX1_remember_19 ?_
    refine lv_aload_n hx hb dX1_remember_22 rfl (lv_at hl 0 rfl) ?_
    refine lv_aload_n hx hb dX1_remember_23 rfl (lv_at hl 2 rfl) ?_
    obtain ⟨o_3, hc_3, hf⟩ := ob_bind hf
    refine q_callV hF hl.1 hK hA hZ hW mv_X4_copyFrom ml_X1_25 (c_X4_copyFrom l D E tx (hp_past 0 0) (hp_past 0 1) (hp_past 0 2) (hp_past 0 3) (hp_past 0 4) (hp_past 0 5) (hp_past 0 6) (hp_past 0 7) h_p1 h_p1_length h_p1_lower h_p1_upper h_p1_value h_p1_obstacleX h_p1_obstacleY h_p1_blocked (s_past_l 0) (s_past_o 0) (s_past_a 0 0) (s_past_a 0 1) (s_past_a 0 2) (s_past_a 0 3) (s_past_a 0 4) (s_past_a 0 5) (s_past_a 0 6) s_p1_links s_p1_obstacles s_p1_length s_p1_lower s_p1_upper s_p1_value s_p1_obstacleX s_p1_obstacleY s_p1_blocked o_3.1 o_3.2.1 o_3.2.2.1 o_3.2.2.2.1 o_3.2.2.2.2.1 o_3.2.2.2.2.2.1 o_3.2.2.2.2.2.2.1 o_3.2.2.2.2.2.2.2.1 o_3.2.2.2.2.2.2.2.2 hc_3) [10, 11, 12, 13, 14, 15, 16, 17, 1, 2, 3, 4, 5, 6, 7, 8] rfl rfl rfl rfl rfl rfl ⟨Nat.le_of_ble_eq_true rfl, Nat.le_of_ble_eq_true rfl⟩ ⟨Nat.le_of_ble_eq_true rfl, Nat.le_of_ble_eq_true rfl⟩ rfl rfl (Nat.le_of_ble_eq_true rfl) dX1_remember_24 (fun H locs hW => ?_)
    have hW : WD D A s (w_X1_remember E h_ h_past h_p1 h_p1_length h_p1_lower h_p1_upper h_p1_value h_p1_obstacleX h_p1_obstacleY h_p1_blocked s_changes s_oldest s_p1_links s_p1_obstacles s_p1_length s_p1_lower s_p1_upper s_p1_value s_p1_obstacleX s_p1_obstacleY s_p1_blocked ++ w_pool E h_past hp_past (va_up s_past_l 0 o_3.1) (va_up s_past_o 0 o_3.2.1) (va_up s_past_a 0 (f7 o_3.2.2.1 o_3.2.2.2.1 o_3.2.2.2.2.1 o_3.2.2.2.2.2.1 o_3.2.2.2.2.2.2.1 o_3.2.2.2.2.2.2.2.1 o_3.2.2.2.2.2.2.2.2))) H locs := hW
    exact hL27 s_changes s_oldest (va_up s_past_l 0 o_3.1) (va_up s_past_o 0 o_3.2.1) (va_up s_past_a 0 (f7 o_3.2.2.1 o_3.2.2.2.1 o_3.2.2.2.2.1 o_3.2.2.2.2.2.1 o_3.2.2.2.2.2.2.1 o_3.2.2.2.2.2.2.2.1 o_3.2.2.2.2.2.2.2.2)) _ _ _ hf (lv_sub hl [1] rfl) hW
  · refine lv_astore_n (lv' := [(2, .ref (hp_past 1 0)), (0, .ref h_), (1, .ref h_p1)]) hx hb dX1_remember_17 rfl hl (by decide) rfl (fun ls hl => ?_)
    refine lv_aload_n hx hb dX1_remember_18 rfl (lv_at hl 0 rfl) ?_
    refine lv_ifnull hx hb dX1_remember_19 ?_
    refine lv_aload_n hx hb dX1_remember_22 rfl (lv_at hl 0 rfl) ?_
    refine lv_aload_n hx hb dX1_remember_23 rfl (lv_at hl 2 rfl) ?_
    obtain ⟨o_4, hc_4, hf⟩ := ob_bind hf
    refine q_callV hF hl.1 hK hA hZ hW mv_X4_copyFrom ml_X1_25 (c_X4_copyFrom l D E tx (hp_past 1 0) (hp_past 1 1) (hp_past 1 2) (hp_past 1 3) (hp_past 1 4) (hp_past 1 5) (hp_past 1 6) (hp_past 1 7) h_p1 h_p1_length h_p1_lower h_p1_upper h_p1_value h_p1_obstacleX h_p1_obstacleY h_p1_blocked (s_past_l 1) (s_past_o 1) (s_past_a 1 0) (s_past_a 1 1) (s_past_a 1 2) (s_past_a 1 3) (s_past_a 1 4) (s_past_a 1 5) (s_past_a 1 6) s_p1_links s_p1_obstacles s_p1_length s_p1_lower s_p1_upper s_p1_value s_p1_obstacleX s_p1_obstacleY s_p1_blocked o_4.1 o_4.2.1 o_4.2.2.1 o_4.2.2.2.1 o_4.2.2.2.2.1 o_4.2.2.2.2.2.1 o_4.2.2.2.2.2.2.1 o_4.2.2.2.2.2.2.2.1 o_4.2.2.2.2.2.2.2.2 hc_4) [18, 19, 20, 21, 22, 23, 24, 25, 1, 2, 3, 4, 5, 6, 7, 8] rfl rfl rfl rfl rfl rfl ⟨Nat.le_of_ble_eq_true rfl, Nat.le_of_ble_eq_true rfl⟩ ⟨Nat.le_of_ble_eq_true rfl, Nat.le_of_ble_eq_true rfl⟩ rfl rfl (Nat.le_of_ble_eq_true rfl) dX1_remember_24 (fun H locs hW => ?_)
    have hW : WD D A s (w_X1_remember E h_ h_past h_p1 h_p1_length h_p1_lower h_p1_upper h_p1_value h_p1_obstacleX h_p1_obstacleY h_p1_blocked s_changes s_oldest s_p1_links s_p1_obstacles s_p1_length s_p1_lower s_p1_upper s_p1_value s_p1_obstacleX s_p1_obstacleY s_p1_blocked ++ w_pool E h_past hp_past (va_up s_past_l 1 o_4.1) (va_up s_past_o 1 o_4.2.1) (va_up s_past_a 1 (f7 o_4.2.2.1 o_4.2.2.2.1 o_4.2.2.2.2.1 o_4.2.2.2.2.2.1 o_4.2.2.2.2.2.2.1 o_4.2.2.2.2.2.2.2.1 o_4.2.2.2.2.2.2.2.2))) H locs := hW
    exact hL27 s_changes s_oldest (va_up s_past_l 1 o_4.1) (va_up s_past_o 1 o_4.2.1) (va_up s_past_a 1 (f7 o_4.2.2.1 o_4.2.2.2.1 o_4.2.2.2.2.1 o_4.2.2.2.2.2.1 o_4.2.2.2.2.2.2.1 o_4.2.2.2.2.2.2.2.1 o_4.2.2.2.2.2.2.2.2)) _ _ _ hf (lv_sub hl [1] rfl) hW
  · refine lv_astore_n (lv' := [(2, .ref (hp_past 2 0)), (0, .ref h_), (1, .ref h_p1)]) hx hb dX1_remember_17 rfl hl (by decide) rfl (fun ls hl => ?_)
    refine lv_aload_n hx hb dX1_remember_18 rfl (lv_at hl 0 rfl) ?_
    refine lv_ifnull hx hb dX1_remember_19 ?_
    refine lv_aload_n hx hb dX1_remember_22 rfl (lv_at hl 0 rfl) ?_
    refine lv_aload_n hx hb dX1_remember_23 rfl (lv_at hl 2 rfl) ?_
    obtain ⟨o_5, hc_5, hf⟩ := ob_bind hf
    refine q_callV hF hl.1 hK hA hZ hW mv_X4_copyFrom ml_X1_25 (c_X4_copyFrom l D E tx (hp_past 2 0) (hp_past 2 1) (hp_past 2 2) (hp_past 2 3) (hp_past 2 4) (hp_past 2 5) (hp_past 2 6) (hp_past 2 7) h_p1 h_p1_length h_p1_lower h_p1_upper h_p1_value h_p1_obstacleX h_p1_obstacleY h_p1_blocked (s_past_l 2) (s_past_o 2) (s_past_a 2 0) (s_past_a 2 1) (s_past_a 2 2) (s_past_a 2 3) (s_past_a 2 4) (s_past_a 2 5) (s_past_a 2 6) s_p1_links s_p1_obstacles s_p1_length s_p1_lower s_p1_upper s_p1_value s_p1_obstacleX s_p1_obstacleY s_p1_blocked o_5.1 o_5.2.1 o_5.2.2.1 o_5.2.2.2.1 o_5.2.2.2.2.1 o_5.2.2.2.2.2.1 o_5.2.2.2.2.2.2.1 o_5.2.2.2.2.2.2.2.1 o_5.2.2.2.2.2.2.2.2 hc_5) [26, 27, 28, 29, 30, 31, 32, 33, 1, 2, 3, 4, 5, 6, 7, 8] rfl rfl rfl rfl rfl rfl ⟨Nat.le_of_ble_eq_true rfl, Nat.le_of_ble_eq_true rfl⟩ ⟨Nat.le_of_ble_eq_true rfl, Nat.le_of_ble_eq_true rfl⟩ rfl rfl (Nat.le_of_ble_eq_true rfl) dX1_remember_24 (fun H locs hW => ?_)
    have hW : WD D A s (w_X1_remember E h_ h_past h_p1 h_p1_length h_p1_lower h_p1_upper h_p1_value h_p1_obstacleX h_p1_obstacleY h_p1_blocked s_changes s_oldest s_p1_links s_p1_obstacles s_p1_length s_p1_lower s_p1_upper s_p1_value s_p1_obstacleX s_p1_obstacleY s_p1_blocked ++ w_pool E h_past hp_past (va_up s_past_l 2 o_5.1) (va_up s_past_o 2 o_5.2.1) (va_up s_past_a 2 (f7 o_5.2.2.1 o_5.2.2.2.1 o_5.2.2.2.2.1 o_5.2.2.2.2.2.1 o_5.2.2.2.2.2.2.1 o_5.2.2.2.2.2.2.2.1 o_5.2.2.2.2.2.2.2.2))) H locs := hW
    exact hL27 s_changes s_oldest (va_up s_past_l 2 o_5.1) (va_up s_past_o 2 o_5.2.1) (va_up s_past_a 2 (f7 o_5.2.2.1 o_5.2.2.2.1 o_5.2.2.2.2.1 o_5.2.2.2.2.2.1 o_5.2.2.2.2.2.2.1 o_5.2.2.2.2.2.2.2.1 o_5.2.2.2.2.2.2.2.2)) _ _ _ hf (lv_sub hl [1] rfl) hW
  · refine lv_astore_n (lv' := [(2, .ref (hp_past 3 0)), (0, .ref h_), (1, .ref h_p1)]) hx hb dX1_remember_17 rfl hl (by decide) rfl (fun ls hl => ?_)
    refine lv_aload_n hx hb dX1_remember_18 rfl (lv_at hl 0 rfl) ?_
    refine lv_ifnull hx hb dX1_remember_19 ?_
    refine lv_aload_n hx hb dX1_remember_22 rfl (lv_at hl 0 rfl) ?_
    refine lv_aload_n hx hb dX1_remember_23 rfl (lv_at hl 2 rfl) ?_
    obtain ⟨o_6, hc_6, hf⟩ := ob_bind hf
    refine q_callV hF hl.1 hK hA hZ hW mv_X4_copyFrom ml_X1_25 (c_X4_copyFrom l D E tx (hp_past 3 0) (hp_past 3 1) (hp_past 3 2) (hp_past 3 3) (hp_past 3 4) (hp_past 3 5) (hp_past 3 6) (hp_past 3 7) h_p1 h_p1_length h_p1_lower h_p1_upper h_p1_value h_p1_obstacleX h_p1_obstacleY h_p1_blocked (s_past_l 3) (s_past_o 3) (s_past_a 3 0) (s_past_a 3 1) (s_past_a 3 2) (s_past_a 3 3) (s_past_a 3 4) (s_past_a 3 5) (s_past_a 3 6) s_p1_links s_p1_obstacles s_p1_length s_p1_lower s_p1_upper s_p1_value s_p1_obstacleX s_p1_obstacleY s_p1_blocked o_6.1 o_6.2.1 o_6.2.2.1 o_6.2.2.2.1 o_6.2.2.2.2.1 o_6.2.2.2.2.2.1 o_6.2.2.2.2.2.2.1 o_6.2.2.2.2.2.2.2.1 o_6.2.2.2.2.2.2.2.2 hc_6) [34, 35, 36, 37, 38, 39, 40, 41, 1, 2, 3, 4, 5, 6, 7, 8] rfl rfl rfl rfl rfl rfl ⟨Nat.le_of_ble_eq_true rfl, Nat.le_of_ble_eq_true rfl⟩ ⟨Nat.le_of_ble_eq_true rfl, Nat.le_of_ble_eq_true rfl⟩ rfl rfl (Nat.le_of_ble_eq_true rfl) dX1_remember_24 (fun H locs hW => ?_)
    have hW : WD D A s (w_X1_remember E h_ h_past h_p1 h_p1_length h_p1_lower h_p1_upper h_p1_value h_p1_obstacleX h_p1_obstacleY h_p1_blocked s_changes s_oldest s_p1_links s_p1_obstacles s_p1_length s_p1_lower s_p1_upper s_p1_value s_p1_obstacleX s_p1_obstacleY s_p1_blocked ++ w_pool E h_past hp_past (va_up s_past_l 3 o_6.1) (va_up s_past_o 3 o_6.2.1) (va_up s_past_a 3 (f7 o_6.2.2.1 o_6.2.2.2.1 o_6.2.2.2.2.1 o_6.2.2.2.2.2.1 o_6.2.2.2.2.2.2.1 o_6.2.2.2.2.2.2.2.1 o_6.2.2.2.2.2.2.2.2))) H locs := hW
    exact hL27 s_changes s_oldest (va_up s_past_l 3 o_6.1) (va_up s_past_o 3 o_6.2.1) (va_up s_past_a 3 (f7 o_6.2.2.1 o_6.2.2.2.1 o_6.2.2.2.2.1 o_6.2.2.2.2.2.1 o_6.2.2.2.2.2.2.1 o_6.2.2.2.2.2.2.2.1 o_6.2.2.2.2.2.2.2.2)) _ _ _ hf (lv_sub hl [1] rfl) hW
  · refine lv_astore_n (lv' := [(2, .ref (hp_past 4 0)), (0, .ref h_), (1, .ref h_p1)]) hx hb dX1_remember_17 rfl hl (by decide) rfl (fun ls hl => ?_)
    refine lv_aload_n hx hb dX1_remember_18 rfl (lv_at hl 0 rfl) ?_
    refine lv_ifnull hx hb dX1_remember_19 ?_
    refine lv_aload_n hx hb dX1_remember_22 rfl (lv_at hl 0 rfl) ?_
    refine lv_aload_n hx hb dX1_remember_23 rfl (lv_at hl 2 rfl) ?_
    obtain ⟨o_7, hc_7, hf⟩ := ob_bind hf
    refine q_callV hF hl.1 hK hA hZ hW mv_X4_copyFrom ml_X1_25 (c_X4_copyFrom l D E tx (hp_past 4 0) (hp_past 4 1) (hp_past 4 2) (hp_past 4 3) (hp_past 4 4) (hp_past 4 5) (hp_past 4 6) (hp_past 4 7) h_p1 h_p1_length h_p1_lower h_p1_upper h_p1_value h_p1_obstacleX h_p1_obstacleY h_p1_blocked (s_past_l 4) (s_past_o 4) (s_past_a 4 0) (s_past_a 4 1) (s_past_a 4 2) (s_past_a 4 3) (s_past_a 4 4) (s_past_a 4 5) (s_past_a 4 6) s_p1_links s_p1_obstacles s_p1_length s_p1_lower s_p1_upper s_p1_value s_p1_obstacleX s_p1_obstacleY s_p1_blocked o_7.1 o_7.2.1 o_7.2.2.1 o_7.2.2.2.1 o_7.2.2.2.2.1 o_7.2.2.2.2.2.1 o_7.2.2.2.2.2.2.1 o_7.2.2.2.2.2.2.2.1 o_7.2.2.2.2.2.2.2.2 hc_7) [42, 43, 44, 45, 46, 47, 48, 49, 1, 2, 3, 4, 5, 6, 7, 8] rfl rfl rfl rfl rfl rfl ⟨Nat.le_of_ble_eq_true rfl, Nat.le_of_ble_eq_true rfl⟩ ⟨Nat.le_of_ble_eq_true rfl, Nat.le_of_ble_eq_true rfl⟩ rfl rfl (Nat.le_of_ble_eq_true rfl) dX1_remember_24 (fun H locs hW => ?_)
    have hW : WD D A s (w_X1_remember E h_ h_past h_p1 h_p1_length h_p1_lower h_p1_upper h_p1_value h_p1_obstacleX h_p1_obstacleY h_p1_blocked s_changes s_oldest s_p1_links s_p1_obstacles s_p1_length s_p1_lower s_p1_upper s_p1_value s_p1_obstacleX s_p1_obstacleY s_p1_blocked ++ w_pool E h_past hp_past (va_up s_past_l 4 o_7.1) (va_up s_past_o 4 o_7.2.1) (va_up s_past_a 4 (f7 o_7.2.2.1 o_7.2.2.2.1 o_7.2.2.2.2.1 o_7.2.2.2.2.2.1 o_7.2.2.2.2.2.2.1 o_7.2.2.2.2.2.2.2.1 o_7.2.2.2.2.2.2.2.2))) H locs := hW
    exact hL27 s_changes s_oldest (va_up s_past_l 4 o_7.1) (va_up s_past_o 4 o_7.2.1) (va_up s_past_a 4 (f7 o_7.2.2.1 o_7.2.2.2.1 o_7.2.2.2.2.1 o_7.2.2.2.2.2.1 o_7.2.2.2.2.2.2.1 o_7.2.2.2.2.2.2.2.1 o_7.2.2.2.2.2.2.2.2)) _ _ _ hf (lv_sub hl [1] rfl) hW
  · refine lv_astore_n (lv' := [(2, .ref (hp_past 5 0)), (0, .ref h_), (1, .ref h_p1)]) hx hb dX1_remember_17 rfl hl (by decide) rfl (fun ls hl => ?_)
    refine lv_aload_n hx hb dX1_remember_18 rfl (lv_at hl 0 rfl) ?_
    refine lv_ifnull hx hb dX1_remember_19 ?_
    refine lv_aload_n hx hb dX1_remember_22 rfl (lv_at hl 0 rfl) ?_
    refine lv_aload_n hx hb dX1_remember_23 rfl (lv_at hl 2 rfl) ?_
    obtain ⟨o_8, hc_8, hf⟩ := ob_bind hf
    refine q_callV hF hl.1 hK hA hZ hW mv_X4_copyFrom ml_X1_25 (c_X4_copyFrom l D E tx (hp_past 5 0) (hp_past 5 1) (hp_past 5 2) (hp_past 5 3) (hp_past 5 4) (hp_past 5 5) (hp_past 5 6) (hp_past 5 7) h_p1 h_p1_length h_p1_lower h_p1_upper h_p1_value h_p1_obstacleX h_p1_obstacleY h_p1_blocked (s_past_l 5) (s_past_o 5) (s_past_a 5 0) (s_past_a 5 1) (s_past_a 5 2) (s_past_a 5 3) (s_past_a 5 4) (s_past_a 5 5) (s_past_a 5 6) s_p1_links s_p1_obstacles s_p1_length s_p1_lower s_p1_upper s_p1_value s_p1_obstacleX s_p1_obstacleY s_p1_blocked o_8.1 o_8.2.1 o_8.2.2.1 o_8.2.2.2.1 o_8.2.2.2.2.1 o_8.2.2.2.2.2.1 o_8.2.2.2.2.2.2.1 o_8.2.2.2.2.2.2.2.1 o_8.2.2.2.2.2.2.2.2 hc_8) [50, 51, 52, 53, 54, 55, 56, 57, 1, 2, 3, 4, 5, 6, 7, 8] rfl rfl rfl rfl rfl rfl ⟨Nat.le_of_ble_eq_true rfl, Nat.le_of_ble_eq_true rfl⟩ ⟨Nat.le_of_ble_eq_true rfl, Nat.le_of_ble_eq_true rfl⟩ rfl rfl (Nat.le_of_ble_eq_true rfl) dX1_remember_24 (fun H locs hW => ?_)
    have hW : WD D A s (w_X1_remember E h_ h_past h_p1 h_p1_length h_p1_lower h_p1_upper h_p1_value h_p1_obstacleX h_p1_obstacleY h_p1_blocked s_changes s_oldest s_p1_links s_p1_obstacles s_p1_length s_p1_lower s_p1_upper s_p1_value s_p1_obstacleX s_p1_obstacleY s_p1_blocked ++ w_pool E h_past hp_past (va_up s_past_l 5 o_8.1) (va_up s_past_o 5 o_8.2.1) (va_up s_past_a 5 (f7 o_8.2.2.1 o_8.2.2.2.1 o_8.2.2.2.2.1 o_8.2.2.2.2.2.1 o_8.2.2.2.2.2.2.1 o_8.2.2.2.2.2.2.2.1 o_8.2.2.2.2.2.2.2.2))) H locs := hW
    exact hL27 s_changes s_oldest (va_up s_past_l 5 o_8.1) (va_up s_past_o 5 o_8.2.1) (va_up s_past_a 5 (f7 o_8.2.2.1 o_8.2.2.2.1 o_8.2.2.2.2.1 o_8.2.2.2.2.2.1 o_8.2.2.2.2.2.2.1 o_8.2.2.2.2.2.2.2.1 o_8.2.2.2.2.2.2.2.2)) _ _ _ hf (lv_sub hl [1] rfl) hW
  · refine lv_astore_n (lv' := [(2, .ref (hp_past 6 0)), (0, .ref h_), (1, .ref h_p1)]) hx hb dX1_remember_17 rfl hl (by decide) rfl (fun ls hl => ?_)
    refine lv_aload_n hx hb dX1_remember_18 rfl (lv_at hl 0 rfl) ?_
    refine lv_ifnull hx hb dX1_remember_19 ?_
    refine lv_aload_n hx hb dX1_remember_22 rfl (lv_at hl 0 rfl) ?_
    refine lv_aload_n hx hb dX1_remember_23 rfl (lv_at hl 2 rfl) ?_
    obtain ⟨o_9, hc_9, hf⟩ := ob_bind hf
    refine q_callV hF hl.1 hK hA hZ hW mv_X4_copyFrom ml_X1_25 (c_X4_copyFrom l D E tx (hp_past 6 0) (hp_past 6 1) (hp_past 6 2) (hp_past 6 3) (hp_past 6 4) (hp_past 6 5) (hp_past 6 6) (hp_past 6 7) h_p1 h_p1_length h_p1_lower h_p1_upper h_p1_value h_p1_obstacleX h_p1_obstacleY h_p1_blocked (s_past_l 6) (s_past_o 6) (s_past_a 6 0) (s_past_a 6 1) (s_past_a 6 2) (s_past_a 6 3) (s_past_a 6 4) (s_past_a 6 5) (s_past_a 6 6) s_p1_links s_p1_obstacles s_p1_length s_p1_lower s_p1_upper s_p1_value s_p1_obstacleX s_p1_obstacleY s_p1_blocked o_9.1 o_9.2.1 o_9.2.2.1 o_9.2.2.2.1 o_9.2.2.2.2.1 o_9.2.2.2.2.2.1 o_9.2.2.2.2.2.2.1 o_9.2.2.2.2.2.2.2.1 o_9.2.2.2.2.2.2.2.2 hc_9) [58, 59, 60, 61, 62, 63, 64, 65, 1, 2, 3, 4, 5, 6, 7, 8] rfl rfl rfl rfl rfl rfl ⟨Nat.le_of_ble_eq_true rfl, Nat.le_of_ble_eq_true rfl⟩ ⟨Nat.le_of_ble_eq_true rfl, Nat.le_of_ble_eq_true rfl⟩ rfl rfl (Nat.le_of_ble_eq_true rfl) dX1_remember_24 (fun H locs hW => ?_)
    have hW : WD D A s (w_X1_remember E h_ h_past h_p1 h_p1_length h_p1_lower h_p1_upper h_p1_value h_p1_obstacleX h_p1_obstacleY h_p1_blocked s_changes s_oldest s_p1_links s_p1_obstacles s_p1_length s_p1_lower s_p1_upper s_p1_value s_p1_obstacleX s_p1_obstacleY s_p1_blocked ++ w_pool E h_past hp_past (va_up s_past_l 6 o_9.1) (va_up s_past_o 6 o_9.2.1) (va_up s_past_a 6 (f7 o_9.2.2.1 o_9.2.2.2.1 o_9.2.2.2.2.1 o_9.2.2.2.2.2.1 o_9.2.2.2.2.2.2.1 o_9.2.2.2.2.2.2.2.1 o_9.2.2.2.2.2.2.2.2))) H locs := hW
    exact hL27 s_changes s_oldest (va_up s_past_l 6 o_9.1) (va_up s_past_o 6 o_9.2.1) (va_up s_past_a 6 (f7 o_9.2.2.1 o_9.2.2.2.1 o_9.2.2.2.2.1 o_9.2.2.2.2.2.1 o_9.2.2.2.2.2.2.1 o_9.2.2.2.2.2.2.2.1 o_9.2.2.2.2.2.2.2.2)) _ _ _ hf (lv_sub hl [1] rfl) hW
  · refine lv_astore_n (lv' := [(2, .ref (hp_past 7 0)), (0, .ref h_), (1, .ref h_p1)]) hx hb dX1_remember_17 rfl hl (by decide) rfl (fun ls hl => ?_)
    refine lv_aload_n hx hb dX1_remember_18 rfl (lv_at hl 0 rfl) ?_
    refine lv_ifnull hx hb dX1_remember_19 ?_
    refine lv_aload_n hx hb dX1_remember_22 rfl (lv_at hl 0 rfl) ?_
    refine lv_aload_n hx hb dX1_remember_23 rfl (lv_at hl 2 rfl) ?_
    obtain ⟨o_10, hc_10, hf⟩ := ob_bind hf
    refine q_callV hF hl.1 hK hA hZ hW mv_X4_copyFrom ml_X1_25 (c_X4_copyFrom l D E tx (hp_past 7 0) (hp_past 7 1) (hp_past 7 2) (hp_past 7 3) (hp_past 7 4) (hp_past 7 5) (hp_past 7 6) (hp_past 7 7) h_p1 h_p1_length h_p1_lower h_p1_upper h_p1_value h_p1_obstacleX h_p1_obstacleY h_p1_blocked (s_past_l 7) (s_past_o 7) (s_past_a 7 0) (s_past_a 7 1) (s_past_a 7 2) (s_past_a 7 3) (s_past_a 7 4) (s_past_a 7 5) (s_past_a 7 6) s_p1_links s_p1_obstacles s_p1_length s_p1_lower s_p1_upper s_p1_value s_p1_obstacleX s_p1_obstacleY s_p1_blocked o_10.1 o_10.2.1 o_10.2.2.1 o_10.2.2.2.1 o_10.2.2.2.2.1 o_10.2.2.2.2.2.1 o_10.2.2.2.2.2.2.1 o_10.2.2.2.2.2.2.2.1 o_10.2.2.2.2.2.2.2.2 hc_10) [66, 67, 68, 69, 70, 71, 72, 73, 1, 2, 3, 4, 5, 6, 7, 8] rfl rfl rfl rfl rfl rfl ⟨Nat.le_of_ble_eq_true rfl, Nat.le_of_ble_eq_true rfl⟩ ⟨Nat.le_of_ble_eq_true rfl, Nat.le_of_ble_eq_true rfl⟩ rfl rfl (Nat.le_of_ble_eq_true rfl) dX1_remember_24 (fun H locs hW => ?_)
    have hW : WD D A s (w_X1_remember E h_ h_past h_p1 h_p1_length h_p1_lower h_p1_upper h_p1_value h_p1_obstacleX h_p1_obstacleY h_p1_blocked s_changes s_oldest s_p1_links s_p1_obstacles s_p1_length s_p1_lower s_p1_upper s_p1_value s_p1_obstacleX s_p1_obstacleY s_p1_blocked ++ w_pool E h_past hp_past (va_up s_past_l 7 o_10.1) (va_up s_past_o 7 o_10.2.1) (va_up s_past_a 7 (f7 o_10.2.2.1 o_10.2.2.2.1 o_10.2.2.2.2.1 o_10.2.2.2.2.2.1 o_10.2.2.2.2.2.2.1 o_10.2.2.2.2.2.2.2.1 o_10.2.2.2.2.2.2.2.2))) H locs := hW
    exact hL27 s_changes s_oldest (va_up s_past_l 7 o_10.1) (va_up s_past_o 7 o_10.2.1) (va_up s_past_a 7 (f7 o_10.2.2.1 o_10.2.2.2.1 o_10.2.2.2.2.1 o_10.2.2.2.2.2.1 o_10.2.2.2.2.2.2.1 o_10.2.2.2.2.2.2.2.1 o_10.2.2.2.2.2.2.2.2)) _ _ _ hf (lv_sub hl [1] rfl) hW
def w_X1_takeLatest (E : Nat → ClassId) (h_ h_past h_p1 h_p1_length h_p1_lower h_p1_upper h_p1_value h_p1_obstacleX h_p1_obstacleY h_p1_blocked : Nat) (s_changes : Int32) (s_oldest : Int32) (s_p1_links : Int32) (s_p1_obstacles : Int32) (s_p1_length : Nat → Int32) (s_p1_lower : Nat → Int32) (s_p1_upper : Nat → Int32) (s_p1_value : Nat → Int32) (s_p1_obstacleX : Nat → Int32) (s_p1_obstacleY : Nat → Int32) (s_p1_blocked : Nat → Int32) : va_W := [(h_, .inr (3, [.int s_changes, .int s_oldest, .ref h_past])), (h_p1, .inr (6, [.int s_p1_links, .ref h_p1_length, .ref h_p1_lower, .ref h_p1_upper, .ref h_p1_value, .int s_p1_obstacles, .ref h_p1_obstacleX, .ref h_p1_obstacleY, .ref h_p1_blocked])), (h_p1_length, .inl (E 0, 4, .inl s_p1_length)), (h_p1_lower, .inl (E 0, 4, .inl s_p1_lower)), (h_p1_upper, .inl (E 0, 4, .inl s_p1_upper)), (h_p1_value, .inl (E 0, 4, .inl s_p1_value)), (h_p1_obstacleX, .inl (E 0, 60, .inl s_p1_obstacleX)), (h_p1_obstacleY, .inl (E 0, 60, .inl s_p1_obstacleY)), (h_p1_blocked, .inl (E 0, 21, .inl s_p1_blocked))]
set_option maxHeartbeats 4000000 in
set_option maxRecDepth 100000 in
theorem c_X1_takeLatest (l : Launch) (D : va_G) (E : Nat → ClassId) (tx : List (Nat × String)) (h_ h_past h_p1 h_p1_length h_p1_lower h_p1_upper h_p1_value h_p1_obstacleX h_p1_obstacleY h_p1_blocked : Nat) (hp_past : Nat → Nat → Nat) (s_changes : Int32) (s_oldest : Int32) (s_p1_links : Int32) (s_p1_obstacles : Int32) (s_p1_length : Nat → Int32) (s_p1_lower : Nat → Int32) (s_p1_upper : Nat → Int32) (s_p1_value : Nat → Int32) (s_p1_obstacleX : Nat → Int32) (s_p1_obstacleY : Nat → Int32) (s_p1_blocked : Nat → Int32) (s_past_l : Nat → Int32) (s_past_o : Nat → Int32) (s_past_a : Nat → Nat → Nat → Int32)  (r0 : Int32) (r1 : Int32) (r2 : Int32) (r3 : Nat → Int32) (r4 : Nat → Int32) (r5 : Nat → Int32) (r6 : Nat → Int32) (r7 : Nat → Int32) (r8 : Nat → Int32) (r9 : Nat → Int32) (hf : f_X1_takeLatest s_changes s_oldest s_p1_links s_p1_obstacles s_p1_length s_p1_lower s_p1_upper s_p1_value s_p1_obstacleX s_p1_obstacleY s_p1_blocked s_past_l s_past_o s_past_a = some (r0, r1, r2, r3, r4, r5, r6, r7, r8, r9)) : CV l yX1_takeLatest cX1_takeLatest 2 2 85 D E tx [.ref h_, .ref h_p1] (w_X1_takeLatest E h_ h_past h_p1 h_p1_length h_p1_lower h_p1_upper h_p1_value h_p1_obstacleX h_p1_obstacleY h_p1_blocked s_changes s_oldest s_p1_links s_p1_obstacles s_p1_length s_p1_lower s_p1_upper s_p1_value s_p1_obstacleX s_p1_obstacleY s_p1_blocked ++ w_pool E h_past hp_past s_past_l s_past_o s_past_a) (w_X1_takeLatest E h_ h_past h_p1 h_p1_length h_p1_lower h_p1_upper h_p1_value h_p1_obstacleX h_p1_obstacleY h_p1_blocked r0 s_oldest r1 r2 r3 r4 r5 r6 r7 r8 r9 ++ w_pool E h_past hp_past s_past_l s_past_o s_past_a) := by
  refine CV_of RX1 pn_X1 rfl (Nat.le_of_ble_eq_true rfl) (fun p e s m args below meth c A Q hF hK hA hZ hW hret ls hl => ?_)
  have hx := hF.1
  have hb := hF.2.1
  have hl : lv_has ls 2 [(0, .ref h_), (1, .ref h_p1)] := hl
  unfold f_X1_takeLatest at hf
  refine lv_aload_n hx hb dX1_takeLatest_0 rfl (lv_at hl 0 rfl) ?_
  refine q_get hF hK hW fl_X1_9 0 rfl rfl dX1_takeLatest_1 ?_
  refine q_if_le (tgt := 38) hx hb dX1_takeLatest_4 (by decide) hf (fun hf => ?_) (fun hf => ?_)
  · cases hf
    exact hret dX1_takeLatest_38 hW
  · refine lv_aload_n hx hb dX1_takeLatest_7 rfl (lv_at hl 0 rfl) ?_
    refine lv_dup hx hb dX1_takeLatest_8 rfl ?_
    refine q_get hF hK hW fl_X1_9 0 rfl rfl dX1_takeLatest_9 ?_
    refine lv_iconst (v := 1) hx hb dX1_takeLatest_12 (by decide) ?_
    refine lv_isub hx hb dX1_takeLatest_13 ?_
    refine lv_topi (fun v_1 ev_1 => ?_)
    replace hf := ob_let hf ev_1
    refine q_put hF hK hW fl_X1_9 ft_X1 rfl 0 rfl rfl rfl (Nat.le_of_ble_eq_true rfl) dX1_takeLatest_14 (fun H locs hW => ?_)
    have hW : WD D A s (w_X1_takeLatest E h_ h_past h_p1 h_p1_length h_p1_lower h_p1_upper h_p1_value h_p1_obstacleX h_p1_obstacleY h_p1_blocked v_1 s_oldest s_p1_links s_p1_obstacles s_p1_length s_p1_lower s_p1_upper s_p1_value s_p1_obstacleX s_p1_obstacleY s_p1_blocked ++ w_pool E h_past hp_past s_past_l s_past_o s_past_a) H locs := hW
    refine lv_aload_n hx hb dX1_takeLatest_17 rfl (lv_at hl 1 rfl) ?_
    refine lv_aload_n hx hb dX1_takeLatest_18 rfl (lv_at hl 0 rfl) ?_
    refine q_get hF hK hW fl_X1_20 0 rfl rfl dX1_takeLatest_19 ?_
    refine lv_aload_n hx hb dX1_takeLatest_22 rfl (lv_at hl 0 rfl) ?_
    refine q_get hF hK hW fl_X1_15 0 rfl rfl dX1_takeLatest_23 ?_
    refine lv_aload_n hx hb dX1_takeLatest_26 rfl (lv_at hl 0 rfl) ?_
    refine q_get hF hK hW fl_X1_9 0 rfl rfl dX1_takeLatest_27 ?_
    refine lv_iadd hx hb dX1_takeLatest_30 ?_
    refine lv_bipush (v := 7) hx hb dX1_takeLatest_31 (by decide) ?_
    refine lv_iand hx hb dX1_takeLatest_33 ?_
    refine q_aald8 hx hb hK hW 9 3 rfl rfl dX1_takeLatest_34 hf (fun hf => ?_) (fun hf => ?_) (fun hf => ?_) (fun hf => ?_) (fun hf => ?_) (fun hf => ?_) (fun hf => ?_) (fun hf => ?_)
    · obtain ⟨o_2, hc_2, hf⟩ := ob_bind hf
      refine q_callV hF hl.1 hK hA hZ hW mv_X4_copyFrom ml_X1_25 (c_X4_copyFrom l D E tx h_p1 h_p1_length h_p1_lower h_p1_upper h_p1_value h_p1_obstacleX h_p1_obstacleY h_p1_blocked (hp_past 0 0) (hp_past 0 1) (hp_past 0 2) (hp_past 0 3) (hp_past 0 4) (hp_past 0 5) (hp_past 0 6) (hp_past 0 7) s_p1_links s_p1_obstacles s_p1_length s_p1_lower s_p1_upper s_p1_value s_p1_obstacleX s_p1_obstacleY s_p1_blocked (s_past_l 0) (s_past_o 0) (s_past_a 0 0) (s_past_a 0 1) (s_past_a 0 2) (s_past_a 0 3) (s_past_a 0 4) (s_past_a 0 5) (s_past_a 0 6) o_2.1 o_2.2.1 o_2.2.2.1 o_2.2.2.2.1 o_2.2.2.2.2.1 o_2.2.2.2.2.2.1 o_2.2.2.2.2.2.2.1 o_2.2.2.2.2.2.2.2.1 o_2.2.2.2.2.2.2.2.2 hc_2) [1, 2, 3, 4, 5, 6, 7, 8, 10, 11, 12, 13, 14, 15, 16, 17] rfl rfl rfl rfl rfl rfl ⟨Nat.le_of_ble_eq_true rfl, Nat.le_of_ble_eq_true rfl⟩ ⟨Nat.le_of_ble_eq_true rfl, Nat.le_of_ble_eq_true rfl⟩ rfl rfl (Nat.le_of_ble_eq_true rfl) dX1_takeLatest_35 (fun H locs hW => ?_)
      have hW : WD D A s (w_X1_takeLatest E h_ h_past h_p1 h_p1_length h_p1_lower h_p1_upper h_p1_value h_p1_obstacleX h_p1_obstacleY h_p1_blocked v_1 s_oldest o_2.1 o_2.2.1 o_2.2.2.1 o_2.2.2.2.1 o_2.2.2.2.2.1 o_2.2.2.2.2.2.1 o_2.2.2.2.2.2.2.1 o_2.2.2.2.2.2.2.2.1 o_2.2.2.2.2.2.2.2.2 ++ w_pool E h_past hp_past s_past_l s_past_o s_past_a) H locs := hW
      cases hf
      exact hret dX1_takeLatest_38 hW
    · obtain ⟨o_3, hc_3, hf⟩ := ob_bind hf
      refine q_callV hF hl.1 hK hA hZ hW mv_X4_copyFrom ml_X1_25 (c_X4_copyFrom l D E tx h_p1 h_p1_length h_p1_lower h_p1_upper h_p1_value h_p1_obstacleX h_p1_obstacleY h_p1_blocked (hp_past 1 0) (hp_past 1 1) (hp_past 1 2) (hp_past 1 3) (hp_past 1 4) (hp_past 1 5) (hp_past 1 6) (hp_past 1 7) s_p1_links s_p1_obstacles s_p1_length s_p1_lower s_p1_upper s_p1_value s_p1_obstacleX s_p1_obstacleY s_p1_blocked (s_past_l 1) (s_past_o 1) (s_past_a 1 0) (s_past_a 1 1) (s_past_a 1 2) (s_past_a 1 3) (s_past_a 1 4) (s_past_a 1 5) (s_past_a 1 6) o_3.1 o_3.2.1 o_3.2.2.1 o_3.2.2.2.1 o_3.2.2.2.2.1 o_3.2.2.2.2.2.1 o_3.2.2.2.2.2.2.1 o_3.2.2.2.2.2.2.2.1 o_3.2.2.2.2.2.2.2.2 hc_3) [1, 2, 3, 4, 5, 6, 7, 8, 18, 19, 20, 21, 22, 23, 24, 25] rfl rfl rfl rfl rfl rfl ⟨Nat.le_of_ble_eq_true rfl, Nat.le_of_ble_eq_true rfl⟩ ⟨Nat.le_of_ble_eq_true rfl, Nat.le_of_ble_eq_true rfl⟩ rfl rfl (Nat.le_of_ble_eq_true rfl) dX1_takeLatest_35 (fun H locs hW => ?_)
      have hW : WD D A s (w_X1_takeLatest E h_ h_past h_p1 h_p1_length h_p1_lower h_p1_upper h_p1_value h_p1_obstacleX h_p1_obstacleY h_p1_blocked v_1 s_oldest o_3.1 o_3.2.1 o_3.2.2.1 o_3.2.2.2.1 o_3.2.2.2.2.1 o_3.2.2.2.2.2.1 o_3.2.2.2.2.2.2.1 o_3.2.2.2.2.2.2.2.1 o_3.2.2.2.2.2.2.2.2 ++ w_pool E h_past hp_past s_past_l s_past_o s_past_a) H locs := hW
      cases hf
      exact hret dX1_takeLatest_38 hW
    · obtain ⟨o_4, hc_4, hf⟩ := ob_bind hf
      refine q_callV hF hl.1 hK hA hZ hW mv_X4_copyFrom ml_X1_25 (c_X4_copyFrom l D E tx h_p1 h_p1_length h_p1_lower h_p1_upper h_p1_value h_p1_obstacleX h_p1_obstacleY h_p1_blocked (hp_past 2 0) (hp_past 2 1) (hp_past 2 2) (hp_past 2 3) (hp_past 2 4) (hp_past 2 5) (hp_past 2 6) (hp_past 2 7) s_p1_links s_p1_obstacles s_p1_length s_p1_lower s_p1_upper s_p1_value s_p1_obstacleX s_p1_obstacleY s_p1_blocked (s_past_l 2) (s_past_o 2) (s_past_a 2 0) (s_past_a 2 1) (s_past_a 2 2) (s_past_a 2 3) (s_past_a 2 4) (s_past_a 2 5) (s_past_a 2 6) o_4.1 o_4.2.1 o_4.2.2.1 o_4.2.2.2.1 o_4.2.2.2.2.1 o_4.2.2.2.2.2.1 o_4.2.2.2.2.2.2.1 o_4.2.2.2.2.2.2.2.1 o_4.2.2.2.2.2.2.2.2 hc_4) [1, 2, 3, 4, 5, 6, 7, 8, 26, 27, 28, 29, 30, 31, 32, 33] rfl rfl rfl rfl rfl rfl ⟨Nat.le_of_ble_eq_true rfl, Nat.le_of_ble_eq_true rfl⟩ ⟨Nat.le_of_ble_eq_true rfl, Nat.le_of_ble_eq_true rfl⟩ rfl rfl (Nat.le_of_ble_eq_true rfl) dX1_takeLatest_35 (fun H locs hW => ?_)
      have hW : WD D A s (w_X1_takeLatest E h_ h_past h_p1 h_p1_length h_p1_lower h_p1_upper h_p1_value h_p1_obstacleX h_p1_obstacleY h_p1_blocked v_1 s_oldest o_4.1 o_4.2.1 o_4.2.2.1 o_4.2.2.2.1 o_4.2.2.2.2.1 o_4.2.2.2.2.2.1 o_4.2.2.2.2.2.2.1 o_4.2.2.2.2.2.2.2.1 o_4.2.2.2.2.2.2.2.2 ++ w_pool E h_past hp_past s_past_l s_past_o s_past_a) H locs := hW
      cases hf
      exact hret dX1_takeLatest_38 hW
    · obtain ⟨o_5, hc_5, hf⟩ := ob_bind hf
      refine q_callV hF hl.1 hK hA hZ hW mv_X4_copyFrom ml_X1_25 (c_X4_copyFrom l D E tx h_p1 h_p1_length h_p1_lower h_p1_upper h_p1_value h_p1_obstacleX h_p1_obstacleY h_p1_blocked (hp_past 3 0) (hp_past 3 1) (hp_past 3 2) (hp_past 3 3) (hp_past 3 4) (hp_past 3 5) (hp_past 3 6) (hp_past 3 7) s_p1_links s_p1_obstacles s_p1_length s_p1_lower s_p1_upper s_p1_value s_p1_obstacleX s_p1_obstacleY s_p1_blocked (s_past_l 3) (s_past_o 3) (s_past_a 3 0) (s_past_a 3 1) (s_past_a 3 2) (s_past_a 3 3) (s_past_a 3 4) (s_past_a 3 5) (s_past_a 3 6) o_5.1 o_5.2.1 o_5.2.2.1 o_5.2.2.2.1 o_5.2.2.2.2.1 o_5.2.2.2.2.2.1 o_5.2.2.2.2.2.2.1 o_5.2.2.2.2.2.2.2.1 o_5.2.2.2.2.2.2.2.2 hc_5) [1, 2, 3, 4, 5, 6, 7, 8, 34, 35, 36, 37, 38, 39, 40, 41] rfl rfl rfl rfl rfl rfl ⟨Nat.le_of_ble_eq_true rfl, Nat.le_of_ble_eq_true rfl⟩ ⟨Nat.le_of_ble_eq_true rfl, Nat.le_of_ble_eq_true rfl⟩ rfl rfl (Nat.le_of_ble_eq_true rfl) dX1_takeLatest_35 (fun H locs hW => ?_)
      have hW : WD D A s (w_X1_takeLatest E h_ h_past h_p1 h_p1_length h_p1_lower h_p1_upper h_p1_value h_p1_obstacleX h_p1_obstacleY h_p1_blocked v_1 s_oldest o_5.1 o_5.2.1 o_5.2.2.1 o_5.2.2.2.1 o_5.2.2.2.2.1 o_5.2.2.2.2.2.1 o_5.2.2.2.2.2.2.1 o_5.2.2.2.2.2.2.2.1 o_5.2.2.2.2.2.2.2.2 ++ w_pool E h_past hp_past s_past_l s_past_o s_past_a) H locs := hW
      cases hf
      exact hret dX1_takeLatest_38 hW
    · obtain ⟨o_6, hc_6, hf⟩ := ob_bind hf
      refine q_callV hF hl.1 hK hA hZ hW mv_X4_copyFrom ml_X1_25 (c_X4_copyFrom l D E tx h_p1 h_p1_length h_p1_lower h_p1_upper h_p1_value h_p1_obstacleX h_p1_obstacleY h_p1_blocked (hp_past 4 0) (hp_past 4 1) (hp_past 4 2) (hp_past 4 3) (hp_past 4 4) (hp_past 4 5) (hp_past 4 6) (hp_past 4 7) s_p1_links s_p1_obstacles s_p1_length s_p1_lower s_p1_upper s_p1_value s_p1_obstacleX s_p1_obstacleY s_p1_blocked (s_past_l 4) (s_past_o 4) (s_past_a 4 0) (s_past_a 4 1) (s_past_a 4 2) (s_past_a 4 3) (s_past_a 4 4) (s_past_a 4 5) (s_past_a 4 6) o_6.1 o_6.2.1 o_6.2.2.1 o_6.2.2.2.1 o_6.2.2.2.2.1 o_6.2.2.2.2.2.1 o_6.2.2.2.2.2.2.1 o_6.2.2.2.2.2.2.2.1 o_6.2.2.2.2.2.2.2.2 hc_6) [1, 2, 3, 4, 5, 6, 7, 8, 42, 43, 44, 45, 46, 47, 48, 49] rfl rfl rfl rfl rfl rfl ⟨Nat.le_of_ble_eq_true rfl, Nat.le_of_ble_eq_true rfl⟩ ⟨Nat.le_of_ble_eq_true rfl, Nat.le_of_ble_eq_true rfl⟩ rfl rfl (Nat.le_of_ble_eq_true rfl) dX1_takeLatest_35 (fun H locs hW => ?_)
      have hW : WD D A s (w_X1_takeLatest E h_ h_past h_p1 h_p1_length h_p1_lower h_p1_upper h_p1_value h_p1_obstacleX h_p1_obstacleY h_p1_blocked v_1 s_oldest o_6.1 o_6.2.1 o_6.2.2.1 o_6.2.2.2.1 o_6.2.2.2.2.1 o_6.2.2.2.2.2.1 o_6.2.2.2.2.2.2.1 o_6.2.2.2.2.2.2.2.1 o_6.2.2.2.2.2.2.2.2 ++ w_pool E h_past hp_past s_past_l s_past_o s_past_a) H locs := hW
      cases hf
      exact hret dX1_takeLatest_38 hW
    · obtain ⟨o_7, hc_7, hf⟩ := ob_bind hf
      refine q_callV hF hl.1 hK hA hZ hW mv_X4_copyFrom ml_X1_25 (c_X4_copyFrom l D E tx h_p1 h_p1_length h_p1_lower h_p1_upper h_p1_value h_p1_obstacleX h_p1_obstacleY h_p1_blocked (hp_past 5 0) (hp_past 5 1) (hp_past 5 2) (hp_past 5 3) (hp_past 5 4) (hp_past 5 5) (hp_past 5 6) (hp_past 5 7) s_p1_links s_p1_obstacles s_p1_length s_p1_lower s_p1_upper s_p1_value s_p1_obstacleX s_p1_obstacleY s_p1_blocked (s_past_l 5) (s_past_o 5) (s_past_a 5 0) (s_past_a 5 1) (s_past_a 5 2) (s_past_a 5 3) (s_past_a 5 4) (s_past_a 5 5) (s_past_a 5 6) o_7.1 o_7.2.1 o_7.2.2.1 o_7.2.2.2.1 o_7.2.2.2.2.1 o_7.2.2.2.2.2.1 o_7.2.2.2.2.2.2.1 o_7.2.2.2.2.2.2.2.1 o_7.2.2.2.2.2.2.2.2 hc_7) [1, 2, 3, 4, 5, 6, 7, 8, 50, 51, 52, 53, 54, 55, 56, 57] rfl rfl rfl rfl rfl rfl ⟨Nat.le_of_ble_eq_true rfl, Nat.le_of_ble_eq_true rfl⟩ ⟨Nat.le_of_ble_eq_true rfl, Nat.le_of_ble_eq_true rfl⟩ rfl rfl (Nat.le_of_ble_eq_true rfl) dX1_takeLatest_35 (fun H locs hW => ?_)
      have hW : WD D A s (w_X1_takeLatest E h_ h_past h_p1 h_p1_length h_p1_lower h_p1_upper h_p1_value h_p1_obstacleX h_p1_obstacleY h_p1_blocked v_1 s_oldest o_7.1 o_7.2.1 o_7.2.2.1 o_7.2.2.2.1 o_7.2.2.2.2.1 o_7.2.2.2.2.2.1 o_7.2.2.2.2.2.2.1 o_7.2.2.2.2.2.2.2.1 o_7.2.2.2.2.2.2.2.2 ++ w_pool E h_past hp_past s_past_l s_past_o s_past_a) H locs := hW
      cases hf
      exact hret dX1_takeLatest_38 hW
    · obtain ⟨o_8, hc_8, hf⟩ := ob_bind hf
      refine q_callV hF hl.1 hK hA hZ hW mv_X4_copyFrom ml_X1_25 (c_X4_copyFrom l D E tx h_p1 h_p1_length h_p1_lower h_p1_upper h_p1_value h_p1_obstacleX h_p1_obstacleY h_p1_blocked (hp_past 6 0) (hp_past 6 1) (hp_past 6 2) (hp_past 6 3) (hp_past 6 4) (hp_past 6 5) (hp_past 6 6) (hp_past 6 7) s_p1_links s_p1_obstacles s_p1_length s_p1_lower s_p1_upper s_p1_value s_p1_obstacleX s_p1_obstacleY s_p1_blocked (s_past_l 6) (s_past_o 6) (s_past_a 6 0) (s_past_a 6 1) (s_past_a 6 2) (s_past_a 6 3) (s_past_a 6 4) (s_past_a 6 5) (s_past_a 6 6) o_8.1 o_8.2.1 o_8.2.2.1 o_8.2.2.2.1 o_8.2.2.2.2.1 o_8.2.2.2.2.2.1 o_8.2.2.2.2.2.2.1 o_8.2.2.2.2.2.2.2.1 o_8.2.2.2.2.2.2.2.2 hc_8) [1, 2, 3, 4, 5, 6, 7, 8, 58, 59, 60, 61, 62, 63, 64, 65] rfl rfl rfl rfl rfl rfl ⟨Nat.le_of_ble_eq_true rfl, Nat.le_of_ble_eq_true rfl⟩ ⟨Nat.le_of_ble_eq_true rfl, Nat.le_of_ble_eq_true rfl⟩ rfl rfl (Nat.le_of_ble_eq_true rfl) dX1_takeLatest_35 (fun H locs hW => ?_)
      have hW : WD D A s (w_X1_takeLatest E h_ h_past h_p1 h_p1_length h_p1_lower h_p1_upper h_p1_value h_p1_obstacleX h_p1_obstacleY h_p1_blocked v_1 s_oldest o_8.1 o_8.2.1 o_8.2.2.1 o_8.2.2.2.1 o_8.2.2.2.2.1 o_8.2.2.2.2.2.1 o_8.2.2.2.2.2.2.1 o_8.2.2.2.2.2.2.2.1 o_8.2.2.2.2.2.2.2.2 ++ w_pool E h_past hp_past s_past_l s_past_o s_past_a) H locs := hW
      cases hf
      exact hret dX1_takeLatest_38 hW
    · obtain ⟨o_9, hc_9, hf⟩ := ob_bind hf
      refine q_callV hF hl.1 hK hA hZ hW mv_X4_copyFrom ml_X1_25 (c_X4_copyFrom l D E tx h_p1 h_p1_length h_p1_lower h_p1_upper h_p1_value h_p1_obstacleX h_p1_obstacleY h_p1_blocked (hp_past 7 0) (hp_past 7 1) (hp_past 7 2) (hp_past 7 3) (hp_past 7 4) (hp_past 7 5) (hp_past 7 6) (hp_past 7 7) s_p1_links s_p1_obstacles s_p1_length s_p1_lower s_p1_upper s_p1_value s_p1_obstacleX s_p1_obstacleY s_p1_blocked (s_past_l 7) (s_past_o 7) (s_past_a 7 0) (s_past_a 7 1) (s_past_a 7 2) (s_past_a 7 3) (s_past_a 7 4) (s_past_a 7 5) (s_past_a 7 6) o_9.1 o_9.2.1 o_9.2.2.1 o_9.2.2.2.1 o_9.2.2.2.2.1 o_9.2.2.2.2.2.1 o_9.2.2.2.2.2.2.1 o_9.2.2.2.2.2.2.2.1 o_9.2.2.2.2.2.2.2.2 hc_9) [1, 2, 3, 4, 5, 6, 7, 8, 66, 67, 68, 69, 70, 71, 72, 73] rfl rfl rfl rfl rfl rfl ⟨Nat.le_of_ble_eq_true rfl, Nat.le_of_ble_eq_true rfl⟩ ⟨Nat.le_of_ble_eq_true rfl, Nat.le_of_ble_eq_true rfl⟩ rfl rfl (Nat.le_of_ble_eq_true rfl) dX1_takeLatest_35 (fun H locs hW => ?_)
      have hW : WD D A s (w_X1_takeLatest E h_ h_past h_p1 h_p1_length h_p1_lower h_p1_upper h_p1_value h_p1_obstacleX h_p1_obstacleY h_p1_blocked v_1 s_oldest o_9.1 o_9.2.1 o_9.2.2.1 o_9.2.2.2.1 o_9.2.2.2.2.1 o_9.2.2.2.2.2.1 o_9.2.2.2.2.2.2.1 o_9.2.2.2.2.2.2.2.1 o_9.2.2.2.2.2.2.2.2 ++ w_pool E h_past hp_past s_past_l s_past_o s_past_a) H locs := hW
      cases hf
      exact hret dX1_takeLatest_38 hW
