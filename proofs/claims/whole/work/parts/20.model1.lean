def w_X8_thrown (E : Nat → ClassId) (h_ h_g h_kept h_past h_path h_pose h_way h_px h_py h_free h_tips h_far h_queue h_times h_turns h_names h_named h_text h_told h_spare : Nat) (s_hasKept : Int32) (s_pasts : Int32) (s_pathMoves : Int32) (s_spot : Int32) (s_thrown : Int32) (s_faulty : Int32) (s_queued : Int32) (s_length : Int32) (s_at : Int32) (s_error : Int32) (s_tolds : Int32) (s_number : Int32) : va_W := [(h_, .inr (10, [.ref h_g, .ref h_kept, .int s_hasKept, .ref h_past, .int s_pasts, .ref h_path, .int s_pathMoves, .int s_spot, .int s_thrown, .ref h_pose, .ref h_way, .ref h_px, .ref h_py, .int s_faulty, .ref h_free, .ref h_tips, .ref h_far, .ref h_queue, .int s_queued, .ref h_times, .ref h_turns, .ref h_names, .ref h_named, .ref h_text, .int s_length, .int s_at, .int s_error, .ref h_told, .int s_tolds, .int s_number, .ref h_spare]))]
set_option maxHeartbeats 4000000 in
set_option maxRecDepth 100000 in
theorem c_X8_thrown (l : Launch) (D : va_G) (E : Nat → ClassId) (tx : List (Nat × String)) (h_ h_g h_kept h_past h_path h_pose h_way h_px h_py h_free h_tips h_far h_queue h_times h_turns h_names h_named h_text h_told h_spare : Nat) (s_hasKept : Int32) (s_pasts : Int32) (s_pathMoves : Int32) (s_spot : Int32) (s_thrown : Int32) (s_faulty : Int32) (s_queued : Int32) (s_length : Int32) (s_at : Int32) (s_error : Int32) (s_tolds : Int32) (s_number : Int32)  (r0 : Int32) (hf : f_X8_thrown s_thrown = some r0) : CI l yX8_thrown cX8_thrown 1 (some .int) 0 0 D E tx [.ref h_] (w_X8_thrown E h_ h_g h_kept h_past h_path h_pose h_way h_px h_py h_free h_tips h_far h_queue h_times h_turns h_names h_named h_text h_told h_spare s_hasKept s_pasts s_pathMoves s_spot s_thrown s_faulty s_queued s_length s_at s_error s_tolds s_number) (w_X8_thrown E h_ h_g h_kept h_past h_path h_pose h_way h_px h_py h_free h_tips h_far h_queue h_times h_turns h_names h_named h_text h_told h_spare s_hasKept s_pasts s_pathMoves s_spot s_thrown s_faulty s_queued s_length s_at s_error s_tolds s_number) r0 := by
  refine CI_of RX8 pn_X8 rfl (Nat.le_of_ble_eq_true rfl) (fun p e s m args below meth c A Q hF hK hA hZ hW hret ls hl => ?_)
  have hx := hF.1
  have hb := hF.2.1
  have hl : lv_has ls 1 [(0, .ref h_)] := hl
  unfold f_X8_thrown at hf
  refine lv_aload_n hx hb dX8_thrown_0 rfl (lv_at hl 0 rfl) ?_
  refine q_get hF hK hW fl_X8_76 0 rfl rfl dX8_thrown_1 ?_
  cases hf
  exact hret dX8_thrown_4 rfl rfl hW
def w_X8_fails (E : Nat → ClassId) (h_ h_g h_kept h_past h_path h_pose h_way h_px h_py h_free h_tips h_far h_queue h_times h_turns h_names h_named h_text h_told h_spare : Nat) (s_hasKept : Int32) (s_pasts : Int32) (s_pathMoves : Int32) (s_spot : Int32) (s_thrown : Int32) (s_faulty : Int32) (s_queued : Int32) (s_length : Int32) (s_at : Int32) (s_error : Int32) (s_tolds : Int32) (s_number : Int32) : va_W := [(h_, .inr (10, [.ref h_g, .ref h_kept, .int s_hasKept, .ref h_past, .int s_pasts, .ref h_path, .int s_pathMoves, .int s_spot, .int s_thrown, .ref h_pose, .ref h_way, .ref h_px, .ref h_py, .int s_faulty, .ref h_free, .ref h_tips, .ref h_far, .ref h_queue, .int s_queued, .ref h_times, .ref h_turns, .ref h_names, .ref h_named, .ref h_text, .int s_length, .int s_at, .int s_error, .ref h_told, .int s_tolds, .int s_number, .ref h_spare]))]
set_option maxHeartbeats 4000000 in
set_option maxRecDepth 100000 in
theorem c_X8_fails (l : Launch) (D : va_G) (E : Nat → ClassId) (tx : List (Nat × String)) (h_ h_g h_kept h_past h_path h_pose h_way h_px h_py h_free h_tips h_far h_queue h_times h_turns h_names h_named h_text h_told h_spare : Nat) (s_hasKept : Int32) (s_pasts : Int32) (s_pathMoves : Int32) (s_spot : Int32) (s_thrown : Int32) (s_faulty : Int32) (s_queued : Int32) (s_length : Int32) (s_at : Int32) (s_error : Int32) (s_tolds : Int32) (s_number : Int32) (x1 : Int32) (r0 : Int32) (r1 : Int32) (hf : f_X8_fails s_thrown x1 = some (r0, r1)) : CI l yX8_fails cX8_fails 2 (some .int) 0 0 D E tx [.ref h_, .int x1] (w_X8_fails E h_ h_g h_kept h_past h_path h_pose h_way h_px h_py h_free h_tips h_far h_queue h_times h_turns h_names h_named h_text h_told h_spare s_hasKept s_pasts s_pathMoves s_spot s_thrown s_faulty s_queued s_length s_at s_error s_tolds s_number) (w_X8_fails E h_ h_g h_kept h_past h_path h_pose h_way h_px h_py h_free h_tips h_far h_queue h_times h_turns h_names h_named h_text h_told h_spare s_hasKept s_pasts s_pathMoves s_spot r1 s_faulty s_queued s_length s_at s_error s_tolds s_number) r0 := by
  refine CI_of RX8 pn_X8 rfl (Nat.le_of_ble_eq_true rfl) (fun p e s m args below meth c A Q hF hK hA hZ hW hret ls hl => ?_)
  have hx := hF.1
  have hb := hF.2.1
  have hl : lv_has ls 2 [(0, .ref h_), (1, .int x1)] := hl
  unfold f_X8_fails at hf
  refine lv_aload_n hx hb dX8_fails_0 rfl (lv_at hl 0 rfl) ?_
  refine lv_iload_n hx hb dX8_fails_1 rfl (lv_at hl 1 rfl) ?_
  refine q_put hF hK hW fl_X8_76 ft_X8 rfl 0 rfl rfl rfl (Nat.le_of_ble_eq_true rfl) dX8_fails_2 (fun H locs hW => ?_)
  have hW : WD D A s (w_X8_fails E h_ h_g h_kept h_past h_path h_pose h_way h_px h_py h_free h_tips h_far h_queue h_times h_turns h_names h_named h_text h_told h_spare s_hasKept s_pasts s_pathMoves s_spot x1 s_faulty s_queued s_length s_at s_error s_tolds s_number) H locs := hW
  refine lv_iconst (v := 0) hx hb dX8_fails_5 (by decide) ?_
  cases hf
  exact hret dX8_fails_6 rfl rfl hW
def w_X8_in (E : Nat → ClassId)   : va_W := []
set_option maxHeartbeats 4000000 in
set_option maxRecDepth 100000 in
theorem c_X8_in (l : Launch) (D : va_G) (E : Nat → ClassId) (tx : List (Nat × String))   (x0 : Int32) (x1 : Int32) (x2 : Int32) (r0 : Int32) (hf : f_X8_in x0 x1 x2 = some r0) : CI l yX8_in cX8_in 3 (some .boolean) 0 0 D E tx [.int x0, .int x1, .int x2] (w_X8_in E ) (w_X8_in E ) r0 := by
  refine CI_of RX8 pn_X8 rfl (Nat.le_of_ble_eq_true rfl) (fun p e s m args below meth c A Q hF hK hA hZ hW hret ls hl => ?_)
  have hx := hF.1
  have hb := hF.2.1
  have hl : lv_has ls 3 [(0, .int x0), (1, .int x1), (2, .int x2)] := hl
  unfold f_X8_in at hf
  refine lv_iload_n hx hb dX8_in_0 rfl (lv_at hl 0 rfl) ?_
  refine lv_iload_n hx hb dX8_in_1 rfl (lv_at hl 1 rfl) ?_
  refine q_icmp_lt (tgt := 14) hx hb dX8_in_2 (by decide) hf (fun hf => ?_) (fun hf => ?_)
  · refine lv_iconst (v := 0) hx hb dX8_in_14 (by decide) ?_
    cases hf
    exact hret dX8_in_15 rfl rfl hW
  · refine lv_iload_n hx hb dX8_in_5 rfl (lv_at hl 0 rfl) ?_
    refine lv_iload_n hx hb dX8_in_6 rfl (lv_at hl 2 rfl) ?_
    refine q_icmp_gt (tgt := 14) hx hb dX8_in_7 (by decide) hf (fun hf => ?_) (fun hf => ?_)
    · refine lv_iconst (v := 0) hx hb dX8_in_14 (by decide) ?_
      cases hf
      exact hret dX8_in_15 rfl rfl hW
    · refine lv_iconst (v := 1) hx hb dX8_in_10 (by decide) ?_
      refine lv_goto (tgt := 15) hx hb dX8_in_11 (by decide) ?_
      cases hf
      exact hret dX8_in_15 rfl rfl hW
def w_X8_isCell (E : Nat → ClassId)   : va_W := []
set_option maxHeartbeats 4000000 in
set_option maxRecDepth 100000 in
theorem c_X8_isCell (l : Launch) (D : va_G) (E : Nat → ClassId) (tx : List (Nat × String))   (x0 : Int32) (x1 : Int32) (r0 : Int32) (hf : f_X8_isCell x0 x1 = some r0) : CI l yX8_isCell cX8_isCell 2 (some .boolean) 1 22 D E tx [.int x0, .int x1] (w_X8_isCell E ) (w_X8_isCell E ) r0 := by
  refine CI_of RX8 pn_X8 rfl (Nat.le_of_ble_eq_true rfl) (fun p e s m args below meth c A Q hF hK hA hZ hW hret ls hl => ?_)
  have hx := hF.1
  have hb := hF.2.1
  have hl : lv_has ls 2 [(0, .int x0), (1, .int x1)] := hl
  unfold f_X8_isCell at hf
  refine lv_iload_n hx hb dX8_isCell_0 rfl (lv_at hl 0 rfl) ?_
  refine lv_bipush (v := (-10)) hx hb dX8_isCell_1 (by decide) ?_
  refine lv_bipush (v := 10) hx hb dX8_isCell_3 (by decide) ?_
  obtain ⟨o_1, hc_1, hf⟩ := ob_bind hf
  refine q_callSI hF hl.1 hK hA hZ hW ms_X8_in ml_X8_79 (c_X8_in l D E tx x0 ((-10)) 10 o_1 hc_1) [] rfl rfl rfl ⟨Nat.le_of_ble_eq_true rfl, Nat.le_of_ble_eq_true rfl⟩ ⟨Nat.le_of_ble_eq_true rfl, Nat.le_of_ble_eq_true rfl⟩ rfl rfl (Nat.le_of_ble_eq_true rfl) dX8_isCell_5 (fun H locs hW => ?_)
  have hW : WD D A s (w_X8_isCell E ) H locs := hW
  refine q_if_eq (tgt := 26) hx hb dX8_isCell_8 (by decide) hf (fun hf => ?_) (fun hf => ?_)
  · refine lv_iconst (v := 0) hx hb dX8_isCell_26 (by decide) ?_
    cases hf
    exact hret dX8_isCell_27 rfl rfl hW
  · refine lv_iload_n hx hb dX8_isCell_11 rfl (lv_at hl 1 rfl) ?_
    refine lv_bipush (v := (-10)) hx hb dX8_isCell_12 (by decide) ?_
    refine lv_bipush (v := 10) hx hb dX8_isCell_14 (by decide) ?_
    obtain ⟨o_2, hc_2, hf⟩ := ob_bind hf
    refine q_callSI hF hl.1 hK hA hZ hW ms_X8_in ml_X8_79 (c_X8_in l D E tx x1 ((-10)) 10 o_2 hc_2) [] rfl rfl rfl ⟨Nat.le_of_ble_eq_true rfl, Nat.le_of_ble_eq_true rfl⟩ ⟨Nat.le_of_ble_eq_true rfl, Nat.le_of_ble_eq_true rfl⟩ rfl rfl (Nat.le_of_ble_eq_true rfl) dX8_isCell_16 (fun H locs hW => ?_)
    have hW : WD D A s (w_X8_isCell E ) H locs := hW
    refine q_if_eq (tgt := 26) hx hb dX8_isCell_19 (by decide) hf (fun hf => ?_) (fun hf => ?_)
    · refine lv_iconst (v := 0) hx hb dX8_isCell_26 (by decide) ?_
      cases hf
      exact hret dX8_isCell_27 rfl rfl hW
    · refine lv_iconst (v := 1) hx hb dX8_isCell_22 (by decide) ?_
      refine lv_goto (tgt := 27) hx hb dX8_isCell_23 (by decide) ?_
      cases hf
      exact hret dX8_isCell_27 rfl rfl hW
def w_X8_isJoint (E : Nat → ClassId) (h_ h_g h_kept h_past h_path h_pose h_way h_px h_py h_free h_tips h_far h_queue h_times h_turns h_names h_named h_text h_told h_spare : Nat) (s_hasKept : Int32) (s_pasts : Int32) (s_pathMoves : Int32) (s_spot : Int32) (s_thrown : Int32) (s_faulty : Int32) (s_queued : Int32) (s_length : Int32) (s_at : Int32) (s_error : Int32) (s_tolds : Int32) (s_number : Int32) (s_g : Nat → Int32) : va_W := [(h_, .inr (10, [.ref h_g, .ref h_kept, .int s_hasKept, .ref h_past, .int s_pasts, .ref h_path, .int s_pathMoves, .int s_spot, .int s_thrown, .ref h_pose, .ref h_way, .ref h_px, .ref h_py, .int s_faulty, .ref h_free, .ref h_tips, .ref h_far, .ref h_queue, .int s_queued, .ref h_times, .ref h_turns, .ref h_names, .ref h_named, .ref h_text, .int s_length, .int s_at, .int s_error, .ref h_told, .int s_tolds, .int s_number, .ref h_spare])), (h_g, .inl (E 0, 141, .inl s_g))]
set_option maxHeartbeats 4000000 in
set_option maxRecDepth 100000 in
theorem c_X8_isJoint (l : Launch) (D : va_G) (E : Nat → ClassId) (tx : List (Nat × String)) (h_ h_g h_kept h_past h_path h_pose h_way h_px h_py h_free h_tips h_far h_queue h_times h_turns h_names h_named h_text h_told h_spare : Nat) (s_hasKept : Int32) (s_pasts : Int32) (s_pathMoves : Int32) (s_spot : Int32) (s_thrown : Int32) (s_faulty : Int32) (s_queued : Int32) (s_length : Int32) (s_at : Int32) (s_error : Int32) (s_tolds : Int32) (s_number : Int32) (s_g : Nat → Int32) (x1 : Int32) (r0 : Int32) (hf : f_X8_isJoint s_g x1 = some r0) : CI l yX8_isJoint cX8_isJoint 2 (some .boolean) 1 22 D E tx [.ref h_, .int x1] (w_X8_isJoint E h_ h_g h_kept h_past h_path h_pose h_way h_px h_py h_free h_tips h_far h_queue h_times h_turns h_names h_named h_text h_told h_spare s_hasKept s_pasts s_pathMoves s_spot s_thrown s_faulty s_queued s_length s_at s_error s_tolds s_number s_g) (w_X8_isJoint E h_ h_g h_kept h_past h_path h_pose h_way h_px h_py h_free h_tips h_far h_queue h_times h_turns h_names h_named h_text h_told h_spare s_hasKept s_pasts s_pathMoves s_spot s_thrown s_faulty s_queued s_length s_at s_error s_tolds s_number s_g) r0 := by
  refine CI_of RX8 pn_X8 rfl (Nat.le_of_ble_eq_true rfl) (fun p e s m args below meth c A Q hF hK hA hZ hW hret ls hl => ?_)
  have hx := hF.1
  have hb := hF.2.1
  have hl : lv_has ls 2 [(0, .ref h_), (1, .int x1)] := hl
  unfold f_X8_isJoint at hf
  refine lv_iload_n hx hb dX8_isJoint_0 rfl (lv_at hl 1 rfl) ?_
  refine lv_iconst (v := 0) hx hb dX8_isJoint_1 (by decide) ?_
  refine lv_aload_n hx hb dX8_isJoint_2 rfl (lv_at hl 0 rfl) ?_
  refine q_get hF hK hW fl_X8_7 0 rfl rfl dX8_isJoint_3 ?_
  refine lv_iconst (v := 0) hx hb dX8_isJoint_6 (by decide) ?_
  refine q_iald hx hb hK hW 1 0 rfl rfl dX8_isJoint_7 hf (fun hf => ?_)
  refine lv_iconst (v := 1) hx hb dX8_isJoint_8 (by decide) ?_
  refine lv_isub hx hb dX8_isJoint_9 ?_
  obtain ⟨o_1, hc_1, hf⟩ := ob_bind hf
  refine q_callSI hF hl.1 hK hA hZ hW ms_X8_in ml_X8_79 (c_X8_in l D E tx x1 0 ((s_g (0 : Int32).toNatClampNeg) - 1) o_1 hc_1) [] rfl rfl rfl ⟨Nat.le_of_ble_eq_true rfl, Nat.le_of_ble_eq_true rfl⟩ ⟨Nat.le_of_ble_eq_true rfl, Nat.le_of_ble_eq_true rfl⟩ rfl rfl (Nat.le_of_ble_eq_true rfl) dX8_isJoint_10 (fun H locs hW => ?_)
  have hW : WD D A s (w_X8_isJoint E h_ h_g h_kept h_past h_path h_pose h_way h_px h_py h_free h_tips h_far h_queue h_times h_turns h_names h_named h_text h_told h_spare s_hasKept s_pasts s_pathMoves s_spot s_thrown s_faulty s_queued s_length s_at s_error s_tolds s_number s_g) H locs := hW
  have hz := nar_b (ob_gb hf).1
  replace hf := (ob_gb hf).2
  cases hf
  exact hret dX8_isJoint_13 hz.1 rfl hW
def w_X8_lengthOf (E : Nat → ClassId) (h_ h_g h_kept h_past h_path h_pose h_way h_px h_py h_free h_tips h_far h_queue h_times h_turns h_names h_named h_text h_told h_spare : Nat) (s_hasKept : Int32) (s_pasts : Int32) (s_pathMoves : Int32) (s_spot : Int32) (s_thrown : Int32) (s_faulty : Int32) (s_queued : Int32) (s_length : Int32) (s_at : Int32) (s_error : Int32) (s_tolds : Int32) (s_number : Int32) (s_g : Nat → Int32) : va_W := [(h_, .inr (10, [.ref h_g, .ref h_kept, .int s_hasKept, .ref h_past, .int s_pasts, .ref h_path, .int s_pathMoves, .int s_spot, .int s_thrown, .ref h_pose, .ref h_way, .ref h_px, .ref h_py, .int s_faulty, .ref h_free, .ref h_tips, .ref h_far, .ref h_queue, .int s_queued, .ref h_times, .ref h_turns, .ref h_names, .ref h_named, .ref h_text, .int s_length, .int s_at, .int s_error, .ref h_told, .int s_tolds, .int s_number, .ref h_spare])), (h_g, .inl (E 0, 141, .inl s_g))]
set_option maxHeartbeats 4000000 in
set_option maxRecDepth 100000 in
theorem c_X8_lengthOf (l : Launch) (D : va_G) (E : Nat → ClassId) (tx : List (Nat × String)) (h_ h_g h_kept h_past h_path h_pose h_way h_px h_py h_free h_tips h_far h_queue h_times h_turns h_names h_named h_text h_told h_spare : Nat) (s_hasKept : Int32) (s_pasts : Int32) (s_pathMoves : Int32) (s_spot : Int32) (s_thrown : Int32) (s_faulty : Int32) (s_queued : Int32) (s_length : Int32) (s_at : Int32) (s_error : Int32) (s_tolds : Int32) (s_number : Int32) (s_g : Nat → Int32) (x1 : Int32) (r0 : Int32) (hf : f_X8_lengthOf s_g x1 = some r0) : CI l yX8_lengthOf cX8_lengthOf 2 (some .int) 0 0 D E tx [.ref h_, .int x1] (w_X8_lengthOf E h_ h_g h_kept h_past h_path h_pose h_way h_px h_py h_free h_tips h_far h_queue h_times h_turns h_names h_named h_text h_told h_spare s_hasKept s_pasts s_pathMoves s_spot s_thrown s_faulty s_queued s_length s_at s_error s_tolds s_number s_g) (w_X8_lengthOf E h_ h_g h_kept h_past h_path h_pose h_way h_px h_py h_free h_tips h_far h_queue h_times h_turns h_names h_named h_text h_told h_spare s_hasKept s_pasts s_pathMoves s_spot s_thrown s_faulty s_queued s_length s_at s_error s_tolds s_number s_g) r0 := by
  refine CI_of RX8 pn_X8 rfl (Nat.le_of_ble_eq_true rfl) (fun p e s m args below meth c A Q hF hK hA hZ hW hret ls hl => ?_)
  have hx := hF.1
  have hb := hF.2.1
  have hl : lv_has ls 2 [(0, .ref h_), (1, .int x1)] := hl
  unfold f_X8_lengthOf at hf
  refine lv_aload_n hx hb dX8_lengthOf_0 rfl (lv_at hl 0 rfl) ?_
  refine q_get hF hK hW fl_X8_7 0 rfl rfl dX8_lengthOf_1 ?_
  refine lv_iconst (v := 1) hx hb dX8_lengthOf_4 (by decide) ?_
  refine lv_iconst (v := 4) hx hb dX8_lengthOf_5 (by decide) ?_
  refine lv_iload_n hx hb dX8_lengthOf_6 rfl (lv_at hl 1 rfl) ?_
  refine lv_imul hx hb dX8_lengthOf_7 ?_
  refine lv_iadd hx hb dX8_lengthOf_8 ?_
  refine q_iald hx hb hK hW 1 0 rfl rfl dX8_lengthOf_9 hf (fun hf => ?_)
  cases hf
  exact hret dX8_lengthOf_10 rfl rfl hW
def w_X8_down (E : Nat → ClassId) (h_ h_g h_kept h_past h_path h_pose h_way h_px h_py h_free h_tips h_far h_queue h_times h_turns h_names h_named h_text h_told h_spare : Nat) (s_hasKept : Int32) (s_pasts : Int32) (s_pathMoves : Int32) (s_spot : Int32) (s_thrown : Int32) (s_faulty : Int32) (s_queued : Int32) (s_length : Int32) (s_at : Int32) (s_error : Int32) (s_tolds : Int32) (s_number : Int32) (s_g : Nat → Int32) : va_W := [(h_, .inr (10, [.ref h_g, .ref h_kept, .int s_hasKept, .ref h_past, .int s_pasts, .ref h_path, .int s_pathMoves, .int s_spot, .int s_thrown, .ref h_pose, .ref h_way, .ref h_px, .ref h_py, .int s_faulty, .ref h_free, .ref h_tips, .ref h_far, .ref h_queue, .int s_queued, .ref h_times, .ref h_turns, .ref h_names, .ref h_named, .ref h_text, .int s_length, .int s_at, .int s_error, .ref h_told, .int s_tolds, .int s_number, .ref h_spare])), (h_g, .inl (E 0, 141, .inl s_g))]
set_option maxHeartbeats 4000000 in
set_option maxRecDepth 100000 in
theorem c_X8_down (l : Launch) (D : va_G) (E : Nat → ClassId) (tx : List (Nat × String)) (h_ h_g h_kept h_past h_path h_pose h_way h_px h_py h_free h_tips h_far h_queue h_times h_turns h_names h_named h_text h_told h_spare : Nat) (s_hasKept : Int32) (s_pasts : Int32) (s_pathMoves : Int32) (s_spot : Int32) (s_thrown : Int32) (s_faulty : Int32) (s_queued : Int32) (s_length : Int32) (s_at : Int32) (s_error : Int32) (s_tolds : Int32) (s_number : Int32) (s_g : Nat → Int32) (x1 : Int32) (r0 : Int32) (hf : f_X8_down s_g x1 = some r0) : CI l yX8_down cX8_down 2 (some .int) 0 0 D E tx [.ref h_, .int x1] (w_X8_down E h_ h_g h_kept h_past h_path h_pose h_way h_px h_py h_free h_tips h_far h_queue h_times h_turns h_names h_named h_text h_told h_spare s_hasKept s_pasts s_pathMoves s_spot s_thrown s_faulty s_queued s_length s_at s_error s_tolds s_number s_g) (w_X8_down E h_ h_g h_kept h_past h_path h_pose h_way h_px h_py h_free h_tips h_far h_queue h_times h_turns h_names h_named h_text h_told h_spare s_hasKept s_pasts s_pathMoves s_spot s_thrown s_faulty s_queued s_length s_at s_error s_tolds s_number s_g) r0 := by
  refine CI_of RX8 pn_X8 rfl (Nat.le_of_ble_eq_true rfl) (fun p e s m args below meth c A Q hF hK hA hZ hW hret ls hl => ?_)
  have hx := hF.1
  have hb := hF.2.1
  have hl : lv_has ls 2 [(0, .ref h_), (1, .int x1)] := hl
  unfold f_X8_down at hf
  refine lv_aload_n hx hb dX8_down_0 rfl (lv_at hl 0 rfl) ?_
  refine q_get hF hK hW fl_X8_7 0 rfl rfl dX8_down_1 ?_
  refine lv_iconst (v := 2) hx hb dX8_down_4 (by decide) ?_
  refine lv_iconst (v := 4) hx hb dX8_down_5 (by decide) ?_
  refine lv_iload_n hx hb dX8_down_6 rfl (lv_at hl 1 rfl) ?_
  refine lv_imul hx hb dX8_down_7 ?_
  refine lv_iadd hx hb dX8_down_8 ?_
  refine q_iald hx hb hK hW 1 0 rfl rfl dX8_down_9 hf (fun hf => ?_)
  cases hf
  exact hret dX8_down_10 rfl rfl hW
def w_X8_up (E : Nat → ClassId) (h_ h_g h_kept h_past h_path h_pose h_way h_px h_py h_free h_tips h_far h_queue h_times h_turns h_names h_named h_text h_told h_spare : Nat) (s_hasKept : Int32) (s_pasts : Int32) (s_pathMoves : Int32) (s_spot : Int32) (s_thrown : Int32) (s_faulty : Int32) (s_queued : Int32) (s_length : Int32) (s_at : Int32) (s_error : Int32) (s_tolds : Int32) (s_number : Int32) (s_g : Nat → Int32) : va_W := [(h_, .inr (10, [.ref h_g, .ref h_kept, .int s_hasKept, .ref h_past, .int s_pasts, .ref h_path, .int s_pathMoves, .int s_spot, .int s_thrown, .ref h_pose, .ref h_way, .ref h_px, .ref h_py, .int s_faulty, .ref h_free, .ref h_tips, .ref h_far, .ref h_queue, .int s_queued, .ref h_times, .ref h_turns, .ref h_names, .ref h_named, .ref h_text, .int s_length, .int s_at, .int s_error, .ref h_told, .int s_tolds, .int s_number, .ref h_spare])), (h_g, .inl (E 0, 141, .inl s_g))]
set_option maxHeartbeats 4000000 in
set_option maxRecDepth 100000 in
theorem c_X8_up (l : Launch) (D : va_G) (E : Nat → ClassId) (tx : List (Nat × String)) (h_ h_g h_kept h_past h_path h_pose h_way h_px h_py h_free h_tips h_far h_queue h_times h_turns h_names h_named h_text h_told h_spare : Nat) (s_hasKept : Int32) (s_pasts : Int32) (s_pathMoves : Int32) (s_spot : Int32) (s_thrown : Int32) (s_faulty : Int32) (s_queued : Int32) (s_length : Int32) (s_at : Int32) (s_error : Int32) (s_tolds : Int32) (s_number : Int32) (s_g : Nat → Int32) (x1 : Int32) (r0 : Int32) (hf : f_X8_up s_g x1 = some r0) : CI l yX8_up cX8_up 2 (some .int) 0 0 D E tx [.ref h_, .int x1] (w_X8_up E h_ h_g h_kept h_past h_path h_pose h_way h_px h_py h_free h_tips h_far h_queue h_times h_turns h_names h_named h_text h_told h_spare s_hasKept s_pasts s_pathMoves s_spot s_thrown s_faulty s_queued s_length s_at s_error s_tolds s_number s_g) (w_X8_up E h_ h_g h_kept h_past h_path h_pose h_way h_px h_py h_free h_tips h_far h_queue h_times h_turns h_names h_named h_text h_told h_spare s_hasKept s_pasts s_pathMoves s_spot s_thrown s_faulty s_queued s_length s_at s_error s_tolds s_number s_g) r0 := by
  refine CI_of RX8 pn_X8 rfl (Nat.le_of_ble_eq_true rfl) (fun p e s m args below meth c A Q hF hK hA hZ hW hret ls hl => ?_)
  have hx := hF.1
  have hb := hF.2.1
  have hl : lv_has ls 2 [(0, .ref h_), (1, .int x1)] := hl
  unfold f_X8_up at hf
  refine lv_aload_n hx hb dX8_up_0 rfl (lv_at hl 0 rfl) ?_
  refine q_get hF hK hW fl_X8_7 0 rfl rfl dX8_up_1 ?_
  refine lv_iconst (v := 3) hx hb dX8_up_4 (by decide) ?_
  refine lv_iconst (v := 4) hx hb dX8_up_5 (by decide) ?_
  refine lv_iload_n hx hb dX8_up_6 rfl (lv_at hl 1 rfl) ?_
  refine lv_imul hx hb dX8_up_7 ?_
  refine lv_iadd hx hb dX8_up_8 ?_
  refine q_iald hx hb hK hW 1 0 rfl rfl dX8_up_9 hf (fun hf => ?_)
  cases hf
  exact hret dX8_up_10 rfl rfl hW
def w_X8_changes (E : Nat → ClassId) (h_ h_g h_kept h_past h_path h_pose h_way h_px h_py h_free h_tips h_far h_queue h_times h_turns h_names h_named h_text h_told h_spare : Nat) (s_hasKept : Int32) (s_pasts : Int32) (s_pathMoves : Int32) (s_spot : Int32) (s_thrown : Int32) (s_faulty : Int32) (s_queued : Int32) (s_length : Int32) (s_at : Int32) (s_error : Int32) (s_tolds : Int32) (s_number : Int32) (s_g : Nat → Int32) (s_past : Nat → Int32) : va_W := [(h_, .inr (10, [.ref h_g, .ref h_kept, .int s_hasKept, .ref h_past, .int s_pasts, .ref h_path, .int s_pathMoves, .int s_spot, .int s_thrown, .ref h_pose, .ref h_way, .ref h_px, .ref h_py, .int s_faulty, .ref h_free, .ref h_tips, .ref h_far, .ref h_queue, .int s_queued, .ref h_times, .ref h_turns, .ref h_names, .ref h_named, .ref h_text, .int s_length, .int s_at, .int s_error, .ref h_told, .int s_tolds, .int s_number, .ref h_spare])), (h_g, .inl (E 0, 141, .inl s_g)), (h_past, .inl (E 0, 1128, .inl s_past))]
set_option maxHeartbeats 4000000 in
set_option maxRecDepth 100000 in
theorem c_X8_changes (l : Launch) (D : va_G) (E : Nat → ClassId) (tx : List (Nat × String)) (h_ h_g h_kept h_past h_path h_pose h_way h_px h_py h_free h_tips h_far h_queue h_times h_turns h_names h_named h_text h_told h_spare : Nat) (s_hasKept : Int32) (s_pasts : Int32) (s_pathMoves : Int32) (s_spot : Int32) (s_thrown : Int32) (s_faulty : Int32) (s_queued : Int32) (s_length : Int32) (s_at : Int32) (s_error : Int32) (s_tolds : Int32) (s_number : Int32) (s_g : Nat → Int32) (s_past : Nat → Int32)  (r0 : Int32) (r1 : Int32) (r2 : Nat → Int32) (hf : f_X8_changes s_pasts s_pathMoves s_g s_past = some (r0, r1, r2)) : CV l yX8_changes cX8_changes 2 0 0 D E tx [.ref h_] (w_X8_changes E h_ h_g h_kept h_past h_path h_pose h_way h_px h_py h_free h_tips h_far h_queue h_times h_turns h_names h_named h_text h_told h_spare s_hasKept s_pasts s_pathMoves s_spot s_thrown s_faulty s_queued s_length s_at s_error s_tolds s_number s_g s_past) (w_X8_changes E h_ h_g h_kept h_past h_path h_pose h_way h_px h_py h_free h_tips h_far h_queue h_times h_turns h_names h_named h_text h_told h_spare s_hasKept r0 r1 s_spot s_thrown s_faulty s_queued s_length s_at s_error s_tolds s_number s_g r2) := by
  refine CV_of RX8 pn_X8 rfl (Nat.le_of_ble_eq_true rfl) (fun p e s m args below meth c A Q hF hK hA hZ hW hret ls hl => ?_)
  have hx := hF.1
  have hb := hF.2.1
  have hl : lv_has ls 2 [(0, .ref h_)] := hl
  unfold f_X8_changes at hf
  have hL50 : ∀ (s_pasts_50 : Int32) (s_pathMoves_50 : Int32) (s_past_50 : Nat → Int32) (H : Heap) (locs : List Loc) (ls : Array Slot), f_X8_changes_L50 s_pasts_50 s_pathMoves_50 s_g s_past_50 = some (r0, r1, r2) → lv_has ls 2 [(0, .ref h_)] → WD D A s (w_X8_changes E h_ h_g h_kept h_past h_path h_pose h_way h_px h_py h_free h_tips h_far h_queue h_times h_turns h_names h_named h_text h_told h_spare s_hasKept s_pasts_50 s_pathMoves_50 s_spot s_thrown s_faulty s_queued s_length s_at s_error s_tolds s_number s_g s_past_50) H locs → W p l e (RM 0 0) s m args below meth c H locs 0 0 Q (F0 m 50 ls []) := by
    intro s_pasts_50 s_pathMoves_50 s_past_50 H locs ls hf hl hW
    unfold f_X8_changes_L50 at hf
    refine lv_iconst (v := 0) hx hb dX8_changes_50 (by decide) ?_
    refine lv_istore_n (lv' := [(1, .int 0), (0, .ref h_)]) hx hb dX8_changes_51 rfl hl (by decide) rfl (fun ls hl => ?_)
    have hB52 : ∀ (n : Nat) (s_past_52 : Nat → Int32) (z1_52 : Int32) (ex : (Nat → Int32)) (H : Heap) (locs : List Loc) (ls : Array Slot), LPF (fun z => f_X8_changes_B52 s_pasts_50 s_pathMoves_50 s_g z.1 z.2) n (s_past_52, z1_52) = some ex → lv_has ls 2 [(0, .ref h_), (1, .int z1_52)] → WD D A s (w_X8_changes E h_ h_g h_kept h_past h_path h_pose h_way h_px h_py h_free h_tips h_far h_queue h_times h_turns h_names h_named h_text h_told h_spare s_hasKept s_pasts_50 s_pathMoves_50 s_spot s_thrown s_faulty s_queued s_length s_at s_error s_tolds s_number s_g s_past_52) H locs → (∀ (H : Heap) (locs : List Loc) (ls : Array Slot), lv_has ls 2 [(0, .ref h_)] → WD D A s (w_X8_changes E h_ h_g h_kept h_past h_path h_pose h_way h_px h_py h_free h_tips h_far h_queue h_times h_turns h_names h_named h_text h_told h_spare s_hasKept s_pasts_50 s_pathMoves_50 s_spot s_thrown s_faulty s_queued s_length s_at s_error s_tolds s_number s_g ex) H locs → W p l e (RM 0 0) s m args below meth c H locs 0 0 Q (F0 m 86 ls [])) → W p l e (RM 0 0) s m args below meth c H locs 0 0 Q (F0 m 52 ls []) := by
      intro n
      induction n with
      | zero => intro s_past_52 z1_52 ex H locs ls h9; exact (ob_lp0 h9).elim
      | succ n ih =>
        intro s_past_52 z1_52 ex H locs ls h9 hl hW kx0
        obtain ⟨q9, hf, h9, k9⟩ := ob_lp h9
        have hf : f_X8_changes_B52 s_pasts_50 s_pathMoves_50 s_g s_past_52 z1_52 = some q9 := hf
        unfold f_X8_changes_B52 at hf
        refine lv_iload_n hx hb dX8_changes_52 rfl (lv_at hl 1 rfl) ?_
        refine lv_sipush (v := 141) hx hb dX8_changes_53 (by decide) ?_
        refine q_icmp_ge (tgt := 86) hx hb dX8_changes_56 (by decide) hf (fun hf => ?_) (fun hf => ?_)
        · cases hf
          have hx9 := k9 _ rfl
          subst hx9
          exact kx0 _ _ _ (lv_sub hl [0] rfl) hW
        · refine lv_aload_n hx hb dX8_changes_59 rfl (lv_at hl 0 rfl) ?_
          refine q_get hF hK hW fl_X8_16 0 rfl rfl dX8_changes_60 ?_
          refine lv_sipush (v := 141) hx hb dX8_changes_63 (by decide) ?_
          refine lv_aload_n hx hb dX8_changes_66 rfl (lv_at hl 0 rfl) ?_
          refine q_get hF hK hW fl_X8_83 0 rfl rfl dX8_changes_67 ?_
          refine lv_imul hx hb dX8_changes_70 ?_
          refine lv_iload_n hx hb dX8_changes_71 rfl (lv_at hl 1 rfl) ?_
          refine lv_iadd hx hb dX8_changes_72 ?_
          refine lv_aload_n hx hb dX8_changes_73 rfl (lv_at hl 0 rfl) ?_
          refine q_get hF hK hW fl_X8_7 0 rfl rfl dX8_changes_74 ?_
          refine lv_iload_n hx hb dX8_changes_77 rfl (lv_at hl 1 rfl) ?_
          refine q_iald hx hb hK hW 1 0 rfl rfl dX8_changes_78 hf (fun hf => ?_)
          refine q_iast hx hb hK hW 2 0 rfl rfl dX8_changes_79 hf (fun a_1 hf H locs hW => ?_)
          have hW : WD D A s (w_X8_changes E h_ h_g h_kept h_past h_path h_pose h_way h_px h_py h_free h_tips h_far h_queue h_times h_turns h_names h_named h_text h_told h_spare s_hasKept s_pasts_50 s_pathMoves_50 s_spot s_thrown s_faulty s_queued s_length s_at s_error s_tolds s_number s_g a_1) H locs := hW
          obtain ⟨v_2, ev_2⟩ : ∃ y : Int32, y = z1_52 + 1 := ⟨_, rfl⟩
          replace hf := ob_let hf ev_2
          refine lv_iinc (v := v_2) (lv' := [(1, .int v_2), (0, .ref h_)]) hx hb dX8_changes_80 hl (k := 1) rfl (by rw [ev_2]; rfl) (by decide) rfl (fun ls hl => ?_)
          refine lv_goto (tgt := 52) hx hb dX8_changes_83 (by decide) ?_
          cases hf
          exact ih a_1 v_2 ex _ _ _ (h9 _ rfl) (lv_sub hl [1, 0] rfl) hW kx0
    obtain ⟨e_3, hc_3, hf⟩ := ob_bind hf
    refine hB52 lfuel s_past_50 0 e_3 _ _ _ hc_3 (lv_sub hl [1, 0] rfl) hW ?_
    intro H locs ls hl hW
    refine lv_aload_n hx hb dX8_changes_86 rfl (lv_at hl 0 rfl) ?_
    refine lv_dup hx hb dX8_changes_87 rfl ?_
    refine q_get hF hK hW fl_X8_83 0 rfl rfl dX8_changes_88 ?_
    refine lv_iconst (v := 1) hx hb dX8_changes_91 (by decide) ?_
    refine lv_iadd hx hb dX8_changes_92 ?_
    refine lv_topi (fun v_4 ev_4 => ?_)
    replace hf := ob_let hf ev_4
    refine q_put hF hK hW fl_X8_83 ft_X8 rfl 0 rfl rfl rfl (Nat.le_of_ble_eq_true rfl) dX8_changes_93 (fun H locs hW => ?_)
    have hW : WD D A s (w_X8_changes E h_ h_g h_kept h_past h_path h_pose h_way h_px h_py h_free h_tips h_far h_queue h_times h_turns h_names h_named h_text h_told h_spare s_hasKept v_4 s_pathMoves_50 s_spot s_thrown s_faulty s_queued s_length s_at s_error s_tolds s_number s_g e_3) H locs := hW
    refine lv_aload_n hx hb dX8_changes_96 rfl (lv_at hl 0 rfl) ?_
    refine lv_iconst (v := (-1)) hx hb dX8_changes_97 (by decide) ?_
    refine q_put hF hK hW fl_X8_22 ft_X8 rfl 0 rfl rfl rfl (Nat.le_of_ble_eq_true rfl) dX8_changes_98 (fun H locs hW => ?_)
    have hW : WD D A s (w_X8_changes E h_ h_g h_kept h_past h_path h_pose h_way h_px h_py h_free h_tips h_far h_queue h_times h_turns h_names h_named h_text h_told h_spare s_hasKept v_4 ((-1)) s_spot s_thrown s_faulty s_queued s_length s_at s_error s_tolds s_number s_g e_3) H locs := hW
    cases hf
    exact hret dX8_changes_101 hW
  refine lv_aload_n hx hb dX8_changes_0 rfl (lv_at hl 0 rfl) ?_
  refine q_get hF hK hW fl_X8_83 0 rfl rfl dX8_changes_1 ?_
  refine lv_bipush (v := 8) hx hb dX8_changes_4 (by decide) ?_
  refine q_icmp_ne (tgt := 50) hx hb dX8_changes_6 (by decide) hf (fun hf => ?_) (fun hf => ?_)
  · exact hL50 s_pasts s_pathMoves s_past _ _ _ hf (lv_sub hl [0] rfl) hW
  · refine lv_iconst (v := 0) hx hb dX8_changes_9 (by decide) ?_
    refine lv_istore_n (lv' := [(1, .int 0), (0, .ref h_)]) hx hb dX8_changes_10 rfl hl (by decide) rfl (fun ls hl => ?_)
    have hB11 : ∀ (n : Nat) (s_past_11 : Nat → Int32) (z1_11 : Int32) (ex : (Nat → Int32)) (H : Heap) (locs : List Loc) (ls : Array Slot), LPF (fun z => f_X8_changes_B11 s_pasts s_pathMoves s_g z.1 z.2) n (s_past_11, z1_11) = some ex → lv_has ls 2 [(0, .ref h_), (1, .int z1_11)] → WD D A s (w_X8_changes E h_ h_g h_kept h_past h_path h_pose h_way h_px h_py h_free h_tips h_far h_queue h_times h_turns h_names h_named h_text h_told h_spare s_hasKept s_pasts s_pathMoves s_spot s_thrown s_faulty s_queued s_length s_at s_error s_tolds s_number s_g s_past_11) H locs → (∀ (H : Heap) (locs : List Loc) (ls : Array Slot), lv_has ls 2 [(0, .ref h_)] → WD D A s (w_X8_changes E h_ h_g h_kept h_past h_path h_pose h_way h_px h_py h_free h_tips h_far h_queue h_times h_turns h_names h_named h_text h_told h_spare s_hasKept s_pasts s_pathMoves s_spot s_thrown s_faulty s_queued s_length s_at s_error s_tolds s_number s_g ex) H locs → W p l e (RM 0 0) s m args below meth c H locs 0 0 Q (F0 m 40 ls [])) → W p l e (RM 0 0) s m args below meth c H locs 0 0 Q (F0 m 11 ls []) := by
      intro n
      induction n with
      | zero => intro s_past_11 z1_11 ex H locs ls h9; exact (ob_lp0 h9).elim
      | succ n ih =>
        intro s_past_11 z1_11 ex H locs ls h9 hl hW kx0
        obtain ⟨q9, hf, h9, k9⟩ := ob_lp h9
        have hf : f_X8_changes_B11 s_pasts s_pathMoves s_g s_past_11 z1_11 = some q9 := hf
        unfold f_X8_changes_B11 at hf
        refine lv_iload_n hx hb dX8_changes_11 rfl (lv_at hl 1 rfl) ?_
        refine lv_sipush (v := 987) hx hb dX8_changes_12 (by decide) ?_
        refine q_icmp_ge (tgt := 40) hx hb dX8_changes_15 (by decide) hf (fun hf => ?_) (fun hf => ?_)
        · cases hf
          have hx9 := k9 _ rfl
          subst hx9
          exact kx0 _ _ _ (lv_sub hl [0] rfl) hW
        · refine lv_aload_n hx hb dX8_changes_18 rfl (lv_at hl 0 rfl) ?_
          refine q_get hF hK hW fl_X8_16 0 rfl rfl dX8_changes_19 ?_
          refine lv_iload_n hx hb dX8_changes_22 rfl (lv_at hl 1 rfl) ?_
          refine lv_aload_n hx hb dX8_changes_23 rfl (lv_at hl 0 rfl) ?_
          refine q_get hF hK hW fl_X8_16 0 rfl rfl dX8_changes_24 ?_
          refine lv_iload_n hx hb dX8_changes_27 rfl (lv_at hl 1 rfl) ?_
          refine lv_sipush (v := 141) hx hb dX8_changes_28 (by decide) ?_
          refine lv_iadd hx hb dX8_changes_31 ?_
          refine q_iald hx hb hK hW 2 0 rfl rfl dX8_changes_32 hf (fun hf => ?_)
          refine q_iast hx hb hK hW 2 0 rfl rfl dX8_changes_33 hf (fun a_5 hf H locs hW => ?_)
          have hW : WD D A s (w_X8_changes E h_ h_g h_kept h_past h_path h_pose h_way h_px h_py h_free h_tips h_far h_queue h_times h_turns h_names h_named h_text h_told h_spare s_hasKept s_pasts s_pathMoves s_spot s_thrown s_faulty s_queued s_length s_at s_error s_tolds s_number s_g a_5) H locs := hW
          obtain ⟨v_6, ev_6⟩ : ∃ y : Int32, y = z1_11 + 1 := ⟨_, rfl⟩
          replace hf := ob_let hf ev_6
          refine lv_iinc (v := v_6) (lv' := [(1, .int v_6), (0, .ref h_)]) hx hb dX8_changes_34 hl (k := 1) rfl (by rw [ev_6]; rfl) (by decide) rfl (fun ls hl => ?_)
          refine lv_goto (tgt := 11) hx hb dX8_changes_37 (by decide) ?_
          cases hf
          exact ih a_5 v_6 ex _ _ _ (h9 _ rfl) (lv_sub hl [1, 0] rfl) hW kx0
    obtain ⟨e_7, hc_7, hf⟩ := ob_bind hf
    refine hB11 lfuel s_past 0 e_7 _ _ _ hc_7 (lv_sub hl [1, 0] rfl) hW ?_
    intro H locs ls hl hW
    refine lv_aload_n hx hb dX8_changes_40 rfl (lv_at hl 0 rfl) ?_
    refine lv_dup hx hb dX8_changes_41 rfl ?_
    refine q_get hF hK hW fl_X8_83 0 rfl rfl dX8_changes_42 ?_
    refine lv_iconst (v := 1) hx hb dX8_changes_45 (by decide) ?_
    refine lv_isub hx hb dX8_changes_46 ?_
    refine lv_topi (fun v_8 ev_8 => ?_)
    replace hf := ob_let hf ev_8
    refine q_put hF hK hW fl_X8_83 ft_X8 rfl 0 rfl rfl rfl (Nat.le_of_ble_eq_true rfl) dX8_changes_47 (fun H locs hW => ?_)
    have hW : WD D A s (w_X8_changes E h_ h_g h_kept h_past h_path h_pose h_way h_px h_py h_free h_tips h_far h_queue h_times h_turns h_names h_named h_text h_told h_spare s_hasKept v_8 s_pathMoves s_spot s_thrown s_faulty s_queued s_length s_at s_error s_tolds s_number s_g e_7) H locs := hW
    exact hL50 v_8 s_pathMoves e_7 _ _ _ hf (lv_sub hl [0] rfl) hW
def w_X8_undo (E : Nat → ClassId) (h_ h_g h_kept h_past h_path h_pose h_way h_px h_py h_free h_tips h_far h_queue h_times h_turns h_names h_named h_text h_told h_spare : Nat) (s_hasKept : Int32) (s_pasts : Int32) (s_pathMoves : Int32) (s_spot : Int32) (s_thrown : Int32) (s_faulty : Int32) (s_queued : Int32) (s_length : Int32) (s_at : Int32) (s_error : Int32) (s_tolds : Int32) (s_number : Int32) (s_g : Nat → Int32) (s_past : Nat → Int32) : va_W := [(h_, .inr (10, [.ref h_g, .ref h_kept, .int s_hasKept, .ref h_past, .int s_pasts, .ref h_path, .int s_pathMoves, .int s_spot, .int s_thrown, .ref h_pose, .ref h_way, .ref h_px, .ref h_py, .int s_faulty, .ref h_free, .ref h_tips, .ref h_far, .ref h_queue, .int s_queued, .ref h_times, .ref h_turns, .ref h_names, .ref h_named, .ref h_text, .int s_length, .int s_at, .int s_error, .ref h_told, .int s_tolds, .int s_number, .ref h_spare])), (h_g, .inl (E 0, 141, .inl s_g)), (h_past, .inl (E 0, 1128, .inl s_past))]
set_option maxHeartbeats 4000000 in
set_option maxRecDepth 100000 in
theorem c_X8_undo (l : Launch) (D : va_G) (E : Nat → ClassId) (tx : List (Nat × String)) (h_ h_g h_kept h_past h_path h_pose h_way h_px h_py h_free h_tips h_far h_queue h_times h_turns h_names h_named h_text h_told h_spare : Nat) (s_hasKept : Int32) (s_pasts : Int32) (s_pathMoves : Int32) (s_spot : Int32) (s_thrown : Int32) (s_faulty : Int32) (s_queued : Int32) (s_length : Int32) (s_at : Int32) (s_error : Int32) (s_tolds : Int32) (s_number : Int32) (s_g : Nat → Int32) (s_past : Nat → Int32)  (r0 : Int32) (r1 : Int32) (r2 : Int32) (r3 : Int32) (r4 : Nat → Int32) (hf : f_X8_undo s_pasts s_pathMoves s_thrown s_g s_past = some (r0, r1, r2, r3, r4)) : CI l yX8_undo cX8_undo 2 (some .int) 1 21 D E tx [.ref h_] (w_X8_undo E h_ h_g h_kept h_past h_path h_pose h_way h_px h_py h_free h_tips h_far h_queue h_times h_turns h_names h_named h_text h_told h_spare s_hasKept s_pasts s_pathMoves s_spot s_thrown s_faulty s_queued s_length s_at s_error s_tolds s_number s_g s_past) (w_X8_undo E h_ h_g h_kept h_past h_path h_pose h_way h_px h_py h_free h_tips h_far h_queue h_times h_turns h_names h_named h_text h_told h_spare s_hasKept r1 r2 s_spot r3 s_faulty s_queued s_length s_at s_error s_tolds s_number r4 s_past) r0 := by
  refine CI_of RX8 pn_X8 rfl (Nat.le_of_ble_eq_true rfl) (fun p e s m args below meth c A Q hF hK hA hZ hW hret ls hl => ?_)
  have hx := hF.1
  have hb := hF.2.1
  have hl : lv_has ls 2 [(0, .ref h_)] := hl
  unfold f_X8_undo at hf
  refine lv_aload_n hx hb dX8_undo_0 rfl (lv_at hl 0 rfl) ?_
  refine lv_iconst (v := 0) hx hb dX8_undo_1 (by decide) ?_
  refine q_put hF hK hW fl_X8_76 ft_X8 rfl 0 rfl rfl rfl (Nat.le_of_ble_eq_true rfl) dX8_undo_2 (fun H locs hW => ?_)
  have hW : WD D A s (w_X8_undo E h_ h_g h_kept h_past h_path h_pose h_way h_px h_py h_free h_tips h_far h_queue h_times h_turns h_names h_named h_text h_told h_spare s_hasKept s_pasts s_pathMoves s_spot 0 s_faulty s_queued s_length s_at s_error s_tolds s_number s_g s_past) H locs := hW
  refine lv_aload_n hx hb dX8_undo_5 rfl (lv_at hl 0 rfl) ?_
  refine q_get hF hK hW fl_X8_83 0 rfl rfl dX8_undo_6 ?_
  refine q_if_ne (tgt := 18) hx hb dX8_undo_9 (by decide) hf (fun hf => ?_) (fun hf => ?_)
  · refine lv_aload_n hx hb dX8_undo_18 rfl (lv_at hl 0 rfl) ?_
    refine lv_dup hx hb dX8_undo_19 rfl ?_
    refine q_get hF hK hW fl_X8_83 0 rfl rfl dX8_undo_20 ?_
    refine lv_iconst (v := 1) hx hb dX8_undo_23 (by decide) ?_
    refine lv_isub hx hb dX8_undo_24 ?_
    refine lv_topi (fun v_1 ev_1 => ?_)
    replace hf := ob_let hf ev_1
    refine q_put hF hK hW fl_X8_83 ft_X8 rfl 0 rfl rfl rfl (Nat.le_of_ble_eq_true rfl) dX8_undo_25 (fun H locs hW => ?_)
    have hW : WD D A s (w_X8_undo E h_ h_g h_kept h_past h_path h_pose h_way h_px h_py h_free h_tips h_far h_queue h_times h_turns h_names h_named h_text h_told h_spare s_hasKept v_1 s_pathMoves s_spot 0 s_faulty s_queued s_length s_at s_error s_tolds s_number s_g s_past) H locs := hW
    refine lv_iconst (v := 0) hx hb dX8_undo_28 (by decide) ?_
    refine lv_istore_n (lv' := [(1, .int 0), (0, .ref h_)]) hx hb dX8_undo_29 rfl hl (by decide) rfl (fun ls hl => ?_)
    have hB30 : ∀ (n : Nat) (s_g_30 : Nat → Int32) (z1_30 : Int32) (ex : (Nat → Int32)) (H : Heap) (locs : List Loc) (ls : Array Slot), LPF (fun z => f_X8_undo_B30 v_1 s_pathMoves 0 z.1 s_past z.2) n (s_g_30, z1_30) = some ex → lv_has ls 2 [(0, .ref h_), (1, .int z1_30)] → WD D A s (w_X8_undo E h_ h_g h_kept h_past h_path h_pose h_way h_px h_py h_free h_tips h_far h_queue h_times h_turns h_names h_named h_text h_told h_spare s_hasKept v_1 s_pathMoves s_spot 0 s_faulty s_queued s_length s_at s_error s_tolds s_number s_g_30 s_past) H locs → (∀ (H : Heap) (locs : List Loc) (ls : Array Slot), lv_has ls 2 [(0, .ref h_)] → WD D A s (w_X8_undo E h_ h_g h_kept h_past h_path h_pose h_way h_px h_py h_free h_tips h_far h_queue h_times h_turns h_names h_named h_text h_told h_spare s_hasKept v_1 s_pathMoves s_spot 0 s_faulty s_queued s_length s_at s_error s_tolds s_number ex s_past) H locs → W p l e (RM 1 21) s m args below meth c H locs 0 0 Q (F0 m 64 ls [])) → W p l e (RM 1 21) s m args below meth c H locs 0 0 Q (F0 m 30 ls []) := by
      intro n
      induction n with
      | zero => intro s_g_30 z1_30 ex H locs ls h9; exact (ob_lp0 h9).elim
      | succ n ih =>
        intro s_g_30 z1_30 ex H locs ls h9 hl hW kx0
        obtain ⟨q9, hf, h9, k9⟩ := ob_lp h9
        have hf : f_X8_undo_B30 v_1 s_pathMoves 0 s_g_30 s_past z1_30 = some q9 := hf
        unfold f_X8_undo_B30 at hf
        refine lv_iload_n hx hb dX8_undo_30 rfl (lv_at hl 1 rfl) ?_
        refine lv_sipush (v := 141) hx hb dX8_undo_31 (by decide) ?_
        refine q_icmp_ge (tgt := 64) hx hb dX8_undo_34 (by decide) hf (fun hf => ?_) (fun hf => ?_)
        · cases hf
          have hx9 := k9 _ rfl
          subst hx9
          exact kx0 _ _ _ (lv_sub hl [0] rfl) hW
        · refine lv_aload_n hx hb dX8_undo_37 rfl (lv_at hl 0 rfl) ?_
          refine q_get hF hK hW fl_X8_7 0 rfl rfl dX8_undo_38 ?_
          refine lv_iload_n hx hb dX8_undo_41 rfl (lv_at hl 1 rfl) ?_
          refine lv_aload_n hx hb dX8_undo_42 rfl (lv_at hl 0 rfl) ?_
          refine q_get hF hK hW fl_X8_16 0 rfl rfl dX8_undo_43 ?_
          refine lv_sipush (v := 141) hx hb dX8_undo_46 (by decide) ?_
          refine lv_aload_n hx hb dX8_undo_49 rfl (lv_at hl 0 rfl) ?_
          refine q_get hF hK hW fl_X8_83 0 rfl rfl dX8_undo_50 ?_
          refine lv_imul hx hb dX8_undo_53 ?_
          refine lv_iload_n hx hb dX8_undo_54 rfl (lv_at hl 1 rfl) ?_
          refine lv_iadd hx hb dX8_undo_55 ?_
          refine q_iald hx hb hK hW 2 0 rfl rfl dX8_undo_56 hf (fun hf => ?_)
          refine q_iast hx hb hK hW 1 0 rfl rfl dX8_undo_57 hf (fun a_2 hf H locs hW => ?_)
          have hW : WD D A s (w_X8_undo E h_ h_g h_kept h_past h_path h_pose h_way h_px h_py h_free h_tips h_far h_queue h_times h_turns h_names h_named h_text h_told h_spare s_hasKept v_1 s_pathMoves s_spot 0 s_faulty s_queued s_length s_at s_error s_tolds s_number a_2 s_past) H locs := hW
          obtain ⟨v_3, ev_3⟩ : ∃ y : Int32, y = z1_30 + 1 := ⟨_, rfl⟩
          replace hf := ob_let hf ev_3
          refine lv_iinc (v := v_3) (lv' := [(1, .int v_3), (0, .ref h_)]) hx hb dX8_undo_58 hl (k := 1) rfl (by rw [ev_3]; rfl) (by decide) rfl (fun ls hl => ?_)
          refine lv_goto (tgt := 30) hx hb dX8_undo_61 (by decide) ?_
          cases hf
          exact ih a_2 v_3 ex _ _ _ (h9 _ rfl) (lv_sub hl [1, 0] rfl) hW kx0
    obtain ⟨e_4, hc_4, hf⟩ := ob_bind hf
    refine hB30 lfuel s_g 0 e_4 _ _ _ hc_4 (lv_sub hl [1, 0] rfl) hW ?_
    intro H locs ls hl hW
    refine lv_aload_n hx hb dX8_undo_64 rfl (lv_at hl 0 rfl) ?_
    refine lv_iconst (v := (-1)) hx hb dX8_undo_65 (by decide) ?_
    refine q_put hF hK hW fl_X8_22 ft_X8 rfl 0 rfl rfl rfl (Nat.le_of_ble_eq_true rfl) dX8_undo_66 (fun H locs hW => ?_)
    have hW : WD D A s (w_X8_undo E h_ h_g h_kept h_past h_path h_pose h_way h_px h_py h_free h_tips h_far h_queue h_times h_turns h_names h_named h_text h_told h_spare s_hasKept v_1 ((-1)) s_spot 0 s_faulty s_queued s_length s_at s_error s_tolds s_number e_4 s_past) H locs := hW
    refine lv_aload_n hx hb dX8_undo_69 rfl (lv_at hl 0 rfl) ?_
    refine q_get hF hK hW fl_X8_83 0 rfl rfl dX8_undo_70 ?_
    cases hf
    exact hret dX8_undo_73 rfl rfl hW
  · refine lv_aload_n hx hb dX8_undo_12 rfl (lv_at hl 0 rfl) ?_
    refine lv_iconst (v := 1) hx hb dX8_undo_13 (by decide) ?_
    obtain ⟨o_5, hc_5, hf⟩ := ob_bind hf
    refine q_callI hF hl.1 hK hA hZ hW mv_X8_fails ml_X8_86 (c_X8_fails l D E tx h_ h_g h_kept h_past h_path h_pose h_way h_px h_py h_free h_tips h_far h_queue h_times h_turns h_names h_named h_text h_told h_spare s_hasKept s_pasts s_pathMoves s_spot 0 s_faulty s_queued s_length s_at s_error s_tolds s_number 1 o_5.1 o_5.2 hc_5) [0] rfl rfl rfl rfl rfl rfl ⟨Nat.le_of_ble_eq_true rfl, Nat.le_of_ble_eq_true rfl⟩ ⟨Nat.le_of_ble_eq_true rfl, Nat.le_of_ble_eq_true rfl⟩ rfl rfl (Nat.le_of_ble_eq_true rfl) dX8_undo_14 (fun H locs hW => ?_)
    have hW : WD D A s (w_X8_undo E h_ h_g h_kept h_past h_path h_pose h_way h_px h_py h_free h_tips h_far h_queue h_times h_turns h_names h_named h_text h_told h_spare s_hasKept s_pasts s_pathMoves s_spot o_5.2 s_faulty s_queued s_length s_at s_error s_tolds s_number s_g s_past) H locs := hW
    cases hf
    exact hret dX8_undo_17 rfl rfl hW
def w_X8_save (E : Nat → ClassId) (h_ h_g h_kept h_past h_path h_pose h_way h_px h_py h_free h_tips h_far h_queue h_times h_turns h_names h_named h_text h_told h_spare : Nat) (s_hasKept : Int32) (s_pasts : Int32) (s_pathMoves : Int32) (s_spot : Int32) (s_thrown : Int32) (s_faulty : Int32) (s_queued : Int32) (s_length : Int32) (s_at : Int32) (s_error : Int32) (s_tolds : Int32) (s_number : Int32) (s_g : Nat → Int32) (s_kept : Nat → Int32) : va_W := [(h_, .inr (10, [.ref h_g, .ref h_kept, .int s_hasKept, .ref h_past, .int s_pasts, .ref h_path, .int s_pathMoves, .int s_spot, .int s_thrown, .ref h_pose, .ref h_way, .ref h_px, .ref h_py, .int s_faulty, .ref h_free, .ref h_tips, .ref h_far, .ref h_queue, .int s_queued, .ref h_times, .ref h_turns, .ref h_names, .ref h_named, .ref h_text, .int s_length, .int s_at, .int s_error, .ref h_told, .int s_tolds, .int s_number, .ref h_spare])), (h_g, .inl (E 0, 141, .inl s_g)), (h_kept, .inl (E 0, 141, .inl s_kept))]
set_option maxHeartbeats 4000000 in
set_option maxRecDepth 100000 in
theorem c_X8_save (l : Launch) (D : va_G) (E : Nat → ClassId) (tx : List (Nat × String)) (h_ h_g h_kept h_past h_path h_pose h_way h_px h_py h_free h_tips h_far h_queue h_times h_turns h_names h_named h_text h_told h_spare : Nat) (s_hasKept : Int32) (s_pasts : Int32) (s_pathMoves : Int32) (s_spot : Int32) (s_thrown : Int32) (s_faulty : Int32) (s_queued : Int32) (s_length : Int32) (s_at : Int32) (s_error : Int32) (s_tolds : Int32) (s_number : Int32) (s_g : Nat → Int32) (s_kept : Nat → Int32)  (r0 : Int32) (r1 : Int32) (r2 : Int32) (r3 : Nat → Int32) (hf : f_X8_save s_hasKept s_thrown s_g s_kept = some (r0, r1, r2, r3)) : CI l yX8_save cX8_save 2 (some .int) 0 0 D E tx [.ref h_] (w_X8_save E h_ h_g h_kept h_past h_path h_pose h_way h_px h_py h_free h_tips h_far h_queue h_times h_turns h_names h_named h_text h_told h_spare s_hasKept s_pasts s_pathMoves s_spot s_thrown s_faulty s_queued s_length s_at s_error s_tolds s_number s_g s_kept) (w_X8_save E h_ h_g h_kept h_past h_path h_pose h_way h_px h_py h_free h_tips h_far h_queue h_times h_turns h_names h_named h_text h_told h_spare r1 s_pasts s_pathMoves s_spot r2 s_faulty s_queued s_length s_at s_error s_tolds s_number s_g r3) r0 := by
  refine CI_of RX8 pn_X8 rfl (Nat.le_of_ble_eq_true rfl) (fun p e s m args below meth c A Q hF hK hA hZ hW hret ls hl => ?_)
  have hx := hF.1
  have hb := hF.2.1
  have hl : lv_has ls 2 [(0, .ref h_)] := hl
  unfold f_X8_save at hf
  refine lv_aload_n hx hb dX8_save_0 rfl (lv_at hl 0 rfl) ?_
  refine lv_iconst (v := 0) hx hb dX8_save_1 (by decide) ?_
  refine q_put hF hK hW fl_X8_76 ft_X8 rfl 0 rfl rfl rfl (Nat.le_of_ble_eq_true rfl) dX8_save_2 (fun H locs hW => ?_)
  have hW : WD D A s (w_X8_save E h_ h_g h_kept h_past h_path h_pose h_way h_px h_py h_free h_tips h_far h_queue h_times h_turns h_names h_named h_text h_told h_spare s_hasKept s_pasts s_pathMoves s_spot 0 s_faulty s_queued s_length s_at s_error s_tolds s_number s_g s_kept) H locs := hW
  refine lv_aload_n hx hb dX8_save_5 rfl (lv_at hl 0 rfl) ?_
  refine lv_iconst (v := 1) hx hb dX8_save_6 (by decide) ?_
  refine q_put hF hK hW fl_X8_90 ft_X8 rfl 0 rfl rfl (by decide) (Nat.le_of_ble_eq_true rfl) dX8_save_7 (fun H locs hW => ?_)
  have hW : WD D A s (w_X8_save E h_ h_g h_kept h_past h_path h_pose h_way h_px h_py h_free h_tips h_far h_queue h_times h_turns h_names h_named h_text h_told h_spare 1 s_pasts s_pathMoves s_spot 0 s_faulty s_queued s_length s_at s_error s_tolds s_number s_g s_kept) H locs := hW
  refine lv_iconst (v := 0) hx hb dX8_save_10 (by decide) ?_
  refine lv_istore_n (lv' := [(1, .int 0), (0, .ref h_)]) hx hb dX8_save_11 rfl hl (by decide) rfl (fun ls hl => ?_)
  have hB12 : ∀ (n : Nat) (s_kept_12 : Nat → Int32) (z1_12 : Int32) (ex : (Nat → Int32)) (H : Heap) (locs : List Loc) (ls : Array Slot), LPF (fun z => f_X8_save_B12 1 0 s_g z.1 z.2) n (s_kept_12, z1_12) = some ex → lv_has ls 2 [(0, .ref h_), (1, .int z1_12)] → WD D A s (w_X8_save E h_ h_g h_kept h_past h_path h_pose h_way h_px h_py h_free h_tips h_far h_queue h_times h_turns h_names h_named h_text h_told h_spare 1 s_pasts s_pathMoves s_spot 0 s_faulty s_queued s_length s_at s_error s_tolds s_number s_g s_kept_12) H locs → (∀ (H : Heap) (locs : List Loc) (ls : Array Slot), lv_has ls 2 [(0, .ref h_)] → WD D A s (w_X8_save E h_ h_g h_kept h_past h_path h_pose h_way h_px h_py h_free h_tips h_far h_queue h_times h_turns h_names h_named h_text h_told h_spare 1 s_pasts s_pathMoves s_spot 0 s_faulty s_queued s_length s_at s_error s_tolds s_number s_g ex) H locs → W p l e (RM 0 0) s m args below meth c H locs 0 0 Q (F0 m 37 ls [])) → W p l e (RM 0 0) s m args below meth c H locs 0 0 Q (F0 m 12 ls []) := by
    intro n
    induction n with
    | zero => intro s_kept_12 z1_12 ex H locs ls h9; exact (ob_lp0 h9).elim
    | succ n ih =>
      intro s_kept_12 z1_12 ex H locs ls h9 hl hW kx0
      obtain ⟨q9, hf, h9, k9⟩ := ob_lp h9
      have hf : f_X8_save_B12 1 0 s_g s_kept_12 z1_12 = some q9 := hf
      unfold f_X8_save_B12 at hf
      refine lv_iload_n hx hb dX8_save_12 rfl (lv_at hl 1 rfl) ?_
      refine lv_sipush (v := 141) hx hb dX8_save_13 (by decide) ?_
      refine q_icmp_ge (tgt := 37) hx hb dX8_save_16 (by decide) hf (fun hf => ?_) (fun hf => ?_)
      · cases hf
        have hx9 := k9 _ rfl
        subst hx9
        exact kx0 _ _ _ (lv_sub hl [0] rfl) hW
      · refine lv_aload_n hx hb dX8_save_19 rfl (lv_at hl 0 rfl) ?_
        refine q_get hF hK hW fl_X8_13 0 rfl rfl dX8_save_20 ?_
        refine lv_iload_n hx hb dX8_save_23 rfl (lv_at hl 1 rfl) ?_
        refine lv_aload_n hx hb dX8_save_24 rfl (lv_at hl 0 rfl) ?_
        refine q_get hF hK hW fl_X8_7 0 rfl rfl dX8_save_25 ?_
        refine lv_iload_n hx hb dX8_save_28 rfl (lv_at hl 1 rfl) ?_
        refine q_iald hx hb hK hW 1 0 rfl rfl dX8_save_29 hf (fun hf => ?_)
        refine q_iast hx hb hK hW 2 0 rfl rfl dX8_save_30 hf (fun a_1 hf H locs hW => ?_)
        have hW : WD D A s (w_X8_save E h_ h_g h_kept h_past h_path h_pose h_way h_px h_py h_free h_tips h_far h_queue h_times h_turns h_names h_named h_text h_told h_spare 1 s_pasts s_pathMoves s_spot 0 s_faulty s_queued s_length s_at s_error s_tolds s_number s_g a_1) H locs := hW
        obtain ⟨v_2, ev_2⟩ : ∃ y : Int32, y = z1_12 + 1 := ⟨_, rfl⟩
        replace hf := ob_let hf ev_2
        refine lv_iinc (v := v_2) (lv' := [(1, .int v_2), (0, .ref h_)]) hx hb dX8_save_31 hl (k := 1) rfl (by rw [ev_2]; rfl) (by decide) rfl (fun ls hl => ?_)
        refine lv_goto (tgt := 12) hx hb dX8_save_34 (by decide) ?_
        cases hf
        exact ih a_1 v_2 ex _ _ _ (h9 _ rfl) (lv_sub hl [1, 0] rfl) hW kx0
  obtain ⟨e_3, hc_3, hf⟩ := ob_bind hf
  refine hB12 lfuel s_kept 0 e_3 _ _ _ hc_3 (lv_sub hl [1, 0] rfl) hW ?_
  intro H locs ls hl hW
  refine lv_aload_n hx hb dX8_save_37 rfl (lv_at hl 0 rfl) ?_
  refine q_get hF hK hW fl_X8_7 0 rfl rfl dX8_save_38 ?_
  refine lv_iconst (v := 0) hx hb dX8_save_41 (by decide) ?_
  refine q_iald hx hb hK hW 1 0 rfl rfl dX8_save_42 hf (fun hf => ?_)
  cases hf
  exact hret dX8_save_43 rfl rfl hW
def w_X8_restore (E : Nat → ClassId) (h_ h_g h_kept h_past h_path h_pose h_way h_px h_py h_free h_tips h_far h_queue h_times h_turns h_names h_named h_text h_told h_spare : Nat) (s_hasKept : Int32) (s_pasts : Int32) (s_pathMoves : Int32) (s_spot : Int32) (s_thrown : Int32) (s_faulty : Int32) (s_queued : Int32) (s_length : Int32) (s_at : Int32) (s_error : Int32) (s_tolds : Int32) (s_number : Int32) (s_g : Nat → Int32) (s_kept : Nat → Int32) : va_W := [(h_, .inr (10, [.ref h_g, .ref h_kept, .int s_hasKept, .ref h_past, .int s_pasts, .ref h_path, .int s_pathMoves, .int s_spot, .int s_thrown, .ref h_pose, .ref h_way, .ref h_px, .ref h_py, .int s_faulty, .ref h_free, .ref h_tips, .ref h_far, .ref h_queue, .int s_queued, .ref h_times, .ref h_turns, .ref h_names, .ref h_named, .ref h_text, .int s_length, .int s_at, .int s_error, .ref h_told, .int s_tolds, .int s_number, .ref h_spare])), (h_g, .inl (E 0, 141, .inl s_g)), (h_kept, .inl (E 0, 141, .inl s_kept))]
set_option maxHeartbeats 4000000 in
set_option maxRecDepth 100000 in
theorem c_X8_restore (l : Launch) (D : va_G) (E : Nat → ClassId) (tx : List (Nat × String)) (h_ h_g h_kept h_past h_path h_pose h_way h_px h_py h_free h_tips h_far h_queue h_times h_turns h_names h_named h_text h_told h_spare : Nat) (s_hasKept : Int32) (s_pasts : Int32) (s_pathMoves : Int32) (s_spot : Int32) (s_thrown : Int32) (s_faulty : Int32) (s_queued : Int32) (s_length : Int32) (s_at : Int32) (s_error : Int32) (s_tolds : Int32) (s_number : Int32) (s_g : Nat → Int32) (s_kept : Nat → Int32)  (r0 : Int32) (r1 : Int32) (r2 : Int32) (r3 : Int32) (r4 : Nat → Int32) (hf : f_X8_restore s_hasKept s_pasts s_pathMoves s_thrown s_g s_kept = some (r0, r1, r2, r3, r4)) : CI l yX8_restore cX8_restore 2 (some .int) 1 21 D E tx [.ref h_] (w_X8_restore E h_ h_g h_kept h_past h_path h_pose h_way h_px h_py h_free h_tips h_far h_queue h_times h_turns h_names h_named h_text h_told h_spare s_hasKept s_pasts s_pathMoves s_spot s_thrown s_faulty s_queued s_length s_at s_error s_tolds s_number s_g s_kept) (w_X8_restore E h_ h_g h_kept h_past h_path h_pose h_way h_px h_py h_free h_tips h_far h_queue h_times h_turns h_names h_named h_text h_told h_spare s_hasKept r1 r2 s_spot r3 s_faulty s_queued s_length s_at s_error s_tolds s_number r4 s_kept) r0 := by
  refine CI_of RX8 pn_X8 rfl (Nat.le_of_ble_eq_true rfl) (fun p e s m args below meth c A Q hF hK hA hZ hW hret ls hl => ?_)
  have hx := hF.1
  have hb := hF.2.1
  have hl : lv_has ls 2 [(0, .ref h_)] := hl
  unfold f_X8_restore at hf
  refine lv_aload_n hx hb dX8_restore_0 rfl (lv_at hl 0 rfl) ?_
  refine lv_iconst (v := 0) hx hb dX8_restore_1 (by decide) ?_
  refine q_put hF hK hW fl_X8_76 ft_X8 rfl 0 rfl rfl rfl (Nat.le_of_ble_eq_true rfl) dX8_restore_2 (fun H locs hW => ?_)
  have hW : WD D A s (w_X8_restore E h_ h_g h_kept h_past h_path h_pose h_way h_px h_py h_free h_tips h_far h_queue h_times h_turns h_names h_named h_text h_told h_spare s_hasKept s_pasts s_pathMoves s_spot 0 s_faulty s_queued s_length s_at s_error s_tolds s_number s_g s_kept) H locs := hW
  refine lv_aload_n hx hb dX8_restore_5 rfl (lv_at hl 0 rfl) ?_
  refine q_get hF hK hW fl_X8_90 0 rfl rfl dX8_restore_6 ?_
  refine q_if_ne (tgt := 18) hx hb dX8_restore_9 (by decide) hf (fun hf => ?_) (fun hf => ?_)
  · refine lv_iconst (v := 0) hx hb dX8_restore_18 (by decide) ?_
    refine lv_istore_n (lv' := [(1, .int 0), (0, .ref h_)]) hx hb dX8_restore_19 rfl hl (by decide) rfl (fun ls hl => ?_)
    have hB20 : ∀ (n : Nat) (s_g_20 : Nat → Int32) (z1_20 : Int32) (ex : (Nat → Int32)) (H : Heap) (locs : List Loc) (ls : Array Slot), LPF (fun z => f_X8_restore_B20 s_hasKept s_pasts s_pathMoves 0 z.1 s_kept z.2) n (s_g_20, z1_20) = some ex → lv_has ls 2 [(0, .ref h_), (1, .int z1_20)] → WD D A s (w_X8_restore E h_ h_g h_kept h_past h_path h_pose h_way h_px h_py h_free h_tips h_far h_queue h_times h_turns h_names h_named h_text h_told h_spare s_hasKept s_pasts s_pathMoves s_spot 0 s_faulty s_queued s_length s_at s_error s_tolds s_number s_g_20 s_kept) H locs → (∀ (H : Heap) (locs : List Loc) (ls : Array Slot), lv_has ls 2 [(0, .ref h_)] → WD D A s (w_X8_restore E h_ h_g h_kept h_past h_path h_pose h_way h_px h_py h_free h_tips h_far h_queue h_times h_turns h_names h_named h_text h_told h_spare s_hasKept s_pasts s_pathMoves s_spot 0 s_faulty s_queued s_length s_at s_error s_tolds s_number ex s_kept) H locs → W p l e (RM 1 21) s m args below meth c H locs 0 0 Q (F0 m 45 ls [])) → W p l e (RM 1 21) s m args below meth c H locs 0 0 Q (F0 m 20 ls []) := by
      intro n
      induction n with
      | zero => intro s_g_20 z1_20 ex H locs ls h9; exact (ob_lp0 h9).elim
      | succ n ih =>
        intro s_g_20 z1_20 ex H locs ls h9 hl hW kx0
        obtain ⟨q9, hf, h9, k9⟩ := ob_lp h9
        have hf : f_X8_restore_B20 s_hasKept s_pasts s_pathMoves 0 s_g_20 s_kept z1_20 = some q9 := hf
        unfold f_X8_restore_B20 at hf
        refine lv_iload_n hx hb dX8_restore_20 rfl (lv_at hl 1 rfl) ?_
        refine lv_sipush (v := 141) hx hb dX8_restore_21 (by decide) ?_
        refine q_icmp_ge (tgt := 45) hx hb dX8_restore_24 (by decide) hf (fun hf => ?_) (fun hf => ?_)
        · cases hf
          have hx9 := k9 _ rfl
          subst hx9
          exact kx0 _ _ _ (lv_sub hl [0] rfl) hW
        · refine lv_aload_n hx hb dX8_restore_27 rfl (lv_at hl 0 rfl) ?_
          refine q_get hF hK hW fl_X8_7 0 rfl rfl dX8_restore_28 ?_
          refine lv_iload_n hx hb dX8_restore_31 rfl (lv_at hl 1 rfl) ?_
          refine lv_aload_n hx hb dX8_restore_32 rfl (lv_at hl 0 rfl) ?_
          refine q_get hF hK hW fl_X8_13 0 rfl rfl dX8_restore_33 ?_
          refine lv_iload_n hx hb dX8_restore_36 rfl (lv_at hl 1 rfl) ?_
          refine q_iald hx hb hK hW 2 0 rfl rfl dX8_restore_37 hf (fun hf => ?_)
          refine q_iast hx hb hK hW 1 0 rfl rfl dX8_restore_38 hf (fun a_1 hf H locs hW => ?_)
          have hW : WD D A s (w_X8_restore E h_ h_g h_kept h_past h_path h_pose h_way h_px h_py h_free h_tips h_far h_queue h_times h_turns h_names h_named h_text h_told h_spare s_hasKept s_pasts s_pathMoves s_spot 0 s_faulty s_queued s_length s_at s_error s_tolds s_number a_1 s_kept) H locs := hW
          obtain ⟨v_2, ev_2⟩ : ∃ y : Int32, y = z1_20 + 1 := ⟨_, rfl⟩
          replace hf := ob_let hf ev_2
          refine lv_iinc (v := v_2) (lv' := [(1, .int v_2), (0, .ref h_)]) hx hb dX8_restore_39 hl (k := 1) rfl (by rw [ev_2]; rfl) (by decide) rfl (fun ls hl => ?_)
          refine lv_goto (tgt := 20) hx hb dX8_restore_42 (by decide) ?_
          cases hf
          exact ih a_1 v_2 ex _ _ _ (h9 _ rfl) (lv_sub hl [1, 0] rfl) hW kx0
    obtain ⟨e_3, hc_3, hf⟩ := ob_bind hf
    refine hB20 lfuel s_g 0 e_3 _ _ _ hc_3 (lv_sub hl [1, 0] rfl) hW ?_
    intro H locs ls hl hW
    refine lv_aload_n hx hb dX8_restore_45 rfl (lv_at hl 0 rfl) ?_
    refine lv_iconst (v := 0) hx hb dX8_restore_46 (by decide) ?_
    refine q_put hF hK hW fl_X8_83 ft_X8 rfl 0 rfl rfl rfl (Nat.le_of_ble_eq_true rfl) dX8_restore_47 (fun H locs hW => ?_)
    have hW : WD D A s (w_X8_restore E h_ h_g h_kept h_past h_path h_pose h_way h_px h_py h_free h_tips h_far h_queue h_times h_turns h_names h_named h_text h_told h_spare s_hasKept 0 s_pathMoves s_spot 0 s_faulty s_queued s_length s_at s_error s_tolds s_number e_3 s_kept) H locs := hW
    refine lv_aload_n hx hb dX8_restore_50 rfl (lv_at hl 0 rfl) ?_
    refine lv_iconst (v := (-1)) hx hb dX8_restore_51 (by decide) ?_
    refine q_put hF hK hW fl_X8_22 ft_X8 rfl 0 rfl rfl rfl (Nat.le_of_ble_eq_true rfl) dX8_restore_52 (fun H locs hW => ?_)
    have hW : WD D A s (w_X8_restore E h_ h_g h_kept h_past h_path h_pose h_way h_px h_py h_free h_tips h_far h_queue h_times h_turns h_names h_named h_text h_told h_spare s_hasKept 0 ((-1)) s_spot 0 s_faulty s_queued s_length s_at s_error s_tolds s_number e_3 s_kept) H locs := hW
    refine lv_aload_n hx hb dX8_restore_55 rfl (lv_at hl 0 rfl) ?_
    refine q_get hF hK hW fl_X8_7 0 rfl rfl dX8_restore_56 ?_
    refine lv_iconst (v := 0) hx hb dX8_restore_59 (by decide) ?_
    refine q_iald hx hb hK hW 1 0 rfl rfl dX8_restore_60 hf (fun hf => ?_)
    cases hf
    exact hret dX8_restore_61 rfl rfl hW
  · refine lv_aload_n hx hb dX8_restore_12 rfl (lv_at hl 0 rfl) ?_
    refine lv_iconst (v := 1) hx hb dX8_restore_13 (by decide) ?_
    obtain ⟨o_4, hc_4, hf⟩ := ob_bind hf
    refine q_callI hF hl.1 hK hA hZ hW mv_X8_fails ml_X8_86 (c_X8_fails l D E tx h_ h_g h_kept h_past h_path h_pose h_way h_px h_py h_free h_tips h_far h_queue h_times h_turns h_names h_named h_text h_told h_spare s_hasKept s_pasts s_pathMoves s_spot 0 s_faulty s_queued s_length s_at s_error s_tolds s_number 1 o_4.1 o_4.2 hc_4) [0] rfl rfl rfl rfl rfl rfl ⟨Nat.le_of_ble_eq_true rfl, Nat.le_of_ble_eq_true rfl⟩ ⟨Nat.le_of_ble_eq_true rfl, Nat.le_of_ble_eq_true rfl⟩ rfl rfl (Nat.le_of_ble_eq_true rfl) dX8_restore_14 (fun H locs hW => ?_)
    have hW : WD D A s (w_X8_restore E h_ h_g h_kept h_past h_path h_pose h_way h_px h_py h_free h_tips h_far h_queue h_times h_turns h_names h_named h_text h_told h_spare s_hasKept s_pasts s_pathMoves s_spot o_4.2 s_faulty s_queued s_length s_at s_error s_tolds s_number s_g s_kept) H locs := hW
    cases hf
    exact hret dX8_restore_17 rfl rfl hW
def w_X8_clear (E : Nat → ClassId) (h_ h_g h_kept h_past h_path h_pose h_way h_px h_py h_free h_tips h_far h_queue h_times h_turns h_names h_named h_text h_told h_spare : Nat) (s_hasKept : Int32) (s_pasts : Int32) (s_pathMoves : Int32) (s_spot : Int32) (s_thrown : Int32) (s_faulty : Int32) (s_queued : Int32) (s_length : Int32) (s_at : Int32) (s_error : Int32) (s_tolds : Int32) (s_number : Int32) (s_g : Nat → Int32) : va_W := [(h_, .inr (10, [.ref h_g, .ref h_kept, .int s_hasKept, .ref h_past, .int s_pasts, .ref h_path, .int s_pathMoves, .int s_spot, .int s_thrown, .ref h_pose, .ref h_way, .ref h_px, .ref h_py, .int s_faulty, .ref h_free, .ref h_tips, .ref h_far, .ref h_queue, .int s_queued, .ref h_times, .ref h_turns, .ref h_names, .ref h_named, .ref h_text, .int s_length, .int s_at, .int s_error, .ref h_told, .int s_tolds, .int s_number, .ref h_spare])), (h_g, .inl (E 0, 141, .inl s_g))]
set_option maxHeartbeats 4000000 in
set_option maxRecDepth 100000 in
theorem c_X8_clear (l : Launch) (D : va_G) (E : Nat → ClassId) (tx : List (Nat × String)) (h_ h_g h_kept h_past h_path h_pose h_way h_px h_py h_free h_tips h_far h_queue h_times h_turns h_names h_named h_text h_told h_spare : Nat) (s_hasKept : Int32) (s_pasts : Int32) (s_pathMoves : Int32) (s_spot : Int32) (s_thrown : Int32) (s_faulty : Int32) (s_queued : Int32) (s_length : Int32) (s_at : Int32) (s_error : Int32) (s_tolds : Int32) (s_number : Int32) (s_g : Nat → Int32)  (r0 : Int32) (r1 : Int32) (r2 : Int32) (r3 : Int32) (r4 : Nat → Int32) (hf : f_X8_clear s_pasts s_pathMoves s_thrown s_g = some (r0, r1, r2, r3, r4)) : CI l yX8_clear cX8_clear 2 (some .int) 0 0 D E tx [.ref h_] (w_X8_clear E h_ h_g h_kept h_past h_path h_pose h_way h_px h_py h_free h_tips h_far h_queue h_times h_turns h_names h_named h_text h_told h_spare s_hasKept s_pasts s_pathMoves s_spot s_thrown s_faulty s_queued s_length s_at s_error s_tolds s_number s_g) (w_X8_clear E h_ h_g h_kept h_past h_path h_pose h_way h_px h_py h_free h_tips h_far h_queue h_times h_turns h_names h_named h_text h_told h_spare s_hasKept r1 r2 s_spot r3 s_faulty s_queued s_length s_at s_error s_tolds s_number r4) r0 := by
  refine CI_of RX8 pn_X8 rfl (Nat.le_of_ble_eq_true rfl) (fun p e s m args below meth c A Q hF hK hA hZ hW hret ls hl => ?_)
  have hx := hF.1
  have hb := hF.2.1
  have hl : lv_has ls 2 [(0, .ref h_)] := hl
  unfold f_X8_clear at hf
  refine lv_aload_n hx hb dX8_clear_0 rfl (lv_at hl 0 rfl) ?_
  refine lv_iconst (v := 0) hx hb dX8_clear_1 (by decide) ?_
  refine q_put hF hK hW fl_X8_76 ft_X8 rfl 0 rfl rfl rfl (Nat.le_of_ble_eq_true rfl) dX8_clear_2 (fun H locs hW => ?_)
  have hW : WD D A s (w_X8_clear E h_ h_g h_kept h_past h_path h_pose h_way h_px h_py h_free h_tips h_far h_queue h_times h_turns h_names h_named h_text h_told h_spare s_hasKept s_pasts s_pathMoves s_spot 0 s_faulty s_queued s_length s_at s_error s_tolds s_number s_g) H locs := hW
  refine lv_aload_n hx hb dX8_clear_5 rfl (lv_at hl 0 rfl) ?_
  refine q_get hF hK hW fl_X8_7 0 rfl rfl dX8_clear_6 ?_
  refine lv_iconst (v := 0) hx hb dX8_clear_9 (by decide) ?_
  refine q_iald hx hb hK hW 1 0 rfl rfl dX8_clear_10 hf (fun hf => ?_)
  refine lv_topi (fun v_1 ev_1 => ?_)
  replace hf := ob_let hf ev_1
  refine lv_istore_n (lv' := [(1, .int v_1), (0, .ref h_)]) hx hb dX8_clear_11 rfl hl (by decide) rfl (fun ls hl => ?_)
  refine lv_aload_n hx hb dX8_clear_12 rfl (lv_at hl 1 rfl) ?_
  refine q_get hF hK hW fl_X8_7 0 rfl rfl dX8_clear_13 ?_
  refine lv_iconst (v := 0) hx hb dX8_clear_16 (by decide) ?_
  refine lv_iconst (v := 0) hx hb dX8_clear_17 (by decide) ?_
  refine q_iast hx hb hK hW 1 0 rfl rfl dX8_clear_18 hf (fun a_2 hf H locs hW => ?_)
  have hW : WD D A s (w_X8_clear E h_ h_g h_kept h_past h_path h_pose h_way h_px h_py h_free h_tips h_far h_queue h_times h_turns h_names h_named h_text h_told h_spare s_hasKept s_pasts s_pathMoves s_spot 0 s_faulty s_queued s_length s_at s_error s_tolds s_number a_2) H locs := hW
  refine lv_aload_n hx hb dX8_clear_19 rfl (lv_at hl 1 rfl) ?_
  refine q_get hF hK hW fl_X8_7 0 rfl rfl dX8_clear_20 ?_
  refine lv_bipush (v := 20) hx hb dX8_clear_23 (by decide) ?_
  refine lv_iconst (v := 0) hx hb dX8_clear_25 (by decide) ?_
  refine q_iast hx hb hK hW 1 0 rfl rfl dX8_clear_26 hf (fun a_3 hf H locs hW => ?_)
  have hW : WD D A s (w_X8_clear E h_ h_g h_kept h_past h_path h_pose h_way h_px h_py h_free h_tips h_far h_queue h_times h_turns h_names h_named h_text h_told h_spare s_hasKept s_pasts s_pathMoves s_spot 0 s_faulty s_queued s_length s_at s_error s_tolds s_number a_3) H locs := hW
  refine lv_aload_n hx hb dX8_clear_27 rfl (lv_at hl 1 rfl) ?_
  refine lv_iconst (v := 0) hx hb dX8_clear_28 (by decide) ?_
  refine q_put hF hK hW fl_X8_83 ft_X8 rfl 0 rfl rfl rfl (Nat.le_of_ble_eq_true rfl) dX8_clear_29 (fun H locs hW => ?_)
  have hW : WD D A s (w_X8_clear E h_ h_g h_kept h_past h_path h_pose h_way h_px h_py h_free h_tips h_far h_queue h_times h_turns h_names h_named h_text h_told h_spare s_hasKept 0 s_pathMoves s_spot 0 s_faulty s_queued s_length s_at s_error s_tolds s_number a_3) H locs := hW
  refine lv_aload_n hx hb dX8_clear_32 rfl (lv_at hl 1 rfl) ?_
  refine lv_iconst (v := (-1)) hx hb dX8_clear_33 (by decide) ?_
  refine q_put hF hK hW fl_X8_22 ft_X8 rfl 0 rfl rfl rfl (Nat.le_of_ble_eq_true rfl) dX8_clear_34 (fun H locs hW => ?_)
  have hW : WD D A s (w_X8_clear E h_ h_g h_kept h_past h_path h_pose h_way h_px h_py h_free h_tips h_far h_queue h_times h_turns h_names h_named h_text h_told h_spare s_hasKept 0 ((-1)) s_spot 0 s_faulty s_queued s_length s_at s_error s_tolds s_number a_3) H locs := hW
  refine lv_iload_n hx hb dX8_clear_37 rfl (lv_at hl 0 rfl) ?_
  cases hf
  exact hret dX8_clear_38 rfl rfl hW
def w_X8_linkStops (E : Nat → ClassId) (h_ h_g h_kept h_past h_path h_pose h_way h_px h_py h_free h_tips h_far h_queue h_times h_turns h_names h_named h_text h_told h_spare : Nat) (s_hasKept : Int32) (s_pasts : Int32) (s_pathMoves : Int32) (s_spot : Int32) (s_thrown : Int32) (s_faulty : Int32) (s_queued : Int32) (s_length : Int32) (s_at : Int32) (s_error : Int32) (s_tolds : Int32) (s_number : Int32) (s_g : Nat → Int32) : va_W := [(h_, .inr (10, [.ref h_g, .ref h_kept, .int s_hasKept, .ref h_past, .int s_pasts, .ref h_path, .int s_pathMoves, .int s_spot, .int s_thrown, .ref h_pose, .ref h_way, .ref h_px, .ref h_py, .int s_faulty, .ref h_free, .ref h_tips, .ref h_far, .ref h_queue, .int s_queued, .ref h_times, .ref h_turns, .ref h_names, .ref h_named, .ref h_text, .int s_length, .int s_at, .int s_error, .ref h_told, .int s_tolds, .int s_number, .ref h_spare])), (h_g, .inl (E 0, 141, .inl s_g))]
set_option maxHeartbeats 4000000 in
set_option maxRecDepth 100000 in
theorem c_X8_linkStops (l : Launch) (D : va_G) (E : Nat → ClassId) (tx : List (Nat × String)) (h_ h_g h_kept h_past h_path h_pose h_way h_px h_py h_free h_tips h_far h_queue h_times h_turns h_names h_named h_text h_told h_spare : Nat) (s_hasKept : Int32) (s_pasts : Int32) (s_pathMoves : Int32) (s_spot : Int32) (s_thrown : Int32) (s_faulty : Int32) (s_queued : Int32) (s_length : Int32) (s_at : Int32) (s_error : Int32) (s_tolds : Int32) (s_number : Int32) (s_g : Nat → Int32) (x1 : Int32) (x2 : Int32) (x3 : Int32) (r0 : Int32) (hf : f_X8_linkStops s_g x1 x2 x3 = some r0) : CI l yX8_linkStops cX8_linkStops 4 (some .int) 1 22 D E tx [.ref h_, .int x1, .int x2, .int x3] (w_X8_linkStops E h_ h_g h_kept h_past h_path h_pose h_way h_px h_py h_free h_tips h_far h_queue h_times h_turns h_names h_named h_text h_told h_spare s_hasKept s_pasts s_pathMoves s_spot s_thrown s_faulty s_queued s_length s_at s_error s_tolds s_number s_g) (w_X8_linkStops E h_ h_g h_kept h_past h_path h_pose h_way h_px h_py h_free h_tips h_far h_queue h_times h_turns h_names h_named h_text h_told h_spare s_hasKept s_pasts s_pathMoves s_spot s_thrown s_faulty s_queued s_length s_at s_error s_tolds s_number s_g) r0 := by
  refine CI_of RX8 pn_X8 rfl (Nat.le_of_ble_eq_true rfl) (fun p e s m args below meth c A Q hF hK hA hZ hW hret ls hl => ?_)
  have hx := hF.1
  have hb := hF.2.1
  have hl : lv_has ls 4 [(0, .ref h_), (1, .int x1), (2, .int x2), (3, .int x3)] := hl
  unfold f_X8_linkStops at hf
  refine lv_iload_n hx hb dX8_linkStops_0 rfl (lv_at hl 1 rfl) ?_
  refine lv_iconst (v := 1) hx hb dX8_linkStops_1 (by decide) ?_
  refine lv_iconst (v := 5) hx hb dX8_linkStops_2 (by decide) ?_
  obtain ⟨o_1, hc_1, hf⟩ := ob_bind hf
  refine q_callSI hF hl.1 hK hA hZ hW ms_X8_in ml_X8_79 (c_X8_in l D E tx x1 1 5 o_1 hc_1) [] rfl rfl rfl ⟨Nat.le_of_ble_eq_true rfl, Nat.le_of_ble_eq_true rfl⟩ ⟨Nat.le_of_ble_eq_true rfl, Nat.le_of_ble_eq_true rfl⟩ rfl rfl (Nat.le_of_ble_eq_true rfl) dX8_linkStops_3 (fun H locs hW => ?_)
  have hW : WD D A s (w_X8_linkStops E h_ h_g h_kept h_past h_path h_pose h_way h_px h_py h_free h_tips h_far h_queue h_times h_turns h_names h_named h_text h_told h_spare s_hasKept s_pasts s_pathMoves s_spot s_thrown s_faulty s_queued s_length s_at s_error s_tolds s_number s_g) H locs := hW
  refine q_if_eq (tgt := 47) hx hb dX8_linkStops_6 (by decide) hf (fun hf => ?_) (fun hf => ?_)
  · refine lv_iconst (v := 1) hx hb dX8_linkStops_47 (by decide) ?_
    cases hf
    exact hret dX8_linkStops_48 rfl rfl hW
  · refine lv_iload_n hx hb dX8_linkStops_9 rfl (lv_at hl 2 rfl) ?_
    refine lv_iconst (v := 0) hx hb dX8_linkStops_10 (by decide) ?_
    refine lv_bipush (v := 8) hx hb dX8_linkStops_11 (by decide) ?_
    obtain ⟨o_2, hc_2, hf⟩ := ob_bind hf
    refine q_callSI hF hl.1 hK hA hZ hW ms_X8_in ml_X8_79 (c_X8_in l D E tx x2 0 8 o_2 hc_2) [] rfl rfl rfl ⟨Nat.le_of_ble_eq_true rfl, Nat.le_of_ble_eq_true rfl⟩ ⟨Nat.le_of_ble_eq_true rfl, Nat.le_of_ble_eq_true rfl⟩ rfl rfl (Nat.le_of_ble_eq_true rfl) dX8_linkStops_13 (fun H locs hW => ?_)
    have hW : WD D A s (w_X8_linkStops E h_ h_g h_kept h_past h_path h_pose h_way h_px h_py h_free h_tips h_far h_queue h_times h_turns h_names h_named h_text h_told h_spare s_hasKept s_pasts s_pathMoves s_spot s_thrown s_faulty s_queued s_length s_at s_error s_tolds s_number s_g) H locs := hW
    refine q_if_eq (tgt := 47) hx hb dX8_linkStops_16 (by decide) hf (fun hf => ?_) (fun hf => ?_)
    · refine lv_iconst (v := 1) hx hb dX8_linkStops_47 (by decide) ?_
      cases hf
      exact hret dX8_linkStops_48 rfl rfl hW
    · refine lv_iload_n hx hb dX8_linkStops_19 rfl (lv_at hl 3 rfl) ?_
      refine lv_iconst (v := 0) hx hb dX8_linkStops_20 (by decide) ?_
      refine lv_bipush (v := 8) hx hb dX8_linkStops_21 (by decide) ?_
      obtain ⟨o_3, hc_3, hf⟩ := ob_bind hf
      refine q_callSI hF hl.1 hK hA hZ hW ms_X8_in ml_X8_79 (c_X8_in l D E tx x3 0 8 o_3 hc_3) [] rfl rfl rfl ⟨Nat.le_of_ble_eq_true rfl, Nat.le_of_ble_eq_true rfl⟩ ⟨Nat.le_of_ble_eq_true rfl, Nat.le_of_ble_eq_true rfl⟩ rfl rfl (Nat.le_of_ble_eq_true rfl) dX8_linkStops_23 (fun H locs hW => ?_)
      have hW : WD D A s (w_X8_linkStops E h_ h_g h_kept h_past h_path h_pose h_way h_px h_py h_free h_tips h_far h_queue h_times h_turns h_names h_named h_text h_told h_spare s_hasKept s_pasts s_pathMoves s_spot s_thrown s_faulty s_queued s_length s_at s_error s_tolds s_number s_g) H locs := hW
      refine q_if_eq (tgt := 47) hx hb dX8_linkStops_26 (by decide) hf (fun hf => ?_) (fun hf => ?_)
      · refine lv_iconst (v := 1) hx hb dX8_linkStops_47 (by decide) ?_
        cases hf
        exact hret dX8_linkStops_48 rfl rfl hW
      · refine lv_aload_n hx hb dX8_linkStops_29 rfl (lv_at hl 0 rfl) ?_
        refine q_get hF hK hW fl_X8_7 0 rfl rfl dX8_linkStops_30 ?_
        refine lv_iconst (v := 0) hx hb dX8_linkStops_33 (by decide) ?_
        refine q_iald hx hb hK hW 1 0 rfl rfl dX8_linkStops_34 hf (fun hf => ?_)
        refine lv_iconst (v := 4) hx hb dX8_linkStops_35 (by decide) ?_
        refine q_icmp_ne (tgt := 43) hx hb dX8_linkStops_36 (by decide) hf (fun hf => ?_) (fun hf => ?_)
        · refine lv_iconst (v := 0) hx hb dX8_linkStops_43 (by decide) ?_
          refine lv_goto (tgt := 48) hx hb dX8_linkStops_44 (by decide) ?_
          cases hf
          exact hret dX8_linkStops_48 rfl rfl hW
        · refine lv_iconst (v := 2) hx hb dX8_linkStops_39 (by decide) ?_
          refine lv_goto (tgt := 48) hx hb dX8_linkStops_40 (by decide) ?_
          cases hf
          exact hret dX8_linkStops_48 rfl rfl hW
def w_X8_linkComes (E : Nat → ClassId) (h_ h_g h_kept h_past h_path h_pose h_way h_px h_py h_free h_tips h_far h_queue h_times h_turns h_names h_named h_text h_told h_spare : Nat) (s_hasKept : Int32) (s_pasts : Int32) (s_pathMoves : Int32) (s_spot : Int32) (s_thrown : Int32) (s_faulty : Int32) (s_queued : Int32) (s_length : Int32) (s_at : Int32) (s_error : Int32) (s_tolds : Int32) (s_number : Int32) (s_g : Nat → Int32) : va_W := [(h_, .inr (10, [.ref h_g, .ref h_kept, .int s_hasKept, .ref h_past, .int s_pasts, .ref h_path, .int s_pathMoves, .int s_spot, .int s_thrown, .ref h_pose, .ref h_way, .ref h_px, .ref h_py, .int s_faulty, .ref h_free, .ref h_tips, .ref h_far, .ref h_queue, .int s_queued, .ref h_times, .ref h_turns, .ref h_names, .ref h_named, .ref h_text, .int s_length, .int s_at, .int s_error, .ref h_told, .int s_tolds, .int s_number, .ref h_spare])), (h_g, .inl (E 0, 141, .inl s_g))]
set_option maxHeartbeats 4000000 in
set_option maxRecDepth 100000 in
theorem c_X8_linkComes (l : Launch) (D : va_G) (E : Nat → ClassId) (tx : List (Nat × String)) (h_ h_g h_kept h_past h_path h_pose h_way h_px h_py h_free h_tips h_far h_queue h_times h_turns h_names h_named h_text h_told h_spare : Nat) (s_hasKept : Int32) (s_pasts : Int32) (s_pathMoves : Int32) (s_spot : Int32) (s_thrown : Int32) (s_faulty : Int32) (s_queued : Int32) (s_length : Int32) (s_at : Int32) (s_error : Int32) (s_tolds : Int32) (s_number : Int32) (s_g : Nat → Int32) (x1 : Int32) (x2 : Int32) (x3 : Int32) (r0 : Nat → Int32) (hf : f_X8_linkComes s_g x1 x2 x3 = some r0) : CV l yX8_linkComes cX8_linkComes 5 0 0 D E tx [.ref h_, .int x1, .int x2, .int x3] (w_X8_linkComes E h_ h_g h_kept h_past h_path h_pose h_way h_px h_py h_free h_tips h_far h_queue h_times h_turns h_names h_named h_text h_told h_spare s_hasKept s_pasts s_pathMoves s_spot s_thrown s_faulty s_queued s_length s_at s_error s_tolds s_number s_g) (w_X8_linkComes E h_ h_g h_kept h_past h_path h_pose h_way h_px h_py h_free h_tips h_far h_queue h_times h_turns h_names h_named h_text h_told h_spare s_hasKept s_pasts s_pathMoves s_spot s_thrown s_faulty s_queued s_length s_at s_error s_tolds s_number r0) := by
  refine CV_of RX8 pn_X8 rfl (Nat.le_of_ble_eq_true rfl) (fun p e s m args below meth c A Q hF hK hA hZ hW hret ls hl => ?_)
  have hx := hF.1
  have hb := hF.2.1
  have hl : lv_has ls 5 [(0, .ref h_), (1, .int x1), (2, .int x2), (3, .int x3)] := hl
  unfold f_X8_linkComes at hf
  refine lv_iconst (v := 1) hx hb dX8_linkComes_0 (by decide) ?_
  refine lv_iconst (v := 4) hx hb dX8_linkComes_1 (by decide) ?_
  refine lv_aload_n hx hb dX8_linkComes_2 rfl (lv_at hl 0 rfl) ?_
  refine q_get hF hK hW fl_X8_7 0 rfl rfl dX8_linkComes_3 ?_
  refine lv_iconst (v := 0) hx hb dX8_linkComes_6 (by decide) ?_
  refine q_iald hx hb hK hW 1 0 rfl rfl dX8_linkComes_7 hf (fun hf => ?_)
  refine lv_imul hx hb dX8_linkComes_8 ?_
  refine lv_iadd hx hb dX8_linkComes_9 ?_
  refine lv_topi (fun v_1 ev_1 => ?_)
  replace hf := ob_let hf ev_1
  refine lv_istore (lv' := [(4, .int v_1), (0, .ref h_), (1, .int x1), (2, .int x2), (3, .int x3)]) hx hb dX8_linkComes_10 hl (by decide) rfl (fun ls hl => ?_)
  refine lv_aload_n hx hb dX8_linkComes_12 rfl (lv_at hl 1 rfl) ?_
  refine q_get hF hK hW fl_X8_7 0 rfl rfl dX8_linkComes_13 ?_
  refine lv_iload hx hb dX8_linkComes_16 (lv_at hl 0 rfl) ?_
  refine lv_iload_n hx hb dX8_linkComes_18 rfl (lv_at hl 2 rfl) ?_
  refine q_iast hx hb hK hW 1 0 rfl rfl dX8_linkComes_19 hf (fun a_2 hf H locs hW => ?_)
  have hW : WD D A s (w_X8_linkComes E h_ h_g h_kept h_past h_path h_pose h_way h_px h_py h_free h_tips h_far h_queue h_times h_turns h_names h_named h_text h_told h_spare s_hasKept s_pasts s_pathMoves s_spot s_thrown s_faulty s_queued s_length s_at s_error s_tolds s_number a_2) H locs := hW
  refine lv_aload_n hx hb dX8_linkComes_20 rfl (lv_at hl 1 rfl) ?_
  refine q_get hF hK hW fl_X8_7 0 rfl rfl dX8_linkComes_21 ?_
  refine lv_iload hx hb dX8_linkComes_24 (lv_at hl 0 rfl) ?_
  refine lv_iconst (v := 1) hx hb dX8_linkComes_26 (by decide) ?_
  refine lv_iadd hx hb dX8_linkComes_27 ?_
  refine lv_iload_n hx hb dX8_linkComes_28 rfl (lv_at hl 3 rfl) ?_
  refine q_iast hx hb hK hW 1 0 rfl rfl dX8_linkComes_29 hf (fun a_3 hf H locs hW => ?_)
  have hW : WD D A s (w_X8_linkComes E h_ h_g h_kept h_past h_path h_pose h_way h_px h_py h_free h_tips h_far h_queue h_times h_turns h_names h_named h_text h_told h_spare s_hasKept s_pasts s_pathMoves s_spot s_thrown s_faulty s_queued s_length s_at s_error s_tolds s_number a_3) H locs := hW
  refine lv_aload_n hx hb dX8_linkComes_30 rfl (lv_at hl 1 rfl) ?_
  refine q_get hF hK hW fl_X8_7 0 rfl rfl dX8_linkComes_31 ?_
  refine lv_iload hx hb dX8_linkComes_34 (lv_at hl 0 rfl) ?_
  refine lv_iconst (v := 2) hx hb dX8_linkComes_36 (by decide) ?_
  refine lv_iadd hx hb dX8_linkComes_37 ?_
  refine lv_iload_n hx hb dX8_linkComes_38 rfl (lv_at hl 4 rfl) ?_
  refine q_iast hx hb hK hW 1 0 rfl rfl dX8_linkComes_39 hf (fun a_4 hf H locs hW => ?_)
  have hW : WD D A s (w_X8_linkComes E h_ h_g h_kept h_past h_path h_pose h_way h_px h_py h_free h_tips h_far h_queue h_times h_turns h_names h_named h_text h_told h_spare s_hasKept s_pasts s_pathMoves s_spot s_thrown s_faulty s_queued s_length s_at s_error s_tolds s_number a_4) H locs := hW
  refine lv_aload_n hx hb dX8_linkComes_40 rfl (lv_at hl 1 rfl) ?_
  refine q_get hF hK hW fl_X8_7 0 rfl rfl dX8_linkComes_41 ?_
  refine lv_iload hx hb dX8_linkComes_44 (lv_at hl 0 rfl) ?_
  refine lv_iconst (v := 3) hx hb dX8_linkComes_46 (by decide) ?_
  refine lv_iadd hx hb dX8_linkComes_47 ?_
  refine lv_iconst (v := 0) hx hb dX8_linkComes_48 (by decide) ?_
  refine q_iast hx hb hK hW 1 0 rfl rfl dX8_linkComes_49 hf (fun a_5 hf H locs hW => ?_)
  have hW : WD D A s (w_X8_linkComes E h_ h_g h_kept h_past h_path h_pose h_way h_px h_py h_free h_tips h_far h_queue h_times h_turns h_names h_named h_text h_told h_spare s_hasKept s_pasts s_pathMoves s_spot s_thrown s_faulty s_queued s_length s_at s_error s_tolds s_number a_5) H locs := hW
  refine lv_aload_n hx hb dX8_linkComes_50 rfl (lv_at hl 1 rfl) ?_
  refine q_get hF hK hW fl_X8_7 0 rfl rfl dX8_linkComes_51 ?_
  refine lv_iconst (v := 0) hx hb dX8_linkComes_54 (by decide) ?_
  refine lv_dup2_11 hx hb dX8_linkComes_55 rfl rfl ?_
  refine q_iald hx hb hK hW 1 0 rfl rfl dX8_linkComes_56 hf (fun hf => ?_)
  refine lv_iconst (v := 1) hx hb dX8_linkComes_57 (by decide) ?_
  refine lv_iadd hx hb dX8_linkComes_58 ?_
  refine q_iast hx hb hK hW 1 0 rfl rfl dX8_linkComes_59 hf (fun a_6 hf H locs hW => ?_)
  have hW : WD D A s (w_X8_linkComes E h_ h_g h_kept h_past h_path h_pose h_way h_px h_py h_free h_tips h_far h_queue h_times h_turns h_names h_named h_text h_told h_spare s_hasKept s_pasts s_pathMoves s_spot s_thrown s_faulty s_queued s_length s_at s_error s_tolds s_number a_6) H locs := hW
  cases hf
  exact hret dX8_linkComes_60 hW
def w_X8_addLink (E : Nat → ClassId) (h_ h_g h_kept h_past h_path h_pose h_way h_px h_py h_free h_tips h_far h_queue h_times h_turns h_names h_named h_text h_told h_spare : Nat) (s_hasKept : Int32) (s_pasts : Int32) (s_pathMoves : Int32) (s_spot : Int32) (s_thrown : Int32) (s_faulty : Int32) (s_queued : Int32) (s_length : Int32) (s_at : Int32) (s_error : Int32) (s_tolds : Int32) (s_number : Int32) (s_g : Nat → Int32) (s_past : Nat → Int32) : va_W := [(h_, .inr (10, [.ref h_g, .ref h_kept, .int s_hasKept, .ref h_past, .int s_pasts, .ref h_path, .int s_pathMoves, .int s_spot, .int s_thrown, .ref h_pose, .ref h_way, .ref h_px, .ref h_py, .int s_faulty, .ref h_free, .ref h_tips, .ref h_far, .ref h_queue, .int s_queued, .ref h_times, .ref h_turns, .ref h_names, .ref h_named, .ref h_text, .int s_length, .int s_at, .int s_error, .ref h_told, .int s_tolds, .int s_number, .ref h_spare])), (h_g, .inl (E 0, 141, .inl s_g)), (h_past, .inl (E 0, 1128, .inl s_past))]
set_option maxHeartbeats 4000000 in
set_option maxRecDepth 100000 in
theorem c_X8_addLink (l : Launch) (D : va_G) (E : Nat → ClassId) (tx : List (Nat × String)) (h_ h_g h_kept h_past h_path h_pose h_way h_px h_py h_free h_tips h_far h_queue h_times h_turns h_names h_named h_text h_told h_spare : Nat) (s_hasKept : Int32) (s_pasts : Int32) (s_pathMoves : Int32) (s_spot : Int32) (s_thrown : Int32) (s_faulty : Int32) (s_queued : Int32) (s_length : Int32) (s_at : Int32) (s_error : Int32) (s_tolds : Int32) (s_number : Int32) (s_g : Nat → Int32) (s_past : Nat → Int32) (x1 : Int32) (x2 : Int32) (x3 : Int32) (r0 : Int32) (r1 : Int32) (r2 : Int32) (r3 : Int32) (r4 : Nat → Int32) (r5 : Nat → Int32) (hf : f_X8_addLink s_pasts s_pathMoves s_thrown s_g s_past x1 x2 x3 = some (r0, r1, r2, r3, r4, r5)) : CI l yX8_addLink cX8_addLink 4 (some .int) 2 45 D E tx [.ref h_, .int x1, .int x2, .int x3] (w_X8_addLink E h_ h_g h_kept h_past h_path h_pose h_way h_px h_py h_free h_tips h_far h_queue h_times h_turns h_names h_named h_text h_told h_spare s_hasKept s_pasts s_pathMoves s_spot s_thrown s_faulty s_queued s_length s_at s_error s_tolds s_number s_g s_past) (w_X8_addLink E h_ h_g h_kept h_past h_path h_pose h_way h_px h_py h_free h_tips h_far h_queue h_times h_turns h_names h_named h_text h_told h_spare s_hasKept r1 r2 s_spot r3 s_faulty s_queued s_length s_at s_error s_tolds s_number r4 r5) r0 := by
  refine CI_of RX8 pn_X8 rfl (Nat.le_of_ble_eq_true rfl) (fun p e s m args below meth c A Q hF hK hA hZ hW hret ls hl => ?_)
  have hx := hF.1
  have hb := hF.2.1
  have hl : lv_has ls 4 [(0, .ref h_), (1, .int x1), (2, .int x2), (3, .int x3)] := hl
  unfold f_X8_addLink at hf
  refine lv_aload_n hx hb dX8_addLink_0 rfl (lv_at hl 0 rfl) ?_
  refine lv_aload_n hx hb dX8_addLink_1 rfl (lv_at hl 0 rfl) ?_
  refine lv_iload_n hx hb dX8_addLink_2 rfl (lv_at hl 1 rfl) ?_
  refine lv_iload_n hx hb dX8_addLink_3 rfl (lv_at hl 2 rfl) ?_
  refine lv_iload_n hx hb dX8_addLink_4 rfl (lv_at hl 3 rfl) ?_
  obtain ⟨o_1, hc_1, hf⟩ := ob_bind hf
  refine q_callI hF hl.1 hK hA hZ hW mv_X8_linkStops ml_X8_94 (c_X8_linkStops l D E tx h_ h_g h_kept h_past h_path h_pose h_way h_px h_py h_free h_tips h_far h_queue h_times h_turns h_names h_named h_text h_told h_spare s_hasKept s_pasts s_pathMoves s_spot s_thrown s_faulty s_queued s_length s_at s_error s_tolds s_number s_g x1 x2 x3 o_1 hc_1) [0, 1] rfl rfl rfl rfl rfl rfl ⟨Nat.le_of_ble_eq_true rfl, Nat.le_of_ble_eq_true rfl⟩ ⟨Nat.le_of_ble_eq_true rfl, Nat.le_of_ble_eq_true rfl⟩ rfl rfl (Nat.le_of_ble_eq_true rfl) dX8_addLink_5 (fun H locs hW => ?_)
  have hW : WD D A s (w_X8_addLink E h_ h_g h_kept h_past h_path h_pose h_way h_px h_py h_free h_tips h_far h_queue h_times h_turns h_names h_named h_text h_told h_spare s_hasKept s_pasts s_pathMoves s_spot s_thrown s_faulty s_queued s_length s_at s_error s_tolds s_number s_g s_past) H locs := hW
  refine q_put hF hK hW fl_X8_76 ft_X8 rfl 0 rfl rfl rfl (Nat.le_of_ble_eq_true rfl) dX8_addLink_8 (fun H locs hW => ?_)
  have hW : WD D A s (w_X8_addLink E h_ h_g h_kept h_past h_path h_pose h_way h_px h_py h_free h_tips h_far h_queue h_times h_turns h_names h_named h_text h_told h_spare s_hasKept s_pasts s_pathMoves s_spot o_1 s_faulty s_queued s_length s_at s_error s_tolds s_number s_g s_past) H locs := hW
  refine lv_aload_n hx hb dX8_addLink_11 rfl (lv_at hl 0 rfl) ?_
  refine q_get hF hK hW fl_X8_76 0 rfl rfl dX8_addLink_12 ?_
  refine q_if_le (tgt := 20) hx hb dX8_addLink_15 (by decide) hf (fun hf => ?_) (fun hf => ?_)
  · refine lv_aload_n hx hb dX8_addLink_20 rfl (lv_at hl 0 rfl) ?_
    obtain ⟨o_2, hc_2, hf⟩ := ob_bind hf
    refine q_callV hF hl.1 hK hA hZ hW mv_X8_changes ml_X8_98 (c_X8_changes l D E tx h_ h_g h_kept h_past h_path h_pose h_way h_px h_py h_free h_tips h_far h_queue h_times h_turns h_names h_named h_text h_told h_spare s_hasKept s_pasts s_pathMoves s_spot o_1 s_faulty s_queued s_length s_at s_error s_tolds s_number s_g s_past o_2.1 o_2.2.1 o_2.2.2 hc_2) [0, 1, 2] rfl rfl rfl rfl rfl rfl ⟨Nat.le_of_ble_eq_true rfl, Nat.le_of_ble_eq_true rfl⟩ ⟨Nat.le_of_ble_eq_true rfl, Nat.le_of_ble_eq_true rfl⟩ rfl rfl (Nat.le_of_ble_eq_true rfl) dX8_addLink_21 (fun H locs hW => ?_)
    have hW : WD D A s (w_X8_addLink E h_ h_g h_kept h_past h_path h_pose h_way h_px h_py h_free h_tips h_far h_queue h_times h_turns h_names h_named h_text h_told h_spare s_hasKept o_2.1 o_2.2.1 s_spot o_1 s_faulty s_queued s_length s_at s_error s_tolds s_number s_g o_2.2.2) H locs := hW
    refine lv_aload_n hx hb dX8_addLink_24 rfl (lv_at hl 0 rfl) ?_
    refine lv_iload_n hx hb dX8_addLink_25 rfl (lv_at hl 1 rfl) ?_
    refine lv_iload_n hx hb dX8_addLink_26 rfl (lv_at hl 2 rfl) ?_
    refine lv_iload_n hx hb dX8_addLink_27 rfl (lv_at hl 3 rfl) ?_
    obtain ⟨o_3, hc_3, hf⟩ := ob_bind hf
    refine q_callV hF hl.1 hK hA hZ hW mv_X8_linkComes ml_X8_101 (c_X8_linkComes l D E tx h_ h_g h_kept h_past h_path h_pose h_way h_px h_py h_free h_tips h_far h_queue h_times h_turns h_names h_named h_text h_told h_spare s_hasKept o_2.1 o_2.2.1 s_spot o_1 s_faulty s_queued s_length s_at s_error s_tolds s_number s_g x1 x2 x3 o_3 hc_3) [0, 1] rfl rfl rfl rfl rfl rfl ⟨Nat.le_of_ble_eq_true rfl, Nat.le_of_ble_eq_true rfl⟩ ⟨Nat.le_of_ble_eq_true rfl, Nat.le_of_ble_eq_true rfl⟩ rfl rfl (Nat.le_of_ble_eq_true rfl) dX8_addLink_28 (fun H locs hW => ?_)
    have hW : WD D A s (w_X8_addLink E h_ h_g h_kept h_past h_path h_pose h_way h_px h_py h_free h_tips h_far h_queue h_times h_turns h_names h_named h_text h_told h_spare s_hasKept o_2.1 o_2.2.1 s_spot o_1 s_faulty s_queued s_length s_at s_error s_tolds s_number o_3 o_2.2.2) H locs := hW
    refine lv_aload_n hx hb dX8_addLink_31 rfl (lv_at hl 0 rfl) ?_
    refine q_get hF hK hW fl_X8_7 0 rfl rfl dX8_addLink_32 ?_
    refine lv_iconst (v := 0) hx hb dX8_addLink_35 (by decide) ?_
    refine q_iald hx hb hK hW 1 0 rfl rfl dX8_addLink_36 hf (fun hf => ?_)
    refine lv_iconst (v := 1) hx hb dX8_addLink_37 (by decide) ?_
    refine lv_isub hx hb dX8_addLink_38 ?_
    cases hf
    exact hret dX8_addLink_39 rfl rfl hW
  · refine lv_iconst (v := 0) hx hb dX8_addLink_18 (by decide) ?_
    cases hf
    exact hret dX8_addLink_19 rfl rfl hW
def w_X8_removeLink (E : Nat → ClassId) (h_ h_g h_kept h_past h_path h_pose h_way h_px h_py h_free h_tips h_far h_queue h_times h_turns h_names h_named h_text h_told h_spare : Nat) (s_hasKept : Int32) (s_pasts : Int32) (s_pathMoves : Int32) (s_spot : Int32) (s_thrown : Int32) (s_faulty : Int32) (s_queued : Int32) (s_length : Int32) (s_at : Int32) (s_error : Int32) (s_tolds : Int32) (s_number : Int32) (s_g : Nat → Int32) (s_past : Nat → Int32) : va_W := [(h_, .inr (10, [.ref h_g, .ref h_kept, .int s_hasKept, .ref h_past, .int s_pasts, .ref h_path, .int s_pathMoves, .int s_spot, .int s_thrown, .ref h_pose, .ref h_way, .ref h_px, .ref h_py, .int s_faulty, .ref h_free, .ref h_tips, .ref h_far, .ref h_queue, .int s_queued, .ref h_times, .ref h_turns, .ref h_names, .ref h_named, .ref h_text, .int s_length, .int s_at, .int s_error, .ref h_told, .int s_tolds, .int s_number, .ref h_spare])), (h_g, .inl (E 0, 141, .inl s_g)), (h_past, .inl (E 0, 1128, .inl s_past))]
set_option maxHeartbeats 4000000 in
set_option maxRecDepth 100000 in
theorem c_X8_removeLink (l : Launch) (D : va_G) (E : Nat → ClassId) (tx : List (Nat × String)) (h_ h_g h_kept h_past h_path h_pose h_way h_px h_py h_free h_tips h_far h_queue h_times h_turns h_names h_named h_text h_told h_spare : Nat) (s_hasKept : Int32) (s_pasts : Int32) (s_pathMoves : Int32) (s_spot : Int32) (s_thrown : Int32) (s_faulty : Int32) (s_queued : Int32) (s_length : Int32) (s_at : Int32) (s_error : Int32) (s_tolds : Int32) (s_number : Int32) (s_g : Nat → Int32) (s_past : Nat → Int32)  (r0 : Int32) (r1 : Int32) (r2 : Int32) (r3 : Int32) (r4 : Nat → Int32) (r5 : Nat → Int32) (hf : f_X8_removeLink s_pasts s_pathMoves s_thrown s_g s_past = some (r0, r1, r2, r3, r4, r5)) : CI l yX8_removeLink cX8_removeLink 1 (some .int) 1 21 D E tx [.ref h_] (w_X8_removeLink E h_ h_g h_kept h_past h_path h_pose h_way h_px h_py h_free h_tips h_far h_queue h_times h_turns h_names h_named h_text h_told h_spare s_hasKept s_pasts s_pathMoves s_spot s_thrown s_faulty s_queued s_length s_at s_error s_tolds s_number s_g s_past) (w_X8_removeLink E h_ h_g h_kept h_past h_path h_pose h_way h_px h_py h_free h_tips h_far h_queue h_times h_turns h_names h_named h_text h_told h_spare s_hasKept r1 r2 s_spot r3 s_faulty s_queued s_length s_at s_error s_tolds s_number r4 r5) r0 := by
  refine CI_of RX8 pn_X8 rfl (Nat.le_of_ble_eq_true rfl) (fun p e s m args below meth c A Q hF hK hA hZ hW hret ls hl => ?_)
  have hx := hF.1
  have hb := hF.2.1
  have hl : lv_has ls 1 [(0, .ref h_)] := hl
  unfold f_X8_removeLink at hf
  have hL15 : ∀ (s_pasts_15 : Int32) (s_pathMoves_15 : Int32) (s_thrown_15 : Int32) (s_g_15 : Nat → Int32) (s_past_15 : Nat → Int32) (k1_15 : Int32) (H : Heap) (locs : List Loc) (ls : Array Slot), f_X8_removeLink_L15 s_pasts_15 s_pathMoves_15 s_thrown_15 s_g_15 s_past_15 k1_15 = some (r0, r1, r2, r3, r4, r5) → lv_has ls 1 [(0, .ref h_)] → WD D A s (w_X8_removeLink E h_ h_g h_kept h_past h_path h_pose h_way h_px h_py h_free h_tips h_far h_queue h_times h_turns h_names h_named h_text h_told h_spare s_hasKept s_pasts_15 s_pathMoves_15 s_spot s_thrown_15 s_faulty s_queued s_length s_at s_error s_tolds s_number s_g_15 s_past_15) H locs → W p l e (RM 1 21) s m args below meth c H locs 0 0 Q (F0 m 15 ls [.int k1_15, .ref h_]) := by
    intro s_pasts_15 s_pathMoves_15 s_thrown_15 s_g_15 s_past_15 k1_15 H locs ls hf hl hW
    unfold f_X8_removeLink_L15 at hf
    refine q_put hF hK hW fl_X8_76 ft_X8 rfl 0 rfl rfl rfl (Nat.le_of_ble_eq_true rfl) dX8_removeLink_15 (fun H locs hW => ?_)
    have hW : WD D A s (w_X8_removeLink E h_ h_g h_kept h_past h_path h_pose h_way h_px h_py h_free h_tips h_far h_queue h_times h_turns h_names h_named h_text h_told h_spare s_hasKept s_pasts_15 s_pathMoves_15 s_spot k1_15 s_faulty s_queued s_length s_at s_error s_tolds s_number s_g_15 s_past_15) H locs := hW
    refine lv_aload_n hx hb dX8_removeLink_18 rfl (lv_at hl 0 rfl) ?_
    refine q_get hF hK hW fl_X8_76 0 rfl rfl dX8_removeLink_19 ?_
    refine q_if_le (tgt := 27) hx hb dX8_removeLink_22 (by decide) hf (fun hf => ?_) (fun hf => ?_)
    · refine lv_aload_n hx hb dX8_removeLink_27 rfl (lv_at hl 0 rfl) ?_
      obtain ⟨o_1, hc_1, hf⟩ := ob_bind hf
      refine q_callV hF hl.1 hK hA hZ hW mv_X8_changes ml_X8_98 (c_X8_changes l D E tx h_ h_g h_kept h_past h_path h_pose h_way h_px h_py h_free h_tips h_far h_queue h_times h_turns h_names h_named h_text h_told h_spare s_hasKept s_pasts_15 s_pathMoves_15 s_spot k1_15 s_faulty s_queued s_length s_at s_error s_tolds s_number s_g_15 s_past_15 o_1.1 o_1.2.1 o_1.2.2 hc_1) [0, 1, 2] rfl rfl rfl rfl rfl rfl ⟨Nat.le_of_ble_eq_true rfl, Nat.le_of_ble_eq_true rfl⟩ ⟨Nat.le_of_ble_eq_true rfl, Nat.le_of_ble_eq_true rfl⟩ rfl rfl (Nat.le_of_ble_eq_true rfl) dX8_removeLink_28 (fun H locs hW => ?_)
      have hW : WD D A s (w_X8_removeLink E h_ h_g h_kept h_past h_path h_pose h_way h_px h_py h_free h_tips h_far h_queue h_times h_turns h_names h_named h_text h_told h_spare s_hasKept o_1.1 o_1.2.1 s_spot k1_15 s_faulty s_queued s_length s_at s_error s_tolds s_number s_g_15 o_1.2.2) H locs := hW
      refine lv_aload_n hx hb dX8_removeLink_31 rfl (lv_at hl 0 rfl) ?_
      refine q_get hF hK hW fl_X8_7 0 rfl rfl dX8_removeLink_32 ?_
      refine lv_iconst (v := 0) hx hb dX8_removeLink_35 (by decide) ?_
      refine lv_dup2_11 hx hb dX8_removeLink_36 rfl rfl ?_
      refine q_iald hx hb hK hW 1 0 rfl rfl dX8_removeLink_37 hf (fun hf => ?_)
      refine lv_iconst (v := 1) hx hb dX8_removeLink_38 (by decide) ?_
      refine lv_isub hx hb dX8_removeLink_39 ?_
      refine q_iast hx hb hK hW 1 0 rfl rfl dX8_removeLink_40 hf (fun a_2 hf H locs hW => ?_)
      have hW : WD D A s (w_X8_removeLink E h_ h_g h_kept h_past h_path h_pose h_way h_px h_py h_free h_tips h_far h_queue h_times h_turns h_names h_named h_text h_told h_spare s_hasKept o_1.1 o_1.2.1 s_spot k1_15 s_faulty s_queued s_length s_at s_error s_tolds s_number a_2 o_1.2.2) H locs := hW
      refine lv_aload_n hx hb dX8_removeLink_41 rfl (lv_at hl 0 rfl) ?_
      refine q_get hF hK hW fl_X8_7 0 rfl rfl dX8_removeLink_42 ?_
      refine lv_iconst (v := 0) hx hb dX8_removeLink_45 (by decide) ?_
      refine q_iald hx hb hK hW 1 0 rfl rfl dX8_removeLink_46 hf (fun hf => ?_)
      cases hf
      exact hret dX8_removeLink_47 rfl rfl hW
    · refine lv_iconst (v := 0) hx hb dX8_removeLink_25 (by decide) ?_
      cases hf
      exact hret dX8_removeLink_26 rfl rfl hW
  refine lv_aload_n hx hb dX8_removeLink_0 rfl (lv_at hl 0 rfl) ?_
  refine lv_aload_n hx hb dX8_removeLink_1 rfl (lv_at hl 0 rfl) ?_
  refine q_get hF hK hW fl_X8_7 0 rfl rfl dX8_removeLink_2 ?_
  refine lv_iconst (v := 0) hx hb dX8_removeLink_5 (by decide) ?_
  refine q_iald hx hb hK hW 1 0 rfl rfl dX8_removeLink_6 hf (fun hf => ?_)
  refine q_if_ne (tgt := 14) hx hb dX8_removeLink_7 (by decide) hf (fun hf => ?_) (fun hf => ?_)
  · refine lv_iconst (v := 0) hx hb dX8_removeLink_14 (by decide) ?_
    exact hL15 s_pasts s_pathMoves s_thrown s_g s_past 0 _ _ _ hf (lv_sub hl [0] rfl) hW
  · refine lv_iconst (v := 1) hx hb dX8_removeLink_10 (by decide) ?_
    refine lv_goto (tgt := 15) hx hb dX8_removeLink_11 (by decide) ?_
    exact hL15 s_pasts s_pathMoves s_thrown s_g s_past 1 _ _ _ hf (lv_sub hl [0] rfl) hW
def w_X8_setLimits (E : Nat → ClassId) (h_ h_g h_kept h_past h_path h_pose h_way h_px h_py h_free h_tips h_far h_queue h_times h_turns h_names h_named h_text h_told h_spare : Nat) (s_hasKept : Int32) (s_pasts : Int32) (s_pathMoves : Int32) (s_spot : Int32) (s_thrown : Int32) (s_faulty : Int32) (s_queued : Int32) (s_length : Int32) (s_at : Int32) (s_error : Int32) (s_tolds : Int32) (s_number : Int32) (s_g : Nat → Int32) (s_past : Nat → Int32) : va_W := [(h_, .inr (10, [.ref h_g, .ref h_kept, .int s_hasKept, .ref h_past, .int s_pasts, .ref h_path, .int s_pathMoves, .int s_spot, .int s_thrown, .ref h_pose, .ref h_way, .ref h_px, .ref h_py, .int s_faulty, .ref h_free, .ref h_tips, .ref h_far, .ref h_queue, .int s_queued, .ref h_times, .ref h_turns, .ref h_names, .ref h_named, .ref h_text, .int s_length, .int s_at, .int s_error, .ref h_told, .int s_tolds, .int s_number, .ref h_spare])), (h_g, .inl (E 0, 141, .inl s_g)), (h_past, .inl (E 0, 1128, .inl s_past))]
set_option maxHeartbeats 4000000 in
set_option maxRecDepth 100000 in
theorem c_X8_setLimits (l : Launch) (D : va_G) (E : Nat → ClassId) (tx : List (Nat × String)) (h_ h_g h_kept h_past h_path h_pose h_way h_px h_py h_free h_tips h_far h_queue h_times h_turns h_names h_named h_text h_told h_spare : Nat) (s_hasKept : Int32) (s_pasts : Int32) (s_pathMoves : Int32) (s_spot : Int32) (s_thrown : Int32) (s_faulty : Int32) (s_queued : Int32) (s_length : Int32) (s_at : Int32) (s_error : Int32) (s_tolds : Int32) (s_number : Int32) (s_g : Nat → Int32) (s_past : Nat → Int32) (x1 : Int32) (x2 : Int32) (x3 : Int32) (r0 : Int32) (r1 : Int32) (r2 : Int32) (r3 : Int32) (r4 : Nat → Int32) (r5 : Nat → Int32) (hf : f_X8_setLimits s_pasts s_pathMoves s_thrown s_g s_past x1 x2 x3 = some (r0, r1, r2, r3, r4, r5)) : CI l yX8_setLimits cX8_setLimits 5 (some .int) 2 43 D E tx [.ref h_, .int x1, .int x2, .int x3] (w_X8_setLimits E h_ h_g h_kept h_past h_path h_pose h_way h_px h_py h_free h_tips h_far h_queue h_times h_turns h_names h_named h_text h_told h_spare s_hasKept s_pasts s_pathMoves s_spot s_thrown s_faulty s_queued s_length s_at s_error s_tolds s_number s_g s_past) (w_X8_setLimits E h_ h_g h_kept h_past h_path h_pose h_way h_px h_py h_free h_tips h_far h_queue h_times h_turns h_names h_named h_text h_told h_spare s_hasKept r1 r2 s_spot r3 s_faulty s_queued s_length s_at s_error s_tolds s_number r4 r5) r0 := by
  refine CI_of RX8 pn_X8 rfl (Nat.le_of_ble_eq_true rfl) (fun p e s m args below meth c A Q hF hK hA hZ hW hret ls hl => ?_)
  have hx := hF.1
  have hb := hF.2.1
  have hl : lv_has ls 5 [(0, .ref h_), (1, .int x1), (2, .int x2), (3, .int x3)] := hl
  unfold f_X8_setLimits at hf
  have hL121 : ∀ (s_pasts_121 : Int32) (s_pathMoves_121 : Int32) (s_thrown_121 : Int32) (s_g_121 : Nat → Int32) (s_past_121 : Nat → Int32) (y1_121 : Int32) (k1_121 : Int32) (k2_121 : Int32) (H : Heap) (locs : List Loc) (ls : Array Slot), f_X8_setLimits_L121 s_pasts_121 s_pathMoves_121 s_thrown_121 s_g_121 s_past_121 y1_121 k1_121 k2_121 = some (r0, r1, r2, r3, r4, r5) → lv_has ls 5 [(0, .ref h_), (1, .int y1_121)] → WD D A s (w_X8_setLimits E h_ h_g h_kept h_past h_path h_pose h_way h_px h_py h_free h_tips h_far h_queue h_times h_turns h_names h_named h_text h_told h_spare s_hasKept s_pasts_121 s_pathMoves_121 s_spot s_thrown_121 s_faulty s_queued s_length s_at s_error s_tolds s_number s_g_121 s_past_121) H locs → W p l e (RM 2 43) s m args below meth c H locs 0 0 Q (F0 m 121 ls [.int k2_121, .int k1_121, .ref h_g]) := by
    intro s_pasts_121 s_pathMoves_121 s_thrown_121 s_g_121 s_past_121 y1_121 k1_121 k2_121 H locs ls hf hl hW
    unfold f_X8_setLimits_L121 at hf
    refine q_iast hx hb hK hW 1 0 rfl rfl dX8_setLimits_121 hf (fun a_1 hf H locs hW => ?_)
    have hW : WD D A s (w_X8_setLimits E h_ h_g h_kept h_past h_path h_pose h_way h_px h_py h_free h_tips h_far h_queue h_times h_turns h_names h_named h_text h_told h_spare s_hasKept s_pasts_121 s_pathMoves_121 s_spot s_thrown_121 s_faulty s_queued s_length s_at s_error s_tolds s_number a_1 s_past_121) H locs := hW
    refine lv_aload_n hx hb dX8_setLimits_122 rfl (lv_at hl 0 rfl) ?_
    refine q_get hF hK hW fl_X8_7 0 rfl rfl dX8_setLimits_123 ?_
    refine lv_iconst (v := 4) hx hb dX8_setLimits_126 (by decide) ?_
    refine lv_iconst (v := 4) hx hb dX8_setLimits_127 (by decide) ?_
    refine lv_iload_n hx hb dX8_setLimits_128 rfl (lv_at hl 1 rfl) ?_
    refine lv_imul hx hb dX8_setLimits_129 ?_
    refine lv_iadd hx hb dX8_setLimits_130 ?_
    refine q_iald hx hb hK hW 1 0 rfl rfl dX8_setLimits_131 hf (fun hf => ?_)
    cases hf
    exact hret dX8_setLimits_132 rfl rfl hW
  have hL38 : ∀ (s_pasts_38 : Int32) (s_pathMoves_38 : Int32) (s_thrown_38 : Int32) (s_g_38 : Nat → Int32) (s_past_38 : Nat → Int32) (y1_38 : Int32) (y2_38 : Int32) (y3_38 : Int32) (k1_38 : Int32) (H : Heap) (locs : List Loc) (ls : Array Slot), f_X8_setLimits_L38 s_pasts_38 s_pathMoves_38 s_thrown_38 s_g_38 s_past_38 y1_38 y2_38 y3_38 k1_38 = some (r0, r1, r2, r3, r4, r5) → lv_has ls 5 [(0, .ref h_), (1, .int y1_38), (2, .int y2_38), (3, .int y3_38)] → WD D A s (w_X8_setLimits E h_ h_g h_kept h_past h_path h_pose h_way h_px h_py h_free h_tips h_far h_queue h_times h_turns h_names h_named h_text h_told h_spare s_hasKept s_pasts_38 s_pathMoves_38 s_spot s_thrown_38 s_faulty s_queued s_length s_at s_error s_tolds s_number s_g_38 s_past_38) H locs → W p l e (RM 2 43) s m args below meth c H locs 0 0 Q (F0 m 38 ls [.int k1_38, .ref h_]) := by
    intro s_pasts_38 s_pathMoves_38 s_thrown_38 s_g_38 s_past_38 y1_38 y2_38 y3_38 k1_38 H locs ls hf hl hW
    unfold f_X8_setLimits_L38 at hf
    refine q_put hF hK hW fl_X8_76 ft_X8 rfl 0 rfl rfl rfl (Nat.le_of_ble_eq_true rfl) dX8_setLimits_38 (fun H locs hW => ?_)
    have hW : WD D A s (w_X8_setLimits E h_ h_g h_kept h_past h_path h_pose h_way h_px h_py h_free h_tips h_far h_queue h_times h_turns h_names h_named h_text h_told h_spare s_hasKept s_pasts_38 s_pathMoves_38 s_spot k1_38 s_faulty s_queued s_length s_at s_error s_tolds s_number s_g_38 s_past_38) H locs := hW
    refine lv_aload_n hx hb dX8_setLimits_41 rfl (lv_at hl 0 rfl) ?_
    refine q_get hF hK hW fl_X8_76 0 rfl rfl dX8_setLimits_42 ?_
    refine q_if_le (tgt := 50) hx hb dX8_setLimits_45 (by decide) hf (fun hf => ?_) (fun hf => ?_)
    · refine lv_aload_n hx hb dX8_setLimits_50 rfl (lv_at hl 0 rfl) ?_
      obtain ⟨o_2, hc_2, hf⟩ := ob_bind hf
      refine q_callV hF hl.1 hK hA hZ hW mv_X8_changes ml_X8_98 (c_X8_changes l D E tx h_ h_g h_kept h_past h_path h_pose h_way h_px h_py h_free h_tips h_far h_queue h_times h_turns h_names h_named h_text h_told h_spare s_hasKept s_pasts_38 s_pathMoves_38 s_spot k1_38 s_faulty s_queued s_length s_at s_error s_tolds s_number s_g_38 s_past_38 o_2.1 o_2.2.1 o_2.2.2 hc_2) [0, 1, 2] rfl rfl rfl rfl rfl rfl ⟨Nat.le_of_ble_eq_true rfl, Nat.le_of_ble_eq_true rfl⟩ ⟨Nat.le_of_ble_eq_true rfl, Nat.le_of_ble_eq_true rfl⟩ rfl rfl (Nat.le_of_ble_eq_true rfl) dX8_setLimits_51 (fun H locs hW => ?_)
      have hW : WD D A s (w_X8_setLimits E h_ h_g h_kept h_past h_path h_pose h_way h_px h_py h_free h_tips h_far h_queue h_times h_turns h_names h_named h_text h_told h_spare s_hasKept o_2.1 o_2.2.1 s_spot k1_38 s_faulty s_queued s_length s_at s_error s_tolds s_number s_g_38 o_2.2.2) H locs := hW
      refine lv_aload_n hx hb dX8_setLimits_54 rfl (lv_at hl 0 rfl) ?_
      refine q_get hF hK hW fl_X8_7 0 rfl rfl dX8_setLimits_55 ?_
      refine lv_iconst (v := 2) hx hb dX8_setLimits_58 (by decide) ?_
      refine lv_iconst (v := 4) hx hb dX8_setLimits_59 (by decide) ?_
      refine lv_iload_n hx hb dX8_setLimits_60 rfl (lv_at hl 1 rfl) ?_
      refine lv_imul hx hb dX8_setLimits_61 ?_
      refine lv_iadd hx hb dX8_setLimits_62 ?_
      refine lv_iload_n hx hb dX8_setLimits_63 rfl (lv_at hl 2 rfl) ?_
      refine q_iast hx hb hK hW 1 0 rfl rfl dX8_setLimits_64 hf (fun a_3 hf H locs hW => ?_)
      have hW : WD D A s (w_X8_setLimits E h_ h_g h_kept h_past h_path h_pose h_way h_px h_py h_free h_tips h_far h_queue h_times h_turns h_names h_named h_text h_told h_spare s_hasKept o_2.1 o_2.2.1 s_spot k1_38 s_faulty s_queued s_length s_at s_error s_tolds s_number a_3 o_2.2.2) H locs := hW
      refine lv_aload_n hx hb dX8_setLimits_65 rfl (lv_at hl 0 rfl) ?_
      refine q_get hF hK hW fl_X8_7 0 rfl rfl dX8_setLimits_66 ?_
      refine lv_iconst (v := 3) hx hb dX8_setLimits_69 (by decide) ?_
      refine lv_iconst (v := 4) hx hb dX8_setLimits_70 (by decide) ?_
      refine lv_iload_n hx hb dX8_setLimits_71 rfl (lv_at hl 1 rfl) ?_
      refine lv_imul hx hb dX8_setLimits_72 ?_
      refine lv_iadd hx hb dX8_setLimits_73 ?_
      refine lv_iload_n hx hb dX8_setLimits_74 rfl (lv_at hl 3 rfl) ?_
      refine q_iast hx hb hK hW 1 0 rfl rfl dX8_setLimits_75 hf (fun a_4 hf H locs hW => ?_)
      have hW : WD D A s (w_X8_setLimits E h_ h_g h_kept h_past h_path h_pose h_way h_px h_py h_free h_tips h_far h_queue h_times h_turns h_names h_named h_text h_told h_spare s_hasKept o_2.1 o_2.2.1 s_spot k1_38 s_faulty s_queued s_length s_at s_error s_tolds s_number a_4 o_2.2.2) H locs := hW
      refine lv_aload_n hx hb dX8_setLimits_76 rfl (lv_at hl 0 rfl) ?_
      refine q_get hF hK hW fl_X8_7 0 rfl rfl dX8_setLimits_77 ?_
      refine lv_iconst (v := 4) hx hb dX8_setLimits_80 (by decide) ?_
      refine lv_iconst (v := 4) hx hb dX8_setLimits_81 (by decide) ?_
      refine lv_iload_n hx hb dX8_setLimits_82 rfl (lv_at hl 1 rfl) ?_
      refine lv_imul hx hb dX8_setLimits_83 ?_
      refine lv_iadd hx hb dX8_setLimits_84 ?_
      refine q_iald hx hb hK hW 1 0 rfl rfl dX8_setLimits_85 hf (fun hf => ?_)
      refine lv_topi (fun v_5 ev_5 => ?_)
      replace hf := ob_let hf ev_5
      refine lv_istore (lv' := [(4, .int v_5), (0, .ref h_), (1, .int y1_38), (2, .int y2_38), (3, .int y3_38)]) hx hb dX8_setLimits_86 hl (by decide) rfl (fun ls hl => ?_)
      refine lv_aload_n hx hb dX8_setLimits_88 rfl (lv_at hl 1 rfl) ?_
      refine q_get hF hK hW fl_X8_7 0 rfl rfl dX8_setLimits_89 ?_
      refine lv_iconst (v := 4) hx hb dX8_setLimits_92 (by decide) ?_
      refine lv_iconst (v := 4) hx hb dX8_setLimits_93 (by decide) ?_
      refine lv_iload_n hx hb dX8_setLimits_94 rfl (lv_at hl 2 rfl) ?_
      refine lv_imul hx hb dX8_setLimits_95 ?_
      refine lv_iadd hx hb dX8_setLimits_96 ?_
      refine lv_iload hx hb dX8_setLimits_97 (lv_at hl 0 rfl) ?_
      refine lv_iload_n hx hb dX8_setLimits_99 rfl (lv_at hl 3 rfl) ?_
      refine lv_ineg hx hb dX8_setLimits_100 ?_
      refine q_icmp_ge (tgt := 109) hx hb dX8_setLimits_101 (by decide) hf (fun hf => ?_) (fun hf => ?_)
      · refine lv_iload hx hb dX8_setLimits_109 (lv_at hl 0 rfl) ?_
        refine lv_iload_n hx hb dX8_setLimits_111 rfl (lv_at hl 4 rfl) ?_
        refine q_icmp_le (tgt := 119) hx hb dX8_setLimits_112 (by decide) hf (fun hf => ?_) (fun hf => ?_)
        · refine lv_iload hx hb dX8_setLimits_119 (lv_at hl 0 rfl) ?_
          exact hL121 o_2.1 o_2.2.1 k1_38 a_4 o_2.2.2 y1_38 (4 + (4 * y1_38)) v_5 _ _ _ hf (lv_sub hl [1, 2] rfl) hW
        · refine lv_iload_n hx hb dX8_setLimits_115 rfl (lv_at hl 4 rfl) ?_
          refine lv_goto (tgt := 121) hx hb dX8_setLimits_116 (by decide) ?_
          exact hL121 o_2.1 o_2.2.1 k1_38 a_4 o_2.2.2 y1_38 (4 + (4 * y1_38)) y3_38 _ _ _ hf (lv_sub hl [1, 2] rfl) hW
      · refine lv_iload_n hx hb dX8_setLimits_104 rfl (lv_at hl 3 rfl) ?_
        refine lv_ineg hx hb dX8_setLimits_105 ?_
        refine lv_goto (tgt := 121) hx hb dX8_setLimits_106 (by decide) ?_
        exact hL121 o_2.1 o_2.2.1 k1_38 a_4 o_2.2.2 y1_38 (4 + (4 * y1_38)) (-y2_38) _ _ _ hf (lv_sub hl [1, 2] rfl) hW
    · refine lv_iconst (v := 0) hx hb dX8_setLimits_48 (by decide) ?_
      cases hf
      exact hret dX8_setLimits_49 rfl rfl hW
  refine lv_aload_n hx hb dX8_setLimits_0 rfl (lv_at hl 0 rfl) ?_
  refine lv_aload_n hx hb dX8_setLimits_1 rfl (lv_at hl 0 rfl) ?_
  refine lv_iload_n hx hb dX8_setLimits_2 rfl (lv_at hl 1 rfl) ?_
  obtain ⟨o_6, hc_6, hf⟩ := ob_bind hf
  refine q_callI hF hl.1 hK hA hZ hW mv_X8_isJoint ml_X8_105 (c_X8_isJoint l D E tx h_ h_g h_kept h_past h_path h_pose h_way h_px h_py h_free h_tips h_far h_queue h_times h_turns h_names h_named h_text h_told h_spare s_hasKept s_pasts s_pathMoves s_spot s_thrown s_faulty s_queued s_length s_at s_error s_tolds s_number s_g x1 o_6 hc_6) [0, 1] rfl rfl rfl rfl rfl rfl ⟨Nat.le_of_ble_eq_true rfl, Nat.le_of_ble_eq_true rfl⟩ ⟨Nat.le_of_ble_eq_true rfl, Nat.le_of_ble_eq_true rfl⟩ rfl rfl (Nat.le_of_ble_eq_true rfl) dX8_setLimits_3 (fun H locs hW => ?_)
  have hW : WD D A s (w_X8_setLimits E h_ h_g h_kept h_past h_path h_pose h_way h_px h_py h_free h_tips h_far h_queue h_times h_turns h_names h_named h_text h_told h_spare s_hasKept s_pasts s_pathMoves s_spot s_thrown s_faulty s_queued s_length s_at s_error s_tolds s_number s_g s_past) H locs := hW
  refine q_if_eq (tgt := 37) hx hb dX8_setLimits_6 (by decide) hf (fun hf => ?_) (fun hf => ?_)
  · refine lv_iconst (v := 1) hx hb dX8_setLimits_37 (by decide) ?_
    exact hL38 s_pasts s_pathMoves s_thrown s_g s_past x1 x2 x3 1 _ _ _ hf (lv_sub hl [0, 1, 2, 3] rfl) hW
  · refine lv_iload_n hx hb dX8_setLimits_9 rfl (lv_at hl 2 rfl) ?_
    refine lv_iconst (v := 0) hx hb dX8_setLimits_10 (by decide) ?_
    refine lv_bipush (v := 8) hx hb dX8_setLimits_11 (by decide) ?_
    obtain ⟨o_7, hc_7, hf⟩ := ob_bind hf
    refine q_callSI hF hl.1 hK hA hZ hW ms_X8_in ml_X8_79 (c_X8_in l D E tx x2 0 8 o_7 hc_7) [] rfl rfl rfl ⟨Nat.le_of_ble_eq_true rfl, Nat.le_of_ble_eq_true rfl⟩ ⟨Nat.le_of_ble_eq_true rfl, Nat.le_of_ble_eq_true rfl⟩ rfl rfl (Nat.le_of_ble_eq_true rfl) dX8_setLimits_13 (fun H locs hW => ?_)
    have hW : WD D A s (w_X8_setLimits E h_ h_g h_kept h_past h_path h_pose h_way h_px h_py h_free h_tips h_far h_queue h_times h_turns h_names h_named h_text h_told h_spare s_hasKept s_pasts s_pathMoves s_spot s_thrown s_faulty s_queued s_length s_at s_error s_tolds s_number s_g s_past) H locs := hW
    refine q_if_eq (tgt := 33) hx hb dX8_setLimits_16 (by decide) hf (fun hf => ?_) (fun hf => ?_)
    · refine lv_iconst (v := 2) hx hb dX8_setLimits_33 (by decide) ?_
      refine lv_goto (tgt := 38) hx hb dX8_setLimits_34 (by decide) ?_
      exact hL38 s_pasts s_pathMoves s_thrown s_g s_past x1 x2 x3 2 _ _ _ hf (lv_sub hl [0, 1, 2, 3] rfl) hW
    · refine lv_iload_n hx hb dX8_setLimits_19 rfl (lv_at hl 3 rfl) ?_
      refine lv_iconst (v := 0) hx hb dX8_setLimits_20 (by decide) ?_
      refine lv_bipush (v := 8) hx hb dX8_setLimits_21 (by decide) ?_
      obtain ⟨o_8, hc_8, hf⟩ := ob_bind hf
      refine q_callSI hF hl.1 hK hA hZ hW ms_X8_in ml_X8_79 (c_X8_in l D E tx x3 0 8 o_8 hc_8) [] rfl rfl rfl ⟨Nat.le_of_ble_eq_true rfl, Nat.le_of_ble_eq_true rfl⟩ ⟨Nat.le_of_ble_eq_true rfl, Nat.le_of_ble_eq_true rfl⟩ rfl rfl (Nat.le_of_ble_eq_true rfl) dX8_setLimits_23 (fun H locs hW => ?_)
      have hW : WD D A s (w_X8_setLimits E h_ h_g h_kept h_past h_path h_pose h_way h_px h_py h_free h_tips h_far h_queue h_times h_turns h_names h_named h_text h_told h_spare s_hasKept s_pasts s_pathMoves s_spot s_thrown s_faulty s_queued s_length s_at s_error s_tolds s_number s_g s_past) H locs := hW
      refine q_if_eq (tgt := 33) hx hb dX8_setLimits_26 (by decide) hf (fun hf => ?_) (fun hf => ?_)
      · refine lv_iconst (v := 2) hx hb dX8_setLimits_33 (by decide) ?_
        refine lv_goto (tgt := 38) hx hb dX8_setLimits_34 (by decide) ?_
        exact hL38 s_pasts s_pathMoves s_thrown s_g s_past x1 x2 x3 2 _ _ _ hf (lv_sub hl [0, 1, 2, 3] rfl) hW
      · refine lv_iconst (v := 0) hx hb dX8_setLimits_29 (by decide) ?_
        refine lv_goto (tgt := 38) hx hb dX8_setLimits_30 (by decide) ?_
        exact hL38 s_pasts s_pathMoves s_thrown s_g s_past x1 x2 x3 0 _ _ _ hf (lv_sub hl [0, 1, 2, 3] rfl) hW
def w_X8_stoneAt (E : Nat → ClassId) (h_ h_g h_kept h_past h_path h_pose h_way h_px h_py h_free h_tips h_far h_queue h_times h_turns h_names h_named h_text h_told h_spare : Nat) (s_hasKept : Int32) (s_pasts : Int32) (s_pathMoves : Int32) (s_spot : Int32) (s_thrown : Int32) (s_faulty : Int32) (s_queued : Int32) (s_length : Int32) (s_at : Int32) (s_error : Int32) (s_tolds : Int32) (s_number : Int32) (s_g : Nat → Int32) : va_W := [(h_, .inr (10, [.ref h_g, .ref h_kept, .int s_hasKept, .ref h_past, .int s_pasts, .ref h_path, .int s_pathMoves, .int s_spot, .int s_thrown, .ref h_pose, .ref h_way, .ref h_px, .ref h_py, .int s_faulty, .ref h_free, .ref h_tips, .ref h_far, .ref h_queue, .int s_queued, .ref h_times, .ref h_turns, .ref h_names, .ref h_named, .ref h_text, .int s_length, .int s_at, .int s_error, .ref h_told, .int s_tolds, .int s_number, .ref h_spare])), (h_g, .inl (E 0, 141, .inl s_g))]
set_option maxHeartbeats 4000000 in
set_option maxRecDepth 100000 in
theorem c_X8_stoneAt (l : Launch) (D : va_G) (E : Nat → ClassId) (tx : List (Nat × String)) (h_ h_g h_kept h_past h_path h_pose h_way h_px h_py h_free h_tips h_far h_queue h_times h_turns h_names h_named h_text h_told h_spare : Nat) (s_hasKept : Int32) (s_pasts : Int32) (s_pathMoves : Int32) (s_spot : Int32) (s_thrown : Int32) (s_faulty : Int32) (s_queued : Int32) (s_length : Int32) (s_at : Int32) (s_error : Int32) (s_tolds : Int32) (s_number : Int32) (s_g : Nat → Int32) (x1 : Int32) (x2 : Int32) (r0 : Int32) (hf : f_X8_stoneAt s_g x1 x2 = some r0) : CI l yX8_stoneAt cX8_stoneAt 4 (some .int) 0 0 D E tx [.ref h_, .int x1, .int x2] (w_X8_stoneAt E h_ h_g h_kept h_past h_path h_pose h_way h_px h_py h_free h_tips h_far h_queue h_times h_turns h_names h_named h_text h_told h_spare s_hasKept s_pasts s_pathMoves s_spot s_thrown s_faulty s_queued s_length s_at s_error s_tolds s_number s_g) (w_X8_stoneAt E h_ h_g h_kept h_past h_path h_pose h_way h_px h_py h_free h_tips h_far h_queue h_times h_turns h_names h_named h_text h_told h_spare s_hasKept s_pasts s_pathMoves s_spot s_thrown s_faulty s_queued s_length s_at s_error s_tolds s_number s_g) r0 := by
  refine CI_of RX8 pn_X8 rfl (Nat.le_of_ble_eq_true rfl) (fun p e s m args below meth c A Q hF hK hA hZ hW hret ls hl => ?_)
  have hx := hF.1
  have hb := hF.2.1
  have hl : lv_has ls 4 [(0, .ref h_), (1, .int x1), (2, .int x2)] := hl
  unfold f_X8_stoneAt at hf
  refine lv_iconst (v := 0) hx hb dX8_stoneAt_0 (by decide) ?_
  refine lv_istore_n (lv' := [(3, .int 0), (0, .ref h_), (1, .int x1), (2, .int x2)]) hx hb dX8_stoneAt_1 rfl hl (by decide) rfl (fun ls hl => ?_)
  have hB2 : ∀ (n : Nat) (z3_2 : Int32) (ex : (Int32) ⊕ (Unit)) (H : Heap) (locs : List Loc) (ls : Array Slot), LPF (fun z => f_X8_stoneAt_B2 s_g x1 x2 z) n z3_2 = some ex → lv_has ls 4 [(0, .ref h_), (1, .int x1), (2, .int x2), (3, .int z3_2)] → WD D A s (w_X8_stoneAt E h_ h_g h_kept h_past h_path h_pose h_way h_px h_py h_free h_tips h_far h_queue h_times h_turns h_names h_named h_text h_told h_spare s_hasKept s_pasts s_pathMoves s_spot s_thrown s_faulty s_queued s_length s_at s_error s_tolds s_number s_g) H locs → (∀ (u9 : Int32), ex = .inl u9 → ∀ (H : Heap) (locs : List Loc) (ls : Array Slot), lv_has ls 4 [(3, .int u9)] → WD D A s (w_X8_stoneAt E h_ h_g h_kept h_past h_path h_pose h_way h_px h_py h_free h_tips h_far h_queue h_times h_turns h_names h_named h_text h_told h_spare s_hasKept s_pasts s_pathMoves s_spot s_thrown s_faulty s_queued s_length s_at s_error s_tolds s_number s_g) H locs → W p l e (RM 0 0) s m args below meth c H locs 0 0 Q (F0 m 45 ls [])) → (∀ (u9 : Unit), ex = .inr u9 → ∀ (H : Heap) (locs : List Loc) (ls : Array Slot), lv_has ls 4 [] → WD D A s (w_X8_stoneAt E h_ h_g h_kept h_past h_path h_pose h_way h_px h_py h_free h_tips h_far h_queue h_times h_turns h_names h_named h_text h_told h_spare s_hasKept s_pasts s_pathMoves s_spot s_thrown s_faulty s_queued s_length s_at s_error s_tolds s_number s_g) H locs → W p l e (RM 0 0) s m args below meth c H locs 0 0 Q (F0 m 53 ls [])) → W p l e (RM 0 0) s m args below meth c H locs 0 0 Q (F0 m 2 ls []) := by
    intro n
    induction n with
    | zero => intro z3_2 ex H locs ls h9; exact (ob_lp0 h9).elim
    | succ n ih =>
      intro z3_2 ex H locs ls h9 hl hW kx0 kx1
      obtain ⟨q9, hf, h9, k9⟩ := ob_lp h9
      have hf : f_X8_stoneAt_B2 s_g x1 x2 z3_2 = some q9 := hf
      unfold f_X8_stoneAt_B2 at hf
      refine lv_iload_n hx hb dX8_stoneAt_2 rfl (lv_at hl 3 rfl) ?_
      refine lv_aload_n hx hb dX8_stoneAt_3 rfl (lv_at hl 0 rfl) ?_
      refine q_get hF hK hW fl_X8_7 0 rfl rfl dX8_stoneAt_4 ?_
      refine lv_bipush (v := 20) hx hb dX8_stoneAt_7 (by decide) ?_
      refine q_iald hx hb hK hW 1 0 rfl rfl dX8_stoneAt_9 hf (fun hf => ?_)
      refine q_icmp_ge (tgt := 53) hx hb dX8_stoneAt_10 (by decide) hf (fun hf => ?_) (fun hf => ?_)
      · cases hf
        exact kx1 _ (k9 _ rfl) _ _ _ (lv_sub hl [] rfl) hW
      · refine lv_aload_n hx hb dX8_stoneAt_13 rfl (lv_at hl 0 rfl) ?_
        refine q_get hF hK hW fl_X8_7 0 rfl rfl dX8_stoneAt_14 ?_
        refine lv_bipush (v := 21) hx hb dX8_stoneAt_17 (by decide) ?_
        refine lv_iconst (v := 2) hx hb dX8_stoneAt_19 (by decide) ?_
        refine lv_iload_n hx hb dX8_stoneAt_20 rfl (lv_at hl 3 rfl) ?_
        refine lv_imul hx hb dX8_stoneAt_21 ?_
        refine lv_iadd hx hb dX8_stoneAt_22 ?_
        refine q_iald hx hb hK hW 1 0 rfl rfl dX8_stoneAt_23 hf (fun hf => ?_)
        refine lv_iload_n hx hb dX8_stoneAt_24 rfl (lv_at hl 1 rfl) ?_
        refine q_icmp_ne (tgt := 47) hx hb dX8_stoneAt_25 (by decide) hf (fun hf => ?_) (fun hf => ?_)
        · obtain ⟨v_1, ev_1⟩ : ∃ y : Int32, y = z3_2 + 1 := ⟨_, rfl⟩
          replace hf := ob_let hf ev_1
          refine lv_iinc (v := v_1) (lv' := [(3, .int v_1), (0, .ref h_), (1, .int x1), (2, .int x2)]) hx hb dX8_stoneAt_47 hl (k := 3) rfl (by rw [ev_1]; rfl) (by decide) rfl (fun ls hl => ?_)
          refine lv_goto (tgt := 2) hx hb dX8_stoneAt_50 (by decide) ?_
          cases hf
          exact ih v_1 ex _ _ _ (h9 _ rfl) (lv_sub hl [1, 2, 3, 0] rfl) hW kx0 kx1
        · refine lv_aload_n hx hb dX8_stoneAt_28 rfl (lv_at hl 0 rfl) ?_
          refine q_get hF hK hW fl_X8_7 0 rfl rfl dX8_stoneAt_29 ?_
          refine lv_bipush (v := 21) hx hb dX8_stoneAt_32 (by decide) ?_
          refine lv_iconst (v := 2) hx hb dX8_stoneAt_34 (by decide) ?_
          refine lv_iload_n hx hb dX8_stoneAt_35 rfl (lv_at hl 3 rfl) ?_
          refine lv_imul hx hb dX8_stoneAt_36 ?_
          refine lv_iadd hx hb dX8_stoneAt_37 ?_
          refine lv_iconst (v := 1) hx hb dX8_stoneAt_38 (by decide) ?_
          refine lv_iadd hx hb dX8_stoneAt_39 ?_
          refine q_iald hx hb hK hW 1 0 rfl rfl dX8_stoneAt_40 hf (fun hf => ?_)
          refine lv_iload_n hx hb dX8_stoneAt_41 rfl (lv_at hl 2 rfl) ?_
          refine q_icmp_ne (tgt := 47) hx hb dX8_stoneAt_42 (by decide) hf (fun hf => ?_) (fun hf => ?_)
          · obtain ⟨v_2, ev_2⟩ : ∃ y : Int32, y = z3_2 + 1 := ⟨_, rfl⟩
            replace hf := ob_let hf ev_2
            refine lv_iinc (v := v_2) (lv' := [(3, .int v_2), (0, .ref h_), (1, .int x1), (2, .int x2)]) hx hb dX8_stoneAt_47 hl (k := 3) rfl (by rw [ev_2]; rfl) (by decide) rfl (fun ls hl => ?_)
            refine lv_goto (tgt := 2) hx hb dX8_stoneAt_50 (by decide) ?_
            cases hf
            exact ih v_2 ex _ _ _ (h9 _ rfl) (lv_sub hl [1, 2, 3, 0] rfl) hW kx0 kx1
          · cases hf
            exact kx0 _ (k9 _ rfl) _ _ _ (lv_sub hl [3] rfl) hW
  obtain ⟨e_3, hc_3, hf⟩ := ob_bind hf
  refine hB2 lfuel 0 e_3 _ _ _ hc_3 (lv_sub hl [1, 2, 3, 0] rfl) hW ?_ ?_
  · intro u_4 hu H locs ls hl hW
    subst hu
    dsimp only at hf
    refine lv_iload_n hx hb dX8_stoneAt_45 rfl (lv_at hl 0 rfl) ?_
    cases hf
    exact hret dX8_stoneAt_46 rfl rfl hW
  · intro u_5 hu H locs ls hl hW
    subst hu
    dsimp only at hf
    refine lv_iconst (v := (-1)) hx hb dX8_stoneAt_53 (by decide) ?_
    cases hf
    exact hret dX8_stoneAt_54 rfl rfl hW
def w_X8_stoneStops (E : Nat → ClassId) (h_ h_g h_kept h_past h_path h_pose h_way h_px h_py h_free h_tips h_far h_queue h_times h_turns h_names h_named h_text h_told h_spare : Nat) (s_hasKept : Int32) (s_pasts : Int32) (s_pathMoves : Int32) (s_spot : Int32) (s_thrown : Int32) (s_faulty : Int32) (s_queued : Int32) (s_length : Int32) (s_at : Int32) (s_error : Int32) (s_tolds : Int32) (s_number : Int32) (s_g : Nat → Int32) : va_W := [(h_, .inr (10, [.ref h_g, .ref h_kept, .int s_hasKept, .ref h_past, .int s_pasts, .ref h_path, .int s_pathMoves, .int s_spot, .int s_thrown, .ref h_pose, .ref h_way, .ref h_px, .ref h_py, .int s_faulty, .ref h_free, .ref h_tips, .ref h_far, .ref h_queue, .int s_queued, .ref h_times, .ref h_turns, .ref h_names, .ref h_named, .ref h_text, .int s_length, .int s_at, .int s_error, .ref h_told, .int s_tolds, .int s_number, .ref h_spare])), (h_g, .inl (E 0, 141, .inl s_g))]
set_option maxHeartbeats 4000000 in
set_option maxRecDepth 100000 in
theorem c_X8_stoneStops (l : Launch) (D : va_G) (E : Nat → ClassId) (tx : List (Nat × String)) (h_ h_g h_kept h_past h_path h_pose h_way h_px h_py h_free h_tips h_far h_queue h_times h_turns h_names h_named h_text h_told h_spare : Nat) (s_hasKept : Int32) (s_pasts : Int32) (s_pathMoves : Int32) (s_spot : Int32) (s_thrown : Int32) (s_faulty : Int32) (s_queued : Int32) (s_length : Int32) (s_at : Int32) (s_error : Int32) (s_tolds : Int32) (s_number : Int32) (s_g : Nat → Int32) (x1 : Int32) (x2 : Int32) (r0 : Int32) (hf : f_X8_stoneStops s_g x1 x2 = some r0) : CI l yX8_stoneStops cX8_stoneStops 3 (some .int) 2 43 D E tx [.ref h_, .int x1, .int x2] (w_X8_stoneStops E h_ h_g h_kept h_past h_path h_pose h_way h_px h_py h_free h_tips h_far h_queue h_times h_turns h_names h_named h_text h_told h_spare s_hasKept s_pasts s_pathMoves s_spot s_thrown s_faulty s_queued s_length s_at s_error s_tolds s_number s_g) (w_X8_stoneStops E h_ h_g h_kept h_past h_path h_pose h_way h_px h_py h_free h_tips h_far h_queue h_times h_turns h_names h_named h_text h_told h_spare s_hasKept s_pasts s_pathMoves s_spot s_thrown s_faulty s_queued s_length s_at s_error s_tolds s_number s_g) r0 := by
  refine CI_of RX8 pn_X8 rfl (Nat.le_of_ble_eq_true rfl) (fun p e s m args below meth c A Q hF hK hA hZ hW hret ls hl => ?_)
  have hx := hF.1
  have hb := hF.2.1
  have hl : lv_has ls 3 [(0, .ref h_), (1, .int x1), (2, .int x2)] := hl
  unfold f_X8_stoneStops at hf
  have hL20 : ∀ (y1_20 : Int32) (y2_20 : Int32) (H : Heap) (locs : List Loc) (ls : Array Slot), f_X8_stoneStops_L20 s_g y1_20 y2_20 = some r0 → lv_has ls 3 [(0, .ref h_), (1, .int y1_20), (2, .int y2_20)] → WD D A s (w_X8_stoneStops E h_ h_g h_kept h_past h_path h_pose h_way h_px h_py h_free h_tips h_far h_queue h_times h_turns h_names h_named h_text h_told h_spare s_hasKept s_pasts s_pathMoves s_spot s_thrown s_faulty s_queued s_length s_at s_error s_tolds s_number s_g) H locs → W p l e (RM 2 43) s m args below meth c H locs 0 0 Q (F0 m 20 ls []) := by
    intro y1_20 y2_20 H locs ls hf hl hW
    unfold f_X8_stoneStops_L20 at hf
    refine lv_aload_n hx hb dX8_stoneStops_20 rfl (lv_at hl 0 rfl) ?_
    refine q_get hF hK hW fl_X8_7 0 rfl rfl dX8_stoneStops_21 ?_
    refine lv_bipush (v := 20) hx hb dX8_stoneStops_24 (by decide) ?_
    refine q_iald hx hb hK hW 1 0 rfl rfl dX8_stoneStops_26 hf (fun hf => ?_)
    refine lv_bipush (v := 60) hx hb dX8_stoneStops_27 (by decide) ?_
    refine q_icmp_eq (tgt := 41) hx hb dX8_stoneStops_29 (by decide) hf (fun hf => ?_) (fun hf => ?_)
    · refine lv_iconst (v := 3) hx hb dX8_stoneStops_41 (by decide) ?_
      refine lv_goto (tgt := 46) hx hb dX8_stoneStops_42 (by decide) ?_
      cases hf
      exact hret dX8_stoneStops_46 rfl rfl hW
    · refine lv_aload_n hx hb dX8_stoneStops_32 rfl (lv_at hl 0 rfl) ?_
      refine lv_iload_n hx hb dX8_stoneStops_33 rfl (lv_at hl 1 rfl) ?_
      refine lv_iload_n hx hb dX8_stoneStops_34 rfl (lv_at hl 2 rfl) ?_
      obtain ⟨o_1, hc_1, hf⟩ := ob_bind hf
      refine q_callI hF hl.1 hK hA hZ hW mv_X8_stoneAt ml_X8_113 (c_X8_stoneAt l D E tx h_ h_g h_kept h_past h_path h_pose h_way h_px h_py h_free h_tips h_far h_queue h_times h_turns h_names h_named h_text h_told h_spare s_hasKept s_pasts s_pathMoves s_spot s_thrown s_faulty s_queued s_length s_at s_error s_tolds s_number s_g y1_20 y2_20 o_1 hc_1) [0, 1] rfl rfl rfl rfl rfl rfl ⟨Nat.le_of_ble_eq_true rfl, Nat.le_of_ble_eq_true rfl⟩ ⟨Nat.le_of_ble_eq_true rfl, Nat.le_of_ble_eq_true rfl⟩ rfl rfl (Nat.le_of_ble_eq_true rfl) dX8_stoneStops_35 (fun H locs hW => ?_)
      have hW : WD D A s (w_X8_stoneStops E h_ h_g h_kept h_past h_path h_pose h_way h_px h_py h_free h_tips h_far h_queue h_times h_turns h_names h_named h_text h_told h_spare s_hasKept s_pasts s_pathMoves s_spot s_thrown s_faulty s_queued s_length s_at s_error s_tolds s_number s_g) H locs := hW
      refine q_if_lt (tgt := 45) hx hb dX8_stoneStops_38 (by decide) hf (fun hf => ?_) (fun hf => ?_)
      · refine lv_iconst (v := 0) hx hb dX8_stoneStops_45 (by decide) ?_
        cases hf
        exact hret dX8_stoneStops_46 rfl rfl hW
      · refine lv_iconst (v := 3) hx hb dX8_stoneStops_41 (by decide) ?_
        refine lv_goto (tgt := 46) hx hb dX8_stoneStops_42 (by decide) ?_
        cases hf
        exact hret dX8_stoneStops_46 rfl rfl hW
  refine lv_iload_n hx hb dX8_stoneStops_0 rfl (lv_at hl 1 rfl) ?_
  refine lv_iload_n hx hb dX8_stoneStops_1 rfl (lv_at hl 2 rfl) ?_
  obtain ⟨o_2, hc_2, hf⟩ := ob_bind hf
  refine q_callSI hF hl.1 hK hA hZ hW ms_X8_isCell ml_X8_109 (c_X8_isCell l D E tx x1 x2 o_2 hc_2) [] rfl rfl rfl ⟨Nat.le_of_ble_eq_true rfl, Nat.le_of_ble_eq_true rfl⟩ ⟨Nat.le_of_ble_eq_true rfl, Nat.le_of_ble_eq_true rfl⟩ rfl rfl (Nat.le_of_ble_eq_true rfl) dX8_stoneStops_2 (fun H locs hW => ?_)
  have hW : WD D A s (w_X8_stoneStops E h_ h_g h_kept h_past h_path h_pose h_way h_px h_py h_free h_tips h_far h_queue h_times h_turns h_names h_named h_text h_told h_spare s_hasKept s_pasts s_pathMoves s_spot s_thrown s_faulty s_queued s_length s_at s_error s_tolds s_number s_g) H locs := hW
  refine q_if_ne (tgt := 10) hx hb dX8_stoneStops_5 (by decide) hf (fun hf => ?_) (fun hf => ?_)
  · refine lv_iload_n hx hb dX8_stoneStops_10 rfl (lv_at hl 1 rfl) ?_
    refine q_if_ne (tgt := 20) hx hb dX8_stoneStops_11 (by decide) hf (fun hf => ?_) (fun hf => ?_)
    · exact hL20 x1 x2 _ _ _ hf (lv_sub hl [0, 1, 2] rfl) hW
    · refine lv_iload_n hx hb dX8_stoneStops_14 rfl (lv_at hl 2 rfl) ?_
      refine q_if_ne (tgt := 20) hx hb dX8_stoneStops_15 (by decide) hf (fun hf => ?_) (fun hf => ?_)
      · exact hL20 x1 x2 _ _ _ hf (lv_sub hl [0, 1, 2] rfl) hW
      · refine lv_iconst (v := 2) hx hb dX8_stoneStops_18 (by decide) ?_
        cases hf
        exact hret dX8_stoneStops_19 rfl rfl hW
  · refine lv_iconst (v := 1) hx hb dX8_stoneStops_8 (by decide) ?_
    cases hf
    exact hret dX8_stoneStops_9 rfl rfl hW
def w_X8_stoneComes (E : Nat → ClassId) (h_ h_g h_kept h_past h_path h_pose h_way h_px h_py h_free h_tips h_far h_queue h_times h_turns h_names h_named h_text h_told h_spare : Nat) (s_hasKept : Int32) (s_pasts : Int32) (s_pathMoves : Int32) (s_spot : Int32) (s_thrown : Int32) (s_faulty : Int32) (s_queued : Int32) (s_length : Int32) (s_at : Int32) (s_error : Int32) (s_tolds : Int32) (s_number : Int32) (s_g : Nat → Int32) : va_W := [(h_, .inr (10, [.ref h_g, .ref h_kept, .int s_hasKept, .ref h_past, .int s_pasts, .ref h_path, .int s_pathMoves, .int s_spot, .int s_thrown, .ref h_pose, .ref h_way, .ref h_px, .ref h_py, .int s_faulty, .ref h_free, .ref h_tips, .ref h_far, .ref h_queue, .int s_queued, .ref h_times, .ref h_turns, .ref h_names, .ref h_named, .ref h_text, .int s_length, .int s_at, .int s_error, .ref h_told, .int s_tolds, .int s_number, .ref h_spare])), (h_g, .inl (E 0, 141, .inl s_g))]
set_option maxHeartbeats 4000000 in
set_option maxRecDepth 100000 in
theorem c_X8_stoneComes (l : Launch) (D : va_G) (E : Nat → ClassId) (tx : List (Nat × String)) (h_ h_g h_kept h_past h_path h_pose h_way h_px h_py h_free h_tips h_far h_queue h_times h_turns h_names h_named h_text h_told h_spare : Nat) (s_hasKept : Int32) (s_pasts : Int32) (s_pathMoves : Int32) (s_spot : Int32) (s_thrown : Int32) (s_faulty : Int32) (s_queued : Int32) (s_length : Int32) (s_at : Int32) (s_error : Int32) (s_tolds : Int32) (s_number : Int32) (s_g : Nat → Int32) (x1 : Int32) (x2 : Int32) (r0 : Nat → Int32) (hf : f_X8_stoneComes s_g x1 x2 = some r0) : CV l yX8_stoneComes cX8_stoneComes 3 0 0 D E tx [.ref h_, .int x1, .int x2] (w_X8_stoneComes E h_ h_g h_kept h_past h_path h_pose h_way h_px h_py h_free h_tips h_far h_queue h_times h_turns h_names h_named h_text h_told h_spare s_hasKept s_pasts s_pathMoves s_spot s_thrown s_faulty s_queued s_length s_at s_error s_tolds s_number s_g) (w_X8_stoneComes E h_ h_g h_kept h_past h_path h_pose h_way h_px h_py h_free h_tips h_far h_queue h_times h_turns h_names h_named h_text h_told h_spare s_hasKept s_pasts s_pathMoves s_spot s_thrown s_faulty s_queued s_length s_at s_error s_tolds s_number r0) := by
  refine CV_of RX8 pn_X8 rfl (Nat.le_of_ble_eq_true rfl) (fun p e s m args below meth c A Q hF hK hA hZ hW hret ls hl => ?_)
  have hx := hF.1
  have hb := hF.2.1
  have hl : lv_has ls 3 [(0, .ref h_), (1, .int x1), (2, .int x2)] := hl
  unfold f_X8_stoneComes at hf
  refine lv_aload_n hx hb dX8_stoneComes_0 rfl (lv_at hl 0 rfl) ?_
  refine q_get hF hK hW fl_X8_7 0 rfl rfl dX8_stoneComes_1 ?_
  refine lv_bipush (v := 21) hx hb dX8_stoneComes_4 (by decide) ?_
  refine lv_iconst (v := 2) hx hb dX8_stoneComes_6 (by decide) ?_
  refine lv_aload_n hx hb dX8_stoneComes_7 rfl (lv_at hl 0 rfl) ?_
  refine q_get hF hK hW fl_X8_7 0 rfl rfl dX8_stoneComes_8 ?_
  refine lv_bipush (v := 20) hx hb dX8_stoneComes_11 (by decide) ?_
  refine q_iald hx hb hK hW 1 0 rfl rfl dX8_stoneComes_13 hf (fun hf => ?_)
  refine lv_imul hx hb dX8_stoneComes_14 ?_
  refine lv_iadd hx hb dX8_stoneComes_15 ?_
  refine lv_iload_n hx hb dX8_stoneComes_16 rfl (lv_at hl 1 rfl) ?_
  refine q_iast hx hb hK hW 1 0 rfl rfl dX8_stoneComes_17 hf (fun a_1 hf H locs hW => ?_)
  have hW : WD D A s (w_X8_stoneComes E h_ h_g h_kept h_past h_path h_pose h_way h_px h_py h_free h_tips h_far h_queue h_times h_turns h_names h_named h_text h_told h_spare s_hasKept s_pasts s_pathMoves s_spot s_thrown s_faulty s_queued s_length s_at s_error s_tolds s_number a_1) H locs := hW
  refine lv_aload_n hx hb dX8_stoneComes_18 rfl (lv_at hl 0 rfl) ?_
  refine q_get hF hK hW fl_X8_7 0 rfl rfl dX8_stoneComes_19 ?_
  refine lv_bipush (v := 21) hx hb dX8_stoneComes_22 (by decide) ?_
  refine lv_iconst (v := 2) hx hb dX8_stoneComes_24 (by decide) ?_
  refine lv_aload_n hx hb dX8_stoneComes_25 rfl (lv_at hl 0 rfl) ?_
  refine q_get hF hK hW fl_X8_7 0 rfl rfl dX8_stoneComes_26 ?_
  refine lv_bipush (v := 20) hx hb dX8_stoneComes_29 (by decide) ?_
  refine q_iald hx hb hK hW 1 0 rfl rfl dX8_stoneComes_31 hf (fun hf => ?_)
  refine lv_imul hx hb dX8_stoneComes_32 ?_
  refine lv_iadd hx hb dX8_stoneComes_33 ?_
  refine lv_iconst (v := 1) hx hb dX8_stoneComes_34 (by decide) ?_
  refine lv_iadd hx hb dX8_stoneComes_35 ?_
  refine lv_iload_n hx hb dX8_stoneComes_36 rfl (lv_at hl 2 rfl) ?_
  refine q_iast hx hb hK hW 1 0 rfl rfl dX8_stoneComes_37 hf (fun a_2 hf H locs hW => ?_)
  have hW : WD D A s (w_X8_stoneComes E h_ h_g h_kept h_past h_path h_pose h_way h_px h_py h_free h_tips h_far h_queue h_times h_turns h_names h_named h_text h_told h_spare s_hasKept s_pasts s_pathMoves s_spot s_thrown s_faulty s_queued s_length s_at s_error s_tolds s_number a_2) H locs := hW
  refine lv_aload_n hx hb dX8_stoneComes_38 rfl (lv_at hl 0 rfl) ?_
  refine q_get hF hK hW fl_X8_7 0 rfl rfl dX8_stoneComes_39 ?_
  refine lv_bipush (v := 20) hx hb dX8_stoneComes_42 (by decide) ?_
  refine lv_dup2_11 hx hb dX8_stoneComes_44 rfl rfl ?_
  refine q_iald hx hb hK hW 1 0 rfl rfl dX8_stoneComes_45 hf (fun hf => ?_)
  refine lv_iconst (v := 1) hx hb dX8_stoneComes_46 (by decide) ?_
  refine lv_iadd hx hb dX8_stoneComes_47 ?_
  refine q_iast hx hb hK hW 1 0 rfl rfl dX8_stoneComes_48 hf (fun a_3 hf H locs hW => ?_)
  have hW : WD D A s (w_X8_stoneComes E h_ h_g h_kept h_past h_path h_pose h_way h_px h_py h_free h_tips h_far h_queue h_times h_turns h_names h_named h_text h_told h_spare s_hasKept s_pasts s_pathMoves s_spot s_thrown s_faulty s_queued s_length s_at s_error s_tolds s_number a_3) H locs := hW
  cases hf
  exact hret dX8_stoneComes_49 hW
def w_X8_addObstacle (E : Nat → ClassId) (h_ h_g h_kept h_past h_path h_pose h_way h_px h_py h_free h_tips h_far h_queue h_times h_turns h_names h_named h_text h_told h_spare : Nat) (s_hasKept : Int32) (s_pasts : Int32) (s_pathMoves : Int32) (s_spot : Int32) (s_thrown : Int32) (s_faulty : Int32) (s_queued : Int32) (s_length : Int32) (s_at : Int32) (s_error : Int32) (s_tolds : Int32) (s_number : Int32) (s_g : Nat → Int32) (s_past : Nat → Int32) : va_W := [(h_, .inr (10, [.ref h_g, .ref h_kept, .int s_hasKept, .ref h_past, .int s_pasts, .ref h_path, .int s_pathMoves, .int s_spot, .int s_thrown, .ref h_pose, .ref h_way, .ref h_px, .ref h_py, .int s_faulty, .ref h_free, .ref h_tips, .ref h_far, .ref h_queue, .int s_queued, .ref h_times, .ref h_turns, .ref h_names, .ref h_named, .ref h_text, .int s_length, .int s_at, .int s_error, .ref h_told, .int s_tolds, .int s_number, .ref h_spare])), (h_g, .inl (E 0, 141, .inl s_g)), (h_past, .inl (E 0, 1128, .inl s_past))]
set_option maxHeartbeats 4000000 in
set_option maxRecDepth 100000 in
theorem c_X8_addObstacle (l : Launch) (D : va_G) (E : Nat → ClassId) (tx : List (Nat × String)) (h_ h_g h_kept h_past h_path h_pose h_way h_px h_py h_free h_tips h_far h_queue h_times h_turns h_names h_named h_text h_told h_spare : Nat) (s_hasKept : Int32) (s_pasts : Int32) (s_pathMoves : Int32) (s_spot : Int32) (s_thrown : Int32) (s_faulty : Int32) (s_queued : Int32) (s_length : Int32) (s_at : Int32) (s_error : Int32) (s_tolds : Int32) (s_number : Int32) (s_g : Nat → Int32) (s_past : Nat → Int32) (x1 : Int32) (x2 : Int32) (r0 : Int32) (r1 : Int32) (r2 : Int32) (r3 : Int32) (r4 : Nat → Int32) (r5 : Nat → Int32) (hf : f_X8_addObstacle s_pasts s_pathMoves s_thrown s_g s_past x1 x2 = some (r0, r1, r2, r3, r4, r5)) : CI l yX8_addObstacle cX8_addObstacle 3 (some .int) 3 65 D E tx [.ref h_, .int x1, .int x2] (w_X8_addObstacle E h_ h_g h_kept h_past h_path h_pose h_way h_px h_py h_free h_tips h_far h_queue h_times h_turns h_names h_named h_text h_told h_spare s_hasKept s_pasts s_pathMoves s_spot s_thrown s_faulty s_queued s_length s_at s_error s_tolds s_number s_g s_past) (w_X8_addObstacle E h_ h_g h_kept h_past h_path h_pose h_way h_px h_py h_free h_tips h_far h_queue h_times h_turns h_names h_named h_text h_told h_spare s_hasKept r1 r2 s_spot r3 s_faulty s_queued s_length s_at s_error s_tolds s_number r4 r5) r0 := by
  refine CI_of RX8 pn_X8 rfl (Nat.le_of_ble_eq_true rfl) (fun p e s m args below meth c A Q hF hK hA hZ hW hret ls hl => ?_)
  have hx := hF.1
  have hb := hF.2.1
  have hl : lv_has ls 3 [(0, .ref h_), (1, .int x1), (2, .int x2)] := hl
  unfold f_X8_addObstacle at hf
  refine lv_aload_n hx hb dX8_addObstacle_0 rfl (lv_at hl 0 rfl) ?_
  refine lv_aload_n hx hb dX8_addObstacle_1 rfl (lv_at hl 0 rfl) ?_
  refine lv_iload_n hx hb dX8_addObstacle_2 rfl (lv_at hl 1 rfl) ?_
  refine lv_iload_n hx hb dX8_addObstacle_3 rfl (lv_at hl 2 rfl) ?_
  obtain ⟨o_1, hc_1, hf⟩ := ob_bind hf
  refine q_callI hF hl.1 hK hA hZ hW mv_X8_stoneStops ml_X8_117 (c_X8_stoneStops l D E tx h_ h_g h_kept h_past h_path h_pose h_way h_px h_py h_free h_tips h_far h_queue h_times h_turns h_names h_named h_text h_told h_spare s_hasKept s_pasts s_pathMoves s_spot s_thrown s_faulty s_queued s_length s_at s_error s_tolds s_number s_g x1 x2 o_1 hc_1) [0, 1] rfl rfl rfl rfl rfl rfl ⟨Nat.le_of_ble_eq_true rfl, Nat.le_of_ble_eq_true rfl⟩ ⟨Nat.le_of_ble_eq_true rfl, Nat.le_of_ble_eq_true rfl⟩ rfl rfl (Nat.le_of_ble_eq_true rfl) dX8_addObstacle_4 (fun H locs hW => ?_)
  have hW : WD D A s (w_X8_addObstacle E h_ h_g h_kept h_past h_path h_pose h_way h_px h_py h_free h_tips h_far h_queue h_times h_turns h_names h_named h_text h_told h_spare s_hasKept s_pasts s_pathMoves s_spot s_thrown s_faulty s_queued s_length s_at s_error s_tolds s_number s_g s_past) H locs := hW
  refine q_put hF hK hW fl_X8_76 ft_X8 rfl 0 rfl rfl rfl (Nat.le_of_ble_eq_true rfl) dX8_addObstacle_7 (fun H locs hW => ?_)
  have hW : WD D A s (w_X8_addObstacle E h_ h_g h_kept h_past h_path h_pose h_way h_px h_py h_free h_tips h_far h_queue h_times h_turns h_names h_named h_text h_told h_spare s_hasKept s_pasts s_pathMoves s_spot o_1 s_faulty s_queued s_length s_at s_error s_tolds s_number s_g s_past) H locs := hW
  refine lv_aload_n hx hb dX8_addObstacle_10 rfl (lv_at hl 0 rfl) ?_
  refine q_get hF hK hW fl_X8_76 0 rfl rfl dX8_addObstacle_11 ?_
  refine q_if_le (tgt := 19) hx hb dX8_addObstacle_14 (by decide) hf (fun hf => ?_) (fun hf => ?_)
  · refine lv_aload_n hx hb dX8_addObstacle_19 rfl (lv_at hl 0 rfl) ?_
    obtain ⟨o_2, hc_2, hf⟩ := ob_bind hf
    refine q_callV hF hl.1 hK hA hZ hW mv_X8_changes ml_X8_98 (c_X8_changes l D E tx h_ h_g h_kept h_past h_path h_pose h_way h_px h_py h_free h_tips h_far h_queue h_times h_turns h_names h_named h_text h_told h_spare s_hasKept s_pasts s_pathMoves s_spot o_1 s_faulty s_queued s_length s_at s_error s_tolds s_number s_g s_past o_2.1 o_2.2.1 o_2.2.2 hc_2) [0, 1, 2] rfl rfl rfl rfl rfl rfl ⟨Nat.le_of_ble_eq_true rfl, Nat.le_of_ble_eq_true rfl⟩ ⟨Nat.le_of_ble_eq_true rfl, Nat.le_of_ble_eq_true rfl⟩ rfl rfl (Nat.le_of_ble_eq_true rfl) dX8_addObstacle_20 (fun H locs hW => ?_)
    have hW : WD D A s (w_X8_addObstacle E h_ h_g h_kept h_past h_path h_pose h_way h_px h_py h_free h_tips h_far h_queue h_times h_turns h_names h_named h_text h_told h_spare s_hasKept o_2.1 o_2.2.1 s_spot o_1 s_faulty s_queued s_length s_at s_error s_tolds s_number s_g o_2.2.2) H locs := hW
    refine lv_aload_n hx hb dX8_addObstacle_23 rfl (lv_at hl 0 rfl) ?_
    refine lv_iload_n hx hb dX8_addObstacle_24 rfl (lv_at hl 1 rfl) ?_
    refine lv_iload_n hx hb dX8_addObstacle_25 rfl (lv_at hl 2 rfl) ?_
    obtain ⟨o_3, hc_3, hf⟩ := ob_bind hf
    refine q_callV hF hl.1 hK hA hZ hW mv_X8_stoneComes ml_X8_120 (c_X8_stoneComes l D E tx h_ h_g h_kept h_past h_path h_pose h_way h_px h_py h_free h_tips h_far h_queue h_times h_turns h_names h_named h_text h_told h_spare s_hasKept o_2.1 o_2.2.1 s_spot o_1 s_faulty s_queued s_length s_at s_error s_tolds s_number s_g x1 x2 o_3 hc_3) [0, 1] rfl rfl rfl rfl rfl rfl ⟨Nat.le_of_ble_eq_true rfl, Nat.le_of_ble_eq_true rfl⟩ ⟨Nat.le_of_ble_eq_true rfl, Nat.le_of_ble_eq_true rfl⟩ rfl rfl (Nat.le_of_ble_eq_true rfl) dX8_addObstacle_26 (fun H locs hW => ?_)
    have hW : WD D A s (w_X8_addObstacle E h_ h_g h_kept h_past h_path h_pose h_way h_px h_py h_free h_tips h_far h_queue h_times h_turns h_names h_named h_text h_told h_spare s_hasKept o_2.1 o_2.2.1 s_spot o_1 s_faulty s_queued s_length s_at s_error s_tolds s_number o_3 o_2.2.2) H locs := hW
    refine lv_aload_n hx hb dX8_addObstacle_29 rfl (lv_at hl 0 rfl) ?_
    refine q_get hF hK hW fl_X8_7 0 rfl rfl dX8_addObstacle_30 ?_
    refine lv_bipush (v := 20) hx hb dX8_addObstacle_33 (by decide) ?_
    refine q_iald hx hb hK hW 1 0 rfl rfl dX8_addObstacle_35 hf (fun hf => ?_)
    cases hf
    exact hret dX8_addObstacle_36 rfl rfl hW
  · refine lv_iconst (v := 0) hx hb dX8_addObstacle_17 (by decide) ?_
    cases hf
    exact hret dX8_addObstacle_18 rfl rfl hW
def w_X8_removeObstacle (E : Nat → ClassId) (h_ h_g h_kept h_past h_path h_pose h_way h_px h_py h_free h_tips h_far h_queue h_times h_turns h_names h_named h_text h_told h_spare : Nat) (s_hasKept : Int32) (s_pasts : Int32) (s_pathMoves : Int32) (s_spot : Int32) (s_thrown : Int32) (s_faulty : Int32) (s_queued : Int32) (s_length : Int32) (s_at : Int32) (s_error : Int32) (s_tolds : Int32) (s_number : Int32) (s_g : Nat → Int32) (s_past : Nat → Int32) : va_W := [(h_, .inr (10, [.ref h_g, .ref h_kept, .int s_hasKept, .ref h_past, .int s_pasts, .ref h_path, .int s_pathMoves, .int s_spot, .int s_thrown, .ref h_pose, .ref h_way, .ref h_px, .ref h_py, .int s_faulty, .ref h_free, .ref h_tips, .ref h_far, .ref h_queue, .int s_queued, .ref h_times, .ref h_turns, .ref h_names, .ref h_named, .ref h_text, .int s_length, .int s_at, .int s_error, .ref h_told, .int s_tolds, .int s_number, .ref h_spare])), (h_g, .inl (E 0, 141, .inl s_g)), (h_past, .inl (E 0, 1128, .inl s_past))]
set_option maxHeartbeats 4000000 in
set_option maxRecDepth 100000 in
theorem c_X8_removeObstacle (l : Launch) (D : va_G) (E : Nat → ClassId) (tx : List (Nat × String)) (h_ h_g h_kept h_past h_path h_pose h_way h_px h_py h_free h_tips h_far h_queue h_times h_turns h_names h_named h_text h_told h_spare : Nat) (s_hasKept : Int32) (s_pasts : Int32) (s_pathMoves : Int32) (s_spot : Int32) (s_thrown : Int32) (s_faulty : Int32) (s_queued : Int32) (s_length : Int32) (s_at : Int32) (s_error : Int32) (s_tolds : Int32) (s_number : Int32) (s_g : Nat → Int32) (s_past : Nat → Int32) (x1 : Int32) (x2 : Int32) (r0 : Int32) (r1 : Int32) (r2 : Int32) (r3 : Int32) (r4 : Nat → Int32) (r5 : Nat → Int32) (hf : f_X8_removeObstacle s_pasts s_pathMoves s_thrown s_g s_past x1 x2 = some (r0, r1, r2, r3, r4, r5)) : CI l yX8_removeObstacle cX8_removeObstacle 5 (some .int) 2 43 D E tx [.ref h_, .int x1, .int x2] (w_X8_removeObstacle E h_ h_g h_kept h_past h_path h_pose h_way h_px h_py h_free h_tips h_far h_queue h_times h_turns h_names h_named h_text h_told h_spare s_hasKept s_pasts s_pathMoves s_spot s_thrown s_faulty s_queued s_length s_at s_error s_tolds s_number s_g s_past) (w_X8_removeObstacle E h_ h_g h_kept h_past h_path h_pose h_way h_px h_py h_free h_tips h_far h_queue h_times h_turns h_names h_named h_text h_told h_spare s_hasKept r1 r2 s_spot r3 s_faulty s_queued s_length s_at s_error s_tolds s_number r4 r5) r0 := by
  refine CI_of RX8 pn_X8 rfl (Nat.le_of_ble_eq_true rfl) (fun p e s m args below meth c A Q hF hK hA hZ hW hret ls hl => ?_)
  have hx := hF.1
  have hb := hF.2.1
  have hl : lv_has ls 5 [(0, .ref h_), (1, .int x1), (2, .int x2)] := hl
  unfold f_X8_removeObstacle at hf
  have hL29 : ∀ (s_pasts_29 : Int32) (s_pathMoves_29 : Int32) (s_thrown_29 : Int32) (s_g_29 : Nat → Int32) (s_past_29 : Nat → Int32) (y3_29 : Int32) (k1_29 : Int32) (H : Heap) (locs : List Loc) (ls : Array Slot), f_X8_removeObstacle_L29 s_pasts_29 s_pathMoves_29 s_thrown_29 s_g_29 s_past_29 y3_29 k1_29 = some (r0, r1, r2, r3, r4, r5) → lv_has ls 5 [(0, .ref h_), (3, .int y3_29)] → WD D A s (w_X8_removeObstacle E h_ h_g h_kept h_past h_path h_pose h_way h_px h_py h_free h_tips h_far h_queue h_times h_turns h_names h_named h_text h_told h_spare s_hasKept s_pasts_29 s_pathMoves_29 s_spot s_thrown_29 s_faulty s_queued s_length s_at s_error s_tolds s_number s_g_29 s_past_29) H locs → W p l e (RM 2 43) s m args below meth c H locs 0 0 Q (F0 m 29 ls [.int k1_29, .ref h_]) := by
    intro s_pasts_29 s_pathMoves_29 s_thrown_29 s_g_29 s_past_29 y3_29 k1_29 H locs ls hf hl hW
    unfold f_X8_removeObstacle_L29 at hf
    refine q_put hF hK hW fl_X8_76 ft_X8 rfl 0 rfl rfl rfl (Nat.le_of_ble_eq_true rfl) dX8_removeObstacle_29 (fun H locs hW => ?_)
    have hW : WD D A s (w_X8_removeObstacle E h_ h_g h_kept h_past h_path h_pose h_way h_px h_py h_free h_tips h_far h_queue h_times h_turns h_names h_named h_text h_told h_spare s_hasKept s_pasts_29 s_pathMoves_29 s_spot k1_29 s_faulty s_queued s_length s_at s_error s_tolds s_number s_g_29 s_past_29) H locs := hW
    refine lv_aload_n hx hb dX8_removeObstacle_32 rfl (lv_at hl 0 rfl) ?_
    refine q_get hF hK hW fl_X8_76 0 rfl rfl dX8_removeObstacle_33 ?_
    refine q_if_le (tgt := 41) hx hb dX8_removeObstacle_36 (by decide) hf (fun hf => ?_) (fun hf => ?_)
    · refine lv_aload_n hx hb dX8_removeObstacle_41 rfl (lv_at hl 0 rfl) ?_
      obtain ⟨o_1, hc_1, hf⟩ := ob_bind hf
      refine q_callV hF hl.1 hK hA hZ hW mv_X8_changes ml_X8_98 (c_X8_changes l D E tx h_ h_g h_kept h_past h_path h_pose h_way h_px h_py h_free h_tips h_far h_queue h_times h_turns h_names h_named h_text h_told h_spare s_hasKept s_pasts_29 s_pathMoves_29 s_spot k1_29 s_faulty s_queued s_length s_at s_error s_tolds s_number s_g_29 s_past_29 o_1.1 o_1.2.1 o_1.2.2 hc_1) [0, 1, 2] rfl rfl rfl rfl rfl rfl ⟨Nat.le_of_ble_eq_true rfl, Nat.le_of_ble_eq_true rfl⟩ ⟨Nat.le_of_ble_eq_true rfl, Nat.le_of_ble_eq_true rfl⟩ rfl rfl (Nat.le_of_ble_eq_true rfl) dX8_removeObstacle_42 (fun H locs hW => ?_)
      have hW : WD D A s (w_X8_removeObstacle E h_ h_g h_kept h_past h_path h_pose h_way h_px h_py h_free h_tips h_far h_queue h_times h_turns h_names h_named h_text h_told h_spare s_hasKept o_1.1 o_1.2.1 s_spot k1_29 s_faulty s_queued s_length s_at s_error s_tolds s_number s_g_29 o_1.2.2) H locs := hW
      refine lv_aload_n hx hb dX8_removeObstacle_45 rfl (lv_at hl 0 rfl) ?_
      refine q_get hF hK hW fl_X8_7 0 rfl rfl dX8_removeObstacle_46 ?_
      refine lv_bipush (v := 20) hx hb dX8_removeObstacle_49 (by decide) ?_
      refine lv_dup2_11 hx hb dX8_removeObstacle_51 rfl rfl ?_
      refine q_iald hx hb hK hW 1 0 rfl rfl dX8_removeObstacle_52 hf (fun hf => ?_)
      refine lv_iconst (v := 1) hx hb dX8_removeObstacle_53 (by decide) ?_
      refine lv_isub hx hb dX8_removeObstacle_54 ?_
      refine q_iast hx hb hK hW 1 0 rfl rfl dX8_removeObstacle_55 hf (fun a_2 hf H locs hW => ?_)
      have hW : WD D A s (w_X8_removeObstacle E h_ h_g h_kept h_past h_path h_pose h_way h_px h_py h_free h_tips h_far h_queue h_times h_turns h_names h_named h_text h_told h_spare s_hasKept o_1.1 o_1.2.1 s_spot k1_29 s_faulty s_queued s_length s_at s_error s_tolds s_number a_2 o_1.2.2) H locs := hW
      refine lv_bipush (v := 21) hx hb dX8_removeObstacle_56 (by decide) ?_
      refine lv_iconst (v := 2) hx hb dX8_removeObstacle_58 (by decide) ?_
      refine lv_iload_n hx hb dX8_removeObstacle_59 rfl (lv_at hl 1 rfl) ?_
      refine lv_imul hx hb dX8_removeObstacle_60 ?_
      refine lv_iadd hx hb dX8_removeObstacle_61 ?_
      refine lv_topi (fun v_3 ev_3 => ?_)
      replace hf := ob_let hf ev_3
      refine lv_istore (lv' := [(4, .int v_3), (0, .ref h_), (3, .int y3_29)]) hx hb dX8_removeObstacle_62 hl (by decide) rfl (fun ls hl => ?_)
      have hB64 : ∀ (n : Nat) (s_g_64 : Nat → Int32) (z4_64 : Int32) (ex : (Nat → Int32)) (H : Heap) (locs : List Loc) (ls : Array Slot), LPF (fun z => f_X8_removeObstacle_B64 o_1.1 o_1.2.1 k1_29 z.1 o_1.2.2 z.2) n (s_g_64, z4_64) = some ex → lv_has ls 5 [(0, .ref h_), (4, .int z4_64)] → WD D A s (w_X8_removeObstacle E h_ h_g h_kept h_past h_path h_pose h_way h_px h_py h_free h_tips h_far h_queue h_times h_turns h_names h_named h_text h_told h_spare s_hasKept o_1.1 o_1.2.1 s_spot k1_29 s_faulty s_queued s_length s_at s_error s_tolds s_number s_g_64 o_1.2.2) H locs → (∀ (H : Heap) (locs : List Loc) (ls : Array Slot), lv_has ls 5 [(0, .ref h_)] → WD D A s (w_X8_removeObstacle E h_ h_g h_kept h_past h_path h_pose h_way h_px h_py h_free h_tips h_far h_queue h_times h_turns h_names h_named h_text h_told h_spare s_hasKept o_1.1 o_1.2.1 s_spot k1_29 s_faulty s_queued s_length s_at s_error s_tolds s_number ex o_1.2.2) H locs → W p l e (RM 2 43) s m args below meth c H locs 0 0 Q (F0 m 103 ls [])) → W p l e (RM 2 43) s m args below meth c H locs 0 0 Q (F0 m 64 ls []) := by
        intro n
        induction n with
        | zero => intro s_g_64 z4_64 ex H locs ls h9; exact (ob_lp0 h9).elim
        | succ n ih =>
          intro s_g_64 z4_64 ex H locs ls h9 hl hW kx0
          obtain ⟨q9, hf, h9, k9⟩ := ob_lp h9
          have hf : f_X8_removeObstacle_B64 o_1.1 o_1.2.1 k1_29 s_g_64 o_1.2.2 z4_64 = some q9 := hf
          unfold f_X8_removeObstacle_B64 at hf
          refine lv_iload hx hb dX8_removeObstacle_64 (lv_at hl 1 rfl) ?_
          refine lv_bipush (v := 21) hx hb dX8_removeObstacle_66 (by decide) ?_
          refine lv_iconst (v := 2) hx hb dX8_removeObstacle_68 (by decide) ?_
          refine lv_aload_n hx hb dX8_removeObstacle_69 rfl (lv_at hl 0 rfl) ?_
          refine q_get hF hK hW fl_X8_7 0 rfl rfl dX8_removeObstacle_70 ?_
          refine lv_bipush (v := 20) hx hb dX8_removeObstacle_73 (by decide) ?_
          refine q_iald hx hb hK hW 1 0 rfl rfl dX8_removeObstacle_75 hf (fun hf => ?_)
          refine lv_imul hx hb dX8_removeObstacle_76 ?_
          refine lv_iadd hx hb dX8_removeObstacle_77 ?_
          refine q_icmp_ge (tgt := 103) hx hb dX8_removeObstacle_78 (by decide) hf (fun hf => ?_) (fun hf => ?_)
          · cases hf
            have hx9 := k9 _ rfl
            subst hx9
            exact kx0 _ _ _ (lv_sub hl [0] rfl) hW
          · refine lv_aload_n hx hb dX8_removeObstacle_81 rfl (lv_at hl 0 rfl) ?_
            refine q_get hF hK hW fl_X8_7 0 rfl rfl dX8_removeObstacle_82 ?_
            refine lv_iload hx hb dX8_removeObstacle_85 (lv_at hl 1 rfl) ?_
            refine lv_aload_n hx hb dX8_removeObstacle_87 rfl (lv_at hl 0 rfl) ?_
            refine q_get hF hK hW fl_X8_7 0 rfl rfl dX8_removeObstacle_88 ?_
            refine lv_iload hx hb dX8_removeObstacle_91 (lv_at hl 1 rfl) ?_
            refine lv_iconst (v := 2) hx hb dX8_removeObstacle_93 (by decide) ?_
            refine lv_iadd hx hb dX8_removeObstacle_94 ?_
            refine q_iald hx hb hK hW 1 0 rfl rfl dX8_removeObstacle_95 hf (fun hf => ?_)
            refine q_iast hx hb hK hW 1 0 rfl rfl dX8_removeObstacle_96 hf (fun a_4 hf H locs hW => ?_)
            have hW : WD D A s (w_X8_removeObstacle E h_ h_g h_kept h_past h_path h_pose h_way h_px h_py h_free h_tips h_far h_queue h_times h_turns h_names h_named h_text h_told h_spare s_hasKept o_1.1 o_1.2.1 s_spot k1_29 s_faulty s_queued s_length s_at s_error s_tolds s_number a_4 o_1.2.2) H locs := hW
            obtain ⟨v_5, ev_5⟩ : ∃ y : Int32, y = z4_64 + 1 := ⟨_, rfl⟩
            replace hf := ob_let hf ev_5
            refine lv_iinc (v := v_5) (lv' := [(4, .int v_5), (0, .ref h_)]) hx hb dX8_removeObstacle_97 hl (k := 1) rfl (by rw [ev_5]; rfl) (by decide) rfl (fun ls hl => ?_)
            refine lv_goto (tgt := 64) hx hb dX8_removeObstacle_100 (by decide) ?_
            cases hf
            exact ih a_4 v_5 ex _ _ _ (h9 _ rfl) (lv_sub hl [1, 0] rfl) hW kx0
      obtain ⟨e_6, hc_6, hf⟩ := ob_bind hf
      refine hB64 lfuel a_2 v_3 e_6 _ _ _ hc_6 (lv_sub hl [1, 0] rfl) hW ?_
      intro H locs ls hl hW
      refine lv_aload_n hx hb dX8_removeObstacle_103 rfl (lv_at hl 0 rfl) ?_
      refine q_get hF hK hW fl_X8_7 0 rfl rfl dX8_removeObstacle_104 ?_
      refine lv_bipush (v := 20) hx hb dX8_removeObstacle_107 (by decide) ?_
      refine q_iald hx hb hK hW 1 0 rfl rfl dX8_removeObstacle_109 hf (fun hf => ?_)
      cases hf
      exact hret dX8_removeObstacle_110 rfl rfl hW
    · refine lv_iconst (v := 0) hx hb dX8_removeObstacle_39 (by decide) ?_
      cases hf
      exact hret dX8_removeObstacle_40 rfl rfl hW
  refine lv_aload_n hx hb dX8_removeObstacle_0 rfl (lv_at hl 0 rfl) ?_
  refine lv_iload_n hx hb dX8_removeObstacle_1 rfl (lv_at hl 1 rfl) ?_
  refine lv_iload_n hx hb dX8_removeObstacle_2 rfl (lv_at hl 2 rfl) ?_
  obtain ⟨o_7, hc_7, hf⟩ := ob_bind hf
  refine q_callI hF hl.1 hK hA hZ hW mv_X8_stoneAt ml_X8_113 (c_X8_stoneAt l D E tx h_ h_g h_kept h_past h_path h_pose h_way h_px h_py h_free h_tips h_far h_queue h_times h_turns h_names h_named h_text h_told h_spare s_hasKept s_pasts s_pathMoves s_spot s_thrown s_faulty s_queued s_length s_at s_error s_tolds s_number s_g x1 x2 o_7 hc_7) [0, 1] rfl rfl rfl rfl rfl rfl ⟨Nat.le_of_ble_eq_true rfl, Nat.le_of_ble_eq_true rfl⟩ ⟨Nat.le_of_ble_eq_true rfl, Nat.le_of_ble_eq_true rfl⟩ rfl rfl (Nat.le_of_ble_eq_true rfl) dX8_removeObstacle_3 (fun H locs hW => ?_)
  have hW : WD D A s (w_X8_removeObstacle E h_ h_g h_kept h_past h_path h_pose h_way h_px h_py h_free h_tips h_far h_queue h_times h_turns h_names h_named h_text h_told h_spare s_hasKept s_pasts s_pathMoves s_spot s_thrown s_faulty s_queued s_length s_at s_error s_tolds s_number s_g s_past) H locs := hW
  refine lv_istore_n (lv' := [(3, .int o_7), (0, .ref h_), (1, .int x1), (2, .int x2)]) hx hb dX8_removeObstacle_6 rfl hl (by decide) rfl (fun ls hl => ?_)
  refine lv_aload_n hx hb dX8_removeObstacle_7 rfl (lv_at hl 1 rfl) ?_
  refine lv_iload_n hx hb dX8_removeObstacle_8 rfl (lv_at hl 2 rfl) ?_
  refine lv_iload_n hx hb dX8_removeObstacle_9 rfl (lv_at hl 3 rfl) ?_
  obtain ⟨o_8, hc_8, hf⟩ := ob_bind hf
  refine q_callSI hF hl.1 hK hA hZ hW ms_X8_isCell ml_X8_109 (c_X8_isCell l D E tx x1 x2 o_8 hc_8) [] rfl rfl rfl ⟨Nat.le_of_ble_eq_true rfl, Nat.le_of_ble_eq_true rfl⟩ ⟨Nat.le_of_ble_eq_true rfl, Nat.le_of_ble_eq_true rfl⟩ rfl rfl (Nat.le_of_ble_eq_true rfl) dX8_removeObstacle_10 (fun H locs hW => ?_)
  have hW : WD D A s (w_X8_removeObstacle E h_ h_g h_kept h_past h_path h_pose h_way h_px h_py h_free h_tips h_far h_queue h_times h_turns h_names h_named h_text h_told h_spare s_hasKept s_pasts s_pathMoves s_spot s_thrown s_faulty s_queued s_length s_at s_error s_tolds s_number s_g s_past) H locs := hW
  refine q_if_eq (tgt := 28) hx hb dX8_removeObstacle_13 (by decide) hf (fun hf => ?_) (fun hf => ?_)
  · refine lv_iconst (v := 1) hx hb dX8_removeObstacle_28 (by decide) ?_
    exact hL29 s_pasts s_pathMoves s_thrown s_g s_past o_7 1 _ _ _ hf (lv_sub hl [1, 0] rfl) hW
  · refine lv_iload_n hx hb dX8_removeObstacle_16 rfl (lv_at hl 0 rfl) ?_
    refine q_if_ge (tgt := 24) hx hb dX8_removeObstacle_17 (by decide) hf (fun hf => ?_) (fun hf => ?_)
    · refine lv_iconst (v := 0) hx hb dX8_removeObstacle_24 (by decide) ?_
      refine lv_goto (tgt := 29) hx hb dX8_removeObstacle_25 (by decide) ?_
      exact hL29 s_pasts s_pathMoves s_thrown s_g s_past o_7 0 _ _ _ hf (lv_sub hl [1, 0] rfl) hW
    · refine lv_iconst (v := 2) hx hb dX8_removeObstacle_20 (by decide) ?_
      refine lv_goto (tgt := 29) hx hb dX8_removeObstacle_21 (by decide) ?_
      exact hL29 s_pasts s_pathMoves s_thrown s_g s_past o_7 2 _ _ _ hf (lv_sub hl [1, 0] rfl) hW
def w_X8_values (E : Nat → ClassId) (h_ h_g h_kept h_past h_path h_pose h_way h_px h_py h_free h_tips h_far h_queue h_times h_turns h_names h_named h_text h_told h_spare : Nat) (s_hasKept : Int32) (s_pasts : Int32) (s_pathMoves : Int32) (s_spot : Int32) (s_thrown : Int32) (s_faulty : Int32) (s_queued : Int32) (s_length : Int32) (s_at : Int32) (s_error : Int32) (s_tolds : Int32) (s_number : Int32) (s_g : Nat → Int32) : va_W := [(h_, .inr (10, [.ref h_g, .ref h_kept, .int s_hasKept, .ref h_past, .int s_pasts, .ref h_path, .int s_pathMoves, .int s_spot, .int s_thrown, .ref h_pose, .ref h_way, .ref h_px, .ref h_py, .int s_faulty, .ref h_free, .ref h_tips, .ref h_far, .ref h_queue, .int s_queued, .ref h_times, .ref h_turns, .ref h_names, .ref h_named, .ref h_text, .int s_length, .int s_at, .int s_error, .ref h_told, .int s_tolds, .int s_number, .ref h_spare])), (h_g, .inl (E 0, 141, .inl s_g))]
set_option maxHeartbeats 4000000 in
set_option maxRecDepth 100000 in
theorem c_X8_values (l : Launch) (D : va_G) (E : Nat → ClassId) (tx : List (Nat × String)) (h_ h_g h_kept h_past h_path h_pose h_way h_px h_py h_free h_tips h_far h_queue h_times h_turns h_names h_named h_text h_told h_spare : Nat) (s_hasKept : Int32) (s_pasts : Int32) (s_pathMoves : Int32) (s_spot : Int32) (s_thrown : Int32) (s_faulty : Int32) (s_queued : Int32) (s_length : Int32) (s_at : Int32) (s_error : Int32) (s_tolds : Int32) (s_number : Int32) (s_g : Nat → Int32) (x1 : Int32) (r0 : Int32) (hf : f_X8_values s_g x1 = some r0) : CI l yX8_values cX8_values 2 (some .int) 1 21 D E tx [.ref h_, .int x1] (w_X8_values E h_ h_g h_kept h_past h_path h_pose h_way h_px h_py h_free h_tips h_far h_queue h_times h_turns h_names h_named h_text h_told h_spare s_hasKept s_pasts s_pathMoves s_spot s_thrown s_faulty s_queued s_length s_at s_error s_tolds s_number s_g) (w_X8_values E h_ h_g h_kept h_past h_path h_pose h_way h_px h_py h_free h_tips h_far h_queue h_times h_turns h_names h_named h_text h_told h_spare s_hasKept s_pasts s_pathMoves s_spot s_thrown s_faulty s_queued s_length s_at s_error s_tolds s_number s_g) r0 := by
  refine CI_of RX8 pn_X8 rfl (Nat.le_of_ble_eq_true rfl) (fun p e s m args below meth c A Q hF hK hA hZ hW hret ls hl => ?_)
  have hx := hF.1
  have hb := hF.2.1
  have hl : lv_has ls 2 [(0, .ref h_), (1, .int x1)] := hl
  unfold f_X8_values at hf
  refine lv_aload_n hx hb dX8_values_0 rfl (lv_at hl 0 rfl) ?_
  refine lv_iload_n hx hb dX8_values_1 rfl (lv_at hl 1 rfl) ?_
  obtain ⟨o_1, hc_1, hf⟩ := ob_bind hf
  refine q_callI hF hl.1 hK hA hZ hW mv_X8_down ml_X8_124 (c_X8_down l D E tx h_ h_g h_kept h_past h_path h_pose h_way h_px h_py h_free h_tips h_far h_queue h_times h_turns h_names h_named h_text h_told h_spare s_hasKept s_pasts s_pathMoves s_spot s_thrown s_faulty s_queued s_length s_at s_error s_tolds s_number s_g x1 o_1 hc_1) [0, 1] rfl rfl rfl rfl rfl rfl ⟨Nat.le_of_ble_eq_true rfl, Nat.le_of_ble_eq_true rfl⟩ ⟨Nat.le_of_ble_eq_true rfl, Nat.le_of_ble_eq_true rfl⟩ rfl rfl (Nat.le_of_ble_eq_true rfl) dX8_values_2 (fun H locs hW => ?_)
  have hW : WD D A s (w_X8_values E h_ h_g h_kept h_past h_path h_pose h_way h_px h_py h_free h_tips h_far h_queue h_times h_turns h_names h_named h_text h_told h_spare s_hasKept s_pasts s_pathMoves s_spot s_thrown s_faulty s_queued s_length s_at s_error s_tolds s_number s_g) H locs := hW
  refine lv_aload_n hx hb dX8_values_5 rfl (lv_at hl 0 rfl) ?_
  refine lv_iload_n hx hb dX8_values_6 rfl (lv_at hl 1 rfl) ?_
  obtain ⟨o_2, hc_2, hf⟩ := ob_bind hf
  refine q_callI hF hl.1 hK hA hZ hW mv_X8_up ml_X8_127 (c_X8_up l D E tx h_ h_g h_kept h_past h_path h_pose h_way h_px h_py h_free h_tips h_far h_queue h_times h_turns h_names h_named h_text h_told h_spare s_hasKept s_pasts s_pathMoves s_spot s_thrown s_faulty s_queued s_length s_at s_error s_tolds s_number s_g x1 o_2 hc_2) [0, 1] rfl rfl rfl rfl rfl rfl ⟨Nat.le_of_ble_eq_true rfl, Nat.le_of_ble_eq_true rfl⟩ ⟨Nat.le_of_ble_eq_true rfl, Nat.le_of_ble_eq_true rfl⟩ rfl rfl (Nat.le_of_ble_eq_true rfl) dX8_values_7 (fun H locs hW => ?_)
  have hW : WD D A s (w_X8_values E h_ h_g h_kept h_past h_path h_pose h_way h_px h_py h_free h_tips h_far h_queue h_times h_turns h_names h_named h_text h_told h_spare s_hasKept s_pasts s_pathMoves s_spot s_thrown s_faulty s_queued s_length s_at s_error s_tolds s_number s_g) H locs := hW
  refine lv_iadd hx hb dX8_values_10 ?_
  refine lv_iconst (v := 1) hx hb dX8_values_11 (by decide) ?_
  refine lv_iadd hx hb dX8_values_12 ?_
  cases hf
  exact hret dX8_values_13 rfl rfl hW
def w_X8_poses (E : Nat → ClassId) (h_ h_g h_kept h_past h_path h_pose h_way h_px h_py h_free h_tips h_far h_queue h_times h_turns h_names h_named h_text h_told h_spare : Nat) (s_hasKept : Int32) (s_pasts : Int32) (s_pathMoves : Int32) (s_spot : Int32) (s_thrown : Int32) (s_faulty : Int32) (s_queued : Int32) (s_length : Int32) (s_at : Int32) (s_error : Int32) (s_tolds : Int32) (s_number : Int32) (s_g : Nat → Int32) : va_W := [(h_, .inr (10, [.ref h_g, .ref h_kept, .int s_hasKept, .ref h_past, .int s_pasts, .ref h_path, .int s_pathMoves, .int s_spot, .int s_thrown, .ref h_pose, .ref h_way, .ref h_px, .ref h_py, .int s_faulty, .ref h_free, .ref h_tips, .ref h_far, .ref h_queue, .int s_queued, .ref h_times, .ref h_turns, .ref h_names, .ref h_named, .ref h_text, .int s_length, .int s_at, .int s_error, .ref h_told, .int s_tolds, .int s_number, .ref h_spare])), (h_g, .inl (E 0, 141, .inl s_g))]
set_option maxHeartbeats 4000000 in
set_option maxRecDepth 100000 in
theorem c_X8_poses (l : Launch) (D : va_G) (E : Nat → ClassId) (tx : List (Nat × String)) (h_ h_g h_kept h_past h_path h_pose h_way h_px h_py h_free h_tips h_far h_queue h_times h_turns h_names h_named h_text h_told h_spare : Nat) (s_hasKept : Int32) (s_pasts : Int32) (s_pathMoves : Int32) (s_spot : Int32) (s_thrown : Int32) (s_faulty : Int32) (s_queued : Int32) (s_length : Int32) (s_at : Int32) (s_error : Int32) (s_tolds : Int32) (s_number : Int32) (s_g : Nat → Int32)  (r0 : Int32) (hf : f_X8_poses s_g = some r0) : CI l yX8_poses cX8_poses 3 (some .int) 2 42 D E tx [.ref h_] (w_X8_poses E h_ h_g h_kept h_past h_path h_pose h_way h_px h_py h_free h_tips h_far h_queue h_times h_turns h_names h_named h_text h_told h_spare s_hasKept s_pasts s_pathMoves s_spot s_thrown s_faulty s_queued s_length s_at s_error s_tolds s_number s_g) (w_X8_poses E h_ h_g h_kept h_past h_path h_pose h_way h_px h_py h_free h_tips h_far h_queue h_times h_turns h_names h_named h_text h_told h_spare s_hasKept s_pasts s_pathMoves s_spot s_thrown s_faulty s_queued s_length s_at s_error s_tolds s_number s_g) r0 := by
  refine CI_of RX8 pn_X8 rfl (Nat.le_of_ble_eq_true rfl) (fun p e s m args below meth c A Q hF hK hA hZ hW hret ls hl => ?_)
  have hx := hF.1
  have hb := hF.2.1
  have hl : lv_has ls 3 [(0, .ref h_)] := hl
  unfold f_X8_poses at hf
  refine lv_iconst (v := 1) hx hb dX8_poses_0 (by decide) ?_
  refine lv_istore_n (lv' := [(1, .int 1), (0, .ref h_)]) hx hb dX8_poses_1 rfl hl (by decide) rfl (fun ls hl => ?_)
  refine lv_iconst (v := 0) hx hb dX8_poses_2 (by decide) ?_
  refine lv_istore_n (lv' := [(2, .int 0), (1, .int 1), (0, .ref h_)]) hx hb dX8_poses_3 rfl hl (by decide) rfl (fun ls hl => ?_)
  have hB4 : ∀ (n : Nat) (z1_4 : Int32) (z2_4 : Int32) (ex : Int32) (H : Heap) (locs : List Loc) (ls : Array Slot), LPF (fun z => f_X8_poses_B4 s_g z.1 z.2) n (z1_4, z2_4) = some ex → lv_has ls 3 [(0, .ref h_), (1, .int z1_4), (2, .int z2_4)] → WD D A s (w_X8_poses E h_ h_g h_kept h_past h_path h_pose h_way h_px h_py h_free h_tips h_far h_queue h_times h_turns h_names h_named h_text h_told h_spare s_hasKept s_pasts s_pathMoves s_spot s_thrown s_faulty s_queued s_length s_at s_error s_tolds s_number s_g) H locs → (∀ (H : Heap) (locs : List Loc) (ls : Array Slot), lv_has ls 3 [(1, .int ex)] → WD D A s (w_X8_poses E h_ h_g h_kept h_past h_path h_pose h_way h_px h_py h_free h_tips h_far h_queue h_times h_turns h_names h_named h_text h_told h_spare s_hasKept s_pasts s_pathMoves s_spot s_thrown s_faulty s_queued s_length s_at s_error s_tolds s_number s_g) H locs → W p l e (RM 2 42) s m args below meth c H locs 0 0 Q (F0 m 28 ls [])) → W p l e (RM 2 42) s m args below meth c H locs 0 0 Q (F0 m 4 ls []) := by
    intro n
    induction n with
    | zero => intro z1_4 z2_4 ex H locs ls h9; exact (ob_lp0 h9).elim
    | succ n ih =>
      intro z1_4 z2_4 ex H locs ls h9 hl hW kx0
      obtain ⟨q9, hf, h9, k9⟩ := ob_lp h9
      have hf : f_X8_poses_B4 s_g z1_4 z2_4 = some q9 := hf
      unfold f_X8_poses_B4 at hf
      refine lv_iload_n hx hb dX8_poses_4 rfl (lv_at hl 2 rfl) ?_
      refine lv_aload_n hx hb dX8_poses_5 rfl (lv_at hl 0 rfl) ?_
      refine q_get hF hK hW fl_X8_7 0 rfl rfl dX8_poses_6 ?_
      refine lv_iconst (v := 0) hx hb dX8_poses_9 (by decide) ?_
      refine q_iald hx hb hK hW 1 0 rfl rfl dX8_poses_10 hf (fun hf => ?_)
      refine q_icmp_ge (tgt := 28) hx hb dX8_poses_11 (by decide) hf (fun hf => ?_) (fun hf => ?_)
      · cases hf
        have hx9 := k9 _ rfl
        subst hx9
        exact kx0 _ _ _ (lv_sub hl [1] rfl) hW
      · refine lv_iload_n hx hb dX8_poses_14 rfl (lv_at hl 1 rfl) ?_
        refine lv_aload_n hx hb dX8_poses_15 rfl (lv_at hl 0 rfl) ?_
        refine lv_iload_n hx hb dX8_poses_16 rfl (lv_at hl 2 rfl) ?_
        obtain ⟨o_1, hc_1, hf⟩ := ob_bind hf
        refine q_callI hF hl.1 hK hA hZ hW mv_X8_values ml_X8_130 (c_X8_values l D E tx h_ h_g h_kept h_past h_path h_pose h_way h_px h_py h_free h_tips h_far h_queue h_times h_turns h_names h_named h_text h_told h_spare s_hasKept s_pasts s_pathMoves s_spot s_thrown s_faulty s_queued s_length s_at s_error s_tolds s_number s_g z2_4 o_1 hc_1) [0, 1] rfl rfl rfl rfl rfl rfl ⟨Nat.le_of_ble_eq_true rfl, Nat.le_of_ble_eq_true rfl⟩ ⟨Nat.le_of_ble_eq_true rfl, Nat.le_of_ble_eq_true rfl⟩ rfl rfl (Nat.le_of_ble_eq_true rfl) dX8_poses_17 (fun H locs hW => ?_)
        have hW : WD D A s (w_X8_poses E h_ h_g h_kept h_past h_path h_pose h_way h_px h_py h_free h_tips h_far h_queue h_times h_turns h_names h_named h_text h_told h_spare s_hasKept s_pasts s_pathMoves s_spot s_thrown s_faulty s_queued s_length s_at s_error s_tolds s_number s_g) H locs := hW
        refine lv_imul hx hb dX8_poses_20 ?_
        refine lv_topi (fun v_2 ev_2 => ?_)
        replace hf := ob_let hf ev_2
        refine lv_istore_n (lv' := [(1, .int v_2), (0, .ref h_), (2, .int z2_4)]) hx hb dX8_poses_21 rfl hl (by decide) rfl (fun ls hl => ?_)
        obtain ⟨v_3, ev_3⟩ : ∃ y : Int32, y = z2_4 + 1 := ⟨_, rfl⟩
        replace hf := ob_let hf ev_3
        refine lv_iinc (v := v_3) (lv' := [(2, .int v_3), (1, .int v_2), (0, .ref h_)]) hx hb dX8_poses_22 hl (k := 2) rfl (by rw [ev_3]; rfl) (by decide) rfl (fun ls hl => ?_)
        refine lv_goto (tgt := 4) hx hb dX8_poses_25 (by decide) ?_
        cases hf
        exact ih v_2 v_3 ex _ _ _ (h9 _ rfl) (lv_sub hl [2, 1, 0] rfl) hW kx0
  obtain ⟨e_4, hc_4, hf⟩ := ob_bind hf
  refine hB4 lfuel 1 0 e_4 _ _ _ hc_4 (lv_sub hl [2, 1, 0] rfl) hW ?_
  intro H locs ls hl hW
  refine lv_iload_n hx hb dX8_poses_28 rfl (lv_at hl 0 rfl) ?_
  cases hf
  exact hret dX8_poses_29 rfl rfl hW
def w_X8_count (E : Nat → ClassId) (h_ h_g h_kept h_past h_path h_pose h_way h_px h_py h_free h_tips h_far h_queue h_times h_turns h_names h_named h_text h_told h_spare : Nat) (s_hasKept : Int32) (s_pasts : Int32) (s_pathMoves : Int32) (s_spot : Int32) (s_thrown : Int32) (s_faulty : Int32) (s_queued : Int32) (s_length : Int32) (s_at : Int32) (s_error : Int32) (s_tolds : Int32) (s_number : Int32) (s_g : Nat → Int32) : va_W := [(h_, .inr (10, [.ref h_g, .ref h_kept, .int s_hasKept, .ref h_past, .int s_pasts, .ref h_path, .int s_pathMoves, .int s_spot, .int s_thrown, .ref h_pose, .ref h_way, .ref h_px, .ref h_py, .int s_faulty, .ref h_free, .ref h_tips, .ref h_far, .ref h_queue, .int s_queued, .ref h_times, .ref h_turns, .ref h_names, .ref h_named, .ref h_text, .int s_length, .int s_at, .int s_error, .ref h_told, .int s_tolds, .int s_number, .ref h_spare])), (h_g, .inl (E 0, 141, .inl s_g))]
set_option maxHeartbeats 4000000 in
set_option maxRecDepth 100000 in
theorem c_X8_count (l : Launch) (D : va_G) (E : Nat → ClassId) (tx : List (Nat × String)) (h_ h_g h_kept h_past h_path h_pose h_way h_px h_py h_free h_tips h_far h_queue h_times h_turns h_names h_named h_text h_told h_spare : Nat) (s_hasKept : Int32) (s_pasts : Int32) (s_pathMoves : Int32) (s_spot : Int32) (s_thrown : Int32) (s_faulty : Int32) (s_queued : Int32) (s_length : Int32) (s_at : Int32) (s_error : Int32) (s_tolds : Int32) (s_number : Int32) (s_g : Nat → Int32) (x1 : Int32) (r0 : Int32) (r1 : Int32) (hf : f_X8_count s_thrown s_g x1 = some (r0, r1)) : CI l yX8_count cX8_count 4 (some .int) 3 64 D E tx [.ref h_, .int x1] (w_X8_count E h_ h_g h_kept h_past h_path h_pose h_way h_px h_py h_free h_tips h_far h_queue h_times h_turns h_names h_named h_text h_told h_spare s_hasKept s_pasts s_pathMoves s_spot s_thrown s_faulty s_queued s_length s_at s_error s_tolds s_number s_g) (w_X8_count E h_ h_g h_kept h_past h_path h_pose h_way h_px h_py h_free h_tips h_far h_queue h_times h_turns h_names h_named h_text h_told h_spare s_hasKept s_pasts s_pathMoves s_spot r1 s_faulty s_queued s_length s_at s_error s_tolds s_number s_g) r0 := by
  refine CI_of RX8 pn_X8 rfl (Nat.le_of_ble_eq_true rfl) (fun p e s m args below meth c A Q hF hK hA hZ hW hret ls hl => ?_)
  have hx := hF.1
  have hb := hF.2.1
  have hl : lv_has ls 4 [(0, .ref h_), (1, .int x1)] := hl
  unfold f_X8_count at hf
  refine lv_aload_n hx hb dX8_count_0 rfl (lv_at hl 0 rfl) ?_
  refine lv_iconst (v := 0) hx hb dX8_count_1 (by decide) ?_
  refine q_put hF hK hW fl_X8_76 ft_X8 rfl 0 rfl rfl rfl (Nat.le_of_ble_eq_true rfl) dX8_count_2 (fun H locs hW => ?_)
  have hW : WD D A s (w_X8_count E h_ h_g h_kept h_past h_path h_pose h_way h_px h_py h_free h_tips h_far h_queue h_times h_turns h_names h_named h_text h_told h_spare s_hasKept s_pasts s_pathMoves s_spot 0 s_faulty s_queued s_length s_at s_error s_tolds s_number s_g) H locs := hW
  refine lv_iconst (v := 0) hx hb dX8_count_5 (by decide) ?_
  refine lv_istore_n (lv' := [(2, .int 0), (0, .ref h_), (1, .int x1)]) hx hb dX8_count_6 rfl hl (by decide) rfl (fun ls hl => ?_)
  refine lv_iload_n hx hb dX8_count_7 rfl (lv_at hl 2 rfl) ?_
  by_cases c_8_0 : x1 = 0
  · rw [if_pos c_8_0] at hf
    refine lv_tableIn (off := 32) (tgt := 40) hx hb dX8_count_8 (by rw [c_8_0]; decide) (by rw [c_8_0]; decide) (by rw [c_8_0]; rfl) (by decide) ?_
    refine lv_aload_n hx hb dX8_count_40 rfl (lv_at hl 1 rfl) ?_
    refine q_get hF hK hW fl_X8_7 0 rfl rfl dX8_count_41 ?_
    refine lv_iconst (v := 0) hx hb dX8_count_44 (by decide) ?_
    refine q_iald hx hb hK hW 1 0 rfl rfl dX8_count_45 hf (fun hf => ?_)
    cases hf
    exact hret dX8_count_46 rfl rfl hW
  · rw [if_neg c_8_0] at hf
    by_cases c_8_1 : x1 = 1
    · rw [if_pos c_8_1] at hf
      refine lv_tableIn (off := 39) (tgt := 47) hx hb dX8_count_8 (by rw [c_8_1]; decide) (by rw [c_8_1]; decide) (by rw [c_8_1]; rfl) (by decide) ?_
      refine lv_aload_n hx hb dX8_count_47 rfl (lv_at hl 1 rfl) ?_
      refine q_get hF hK hW fl_X8_7 0 rfl rfl dX8_count_48 ?_
      refine lv_bipush (v := 20) hx hb dX8_count_51 (by decide) ?_
      refine q_iald hx hb hK hW 1 0 rfl rfl dX8_count_53 hf (fun hf => ?_)
      cases hf
      exact hret dX8_count_54 rfl rfl hW
    · rw [if_neg c_8_1] at hf
      by_cases c_8_2 : x1 = 2
      · rw [if_pos c_8_2] at hf
        refine lv_tableIn (off := 47) (tgt := 55) hx hb dX8_count_8 (by rw [c_8_2]; decide) (by rw [c_8_2]; decide) (by rw [c_8_2]; rfl) (by decide) ?_
        refine lv_aload_n hx hb dX8_count_55 rfl (lv_at hl 1 rfl) ?_
        obtain ⟨o_1, hc_1, hf⟩ := ob_bind hf
        refine q_callI hF hl.1 hK hA hZ hW mv_X8_poses ml_X8_133 (c_X8_poses l D E tx h_ h_g h_kept h_past h_path h_pose h_way h_px h_py h_free h_tips h_far h_queue h_times h_turns h_names h_named h_text h_told h_spare s_hasKept s_pasts s_pathMoves s_spot 0 s_faulty s_queued s_length s_at s_error s_tolds s_number s_g o_1 hc_1) [0, 1] rfl rfl rfl rfl rfl rfl ⟨Nat.le_of_ble_eq_true rfl, Nat.le_of_ble_eq_true rfl⟩ ⟨Nat.le_of_ble_eq_true rfl, Nat.le_of_ble_eq_true rfl⟩ rfl rfl (Nat.le_of_ble_eq_true rfl) dX8_count_56 (fun H locs hW => ?_)
        have hW : WD D A s (w_X8_count E h_ h_g h_kept h_past h_path h_pose h_way h_px h_py h_free h_tips h_far h_queue h_times h_turns h_names h_named h_text h_told h_spare s_hasKept s_pasts s_pathMoves s_spot 0 s_faulty s_queued s_length s_at s_error s_tolds s_number s_g) H locs := hW
        cases hf
        exact hret dX8_count_59 rfl rfl hW
      · rw [if_neg c_8_2] at hf
        by_cases c_8_3 : x1 = 3
        · rw [if_pos c_8_3] at hf
          refine lv_tableIn (off := 52) (tgt := 60) hx hb dX8_count_8 (by rw [c_8_3]; decide) (by rw [c_8_3]; decide) (by rw [c_8_3]; rfl) (by decide) ?_
          refine lv_iconst (v := 0) hx hb dX8_count_60 (by decide) ?_
          refine lv_istore_n (lv' := [(3, .int 0), (2, .int 0), (0, .ref h_), (1, .int x1)]) hx hb dX8_count_61 rfl hl (by decide) rfl (fun ls hl => ?_)
          have hB62 : ∀ (n : Nat) (z2_62 : Int32) (z3_62 : Int32) (ex : Int32) (H : Heap) (locs : List Loc) (ls : Array Slot), LPF (fun z => f_X8_count_B62 0 s_g z.1 z.2) n (z2_62, z3_62) = some ex → lv_has ls 4 [(0, .ref h_), (2, .int z2_62), (3, .int z3_62)] → WD D A s (w_X8_count E h_ h_g h_kept h_past h_path h_pose h_way h_px h_py h_free h_tips h_far h_queue h_times h_turns h_names h_named h_text h_told h_spare s_hasKept s_pasts s_pathMoves s_spot 0 s_faulty s_queued s_length s_at s_error s_tolds s_number s_g) H locs → (∀ (H : Heap) (locs : List Loc) (ls : Array Slot), lv_has ls 4 [(2, .int ex)] → WD D A s (w_X8_count E h_ h_g h_kept h_past h_path h_pose h_way h_px h_py h_free h_tips h_far h_queue h_times h_turns h_names h_named h_text h_told h_spare s_hasKept s_pasts s_pathMoves s_spot 0 s_faulty s_queued s_length s_at s_error s_tolds s_number s_g) H locs → W p l e (RM 3 64) s m args below meth c H locs 0 0 Q (F0 m 86 ls [])) → W p l e (RM 3 64) s m args below meth c H locs 0 0 Q (F0 m 62 ls []) := by
            intro n
            induction n with
            | zero => intro z2_62 z3_62 ex H locs ls h9; exact (ob_lp0 h9).elim
            | succ n ih =>
              intro z2_62 z3_62 ex H locs ls h9 hl hW kx0
              obtain ⟨q9, hf, h9, k9⟩ := ob_lp h9
              have hf : f_X8_count_B62 0 s_g z2_62 z3_62 = some q9 := hf
              unfold f_X8_count_B62 at hf
              refine lv_iload_n hx hb dX8_count_62 rfl (lv_at hl 2 rfl) ?_
              refine lv_aload_n hx hb dX8_count_63 rfl (lv_at hl 0 rfl) ?_
              refine q_get hF hK hW fl_X8_7 0 rfl rfl dX8_count_64 ?_
              refine lv_iconst (v := 0) hx hb dX8_count_67 (by decide) ?_
              refine q_iald hx hb hK hW 1 0 rfl rfl dX8_count_68 hf (fun hf => ?_)
              refine q_icmp_ge (tgt := 86) hx hb dX8_count_69 (by decide) hf (fun hf => ?_) (fun hf => ?_)
              · cases hf
                have hx9 := k9 _ rfl
                subst hx9
                exact kx0 _ _ _ (lv_sub hl [1] rfl) hW
              · refine lv_iload_n hx hb dX8_count_72 rfl (lv_at hl 1 rfl) ?_
                refine lv_aload_n hx hb dX8_count_73 rfl (lv_at hl 0 rfl) ?_
                refine lv_iload_n hx hb dX8_count_74 rfl (lv_at hl 2 rfl) ?_
                obtain ⟨o_2, hc_2, hf⟩ := ob_bind hf
                refine q_callI hF hl.1 hK hA hZ hW mv_X8_lengthOf ml_X8_137 (c_X8_lengthOf l D E tx h_ h_g h_kept h_past h_path h_pose h_way h_px h_py h_free h_tips h_far h_queue h_times h_turns h_names h_named h_text h_told h_spare s_hasKept s_pasts s_pathMoves s_spot 0 s_faulty s_queued s_length s_at s_error s_tolds s_number s_g z3_62 o_2 hc_2) [0, 1] rfl rfl rfl rfl rfl rfl ⟨Nat.le_of_ble_eq_true rfl, Nat.le_of_ble_eq_true rfl⟩ ⟨Nat.le_of_ble_eq_true rfl, Nat.le_of_ble_eq_true rfl⟩ rfl rfl (Nat.le_of_ble_eq_true rfl) dX8_count_75 (fun H locs hW => ?_)
                have hW : WD D A s (w_X8_count E h_ h_g h_kept h_past h_path h_pose h_way h_px h_py h_free h_tips h_far h_queue h_times h_turns h_names h_named h_text h_told h_spare s_hasKept s_pasts s_pathMoves s_spot 0 s_faulty s_queued s_length s_at s_error s_tolds s_number s_g) H locs := hW
                refine lv_iadd hx hb dX8_count_78 ?_
                refine lv_topi (fun v_3 ev_3 => ?_)
                replace hf := ob_let hf ev_3
                refine lv_istore_n (lv' := [(2, .int v_3), (0, .ref h_), (3, .int z3_62)]) hx hb dX8_count_79 rfl hl (by decide) rfl (fun ls hl => ?_)
                obtain ⟨v_4, ev_4⟩ : ∃ y : Int32, y = z3_62 + 1 := ⟨_, rfl⟩
                replace hf := ob_let hf ev_4
                refine lv_iinc (v := v_4) (lv' := [(3, .int v_4), (2, .int v_3), (0, .ref h_)]) hx hb dX8_count_80 hl (k := 2) rfl (by rw [ev_4]; rfl) (by decide) rfl (fun ls hl => ?_)
                refine lv_goto (tgt := 62) hx hb dX8_count_83 (by decide) ?_
                cases hf
                exact ih v_3 v_4 ex _ _ _ (h9 _ rfl) (lv_sub hl [2, 1, 0] rfl) hW kx0
          obtain ⟨e_5, hc_5, hf⟩ := ob_bind hf
          refine hB62 lfuel 0 0 e_5 _ _ _ hc_5 (lv_sub hl [2, 1, 0] rfl) hW ?_
          intro H locs ls hl hW
          refine lv_iload_n hx hb dX8_count_86 rfl (lv_at hl 0 rfl) ?_
          cases hf
          exact hret dX8_count_87 rfl rfl hW
        · rw [if_neg c_8_3] at hf
          refine lv_tableOut (tgt := 88) hx hb dX8_count_8 (tab_out [(0, 0), (1, 1), (2, 2), (3, 3)] (by decide) (List.forall_mem_cons.mpr ⟨c_8_0, List.forall_mem_cons.mpr ⟨c_8_1, List.forall_mem_cons.mpr ⟨c_8_2, List.forall_mem_cons.mpr ⟨c_8_3, (fun _ h => nomatch h)⟩⟩⟩⟩) (by decide)) (by decide) ?_
          refine lv_aload_n hx hb dX8_count_88 rfl (lv_at hl 1 rfl) ?_
          refine lv_iconst (v := 1) hx hb dX8_count_89 (by decide) ?_
          obtain ⟨o_6, hc_6, hf⟩ := ob_bind hf
          refine q_callI hF hl.1 hK hA hZ hW mv_X8_fails ml_X8_86 (c_X8_fails l D E tx h_ h_g h_kept h_past h_path h_pose h_way h_px h_py h_free h_tips h_far h_queue h_times h_turns h_names h_named h_text h_told h_spare s_hasKept s_pasts s_pathMoves s_spot 0 s_faulty s_queued s_length s_at s_error s_tolds s_number 1 o_6.1 o_6.2 hc_6) [0] rfl rfl rfl rfl rfl rfl ⟨Nat.le_of_ble_eq_true rfl, Nat.le_of_ble_eq_true rfl⟩ ⟨Nat.le_of_ble_eq_true rfl, Nat.le_of_ble_eq_true rfl⟩ rfl rfl (Nat.le_of_ble_eq_true rfl) dX8_count_90 (fun H locs hW => ?_)
          have hW : WD D A s (w_X8_count E h_ h_g h_kept h_past h_path h_pose h_way h_px h_py h_free h_tips h_far h_queue h_times h_turns h_names h_named h_text h_told h_spare s_hasKept s_pasts s_pathMoves s_spot o_6.2 s_faulty s_queued s_length s_at s_error s_tolds s_number s_g) H locs := hW
          cases hf
          exact hret dX8_count_93 rfl rfl hW
def w_X8_stepX (E : Nat → ClassId)   : va_W := []
set_option maxHeartbeats 4000000 in
set_option maxRecDepth 100000 in
theorem c_X8_stepX (l : Launch) (D : va_G) (E : Nat → ClassId) (tx : List (Nat × String))   (x0 : Int32) (r0 : Int32) (hf : f_X8_stepX x0 = some r0) : CI l yX8_stepX cX8_stepX 1 (some .int) 0 0 D E tx [.int x0] (w_X8_stepX E ) (w_X8_stepX E ) r0 := by
  refine CI_of RX8 pn_X8 rfl (Nat.le_of_ble_eq_true rfl) (fun p e s m args below meth c A Q hF hK hA hZ hW hret ls hl => ?_)
  have hx := hF.1
  have hb := hF.2.1
  have hl : lv_has ls 1 [(0, .int x0)] := hl
  unfold f_X8_stepX at hf
  refine lv_iload_n hx hb dX8_stepX_0 rfl (lv_at hl 0 rfl) ?_
  refine q_if_eq (tgt := 15) hx hb dX8_stepX_1 (by decide) hf (fun hf => ?_) (fun hf => ?_)
  · refine lv_iconst (v := 1) hx hb dX8_stepX_15 (by decide) ?_
    refine lv_goto (tgt := 35) hx hb dX8_stepX_16 (by decide) ?_
    cases hf
    exact hret dX8_stepX_35 rfl rfl hW
  · refine lv_iload_n hx hb dX8_stepX_4 rfl (lv_at hl 0 rfl) ?_
    refine lv_iconst (v := 1) hx hb dX8_stepX_5 (by decide) ?_
    refine q_icmp_eq (tgt := 15) hx hb dX8_stepX_6 (by decide) hf (fun hf => ?_) (fun hf => ?_)
    · refine lv_iconst (v := 1) hx hb dX8_stepX_15 (by decide) ?_
      refine lv_goto (tgt := 35) hx hb dX8_stepX_16 (by decide) ?_
      cases hf
      exact hret dX8_stepX_35 rfl rfl hW
    · refine lv_iload_n hx hb dX8_stepX_9 rfl (lv_at hl 0 rfl) ?_
      refine lv_bipush (v := 7) hx hb dX8_stepX_10 (by decide) ?_
      refine q_icmp_ne (tgt := 19) hx hb dX8_stepX_12 (by decide) hf (fun hf => ?_) (fun hf => ?_)
      · refine lv_iload_n hx hb dX8_stepX_19 rfl (lv_at hl 0 rfl) ?_
        refine lv_iconst (v := 2) hx hb dX8_stepX_20 (by decide) ?_
        refine q_icmp_eq (tgt := 30) hx hb dX8_stepX_21 (by decide) hf (fun hf => ?_) (fun hf => ?_)
        · refine lv_iconst (v := 0) hx hb dX8_stepX_30 (by decide) ?_
          refine lv_goto (tgt := 35) hx hb dX8_stepX_31 (by decide) ?_
          cases hf
          exact hret dX8_stepX_35 rfl rfl hW
        · refine lv_iload_n hx hb dX8_stepX_24 rfl (lv_at hl 0 rfl) ?_
          refine lv_bipush (v := 6) hx hb dX8_stepX_25 (by decide) ?_
          refine q_icmp_ne (tgt := 34) hx hb dX8_stepX_27 (by decide) hf (fun hf => ?_) (fun hf => ?_)
          · refine lv_iconst (v := (-1)) hx hb dX8_stepX_34 (by decide) ?_
            cases hf
            exact hret dX8_stepX_35 rfl rfl hW
          · refine lv_iconst (v := 0) hx hb dX8_stepX_30 (by decide) ?_
            refine lv_goto (tgt := 35) hx hb dX8_stepX_31 (by decide) ?_
            cases hf
            exact hret dX8_stepX_35 rfl rfl hW
      · refine lv_iconst (v := 1) hx hb dX8_stepX_15 (by decide) ?_
        refine lv_goto (tgt := 35) hx hb dX8_stepX_16 (by decide) ?_
        cases hf
        exact hret dX8_stepX_35 rfl rfl hW
def w_X8_stepY (E : Nat → ClassId)   : va_W := []
set_option maxHeartbeats 4000000 in
set_option maxRecDepth 100000 in
theorem c_X8_stepY (l : Launch) (D : va_G) (E : Nat → ClassId) (tx : List (Nat × String))   (x0 : Int32) (r0 : Int32) (hf : f_X8_stepY x0 = some r0) : CI l yX8_stepY cX8_stepY 1 (some .int) 0 0 D E tx [.int x0] (w_X8_stepY E ) (w_X8_stepY E ) r0 := by
  refine CI_of RX8 pn_X8 rfl (Nat.le_of_ble_eq_true rfl) (fun p e s m args below meth c A Q hF hK hA hZ hW hret ls hl => ?_)
  have hx := hF.1
  have hb := hF.2.1
  have hl : lv_has ls 1 [(0, .int x0)] := hl
  unfold f_X8_stepY at hf
  refine lv_iload_n hx hb dX8_stepY_0 rfl (lv_at hl 0 rfl) ?_
  refine q_if_eq (tgt := 9) hx hb dX8_stepY_1 (by decide) hf (fun hf => ?_) (fun hf => ?_)
  · refine lv_iconst (v := 0) hx hb dX8_stepY_9 (by decide) ?_
    refine lv_goto (tgt := 23) hx hb dX8_stepY_10 (by decide) ?_
    cases hf
    exact hret dX8_stepY_23 rfl rfl hW
  · refine lv_iload_n hx hb dX8_stepY_4 rfl (lv_at hl 0 rfl) ?_
    refine lv_iconst (v := 4) hx hb dX8_stepY_5 (by decide) ?_
    refine q_icmp_ne (tgt := 13) hx hb dX8_stepY_6 (by decide) hf (fun hf => ?_) (fun hf => ?_)
    · refine lv_iload_n hx hb dX8_stepY_13 rfl (lv_at hl 0 rfl) ?_
      refine lv_iconst (v := 4) hx hb dX8_stepY_14 (by decide) ?_
      refine q_icmp_ge (tgt := 22) hx hb dX8_stepY_15 (by decide) hf (fun hf => ?_) (fun hf => ?_)
      · refine lv_iconst (v := (-1)) hx hb dX8_stepY_22 (by decide) ?_
        cases hf
        exact hret dX8_stepY_23 rfl rfl hW
      · refine lv_iconst (v := 1) hx hb dX8_stepY_18 (by decide) ?_
        refine lv_goto (tgt := 23) hx hb dX8_stepY_19 (by decide) ?_
        cases hf
        exact hret dX8_stepY_23 rfl rfl hW
    · refine lv_iconst (v := 0) hx hb dX8_stepY_9 (by decide) ?_
      refine lv_goto (tgt := 23) hx hb dX8_stepY_10 (by decide) ?_
      cases hf
      exact hret dX8_stepY_23 rfl rfl hW
def w_X8_lays (E : Nat → ClassId) (h_ h_g h_kept h_past h_path h_pose h_way h_px h_py h_free h_tips h_far h_queue h_times h_turns h_names h_named h_text h_told h_spare : Nat) (s_hasKept : Int32) (s_pasts : Int32) (s_pathMoves : Int32) (s_spot : Int32) (s_thrown : Int32) (s_faulty : Int32) (s_queued : Int32) (s_length : Int32) (s_at : Int32) (s_error : Int32) (s_tolds : Int32) (s_number : Int32) (s_g : Nat → Int32) (s_pose : Nat → Int32) (s_way : Nat → Int32) (s_px : Nat → Int32) (s_py : Nat → Int32) : va_W := [(h_, .inr (10, [.ref h_g, .ref h_kept, .int s_hasKept, .ref h_past, .int s_pasts, .ref h_path, .int s_pathMoves, .int s_spot, .int s_thrown, .ref h_pose, .ref h_way, .ref h_px, .ref h_py, .int s_faulty, .ref h_free, .ref h_tips, .ref h_far, .ref h_queue, .int s_queued, .ref h_times, .ref h_turns, .ref h_names, .ref h_named, .ref h_text, .int s_length, .int s_at, .int s_error, .ref h_told, .int s_tolds, .int s_number, .ref h_spare])), (h_g, .inl (E 0, 141, .inl s_g)), (h_pose, .inl (E 0, 4, .inl s_pose)), (h_way, .inl (E 0, 4, .inl s_way)), (h_px, .inl (E 0, 5, .inl s_px)), (h_py, .inl (E 0, 5, .inl s_py))]
set_option maxHeartbeats 4000000 in
set_option maxRecDepth 100000 in
theorem c_X8_lays (l : Launch) (D : va_G) (E : Nat → ClassId) (tx : List (Nat × String)) (h_ h_g h_kept h_past h_path h_pose h_way h_px h_py h_free h_tips h_far h_queue h_times h_turns h_names h_named h_text h_told h_spare : Nat) (s_hasKept : Int32) (s_pasts : Int32) (s_pathMoves : Int32) (s_spot : Int32) (s_thrown : Int32) (s_faulty : Int32) (s_queued : Int32) (s_length : Int32) (s_at : Int32) (s_error : Int32) (s_tolds : Int32) (s_number : Int32) (s_g : Nat → Int32) (s_pose : Nat → Int32) (s_way : Nat → Int32) (s_px : Nat → Int32) (s_py : Nat → Int32)  (r0 : Nat → Int32) (r1 : Nat → Int32) (r2 : Nat → Int32) (hf : f_X8_lays s_g s_pose s_way s_px s_py = some (r0, r1, r2)) : CV l yX8_lays cX8_lays 3 1 21 D E tx [.ref h_] (w_X8_lays E h_ h_g h_kept h_past h_path h_pose h_way h_px h_py h_free h_tips h_far h_queue h_times h_turns h_names h_named h_text h_told h_spare s_hasKept s_pasts s_pathMoves s_spot s_thrown s_faulty s_queued s_length s_at s_error s_tolds s_number s_g s_pose s_way s_px s_py) (w_X8_lays E h_ h_g h_kept h_past h_path h_pose h_way h_px h_py h_free h_tips h_far h_queue h_times h_turns h_names h_named h_text h_told h_spare s_hasKept s_pasts s_pathMoves s_spot s_thrown s_faulty s_queued s_length s_at s_error s_tolds s_number s_g s_pose r0 r1 r2) := by
  refine CV_of RX8 pn_X8 rfl (Nat.le_of_ble_eq_true rfl) (fun p e s m args below meth c A Q hF hK hA hZ hW hret ls hl => ?_)
  have hx := hF.1
  have hb := hF.2.1
  have hl : lv_has ls 3 [(0, .ref h_)] := hl
  unfold f_X8_lays at hf
  refine lv_iconst (v := 0) hx hb dX8_lays_0 (by decide) ?_
  refine lv_istore_n (lv' := [(1, .int 0), (0, .ref h_)]) hx hb dX8_lays_1 rfl hl (by decide) rfl (fun ls hl => ?_)
  refine lv_iconst (v := 0) hx hb dX8_lays_2 (by decide) ?_
  refine lv_istore_n (lv' := [(2, .int 0), (1, .int 0), (0, .ref h_)]) hx hb dX8_lays_3 rfl hl (by decide) rfl (fun ls hl => ?_)
  have hB4 : ∀ (n : Nat) (s_way_4 : Nat → Int32) (s_px_4 : Nat → Int32) (s_py_4 : Nat → Int32) (z1_4 : Int32) (z2_4 : Int32) (ex : (Nat → Int32) × (Nat → Int32) × (Nat → Int32)) (H : Heap) (locs : List Loc) (ls : Array Slot), LPF (fun z => f_X8_lays_B4 s_g s_pose z.1 z.2.1 z.2.2.1 z.2.2.2.1 z.2.2.2.2) n (s_way_4, s_px_4, s_py_4, z1_4, z2_4) = some ex → lv_has ls 3 [(0, .ref h_), (1, .int z1_4), (2, .int z2_4)] → WD D A s (w_X8_lays E h_ h_g h_kept h_past h_path h_pose h_way h_px h_py h_free h_tips h_far h_queue h_times h_turns h_names h_named h_text h_told h_spare s_hasKept s_pasts s_pathMoves s_spot s_thrown s_faulty s_queued s_length s_at s_error s_tolds s_number s_g s_pose s_way_4 s_px_4 s_py_4) H locs → (∀ (H : Heap) (locs : List Loc) (ls : Array Slot), lv_has ls 3 [] → WD D A s (w_X8_lays E h_ h_g h_kept h_past h_path h_pose h_way h_px h_py h_free h_tips h_far h_queue h_times h_turns h_names h_named h_text h_told h_spare s_hasKept s_pasts s_pathMoves s_spot s_thrown s_faulty s_queued s_length s_at s_error s_tolds s_number s_g s_pose ex.1 ex.2.1 ex.2.2) H locs → W p l e (RM 1 21) s m args below meth c H locs 0 0 Q (F0 m 99 ls [])) → W p l e (RM 1 21) s m args below meth c H locs 0 0 Q (F0 m 4 ls []) := by
    intro n
    induction n with
    | zero => intro s_way_4 s_px_4 s_py_4 z1_4 z2_4 ex H locs ls h9; exact (ob_lp0 h9).elim
    | succ n ih =>
      intro s_way_4 s_px_4 s_py_4 z1_4 z2_4 ex H locs ls h9 hl hW kx0
      obtain ⟨q9, hf, h9, k9⟩ := ob_lp h9
      have hf : f_X8_lays_B4 s_g s_pose s_way_4 s_px_4 s_py_4 z1_4 z2_4 = some q9 := hf
      unfold f_X8_lays_B4 at hf
      refine lv_iload_n hx hb dX8_lays_4 rfl (lv_at hl 2 rfl) ?_
      refine lv_aload_n hx hb dX8_lays_5 rfl (lv_at hl 0 rfl) ?_
      refine q_get hF hK hW fl_X8_7 0 rfl rfl dX8_lays_6 ?_
      refine lv_iconst (v := 0) hx hb dX8_lays_9 (by decide) ?_
      refine q_iald hx hb hK hW 1 0 rfl rfl dX8_lays_10 hf (fun hf => ?_)
      refine q_icmp_ge (tgt := 99) hx hb dX8_lays_11 (by decide) hf (fun hf => ?_) (fun hf => ?_)
      · cases hf
        have hx9 := k9 _ rfl
        subst hx9
        exact kx0 _ _ _ (lv_sub hl [] rfl) hW
      · refine lv_iload_n hx hb dX8_lays_14 rfl (lv_at hl 1 rfl) ?_
        refine lv_aload_n hx hb dX8_lays_15 rfl (lv_at hl 0 rfl) ?_
        refine q_get hF hK hW fl_X8_26 0 rfl rfl dX8_lays_16 ?_
        refine lv_iload_n hx hb dX8_lays_19 rfl (lv_at hl 2 rfl) ?_
        refine q_iald hx hb hK hW 2 0 rfl rfl dX8_lays_20 hf (fun hf => ?_)
        refine lv_iadd hx hb dX8_lays_21 ?_
        refine lv_topi (fun v_1 ev_1 => ?_)
        replace hf := ob_let hf ev_1
        refine lv_istore_n (lv' := [(1, .int v_1), (0, .ref h_), (2, .int z2_4)]) hx hb dX8_lays_22 rfl hl (by decide) rfl (fun ls hl => ?_)
        refine lv_aload_n hx hb dX8_lays_23 rfl (lv_at hl 1 rfl) ?_
        refine q_get hF hK hW fl_X8_29 0 rfl rfl dX8_lays_24 ?_
        refine lv_iload_n hx hb dX8_lays_27 rfl (lv_at hl 2 rfl) ?_
        refine lv_iload_n hx hb dX8_lays_28 rfl (lv_at hl 0 rfl) ?_
        refine lv_bipush (v := 7) hx hb dX8_lays_29 (by decide) ?_
        refine lv_iand hx hb dX8_lays_31 ?_
        refine q_iast hx hb hK hW 3 0 rfl rfl dX8_lays_32 hf (fun a_2 hf H locs hW => ?_)
        have hW : WD D A s (w_X8_lays E h_ h_g h_kept h_past h_path h_pose h_way h_px h_py h_free h_tips h_far h_queue h_times h_turns h_names h_named h_text h_told h_spare s_hasKept s_pasts s_pathMoves s_spot s_thrown s_faulty s_queued s_length s_at s_error s_tolds s_number s_g s_pose a_2 s_px_4 s_py_4) H locs := hW
        refine lv_aload_n hx hb dX8_lays_33 rfl (lv_at hl 1 rfl) ?_
        refine q_get hF hK hW fl_X8_32 0 rfl rfl dX8_lays_34 ?_
        refine lv_iload_n hx hb dX8_lays_37 rfl (lv_at hl 2 rfl) ?_
        refine lv_iconst (v := 1) hx hb dX8_lays_38 (by decide) ?_
        refine lv_iadd hx hb dX8_lays_39 ?_
        refine lv_aload_n hx hb dX8_lays_40 rfl (lv_at hl 1 rfl) ?_
        refine q_get hF hK hW fl_X8_32 0 rfl rfl dX8_lays_41 ?_
        refine lv_iload_n hx hb dX8_lays_44 rfl (lv_at hl 2 rfl) ?_
        refine q_iald hx hb hK hW 4 0 rfl rfl dX8_lays_45 hf (fun hf => ?_)
        refine lv_aload_n hx hb dX8_lays_46 rfl (lv_at hl 1 rfl) ?_
        refine lv_iload_n hx hb dX8_lays_47 rfl (lv_at hl 2 rfl) ?_
        obtain ⟨o_3, hc_3, hf⟩ := ob_bind hf
        refine q_callI hF hl.1 hK hA hZ hW mv_X8_lengthOf ml_X8_137 (c_X8_lengthOf l D E tx h_ h_g h_kept h_past h_path h_pose h_way h_px h_py h_free h_tips h_far h_queue h_times h_turns h_names h_named h_text h_told h_spare s_hasKept s_pasts s_pathMoves s_spot s_thrown s_faulty s_queued s_length s_at s_error s_tolds s_number s_g z2_4 o_3 hc_3) [0, 1] rfl rfl rfl rfl rfl rfl ⟨Nat.le_of_ble_eq_true rfl, Nat.le_of_ble_eq_true rfl⟩ ⟨Nat.le_of_ble_eq_true rfl, Nat.le_of_ble_eq_true rfl⟩ rfl rfl (Nat.le_of_ble_eq_true rfl) dX8_lays_48 (fun H locs hW => ?_)
        have hW : WD D A s (w_X8_lays E h_ h_g h_kept h_past h_path h_pose h_way h_px h_py h_free h_tips h_far h_queue h_times h_turns h_names h_named h_text h_told h_spare s_hasKept s_pasts s_pathMoves s_spot s_thrown s_faulty s_queued s_length s_at s_error s_tolds s_number s_g s_pose a_2 s_px_4 s_py_4) H locs := hW
        refine lv_aload_n hx hb dX8_lays_51 rfl (lv_at hl 1 rfl) ?_
        refine q_get hF hK hW fl_X8_29 0 rfl rfl dX8_lays_52 ?_
        refine lv_iload_n hx hb dX8_lays_55 rfl (lv_at hl 2 rfl) ?_
        refine q_iald hx hb hK hW 3 0 rfl rfl dX8_lays_56 hf (fun hf => ?_)
        obtain ⟨o_4, hc_4, hf⟩ := ob_bind hf
        refine q_callSI hF hl.1 hK hA hZ hW ms_X8_stepX ml_X8_140 (c_X8_stepX l D E tx (a_2 z2_4.toNatClampNeg) o_4 hc_4) [] rfl rfl rfl ⟨Nat.le_of_ble_eq_true rfl, Nat.le_of_ble_eq_true rfl⟩ ⟨Nat.le_of_ble_eq_true rfl, Nat.le_of_ble_eq_true rfl⟩ rfl rfl (Nat.le_of_ble_eq_true rfl) dX8_lays_57 (fun H locs hW => ?_)
        have hW : WD D A s (w_X8_lays E h_ h_g h_kept h_past h_path h_pose h_way h_px h_py h_free h_tips h_far h_queue h_times h_turns h_names h_named h_text h_told h_spare s_hasKept s_pasts s_pathMoves s_spot s_thrown s_faulty s_queued s_length s_at s_error s_tolds s_number s_g s_pose a_2 s_px_4 s_py_4) H locs := hW
        refine lv_imul hx hb dX8_lays_60 ?_
        refine lv_iadd hx hb dX8_lays_61 ?_
        refine q_iast hx hb hK hW 4 0 rfl rfl dX8_lays_62 hf (fun a_5 hf H locs hW => ?_)
        have hW : WD D A s (w_X8_lays E h_ h_g h_kept h_past h_path h_pose h_way h_px h_py h_free h_tips h_far h_queue h_times h_turns h_names h_named h_text h_told h_spare s_hasKept s_pasts s_pathMoves s_spot s_thrown s_faulty s_queued s_length s_at s_error s_tolds s_number s_g s_pose a_2 a_5 s_py_4) H locs := hW
        refine lv_aload_n hx hb dX8_lays_63 rfl (lv_at hl 1 rfl) ?_
        refine q_get hF hK hW fl_X8_35 0 rfl rfl dX8_lays_64 ?_
        refine lv_iload_n hx hb dX8_lays_67 rfl (lv_at hl 2 rfl) ?_
        refine lv_iconst (v := 1) hx hb dX8_lays_68 (by decide) ?_
        refine lv_iadd hx hb dX8_lays_69 ?_
        refine lv_aload_n hx hb dX8_lays_70 rfl (lv_at hl 1 rfl) ?_
        refine q_get hF hK hW fl_X8_35 0 rfl rfl dX8_lays_71 ?_
        refine lv_iload_n hx hb dX8_lays_74 rfl (lv_at hl 2 rfl) ?_
        refine q_iald hx hb hK hW 5 0 rfl rfl dX8_lays_75 hf (fun hf => ?_)
        refine lv_aload_n hx hb dX8_lays_76 rfl (lv_at hl 1 rfl) ?_
        refine lv_iload_n hx hb dX8_lays_77 rfl (lv_at hl 2 rfl) ?_
        obtain ⟨o_6, hc_6, hf⟩ := ob_bind hf
        refine q_callI hF hl.1 hK hA hZ hW mv_X8_lengthOf ml_X8_137 (c_X8_lengthOf l D E tx h_ h_g h_kept h_past h_path h_pose h_way h_px h_py h_free h_tips h_far h_queue h_times h_turns h_names h_named h_text h_told h_spare s_hasKept s_pasts s_pathMoves s_spot s_thrown s_faulty s_queued s_length s_at s_error s_tolds s_number s_g z2_4 o_6 hc_6) [0, 1] rfl rfl rfl rfl rfl rfl ⟨Nat.le_of_ble_eq_true rfl, Nat.le_of_ble_eq_true rfl⟩ ⟨Nat.le_of_ble_eq_true rfl, Nat.le_of_ble_eq_true rfl⟩ rfl rfl (Nat.le_of_ble_eq_true rfl) dX8_lays_78 (fun H locs hW => ?_)
        have hW : WD D A s (w_X8_lays E h_ h_g h_kept h_past h_path h_pose h_way h_px h_py h_free h_tips h_far h_queue h_times h_turns h_names h_named h_text h_told h_spare s_hasKept s_pasts s_pathMoves s_spot s_thrown s_faulty s_queued s_length s_at s_error s_tolds s_number s_g s_pose a_2 a_5 s_py_4) H locs := hW
        refine lv_aload_n hx hb dX8_lays_81 rfl (lv_at hl 1 rfl) ?_
        refine q_get hF hK hW fl_X8_29 0 rfl rfl dX8_lays_82 ?_
        refine lv_iload_n hx hb dX8_lays_85 rfl (lv_at hl 2 rfl) ?_
        refine q_iald hx hb hK hW 3 0 rfl rfl dX8_lays_86 hf (fun hf => ?_)
        obtain ⟨o_7, hc_7, hf⟩ := ob_bind hf
        refine q_callSI hF hl.1 hK hA hZ hW ms_X8_stepY ml_X8_143 (c_X8_stepY l D E tx (a_2 z2_4.toNatClampNeg) o_7 hc_7) [] rfl rfl rfl ⟨Nat.le_of_ble_eq_true rfl, Nat.le_of_ble_eq_true rfl⟩ ⟨Nat.le_of_ble_eq_true rfl, Nat.le_of_ble_eq_true rfl⟩ rfl rfl (Nat.le_of_ble_eq_true rfl) dX8_lays_87 (fun H locs hW => ?_)
        have hW : WD D A s (w_X8_lays E h_ h_g h_kept h_past h_path h_pose h_way h_px h_py h_free h_tips h_far h_queue h_times h_turns h_names h_named h_text h_told h_spare s_hasKept s_pasts s_pathMoves s_spot s_thrown s_faulty s_queued s_length s_at s_error s_tolds s_number s_g s_pose a_2 a_5 s_py_4) H locs := hW
        refine lv_imul hx hb dX8_lays_90 ?_
        refine lv_iadd hx hb dX8_lays_91 ?_
        refine q_iast hx hb hK hW 5 0 rfl rfl dX8_lays_92 hf (fun a_8 hf H locs hW => ?_)
        have hW : WD D A s (w_X8_lays E h_ h_g h_kept h_past h_path h_pose h_way h_px h_py h_free h_tips h_far h_queue h_times h_turns h_names h_named h_text h_told h_spare s_hasKept s_pasts s_pathMoves s_spot s_thrown s_faulty s_queued s_length s_at s_error s_tolds s_number s_g s_pose a_2 a_5 a_8) H locs := hW
        obtain ⟨v_9, ev_9⟩ : ∃ y : Int32, y = z2_4 + 1 := ⟨_, rfl⟩
        replace hf := ob_let hf ev_9
        refine lv_iinc (v := v_9) (lv' := [(2, .int v_9), (1, .int v_1), (0, .ref h_)]) hx hb dX8_lays_93 hl (k := 2) rfl (by rw [ev_9]; rfl) (by decide) rfl (fun ls hl => ?_)
        refine lv_goto (tgt := 4) hx hb dX8_lays_96 (by decide) ?_
        cases hf
        exact ih a_2 a_5 a_8 v_1 v_9 ex _ _ _ (h9 _ rfl) (lv_sub hl [2, 1, 0] rfl) hW kx0
  obtain ⟨e_10, hc_10, hf⟩ := ob_bind hf
  refine hB4 lfuel s_way s_px s_py 0 0 e_10 _ _ _ hc_10 (lv_sub hl [2, 1, 0] rfl) hW ?_
  intro H locs ls hl hW
  cases hf
  exact hret dX8_lays_99 hW
def w_X8_now (E : Nat → ClassId) (h_ h_g h_kept h_past h_path h_pose h_way h_px h_py h_free h_tips h_far h_queue h_times h_turns h_names h_named h_text h_told h_spare : Nat) (s_hasKept : Int32) (s_pasts : Int32) (s_pathMoves : Int32) (s_spot : Int32) (s_thrown : Int32) (s_faulty : Int32) (s_queued : Int32) (s_length : Int32) (s_at : Int32) (s_error : Int32) (s_tolds : Int32) (s_number : Int32) (s_g : Nat → Int32) (s_pose : Nat → Int32) (s_way : Nat → Int32) (s_px : Nat → Int32) (s_py : Nat → Int32) : va_W := [(h_, .inr (10, [.ref h_g, .ref h_kept, .int s_hasKept, .ref h_past, .int s_pasts, .ref h_path, .int s_pathMoves, .int s_spot, .int s_thrown, .ref h_pose, .ref h_way, .ref h_px, .ref h_py, .int s_faulty, .ref h_free, .ref h_tips, .ref h_far, .ref h_queue, .int s_queued, .ref h_times, .ref h_turns, .ref h_names, .ref h_named, .ref h_text, .int s_length, .int s_at, .int s_error, .ref h_told, .int s_tolds, .int s_number, .ref h_spare])), (h_g, .inl (E 0, 141, .inl s_g)), (h_pose, .inl (E 0, 4, .inl s_pose)), (h_way, .inl (E 0, 4, .inl s_way)), (h_px, .inl (E 0, 5, .inl s_px)), (h_py, .inl (E 0, 5, .inl s_py))]
set_option maxHeartbeats 4000000 in
set_option maxRecDepth 100000 in
theorem c_X8_now (l : Launch) (D : va_G) (E : Nat → ClassId) (tx : List (Nat × String)) (h_ h_g h_kept h_past h_path h_pose h_way h_px h_py h_free h_tips h_far h_queue h_times h_turns h_names h_named h_text h_told h_spare : Nat) (s_hasKept : Int32) (s_pasts : Int32) (s_pathMoves : Int32) (s_spot : Int32) (s_thrown : Int32) (s_faulty : Int32) (s_queued : Int32) (s_length : Int32) (s_at : Int32) (s_error : Int32) (s_tolds : Int32) (s_number : Int32) (s_g : Nat → Int32) (s_pose : Nat → Int32) (s_way : Nat → Int32) (s_px : Nat → Int32) (s_py : Nat → Int32)  (r0 : Nat → Int32) (r1 : Nat → Int32) (r2 : Nat → Int32) (r3 : Nat → Int32) (hf : f_X8_now s_g s_pose s_way s_px s_py = some (r0, r1, r2, r3)) : CV l yX8_now cX8_now 2 2 43 D E tx [.ref h_] (w_X8_now E h_ h_g h_kept h_past h_path h_pose h_way h_px h_py h_free h_tips h_far h_queue h_times h_turns h_names h_named h_text h_told h_spare s_hasKept s_pasts s_pathMoves s_spot s_thrown s_faulty s_queued s_length s_at s_error s_tolds s_number s_g s_pose s_way s_px s_py) (w_X8_now E h_ h_g h_kept h_past h_path h_pose h_way h_px h_py h_free h_tips h_far h_queue h_times h_turns h_names h_named h_text h_told h_spare s_hasKept s_pasts s_pathMoves s_spot s_thrown s_faulty s_queued s_length s_at s_error s_tolds s_number s_g r0 r1 r2 r3) := by
  refine CV_of RX8 pn_X8 rfl (Nat.le_of_ble_eq_true rfl) (fun p e s m args below meth c A Q hF hK hA hZ hW hret ls hl => ?_)
  have hx := hF.1
  have hb := hF.2.1
  have hl : lv_has ls 2 [(0, .ref h_)] := hl
  unfold f_X8_now at hf
  refine lv_iconst (v := 0) hx hb dX8_now_0 (by decide) ?_
  refine lv_istore_n (lv' := [(1, .int 0), (0, .ref h_)]) hx hb dX8_now_1 rfl hl (by decide) rfl (fun ls hl => ?_)
  have hB2 : ∀ (n : Nat) (s_pose_2 : Nat → Int32) (z1_2 : Int32) (ex : (Nat → Int32)) (H : Heap) (locs : List Loc) (ls : Array Slot), LPF (fun z => f_X8_now_B2 s_g z.1 s_way s_px s_py z.2) n (s_pose_2, z1_2) = some ex → lv_has ls 2 [(0, .ref h_), (1, .int z1_2)] → WD D A s (w_X8_now E h_ h_g h_kept h_past h_path h_pose h_way h_px h_py h_free h_tips h_far h_queue h_times h_turns h_names h_named h_text h_told h_spare s_hasKept s_pasts s_pathMoves s_spot s_thrown s_faulty s_queued s_length s_at s_error s_tolds s_number s_g s_pose_2 s_way s_px s_py) H locs → (∀ (H : Heap) (locs : List Loc) (ls : Array Slot), lv_has ls 2 [(0, .ref h_)] → WD D A s (w_X8_now E h_ h_g h_kept h_past h_path h_pose h_way h_px h_py h_free h_tips h_far h_queue h_times h_turns h_names h_named h_text h_told h_spare s_hasKept s_pasts s_pathMoves s_spot s_thrown s_faulty s_queued s_length s_at s_error s_tolds s_number s_g ex s_way s_px s_py) H locs → W p l e (RM 2 43) s m args below meth c H locs 0 0 Q (F0 m 34 ls [])) → W p l e (RM 2 43) s m args below meth c H locs 0 0 Q (F0 m 2 ls []) := by
    intro n
    induction n with
    | zero => intro s_pose_2 z1_2 ex H locs ls h9; exact (ob_lp0 h9).elim
    | succ n ih =>
      intro s_pose_2 z1_2 ex H locs ls h9 hl hW kx0
      obtain ⟨q9, hf, h9, k9⟩ := ob_lp h9
      have hf : f_X8_now_B2 s_g s_pose_2 s_way s_px s_py z1_2 = some q9 := hf
      unfold f_X8_now_B2 at hf
      refine lv_iload_n hx hb dX8_now_2 rfl (lv_at hl 1 rfl) ?_
      refine lv_aload_n hx hb dX8_now_3 rfl (lv_at hl 0 rfl) ?_
      refine q_get hF hK hW fl_X8_7 0 rfl rfl dX8_now_4 ?_
      refine lv_iconst (v := 0) hx hb dX8_now_7 (by decide) ?_
      refine q_iald hx hb hK hW 1 0 rfl rfl dX8_now_8 hf (fun hf => ?_)
      refine q_icmp_ge (tgt := 34) hx hb dX8_now_9 (by decide) hf (fun hf => ?_) (fun hf => ?_)
      · cases hf
        have hx9 := k9 _ rfl
        subst hx9
        exact kx0 _ _ _ (lv_sub hl [0] rfl) hW
      · refine lv_aload_n hx hb dX8_now_12 rfl (lv_at hl 0 rfl) ?_
        refine q_get hF hK hW fl_X8_26 0 rfl rfl dX8_now_13 ?_
        refine lv_iload_n hx hb dX8_now_16 rfl (lv_at hl 1 rfl) ?_
        refine lv_aload_n hx hb dX8_now_17 rfl (lv_at hl 0 rfl) ?_
        refine q_get hF hK hW fl_X8_7 0 rfl rfl dX8_now_18 ?_
        refine lv_iconst (v := 4) hx hb dX8_now_21 (by decide) ?_
        refine lv_iconst (v := 4) hx hb dX8_now_22 (by decide) ?_
        refine lv_iload_n hx hb dX8_now_23 rfl (lv_at hl 1 rfl) ?_
        refine lv_imul hx hb dX8_now_24 ?_
        refine lv_iadd hx hb dX8_now_25 ?_
        refine q_iald hx hb hK hW 1 0 rfl rfl dX8_now_26 hf (fun hf => ?_)
        refine q_iast hx hb hK hW 2 0 rfl rfl dX8_now_27 hf (fun a_1 hf H locs hW => ?_)
        have hW : WD D A s (w_X8_now E h_ h_g h_kept h_past h_path h_pose h_way h_px h_py h_free h_tips h_far h_queue h_times h_turns h_names h_named h_text h_told h_spare s_hasKept s_pasts s_pathMoves s_spot s_thrown s_faulty s_queued s_length s_at s_error s_tolds s_number s_g a_1 s_way s_px s_py) H locs := hW
        obtain ⟨v_2, ev_2⟩ : ∃ y : Int32, y = z1_2 + 1 := ⟨_, rfl⟩
        replace hf := ob_let hf ev_2
        refine lv_iinc (v := v_2) (lv' := [(1, .int v_2), (0, .ref h_)]) hx hb dX8_now_28 hl (k := 1) rfl (by rw [ev_2]; rfl) (by decide) rfl (fun ls hl => ?_)
        refine lv_goto (tgt := 2) hx hb dX8_now_31 (by decide) ?_
        cases hf
        exact ih a_1 v_2 ex _ _ _ (h9 _ rfl) (lv_sub hl [1, 0] rfl) hW kx0
  obtain ⟨e_3, hc_3, hf⟩ := ob_bind hf
  refine hB2 lfuel s_pose 0 e_3 _ _ _ hc_3 (lv_sub hl [1, 0] rfl) hW ?_
  intro H locs ls hl hW
  refine lv_aload_n hx hb dX8_now_34 rfl (lv_at hl 0 rfl) ?_
  obtain ⟨o_4, hc_4, hf⟩ := ob_bind hf
  refine q_callV hF hl.1 hK hA hZ hW mv_X8_lays ml_X8_146 (c_X8_lays l D E tx h_ h_g h_kept h_past h_path h_pose h_way h_px h_py h_free h_tips h_far h_queue h_times h_turns h_names h_named h_text h_told h_spare s_hasKept s_pasts s_pathMoves s_spot s_thrown s_faulty s_queued s_length s_at s_error s_tolds s_number s_g e_3 s_way s_px s_py o_4.1 o_4.2.1 o_4.2.2 hc_4) [0, 1, 2, 3, 4, 5] rfl rfl rfl rfl rfl rfl ⟨Nat.le_of_ble_eq_true rfl, Nat.le_of_ble_eq_true rfl⟩ ⟨Nat.le_of_ble_eq_true rfl, Nat.le_of_ble_eq_true rfl⟩ rfl rfl (Nat.le_of_ble_eq_true rfl) dX8_now_35 (fun H locs hW => ?_)
  have hW : WD D A s (w_X8_now E h_ h_g h_kept h_past h_path h_pose h_way h_px h_py h_free h_tips h_far h_queue h_times h_turns h_names h_named h_text h_told h_spare s_hasKept s_pasts s_pathMoves s_spot s_thrown s_faulty s_queued s_length s_at s_error s_tolds s_number s_g e_3 o_4.1 o_4.2.1 o_4.2.2) H locs := hW
  cases hf
  exact hret dX8_now_38 hW
def w_X8_numberNow (E : Nat → ClassId) (h_ h_g h_kept h_past h_path h_pose h_way h_px h_py h_free h_tips h_far h_queue h_times h_turns h_names h_named h_text h_told h_spare : Nat) (s_hasKept : Int32) (s_pasts : Int32) (s_pathMoves : Int32) (s_spot : Int32) (s_thrown : Int32) (s_faulty : Int32) (s_queued : Int32) (s_length : Int32) (s_at : Int32) (s_error : Int32) (s_tolds : Int32) (s_number : Int32) (s_g : Nat → Int32) : va_W := [(h_, .inr (10, [.ref h_g, .ref h_kept, .int s_hasKept, .ref h_past, .int s_pasts, .ref h_path, .int s_pathMoves, .int s_spot, .int s_thrown, .ref h_pose, .ref h_way, .ref h_px, .ref h_py, .int s_faulty, .ref h_free, .ref h_tips, .ref h_far, .ref h_queue, .int s_queued, .ref h_times, .ref h_turns, .ref h_names, .ref h_named, .ref h_text, .int s_length, .int s_at, .int s_error, .ref h_told, .int s_tolds, .int s_number, .ref h_spare])), (h_g, .inl (E 0, 141, .inl s_g))]
set_option maxHeartbeats 4000000 in
set_option maxRecDepth 100000 in
theorem c_X8_numberNow (l : Launch) (D : va_G) (E : Nat → ClassId) (tx : List (Nat × String)) (h_ h_g h_kept h_past h_path h_pose h_way h_px h_py h_free h_tips h_far h_queue h_times h_turns h_names h_named h_text h_told h_spare : Nat) (s_hasKept : Int32) (s_pasts : Int32) (s_pathMoves : Int32) (s_spot : Int32) (s_thrown : Int32) (s_faulty : Int32) (s_queued : Int32) (s_length : Int32) (s_at : Int32) (s_error : Int32) (s_tolds : Int32) (s_number : Int32) (s_g : Nat → Int32)  (r0 : Int32) (hf : f_X8_numberNow s_g = some r0) : CI l yX8_numberNow cX8_numberNow 3 (some .int) 2 42 D E tx [.ref h_] (w_X8_numberNow E h_ h_g h_kept h_past h_path h_pose h_way h_px h_py h_free h_tips h_far h_queue h_times h_turns h_names h_named h_text h_told h_spare s_hasKept s_pasts s_pathMoves s_spot s_thrown s_faulty s_queued s_length s_at s_error s_tolds s_number s_g) (w_X8_numberNow E h_ h_g h_kept h_past h_path h_pose h_way h_px h_py h_free h_tips h_far h_queue h_times h_turns h_names h_named h_text h_told h_spare s_hasKept s_pasts s_pathMoves s_spot s_thrown s_faulty s_queued s_length s_at s_error s_tolds s_number s_g) r0 := by
  refine CI_of RX8 pn_X8 rfl (Nat.le_of_ble_eq_true rfl) (fun p e s m args below meth c A Q hF hK hA hZ hW hret ls hl => ?_)
  have hx := hF.1
  have hb := hF.2.1
  have hl : lv_has ls 3 [(0, .ref h_)] := hl
  unfold f_X8_numberNow at hf
  refine lv_iconst (v := 0) hx hb dX8_numberNow_0 (by decide) ?_
  refine lv_istore_n (lv' := [(1, .int 0), (0, .ref h_)]) hx hb dX8_numberNow_1 rfl hl (by decide) rfl (fun ls hl => ?_)
  refine lv_iconst (v := 0) hx hb dX8_numberNow_2 (by decide) ?_
  refine lv_istore_n (lv' := [(2, .int 0), (1, .int 0), (0, .ref h_)]) hx hb dX8_numberNow_3 rfl hl (by decide) rfl (fun ls hl => ?_)
  have hB4 : ∀ (n : Nat) (z1_4 : Int32) (z2_4 : Int32) (ex : Int32) (H : Heap) (locs : List Loc) (ls : Array Slot), LPF (fun z => f_X8_numberNow_B4 s_g z.1 z.2) n (z1_4, z2_4) = some ex → lv_has ls 3 [(0, .ref h_), (1, .int z1_4), (2, .int z2_4)] → WD D A s (w_X8_numberNow E h_ h_g h_kept h_past h_path h_pose h_way h_px h_py h_free h_tips h_far h_queue h_times h_turns h_names h_named h_text h_told h_spare s_hasKept s_pasts s_pathMoves s_spot s_thrown s_faulty s_queued s_length s_at s_error s_tolds s_number s_g) H locs → (∀ (H : Heap) (locs : List Loc) (ls : Array Slot), lv_has ls 3 [(1, .int ex)] → WD D A s (w_X8_numberNow E h_ h_g h_kept h_past h_path h_pose h_way h_px h_py h_free h_tips h_far h_queue h_times h_turns h_names h_named h_text h_told h_spare s_hasKept s_pasts s_pathMoves s_spot s_thrown s_faulty s_queued s_length s_at s_error s_tolds s_number s_g) H locs → W p l e (RM 2 42) s m args below meth c H locs 0 0 Q (F0 m 45 ls [])) → W p l e (RM 2 42) s m args below meth c H locs 0 0 Q (F0 m 4 ls []) := by
    intro n
    induction n with
    | zero => intro z1_4 z2_4 ex H locs ls h9; exact (ob_lp0 h9).elim
    | succ n ih =>
      intro z1_4 z2_4 ex H locs ls h9 hl hW kx0
      obtain ⟨q9, hf, h9, k9⟩ := ob_lp h9
      have hf : f_X8_numberNow_B4 s_g z1_4 z2_4 = some q9 := hf
      unfold f_X8_numberNow_B4 at hf
      refine lv_iload_n hx hb dX8_numberNow_4 rfl (lv_at hl 2 rfl) ?_
      refine lv_aload_n hx hb dX8_numberNow_5 rfl (lv_at hl 0 rfl) ?_
      refine q_get hF hK hW fl_X8_7 0 rfl rfl dX8_numberNow_6 ?_
      refine lv_iconst (v := 0) hx hb dX8_numberNow_9 (by decide) ?_
      refine q_iald hx hb hK hW 1 0 rfl rfl dX8_numberNow_10 hf (fun hf => ?_)
      refine q_icmp_ge (tgt := 45) hx hb dX8_numberNow_11 (by decide) hf (fun hf => ?_) (fun hf => ?_)
      · cases hf
        have hx9 := k9 _ rfl
        subst hx9
        exact kx0 _ _ _ (lv_sub hl [1] rfl) hW
      · refine lv_iload_n hx hb dX8_numberNow_14 rfl (lv_at hl 1 rfl) ?_
        refine lv_aload_n hx hb dX8_numberNow_15 rfl (lv_at hl 0 rfl) ?_
        refine lv_iload_n hx hb dX8_numberNow_16 rfl (lv_at hl 2 rfl) ?_
        obtain ⟨o_1, hc_1, hf⟩ := ob_bind hf
        refine q_callI hF hl.1 hK hA hZ hW mv_X8_values ml_X8_130 (c_X8_values l D E tx h_ h_g h_kept h_past h_path h_pose h_way h_px h_py h_free h_tips h_far h_queue h_times h_turns h_names h_named h_text h_told h_spare s_hasKept s_pasts s_pathMoves s_spot s_thrown s_faulty s_queued s_length s_at s_error s_tolds s_number s_g z2_4 o_1 hc_1) [0, 1] rfl rfl rfl rfl rfl rfl ⟨Nat.le_of_ble_eq_true rfl, Nat.le_of_ble_eq_true rfl⟩ ⟨Nat.le_of_ble_eq_true rfl, Nat.le_of_ble_eq_true rfl⟩ rfl rfl (Nat.le_of_ble_eq_true rfl) dX8_numberNow_17 (fun H locs hW => ?_)
        have hW : WD D A s (w_X8_numberNow E h_ h_g h_kept h_past h_path h_pose h_way h_px h_py h_free h_tips h_far h_queue h_times h_turns h_names h_named h_text h_told h_spare s_hasKept s_pasts s_pathMoves s_spot s_thrown s_faulty s_queued s_length s_at s_error s_tolds s_number s_g) H locs := hW
        refine lv_imul hx hb dX8_numberNow_20 ?_
        refine lv_aload_n hx hb dX8_numberNow_21 rfl (lv_at hl 0 rfl) ?_
        refine q_get hF hK hW fl_X8_7 0 rfl rfl dX8_numberNow_22 ?_
        refine lv_iconst (v := 4) hx hb dX8_numberNow_25 (by decide) ?_
        refine lv_iconst (v := 4) hx hb dX8_numberNow_26 (by decide) ?_
        refine lv_iload_n hx hb dX8_numberNow_27 rfl (lv_at hl 2 rfl) ?_
        refine lv_imul hx hb dX8_numberNow_28 ?_
        refine lv_iadd hx hb dX8_numberNow_29 ?_
        refine q_iald hx hb hK hW 1 0 rfl rfl dX8_numberNow_30 hf (fun hf => ?_)
        refine lv_iadd hx hb dX8_numberNow_31 ?_
        refine lv_aload_n hx hb dX8_numberNow_32 rfl (lv_at hl 0 rfl) ?_
        refine lv_iload_n hx hb dX8_numberNow_33 rfl (lv_at hl 2 rfl) ?_
        obtain ⟨o_2, hc_2, hf⟩ := ob_bind hf
        refine q_callI hF hl.1 hK hA hZ hW mv_X8_down ml_X8_124 (c_X8_down l D E tx h_ h_g h_kept h_past h_path h_pose h_way h_px h_py h_free h_tips h_far h_queue h_times h_turns h_names h_named h_text h_told h_spare s_hasKept s_pasts s_pathMoves s_spot s_thrown s_faulty s_queued s_length s_at s_error s_tolds s_number s_g z2_4 o_2 hc_2) [0, 1] rfl rfl rfl rfl rfl rfl ⟨Nat.le_of_ble_eq_true rfl, Nat.le_of_ble_eq_true rfl⟩ ⟨Nat.le_of_ble_eq_true rfl, Nat.le_of_ble_eq_true rfl⟩ rfl rfl (Nat.le_of_ble_eq_true rfl) dX8_numberNow_34 (fun H locs hW => ?_)
        have hW : WD D A s (w_X8_numberNow E h_ h_g h_kept h_past h_path h_pose h_way h_px h_py h_free h_tips h_far h_queue h_times h_turns h_names h_named h_text h_told h_spare s_hasKept s_pasts s_pathMoves s_spot s_thrown s_faulty s_queued s_length s_at s_error s_tolds s_number s_g) H locs := hW
        refine lv_iadd hx hb dX8_numberNow_37 ?_
        refine lv_topi (fun v_3 ev_3 => ?_)
        replace hf := ob_let hf ev_3
        refine lv_istore_n (lv' := [(1, .int v_3), (0, .ref h_), (2, .int z2_4)]) hx hb dX8_numberNow_38 rfl hl (by decide) rfl (fun ls hl => ?_)
        obtain ⟨v_4, ev_4⟩ : ∃ y : Int32, y = z2_4 + 1 := ⟨_, rfl⟩
        replace hf := ob_let hf ev_4
        refine lv_iinc (v := v_4) (lv' := [(2, .int v_4), (1, .int v_3), (0, .ref h_)]) hx hb dX8_numberNow_39 hl (k := 2) rfl (by rw [ev_4]; rfl) (by decide) rfl (fun ls hl => ?_)
        refine lv_goto (tgt := 4) hx hb dX8_numberNow_42 (by decide) ?_
        cases hf
        exact ih v_3 v_4 ex _ _ _ (h9 _ rfl) (lv_sub hl [2, 1, 0] rfl) hW kx0
  obtain ⟨e_5, hc_5, hf⟩ := ob_bind hf
  refine hB4 lfuel 0 0 e_5 _ _ _ hc_5 (lv_sub hl [2, 1, 0] rfl) hW ?_
  intro H locs ls hl hW
  refine lv_iload_n hx hb dX8_numberNow_45 rfl (lv_at hl 0 rfl) ?_
  cases hf
  exact hret dX8_numberNow_46 rfl rfl hW
def w_X8_takes (E : Nat → ClassId) (h_ h_g h_kept h_past h_path h_pose h_way h_px h_py h_free h_tips h_far h_queue h_times h_turns h_names h_named h_text h_told h_spare : Nat) (s_hasKept : Int32) (s_pasts : Int32) (s_pathMoves : Int32) (s_spot : Int32) (s_thrown : Int32) (s_faulty : Int32) (s_queued : Int32) (s_length : Int32) (s_at : Int32) (s_error : Int32) (s_tolds : Int32) (s_number : Int32) (s_g : Nat → Int32) (s_pose : Nat → Int32) (s_way : Nat → Int32) (s_px : Nat → Int32) (s_py : Nat → Int32) : va_W := [(h_, .inr (10, [.ref h_g, .ref h_kept, .int s_hasKept, .ref h_past, .int s_pasts, .ref h_path, .int s_pathMoves, .int s_spot, .int s_thrown, .ref h_pose, .ref h_way, .ref h_px, .ref h_py, .int s_faulty, .ref h_free, .ref h_tips, .ref h_far, .ref h_queue, .int s_queued, .ref h_times, .ref h_turns, .ref h_names, .ref h_named, .ref h_text, .int s_length, .int s_at, .int s_error, .ref h_told, .int s_tolds, .int s_number, .ref h_spare])), (h_g, .inl (E 0, 141, .inl s_g)), (h_pose, .inl (E 0, 4, .inl s_pose)), (h_way, .inl (E 0, 4, .inl s_way)), (h_px, .inl (E 0, 5, .inl s_px)), (h_py, .inl (E 0, 5, .inl s_py))]
set_option maxHeartbeats 4000000 in
set_option maxRecDepth 100000 in
theorem c_X8_takes (l : Launch) (D : va_G) (E : Nat → ClassId) (tx : List (Nat × String)) (h_ h_g h_kept h_past h_path h_pose h_way h_px h_py h_free h_tips h_far h_queue h_times h_turns h_names h_named h_text h_told h_spare : Nat) (s_hasKept : Int32) (s_pasts : Int32) (s_pathMoves : Int32) (s_spot : Int32) (s_thrown : Int32) (s_faulty : Int32) (s_queued : Int32) (s_length : Int32) (s_at : Int32) (s_error : Int32) (s_tolds : Int32) (s_number : Int32) (s_g : Nat → Int32) (s_pose : Nat → Int32) (s_way : Nat → Int32) (s_px : Nat → Int32) (s_py : Nat → Int32) (x1 : Int32) (r0 : Nat → Int32) (r1 : Nat → Int32) (r2 : Nat → Int32) (r3 : Nat → Int32) (hf : f_X8_takes s_g s_pose s_way s_px s_py x1 = some (r0, r1, r2, r3)) : CV l yX8_takes cX8_takes 4 2 43 D E tx [.ref h_, .int x1] (w_X8_takes E h_ h_g h_kept h_past h_path h_pose h_way h_px h_py h_free h_tips h_far h_queue h_times h_turns h_names h_named h_text h_told h_spare s_hasKept s_pasts s_pathMoves s_spot s_thrown s_faulty s_queued s_length s_at s_error s_tolds s_number s_g s_pose s_way s_px s_py) (w_X8_takes E h_ h_g h_kept h_past h_path h_pose h_way h_px h_py h_free h_tips h_far h_queue h_times h_turns h_names h_named h_text h_told h_spare s_hasKept s_pasts s_pathMoves s_spot s_thrown s_faulty s_queued s_length s_at s_error s_tolds s_number s_g r0 r1 r2 r3) := by
  refine CV_of RX8 pn_X8 rfl (Nat.le_of_ble_eq_true rfl) (fun p e s m args below meth c A Q hF hK hA hZ hW hret ls hl => ?_)
  have hx := hF.1
  have hb := hF.2.1
  have hl : lv_has ls 4 [(0, .ref h_), (1, .int x1)] := hl
  unfold f_X8_takes at hf
  refine lv_iload_n hx hb dX8_takes_0 rfl (lv_at hl 1 rfl) ?_
  refine lv_istore_n (lv' := [(2, .int x1), (0, .ref h_), (1, .int x1)]) hx hb dX8_takes_1 rfl hl (by decide) rfl (fun ls hl => ?_)
  refine lv_aload_n hx hb dX8_takes_2 rfl (lv_at hl 1 rfl) ?_
  refine q_get hF hK hW fl_X8_7 0 rfl rfl dX8_takes_3 ?_
  refine lv_iconst (v := 0) hx hb dX8_takes_6 (by decide) ?_
  refine q_iald hx hb hK hW 1 0 rfl rfl dX8_takes_7 hf (fun hf => ?_)
  refine lv_iconst (v := 1) hx hb dX8_takes_8 (by decide) ?_
  refine lv_isub hx hb dX8_takes_9 ?_
  refine lv_topi (fun v_1 ev_1 => ?_)
  replace hf := ob_let hf ev_1
  refine lv_istore_n (lv' := [(3, .int v_1), (2, .int x1), (0, .ref h_), (1, .int x1)]) hx hb dX8_takes_10 rfl hl (by decide) rfl (fun ls hl => ?_)
  have hB11 : ∀ (n : Nat) (s_pose_11 : Nat → Int32) (z2_11 : Int32) (z3_11 : Int32) (ex : (Nat → Int32)) (H : Heap) (locs : List Loc) (ls : Array Slot), LPF (fun z => f_X8_takes_B11 s_g z.1 s_way s_px s_py z.2.1 z.2.2) n (s_pose_11, z2_11, z3_11) = some ex → lv_has ls 4 [(0, .ref h_), (2, .int z2_11), (3, .int z3_11)] → WD D A s (w_X8_takes E h_ h_g h_kept h_past h_path h_pose h_way h_px h_py h_free h_tips h_far h_queue h_times h_turns h_names h_named h_text h_told h_spare s_hasKept s_pasts s_pathMoves s_spot s_thrown s_faulty s_queued s_length s_at s_error s_tolds s_number s_g s_pose_11 s_way s_px s_py) H locs → (∀ (H : Heap) (locs : List Loc) (ls : Array Slot), lv_has ls 4 [(0, .ref h_)] → WD D A s (w_X8_takes E h_ h_g h_kept h_past h_path h_pose h_way h_px h_py h_free h_tips h_far h_queue h_times h_turns h_names h_named h_text h_told h_spare s_hasKept s_pasts s_pathMoves s_spot s_thrown s_faulty s_queued s_length s_at s_error s_tolds s_number s_g ex s_way s_px s_py) H locs → W p l e (RM 2 43) s m args below meth c H locs 0 0 Q (F0 m 48 ls [])) → W p l e (RM 2 43) s m args below meth c H locs 0 0 Q (F0 m 11 ls []) := by
    intro n
    induction n with
    | zero => intro s_pose_11 z2_11 z3_11 ex H locs ls h9; exact (ob_lp0 h9).elim
    | succ n ih =>
      intro s_pose_11 z2_11 z3_11 ex H locs ls h9 hl hW kx0
      obtain ⟨q9, hf, h9, k9⟩ := ob_lp h9
      have hf : f_X8_takes_B11 s_g s_pose_11 s_way s_px s_py z2_11 z3_11 = some q9 := hf
      unfold f_X8_takes_B11 at hf
      refine lv_iload_n hx hb dX8_takes_11 rfl (lv_at hl 2 rfl) ?_
      refine q_if_lt (tgt := 48) hx hb dX8_takes_12 (by decide) hf (fun hf => ?_) (fun hf => ?_)
      · cases hf
        have hx9 := k9 _ rfl
        subst hx9
        exact kx0 _ _ _ (lv_sub hl [0] rfl) hW
      · refine lv_aload_n hx hb dX8_takes_15 rfl (lv_at hl 0 rfl) ?_
        refine q_get hF hK hW fl_X8_26 0 rfl rfl dX8_takes_16 ?_
        refine lv_iload_n hx hb dX8_takes_19 rfl (lv_at hl 2 rfl) ?_
        refine lv_iload_n hx hb dX8_takes_20 rfl (lv_at hl 1 rfl) ?_
        refine lv_aload_n hx hb dX8_takes_21 rfl (lv_at hl 0 rfl) ?_
        refine lv_iload_n hx hb dX8_takes_22 rfl (lv_at hl 2 rfl) ?_
        obtain ⟨o_2, hc_2, hf⟩ := ob_bind hf
        refine q_callI hF hl.1 hK hA hZ hW mv_X8_values ml_X8_130 (c_X8_values l D E tx h_ h_g h_kept h_past h_path h_pose h_way h_px h_py h_free h_tips h_far h_queue h_times h_turns h_names h_named h_text h_told h_spare s_hasKept s_pasts s_pathMoves s_spot s_thrown s_faulty s_queued s_length s_at s_error s_tolds s_number s_g z3_11 o_2 hc_2) [0, 1] rfl rfl rfl rfl rfl rfl ⟨Nat.le_of_ble_eq_true rfl, Nat.le_of_ble_eq_true rfl⟩ ⟨Nat.le_of_ble_eq_true rfl, Nat.le_of_ble_eq_true rfl⟩ rfl rfl (Nat.le_of_ble_eq_true rfl) dX8_takes_23 (fun H locs hW => ?_)
        have hW : WD D A s (w_X8_takes E h_ h_g h_kept h_past h_path h_pose h_way h_px h_py h_free h_tips h_far h_queue h_times h_turns h_names h_named h_text h_told h_spare s_hasKept s_pasts s_pathMoves s_spot s_thrown s_faulty s_queued s_length s_at s_error s_tolds s_number s_g s_pose_11 s_way s_px s_py) H locs := hW
        refine lv_irem hx hb dX8_takes_26 (ob_gn hf).1 ?_
        replace hf := (ob_gn hf).2
        refine lv_aload_n hx hb dX8_takes_27 rfl (lv_at hl 0 rfl) ?_
        refine lv_iload_n hx hb dX8_takes_28 rfl (lv_at hl 2 rfl) ?_
        obtain ⟨o_3, hc_3, hf⟩ := ob_bind hf
        refine q_callI hF hl.1 hK hA hZ hW mv_X8_down ml_X8_124 (c_X8_down l D E tx h_ h_g h_kept h_past h_path h_pose h_way h_px h_py h_free h_tips h_far h_queue h_times h_turns h_names h_named h_text h_told h_spare s_hasKept s_pasts s_pathMoves s_spot s_thrown s_faulty s_queued s_length s_at s_error s_tolds s_number s_g z3_11 o_3 hc_3) [0, 1] rfl rfl rfl rfl rfl rfl ⟨Nat.le_of_ble_eq_true rfl, Nat.le_of_ble_eq_true rfl⟩ ⟨Nat.le_of_ble_eq_true rfl, Nat.le_of_ble_eq_true rfl⟩ rfl rfl (Nat.le_of_ble_eq_true rfl) dX8_takes_29 (fun H locs hW => ?_)
        have hW : WD D A s (w_X8_takes E h_ h_g h_kept h_past h_path h_pose h_way h_px h_py h_free h_tips h_far h_queue h_times h_turns h_names h_named h_text h_told h_spare s_hasKept s_pasts s_pathMoves s_spot s_thrown s_faulty s_queued s_length s_at s_error s_tolds s_number s_g s_pose_11 s_way s_px s_py) H locs := hW
        refine lv_isub hx hb dX8_takes_32 ?_
        refine q_iast hx hb hK hW 2 0 rfl rfl dX8_takes_33 hf (fun a_4 hf H locs hW => ?_)
        have hW : WD D A s (w_X8_takes E h_ h_g h_kept h_past h_path h_pose h_way h_px h_py h_free h_tips h_far h_queue h_times h_turns h_names h_named h_text h_told h_spare s_hasKept s_pasts s_pathMoves s_spot s_thrown s_faulty s_queued s_length s_at s_error s_tolds s_number s_g a_4 s_way s_px s_py) H locs := hW
        refine lv_iload_n hx hb dX8_takes_34 rfl (lv_at hl 1 rfl) ?_
        refine lv_aload_n hx hb dX8_takes_35 rfl (lv_at hl 0 rfl) ?_
        refine lv_iload_n hx hb dX8_takes_36 rfl (lv_at hl 2 rfl) ?_
        obtain ⟨o_5, hc_5, hf⟩ := ob_bind hf
        refine q_callI hF hl.1 hK hA hZ hW mv_X8_values ml_X8_130 (c_X8_values l D E tx h_ h_g h_kept h_past h_path h_pose h_way h_px h_py h_free h_tips h_far h_queue h_times h_turns h_names h_named h_text h_told h_spare s_hasKept s_pasts s_pathMoves s_spot s_thrown s_faulty s_queued s_length s_at s_error s_tolds s_number s_g z3_11 o_5 hc_5) [0, 1] rfl rfl rfl rfl rfl rfl ⟨Nat.le_of_ble_eq_true rfl, Nat.le_of_ble_eq_true rfl⟩ ⟨Nat.le_of_ble_eq_true rfl, Nat.le_of_ble_eq_true rfl⟩ rfl rfl (Nat.le_of_ble_eq_true rfl) dX8_takes_37 (fun H locs hW => ?_)
        have hW : WD D A s (w_X8_takes E h_ h_g h_kept h_past h_path h_pose h_way h_px h_py h_free h_tips h_far h_queue h_times h_turns h_names h_named h_text h_told h_spare s_hasKept s_pasts s_pathMoves s_spot s_thrown s_faulty s_queued s_length s_at s_error s_tolds s_number s_g a_4 s_way s_px s_py) H locs := hW
        refine lv_idiv hx hb dX8_takes_40 (ob_gn hf).1 ?_
        replace hf := (ob_gn hf).2
        refine lv_topi (fun v_6 ev_6 => ?_)
        replace hf := ob_let hf ev_6
        refine lv_istore_n (lv' := [(2, .int v_6), (0, .ref h_), (3, .int z3_11)]) hx hb dX8_takes_41 rfl hl (by decide) rfl (fun ls hl => ?_)
        obtain ⟨v_7, ev_7⟩ : ∃ y : Int32, y = z3_11 + (-1) := ⟨_, rfl⟩
        replace hf := ob_let hf ev_7
        refine lv_iinc (v := v_7) (lv' := [(3, .int v_7), (2, .int v_6), (0, .ref h_)]) hx hb dX8_takes_42 hl (k := 2) rfl (by rw [ev_7]; rfl) (by decide) rfl (fun ls hl => ?_)
        refine lv_goto (tgt := 11) hx hb dX8_takes_45 (by decide) ?_
        cases hf
        exact ih a_4 v_6 v_7 ex _ _ _ (h9 _ rfl) (lv_sub hl [2, 1, 0] rfl) hW kx0
  obtain ⟨e_8, hc_8, hf⟩ := ob_bind hf
  refine hB11 lfuel s_pose x1 v_1 e_8 _ _ _ hc_8 (lv_sub hl [2, 1, 0] rfl) hW ?_
  intro H locs ls hl hW
  refine lv_aload_n hx hb dX8_takes_48 rfl (lv_at hl 0 rfl) ?_
  obtain ⟨o_9, hc_9, hf⟩ := ob_bind hf
  refine q_callV hF hl.1 hK hA hZ hW mv_X8_lays ml_X8_146 (c_X8_lays l D E tx h_ h_g h_kept h_past h_path h_pose h_way h_px h_py h_free h_tips h_far h_queue h_times h_turns h_names h_named h_text h_told h_spare s_hasKept s_pasts s_pathMoves s_spot s_thrown s_faulty s_queued s_length s_at s_error s_tolds s_number s_g e_8 s_way s_px s_py o_9.1 o_9.2.1 o_9.2.2 hc_9) [0, 1, 2, 3, 4, 5] rfl rfl rfl rfl rfl rfl ⟨Nat.le_of_ble_eq_true rfl, Nat.le_of_ble_eq_true rfl⟩ ⟨Nat.le_of_ble_eq_true rfl, Nat.le_of_ble_eq_true rfl⟩ rfl rfl (Nat.le_of_ble_eq_true rfl) dX8_takes_49 (fun H locs hW => ?_)
  have hW : WD D A s (w_X8_takes E h_ h_g h_kept h_past h_path h_pose h_way h_px h_py h_free h_tips h_far h_queue h_times h_turns h_names h_named h_text h_told h_spare s_hasKept s_pasts s_pathMoves s_spot s_thrown s_faulty s_queued s_length s_at s_error s_tolds s_number s_g e_8 o_9.1 o_9.2.1 o_9.2.2) H locs := hW
  cases hf
  exact hret dX8_takes_52 hW
def w_X8_cellX (E : Nat → ClassId) (h_ h_g h_kept h_past h_path h_pose h_way h_px h_py h_free h_tips h_far h_queue h_times h_turns h_names h_named h_text h_told h_spare : Nat) (s_hasKept : Int32) (s_pasts : Int32) (s_pathMoves : Int32) (s_spot : Int32) (s_thrown : Int32) (s_faulty : Int32) (s_queued : Int32) (s_length : Int32) (s_at : Int32) (s_error : Int32) (s_tolds : Int32) (s_number : Int32) (s_way : Nat → Int32) (s_px : Nat → Int32) : va_W := [(h_, .inr (10, [.ref h_g, .ref h_kept, .int s_hasKept, .ref h_past, .int s_pasts, .ref h_path, .int s_pathMoves, .int s_spot, .int s_thrown, .ref h_pose, .ref h_way, .ref h_px, .ref h_py, .int s_faulty, .ref h_free, .ref h_tips, .ref h_far, .ref h_queue, .int s_queued, .ref h_times, .ref h_turns, .ref h_names, .ref h_named, .ref h_text, .int s_length, .int s_at, .int s_error, .ref h_told, .int s_tolds, .int s_number, .ref h_spare])), (h_way, .inl (E 0, 4, .inl s_way)), (h_px, .inl (E 0, 5, .inl s_px))]
set_option maxHeartbeats 4000000 in
set_option maxRecDepth 100000 in
theorem c_X8_cellX (l : Launch) (D : va_G) (E : Nat → ClassId) (tx : List (Nat × String)) (h_ h_g h_kept h_past h_path h_pose h_way h_px h_py h_free h_tips h_far h_queue h_times h_turns h_names h_named h_text h_told h_spare : Nat) (s_hasKept : Int32) (s_pasts : Int32) (s_pathMoves : Int32) (s_spot : Int32) (s_thrown : Int32) (s_faulty : Int32) (s_queued : Int32) (s_length : Int32) (s_at : Int32) (s_error : Int32) (s_tolds : Int32) (s_number : Int32) (s_way : Nat → Int32) (s_px : Nat → Int32) (x1 : Int32) (x2 : Int32) (r0 : Int32) (hf : f_X8_cellX s_way s_px x1 x2 = some r0) : CI l yX8_cellX cX8_cellX 3 (some .int) 1 20 D E tx [.ref h_, .int x1, .int x2] (w_X8_cellX E h_ h_g h_kept h_past h_path h_pose h_way h_px h_py h_free h_tips h_far h_queue h_times h_turns h_names h_named h_text h_told h_spare s_hasKept s_pasts s_pathMoves s_spot s_thrown s_faulty s_queued s_length s_at s_error s_tolds s_number s_way s_px) (w_X8_cellX E h_ h_g h_kept h_past h_path h_pose h_way h_px h_py h_free h_tips h_far h_queue h_times h_turns h_names h_named h_text h_told h_spare s_hasKept s_pasts s_pathMoves s_spot s_thrown s_faulty s_queued s_length s_at s_error s_tolds s_number s_way s_px) r0 := by
  refine CI_of RX8 pn_X8 rfl (Nat.le_of_ble_eq_true rfl) (fun p e s m args below meth c A Q hF hK hA hZ hW hret ls hl => ?_)
  have hx := hF.1
  have hb := hF.2.1
  have hl : lv_has ls 3 [(0, .ref h_), (1, .int x1), (2, .int x2)] := hl
  unfold f_X8_cellX at hf
  refine lv_aload_n hx hb dX8_cellX_0 rfl (lv_at hl 0 rfl) ?_
  refine q_get hF hK hW fl_X8_32 0 rfl rfl dX8_cellX_1 ?_
  refine lv_iload_n hx hb dX8_cellX_4 rfl (lv_at hl 1 rfl) ?_
  refine q_iald hx hb hK hW 2 0 rfl rfl dX8_cellX_5 hf (fun hf => ?_)
  refine lv_iload_n hx hb dX8_cellX_6 rfl (lv_at hl 2 rfl) ?_
  refine lv_aload_n hx hb dX8_cellX_7 rfl (lv_at hl 0 rfl) ?_
  refine q_get hF hK hW fl_X8_29 0 rfl rfl dX8_cellX_8 ?_
  refine lv_iload_n hx hb dX8_cellX_11 rfl (lv_at hl 1 rfl) ?_
  refine q_iald hx hb hK hW 1 0 rfl rfl dX8_cellX_12 hf (fun hf => ?_)
  obtain ⟨o_1, hc_1, hf⟩ := ob_bind hf
  refine q_callSI hF hl.1 hK hA hZ hW ms_X8_stepX ml_X8_140 (c_X8_stepX l D E tx (s_way x1.toNatClampNeg) o_1 hc_1) [] rfl rfl rfl ⟨Nat.le_of_ble_eq_true rfl, Nat.le_of_ble_eq_true rfl⟩ ⟨Nat.le_of_ble_eq_true rfl, Nat.le_of_ble_eq_true rfl⟩ rfl rfl (Nat.le_of_ble_eq_true rfl) dX8_cellX_13 (fun H locs hW => ?_)
  have hW : WD D A s (w_X8_cellX E h_ h_g h_kept h_past h_path h_pose h_way h_px h_py h_free h_tips h_far h_queue h_times h_turns h_names h_named h_text h_told h_spare s_hasKept s_pasts s_pathMoves s_spot s_thrown s_faulty s_queued s_length s_at s_error s_tolds s_number s_way s_px) H locs := hW
  refine lv_imul hx hb dX8_cellX_16 ?_
  refine lv_iadd hx hb dX8_cellX_17 ?_
  cases hf
  exact hret dX8_cellX_18 rfl rfl hW
def w_X8_cellY (E : Nat → ClassId) (h_ h_g h_kept h_past h_path h_pose h_way h_px h_py h_free h_tips h_far h_queue h_times h_turns h_names h_named h_text h_told h_spare : Nat) (s_hasKept : Int32) (s_pasts : Int32) (s_pathMoves : Int32) (s_spot : Int32) (s_thrown : Int32) (s_faulty : Int32) (s_queued : Int32) (s_length : Int32) (s_at : Int32) (s_error : Int32) (s_tolds : Int32) (s_number : Int32) (s_way : Nat → Int32) (s_py : Nat → Int32) : va_W := [(h_, .inr (10, [.ref h_g, .ref h_kept, .int s_hasKept, .ref h_past, .int s_pasts, .ref h_path, .int s_pathMoves, .int s_spot, .int s_thrown, .ref h_pose, .ref h_way, .ref h_px, .ref h_py, .int s_faulty, .ref h_free, .ref h_tips, .ref h_far, .ref h_queue, .int s_queued, .ref h_times, .ref h_turns, .ref h_names, .ref h_named, .ref h_text, .int s_length, .int s_at, .int s_error, .ref h_told, .int s_tolds, .int s_number, .ref h_spare])), (h_way, .inl (E 0, 4, .inl s_way)), (h_py, .inl (E 0, 5, .inl s_py))]
set_option maxHeartbeats 4000000 in
set_option maxRecDepth 100000 in
theorem c_X8_cellY (l : Launch) (D : va_G) (E : Nat → ClassId) (tx : List (Nat × String)) (h_ h_g h_kept h_past h_path h_pose h_way h_px h_py h_free h_tips h_far h_queue h_times h_turns h_names h_named h_text h_told h_spare : Nat) (s_hasKept : Int32) (s_pasts : Int32) (s_pathMoves : Int32) (s_spot : Int32) (s_thrown : Int32) (s_faulty : Int32) (s_queued : Int32) (s_length : Int32) (s_at : Int32) (s_error : Int32) (s_tolds : Int32) (s_number : Int32) (s_way : Nat → Int32) (s_py : Nat → Int32) (x1 : Int32) (x2 : Int32) (r0 : Int32) (hf : f_X8_cellY s_way s_py x1 x2 = some r0) : CI l yX8_cellY cX8_cellY 3 (some .int) 1 20 D E tx [.ref h_, .int x1, .int x2] (w_X8_cellY E h_ h_g h_kept h_past h_path h_pose h_way h_px h_py h_free h_tips h_far h_queue h_times h_turns h_names h_named h_text h_told h_spare s_hasKept s_pasts s_pathMoves s_spot s_thrown s_faulty s_queued s_length s_at s_error s_tolds s_number s_way s_py) (w_X8_cellY E h_ h_g h_kept h_past h_path h_pose h_way h_px h_py h_free h_tips h_far h_queue h_times h_turns h_names h_named h_text h_told h_spare s_hasKept s_pasts s_pathMoves s_spot s_thrown s_faulty s_queued s_length s_at s_error s_tolds s_number s_way s_py) r0 := by
  refine CI_of RX8 pn_X8 rfl (Nat.le_of_ble_eq_true rfl) (fun p e s m args below meth c A Q hF hK hA hZ hW hret ls hl => ?_)
  have hx := hF.1
  have hb := hF.2.1
  have hl : lv_has ls 3 [(0, .ref h_), (1, .int x1), (2, .int x2)] := hl
  unfold f_X8_cellY at hf
  refine lv_aload_n hx hb dX8_cellY_0 rfl (lv_at hl 0 rfl) ?_
  refine q_get hF hK hW fl_X8_35 0 rfl rfl dX8_cellY_1 ?_
  refine lv_iload_n hx hb dX8_cellY_4 rfl (lv_at hl 1 rfl) ?_
  refine q_iald hx hb hK hW 2 0 rfl rfl dX8_cellY_5 hf (fun hf => ?_)
  refine lv_iload_n hx hb dX8_cellY_6 rfl (lv_at hl 2 rfl) ?_
  refine lv_aload_n hx hb dX8_cellY_7 rfl (lv_at hl 0 rfl) ?_
  refine q_get hF hK hW fl_X8_29 0 rfl rfl dX8_cellY_8 ?_
  refine lv_iload_n hx hb dX8_cellY_11 rfl (lv_at hl 1 rfl) ?_
  refine q_iald hx hb hK hW 1 0 rfl rfl dX8_cellY_12 hf (fun hf => ?_)
  obtain ⟨o_1, hc_1, hf⟩ := ob_bind hf
  refine q_callSI hF hl.1 hK hA hZ hW ms_X8_stepY ml_X8_143 (c_X8_stepY l D E tx (s_way x1.toNatClampNeg) o_1 hc_1) [] rfl rfl rfl ⟨Nat.le_of_ble_eq_true rfl, Nat.le_of_ble_eq_true rfl⟩ ⟨Nat.le_of_ble_eq_true rfl, Nat.le_of_ble_eq_true rfl⟩ rfl rfl (Nat.le_of_ble_eq_true rfl) dX8_cellY_13 (fun H locs hW => ?_)
  have hW : WD D A s (w_X8_cellY E h_ h_g h_kept h_past h_path h_pose h_way h_px h_py h_free h_tips h_far h_queue h_times h_turns h_names h_named h_text h_told h_spare s_hasKept s_pasts s_pathMoves s_spot s_thrown s_faulty s_queued s_length s_at s_error s_tolds s_number s_way s_py) H locs := hW
  refine lv_imul hx hb dX8_cellY_16 ?_
  refine lv_iadd hx hb dX8_cellY_17 ?_
  cases hf
  exact hret dX8_cellY_18 rfl rfl hW
def w_X8_isOut (E : Nat → ClassId) (h_ h_g h_kept h_past h_path h_pose h_way h_px h_py h_free h_tips h_far h_queue h_times h_turns h_names h_named h_text h_told h_spare : Nat) (s_hasKept : Int32) (s_pasts : Int32) (s_pathMoves : Int32) (s_spot : Int32) (s_thrown : Int32) (s_faulty : Int32) (s_queued : Int32) (s_length : Int32) (s_at : Int32) (s_error : Int32) (s_tolds : Int32) (s_number : Int32) (s_px : Nat → Int32) (s_py : Nat → Int32) : va_W := [(h_, .inr (10, [.ref h_g, .ref h_kept, .int s_hasKept, .ref h_past, .int s_pasts, .ref h_path, .int s_pathMoves, .int s_spot, .int s_thrown, .ref h_pose, .ref h_way, .ref h_px, .ref h_py, .int s_faulty, .ref h_free, .ref h_tips, .ref h_far, .ref h_queue, .int s_queued, .ref h_times, .ref h_turns, .ref h_names, .ref h_named, .ref h_text, .int s_length, .int s_at, .int s_error, .ref h_told, .int s_tolds, .int s_number, .ref h_spare])), (h_px, .inl (E 0, 5, .inl s_px)), (h_py, .inl (E 0, 5, .inl s_py))]
set_option maxHeartbeats 4000000 in
set_option maxRecDepth 100000 in
theorem c_X8_isOut (l : Launch) (D : va_G) (E : Nat → ClassId) (tx : List (Nat × String)) (h_ h_g h_kept h_past h_path h_pose h_way h_px h_py h_free h_tips h_far h_queue h_times h_turns h_names h_named h_text h_told h_spare : Nat) (s_hasKept : Int32) (s_pasts : Int32) (s_pathMoves : Int32) (s_spot : Int32) (s_thrown : Int32) (s_faulty : Int32) (s_queued : Int32) (s_length : Int32) (s_at : Int32) (s_error : Int32) (s_tolds : Int32) (s_number : Int32) (s_px : Nat → Int32) (s_py : Nat → Int32) (x1 : Int32) (r0 : Int32) (hf : f_X8_isOut s_px s_py x1 = some r0) : CI l yX8_isOut cX8_isOut 2 (some .boolean) 2 43 D E tx [.ref h_, .int x1] (w_X8_isOut E h_ h_g h_kept h_past h_path h_pose h_way h_px h_py h_free h_tips h_far h_queue h_times h_turns h_names h_named h_text h_told h_spare s_hasKept s_pasts s_pathMoves s_spot s_thrown s_faulty s_queued s_length s_at s_error s_tolds s_number s_px s_py) (w_X8_isOut E h_ h_g h_kept h_past h_path h_pose h_way h_px h_py h_free h_tips h_far h_queue h_times h_turns h_names h_named h_text h_told h_spare s_hasKept s_pasts s_pathMoves s_spot s_thrown s_faulty s_queued s_length s_at s_error s_tolds s_number s_px s_py) r0 := by
  refine CI_of RX8 pn_X8 rfl (Nat.le_of_ble_eq_true rfl) (fun p e s m args below meth c A Q hF hK hA hZ hW hret ls hl => ?_)
  have hx := hF.1
  have hb := hF.2.1
  have hl : lv_has ls 2 [(0, .ref h_), (1, .int x1)] := hl
  unfold f_X8_isOut at hf
  refine lv_aload_n hx hb dX8_isOut_0 rfl (lv_at hl 0 rfl) ?_
  refine q_get hF hK hW fl_X8_32 0 rfl rfl dX8_isOut_1 ?_
  refine lv_iload_n hx hb dX8_isOut_4 rfl (lv_at hl 1 rfl) ?_
  refine q_iald hx hb hK hW 1 0 rfl rfl dX8_isOut_5 hf (fun hf => ?_)
  refine lv_aload_n hx hb dX8_isOut_6 rfl (lv_at hl 0 rfl) ?_
  refine q_get hF hK hW fl_X8_35 0 rfl rfl dX8_isOut_7 ?_
  refine lv_iload_n hx hb dX8_isOut_10 rfl (lv_at hl 1 rfl) ?_
  refine q_iald hx hb hK hW 2 0 rfl rfl dX8_isOut_11 hf (fun hf => ?_)
  obtain ⟨o_1, hc_1, hf⟩ := ob_bind hf
  refine q_callSI hF hl.1 hK hA hZ hW ms_X8_isCell ml_X8_109 (c_X8_isCell l D E tx (s_px x1.toNatClampNeg) (s_py x1.toNatClampNeg) o_1 hc_1) [] rfl rfl rfl ⟨Nat.le_of_ble_eq_true rfl, Nat.le_of_ble_eq_true rfl⟩ ⟨Nat.le_of_ble_eq_true rfl, Nat.le_of_ble_eq_true rfl⟩ rfl rfl (Nat.le_of_ble_eq_true rfl) dX8_isOut_12 (fun H locs hW => ?_)
  have hW : WD D A s (w_X8_isOut E h_ h_g h_kept h_past h_path h_pose h_way h_px h_py h_free h_tips h_far h_queue h_times h_turns h_names h_named h_text h_told h_spare s_hasKept s_pasts s_pathMoves s_spot s_thrown s_faulty s_queued s_length s_at s_error s_tolds s_number s_px s_py) H locs := hW
  refine q_if_eq (tgt := 40) hx hb dX8_isOut_15 (by decide) hf (fun hf => ?_) (fun hf => ?_)
  · refine lv_iconst (v := 1) hx hb dX8_isOut_40 (by decide) ?_
    refine lv_goto (tgt := 45) hx hb dX8_isOut_41 (by decide) ?_
    cases hf
    exact hret dX8_isOut_45 rfl rfl hW
  · refine lv_aload_n hx hb dX8_isOut_18 rfl (lv_at hl 0 rfl) ?_
    refine q_get hF hK hW fl_X8_32 0 rfl rfl dX8_isOut_19 ?_
    refine lv_iload_n hx hb dX8_isOut_22 rfl (lv_at hl 1 rfl) ?_
    refine lv_iconst (v := 1) hx hb dX8_isOut_23 (by decide) ?_
    refine lv_iadd hx hb dX8_isOut_24 ?_
    refine q_iald hx hb hK hW 1 0 rfl rfl dX8_isOut_25 hf (fun hf => ?_)
    refine lv_aload_n hx hb dX8_isOut_26 rfl (lv_at hl 0 rfl) ?_
    refine q_get hF hK hW fl_X8_35 0 rfl rfl dX8_isOut_27 ?_
    refine lv_iload_n hx hb dX8_isOut_30 rfl (lv_at hl 1 rfl) ?_
    refine lv_iconst (v := 1) hx hb dX8_isOut_31 (by decide) ?_
    refine lv_iadd hx hb dX8_isOut_32 ?_
    refine q_iald hx hb hK hW 2 0 rfl rfl dX8_isOut_33 hf (fun hf => ?_)
    obtain ⟨o_2, hc_2, hf⟩ := ob_bind hf
    refine q_callSI hF hl.1 hK hA hZ hW ms_X8_isCell ml_X8_109 (c_X8_isCell l D E tx (s_px (x1 + 1).toNatClampNeg) (s_py (x1 + 1).toNatClampNeg) o_2 hc_2) [] rfl rfl rfl ⟨Nat.le_of_ble_eq_true rfl, Nat.le_of_ble_eq_true rfl⟩ ⟨Nat.le_of_ble_eq_true rfl, Nat.le_of_ble_eq_true rfl⟩ rfl rfl (Nat.le_of_ble_eq_true rfl) dX8_isOut_34 (fun H locs hW => ?_)
    have hW : WD D A s (w_X8_isOut E h_ h_g h_kept h_past h_path h_pose h_way h_px h_py h_free h_tips h_far h_queue h_times h_turns h_names h_named h_text h_told h_spare s_hasKept s_pasts s_pathMoves s_spot s_thrown s_faulty s_queued s_length s_at s_error s_tolds s_number s_px s_py) H locs := hW
    refine q_if_ne (tgt := 44) hx hb dX8_isOut_37 (by decide) hf (fun hf => ?_) (fun hf => ?_)
    · refine lv_iconst (v := 0) hx hb dX8_isOut_44 (by decide) ?_
      cases hf
      exact hret dX8_isOut_45 rfl rfl hW
    · refine lv_iconst (v := 1) hx hb dX8_isOut_40 (by decide) ?_
      refine lv_goto (tgt := 45) hx hb dX8_isOut_41 (by decide) ?_
      cases hf
      exact hret dX8_isOut_45 rfl rfl hW
def w_X8_hits (E : Nat → ClassId) (h_ h_g h_kept h_past h_path h_pose h_way h_px h_py h_free h_tips h_far h_queue h_times h_turns h_names h_named h_text h_told h_spare : Nat) (s_hasKept : Int32) (s_pasts : Int32) (s_pathMoves : Int32) (s_spot : Int32) (s_thrown : Int32) (s_faulty : Int32) (s_queued : Int32) (s_length : Int32) (s_at : Int32) (s_error : Int32) (s_tolds : Int32) (s_number : Int32) (s_g : Nat → Int32) (s_way : Nat → Int32) (s_px : Nat → Int32) (s_py : Nat → Int32) : va_W := [(h_, .inr (10, [.ref h_g, .ref h_kept, .int s_hasKept, .ref h_past, .int s_pasts, .ref h_path, .int s_pathMoves, .int s_spot, .int s_thrown, .ref h_pose, .ref h_way, .ref h_px, .ref h_py, .int s_faulty, .ref h_free, .ref h_tips, .ref h_far, .ref h_queue, .int s_queued, .ref h_times, .ref h_turns, .ref h_names, .ref h_named, .ref h_text, .int s_length, .int s_at, .int s_error, .ref h_told, .int s_tolds, .int s_number, .ref h_spare])), (h_g, .inl (E 0, 141, .inl s_g)), (h_way, .inl (E 0, 4, .inl s_way)), (h_px, .inl (E 0, 5, .inl s_px)), (h_py, .inl (E 0, 5, .inl s_py))]
set_option maxHeartbeats 4000000 in
set_option maxRecDepth 100000 in
theorem c_X8_hits (l : Launch) (D : va_G) (E : Nat → ClassId) (tx : List (Nat × String)) (h_ h_g h_kept h_past h_path h_pose h_way h_px h_py h_free h_tips h_far h_queue h_times h_turns h_names h_named h_text h_told h_spare : Nat) (s_hasKept : Int32) (s_pasts : Int32) (s_pathMoves : Int32) (s_spot : Int32) (s_thrown : Int32) (s_faulty : Int32) (s_queued : Int32) (s_length : Int32) (s_at : Int32) (s_error : Int32) (s_tolds : Int32) (s_number : Int32) (s_g : Nat → Int32) (s_way : Nat → Int32) (s_px : Nat → Int32) (s_py : Nat → Int32) (x1 : Int32) (r0 : Int32) (hf : f_X8_hits s_g s_way s_px s_py x1 = some r0) : CI l yX8_hits cX8_hits 3 (some .boolean) 2 42 D E tx [.ref h_, .int x1] (w_X8_hits E h_ h_g h_kept h_past h_path h_pose h_way h_px h_py h_free h_tips h_far h_queue h_times h_turns h_names h_named h_text h_told h_spare s_hasKept s_pasts s_pathMoves s_spot s_thrown s_faulty s_queued s_length s_at s_error s_tolds s_number s_g s_way s_px s_py) (w_X8_hits E h_ h_g h_kept h_past h_path h_pose h_way h_px h_py h_free h_tips h_far h_queue h_times h_turns h_names h_named h_text h_told h_spare s_hasKept s_pasts s_pathMoves s_spot s_thrown s_faulty s_queued s_length s_at s_error s_tolds s_number s_g s_way s_px s_py) r0 := by
  refine CI_of RX8 pn_X8 rfl (Nat.le_of_ble_eq_true rfl) (fun p e s m args below meth c A Q hF hK hA hZ hW hret ls hl => ?_)
  have hx := hF.1
  have hb := hF.2.1
  have hl : lv_has ls 3 [(0, .ref h_), (1, .int x1)] := hl
  unfold f_X8_hits at hf
  refine lv_iconst (v := 0) hx hb dX8_hits_0 (by decide) ?_
  refine lv_istore_n (lv' := [(2, .int 0), (0, .ref h_), (1, .int x1)]) hx hb dX8_hits_1 rfl hl (by decide) rfl (fun ls hl => ?_)
  have hB2 : ∀ (n : Nat) (z2_2 : Int32) (ex : (Unit) ⊕ (Unit)) (H : Heap) (locs : List Loc) (ls : Array Slot), LPF (fun z => f_X8_hits_B2 s_g s_way s_px s_py x1 z) n z2_2 = some ex → lv_has ls 3 [(0, .ref h_), (1, .int x1), (2, .int z2_2)] → WD D A s (w_X8_hits E h_ h_g h_kept h_past h_path h_pose h_way h_px h_py h_free h_tips h_far h_queue h_times h_turns h_names h_named h_text h_told h_spare s_hasKept s_pasts s_pathMoves s_spot s_thrown s_faulty s_queued s_length s_at s_error s_tolds s_number s_g s_way s_px s_py) H locs → (∀ (u9 : Unit), ex = .inl u9 → ∀ (H : Heap) (locs : List Loc) (ls : Array Slot), lv_has ls 3 [] → WD D A s (w_X8_hits E h_ h_g h_kept h_past h_path h_pose h_way h_px h_py h_free h_tips h_far h_queue h_times h_turns h_names h_named h_text h_told h_spare s_hasKept s_pasts s_pathMoves s_spot s_thrown s_faulty s_queued s_length s_at s_error s_tolds s_number s_g s_way s_px s_py) H locs → W p l e (RM 2 42) s m args below meth c H locs 0 0 Q (F0 m 30 ls [])) → (∀ (u9 : Unit), ex = .inr u9 → ∀ (H : Heap) (locs : List Loc) (ls : Array Slot), lv_has ls 3 [] → WD D A s (w_X8_hits E h_ h_g h_kept h_past h_path h_pose h_way h_px h_py h_free h_tips h_far h_queue h_times h_turns h_names h_named h_text h_told h_spare s_hasKept s_pasts s_pathMoves s_spot s_thrown s_faulty s_queued s_length s_at s_error s_tolds s_number s_g s_way s_px s_py) H locs → W p l e (RM 2 42) s m args below meth c H locs 0 0 Q (F0 m 38 ls [])) → W p l e (RM 2 42) s m args below meth c H locs 0 0 Q (F0 m 2 ls []) := by
    intro n
    induction n with
    | zero => intro z2_2 ex H locs ls h9; exact (ob_lp0 h9).elim
    | succ n ih =>
      intro z2_2 ex H locs ls h9 hl hW kx0 kx1
      obtain ⟨q9, hf, h9, k9⟩ := ob_lp h9
      have hf : f_X8_hits_B2 s_g s_way s_px s_py x1 z2_2 = some q9 := hf
      unfold f_X8_hits_B2 at hf
      refine lv_iload_n hx hb dX8_hits_2 rfl (lv_at hl 2 rfl) ?_
      refine lv_aload_n hx hb dX8_hits_3 rfl (lv_at hl 0 rfl) ?_
      refine lv_iload_n hx hb dX8_hits_4 rfl (lv_at hl 1 rfl) ?_
      obtain ⟨o_1, hc_1, hf⟩ := ob_bind hf
      refine q_callI hF hl.1 hK hA hZ hW mv_X8_lengthOf ml_X8_137 (c_X8_lengthOf l D E tx h_ h_g h_kept h_past h_path h_pose h_way h_px h_py h_free h_tips h_far h_queue h_times h_turns h_names h_named h_text h_told h_spare s_hasKept s_pasts s_pathMoves s_spot s_thrown s_faulty s_queued s_length s_at s_error s_tolds s_number s_g x1 o_1 hc_1) [0, 1] rfl rfl rfl rfl rfl rfl ⟨Nat.le_of_ble_eq_true rfl, Nat.le_of_ble_eq_true rfl⟩ ⟨Nat.le_of_ble_eq_true rfl, Nat.le_of_ble_eq_true rfl⟩ rfl rfl (Nat.le_of_ble_eq_true rfl) dX8_hits_5 (fun H locs hW => ?_)
      have hW : WD D A s (w_X8_hits E h_ h_g h_kept h_past h_path h_pose h_way h_px h_py h_free h_tips h_far h_queue h_times h_turns h_names h_named h_text h_told h_spare s_hasKept s_pasts s_pathMoves s_spot s_thrown s_faulty s_queued s_length s_at s_error s_tolds s_number s_g s_way s_px s_py) H locs := hW
      refine q_icmp_gt (tgt := 38) hx hb dX8_hits_8 (by decide) hf (fun hf => ?_) (fun hf => ?_)
      · cases hf
        exact kx1 _ (k9 _ rfl) _ _ _ (lv_sub hl [] rfl) hW
      · refine lv_aload_n hx hb dX8_hits_11 rfl (lv_at hl 0 rfl) ?_
        refine lv_aload_n hx hb dX8_hits_12 rfl (lv_at hl 0 rfl) ?_
        refine lv_iload_n hx hb dX8_hits_13 rfl (lv_at hl 1 rfl) ?_
        refine lv_iload_n hx hb dX8_hits_14 rfl (lv_at hl 2 rfl) ?_
        obtain ⟨o_2, hc_2, hf⟩ := ob_bind hf
        refine q_callI hF hl.1 hK hA hZ hW mv_X8_cellX ml_X8_149 (c_X8_cellX l D E tx h_ h_g h_kept h_past h_path h_pose h_way h_px h_py h_free h_tips h_far h_queue h_times h_turns h_names h_named h_text h_told h_spare s_hasKept s_pasts s_pathMoves s_spot s_thrown s_faulty s_queued s_length s_at s_error s_tolds s_number s_way s_px x1 z2_2 o_2 hc_2) [0, 2, 3] rfl rfl rfl rfl rfl rfl ⟨Nat.le_of_ble_eq_true rfl, Nat.le_of_ble_eq_true rfl⟩ ⟨Nat.le_of_ble_eq_true rfl, Nat.le_of_ble_eq_true rfl⟩ rfl rfl (Nat.le_of_ble_eq_true rfl) dX8_hits_15 (fun H locs hW => ?_)
        have hW : WD D A s (w_X8_hits E h_ h_g h_kept h_past h_path h_pose h_way h_px h_py h_free h_tips h_far h_queue h_times h_turns h_names h_named h_text h_told h_spare s_hasKept s_pasts s_pathMoves s_spot s_thrown s_faulty s_queued s_length s_at s_error s_tolds s_number s_g s_way s_px s_py) H locs := hW
        refine lv_aload_n hx hb dX8_hits_18 rfl (lv_at hl 0 rfl) ?_
        refine lv_iload_n hx hb dX8_hits_19 rfl (lv_at hl 1 rfl) ?_
        refine lv_iload_n hx hb dX8_hits_20 rfl (lv_at hl 2 rfl) ?_
        obtain ⟨o_3, hc_3, hf⟩ := ob_bind hf
        refine q_callI hF hl.1 hK hA hZ hW mv_X8_cellY ml_X8_152 (c_X8_cellY l D E tx h_ h_g h_kept h_past h_path h_pose h_way h_px h_py h_free h_tips h_far h_queue h_times h_turns h_names h_named h_text h_told h_spare s_hasKept s_pasts s_pathMoves s_spot s_thrown s_faulty s_queued s_length s_at s_error s_tolds s_number s_way s_py x1 z2_2 o_3 hc_3) [0, 2, 4] rfl rfl rfl rfl rfl rfl ⟨Nat.le_of_ble_eq_true rfl, Nat.le_of_ble_eq_true rfl⟩ ⟨Nat.le_of_ble_eq_true rfl, Nat.le_of_ble_eq_true rfl⟩ rfl rfl (Nat.le_of_ble_eq_true rfl) dX8_hits_21 (fun H locs hW => ?_)
        have hW : WD D A s (w_X8_hits E h_ h_g h_kept h_past h_path h_pose h_way h_px h_py h_free h_tips h_far h_queue h_times h_turns h_names h_named h_text h_told h_spare s_hasKept s_pasts s_pathMoves s_spot s_thrown s_faulty s_queued s_length s_at s_error s_tolds s_number s_g s_way s_px s_py) H locs := hW
        obtain ⟨o_4, hc_4, hf⟩ := ob_bind hf
        refine q_callI hF hl.1 hK hA hZ hW mv_X8_stoneAt ml_X8_113 (c_X8_stoneAt l D E tx h_ h_g h_kept h_past h_path h_pose h_way h_px h_py h_free h_tips h_far h_queue h_times h_turns h_names h_named h_text h_told h_spare s_hasKept s_pasts s_pathMoves s_spot s_thrown s_faulty s_queued s_length s_at s_error s_tolds s_number s_g o_2 o_3 o_4 hc_4) [0, 1] rfl rfl rfl rfl rfl rfl ⟨Nat.le_of_ble_eq_true rfl, Nat.le_of_ble_eq_true rfl⟩ ⟨Nat.le_of_ble_eq_true rfl, Nat.le_of_ble_eq_true rfl⟩ rfl rfl (Nat.le_of_ble_eq_true rfl) dX8_hits_24 (fun H locs hW => ?_)
        have hW : WD D A s (w_X8_hits E h_ h_g h_kept h_past h_path h_pose h_way h_px h_py h_free h_tips h_far h_queue h_times h_turns h_names h_named h_text h_told h_spare s_hasKept s_pasts s_pathMoves s_spot s_thrown s_faulty s_queued s_length s_at s_error s_tolds s_number s_g s_way s_px s_py) H locs := hW
        refine q_if_lt (tgt := 32) hx hb dX8_hits_27 (by decide) hf (fun hf => ?_) (fun hf => ?_)
        · obtain ⟨v_5, ev_5⟩ : ∃ y : Int32, y = z2_2 + 1 := ⟨_, rfl⟩
          replace hf := ob_let hf ev_5
          refine lv_iinc (v := v_5) (lv' := [(2, .int v_5), (0, .ref h_), (1, .int x1)]) hx hb dX8_hits_32 hl (k := 2) rfl (by rw [ev_5]; rfl) (by decide) rfl (fun ls hl => ?_)
          refine lv_goto (tgt := 2) hx hb dX8_hits_35 (by decide) ?_
          cases hf
          exact ih v_5 ex _ _ _ (h9 _ rfl) (lv_sub hl [1, 2, 0] rfl) hW kx0 kx1
        · cases hf
          exact kx0 _ (k9 _ rfl) _ _ _ (lv_sub hl [] rfl) hW
  obtain ⟨e_6, hc_6, hf⟩ := ob_bind hf
  refine hB2 lfuel 0 e_6 _ _ _ hc_6 (lv_sub hl [1, 2, 0] rfl) hW ?_ ?_
  · intro u_7 hu H locs ls hl hW
    subst hu
    dsimp only at hf
    refine lv_iconst (v := 1) hx hb dX8_hits_30 (by decide) ?_
    cases hf
    exact hret dX8_hits_31 rfl rfl hW
  · intro u_8 hu H locs ls hl hW
    subst hu
    dsimp only at hf
    refine lv_iconst (v := 0) hx hb dX8_hits_38 (by decide) ?_
    cases hf
    exact hret dX8_hits_39 rfl rfl hW
def w_X8_isJointOf (E : Nat → ClassId) (h_ h_g h_kept h_past h_path h_pose h_way h_px h_py h_free h_tips h_far h_queue h_times h_turns h_names h_named h_text h_told h_spare : Nat) (s_hasKept : Int32) (s_pasts : Int32) (s_pathMoves : Int32) (s_spot : Int32) (s_thrown : Int32) (s_faulty : Int32) (s_queued : Int32) (s_length : Int32) (s_at : Int32) (s_error : Int32) (s_tolds : Int32) (s_number : Int32) (s_px : Nat → Int32) (s_py : Nat → Int32) : va_W := [(h_, .inr (10, [.ref h_g, .ref h_kept, .int s_hasKept, .ref h_past, .int s_pasts, .ref h_path, .int s_pathMoves, .int s_spot, .int s_thrown, .ref h_pose, .ref h_way, .ref h_px, .ref h_py, .int s_faulty, .ref h_free, .ref h_tips, .ref h_far, .ref h_queue, .int s_queued, .ref h_times, .ref h_turns, .ref h_names, .ref h_named, .ref h_text, .int s_length, .int s_at, .int s_error, .ref h_told, .int s_tolds, .int s_number, .ref h_spare])), (h_px, .inl (E 0, 5, .inl s_px)), (h_py, .inl (E 0, 5, .inl s_py))]
set_option maxHeartbeats 4000000 in
set_option maxRecDepth 100000 in
theorem c_X8_isJointOf (l : Launch) (D : va_G) (E : Nat → ClassId) (tx : List (Nat × String)) (h_ h_g h_kept h_past h_path h_pose h_way h_px h_py h_free h_tips h_far h_queue h_times h_turns h_names h_named h_text h_told h_spare : Nat) (s_hasKept : Int32) (s_pasts : Int32) (s_pathMoves : Int32) (s_spot : Int32) (s_thrown : Int32) (s_faulty : Int32) (s_queued : Int32) (s_length : Int32) (s_at : Int32) (s_error : Int32) (s_tolds : Int32) (s_number : Int32) (s_px : Nat → Int32) (s_py : Nat → Int32) (x1 : Int32) (x2 : Int32) (x3 : Int32) (x4 : Int32) (r0 : Int32) (hf : f_X8_isJointOf s_px s_py x1 x2 x3 x4 = some r0) : CI l yX8_isJointOf cX8_isJointOf 5 (some .boolean) 0 0 D E tx [.ref h_, .int x1, .int x2, .int x3, .int x4] (w_X8_isJointOf E h_ h_g h_kept h_past h_path h_pose h_way h_px h_py h_free h_tips h_far h_queue h_times h_turns h_names h_named h_text h_told h_spare s_hasKept s_pasts s_pathMoves s_spot s_thrown s_faulty s_queued s_length s_at s_error s_tolds s_number s_px s_py) (w_X8_isJointOf E h_ h_g h_kept h_past h_path h_pose h_way h_px h_py h_free h_tips h_far h_queue h_times h_turns h_names h_named h_text h_told h_spare s_hasKept s_pasts s_pathMoves s_spot s_thrown s_faulty s_queued s_length s_at s_error s_tolds s_number s_px s_py) r0 := by
  refine CI_of RX8 pn_X8 rfl (Nat.le_of_ble_eq_true rfl) (fun p e s m args below meth c A Q hF hK hA hZ hW hret ls hl => ?_)
  have hx := hF.1
  have hb := hF.2.1
  have hl : lv_has ls 5 [(0, .ref h_), (1, .int x1), (2, .int x2), (3, .int x3), (4, .int x4)] := hl
  unfold f_X8_isJointOf at hf
  refine lv_iload_n hx hb dX8_isJointOf_0 rfl (lv_at hl 2 rfl) ?_
  refine lv_iload_n hx hb dX8_isJointOf_1 rfl (lv_at hl 1 rfl) ?_
  refine lv_iconst (v := 1) hx hb dX8_isJointOf_2 (by decide) ?_
  refine lv_iadd hx hb dX8_isJointOf_3 ?_
  refine q_icmp_ne (tgt := 32) hx hb dX8_isJointOf_4 (by decide) hf (fun hf => ?_) (fun hf => ?_)
  · refine lv_iconst (v := 0) hx hb dX8_isJointOf_32 (by decide) ?_
    cases hf
    exact hret dX8_isJointOf_33 rfl rfl hW
  · refine lv_aload_n hx hb dX8_isJointOf_7 rfl (lv_at hl 0 rfl) ?_
    refine q_get hF hK hW fl_X8_32 0 rfl rfl dX8_isJointOf_8 ?_
    refine lv_iload_n hx hb dX8_isJointOf_11 rfl (lv_at hl 2 rfl) ?_
    refine q_iald hx hb hK hW 1 0 rfl rfl dX8_isJointOf_12 hf (fun hf => ?_)
    refine lv_iload_n hx hb dX8_isJointOf_13 rfl (lv_at hl 3 rfl) ?_
    refine q_icmp_ne (tgt := 32) hx hb dX8_isJointOf_14 (by decide) hf (fun hf => ?_) (fun hf => ?_)
    · refine lv_iconst (v := 0) hx hb dX8_isJointOf_32 (by decide) ?_
      cases hf
      exact hret dX8_isJointOf_33 rfl rfl hW
    · refine lv_aload_n hx hb dX8_isJointOf_17 rfl (lv_at hl 0 rfl) ?_
      refine q_get hF hK hW fl_X8_35 0 rfl rfl dX8_isJointOf_18 ?_
      refine lv_iload_n hx hb dX8_isJointOf_21 rfl (lv_at hl 2 rfl) ?_
      refine q_iald hx hb hK hW 2 0 rfl rfl dX8_isJointOf_22 hf (fun hf => ?_)
      refine lv_iload hx hb dX8_isJointOf_23 (lv_at hl 4 rfl) ?_
      refine q_icmp_ne (tgt := 32) hx hb dX8_isJointOf_25 (by decide) hf (fun hf => ?_) (fun hf => ?_)
      · refine lv_iconst (v := 0) hx hb dX8_isJointOf_32 (by decide) ?_
        cases hf
        exact hret dX8_isJointOf_33 rfl rfl hW
      · refine lv_iconst (v := 1) hx hb dX8_isJointOf_28 (by decide) ?_
        refine lv_goto (tgt := 33) hx hb dX8_isJointOf_29 (by decide) ?_
        cases hf
        exact hret dX8_isJointOf_33 rfl rfl hW
def w_X8_has (E : Nat → ClassId) (h_ h_g h_kept h_past h_path h_pose h_way h_px h_py h_free h_tips h_far h_queue h_times h_turns h_names h_named h_text h_told h_spare : Nat) (s_hasKept : Int32) (s_pasts : Int32) (s_pathMoves : Int32) (s_spot : Int32) (s_thrown : Int32) (s_faulty : Int32) (s_queued : Int32) (s_length : Int32) (s_at : Int32) (s_error : Int32) (s_tolds : Int32) (s_number : Int32) (s_g : Nat → Int32) (s_way : Nat → Int32) (s_px : Nat → Int32) (s_py : Nat → Int32) : va_W := [(h_, .inr (10, [.ref h_g, .ref h_kept, .int s_hasKept, .ref h_past, .int s_pasts, .ref h_path, .int s_pathMoves, .int s_spot, .int s_thrown, .ref h_pose, .ref h_way, .ref h_px, .ref h_py, .int s_faulty, .ref h_free, .ref h_tips, .ref h_far, .ref h_queue, .int s_queued, .ref h_times, .ref h_turns, .ref h_names, .ref h_named, .ref h_text, .int s_length, .int s_at, .int s_error, .ref h_told, .int s_tolds, .int s_number, .ref h_spare])), (h_g, .inl (E 0, 141, .inl s_g)), (h_way, .inl (E 0, 4, .inl s_way)), (h_px, .inl (E 0, 5, .inl s_px)), (h_py, .inl (E 0, 5, .inl s_py))]
set_option maxHeartbeats 4000000 in
set_option maxRecDepth 100000 in
theorem c_X8_has (l : Launch) (D : va_G) (E : Nat → ClassId) (tx : List (Nat × String)) (h_ h_g h_kept h_past h_path h_pose h_way h_px h_py h_free h_tips h_far h_queue h_times h_turns h_names h_named h_text h_told h_spare : Nat) (s_hasKept : Int32) (s_pasts : Int32) (s_pathMoves : Int32) (s_spot : Int32) (s_thrown : Int32) (s_faulty : Int32) (s_queued : Int32) (s_length : Int32) (s_at : Int32) (s_error : Int32) (s_tolds : Int32) (s_number : Int32) (s_g : Nat → Int32) (s_way : Nat → Int32) (s_px : Nat → Int32) (s_py : Nat → Int32) (x1 : Int32) (x2 : Int32) (x3 : Int32) (r0 : Int32) (hf : f_X8_has s_g s_way s_px s_py x1 x2 x3 = some r0) : CI l yX8_has cX8_has 5 (some .boolean) 2 42 D E tx [.ref h_, .int x1, .int x2, .int x3] (w_X8_has E h_ h_g h_kept h_past h_path h_pose h_way h_px h_py h_free h_tips h_far h_queue h_times h_turns h_names h_named h_text h_told h_spare s_hasKept s_pasts s_pathMoves s_spot s_thrown s_faulty s_queued s_length s_at s_error s_tolds s_number s_g s_way s_px s_py) (w_X8_has E h_ h_g h_kept h_past h_path h_pose h_way h_px h_py h_free h_tips h_far h_queue h_times h_turns h_names h_named h_text h_told h_spare s_hasKept s_pasts s_pathMoves s_spot s_thrown s_faulty s_queued s_length s_at s_error s_tolds s_number s_g s_way s_px s_py) r0 := by
  refine CI_of RX8 pn_X8 rfl (Nat.le_of_ble_eq_true rfl) (fun p e s m args below meth c A Q hF hK hA hZ hW hret ls hl => ?_)
  have hx := hF.1
  have hb := hF.2.1
  have hl : lv_has ls 5 [(0, .ref h_), (1, .int x1), (2, .int x2), (3, .int x3)] := hl
  unfold f_X8_has at hf
  refine lv_iconst (v := 0) hx hb dX8_has_0 (by decide) ?_
  refine lv_istore (lv' := [(4, .int 0), (0, .ref h_), (1, .int x1), (2, .int x2), (3, .int x3)]) hx hb dX8_has_1 hl (by decide) rfl (fun ls hl => ?_)
  have hB3 : ∀ (n : Nat) (z4_3 : Int32) (ex : (Unit) ⊕ (Unit)) (H : Heap) (locs : List Loc) (ls : Array Slot), LPF (fun z => f_X8_has_B3 s_g s_way s_px s_py x1 x2 x3 z) n z4_3 = some ex → lv_has ls 5 [(0, .ref h_), (1, .int x1), (2, .int x2), (3, .int x3), (4, .int z4_3)] → WD D A s (w_X8_has E h_ h_g h_kept h_past h_path h_pose h_way h_px h_py h_free h_tips h_far h_queue h_times h_turns h_names h_named h_text h_told h_spare s_hasKept s_pasts s_pathMoves s_spot s_thrown s_faulty s_queued s_length s_at s_error s_tolds s_number s_g s_way s_px s_py) H locs → (∀ (u9 : Unit), ex = .inl u9 → ∀ (H : Heap) (locs : List Loc) (ls : Array Slot), lv_has ls 5 [] → WD D A s (w_X8_has E h_ h_g h_kept h_past h_path h_pose h_way h_px h_py h_free h_tips h_far h_queue h_times h_turns h_names h_named h_text h_told h_spare s_hasKept s_pasts s_pathMoves s_spot s_thrown s_faulty s_queued s_length s_at s_error s_tolds s_number s_g s_way s_px s_py) H locs → W p l e (RM 2 42) s m args below meth c H locs 0 0 Q (F0 m 35 ls [])) → (∀ (u9 : Unit), ex = .inr u9 → ∀ (H : Heap) (locs : List Loc) (ls : Array Slot), lv_has ls 5 [] → WD D A s (w_X8_has E h_ h_g h_kept h_past h_path h_pose h_way h_px h_py h_free h_tips h_far h_queue h_times h_turns h_names h_named h_text h_told h_spare s_hasKept s_pasts s_pathMoves s_spot s_thrown s_faulty s_queued s_length s_at s_error s_tolds s_number s_g s_way s_px s_py) H locs → W p l e (RM 2 42) s m args below meth c H locs 0 0 Q (F0 m 43 ls [])) → W p l e (RM 2 42) s m args below meth c H locs 0 0 Q (F0 m 3 ls []) := by
    intro n
    induction n with
    | zero => intro z4_3 ex H locs ls h9; exact (ob_lp0 h9).elim
    | succ n ih =>
      intro z4_3 ex H locs ls h9 hl hW kx0 kx1
      obtain ⟨q9, hf, h9, k9⟩ := ob_lp h9
      have hf : f_X8_has_B3 s_g s_way s_px s_py x1 x2 x3 z4_3 = some q9 := hf
      unfold f_X8_has_B3 at hf
      refine lv_iload hx hb dX8_has_3 (lv_at hl 4 rfl) ?_
      refine lv_aload_n hx hb dX8_has_5 rfl (lv_at hl 0 rfl) ?_
      refine lv_iload_n hx hb dX8_has_6 rfl (lv_at hl 1 rfl) ?_
      obtain ⟨o_1, hc_1, hf⟩ := ob_bind hf
      refine q_callI hF hl.1 hK hA hZ hW mv_X8_lengthOf ml_X8_137 (c_X8_lengthOf l D E tx h_ h_g h_kept h_past h_path h_pose h_way h_px h_py h_free h_tips h_far h_queue h_times h_turns h_names h_named h_text h_told h_spare s_hasKept s_pasts s_pathMoves s_spot s_thrown s_faulty s_queued s_length s_at s_error s_tolds s_number s_g x1 o_1 hc_1) [0, 1] rfl rfl rfl rfl rfl rfl ⟨Nat.le_of_ble_eq_true rfl, Nat.le_of_ble_eq_true rfl⟩ ⟨Nat.le_of_ble_eq_true rfl, Nat.le_of_ble_eq_true rfl⟩ rfl rfl (Nat.le_of_ble_eq_true rfl) dX8_has_7 (fun H locs hW => ?_)
      have hW : WD D A s (w_X8_has E h_ h_g h_kept h_past h_path h_pose h_way h_px h_py h_free h_tips h_far h_queue h_times h_turns h_names h_named h_text h_told h_spare s_hasKept s_pasts s_pathMoves s_spot s_thrown s_faulty s_queued s_length s_at s_error s_tolds s_number s_g s_way s_px s_py) H locs := hW
      refine q_icmp_gt (tgt := 43) hx hb dX8_has_10 (by decide) hf (fun hf => ?_) (fun hf => ?_)
      · cases hf
        exact kx1 _ (k9 _ rfl) _ _ _ (lv_sub hl [] rfl) hW
      · refine lv_aload_n hx hb dX8_has_13 rfl (lv_at hl 0 rfl) ?_
        refine lv_iload_n hx hb dX8_has_14 rfl (lv_at hl 1 rfl) ?_
        refine lv_iload hx hb dX8_has_15 (lv_at hl 4 rfl) ?_
        obtain ⟨o_2, hc_2, hf⟩ := ob_bind hf
        refine q_callI hF hl.1 hK hA hZ hW mv_X8_cellX ml_X8_149 (c_X8_cellX l D E tx h_ h_g h_kept h_past h_path h_pose h_way h_px h_py h_free h_tips h_far h_queue h_times h_turns h_names h_named h_text h_told h_spare s_hasKept s_pasts s_pathMoves s_spot s_thrown s_faulty s_queued s_length s_at s_error s_tolds s_number s_way s_px x1 z4_3 o_2 hc_2) [0, 2, 3] rfl rfl rfl rfl rfl rfl ⟨Nat.le_of_ble_eq_true rfl, Nat.le_of_ble_eq_true rfl⟩ ⟨Nat.le_of_ble_eq_true rfl, Nat.le_of_ble_eq_true rfl⟩ rfl rfl (Nat.le_of_ble_eq_true rfl) dX8_has_17 (fun H locs hW => ?_)
        have hW : WD D A s (w_X8_has E h_ h_g h_kept h_past h_path h_pose h_way h_px h_py h_free h_tips h_far h_queue h_times h_turns h_names h_named h_text h_told h_spare s_hasKept s_pasts s_pathMoves s_spot s_thrown s_faulty s_queued s_length s_at s_error s_tolds s_number s_g s_way s_px s_py) H locs := hW
        refine lv_iload_n hx hb dX8_has_20 rfl (lv_at hl 2 rfl) ?_
        refine q_icmp_ne (tgt := 37) hx hb dX8_has_21 (by decide) hf (fun hf => ?_) (fun hf => ?_)
        · obtain ⟨v_3, ev_3⟩ : ∃ y : Int32, y = z4_3 + 1 := ⟨_, rfl⟩
          replace hf := ob_let hf ev_3
          refine lv_iinc (v := v_3) (lv' := [(4, .int v_3), (0, .ref h_), (1, .int x1), (2, .int x2), (3, .int x3)]) hx hb dX8_has_37 hl (k := 4) rfl (by rw [ev_3]; rfl) (by decide) rfl (fun ls hl => ?_)
          refine lv_goto (tgt := 3) hx hb dX8_has_40 (by decide) ?_
          cases hf
          exact ih v_3 ex _ _ _ (h9 _ rfl) (lv_sub hl [1, 2, 3, 4, 0] rfl) hW kx0 kx1
        · refine lv_aload_n hx hb dX8_has_24 rfl (lv_at hl 0 rfl) ?_
          refine lv_iload_n hx hb dX8_has_25 rfl (lv_at hl 1 rfl) ?_
          refine lv_iload hx hb dX8_has_26 (lv_at hl 4 rfl) ?_
          obtain ⟨o_4, hc_4, hf⟩ := ob_bind hf
          refine q_callI hF hl.1 hK hA hZ hW mv_X8_cellY ml_X8_152 (c_X8_cellY l D E tx h_ h_g h_kept h_past h_path h_pose h_way h_px h_py h_free h_tips h_far h_queue h_times h_turns h_names h_named h_text h_told h_spare s_hasKept s_pasts s_pathMoves s_spot s_thrown s_faulty s_queued s_length s_at s_error s_tolds s_number s_way s_py x1 z4_3 o_4 hc_4) [0, 2, 4] rfl rfl rfl rfl rfl rfl ⟨Nat.le_of_ble_eq_true rfl, Nat.le_of_ble_eq_true rfl⟩ ⟨Nat.le_of_ble_eq_true rfl, Nat.le_of_ble_eq_true rfl⟩ rfl rfl (Nat.le_of_ble_eq_true rfl) dX8_has_28 (fun H locs hW => ?_)
          have hW : WD D A s (w_X8_has E h_ h_g h_kept h_past h_path h_pose h_way h_px h_py h_free h_tips h_far h_queue h_times h_turns h_names h_named h_text h_told h_spare s_hasKept s_pasts s_pathMoves s_spot s_thrown s_faulty s_queued s_length s_at s_error s_tolds s_number s_g s_way s_px s_py) H locs := hW
          refine lv_iload_n hx hb dX8_has_31 rfl (lv_at hl 3 rfl) ?_
          refine q_icmp_ne (tgt := 37) hx hb dX8_has_32 (by decide) hf (fun hf => ?_) (fun hf => ?_)
          · obtain ⟨v_5, ev_5⟩ : ∃ y : Int32, y = z4_3 + 1 := ⟨_, rfl⟩
            replace hf := ob_let hf ev_5
            refine lv_iinc (v := v_5) (lv' := [(4, .int v_5), (0, .ref h_), (1, .int x1), (2, .int x2), (3, .int x3)]) hx hb dX8_has_37 hl (k := 4) rfl (by rw [ev_5]; rfl) (by decide) rfl (fun ls hl => ?_)
            refine lv_goto (tgt := 3) hx hb dX8_has_40 (by decide) ?_
            cases hf
            exact ih v_5 ex _ _ _ (h9 _ rfl) (lv_sub hl [1, 2, 3, 4, 0] rfl) hW kx0 kx1
          · cases hf
            exact kx0 _ (k9 _ rfl) _ _ _ (lv_sub hl [] rfl) hW
  obtain ⟨e_6, hc_6, hf⟩ := ob_bind hf
  refine hB3 lfuel 0 e_6 _ _ _ hc_6 (lv_sub hl [1, 2, 3, 4, 0] rfl) hW ?_ ?_
  · intro u_7 hu H locs ls hl hW
    subst hu
    dsimp only at hf
    refine lv_iconst (v := 1) hx hb dX8_has_35 (by decide) ?_
    cases hf
    exact hret dX8_has_36 rfl rfl hW
  · intro u_8 hu H locs ls hl hW
    subst hu
    dsimp only at hf
    refine lv_iconst (v := 0) hx hb dX8_has_43 (by decide) ?_
    cases hf
    exact hret dX8_has_44 rfl rfl hW
def w_X8_crosses (E : Nat → ClassId) (h_ h_g h_kept h_past h_path h_pose h_way h_px h_py h_free h_tips h_far h_queue h_times h_turns h_names h_named h_text h_told h_spare : Nat) (s_hasKept : Int32) (s_pasts : Int32) (s_pathMoves : Int32) (s_spot : Int32) (s_thrown : Int32) (s_faulty : Int32) (s_queued : Int32) (s_length : Int32) (s_at : Int32) (s_error : Int32) (s_tolds : Int32) (s_number : Int32) (s_g : Nat → Int32) (s_way : Nat → Int32) (s_px : Nat → Int32) (s_py : Nat → Int32) : va_W := [(h_, .inr (10, [.ref h_g, .ref h_kept, .int s_hasKept, .ref h_past, .int s_pasts, .ref h_path, .int s_pathMoves, .int s_spot, .int s_thrown, .ref h_pose, .ref h_way, .ref h_px, .ref h_py, .int s_faulty, .ref h_free, .ref h_tips, .ref h_far, .ref h_queue, .int s_queued, .ref h_times, .ref h_turns, .ref h_names, .ref h_named, .ref h_text, .int s_length, .int s_at, .int s_error, .ref h_told, .int s_tolds, .int s_number, .ref h_spare])), (h_g, .inl (E 0, 141, .inl s_g)), (h_way, .inl (E 0, 4, .inl s_way)), (h_px, .inl (E 0, 5, .inl s_px)), (h_py, .inl (E 0, 5, .inl s_py))]
set_option maxHeartbeats 4000000 in
set_option maxRecDepth 100000 in
theorem c_X8_crosses (l : Launch) (D : va_G) (E : Nat → ClassId) (tx : List (Nat × String)) (h_ h_g h_kept h_past h_path h_pose h_way h_px h_py h_free h_tips h_far h_queue h_times h_turns h_names h_named h_text h_told h_spare : Nat) (s_hasKept : Int32) (s_pasts : Int32) (s_pathMoves : Int32) (s_spot : Int32) (s_thrown : Int32) (s_faulty : Int32) (s_queued : Int32) (s_length : Int32) (s_at : Int32) (s_error : Int32) (s_tolds : Int32) (s_number : Int32) (s_g : Nat → Int32) (s_way : Nat → Int32) (s_px : Nat → Int32) (s_py : Nat → Int32) (x1 : Int32) (r0 : Int32) (hf : f_X8_crosses s_g s_way s_px s_py x1 = some r0) : CI l yX8_crosses cX8_crosses 6 (some .boolean) 3 66 D E tx [.ref h_, .int x1] (w_X8_crosses E h_ h_g h_kept h_past h_path h_pose h_way h_px h_py h_free h_tips h_far h_queue h_times h_turns h_names h_named h_text h_told h_spare s_hasKept s_pasts s_pathMoves s_spot s_thrown s_faulty s_queued s_length s_at s_error s_tolds s_number s_g s_way s_px s_py) (w_X8_crosses E h_ h_g h_kept h_past h_path h_pose h_way h_px h_py h_free h_tips h_far h_queue h_times h_turns h_names h_named h_text h_told h_spare s_hasKept s_pasts s_pathMoves s_spot s_thrown s_faulty s_queued s_length s_at s_error s_tolds s_number s_g s_way s_px s_py) r0 := by
  refine CI_of RX8 pn_X8 rfl (Nat.le_of_ble_eq_true rfl) (fun p e s m args below meth c A Q hF hK hA hZ hW hret ls hl => ?_)
  have hx := hF.1
  have hb := hF.2.1
  have hl : lv_has ls 6 [(0, .ref h_), (1, .int x1)] := hl
  unfold f_X8_crosses at hf
  refine lv_iconst (v := 0) hx hb dX8_crosses_0 (by decide) ?_
  refine lv_istore_n (lv' := [(2, .int 0), (0, .ref h_), (1, .int x1)]) hx hb dX8_crosses_1 rfl hl (by decide) rfl (fun ls hl => ?_)
  have hB2 : ∀ (n : Nat) (z2_2 : Int32) (ex : (Unit) ⊕ (Unit)) (H : Heap) (locs : List Loc) (ls : Array Slot), LPF (fun z => f_X8_crosses_B2 s_g s_way s_px s_py x1 z) n z2_2 = some ex → lv_has ls 6 [(0, .ref h_), (1, .int x1), (2, .int z2_2)] → WD D A s (w_X8_crosses E h_ h_g h_kept h_past h_path h_pose h_way h_px h_py h_free h_tips h_far h_queue h_times h_turns h_names h_named h_text h_told h_spare s_hasKept s_pasts s_pathMoves s_spot s_thrown s_faulty s_queued s_length s_at s_error s_tolds s_number s_g s_way s_px s_py) H locs → (∀ (u9 : Unit), ex = .inl u9 → ∀ (H : Heap) (locs : List Loc) (ls : Array Slot), lv_has ls 6 [] → WD D A s (w_X8_crosses E h_ h_g h_kept h_past h_path h_pose h_way h_px h_py h_free h_tips h_far h_queue h_times h_turns h_names h_named h_text h_told h_spare s_hasKept s_pasts s_pathMoves s_spot s_thrown s_faulty s_queued s_length s_at s_error s_tolds s_number s_g s_way s_px s_py) H locs → W p l e (RM 3 66) s m args below meth c H locs 0 0 Q (F0 m 59 ls [])) → (∀ (u9 : Unit), ex = .inr u9 → ∀ (H : Heap) (locs : List Loc) (ls : Array Slot), lv_has ls 6 [] → WD D A s (w_X8_crosses E h_ h_g h_kept h_past h_path h_pose h_way h_px h_py h_free h_tips h_far h_queue h_times h_turns h_names h_named h_text h_told h_spare s_hasKept s_pasts s_pathMoves s_spot s_thrown s_faulty s_queued s_length s_at s_error s_tolds s_number s_g s_way s_px s_py) H locs → W p l e (RM 3 66) s m args below meth c H locs 0 0 Q (F0 m 73 ls [])) → W p l e (RM 3 66) s m args below meth c H locs 0 0 Q (F0 m 2 ls []) := by
    intro n
    induction n with
    | zero => intro z2_2 ex H locs ls h9; exact (ob_lp0 h9).elim
    | succ n ih =>
      intro z2_2 ex H locs ls h9 hl hW kx0 kx1
      obtain ⟨q9, hf, h9, k9⟩ := ob_lp h9
      have hf : f_X8_crosses_B2 s_g s_way s_px s_py x1 z2_2 = some q9 := hf
      unfold f_X8_crosses_B2 at hf
      refine lv_iload_n hx hb dX8_crosses_2 rfl (lv_at hl 2 rfl) ?_
      refine lv_iload_n hx hb dX8_crosses_3 rfl (lv_at hl 1 rfl) ?_
      refine q_icmp_ge (tgt := 73) hx hb dX8_crosses_4 (by decide) hf (fun hf => ?_) (fun hf => ?_)
      · cases hf
        exact kx1 _ (k9 _ rfl) _ _ _ (lv_sub hl [] rfl) hW
      · refine lv_iconst (v := 0) hx hb dX8_crosses_7 (by decide) ?_
        refine lv_istore_n (lv' := [(3, .int 0), (0, .ref h_), (1, .int x1), (2, .int z2_2)]) hx hb dX8_crosses_8 rfl hl (by decide) rfl (fun ls hl => ?_)
        have hB9 : ∀ (n : Nat) (z3_9 : Int32) (ex : (Unit) ⊕ (Unit)) (H : Heap) (locs : List Loc) (ls : Array Slot), LPF (fun z => f_X8_crosses_B9 s_g s_way s_px s_py x1 z2_2 z) n z3_9 = some ex → lv_has ls 6 [(0, .ref h_), (1, .int x1), (2, .int z2_2), (3, .int z3_9)] → WD D A s (w_X8_crosses E h_ h_g h_kept h_past h_path h_pose h_way h_px h_py h_free h_tips h_far h_queue h_times h_turns h_names h_named h_text h_told h_spare s_hasKept s_pasts s_pathMoves s_spot s_thrown s_faulty s_queued s_length s_at s_error s_tolds s_number s_g s_way s_px s_py) H locs → (∀ (u9 : Unit), ex = .inl u9 → ∀ (H : Heap) (locs : List Loc) (ls : Array Slot), lv_has ls 6 [] → WD D A s (w_X8_crosses E h_ h_g h_kept h_past h_path h_pose h_way h_px h_py h_free h_tips h_far h_queue h_times h_turns h_names h_named h_text h_told h_spare s_hasKept s_pasts s_pathMoves s_spot s_thrown s_faulty s_queued s_length s_at s_error s_tolds s_number s_g s_way s_px s_py) H locs → W p l e (RM 3 66) s m args below meth c H locs 0 0 Q (F0 m 59 ls [])) → (∀ (u9 : Unit), ex = .inr u9 → ∀ (H : Heap) (locs : List Loc) (ls : Array Slot), lv_has ls 6 [(0, .ref h_), (1, .int x1), (2, .int z2_2)] → WD D A s (w_X8_crosses E h_ h_g h_kept h_past h_path h_pose h_way h_px h_py h_free h_tips h_far h_queue h_times h_turns h_names h_named h_text h_told h_spare s_hasKept s_pasts s_pathMoves s_spot s_thrown s_faulty s_queued s_length s_at s_error s_tolds s_number s_g s_way s_px s_py) H locs → W p l e (RM 3 66) s m args below meth c H locs 0 0 Q (F0 m 67 ls [])) → W p l e (RM 3 66) s m args below meth c H locs 0 0 Q (F0 m 9 ls []) := by
          intro n
          induction n with
          | zero => intro z3_9 ex H locs ls h9; exact (ob_lp0 h9).elim
          | succ n ih =>
            intro z3_9 ex H locs ls h9 hl hW kx0 kx1
            obtain ⟨q9, hf, h9, k9⟩ := ob_lp h9
            have hf : f_X8_crosses_B9 s_g s_way s_px s_py x1 z2_2 z3_9 = some q9 := hf
            unfold f_X8_crosses_B9 at hf
            refine lv_iload_n hx hb dX8_crosses_9 rfl (lv_at hl 3 rfl) ?_
            refine lv_aload_n hx hb dX8_crosses_10 rfl (lv_at hl 0 rfl) ?_
            refine lv_iload_n hx hb dX8_crosses_11 rfl (lv_at hl 1 rfl) ?_
            obtain ⟨o_1, hc_1, hf⟩ := ob_bind hf
            refine q_callI hF hl.1 hK hA hZ hW mv_X8_lengthOf ml_X8_137 (c_X8_lengthOf l D E tx h_ h_g h_kept h_past h_path h_pose h_way h_px h_py h_free h_tips h_far h_queue h_times h_turns h_names h_named h_text h_told h_spare s_hasKept s_pasts s_pathMoves s_spot s_thrown s_faulty s_queued s_length s_at s_error s_tolds s_number s_g x1 o_1 hc_1) [0, 1] rfl rfl rfl rfl rfl rfl ⟨Nat.le_of_ble_eq_true rfl, Nat.le_of_ble_eq_true rfl⟩ ⟨Nat.le_of_ble_eq_true rfl, Nat.le_of_ble_eq_true rfl⟩ rfl rfl (Nat.le_of_ble_eq_true rfl) dX8_crosses_12 (fun H locs hW => ?_)
            have hW : WD D A s (w_X8_crosses E h_ h_g h_kept h_past h_path h_pose h_way h_px h_py h_free h_tips h_far h_queue h_times h_turns h_names h_named h_text h_told h_spare s_hasKept s_pasts s_pathMoves s_spot s_thrown s_faulty s_queued s_length s_at s_error s_tolds s_number s_g s_way s_px s_py) H locs := hW
            refine q_icmp_gt (tgt := 67) hx hb dX8_crosses_15 (by decide) hf (fun hf => ?_) (fun hf => ?_)
            · cases hf
              exact kx1 _ (k9 _ rfl) _ _ _ (lv_sub hl [0, 1, 2] rfl) hW
            · refine lv_aload_n hx hb dX8_crosses_18 rfl (lv_at hl 0 rfl) ?_
              refine lv_iload_n hx hb dX8_crosses_19 rfl (lv_at hl 1 rfl) ?_
              refine lv_iload_n hx hb dX8_crosses_20 rfl (lv_at hl 3 rfl) ?_
              obtain ⟨o_2, hc_2, hf⟩ := ob_bind hf
              refine q_callI hF hl.1 hK hA hZ hW mv_X8_cellX ml_X8_149 (c_X8_cellX l D E tx h_ h_g h_kept h_past h_path h_pose h_way h_px h_py h_free h_tips h_far h_queue h_times h_turns h_names h_named h_text h_told h_spare s_hasKept s_pasts s_pathMoves s_spot s_thrown s_faulty s_queued s_length s_at s_error s_tolds s_number s_way s_px x1 z3_9 o_2 hc_2) [0, 2, 3] rfl rfl rfl rfl rfl rfl ⟨Nat.le_of_ble_eq_true rfl, Nat.le_of_ble_eq_true rfl⟩ ⟨Nat.le_of_ble_eq_true rfl, Nat.le_of_ble_eq_true rfl⟩ rfl rfl (Nat.le_of_ble_eq_true rfl) dX8_crosses_21 (fun H locs hW => ?_)
              have hW : WD D A s (w_X8_crosses E h_ h_g h_kept h_past h_path h_pose h_way h_px h_py h_free h_tips h_far h_queue h_times h_turns h_names h_named h_text h_told h_spare s_hasKept s_pasts s_pathMoves s_spot s_thrown s_faulty s_queued s_length s_at s_error s_tolds s_number s_g s_way s_px s_py) H locs := hW
              refine lv_istore (lv' := [(4, .int o_2), (0, .ref h_), (1, .int x1), (2, .int z2_2), (3, .int z3_9)]) hx hb dX8_crosses_24 hl (by decide) rfl (fun ls hl => ?_)
              refine lv_aload_n hx hb dX8_crosses_26 rfl (lv_at hl 1 rfl) ?_
              refine lv_iload_n hx hb dX8_crosses_27 rfl (lv_at hl 2 rfl) ?_
              refine lv_iload_n hx hb dX8_crosses_28 rfl (lv_at hl 4 rfl) ?_
              obtain ⟨o_3, hc_3, hf⟩ := ob_bind hf
              refine q_callI hF hl.1 hK hA hZ hW mv_X8_cellY ml_X8_152 (c_X8_cellY l D E tx h_ h_g h_kept h_past h_path h_pose h_way h_px h_py h_free h_tips h_far h_queue h_times h_turns h_names h_named h_text h_told h_spare s_hasKept s_pasts s_pathMoves s_spot s_thrown s_faulty s_queued s_length s_at s_error s_tolds s_number s_way s_py x1 z3_9 o_3 hc_3) [0, 2, 4] rfl rfl rfl rfl rfl rfl ⟨Nat.le_of_ble_eq_true rfl, Nat.le_of_ble_eq_true rfl⟩ ⟨Nat.le_of_ble_eq_true rfl, Nat.le_of_ble_eq_true rfl⟩ rfl rfl (Nat.le_of_ble_eq_true rfl) dX8_crosses_29 (fun H locs hW => ?_)
              have hW : WD D A s (w_X8_crosses E h_ h_g h_kept h_past h_path h_pose h_way h_px h_py h_free h_tips h_far h_queue h_times h_turns h_names h_named h_text h_told h_spare s_hasKept s_pasts s_pathMoves s_spot s_thrown s_faulty s_queued s_length s_at s_error s_tolds s_number s_g s_way s_px s_py) H locs := hW
              refine lv_istore (lv' := [(5, .int o_3), (4, .int o_2), (0, .ref h_), (1, .int x1), (2, .int z2_2), (3, .int z3_9)]) hx hb dX8_crosses_32 hl (by decide) rfl (fun ls hl => ?_)
              refine lv_aload_n hx hb dX8_crosses_34 rfl (lv_at hl 2 rfl) ?_
              refine lv_iload_n hx hb dX8_crosses_35 rfl (lv_at hl 4 rfl) ?_
              refine lv_iload hx hb dX8_crosses_36 (lv_at hl 1 rfl) ?_
              refine lv_iload hx hb dX8_crosses_38 (lv_at hl 0 rfl) ?_
              obtain ⟨o_4, hc_4, hf⟩ := ob_bind hf
              refine q_callI hF hl.1 hK hA hZ hW mv_X8_has ml_X8_155 (c_X8_has l D E tx h_ h_g h_kept h_past h_path h_pose h_way h_px h_py h_free h_tips h_far h_queue h_times h_turns h_names h_named h_text h_told h_spare s_hasKept s_pasts s_pathMoves s_spot s_thrown s_faulty s_queued s_length s_at s_error s_tolds s_number s_g s_way s_px s_py z2_2 o_2 o_3 o_4 hc_4) [0, 1, 2, 3, 4] rfl rfl rfl rfl rfl rfl ⟨Nat.le_of_ble_eq_true rfl, Nat.le_of_ble_eq_true rfl⟩ ⟨Nat.le_of_ble_eq_true rfl, Nat.le_of_ble_eq_true rfl⟩ rfl rfl (Nat.le_of_ble_eq_true rfl) dX8_crosses_40 (fun H locs hW => ?_)
              have hW : WD D A s (w_X8_crosses E h_ h_g h_kept h_past h_path h_pose h_way h_px h_py h_free h_tips h_far h_queue h_times h_turns h_names h_named h_text h_told h_spare s_hasKept s_pasts s_pathMoves s_spot s_thrown s_faulty s_queued s_length s_at s_error s_tolds s_number s_g s_way s_px s_py) H locs := hW
              refine q_if_eq (tgt := 61) hx hb dX8_crosses_43 (by decide) hf (fun hf => ?_) (fun hf => ?_)
              · obtain ⟨v_5, ev_5⟩ : ∃ y : Int32, y = z3_9 + 1 := ⟨_, rfl⟩
                replace hf := ob_let hf ev_5
                refine lv_iinc (v := v_5) (lv' := [(3, .int v_5), (5, .int o_3), (4, .int o_2), (0, .ref h_), (1, .int x1), (2, .int z2_2)]) hx hb dX8_crosses_61 hl (k := 5) rfl (by rw [ev_5]; rfl) (by decide) rfl (fun ls hl => ?_)
                refine lv_goto (tgt := 9) hx hb dX8_crosses_64 (by decide) ?_
                cases hf
                exact ih v_5 ex _ _ _ (h9 _ rfl) (lv_sub hl [3, 4, 5, 0] rfl) hW kx0 kx1
              · refine lv_aload_n hx hb dX8_crosses_46 rfl (lv_at hl 2 rfl) ?_
                refine lv_iload_n hx hb dX8_crosses_47 rfl (lv_at hl 4 rfl) ?_
                refine lv_iload_n hx hb dX8_crosses_48 rfl (lv_at hl 3 rfl) ?_
                refine lv_iload hx hb dX8_crosses_49 (lv_at hl 1 rfl) ?_
                refine lv_iload hx hb dX8_crosses_51 (lv_at hl 0 rfl) ?_
                obtain ⟨o_6, hc_6, hf⟩ := ob_bind hf
                refine q_callI hF hl.1 hK hA hZ hW mv_X8_isJointOf ml_X8_158 (c_X8_isJointOf l D E tx h_ h_g h_kept h_past h_path h_pose h_way h_px h_py h_free h_tips h_far h_queue h_times h_turns h_names h_named h_text h_told h_spare s_hasKept s_pasts s_pathMoves s_spot s_thrown s_faulty s_queued s_length s_at s_error s_tolds s_number s_px s_py z2_2 x1 o_2 o_3 o_6 hc_6) [0, 3, 4] rfl rfl rfl rfl rfl rfl ⟨Nat.le_of_ble_eq_true rfl, Nat.le_of_ble_eq_true rfl⟩ ⟨Nat.le_of_ble_eq_true rfl, Nat.le_of_ble_eq_true rfl⟩ rfl rfl (Nat.le_of_ble_eq_true rfl) dX8_crosses_53 (fun H locs hW => ?_)
                have hW : WD D A s (w_X8_crosses E h_ h_g h_kept h_past h_path h_pose h_way h_px h_py h_free h_tips h_far h_queue h_times h_turns h_names h_named h_text h_told h_spare s_hasKept s_pasts s_pathMoves s_spot s_thrown s_faulty s_queued s_length s_at s_error s_tolds s_number s_g s_way s_px s_py) H locs := hW
                refine q_if_ne (tgt := 61) hx hb dX8_crosses_56 (by decide) hf (fun hf => ?_) (fun hf => ?_)
                · obtain ⟨v_7, ev_7⟩ : ∃ y : Int32, y = z3_9 + 1 := ⟨_, rfl⟩
                  replace hf := ob_let hf ev_7
                  refine lv_iinc (v := v_7) (lv' := [(3, .int v_7), (5, .int o_3), (4, .int o_2), (0, .ref h_), (1, .int x1), (2, .int z2_2)]) hx hb dX8_crosses_61 hl (k := 5) rfl (by rw [ev_7]; rfl) (by decide) rfl (fun ls hl => ?_)
                  refine lv_goto (tgt := 9) hx hb dX8_crosses_64 (by decide) ?_
                  cases hf
                  exact ih v_7 ex _ _ _ (h9 _ rfl) (lv_sub hl [3, 4, 5, 0] rfl) hW kx0 kx1
                · cases hf
                  exact kx0 _ (k9 _ rfl) _ _ _ (lv_sub hl [] rfl) hW
        obtain ⟨e_8, hc_8, hf⟩ := ob_bind hf
        refine hB9 lfuel 0 e_8 _ _ _ hc_8 (lv_sub hl [1, 2, 3, 0] rfl) hW ?_ ?_
        · intro u_9 hu H locs ls hl hW
          subst hu
          dsimp only at hf
          cases hf
          exact kx0 _ (k9 _ rfl) _ _ _ (lv_sub hl [] rfl) hW
        · intro u_10 hu H locs ls hl hW
          subst hu
          dsimp only at hf
          obtain ⟨v_11, ev_11⟩ : ∃ y : Int32, y = z2_2 + 1 := ⟨_, rfl⟩
          replace hf := ob_let hf ev_11
          refine lv_iinc (v := v_11) (lv' := [(2, .int v_11), (0, .ref h_), (1, .int x1)]) hx hb dX8_crosses_67 hl (k := 2) rfl (by rw [ev_11]; rfl) (by decide) rfl (fun ls hl => ?_)
          refine lv_goto (tgt := 2) hx hb dX8_crosses_70 (by decide) ?_
          cases hf
          exact ih v_11 ex _ _ _ (h9 _ rfl) (lv_sub hl [1, 2, 0] rfl) hW kx0 kx1
  obtain ⟨e_12, hc_12, hf⟩ := ob_bind hf
  refine hB2 lfuel 0 e_12 _ _ _ hc_12 (lv_sub hl [1, 2, 0] rfl) hW ?_ ?_
  · intro u_13 hu H locs ls hl hW
    subst hu
    dsimp only at hf
    refine lv_iconst (v := 1) hx hb dX8_crosses_59 (by decide) ?_
    cases hf
    exact hret dX8_crosses_60 rfl rfl hW
  · intro u_14 hu H locs ls hl hW
    subst hu
    dsimp only at hf
    refine lv_iconst (v := 0) hx hb dX8_crosses_73 (by decide) ?_
    cases hf
    exact hret dX8_crosses_74 rfl rfl hW
def w_X8_faultHere (E : Nat → ClassId) (h_ h_g h_kept h_past h_path h_pose h_way h_px h_py h_free h_tips h_far h_queue h_times h_turns h_names h_named h_text h_told h_spare : Nat) (s_hasKept : Int32) (s_pasts : Int32) (s_pathMoves : Int32) (s_spot : Int32) (s_thrown : Int32) (s_faulty : Int32) (s_queued : Int32) (s_length : Int32) (s_at : Int32) (s_error : Int32) (s_tolds : Int32) (s_number : Int32) (s_g : Nat → Int32) (s_way : Nat → Int32) (s_px : Nat → Int32) (s_py : Nat → Int32) : va_W := [(h_, .inr (10, [.ref h_g, .ref h_kept, .int s_hasKept, .ref h_past, .int s_pasts, .ref h_path, .int s_pathMoves, .int s_spot, .int s_thrown, .ref h_pose, .ref h_way, .ref h_px, .ref h_py, .int s_faulty, .ref h_free, .ref h_tips, .ref h_far, .ref h_queue, .int s_queued, .ref h_times, .ref h_turns, .ref h_names, .ref h_named, .ref h_text, .int s_length, .int s_at, .int s_error, .ref h_told, .int s_tolds, .int s_number, .ref h_spare])), (h_g, .inl (E 0, 141, .inl s_g)), (h_way, .inl (E 0, 4, .inl s_way)), (h_px, .inl (E 0, 5, .inl s_px)), (h_py, .inl (E 0, 5, .inl s_py))]
set_option maxHeartbeats 4000000 in
set_option maxRecDepth 100000 in
theorem c_X8_faultHere (l : Launch) (D : va_G) (E : Nat → ClassId) (tx : List (Nat × String)) (h_ h_g h_kept h_past h_path h_pose h_way h_px h_py h_free h_tips h_far h_queue h_times h_turns h_names h_named h_text h_told h_spare : Nat) (s_hasKept : Int32) (s_pasts : Int32) (s_pathMoves : Int32) (s_spot : Int32) (s_thrown : Int32) (s_faulty : Int32) (s_queued : Int32) (s_length : Int32) (s_at : Int32) (s_error : Int32) (s_tolds : Int32) (s_number : Int32) (s_g : Nat → Int32) (s_way : Nat → Int32) (s_px : Nat → Int32) (s_py : Nat → Int32)  (r0 : Int32) (r1 : Int32) (hf : f_X8_faultHere s_faulty s_g s_way s_px s_py = some (r0, r1)) : CI l yX8_faultHere cX8_faultHere 3 (some .int) 4 91 D E tx [.ref h_] (w_X8_faultHere E h_ h_g h_kept h_past h_path h_pose h_way h_px h_py h_free h_tips h_far h_queue h_times h_turns h_names h_named h_text h_told h_spare s_hasKept s_pasts s_pathMoves s_spot s_thrown s_faulty s_queued s_length s_at s_error s_tolds s_number s_g s_way s_px s_py) (w_X8_faultHere E h_ h_g h_kept h_past h_path h_pose h_way h_px h_py h_free h_tips h_far h_queue h_times h_turns h_names h_named h_text h_told h_spare s_hasKept s_pasts s_pathMoves s_spot s_thrown r1 s_queued s_length s_at s_error s_tolds s_number s_g s_way s_px s_py) r0 := by
  refine CI_of RX8 pn_X8 rfl (Nat.le_of_ble_eq_true rfl) (fun p e s m args below meth c A Q hF hK hA hZ hW hret ls hl => ?_)
  have hx := hF.1
  have hb := hF.2.1
  have hl : lv_has ls 3 [(0, .ref h_)] := hl
  unfold f_X8_faultHere at hf
  have hL59 : ∀ (s_faulty_59 : Int32) (y1_59 : Int32) (y2_59 : Int32) (H : Heap) (locs : List Loc) (ls : Array Slot), f_X8_faultHere_L59 s_faulty_59 s_g s_way s_px s_py y1_59 y2_59 = some (r0, r1) → lv_has ls 3 [(0, .ref h_), (1, .int y1_59), (2, .int y2_59)] → WD D A s (w_X8_faultHere E h_ h_g h_kept h_past h_path h_pose h_way h_px h_py h_free h_tips h_far h_queue h_times h_turns h_names h_named h_text h_told h_spare s_hasKept s_pasts s_pathMoves s_spot s_thrown s_faulty_59 s_queued s_length s_at s_error s_tolds s_number s_g s_way s_px s_py) H locs → W p l e (RM 4 91) s m args below meth c H locs 0 0 Q (F0 m 59 ls []) := by
    intro s_faulty_59 y1_59 y2_59 H locs ls hf hl hW
    unfold f_X8_faultHere_L59 at hf
    refine lv_aload_n hx hb dX8_faultHere_59 rfl (lv_at hl 0 rfl) ?_
    refine lv_iload_n hx hb dX8_faultHere_60 rfl (lv_at hl 2 rfl) ?_
    refine q_put hF hK hW fl_X8_171 ft_X8 rfl 0 rfl rfl rfl (Nat.le_of_ble_eq_true rfl) dX8_faultHere_61 (fun H locs hW => ?_)
    have hW : WD D A s (w_X8_faultHere E h_ h_g h_kept h_past h_path h_pose h_way h_px h_py h_free h_tips h_far h_queue h_times h_turns h_names h_named h_text h_told h_spare s_hasKept s_pasts s_pathMoves s_spot s_thrown y2_59 s_queued s_length s_at s_error s_tolds s_number s_g s_way s_px s_py) H locs := hW
    refine lv_iload_n hx hb dX8_faultHere_64 rfl (lv_at hl 1 rfl) ?_
    cases hf
    exact hret dX8_faultHere_65 rfl rfl hW
  refine lv_iconst (v := 1) hx hb dX8_faultHere_0 (by decide) ?_
  refine lv_istore_n (lv' := [(1, .int 1), (0, .ref h_)]) hx hb dX8_faultHere_1 rfl hl (by decide) rfl (fun ls hl => ?_)
  have hB2 : ∀ (n : Nat) (z1_2 : Int32) (ex : (Int32 × Int32) ⊕ (Int32 × Int32) ⊕ (Int32 × Int32) ⊕ (Unit)) (H : Heap) (locs : List Loc) (ls : Array Slot), LPF (fun z => f_X8_faultHere_B2 s_faulty s_g s_way s_px s_py z) n z1_2 = some ex → lv_has ls 3 [(0, .ref h_), (1, .int z1_2)] → WD D A s (w_X8_faultHere E h_ h_g h_kept h_past h_path h_pose h_way h_px h_py h_free h_tips h_far h_queue h_times h_turns h_names h_named h_text h_told h_spare s_hasKept s_pasts s_pathMoves s_spot s_thrown s_faulty s_queued s_length s_at s_error s_tolds s_number s_g s_way s_px s_py) H locs → (∀ (u9 : Int32 × Int32), ex = .inl u9 → ∀ (H : Heap) (locs : List Loc) (ls : Array Slot), lv_has ls 3 [(0, .ref h_), (1, .int u9.1), (2, .int u9.2)] → WD D A s (w_X8_faultHere E h_ h_g h_kept h_past h_path h_pose h_way h_px h_py h_free h_tips h_far h_queue h_times h_turns h_names h_named h_text h_told h_spare s_hasKept s_pasts s_pathMoves s_spot s_thrown s_faulty s_queued s_length s_at s_error s_tolds s_number s_g s_way s_px s_py) H locs → W p l e (RM 4 91) s m args below meth c H locs 0 0 Q (F0 m 32 ls [])) → (∀ (u9 : Int32 × Int32), ex = .inr (.inl u9) → ∀ (H : Heap) (locs : List Loc) (ls : Array Slot), lv_has ls 3 [(0, .ref h_), (1, .int u9.1), (2, .int u9.2)] → WD D A s (w_X8_faultHere E h_ h_g h_kept h_past h_path h_pose h_way h_px h_py h_free h_tips h_far h_queue h_times h_turns h_names h_named h_text h_told h_spare s_hasKept s_pasts s_pathMoves s_spot s_thrown s_faulty s_queued s_length s_at s_error s_tolds s_number s_g s_way s_px s_py) H locs → W p l e (RM 4 91) s m args below meth c H locs 0 0 Q (F0 m 48 ls [])) → (∀ (u9 : Int32 × Int32), ex = .inr (.inr (.inl u9)) → ∀ (H : Heap) (locs : List Loc) (ls : Array Slot), lv_has ls 3 [(0, .ref h_), (1, .int u9.1), (2, .int u9.2)] → WD D A s (w_X8_faultHere E h_ h_g h_kept h_past h_path h_pose h_way h_px h_py h_free h_tips h_far h_queue h_times h_turns h_names h_named h_text h_told h_spare s_hasKept s_pasts s_pathMoves s_spot s_thrown s_faulty s_queued s_length s_at s_error s_tolds s_number s_g s_way s_px s_py) H locs → W p l e (RM 4 91) s m args below meth c H locs 0 0 Q (F0 m 59 ls [])) → (∀ (u9 : Unit), ex = .inr (.inr (.inr u9)) → ∀ (H : Heap) (locs : List Loc) (ls : Array Slot), lv_has ls 3 [] → WD D A s (w_X8_faultHere E h_ h_g h_kept h_past h_path h_pose h_way h_px h_py h_free h_tips h_far h_queue h_times h_turns h_names h_named h_text h_told h_spare s_hasKept s_pasts s_pathMoves s_spot s_thrown s_faulty s_queued s_length s_at s_error s_tolds s_number s_g s_way s_px s_py) H locs → W p l e (RM 4 91) s m args below meth c H locs 0 0 Q (F0 m 78 ls [])) → W p l e (RM 4 91) s m args below meth c H locs 0 0 Q (F0 m 2 ls []) := by
    intro n
    induction n with
    | zero => intro z1_2 ex H locs ls h9; exact (ob_lp0 h9).elim
    | succ n ih =>
      intro z1_2 ex H locs ls h9 hl hW kx0 kx1 kx2 kx3
      obtain ⟨q9, hf, h9, k9⟩ := ob_lp h9
      have hf : f_X8_faultHere_B2 s_faulty s_g s_way s_px s_py z1_2 = some q9 := hf
      unfold f_X8_faultHere_B2 at hf
      refine lv_iload_n hx hb dX8_faultHere_2 rfl (lv_at hl 1 rfl) ?_
      refine lv_iconst (v := 3) hx hb dX8_faultHere_3 (by decide) ?_
      refine q_icmp_gt (tgt := 78) hx hb dX8_faultHere_4 (by decide) hf (fun hf => ?_) (fun hf => ?_)
      · cases hf
        exact kx3 _ (k9 _ rfl) _ _ _ (lv_sub hl [] rfl) hW
      · refine lv_iconst (v := 0) hx hb dX8_faultHere_7 (by decide) ?_
        refine lv_istore_n (lv' := [(2, .int 0), (0, .ref h_), (1, .int z1_2)]) hx hb dX8_faultHere_8 rfl hl (by decide) rfl (fun ls hl => ?_)
        have hB9 : ∀ (n : Nat) (z2_9 : Int32) (ex : (Int32) ⊕ (Int32) ⊕ (Int32) ⊕ (Unit)) (H : Heap) (locs : List Loc) (ls : Array Slot), LPF (fun z => f_X8_faultHere_B9 s_faulty s_g s_way s_px s_py z1_2 z) n z2_9 = some ex → lv_has ls 3 [(0, .ref h_), (1, .int z1_2), (2, .int z2_9)] → WD D A s (w_X8_faultHere E h_ h_g h_kept h_past h_path h_pose h_way h_px h_py h_free h_tips h_far h_queue h_times h_turns h_names h_named h_text h_told h_spare s_hasKept s_pasts s_pathMoves s_spot s_thrown s_faulty s_queued s_length s_at s_error s_tolds s_number s_g s_way s_px s_py) H locs → (∀ (u9 : Int32), ex = .inl u9 → ∀ (H : Heap) (locs : List Loc) (ls : Array Slot), lv_has ls 3 [(0, .ref h_), (1, .int z1_2), (2, .int u9)] → WD D A s (w_X8_faultHere E h_ h_g h_kept h_past h_path h_pose h_way h_px h_py h_free h_tips h_far h_queue h_times h_turns h_names h_named h_text h_told h_spare s_hasKept s_pasts s_pathMoves s_spot s_thrown s_faulty s_queued s_length s_at s_error s_tolds s_number s_g s_way s_px s_py) H locs → W p l e (RM 4 91) s m args below meth c H locs 0 0 Q (F0 m 32 ls [])) → (∀ (u9 : Int32), ex = .inr (.inl u9) → ∀ (H : Heap) (locs : List Loc) (ls : Array Slot), lv_has ls 3 [(0, .ref h_), (1, .int z1_2), (2, .int u9)] → WD D A s (w_X8_faultHere E h_ h_g h_kept h_past h_path h_pose h_way h_px h_py h_free h_tips h_far h_queue h_times h_turns h_names h_named h_text h_told h_spare s_hasKept s_pasts s_pathMoves s_spot s_thrown s_faulty s_queued s_length s_at s_error s_tolds s_number s_g s_way s_px s_py) H locs → W p l e (RM 4 91) s m args below meth c H locs 0 0 Q (F0 m 48 ls [])) → (∀ (u9 : Int32), ex = .inr (.inr (.inl u9)) → ∀ (H : Heap) (locs : List Loc) (ls : Array Slot), lv_has ls 3 [(0, .ref h_), (1, .int z1_2), (2, .int u9)] → WD D A s (w_X8_faultHere E h_ h_g h_kept h_past h_path h_pose h_way h_px h_py h_free h_tips h_far h_queue h_times h_turns h_names h_named h_text h_told h_spare s_hasKept s_pasts s_pathMoves s_spot s_thrown s_faulty s_queued s_length s_at s_error s_tolds s_number s_g s_way s_px s_py) H locs → W p l e (RM 4 91) s m args below meth c H locs 0 0 Q (F0 m 59 ls [])) → (∀ (u9 : Unit), ex = .inr (.inr (.inr u9)) → ∀ (H : Heap) (locs : List Loc) (ls : Array Slot), lv_has ls 3 [(0, .ref h_), (1, .int z1_2)] → WD D A s (w_X8_faultHere E h_ h_g h_kept h_past h_path h_pose h_way h_px h_py h_free h_tips h_far h_queue h_times h_turns h_names h_named h_text h_told h_spare s_hasKept s_pasts s_pathMoves s_spot s_thrown s_faulty s_queued s_length s_at s_error s_tolds s_number s_g s_way s_px s_py) H locs → W p l e (RM 4 91) s m args below meth c H locs 0 0 Q (F0 m 72 ls [])) → W p l e (RM 4 91) s m args below meth c H locs 0 0 Q (F0 m 9 ls []) := by
          intro n
          induction n with
          | zero => intro z2_9 ex H locs ls h9; exact (ob_lp0 h9).elim
          | succ n ih =>
            intro z2_9 ex H locs ls h9 hl hW kx0 kx1 kx2 kx3
            obtain ⟨q9, hf, h9, k9⟩ := ob_lp h9
            have hf : f_X8_faultHere_B9 s_faulty s_g s_way s_px s_py z1_2 z2_9 = some q9 := hf
            unfold f_X8_faultHere_B9 at hf
            refine lv_iload_n hx hb dX8_faultHere_9 rfl (lv_at hl 2 rfl) ?_
            refine lv_aload_n hx hb dX8_faultHere_10 rfl (lv_at hl 0 rfl) ?_
            refine q_get hF hK hW fl_X8_7 0 rfl rfl dX8_faultHere_11 ?_
            refine lv_iconst (v := 0) hx hb dX8_faultHere_14 (by decide) ?_
            refine q_iald hx hb hK hW 1 0 rfl rfl dX8_faultHere_15 hf (fun hf => ?_)
            refine q_icmp_ge (tgt := 72) hx hb dX8_faultHere_16 (by decide) hf (fun hf => ?_) (fun hf => ?_)
            · cases hf
              exact kx3 _ (k9 _ rfl) _ _ _ (lv_sub hl [0, 1] rfl) hW
            · refine lv_iload_n hx hb dX8_faultHere_19 rfl (lv_at hl 1 rfl) ?_
              refine lv_iconst (v := 1) hx hb dX8_faultHere_20 (by decide) ?_
              refine q_icmp_ne (tgt := 35) hx hb dX8_faultHere_21 (by decide) hf (fun hf => ?_) (fun hf => ?_)
              · refine lv_iload_n hx hb dX8_faultHere_35 rfl (lv_at hl 1 rfl) ?_
                refine lv_iconst (v := 2) hx hb dX8_faultHere_36 (by decide) ?_
                refine q_icmp_ne (tgt := 51) hx hb dX8_faultHere_37 (by decide) hf (fun hf => ?_) (fun hf => ?_)
                · refine lv_aload_n hx hb dX8_faultHere_51 rfl (lv_at hl 0 rfl) ?_
                  refine lv_iload_n hx hb dX8_faultHere_52 rfl (lv_at hl 2 rfl) ?_
                  obtain ⟨o_1, hc_1, hf⟩ := ob_bind hf
                  refine q_callI hF hl.1 hK hA hZ hW mv_X8_crosses ml_X8_168 (c_X8_crosses l D E tx h_ h_g h_kept h_past h_path h_pose h_way h_px h_py h_free h_tips h_far h_queue h_times h_turns h_names h_named h_text h_told h_spare s_hasKept s_pasts s_pathMoves s_spot s_thrown s_faulty s_queued s_length s_at s_error s_tolds s_number s_g s_way s_px s_py z2_9 o_1 hc_1) [0, 1, 2, 3, 4] rfl rfl rfl rfl rfl rfl ⟨Nat.le_of_ble_eq_true rfl, Nat.le_of_ble_eq_true rfl⟩ ⟨Nat.le_of_ble_eq_true rfl, Nat.le_of_ble_eq_true rfl⟩ rfl rfl (Nat.le_of_ble_eq_true rfl) dX8_faultHere_53 (fun H locs hW => ?_)
                  have hW : WD D A s (w_X8_faultHere E h_ h_g h_kept h_past h_path h_pose h_way h_px h_py h_free h_tips h_far h_queue h_times h_turns h_names h_named h_text h_told h_spare s_hasKept s_pasts s_pathMoves s_spot s_thrown s_faulty s_queued s_length s_at s_error s_tolds s_number s_g s_way s_px s_py) H locs := hW
                  refine q_if_eq (tgt := 66) hx hb dX8_faultHere_56 (by decide) hf (fun hf => ?_) (fun hf => ?_)
                  · obtain ⟨v_2, ev_2⟩ : ∃ y : Int32, y = z2_9 + 1 := ⟨_, rfl⟩
                    replace hf := ob_let hf ev_2
                    refine lv_iinc (v := v_2) (lv' := [(2, .int v_2), (0, .ref h_), (1, .int z1_2)]) hx hb dX8_faultHere_66 hl (k := 2) rfl (by rw [ev_2]; rfl) (by decide) rfl (fun ls hl => ?_)
                    refine lv_goto (tgt := 9) hx hb dX8_faultHere_69 (by decide) ?_
                    cases hf
                    exact ih v_2 ex _ _ _ (h9 _ rfl) (lv_sub hl [1, 2, 0] rfl) hW kx0 kx1 kx2 kx3
                  · cases hf
                    exact kx2 _ (k9 _ rfl) _ _ _ (lv_sub hl [0, 1, 2] rfl) hW
                · refine lv_aload_n hx hb dX8_faultHere_40 rfl (lv_at hl 0 rfl) ?_
                  refine lv_iload_n hx hb dX8_faultHere_41 rfl (lv_at hl 2 rfl) ?_
                  obtain ⟨o_3, hc_3, hf⟩ := ob_bind hf
                  refine q_callI hF hl.1 hK hA hZ hW mv_X8_hits ml_X8_165 (c_X8_hits l D E tx h_ h_g h_kept h_past h_path h_pose h_way h_px h_py h_free h_tips h_far h_queue h_times h_turns h_names h_named h_text h_told h_spare s_hasKept s_pasts s_pathMoves s_spot s_thrown s_faulty s_queued s_length s_at s_error s_tolds s_number s_g s_way s_px s_py z2_9 o_3 hc_3) [0, 1, 2, 3, 4] rfl rfl rfl rfl rfl rfl ⟨Nat.le_of_ble_eq_true rfl, Nat.le_of_ble_eq_true rfl⟩ ⟨Nat.le_of_ble_eq_true rfl, Nat.le_of_ble_eq_true rfl⟩ rfl rfl (Nat.le_of_ble_eq_true rfl) dX8_faultHere_42 (fun H locs hW => ?_)
                  have hW : WD D A s (w_X8_faultHere E h_ h_g h_kept h_past h_path h_pose h_way h_px h_py h_free h_tips h_far h_queue h_times h_turns h_names h_named h_text h_told h_spare s_hasKept s_pasts s_pathMoves s_spot s_thrown s_faulty s_queued s_length s_at s_error s_tolds s_number s_g s_way s_px s_py) H locs := hW
                  refine q_if_eq (tgt := 66) hx hb dX8_faultHere_45 (by decide) hf (fun hf => ?_) (fun hf => ?_)
                  · obtain ⟨v_4, ev_4⟩ : ∃ y : Int32, y = z2_9 + 1 := ⟨_, rfl⟩
                    replace hf := ob_let hf ev_4
                    refine lv_iinc (v := v_4) (lv' := [(2, .int v_4), (0, .ref h_), (1, .int z1_2)]) hx hb dX8_faultHere_66 hl (k := 2) rfl (by rw [ev_4]; rfl) (by decide) rfl (fun ls hl => ?_)
                    refine lv_goto (tgt := 9) hx hb dX8_faultHere_69 (by decide) ?_
                    cases hf
                    exact ih v_4 ex _ _ _ (h9 _ rfl) (lv_sub hl [1, 2, 0] rfl) hW kx0 kx1 kx2 kx3
                  · cases hf
                    exact kx1 _ (k9 _ rfl) _ _ _ (lv_sub hl [0, 1, 2] rfl) hW
              · refine lv_aload_n hx hb dX8_faultHere_24 rfl (lv_at hl 0 rfl) ?_
                refine lv_iload_n hx hb dX8_faultHere_25 rfl (lv_at hl 2 rfl) ?_
                obtain ⟨o_5, hc_5, hf⟩ := ob_bind hf
                refine q_callI hF hl.1 hK hA hZ hW mv_X8_isOut ml_X8_162 (c_X8_isOut l D E tx h_ h_g h_kept h_past h_path h_pose h_way h_px h_py h_free h_tips h_far h_queue h_times h_turns h_names h_named h_text h_told h_spare s_hasKept s_pasts s_pathMoves s_spot s_thrown s_faulty s_queued s_length s_at s_error s_tolds s_number s_px s_py z2_9 o_5 hc_5) [0, 3, 4] rfl rfl rfl rfl rfl rfl ⟨Nat.le_of_ble_eq_true rfl, Nat.le_of_ble_eq_true rfl⟩ ⟨Nat.le_of_ble_eq_true rfl, Nat.le_of_ble_eq_true rfl⟩ rfl rfl (Nat.le_of_ble_eq_true rfl) dX8_faultHere_26 (fun H locs hW => ?_)
                have hW : WD D A s (w_X8_faultHere E h_ h_g h_kept h_past h_path h_pose h_way h_px h_py h_free h_tips h_far h_queue h_times h_turns h_names h_named h_text h_told h_spare s_hasKept s_pasts s_pathMoves s_spot s_thrown s_faulty s_queued s_length s_at s_error s_tolds s_number s_g s_way s_px s_py) H locs := hW
                refine q_if_eq (tgt := 66) hx hb dX8_faultHere_29 (by decide) hf (fun hf => ?_) (fun hf => ?_)
                · obtain ⟨v_6, ev_6⟩ : ∃ y : Int32, y = z2_9 + 1 := ⟨_, rfl⟩
                  replace hf := ob_let hf ev_6
                  refine lv_iinc (v := v_6) (lv' := [(2, .int v_6), (0, .ref h_), (1, .int z1_2)]) hx hb dX8_faultHere_66 hl (k := 2) rfl (by rw [ev_6]; rfl) (by decide) rfl (fun ls hl => ?_)
                  refine lv_goto (tgt := 9) hx hb dX8_faultHere_69 (by decide) ?_
                  cases hf
                  exact ih v_6 ex _ _ _ (h9 _ rfl) (lv_sub hl [1, 2, 0] rfl) hW kx0 kx1 kx2 kx3
                · cases hf
                  exact kx0 _ (k9 _ rfl) _ _ _ (lv_sub hl [0, 1, 2] rfl) hW
        obtain ⟨e_7, hc_7, hf⟩ := ob_bind hf
        refine hB9 lfuel 0 e_7 _ _ _ hc_7 (lv_sub hl [1, 2, 0] rfl) hW ?_ ?_ ?_ ?_
        · intro u_8 hu H locs ls hl hW
          subst hu
          dsimp only at hf
          cases hf
          exact kx0 _ (k9 _ rfl) _ _ _ (lv_sub hl [0, 1, 2] rfl) hW
        · intro u_9 hu H locs ls hl hW
          subst hu
          dsimp only at hf
          cases hf
          exact kx1 _ (k9 _ rfl) _ _ _ (lv_sub hl [0, 1, 2] rfl) hW
        · intro u_10 hu H locs ls hl hW
          subst hu
          dsimp only at hf
          cases hf
          exact kx2 _ (k9 _ rfl) _ _ _ (lv_sub hl [0, 1, 2] rfl) hW
        · intro u_11 hu H locs ls hl hW
          subst hu
          dsimp only at hf
          obtain ⟨v_12, ev_12⟩ : ∃ y : Int32, y = z1_2 + 1 := ⟨_, rfl⟩
          replace hf := ob_let hf ev_12
          refine lv_iinc (v := v_12) (lv' := [(1, .int v_12), (0, .ref h_)]) hx hb dX8_faultHere_72 hl (k := 1) rfl (by rw [ev_12]; rfl) (by decide) rfl (fun ls hl => ?_)
          refine lv_goto (tgt := 2) hx hb dX8_faultHere_75 (by decide) ?_
          cases hf
          exact ih v_12 ex _ _ _ (h9 _ rfl) (lv_sub hl [1, 0] rfl) hW kx0 kx1 kx2 kx3
  obtain ⟨e_13, hc_13, hf⟩ := ob_bind hf
  refine hB2 lfuel 1 e_13 _ _ _ hc_13 (lv_sub hl [1, 0] rfl) hW ?_ ?_ ?_ ?_
  · intro u_14 hu H locs ls hl hW
    subst hu
    dsimp only at hf
    refine lv_goto (tgt := 59) hx hb dX8_faultHere_32 (by decide) ?_
    exact hL59 s_faulty u_14.1 u_14.2 _ _ _ hf (lv_sub hl [0, 1, 2] rfl) hW
  · intro u_15 hu H locs ls hl hW
    subst hu
    dsimp only at hf
    refine lv_goto (tgt := 59) hx hb dX8_faultHere_48 (by decide) ?_
    exact hL59 s_faulty u_15.1 u_15.2 _ _ _ hf (lv_sub hl [0, 1, 2] rfl) hW
  · intro u_16 hu H locs ls hl hW
    subst hu
    dsimp only at hf
    exact hL59 s_faulty u_16.1 u_16.2 _ _ _ hf (lv_sub hl [0, 1, 2] rfl) hW
  · intro u_17 hu H locs ls hl hW
    subst hu
    dsimp only at hf
    refine lv_iconst (v := 0) hx hb dX8_faultHere_78 (by decide) ?_
    cases hf
    exact hret dX8_faultHere_79 rfl rfl hW
def w_X8_isFree (E : Nat → ClassId) (h_ h_g h_kept h_past h_path h_pose h_way h_px h_py h_free h_tips h_far h_queue h_times h_turns h_names h_named h_text h_told h_spare : Nat) (s_hasKept : Int32) (s_pasts : Int32) (s_pathMoves : Int32) (s_spot : Int32) (s_thrown : Int32) (s_faulty : Int32) (s_queued : Int32) (s_length : Int32) (s_at : Int32) (s_error : Int32) (s_tolds : Int32) (s_number : Int32) (s_g : Nat → Int32) (s_pose : Nat → Int32) (s_way : Nat → Int32) (s_px : Nat → Int32) (s_py : Nat → Int32) : va_W := [(h_, .inr (10, [.ref h_g, .ref h_kept, .int s_hasKept, .ref h_past, .int s_pasts, .ref h_path, .int s_pathMoves, .int s_spot, .int s_thrown, .ref h_pose, .ref h_way, .ref h_px, .ref h_py, .int s_faulty, .ref h_free, .ref h_tips, .ref h_far, .ref h_queue, .int s_queued, .ref h_times, .ref h_turns, .ref h_names, .ref h_named, .ref h_text, .int s_length, .int s_at, .int s_error, .ref h_told, .int s_tolds, .int s_number, .ref h_spare])), (h_g, .inl (E 0, 141, .inl s_g)), (h_pose, .inl (E 0, 4, .inl s_pose)), (h_way, .inl (E 0, 4, .inl s_way)), (h_px, .inl (E 0, 5, .inl s_px)), (h_py, .inl (E 0, 5, .inl s_py))]
set_option maxHeartbeats 4000000 in
set_option maxRecDepth 100000 in
theorem c_X8_isFree (l : Launch) (D : va_G) (E : Nat → ClassId) (tx : List (Nat × String)) (h_ h_g h_kept h_past h_path h_pose h_way h_px h_py h_free h_tips h_far h_queue h_times h_turns h_names h_named h_text h_told h_spare : Nat) (s_hasKept : Int32) (s_pasts : Int32) (s_pathMoves : Int32) (s_spot : Int32) (s_thrown : Int32) (s_faulty : Int32) (s_queued : Int32) (s_length : Int32) (s_at : Int32) (s_error : Int32) (s_tolds : Int32) (s_number : Int32) (s_g : Nat → Int32) (s_pose : Nat → Int32) (s_way : Nat → Int32) (s_px : Nat → Int32) (s_py : Nat → Int32) (x1 : Int32) (r0 : Int32) (r1 : Int32) (r2 : Nat → Int32) (r3 : Nat → Int32) (r4 : Nat → Int32) (r5 : Nat → Int32) (hf : f_X8_isFree s_faulty s_g s_pose s_way s_px s_py x1 = some (r0, r1, r2, r3, r4, r5)) : CI l yX8_isFree cX8_isFree 2 (some .boolean) 5 113 D E tx [.ref h_, .int x1] (w_X8_isFree E h_ h_g h_kept h_past h_path h_pose h_way h_px h_py h_free h_tips h_far h_queue h_times h_turns h_names h_named h_text h_told h_spare s_hasKept s_pasts s_pathMoves s_spot s_thrown s_faulty s_queued s_length s_at s_error s_tolds s_number s_g s_pose s_way s_px s_py) (w_X8_isFree E h_ h_g h_kept h_past h_path h_pose h_way h_px h_py h_free h_tips h_far h_queue h_times h_turns h_names h_named h_text h_told h_spare s_hasKept s_pasts s_pathMoves s_spot s_thrown r1 s_queued s_length s_at s_error s_tolds s_number s_g r2 r3 r4 r5) r0 := by
  refine CI_of RX8 pn_X8 rfl (Nat.le_of_ble_eq_true rfl) (fun p e s m args below meth c A Q hF hK hA hZ hW hret ls hl => ?_)
  have hx := hF.1
  have hb := hF.2.1
  have hl : lv_has ls 2 [(0, .ref h_), (1, .int x1)] := hl
  unfold f_X8_isFree at hf
  refine lv_aload_n hx hb dX8_isFree_0 rfl (lv_at hl 0 rfl) ?_
  refine lv_iload_n hx hb dX8_isFree_1 rfl (lv_at hl 1 rfl) ?_
  obtain ⟨o_1, hc_1, hf⟩ := ob_bind hf
  refine q_callV hF hl.1 hK hA hZ hW mv_X8_takes ml_X8_174 (c_X8_takes l D E tx h_ h_g h_kept h_past h_path h_pose h_way h_px h_py h_free h_tips h_far h_queue h_times h_turns h_names h_named h_text h_told h_spare s_hasKept s_pasts s_pathMoves s_spot s_thrown s_faulty s_queued s_length s_at s_error s_tolds s_number s_g s_pose s_way s_px s_py x1 o_1.1 o_1.2.1 o_1.2.2.1 o_1.2.2.2 hc_1) [0, 1, 2, 3, 4, 5] rfl rfl rfl rfl rfl rfl ⟨Nat.le_of_ble_eq_true rfl, Nat.le_of_ble_eq_true rfl⟩ ⟨Nat.le_of_ble_eq_true rfl, Nat.le_of_ble_eq_true rfl⟩ rfl rfl (Nat.le_of_ble_eq_true rfl) dX8_isFree_2 (fun H locs hW => ?_)
  have hW : WD D A s (w_X8_isFree E h_ h_g h_kept h_past h_path h_pose h_way h_px h_py h_free h_tips h_far h_queue h_times h_turns h_names h_named h_text h_told h_spare s_hasKept s_pasts s_pathMoves s_spot s_thrown s_faulty s_queued s_length s_at s_error s_tolds s_number s_g o_1.1 o_1.2.1 o_1.2.2.1 o_1.2.2.2) H locs := hW
  refine lv_aload_n hx hb dX8_isFree_5 rfl (lv_at hl 0 rfl) ?_
  obtain ⟨o_2, hc_2, hf⟩ := ob_bind hf
  refine q_callI hF hl.1 hK hA hZ hW mv_X8_faultHere ml_X8_178 (c_X8_faultHere l D E tx h_ h_g h_kept h_past h_path h_pose h_way h_px h_py h_free h_tips h_far h_queue h_times h_turns h_names h_named h_text h_told h_spare s_hasKept s_pasts s_pathMoves s_spot s_thrown s_faulty s_queued s_length s_at s_error s_tolds s_number s_g o_1.2.1 o_1.2.2.1 o_1.2.2.2 o_2.1 o_2.2 hc_2) [0, 1, 3, 4, 5] rfl rfl rfl rfl rfl rfl ⟨Nat.le_of_ble_eq_true rfl, Nat.le_of_ble_eq_true rfl⟩ ⟨Nat.le_of_ble_eq_true rfl, Nat.le_of_ble_eq_true rfl⟩ rfl rfl (Nat.le_of_ble_eq_true rfl) dX8_isFree_6 (fun H locs hW => ?_)
  have hW : WD D A s (w_X8_isFree E h_ h_g h_kept h_past h_path h_pose h_way h_px h_py h_free h_tips h_far h_queue h_times h_turns h_names h_named h_text h_told h_spare s_hasKept s_pasts s_pathMoves s_spot s_thrown o_2.2 s_queued s_length s_at s_error s_tolds s_number s_g o_1.1 o_1.2.1 o_1.2.2.1 o_1.2.2.2) H locs := hW
  refine q_if_ne (tgt := 16) hx hb dX8_isFree_9 (by decide) hf (fun hf => ?_) (fun hf => ?_)
  · refine lv_iconst (v := 0) hx hb dX8_isFree_16 (by decide) ?_
    cases hf
    exact hret dX8_isFree_17 rfl rfl hW
  · refine lv_iconst (v := 1) hx hb dX8_isFree_12 (by decide) ?_
    refine lv_goto (tgt := 17) hx hb dX8_isFree_13 (by decide) ?_
    cases hf
    exact hret dX8_isFree_17 rfl rfl hW
def w_X8_isFreeNow (E : Nat → ClassId) (h_ h_g h_kept h_past h_path h_pose h_way h_px h_py h_free h_tips h_far h_queue h_times h_turns h_names h_named h_text h_told h_spare : Nat) (s_hasKept : Int32) (s_pasts : Int32) (s_pathMoves : Int32) (s_spot : Int32) (s_thrown : Int32) (s_faulty : Int32) (s_queued : Int32) (s_length : Int32) (s_at : Int32) (s_error : Int32) (s_tolds : Int32) (s_number : Int32) (s_g : Nat → Int32) (s_pose : Nat → Int32) (s_way : Nat → Int32) (s_px : Nat → Int32) (s_py : Nat → Int32) : va_W := [(h_, .inr (10, [.ref h_g, .ref h_kept, .int s_hasKept, .ref h_past, .int s_pasts, .ref h_path, .int s_pathMoves, .int s_spot, .int s_thrown, .ref h_pose, .ref h_way, .ref h_px, .ref h_py, .int s_faulty, .ref h_free, .ref h_tips, .ref h_far, .ref h_queue, .int s_queued, .ref h_times, .ref h_turns, .ref h_names, .ref h_named, .ref h_text, .int s_length, .int s_at, .int s_error, .ref h_told, .int s_tolds, .int s_number, .ref h_spare])), (h_g, .inl (E 0, 141, .inl s_g)), (h_pose, .inl (E 0, 4, .inl s_pose)), (h_way, .inl (E 0, 4, .inl s_way)), (h_px, .inl (E 0, 5, .inl s_px)), (h_py, .inl (E 0, 5, .inl s_py))]
set_option maxHeartbeats 4000000 in
set_option maxRecDepth 100000 in
theorem c_X8_isFreeNow (l : Launch) (D : va_G) (E : Nat → ClassId) (tx : List (Nat × String)) (h_ h_g h_kept h_past h_path h_pose h_way h_px h_py h_free h_tips h_far h_queue h_times h_turns h_names h_named h_text h_told h_spare : Nat) (s_hasKept : Int32) (s_pasts : Int32) (s_pathMoves : Int32) (s_spot : Int32) (s_thrown : Int32) (s_faulty : Int32) (s_queued : Int32) (s_length : Int32) (s_at : Int32) (s_error : Int32) (s_tolds : Int32) (s_number : Int32) (s_g : Nat → Int32) (s_pose : Nat → Int32) (s_way : Nat → Int32) (s_px : Nat → Int32) (s_py : Nat → Int32)  (r0 : Int32) (r1 : Int32) (r2 : Nat → Int32) (r3 : Nat → Int32) (r4 : Nat → Int32) (r5 : Nat → Int32) (hf : f_X8_isFreeNow s_faulty s_g s_pose s_way s_px s_py = some (r0, r1, r2, r3, r4, r5)) : CI l yX8_isFreeNow cX8_isFreeNow 1 (some .boolean) 6 134 D E tx [.ref h_] (w_X8_isFreeNow E h_ h_g h_kept h_past h_path h_pose h_way h_px h_py h_free h_tips h_far h_queue h_times h_turns h_names h_named h_text h_told h_spare s_hasKept s_pasts s_pathMoves s_spot s_thrown s_faulty s_queued s_length s_at s_error s_tolds s_number s_g s_pose s_way s_px s_py) (w_X8_isFreeNow E h_ h_g h_kept h_past h_path h_pose h_way h_px h_py h_free h_tips h_far h_queue h_times h_turns h_names h_named h_text h_told h_spare s_hasKept s_pasts s_pathMoves s_spot s_thrown r1 s_queued s_length s_at s_error s_tolds s_number s_g r2 r3 r4 r5) r0 := by
  refine CI_of RX8 pn_X8 rfl (Nat.le_of_ble_eq_true rfl) (fun p e s m args below meth c A Q hF hK hA hZ hW hret ls hl => ?_)
  have hx := hF.1
  have hb := hF.2.1
  have hl : lv_has ls 1 [(0, .ref h_)] := hl
  unfold f_X8_isFreeNow at hf
  refine lv_aload_n hx hb dX8_isFreeNow_0 rfl (lv_at hl 0 rfl) ?_
  refine lv_aload_n hx hb dX8_isFreeNow_1 rfl (lv_at hl 0 rfl) ?_
  obtain ⟨o_1, hc_1, hf⟩ := ob_bind hf
  refine q_callI hF hl.1 hK hA hZ hW mv_X8_numberNow ml_X8_181 (c_X8_numberNow l D E tx h_ h_g h_kept h_past h_path h_pose h_way h_px h_py h_free h_tips h_far h_queue h_times h_turns h_names h_named h_text h_told h_spare s_hasKept s_pasts s_pathMoves s_spot s_thrown s_faulty s_queued s_length s_at s_error s_tolds s_number s_g o_1 hc_1) [0, 1] rfl rfl rfl rfl rfl rfl ⟨Nat.le_of_ble_eq_true rfl, Nat.le_of_ble_eq_true rfl⟩ ⟨Nat.le_of_ble_eq_true rfl, Nat.le_of_ble_eq_true rfl⟩ rfl rfl (Nat.le_of_ble_eq_true rfl) dX8_isFreeNow_2 (fun H locs hW => ?_)
  have hW : WD D A s (w_X8_isFreeNow E h_ h_g h_kept h_past h_path h_pose h_way h_px h_py h_free h_tips h_far h_queue h_times h_turns h_names h_named h_text h_told h_spare s_hasKept s_pasts s_pathMoves s_spot s_thrown s_faulty s_queued s_length s_at s_error s_tolds s_number s_g s_pose s_way s_px s_py) H locs := hW
  obtain ⟨o_2, hc_2, hf⟩ := ob_bind hf
  refine q_callI hF hl.1 hK hA hZ hW mv_X8_isFree ml_X8_184 (c_X8_isFree l D E tx h_ h_g h_kept h_past h_path h_pose h_way h_px h_py h_free h_tips h_far h_queue h_times h_turns h_names h_named h_text h_told h_spare s_hasKept s_pasts s_pathMoves s_spot s_thrown s_faulty s_queued s_length s_at s_error s_tolds s_number s_g s_pose s_way s_px s_py o_1 o_2.1 o_2.2.1 o_2.2.2.1 o_2.2.2.2.1 o_2.2.2.2.2.1 o_2.2.2.2.2.2 hc_2) [0, 1, 2, 3, 4, 5] rfl rfl rfl rfl rfl rfl ⟨Nat.le_of_ble_eq_true rfl, Nat.le_of_ble_eq_true rfl⟩ ⟨Nat.le_of_ble_eq_true rfl, Nat.le_of_ble_eq_true rfl⟩ rfl rfl (Nat.le_of_ble_eq_true rfl) dX8_isFreeNow_5 (fun H locs hW => ?_)
  have hW : WD D A s (w_X8_isFreeNow E h_ h_g h_kept h_past h_path h_pose h_way h_px h_py h_free h_tips h_far h_queue h_times h_turns h_names h_named h_text h_told h_spare s_hasKept s_pasts s_pathMoves s_spot s_thrown o_2.2.1 s_queued s_length s_at s_error s_tolds s_number s_g o_2.2.2.1 o_2.2.2.2.1 o_2.2.2.2.2.1 o_2.2.2.2.2.2) H locs := hW
  have hz := nar_b (ob_gb hf).1
  replace hf := (ob_gb hf).2
  cases hf
  exact hret dX8_isFreeNow_8 hz.1 rfl hW
def w_X8_jointTold (E : Nat → ClassId) (h_ h_g h_kept h_past h_path h_pose h_way h_px h_py h_free h_tips h_far h_queue h_times h_turns h_names h_named h_text h_told h_spare : Nat) (s_hasKept : Int32) (s_pasts : Int32) (s_pathMoves : Int32) (s_spot : Int32) (s_thrown : Int32) (s_faulty : Int32) (s_queued : Int32) (s_length : Int32) (s_at : Int32) (s_error : Int32) (s_tolds : Int32) (s_number : Int32) (s_g : Nat → Int32) (s_pose : Nat → Int32) (s_way : Nat → Int32) (s_px : Nat → Int32) (s_py : Nat → Int32) : va_W := [(h_, .inr (10, [.ref h_g, .ref h_kept, .int s_hasKept, .ref h_past, .int s_pasts, .ref h_path, .int s_pathMoves, .int s_spot, .int s_thrown, .ref h_pose, .ref h_way, .ref h_px, .ref h_py, .int s_faulty, .ref h_free, .ref h_tips, .ref h_far, .ref h_queue, .int s_queued, .ref h_times, .ref h_turns, .ref h_names, .ref h_named, .ref h_text, .int s_length, .int s_at, .int s_error, .ref h_told, .int s_tolds, .int s_number, .ref h_spare])), (h_g, .inl (E 0, 141, .inl s_g)), (h_pose, .inl (E 0, 4, .inl s_pose)), (h_way, .inl (E 0, 4, .inl s_way)), (h_px, .inl (E 0, 5, .inl s_px)), (h_py, .inl (E 0, 5, .inl s_py))]
set_option maxHeartbeats 4000000 in
set_option maxRecDepth 100000 in
theorem c_X8_jointTold (l : Launch) (D : va_G) (E : Nat → ClassId) (tx : List (Nat × String)) (h_ h_g h_kept h_past h_path h_pose h_way h_px h_py h_free h_tips h_far h_queue h_times h_turns h_names h_named h_text h_told h_spare : Nat) (s_hasKept : Int32) (s_pasts : Int32) (s_pathMoves : Int32) (s_spot : Int32) (s_thrown : Int32) (s_faulty : Int32) (s_queued : Int32) (s_length : Int32) (s_at : Int32) (s_error : Int32) (s_tolds : Int32) (s_number : Int32) (s_g : Nat → Int32) (s_pose : Nat → Int32) (s_way : Nat → Int32) (s_px : Nat → Int32) (s_py : Nat → Int32) (x1 : Int32) (x2 : Int32) (r0 : Int32) (hf : f_X8_jointTold s_g s_pose s_way s_px s_py x1 x2 = some r0) : CI l yX8_jointTold cX8_jointTold 3 (some .int) 1 21 D E tx [.ref h_, .int x1, .int x2] (w_X8_jointTold E h_ h_g h_kept h_past h_path h_pose h_way h_px h_py h_free h_tips h_far h_queue h_times h_turns h_names h_named h_text h_told h_spare s_hasKept s_pasts s_pathMoves s_spot s_thrown s_faulty s_queued s_length s_at s_error s_tolds s_number s_g s_pose s_way s_px s_py) (w_X8_jointTold E h_ h_g h_kept h_past h_path h_pose h_way h_px h_py h_free h_tips h_far h_queue h_times h_turns h_names h_named h_text h_told h_spare s_hasKept s_pasts s_pathMoves s_spot s_thrown s_faulty s_queued s_length s_at s_error s_tolds s_number s_g s_pose s_way s_px s_py) r0 := by
  refine CI_of RX8 pn_X8 rfl (Nat.le_of_ble_eq_true rfl) (fun p e s m args below meth c A Q hF hK hA hZ hW hret ls hl => ?_)
  have hx := hF.1
  have hb := hF.2.1
  have hl : lv_has ls 3 [(0, .ref h_), (1, .int x1), (2, .int x2)] := hl
  unfold f_X8_jointTold at hf
  refine lv_iload_n hx hb dX8_jointTold_0 rfl (lv_at hl 2 rfl) ?_
  by_cases c_1_0 : x2 = 0
  · rw [if_pos c_1_0] at hf
    refine lv_tableIn (off := 43) (tgt := 44) hx hb dX8_jointTold_1 (by rw [c_1_0]; decide) (by rw [c_1_0]; decide) (by rw [c_1_0]; rfl) (by decide) ?_
    refine lv_aload_n hx hb dX8_jointTold_44 rfl (lv_at hl 0 rfl) ?_
    refine q_get hF hK hW fl_X8_26 0 rfl rfl dX8_jointTold_45 ?_
    refine lv_iload_n hx hb dX8_jointTold_48 rfl (lv_at hl 1 rfl) ?_
    refine q_iald hx hb hK hW 2 0 rfl rfl dX8_jointTold_49 hf (fun hf => ?_)
    cases hf
    exact hret dX8_jointTold_50 rfl rfl hW
  · rw [if_neg c_1_0] at hf
    by_cases c_1_1 : x2 = 1
    · rw [if_pos c_1_1] at hf
      refine lv_tableIn (off := 50) (tgt := 51) hx hb dX8_jointTold_1 (by rw [c_1_1]; decide) (by rw [c_1_1]; decide) (by rw [c_1_1]; rfl) (by decide) ?_
      refine lv_aload_n hx hb dX8_jointTold_51 rfl (lv_at hl 0 rfl) ?_
      refine lv_iload_n hx hb dX8_jointTold_52 rfl (lv_at hl 1 rfl) ?_
      obtain ⟨o_1, hc_1, hf⟩ := ob_bind hf
      refine q_callI hF hl.1 hK hA hZ hW mv_X8_down ml_X8_124 (c_X8_down l D E tx h_ h_g h_kept h_past h_path h_pose h_way h_px h_py h_free h_tips h_far h_queue h_times h_turns h_names h_named h_text h_told h_spare s_hasKept s_pasts s_pathMoves s_spot s_thrown s_faulty s_queued s_length s_at s_error s_tolds s_number s_g x1 o_1 hc_1) [0, 1] rfl rfl rfl rfl rfl rfl ⟨Nat.le_of_ble_eq_true rfl, Nat.le_of_ble_eq_true rfl⟩ ⟨Nat.le_of_ble_eq_true rfl, Nat.le_of_ble_eq_true rfl⟩ rfl rfl (Nat.le_of_ble_eq_true rfl) dX8_jointTold_53 (fun H locs hW => ?_)
      have hW : WD D A s (w_X8_jointTold E h_ h_g h_kept h_past h_path h_pose h_way h_px h_py h_free h_tips h_far h_queue h_times h_turns h_names h_named h_text h_told h_spare s_hasKept s_pasts s_pathMoves s_spot s_thrown s_faulty s_queued s_length s_at s_error s_tolds s_number s_g s_pose s_way s_px s_py) H locs := hW
      refine lv_ineg hx hb dX8_jointTold_56 ?_
      cases hf
      exact hret dX8_jointTold_57 rfl rfl hW
    · rw [if_neg c_1_1] at hf
      by_cases c_1_2 : x2 = 2
      · rw [if_pos c_1_2] at hf
        refine lv_tableIn (off := 57) (tgt := 58) hx hb dX8_jointTold_1 (by rw [c_1_2]; decide) (by rw [c_1_2]; decide) (by rw [c_1_2]; rfl) (by decide) ?_
        refine lv_aload_n hx hb dX8_jointTold_58 rfl (lv_at hl 0 rfl) ?_
        refine lv_iload_n hx hb dX8_jointTold_59 rfl (lv_at hl 1 rfl) ?_
        obtain ⟨o_2, hc_2, hf⟩ := ob_bind hf
        refine q_callI hF hl.1 hK hA hZ hW mv_X8_up ml_X8_127 (c_X8_up l D E tx h_ h_g h_kept h_past h_path h_pose h_way h_px h_py h_free h_tips h_far h_queue h_times h_turns h_names h_named h_text h_told h_spare s_hasKept s_pasts s_pathMoves s_spot s_thrown s_faulty s_queued s_length s_at s_error s_tolds s_number s_g x1 o_2 hc_2) [0, 1] rfl rfl rfl rfl rfl rfl ⟨Nat.le_of_ble_eq_true rfl, Nat.le_of_ble_eq_true rfl⟩ ⟨Nat.le_of_ble_eq_true rfl, Nat.le_of_ble_eq_true rfl⟩ rfl rfl (Nat.le_of_ble_eq_true rfl) dX8_jointTold_60 (fun H locs hW => ?_)
        have hW : WD D A s (w_X8_jointTold E h_ h_g h_kept h_past h_path h_pose h_way h_px h_py h_free h_tips h_far h_queue h_times h_turns h_names h_named h_text h_told h_spare s_hasKept s_pasts s_pathMoves s_spot s_thrown s_faulty s_queued s_length s_at s_error s_tolds s_number s_g s_pose s_way s_px s_py) H locs := hW
        cases hf
        exact hret dX8_jointTold_63 rfl rfl hW
      · rw [if_neg c_1_2] at hf
        by_cases c_1_3 : x2 = 3
        · rw [if_pos c_1_3] at hf
          refine lv_tableIn (off := 63) (tgt := 64) hx hb dX8_jointTold_1 (by rw [c_1_3]; decide) (by rw [c_1_3]; decide) (by rw [c_1_3]; rfl) (by decide) ?_
          refine lv_aload_n hx hb dX8_jointTold_64 rfl (lv_at hl 0 rfl) ?_
          refine lv_iload_n hx hb dX8_jointTold_65 rfl (lv_at hl 1 rfl) ?_
          obtain ⟨o_3, hc_3, hf⟩ := ob_bind hf
          refine q_callI hF hl.1 hK hA hZ hW mv_X8_lengthOf ml_X8_137 (c_X8_lengthOf l D E tx h_ h_g h_kept h_past h_path h_pose h_way h_px h_py h_free h_tips h_far h_queue h_times h_turns h_names h_named h_text h_told h_spare s_hasKept s_pasts s_pathMoves s_spot s_thrown s_faulty s_queued s_length s_at s_error s_tolds s_number s_g x1 o_3 hc_3) [0, 1] rfl rfl rfl rfl rfl rfl ⟨Nat.le_of_ble_eq_true rfl, Nat.le_of_ble_eq_true rfl⟩ ⟨Nat.le_of_ble_eq_true rfl, Nat.le_of_ble_eq_true rfl⟩ rfl rfl (Nat.le_of_ble_eq_true rfl) dX8_jointTold_66 (fun H locs hW => ?_)
          have hW : WD D A s (w_X8_jointTold E h_ h_g h_kept h_past h_path h_pose h_way h_px h_py h_free h_tips h_far h_queue h_times h_turns h_names h_named h_text h_told h_spare s_hasKept s_pasts s_pathMoves s_spot s_thrown s_faulty s_queued s_length s_at s_error s_tolds s_number s_g s_pose s_way s_px s_py) H locs := hW
          cases hf
          exact hret dX8_jointTold_69 rfl rfl hW
        · rw [if_neg c_1_3] at hf
          by_cases c_1_4 : x2 = 4
          · rw [if_pos c_1_4] at hf
            refine lv_tableIn (off := 69) (tgt := 70) hx hb dX8_jointTold_1 (by rw [c_1_4]; decide) (by rw [c_1_4]; decide) (by rw [c_1_4]; rfl) (by decide) ?_
            refine lv_aload_n hx hb dX8_jointTold_70 rfl (lv_at hl 0 rfl) ?_
            refine q_get hF hK hW fl_X8_29 0 rfl rfl dX8_jointTold_71 ?_
            refine lv_iload_n hx hb dX8_jointTold_74 rfl (lv_at hl 1 rfl) ?_
            refine q_iald hx hb hK hW 3 0 rfl rfl dX8_jointTold_75 hf (fun hf => ?_)
            cases hf
            exact hret dX8_jointTold_76 rfl rfl hW
          · rw [if_neg c_1_4] at hf
            by_cases c_1_5 : x2 = 5
            · rw [if_pos c_1_5] at hf
              refine lv_tableIn (off := 76) (tgt := 77) hx hb dX8_jointTold_1 (by rw [c_1_5]; decide) (by rw [c_1_5]; decide) (by rw [c_1_5]; rfl) (by decide) ?_
              refine lv_aload_n hx hb dX8_jointTold_77 rfl (lv_at hl 0 rfl) ?_
              refine q_get hF hK hW fl_X8_32 0 rfl rfl dX8_jointTold_78 ?_
              refine lv_iload_n hx hb dX8_jointTold_81 rfl (lv_at hl 1 rfl) ?_
              refine q_iald hx hb hK hW 4 0 rfl rfl dX8_jointTold_82 hf (fun hf => ?_)
              cases hf
              exact hret dX8_jointTold_83 rfl rfl hW
            · rw [if_neg c_1_5] at hf
              by_cases c_1_6 : x2 = 6
              · rw [if_pos c_1_6] at hf
                refine lv_tableIn (off := 83) (tgt := 84) hx hb dX8_jointTold_1 (by rw [c_1_6]; decide) (by rw [c_1_6]; decide) (by rw [c_1_6]; rfl) (by decide) ?_
                refine lv_aload_n hx hb dX8_jointTold_84 rfl (lv_at hl 0 rfl) ?_
                refine q_get hF hK hW fl_X8_35 0 rfl rfl dX8_jointTold_85 ?_
                refine lv_iload_n hx hb dX8_jointTold_88 rfl (lv_at hl 1 rfl) ?_
                refine q_iald hx hb hK hW 5 0 rfl rfl dX8_jointTold_89 hf (fun hf => ?_)
                cases hf
                exact hret dX8_jointTold_90 rfl rfl hW
              · rw [if_neg c_1_6] at hf
                refine lv_tableOut (tgt := 91) hx hb dX8_jointTold_1 (tab_out [(0, 0), (1, 1), (2, 2), (3, 3), (4, 4), (5, 5), (6, 6)] (by decide) (List.forall_mem_cons.mpr ⟨c_1_0, List.forall_mem_cons.mpr ⟨c_1_1, List.forall_mem_cons.mpr ⟨c_1_2, List.forall_mem_cons.mpr ⟨c_1_3, List.forall_mem_cons.mpr ⟨c_1_4, List.forall_mem_cons.mpr ⟨c_1_5, List.forall_mem_cons.mpr ⟨c_1_6, (fun _ h => nomatch h)⟩⟩⟩⟩⟩⟩⟩) (by decide)) (by decide) ?_
                refine lv_aload_n hx hb dX8_jointTold_91 rfl (lv_at hl 0 rfl) ?_
                refine q_get hF hK hW fl_X8_26 0 rfl rfl dX8_jointTold_92 ?_
                refine lv_iload_n hx hb dX8_jointTold_95 rfl (lv_at hl 1 rfl) ?_
                refine q_iald hx hb hK hW 2 0 rfl rfl dX8_jointTold_96 hf (fun hf => ?_)
                refine lv_bipush (v := 7) hx hb dX8_jointTold_97 (by decide) ?_
                refine lv_iand hx hb dX8_jointTold_99 ?_
                cases hf
                exact hret dX8_jointTold_100 rfl rfl hW
def w_X8_joint (E : Nat → ClassId) (h_ h_g h_kept h_past h_path h_pose h_way h_px h_py h_free h_tips h_far h_queue h_times h_turns h_names h_named h_text h_told h_spare : Nat) (s_hasKept : Int32) (s_pasts : Int32) (s_pathMoves : Int32) (s_spot : Int32) (s_thrown : Int32) (s_faulty : Int32) (s_queued : Int32) (s_length : Int32) (s_at : Int32) (s_error : Int32) (s_tolds : Int32) (s_number : Int32) (s_g : Nat → Int32) (s_pose : Nat → Int32) (s_way : Nat → Int32) (s_px : Nat → Int32) (s_py : Nat → Int32) : va_W := [(h_, .inr (10, [.ref h_g, .ref h_kept, .int s_hasKept, .ref h_past, .int s_pasts, .ref h_path, .int s_pathMoves, .int s_spot, .int s_thrown, .ref h_pose, .ref h_way, .ref h_px, .ref h_py, .int s_faulty, .ref h_free, .ref h_tips, .ref h_far, .ref h_queue, .int s_queued, .ref h_times, .ref h_turns, .ref h_names, .ref h_named, .ref h_text, .int s_length, .int s_at, .int s_error, .ref h_told, .int s_tolds, .int s_number, .ref h_spare])), (h_g, .inl (E 0, 141, .inl s_g)), (h_pose, .inl (E 0, 4, .inl s_pose)), (h_way, .inl (E 0, 4, .inl s_way)), (h_px, .inl (E 0, 5, .inl s_px)), (h_py, .inl (E 0, 5, .inl s_py))]
set_option maxHeartbeats 4000000 in
set_option maxRecDepth 100000 in
theorem c_X8_joint (l : Launch) (D : va_G) (E : Nat → ClassId) (tx : List (Nat × String)) (h_ h_g h_kept h_past h_path h_pose h_way h_px h_py h_free h_tips h_far h_queue h_times h_turns h_names h_named h_text h_told h_spare : Nat) (s_hasKept : Int32) (s_pasts : Int32) (s_pathMoves : Int32) (s_spot : Int32) (s_thrown : Int32) (s_faulty : Int32) (s_queued : Int32) (s_length : Int32) (s_at : Int32) (s_error : Int32) (s_tolds : Int32) (s_number : Int32) (s_g : Nat → Int32) (s_pose : Nat → Int32) (s_way : Nat → Int32) (s_px : Nat → Int32) (s_py : Nat → Int32) (x1 : Int32) (x2 : Int32) (r0 : Int32) (r1 : Int32) (r2 : Nat → Int32) (r3 : Nat → Int32) (r4 : Nat → Int32) (r5 : Nat → Int32) (hf : f_X8_joint s_thrown s_g s_pose s_way s_px s_py x1 x2 = some (r0, r1, r2, r3, r4, r5)) : CI l yX8_joint cX8_joint 3 (some .int) 3 64 D E tx [.ref h_, .int x1, .int x2] (w_X8_joint E h_ h_g h_kept h_past h_path h_pose h_way h_px h_py h_free h_tips h_far h_queue h_times h_turns h_names h_named h_text h_told h_spare s_hasKept s_pasts s_pathMoves s_spot s_thrown s_faulty s_queued s_length s_at s_error s_tolds s_number s_g s_pose s_way s_px s_py) (w_X8_joint E h_ h_g h_kept h_past h_path h_pose h_way h_px h_py h_free h_tips h_far h_queue h_times h_turns h_names h_named h_text h_told h_spare s_hasKept s_pasts s_pathMoves s_spot r1 s_faulty s_queued s_length s_at s_error s_tolds s_number s_g r2 r3 r4 r5) r0 := by
  refine CI_of RX8 pn_X8 rfl (Nat.le_of_ble_eq_true rfl) (fun p e s m args below meth c A Q hF hK hA hZ hW hret ls hl => ?_)
  have hx := hF.1
  have hb := hF.2.1
  have hl : lv_has ls 3 [(0, .ref h_), (1, .int x1), (2, .int x2)] := hl
  unfold f_X8_joint at hf
  have hL28 : ∀ (s_thrown_28 : Int32) (s_pose_28 : Nat → Int32) (s_way_28 : Nat → Int32) (s_px_28 : Nat → Int32) (s_py_28 : Nat → Int32) (y1_28 : Int32) (y2_28 : Int32) (k1_28 : Int32) (H : Heap) (locs : List Loc) (ls : Array Slot), f_X8_joint_L28 s_thrown_28 s_g s_pose_28 s_way_28 s_px_28 s_py_28 y1_28 y2_28 k1_28 = some (r0, r1, r2, r3, r4, r5) → lv_has ls 3 [(0, .ref h_), (1, .int y1_28), (2, .int y2_28)] → WD D A s (w_X8_joint E h_ h_g h_kept h_past h_path h_pose h_way h_px h_py h_free h_tips h_far h_queue h_times h_turns h_names h_named h_text h_told h_spare s_hasKept s_pasts s_pathMoves s_spot s_thrown_28 s_faulty s_queued s_length s_at s_error s_tolds s_number s_g s_pose_28 s_way_28 s_px_28 s_py_28) H locs → W p l e (RM 3 64) s m args below meth c H locs 0 0 Q (F0 m 28 ls [.int k1_28, .ref h_]) := by
    intro s_thrown_28 s_pose_28 s_way_28 s_px_28 s_py_28 y1_28 y2_28 k1_28 H locs ls hf hl hW
    unfold f_X8_joint_L28 at hf
    refine q_put hF hK hW fl_X8_76 ft_X8 rfl 0 rfl rfl rfl (Nat.le_of_ble_eq_true rfl) dX8_joint_28 (fun H locs hW => ?_)
    have hW : WD D A s (w_X8_joint E h_ h_g h_kept h_past h_path h_pose h_way h_px h_py h_free h_tips h_far h_queue h_times h_turns h_names h_named h_text h_told h_spare s_hasKept s_pasts s_pathMoves s_spot k1_28 s_faulty s_queued s_length s_at s_error s_tolds s_number s_g s_pose_28 s_way_28 s_px_28 s_py_28) H locs := hW
    refine lv_aload_n hx hb dX8_joint_31 rfl (lv_at hl 0 rfl) ?_
    refine q_get hF hK hW fl_X8_76 0 rfl rfl dX8_joint_32 ?_
    refine q_if_le (tgt := 40) hx hb dX8_joint_35 (by decide) hf (fun hf => ?_) (fun hf => ?_)
    · refine lv_aload_n hx hb dX8_joint_40 rfl (lv_at hl 0 rfl) ?_
      obtain ⟨o_1, hc_1, hf⟩ := ob_bind hf
      refine q_callV hF hl.1 hK hA hZ hW mv_X8_now ml_X8_187 (c_X8_now l D E tx h_ h_g h_kept h_past h_path h_pose h_way h_px h_py h_free h_tips h_far h_queue h_times h_turns h_names h_named h_text h_told h_spare s_hasKept s_pasts s_pathMoves s_spot k1_28 s_faulty s_queued s_length s_at s_error s_tolds s_number s_g s_pose_28 s_way_28 s_px_28 s_py_28 o_1.1 o_1.2.1 o_1.2.2.1 o_1.2.2.2 hc_1) [0, 1, 2, 3, 4, 5] rfl rfl rfl rfl rfl rfl ⟨Nat.le_of_ble_eq_true rfl, Nat.le_of_ble_eq_true rfl⟩ ⟨Nat.le_of_ble_eq_true rfl, Nat.le_of_ble_eq_true rfl⟩ rfl rfl (Nat.le_of_ble_eq_true rfl) dX8_joint_41 (fun H locs hW => ?_)
      have hW : WD D A s (w_X8_joint E h_ h_g h_kept h_past h_path h_pose h_way h_px h_py h_free h_tips h_far h_queue h_times h_turns h_names h_named h_text h_told h_spare s_hasKept s_pasts s_pathMoves s_spot k1_28 s_faulty s_queued s_length s_at s_error s_tolds s_number s_g o_1.1 o_1.2.1 o_1.2.2.1 o_1.2.2.2) H locs := hW
      refine lv_aload_n hx hb dX8_joint_44 rfl (lv_at hl 0 rfl) ?_
      refine lv_iload_n hx hb dX8_joint_45 rfl (lv_at hl 1 rfl) ?_
      refine lv_iload_n hx hb dX8_joint_46 rfl (lv_at hl 2 rfl) ?_
      obtain ⟨o_2, hc_2, hf⟩ := ob_bind hf
      refine q_callI hF hl.1 hK hA hZ hW mv_X8_jointTold ml_X8_190 (c_X8_jointTold l D E tx h_ h_g h_kept h_past h_path h_pose h_way h_px h_py h_free h_tips h_far h_queue h_times h_turns h_names h_named h_text h_told h_spare s_hasKept s_pasts s_pathMoves s_spot k1_28 s_faulty s_queued s_length s_at s_error s_tolds s_number s_g o_1.1 o_1.2.1 o_1.2.2.1 o_1.2.2.2 y1_28 y2_28 o_2 hc_2) [0, 1, 2, 3, 4, 5] rfl rfl rfl rfl rfl rfl ⟨Nat.le_of_ble_eq_true rfl, Nat.le_of_ble_eq_true rfl⟩ ⟨Nat.le_of_ble_eq_true rfl, Nat.le_of_ble_eq_true rfl⟩ rfl rfl (Nat.le_of_ble_eq_true rfl) dX8_joint_47 (fun H locs hW => ?_)
      have hW : WD D A s (w_X8_joint E h_ h_g h_kept h_past h_path h_pose h_way h_px h_py h_free h_tips h_far h_queue h_times h_turns h_names h_named h_text h_told h_spare s_hasKept s_pasts s_pathMoves s_spot k1_28 s_faulty s_queued s_length s_at s_error s_tolds s_number s_g o_1.1 o_1.2.1 o_1.2.2.1 o_1.2.2.2) H locs := hW
      cases hf
      exact hret dX8_joint_50 rfl rfl hW
    · refine lv_iconst (v := 0) hx hb dX8_joint_38 (by decide) ?_
      cases hf
      exact hret dX8_joint_39 rfl rfl hW
  refine lv_aload_n hx hb dX8_joint_0 rfl (lv_at hl 0 rfl) ?_
  refine lv_aload_n hx hb dX8_joint_1 rfl (lv_at hl 0 rfl) ?_
  refine lv_iload_n hx hb dX8_joint_2 rfl (lv_at hl 1 rfl) ?_
  obtain ⟨o_3, hc_3, hf⟩ := ob_bind hf
  refine q_callI hF hl.1 hK hA hZ hW mv_X8_isJoint ml_X8_105 (c_X8_isJoint l D E tx h_ h_g h_kept h_past h_path h_pose h_way h_px h_py h_free h_tips h_far h_queue h_times h_turns h_names h_named h_text h_told h_spare s_hasKept s_pasts s_pathMoves s_spot s_thrown s_faulty s_queued s_length s_at s_error s_tolds s_number s_g x1 o_3 hc_3) [0, 1] rfl rfl rfl rfl rfl rfl ⟨Nat.le_of_ble_eq_true rfl, Nat.le_of_ble_eq_true rfl⟩ ⟨Nat.le_of_ble_eq_true rfl, Nat.le_of_ble_eq_true rfl⟩ rfl rfl (Nat.le_of_ble_eq_true rfl) dX8_joint_3 (fun H locs hW => ?_)
  have hW : WD D A s (w_X8_joint E h_ h_g h_kept h_past h_path h_pose h_way h_px h_py h_free h_tips h_far h_queue h_times h_turns h_names h_named h_text h_told h_spare s_hasKept s_pasts s_pathMoves s_spot s_thrown s_faulty s_queued s_length s_at s_error s_tolds s_number s_g s_pose s_way s_px s_py) H locs := hW
  refine q_if_eq (tgt := 27) hx hb dX8_joint_6 (by decide) hf (fun hf => ?_) (fun hf => ?_)
  · refine lv_iconst (v := 1) hx hb dX8_joint_27 (by decide) ?_
    exact hL28 s_thrown s_pose s_way s_px s_py x1 x2 1 _ _ _ hf (lv_sub hl [0, 1, 2] rfl) hW
  · refine lv_iload_n hx hb dX8_joint_9 rfl (lv_at hl 2 rfl) ?_
    refine lv_iconst (v := 0) hx hb dX8_joint_10 (by decide) ?_
    refine lv_bipush (v := 7) hx hb dX8_joint_11 (by decide) ?_
    obtain ⟨o_4, hc_4, hf⟩ := ob_bind hf
    refine q_callSI hF hl.1 hK hA hZ hW ms_X8_in ml_X8_79 (c_X8_in l D E tx x2 0 7 o_4 hc_4) [] rfl rfl rfl ⟨Nat.le_of_ble_eq_true rfl, Nat.le_of_ble_eq_true rfl⟩ ⟨Nat.le_of_ble_eq_true rfl, Nat.le_of_ble_eq_true rfl⟩ rfl rfl (Nat.le_of_ble_eq_true rfl) dX8_joint_13 (fun H locs hW => ?_)
    have hW : WD D A s (w_X8_joint E h_ h_g h_kept h_past h_path h_pose h_way h_px h_py h_free h_tips h_far h_queue h_times h_turns h_names h_named h_text h_told h_spare s_hasKept s_pasts s_pathMoves s_spot s_thrown s_faulty s_queued s_length s_at s_error s_tolds s_number s_g s_pose s_way s_px s_py) H locs := hW
    refine q_if_eq (tgt := 23) hx hb dX8_joint_16 (by decide) hf (fun hf => ?_) (fun hf => ?_)
    · refine lv_iconst (v := 2) hx hb dX8_joint_23 (by decide) ?_
      refine lv_goto (tgt := 28) hx hb dX8_joint_24 (by decide) ?_
      exact hL28 s_thrown s_pose s_way s_px s_py x1 x2 2 _ _ _ hf (lv_sub hl [0, 1, 2] rfl) hW
    · refine lv_iconst (v := 0) hx hb dX8_joint_19 (by decide) ?_
      refine lv_goto (tgt := 28) hx hb dX8_joint_20 (by decide) ?_
      exact hL28 s_thrown s_pose s_way s_px s_py x1 x2 0 _ _ _ hf (lv_sub hl [0, 1, 2] rfl) hW
def w_X8_isObstacle (E : Nat → ClassId) (h_ h_g h_kept h_past h_path h_pose h_way h_px h_py h_free h_tips h_far h_queue h_times h_turns h_names h_named h_text h_told h_spare : Nat) (s_hasKept : Int32) (s_pasts : Int32) (s_pathMoves : Int32) (s_spot : Int32) (s_thrown : Int32) (s_faulty : Int32) (s_queued : Int32) (s_length : Int32) (s_at : Int32) (s_error : Int32) (s_tolds : Int32) (s_number : Int32) (s_g : Nat → Int32) : va_W := [(h_, .inr (10, [.ref h_g, .ref h_kept, .int s_hasKept, .ref h_past, .int s_pasts, .ref h_path, .int s_pathMoves, .int s_spot, .int s_thrown, .ref h_pose, .ref h_way, .ref h_px, .ref h_py, .int s_faulty, .ref h_free, .ref h_tips, .ref h_far, .ref h_queue, .int s_queued, .ref h_times, .ref h_turns, .ref h_names, .ref h_named, .ref h_text, .int s_length, .int s_at, .int s_error, .ref h_told, .int s_tolds, .int s_number, .ref h_spare])), (h_g, .inl (E 0, 141, .inl s_g))]
set_option maxHeartbeats 4000000 in
set_option maxRecDepth 100000 in
theorem c_X8_isObstacle (l : Launch) (D : va_G) (E : Nat → ClassId) (tx : List (Nat × String)) (h_ h_g h_kept h_past h_path h_pose h_way h_px h_py h_free h_tips h_far h_queue h_times h_turns h_names h_named h_text h_told h_spare : Nat) (s_hasKept : Int32) (s_pasts : Int32) (s_pathMoves : Int32) (s_spot : Int32) (s_thrown : Int32) (s_faulty : Int32) (s_queued : Int32) (s_length : Int32) (s_at : Int32) (s_error : Int32) (s_tolds : Int32) (s_number : Int32) (s_g : Nat → Int32) (x1 : Int32) (x2 : Int32) (r0 : Int32) (r1 : Int32) (hf : f_X8_isObstacle s_thrown s_g x1 x2 = some (r0, r1)) : CI l yX8_isObstacle cX8_isObstacle 3 (some .boolean) 2 43 D E tx [.ref h_, .int x1, .int x2] (w_X8_isObstacle E h_ h_g h_kept h_past h_path h_pose h_way h_px h_py h_free h_tips h_far h_queue h_times h_turns h_names h_named h_text h_told h_spare s_hasKept s_pasts s_pathMoves s_spot s_thrown s_faulty s_queued s_length s_at s_error s_tolds s_number s_g) (w_X8_isObstacle E h_ h_g h_kept h_past h_path h_pose h_way h_px h_py h_free h_tips h_far h_queue h_times h_turns h_names h_named h_text h_told h_spare s_hasKept s_pasts s_pathMoves s_spot r1 s_faulty s_queued s_length s_at s_error s_tolds s_number s_g) r0 := by
  refine CI_of RX8 pn_X8 rfl (Nat.le_of_ble_eq_true rfl) (fun p e s m args below meth c A Q hF hK hA hZ hW hret ls hl => ?_)
  have hx := hF.1
  have hb := hF.2.1
  have hl : lv_has ls 3 [(0, .ref h_), (1, .int x1), (2, .int x2)] := hl
  unfold f_X8_isObstacle at hf
  have hL14 : ∀ (s_thrown_14 : Int32) (y1_14 : Int32) (y2_14 : Int32) (k1_14 : Int32) (H : Heap) (locs : List Loc) (ls : Array Slot), f_X8_isObstacle_L14 s_thrown_14 s_g y1_14 y2_14 k1_14 = some (r0, r1) → lv_has ls 3 [(0, .ref h_), (1, .int y1_14), (2, .int y2_14)] → WD D A s (w_X8_isObstacle E h_ h_g h_kept h_past h_path h_pose h_way h_px h_py h_free h_tips h_far h_queue h_times h_turns h_names h_named h_text h_told h_spare s_hasKept s_pasts s_pathMoves s_spot s_thrown_14 s_faulty s_queued s_length s_at s_error s_tolds s_number s_g) H locs → W p l e (RM 2 43) s m args below meth c H locs 0 0 Q (F0 m 14 ls [.int k1_14, .ref h_]) := by
    intro s_thrown_14 y1_14 y2_14 k1_14 H locs ls hf hl hW
    unfold f_X8_isObstacle_L14 at hf
    refine q_put hF hK hW fl_X8_76 ft_X8 rfl 0 rfl rfl rfl (Nat.le_of_ble_eq_true rfl) dX8_isObstacle_14 (fun H locs hW => ?_)
    have hW : WD D A s (w_X8_isObstacle E h_ h_g h_kept h_past h_path h_pose h_way h_px h_py h_free h_tips h_far h_queue h_times h_turns h_names h_named h_text h_told h_spare s_hasKept s_pasts s_pathMoves s_spot k1_14 s_faulty s_queued s_length s_at s_error s_tolds s_number s_g) H locs := hW
    refine lv_aload_n hx hb dX8_isObstacle_17 rfl (lv_at hl 0 rfl) ?_
    refine q_get hF hK hW fl_X8_76 0 rfl rfl dX8_isObstacle_18 ?_
    refine q_if_ne (tgt := 37) hx hb dX8_isObstacle_21 (by decide) hf (fun hf => ?_) (fun hf => ?_)
    · refine lv_iconst (v := 0) hx hb dX8_isObstacle_37 (by decide) ?_
      cases hf
      exact hret dX8_isObstacle_38 rfl rfl hW
    · refine lv_aload_n hx hb dX8_isObstacle_24 rfl (lv_at hl 0 rfl) ?_
      refine lv_iload_n hx hb dX8_isObstacle_25 rfl (lv_at hl 1 rfl) ?_
      refine lv_iload_n hx hb dX8_isObstacle_26 rfl (lv_at hl 2 rfl) ?_
      obtain ⟨o_1, hc_1, hf⟩ := ob_bind hf
      refine q_callI hF hl.1 hK hA hZ hW mv_X8_stoneAt ml_X8_113 (c_X8_stoneAt l D E tx h_ h_g h_kept h_past h_path h_pose h_way h_px h_py h_free h_tips h_far h_queue h_times h_turns h_names h_named h_text h_told h_spare s_hasKept s_pasts s_pathMoves s_spot k1_14 s_faulty s_queued s_length s_at s_error s_tolds s_number s_g y1_14 y2_14 o_1 hc_1) [0, 1] rfl rfl rfl rfl rfl rfl ⟨Nat.le_of_ble_eq_true rfl, Nat.le_of_ble_eq_true rfl⟩ ⟨Nat.le_of_ble_eq_true rfl, Nat.le_of_ble_eq_true rfl⟩ rfl rfl (Nat.le_of_ble_eq_true rfl) dX8_isObstacle_27 (fun H locs hW => ?_)
      have hW : WD D A s (w_X8_isObstacle E h_ h_g h_kept h_past h_path h_pose h_way h_px h_py h_free h_tips h_far h_queue h_times h_turns h_names h_named h_text h_told h_spare s_hasKept s_pasts s_pathMoves s_spot k1_14 s_faulty s_queued s_length s_at s_error s_tolds s_number s_g) H locs := hW
      refine q_if_lt (tgt := 37) hx hb dX8_isObstacle_30 (by decide) hf (fun hf => ?_) (fun hf => ?_)
      · refine lv_iconst (v := 0) hx hb dX8_isObstacle_37 (by decide) ?_
        cases hf
        exact hret dX8_isObstacle_38 rfl rfl hW
      · refine lv_iconst (v := 1) hx hb dX8_isObstacle_33 (by decide) ?_
        refine lv_goto (tgt := 38) hx hb dX8_isObstacle_34 (by decide) ?_
        cases hf
        exact hret dX8_isObstacle_38 rfl rfl hW
  refine lv_aload_n hx hb dX8_isObstacle_0 rfl (lv_at hl 0 rfl) ?_
  refine lv_iload_n hx hb dX8_isObstacle_1 rfl (lv_at hl 1 rfl) ?_
  refine lv_iload_n hx hb dX8_isObstacle_2 rfl (lv_at hl 2 rfl) ?_
  obtain ⟨o_2, hc_2, hf⟩ := ob_bind hf
  refine q_callSI hF hl.1 hK hA hZ hW ms_X8_isCell ml_X8_109 (c_X8_isCell l D E tx x1 x2 o_2 hc_2) [] rfl rfl rfl ⟨Nat.le_of_ble_eq_true rfl, Nat.le_of_ble_eq_true rfl⟩ ⟨Nat.le_of_ble_eq_true rfl, Nat.le_of_ble_eq_true rfl⟩ rfl rfl (Nat.le_of_ble_eq_true rfl) dX8_isObstacle_3 (fun H locs hW => ?_)
  have hW : WD D A s (w_X8_isObstacle E h_ h_g h_kept h_past h_path h_pose h_way h_px h_py h_free h_tips h_far h_queue h_times h_turns h_names h_named h_text h_told h_spare s_hasKept s_pasts s_pathMoves s_spot s_thrown s_faulty s_queued s_length s_at s_error s_tolds s_number s_g) H locs := hW
  refine q_if_eq (tgt := 13) hx hb dX8_isObstacle_6 (by decide) hf (fun hf => ?_) (fun hf => ?_)
  · refine lv_iconst (v := 1) hx hb dX8_isObstacle_13 (by decide) ?_
    exact hL14 s_thrown x1 x2 1 _ _ _ hf (lv_sub hl [0, 1, 2] rfl) hW
  · refine lv_iconst (v := 0) hx hb dX8_isObstacle_9 (by decide) ?_
    refine lv_goto (tgt := 14) hx hb dX8_isObstacle_10 (by decide) ?_
    exact hL14 s_thrown x1 x2 0 _ _ _ hf (lv_sub hl [0, 1, 2] rfl) hW
def w_X8_obstacle (E : Nat → ClassId) (h_ h_g h_kept h_past h_path h_pose h_way h_px h_py h_free h_tips h_far h_queue h_times h_turns h_names h_named h_text h_told h_spare : Nat) (s_hasKept : Int32) (s_pasts : Int32) (s_pathMoves : Int32) (s_spot : Int32) (s_thrown : Int32) (s_faulty : Int32) (s_queued : Int32) (s_length : Int32) (s_at : Int32) (s_error : Int32) (s_tolds : Int32) (s_number : Int32) (s_g : Nat → Int32) : va_W := [(h_, .inr (10, [.ref h_g, .ref h_kept, .int s_hasKept, .ref h_past, .int s_pasts, .ref h_path, .int s_pathMoves, .int s_spot, .int s_thrown, .ref h_pose, .ref h_way, .ref h_px, .ref h_py, .int s_faulty, .ref h_free, .ref h_tips, .ref h_far, .ref h_queue, .int s_queued, .ref h_times, .ref h_turns, .ref h_names, .ref h_named, .ref h_text, .int s_length, .int s_at, .int s_error, .ref h_told, .int s_tolds, .int s_number, .ref h_spare])), (h_g, .inl (E 0, 141, .inl s_g))]
set_option maxHeartbeats 4000000 in
set_option maxRecDepth 100000 in
theorem c_X8_obstacle (l : Launch) (D : va_G) (E : Nat → ClassId) (tx : List (Nat × String)) (h_ h_g h_kept h_past h_path h_pose h_way h_px h_py h_free h_tips h_far h_queue h_times h_turns h_names h_named h_text h_told h_spare : Nat) (s_hasKept : Int32) (s_pasts : Int32) (s_pathMoves : Int32) (s_spot : Int32) (s_thrown : Int32) (s_faulty : Int32) (s_queued : Int32) (s_length : Int32) (s_at : Int32) (s_error : Int32) (s_tolds : Int32) (s_number : Int32) (s_g : Nat → Int32) (x1 : Int32) (x2 : Int32) (r0 : Int32) (r1 : Int32) (hf : f_X8_obstacle s_thrown s_g x1 x2 = some (r0, r1)) : CI l yX8_obstacle cX8_obstacle 3 (some .int) 1 22 D E tx [.ref h_, .int x1, .int x2] (w_X8_obstacle E h_ h_g h_kept h_past h_path h_pose h_way h_px h_py h_free h_tips h_far h_queue h_times h_turns h_names h_named h_text h_told h_spare s_hasKept s_pasts s_pathMoves s_spot s_thrown s_faulty s_queued s_length s_at s_error s_tolds s_number s_g) (w_X8_obstacle E h_ h_g h_kept h_past h_path h_pose h_way h_px h_py h_free h_tips h_far h_queue h_times h_turns h_names h_named h_text h_told h_spare s_hasKept s_pasts s_pathMoves s_spot r1 s_faulty s_queued s_length s_at s_error s_tolds s_number s_g) r0 := by
  refine CI_of RX8 pn_X8 rfl (Nat.le_of_ble_eq_true rfl) (fun p e s m args below meth c A Q hF hK hA hZ hW hret ls hl => ?_)
  have hx := hF.1
  have hb := hF.2.1
  have hl : lv_has ls 3 [(0, .ref h_), (1, .int x1), (2, .int x2)] := hl
  unfold f_X8_obstacle at hf
  have hL56 : ∀ (s_thrown_56 : Int32) (k1_56 : Int32) (k2_56 : Int32) (H : Heap) (locs : List Loc) (ls : Array Slot), f_X8_obstacle_L56 s_thrown_56 s_g k1_56 k2_56 = some (r0, r1) → lv_has ls 3 [] → WD D A s (w_X8_obstacle E h_ h_g h_kept h_past h_path h_pose h_way h_px h_py h_free h_tips h_far h_queue h_times h_turns h_names h_named h_text h_told h_spare s_hasKept s_pasts s_pathMoves s_spot s_thrown_56 s_faulty s_queued s_length s_at s_error s_tolds s_number s_g) H locs → W p l e (RM 1 22) s m args below meth c H locs 0 0 Q (F0 m 56 ls [.int k2_56, .int k1_56, .ref h_g]) := by
    intro s_thrown_56 k1_56 k2_56 H locs ls hf hl hW
    unfold f_X8_obstacle_L56 at hf
    refine lv_iadd hx hb dX8_obstacle_56 ?_
    refine q_iald hx hb hK hW 1 0 rfl rfl dX8_obstacle_57 hf (fun hf => ?_)
    cases hf
    exact hret dX8_obstacle_58 rfl rfl hW
  have hL23 : ∀ (s_thrown_23 : Int32) (y1_23 : Int32) (y2_23 : Int32) (k1_23 : Int32) (H : Heap) (locs : List Loc) (ls : Array Slot), f_X8_obstacle_L23 s_thrown_23 s_g y1_23 y2_23 k1_23 = some (r0, r1) → lv_has ls 3 [(0, .ref h_), (1, .int y1_23), (2, .int y2_23)] → WD D A s (w_X8_obstacle E h_ h_g h_kept h_past h_path h_pose h_way h_px h_py h_free h_tips h_far h_queue h_times h_turns h_names h_named h_text h_told h_spare s_hasKept s_pasts s_pathMoves s_spot s_thrown_23 s_faulty s_queued s_length s_at s_error s_tolds s_number s_g) H locs → W p l e (RM 1 22) s m args below meth c H locs 0 0 Q (F0 m 23 ls [.int k1_23, .ref h_]) := by
    intro s_thrown_23 y1_23 y2_23 k1_23 H locs ls hf hl hW
    unfold f_X8_obstacle_L23 at hf
    refine q_put hF hK hW fl_X8_76 ft_X8 rfl 0 rfl rfl rfl (Nat.le_of_ble_eq_true rfl) dX8_obstacle_23 (fun H locs hW => ?_)
    have hW : WD D A s (w_X8_obstacle E h_ h_g h_kept h_past h_path h_pose h_way h_px h_py h_free h_tips h_far h_queue h_times h_turns h_names h_named h_text h_told h_spare s_hasKept s_pasts s_pathMoves s_spot k1_23 s_faulty s_queued s_length s_at s_error s_tolds s_number s_g) H locs := hW
    refine lv_aload_n hx hb dX8_obstacle_26 rfl (lv_at hl 0 rfl) ?_
    refine q_get hF hK hW fl_X8_76 0 rfl rfl dX8_obstacle_27 ?_
    refine q_if_le (tgt := 37) hx hb dX8_obstacle_30 (by decide) hf (fun hf => ?_) (fun hf => ?_)
    · refine lv_aload_n hx hb dX8_obstacle_37 rfl (lv_at hl 0 rfl) ?_
      refine q_get hF hK hW fl_X8_7 0 rfl rfl dX8_obstacle_38 ?_
      refine lv_bipush (v := 21) hx hb dX8_obstacle_41 (by decide) ?_
      refine lv_iconst (v := 2) hx hb dX8_obstacle_43 (by decide) ?_
      refine lv_iload_n hx hb dX8_obstacle_44 rfl (lv_at hl 1 rfl) ?_
      refine lv_imul hx hb dX8_obstacle_45 ?_
      refine lv_iadd hx hb dX8_obstacle_46 ?_
      refine lv_iload_n hx hb dX8_obstacle_47 rfl (lv_at hl 2 rfl) ?_
      refine q_if_eq (tgt := 55) hx hb dX8_obstacle_48 (by decide) hf (fun hf => ?_) (fun hf => ?_)
      · refine lv_iconst (v := 0) hx hb dX8_obstacle_55 (by decide) ?_
        exact hL56 k1_23 (21 + (2 * y1_23)) 0 _ _ _ hf (lv_sub hl [] rfl) hW
      · refine lv_iconst (v := 1) hx hb dX8_obstacle_51 (by decide) ?_
        refine lv_goto (tgt := 56) hx hb dX8_obstacle_52 (by decide) ?_
        exact hL56 k1_23 (21 + (2 * y1_23)) 1 _ _ _ hf (lv_sub hl [] rfl) hW
    · refine lv_iconst (v := 0) hx hb dX8_obstacle_33 (by decide) ?_
      refine lv_goto (tgt := 58) hx hb dX8_obstacle_34 (by decide) ?_
      cases hf
      exact hret dX8_obstacle_58 rfl rfl hW
  refine lv_aload_n hx hb dX8_obstacle_0 rfl (lv_at hl 0 rfl) ?_
  refine lv_iload_n hx hb dX8_obstacle_1 rfl (lv_at hl 1 rfl) ?_
  refine lv_iconst (v := 0) hx hb dX8_obstacle_2 (by decide) ?_
  refine lv_aload_n hx hb dX8_obstacle_3 rfl (lv_at hl 0 rfl) ?_
  refine q_get hF hK hW fl_X8_7 0 rfl rfl dX8_obstacle_4 ?_
  refine lv_bipush (v := 20) hx hb dX8_obstacle_7 (by decide) ?_
  refine q_iald hx hb hK hW 1 0 rfl rfl dX8_obstacle_9 hf (fun hf => ?_)
  refine lv_iconst (v := 1) hx hb dX8_obstacle_10 (by decide) ?_
  refine lv_isub hx hb dX8_obstacle_11 ?_
  obtain ⟨o_1, hc_1, hf⟩ := ob_bind hf
  refine q_callSI hF hl.1 hK hA hZ hW ms_X8_in ml_X8_79 (c_X8_in l D E tx x1 0 ((s_g (20 : Int32).toNatClampNeg) - 1) o_1 hc_1) [] rfl rfl rfl ⟨Nat.le_of_ble_eq_true rfl, Nat.le_of_ble_eq_true rfl⟩ ⟨Nat.le_of_ble_eq_true rfl, Nat.le_of_ble_eq_true rfl⟩ rfl rfl (Nat.le_of_ble_eq_true rfl) dX8_obstacle_12 (fun H locs hW => ?_)
  have hW : WD D A s (w_X8_obstacle E h_ h_g h_kept h_past h_path h_pose h_way h_px h_py h_free h_tips h_far h_queue h_times h_turns h_names h_named h_text h_told h_spare s_hasKept s_pasts s_pathMoves s_spot s_thrown s_faulty s_queued s_length s_at s_error s_tolds s_number s_g) H locs := hW
  refine q_if_eq (tgt := 22) hx hb dX8_obstacle_15 (by decide) hf (fun hf => ?_) (fun hf => ?_)
  · refine lv_iconst (v := 1) hx hb dX8_obstacle_22 (by decide) ?_
    exact hL23 s_thrown x1 x2 1 _ _ _ hf (lv_sub hl [0, 1, 2] rfl) hW
  · refine lv_iconst (v := 0) hx hb dX8_obstacle_18 (by decide) ?_
    refine lv_goto (tgt := 23) hx hb dX8_obstacle_19 (by decide) ?_
    exact hL23 s_thrown x1 x2 0 _ _ _ hf (lv_sub hl [0, 1, 2] rfl) hW
def w_X8_setValue (E : Nat → ClassId) (h_ h_g h_kept h_past h_path h_pose h_way h_px h_py h_free h_tips h_far h_queue h_times h_turns h_names h_named h_text h_told h_spare : Nat) (s_hasKept : Int32) (s_pasts : Int32) (s_pathMoves : Int32) (s_spot : Int32) (s_thrown : Int32) (s_faulty : Int32) (s_queued : Int32) (s_length : Int32) (s_at : Int32) (s_error : Int32) (s_tolds : Int32) (s_number : Int32) (s_g : Nat → Int32) (s_past : Nat → Int32) : va_W := [(h_, .inr (10, [.ref h_g, .ref h_kept, .int s_hasKept, .ref h_past, .int s_pasts, .ref h_path, .int s_pathMoves, .int s_spot, .int s_thrown, .ref h_pose, .ref h_way, .ref h_px, .ref h_py, .int s_faulty, .ref h_free, .ref h_tips, .ref h_far, .ref h_queue, .int s_queued, .ref h_times, .ref h_turns, .ref h_names, .ref h_named, .ref h_text, .int s_length, .int s_at, .int s_error, .ref h_told, .int s_tolds, .int s_number, .ref h_spare])), (h_g, .inl (E 0, 141, .inl s_g)), (h_past, .inl (E 0, 1128, .inl s_past))]
set_option maxHeartbeats 4000000 in
set_option maxRecDepth 100000 in
theorem c_X8_setValue (l : Launch) (D : va_G) (E : Nat → ClassId) (tx : List (Nat × String)) (h_ h_g h_kept h_past h_path h_pose h_way h_px h_py h_free h_tips h_far h_queue h_times h_turns h_names h_named h_text h_told h_spare : Nat) (s_hasKept : Int32) (s_pasts : Int32) (s_pathMoves : Int32) (s_spot : Int32) (s_thrown : Int32) (s_faulty : Int32) (s_queued : Int32) (s_length : Int32) (s_at : Int32) (s_error : Int32) (s_tolds : Int32) (s_number : Int32) (s_g : Nat → Int32) (s_past : Nat → Int32) (x1 : Int32) (x2 : Int32) (r0 : Int32) (r1 : Int32) (r2 : Int32) (r3 : Int32) (r4 : Nat → Int32) (r5 : Nat → Int32) (hf : f_X8_setValue s_pasts s_pathMoves s_thrown s_g s_past x1 x2 = some (r0, r1, r2, r3, r4, r5)) : CI l yX8_setValue cX8_setValue 4 (some .int) 2 43 D E tx [.ref h_, .int x1, .int x2] (w_X8_setValue E h_ h_g h_kept h_past h_path h_pose h_way h_px h_py h_free h_tips h_far h_queue h_times h_turns h_names h_named h_text h_told h_spare s_hasKept s_pasts s_pathMoves s_spot s_thrown s_faulty s_queued s_length s_at s_error s_tolds s_number s_g s_past) (w_X8_setValue E h_ h_g h_kept h_past h_path h_pose h_way h_px h_py h_free h_tips h_far h_queue h_times h_turns h_names h_named h_text h_told h_spare s_hasKept r1 r2 s_spot r3 s_faulty s_queued s_length s_at s_error s_tolds s_number r4 r5) r0 := by
  refine CI_of RX8 pn_X8 rfl (Nat.le_of_ble_eq_true rfl) (fun p e s m args below meth c A Q hF hK hA hZ hW hret ls hl => ?_)
  have hx := hF.1
  have hb := hF.2.1
  have hl : lv_has ls 4 [(0, .ref h_), (1, .int x1), (2, .int x2)] := hl
  unfold f_X8_setValue at hf
  have hL36 : ∀ (s_pasts_36 : Int32) (s_pathMoves_36 : Int32) (s_thrown_36 : Int32) (s_g_36 : Nat → Int32) (s_past_36 : Nat → Int32) (y1_36 : Int32) (y2_36 : Int32) (k1_36 : Int32) (H : Heap) (locs : List Loc) (ls : Array Slot), f_X8_setValue_L36 s_pasts_36 s_pathMoves_36 s_thrown_36 s_g_36 s_past_36 y1_36 y2_36 k1_36 = some (r0, r1, r2, r3, r4, r5) → lv_has ls 4 [(0, .ref h_), (1, .int y1_36), (2, .int y2_36)] → WD D A s (w_X8_setValue E h_ h_g h_kept h_past h_path h_pose h_way h_px h_py h_free h_tips h_far h_queue h_times h_turns h_names h_named h_text h_told h_spare s_hasKept s_pasts_36 s_pathMoves_36 s_spot s_thrown_36 s_faulty s_queued s_length s_at s_error s_tolds s_number s_g_36 s_past_36) H locs → W p l e (RM 2 43) s m args below meth c H locs 0 0 Q (F0 m 36 ls [.int k1_36, .ref h_]) := by
    intro s_pasts_36 s_pathMoves_36 s_thrown_36 s_g_36 s_past_36 y1_36 y2_36 k1_36 H locs ls hf hl hW
    unfold f_X8_setValue_L36 at hf
    refine q_put hF hK hW fl_X8_76 ft_X8 rfl 0 rfl rfl rfl (Nat.le_of_ble_eq_true rfl) dX8_setValue_36 (fun H locs hW => ?_)
    have hW : WD D A s (w_X8_setValue E h_ h_g h_kept h_past h_path h_pose h_way h_px h_py h_free h_tips h_far h_queue h_times h_turns h_names h_named h_text h_told h_spare s_hasKept s_pasts_36 s_pathMoves_36 s_spot k1_36 s_faulty s_queued s_length s_at s_error s_tolds s_number s_g_36 s_past_36) H locs := hW
    refine lv_aload_n hx hb dX8_setValue_39 rfl (lv_at hl 0 rfl) ?_
    refine q_get hF hK hW fl_X8_76 0 rfl rfl dX8_setValue_40 ?_
    refine q_if_le (tgt := 48) hx hb dX8_setValue_43 (by decide) hf (fun hf => ?_) (fun hf => ?_)
    · refine lv_aload_n hx hb dX8_setValue_48 rfl (lv_at hl 0 rfl) ?_
      obtain ⟨o_1, hc_1, hf⟩ := ob_bind hf
      refine q_callV hF hl.1 hK hA hZ hW mv_X8_changes ml_X8_98 (c_X8_changes l D E tx h_ h_g h_kept h_past h_path h_pose h_way h_px h_py h_free h_tips h_far h_queue h_times h_turns h_names h_named h_text h_told h_spare s_hasKept s_pasts_36 s_pathMoves_36 s_spot k1_36 s_faulty s_queued s_length s_at s_error s_tolds s_number s_g_36 s_past_36 o_1.1 o_1.2.1 o_1.2.2 hc_1) [0, 1, 2] rfl rfl rfl rfl rfl rfl ⟨Nat.le_of_ble_eq_true rfl, Nat.le_of_ble_eq_true rfl⟩ ⟨Nat.le_of_ble_eq_true rfl, Nat.le_of_ble_eq_true rfl⟩ rfl rfl (Nat.le_of_ble_eq_true rfl) dX8_setValue_49 (fun H locs hW => ?_)
      have hW : WD D A s (w_X8_setValue E h_ h_g h_kept h_past h_path h_pose h_way h_px h_py h_free h_tips h_far h_queue h_times h_turns h_names h_named h_text h_told h_spare s_hasKept o_1.1 o_1.2.1 s_spot k1_36 s_faulty s_queued s_length s_at s_error s_tolds s_number s_g_36 o_1.2.2) H locs := hW
      refine lv_aload_n hx hb dX8_setValue_52 rfl (lv_at hl 0 rfl) ?_
      refine q_get hF hK hW fl_X8_7 0 rfl rfl dX8_setValue_53 ?_
      refine lv_iconst (v := 4) hx hb dX8_setValue_56 (by decide) ?_
      refine lv_iconst (v := 4) hx hb dX8_setValue_57 (by decide) ?_
      refine lv_iload_n hx hb dX8_setValue_58 rfl (lv_at hl 1 rfl) ?_
      refine lv_imul hx hb dX8_setValue_59 ?_
      refine lv_iadd hx hb dX8_setValue_60 ?_
      refine q_iald hx hb hK hW 1 0 rfl rfl dX8_setValue_61 hf (fun hf => ?_)
      refine lv_topi (fun v_2 ev_2 => ?_)
      replace hf := ob_let hf ev_2
      refine lv_istore_n (lv' := [(3, .int v_2), (0, .ref h_), (1, .int y1_36), (2, .int y2_36)]) hx hb dX8_setValue_62 rfl hl (by decide) rfl (fun ls hl => ?_)
      refine lv_aload_n hx hb dX8_setValue_63 rfl (lv_at hl 1 rfl) ?_
      refine q_get hF hK hW fl_X8_7 0 rfl rfl dX8_setValue_64 ?_
      refine lv_iconst (v := 4) hx hb dX8_setValue_67 (by decide) ?_
      refine lv_iconst (v := 4) hx hb dX8_setValue_68 (by decide) ?_
      refine lv_iload_n hx hb dX8_setValue_69 rfl (lv_at hl 2 rfl) ?_
      refine lv_imul hx hb dX8_setValue_70 ?_
      refine lv_iadd hx hb dX8_setValue_71 ?_
      refine lv_iload_n hx hb dX8_setValue_72 rfl (lv_at hl 3 rfl) ?_
      refine q_iast hx hb hK hW 1 0 rfl rfl dX8_setValue_73 hf (fun a_3 hf H locs hW => ?_)
      have hW : WD D A s (w_X8_setValue E h_ h_g h_kept h_past h_path h_pose h_way h_px h_py h_free h_tips h_far h_queue h_times h_turns h_names h_named h_text h_told h_spare s_hasKept o_1.1 o_1.2.1 s_spot k1_36 s_faulty s_queued s_length s_at s_error s_tolds s_number a_3 o_1.2.2) H locs := hW
      refine lv_iload_n hx hb dX8_setValue_74 rfl (lv_at hl 0 rfl) ?_
      cases hf
      exact hret dX8_setValue_75 rfl rfl hW
    · refine lv_iconst (v := 0) hx hb dX8_setValue_46 (by decide) ?_
      cases hf
      exact hret dX8_setValue_47 rfl rfl hW
  refine lv_aload_n hx hb dX8_setValue_0 rfl (lv_at hl 0 rfl) ?_
  refine lv_aload_n hx hb dX8_setValue_1 rfl (lv_at hl 0 rfl) ?_
  refine lv_iload_n hx hb dX8_setValue_2 rfl (lv_at hl 1 rfl) ?_
  obtain ⟨o_4, hc_4, hf⟩ := ob_bind hf
  refine q_callI hF hl.1 hK hA hZ hW mv_X8_isJoint ml_X8_105 (c_X8_isJoint l D E tx h_ h_g h_kept h_past h_path h_pose h_way h_px h_py h_free h_tips h_far h_queue h_times h_turns h_names h_named h_text h_told h_spare s_hasKept s_pasts s_pathMoves s_spot s_thrown s_faulty s_queued s_length s_at s_error s_tolds s_number s_g x1 o_4 hc_4) [0, 1] rfl rfl rfl rfl rfl rfl ⟨Nat.le_of_ble_eq_true rfl, Nat.le_of_ble_eq_true rfl⟩ ⟨Nat.le_of_ble_eq_true rfl, Nat.le_of_ble_eq_true rfl⟩ rfl rfl (Nat.le_of_ble_eq_true rfl) dX8_setValue_3 (fun H locs hW => ?_)
  have hW : WD D A s (w_X8_setValue E h_ h_g h_kept h_past h_path h_pose h_way h_px h_py h_free h_tips h_far h_queue h_times h_turns h_names h_named h_text h_told h_spare s_hasKept s_pasts s_pathMoves s_spot s_thrown s_faulty s_queued s_length s_at s_error s_tolds s_number s_g s_past) H locs := hW
  refine q_if_eq (tgt := 35) hx hb dX8_setValue_6 (by decide) hf (fun hf => ?_) (fun hf => ?_)
  · refine lv_iconst (v := 1) hx hb dX8_setValue_35 (by decide) ?_
    exact hL36 s_pasts s_pathMoves s_thrown s_g s_past x1 x2 1 _ _ _ hf (lv_sub hl [0, 1, 2] rfl) hW
  · refine lv_iload_n hx hb dX8_setValue_9 rfl (lv_at hl 2 rfl) ?_
    refine lv_aload_n hx hb dX8_setValue_10 rfl (lv_at hl 0 rfl) ?_
    refine lv_iload_n hx hb dX8_setValue_11 rfl (lv_at hl 1 rfl) ?_
    obtain ⟨o_5, hc_5, hf⟩ := ob_bind hf
    refine q_callI hF hl.1 hK hA hZ hW mv_X8_down ml_X8_124 (c_X8_down l D E tx h_ h_g h_kept h_past h_path h_pose h_way h_px h_py h_free h_tips h_far h_queue h_times h_turns h_names h_named h_text h_told h_spare s_hasKept s_pasts s_pathMoves s_spot s_thrown s_faulty s_queued s_length s_at s_error s_tolds s_number s_g x1 o_5 hc_5) [0, 1] rfl rfl rfl rfl rfl rfl ⟨Nat.le_of_ble_eq_true rfl, Nat.le_of_ble_eq_true rfl⟩ ⟨Nat.le_of_ble_eq_true rfl, Nat.le_of_ble_eq_true rfl⟩ rfl rfl (Nat.le_of_ble_eq_true rfl) dX8_setValue_12 (fun H locs hW => ?_)
    have hW : WD D A s (w_X8_setValue E h_ h_g h_kept h_past h_path h_pose h_way h_px h_py h_free h_tips h_far h_queue h_times h_turns h_names h_named h_text h_told h_spare s_hasKept s_pasts s_pathMoves s_spot s_thrown s_faulty s_queued s_length s_at s_error s_tolds s_number s_g s_past) H locs := hW
    refine lv_ineg hx hb dX8_setValue_15 ?_
    refine lv_aload_n hx hb dX8_setValue_16 rfl (lv_at hl 0 rfl) ?_
    refine lv_iload_n hx hb dX8_setValue_17 rfl (lv_at hl 1 rfl) ?_
    obtain ⟨o_6, hc_6, hf⟩ := ob_bind hf
    refine q_callI hF hl.1 hK hA hZ hW mv_X8_up ml_X8_127 (c_X8_up l D E tx h_ h_g h_kept h_past h_path h_pose h_way h_px h_py h_free h_tips h_far h_queue h_times h_turns h_names h_named h_text h_told h_spare s_hasKept s_pasts s_pathMoves s_spot s_thrown s_faulty s_queued s_length s_at s_error s_tolds s_number s_g x1 o_6 hc_6) [0, 1] rfl rfl rfl rfl rfl rfl ⟨Nat.le_of_ble_eq_true rfl, Nat.le_of_ble_eq_true rfl⟩ ⟨Nat.le_of_ble_eq_true rfl, Nat.le_of_ble_eq_true rfl⟩ rfl rfl (Nat.le_of_ble_eq_true rfl) dX8_setValue_18 (fun H locs hW => ?_)
    have hW : WD D A s (w_X8_setValue E h_ h_g h_kept h_past h_path h_pose h_way h_px h_py h_free h_tips h_far h_queue h_times h_turns h_names h_named h_text h_told h_spare s_hasKept s_pasts s_pathMoves s_spot s_thrown s_faulty s_queued s_length s_at s_error s_tolds s_number s_g s_past) H locs := hW
    obtain ⟨o_7, hc_7, hf⟩ := ob_bind hf
    refine q_callSI hF hl.1 hK hA hZ hW ms_X8_in ml_X8_79 (c_X8_in l D E tx x2 (-o_5) o_6 o_7 hc_7) [] rfl rfl rfl ⟨Nat.le_of_ble_eq_true rfl, Nat.le_of_ble_eq_true rfl⟩ ⟨Nat.le_of_ble_eq_true rfl, Nat.le_of_ble_eq_true rfl⟩ rfl rfl (Nat.le_of_ble_eq_true rfl) dX8_setValue_21 (fun H locs hW => ?_)
    have hW : WD D A s (w_X8_setValue E h_ h_g h_kept h_past h_path h_pose h_way h_px h_py h_free h_tips h_far h_queue h_times h_turns h_names h_named h_text h_told h_spare s_hasKept s_pasts s_pathMoves s_spot s_thrown s_faulty s_queued s_length s_at s_error s_tolds s_number s_g s_past) H locs := hW
    refine q_if_eq (tgt := 31) hx hb dX8_setValue_24 (by decide) hf (fun hf => ?_) (fun hf => ?_)
    · refine lv_iconst (v := 2) hx hb dX8_setValue_31 (by decide) ?_
      refine lv_goto (tgt := 36) hx hb dX8_setValue_32 (by decide) ?_
      exact hL36 s_pasts s_pathMoves s_thrown s_g s_past x1 x2 2 _ _ _ hf (lv_sub hl [0, 1, 2] rfl) hW
    · refine lv_iconst (v := 0) hx hb dX8_setValue_27 (by decide) ?_
      refine lv_goto (tgt := 36) hx hb dX8_setValue_28 (by decide) ?_
      exact hL36 s_pasts s_pathMoves s_thrown s_g s_past x1 x2 0 _ _ _ hf (lv_sub hl [0, 1, 2] rfl) hW
