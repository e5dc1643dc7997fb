def w_X8_tipDistance (E : Nat → ClassId) (h_ h_g h_kept h_past h_path h_pose h_way h_px h_py h_free h_tips h_far h_queue h_times h_turns h_names h_named h_text h_told h_spare : Nat) (s_hasKept : Int32) (s_pasts : Int32) (s_pathMoves : Int32) (s_spot : Int32) (s_thrown : Int32) (s_faulty : Int32) (s_queued : Int32) (s_length : Int32) (s_at : Int32) (s_error : Int32) (s_tolds : Int32) (s_number : Int32) (s_tips : Nat → Int32) : va_W := [(h_, .inr (10, [.ref h_g, .ref h_kept, .int s_hasKept, .ref h_past, .int s_pasts, .ref h_path, .int s_pathMoves, .int s_spot, .int s_thrown, .ref h_pose, .ref h_way, .ref h_px, .ref h_py, .int s_faulty, .ref h_free, .ref h_tips, .ref h_far, .ref h_queue, .int s_queued, .ref h_times, .ref h_turns, .ref h_names, .ref h_named, .ref h_text, .int s_length, .int s_at, .int s_error, .ref h_told, .int s_tolds, .int s_number, .ref h_spare])), (h_tips, .inl (E 0, 5000, .inl s_tips))]
set_option maxHeartbeats 4000000 in
set_option maxRecDepth 100000 in
theorem c_X8_tipDistance (l : Launch) (D : va_G) (E : Nat → ClassId) (tx : List (Nat × String)) (h_ h_g h_kept h_past h_path h_pose h_way h_px h_py h_free h_tips h_far h_queue h_times h_turns h_names h_named h_text h_told h_spare : Nat) (s_hasKept : Int32) (s_pasts : Int32) (s_pathMoves : Int32) (s_spot : Int32) (s_thrown : Int32) (s_faulty : Int32) (s_queued : Int32) (s_length : Int32) (s_at : Int32) (s_error : Int32) (s_tolds : Int32) (s_number : Int32) (s_tips : Nat → Int32) (x1 : Int32) (x2 : Int32) (x3 : Int32) (r0 : Int32) (hf : f_X8_tipDistance s_tips x1 x2 x3 = some r0) : CI l yX8_tipDistance cX8_tipDistance 4 (some .int) 2 43 D E tx [.ref h_, .int x1, .int x2, .int x3] (w_X8_tipDistance E h_ h_g h_kept h_past h_path h_pose h_way h_px h_py h_free h_tips h_far h_queue h_times h_turns h_names h_named h_text h_told h_spare s_hasKept s_pasts s_pathMoves s_spot s_thrown s_faulty s_queued s_length s_at s_error s_tolds s_number s_tips) (w_X8_tipDistance E h_ h_g h_kept h_past h_path h_pose h_way h_px h_py h_free h_tips h_far h_queue h_times h_turns h_names h_named h_text h_told h_spare s_hasKept s_pasts s_pathMoves s_spot s_thrown s_faulty s_queued s_length s_at s_error s_tolds s_number s_tips) r0 := by
  refine CI_of RX8 pn_X8 rfl (Nat.le_of_ble_eq_true rfl) (fun p e s m args below meth c A Q hF hK hA hZ hW hret ls hl => ?_)
  have hx := hF.1
  have hb := hF.2.1
  have hl : lv_has ls 4 [(0, .ref h_), (1, .int x1), (2, .int x2), (3, .int x3)] := hl
  unfold f_X8_tipDistance at hf
  refine lv_aload_n hx hb dX8_tipDistance_0 rfl (lv_at hl 0 rfl) ?_
  refine q_get hF hK hW fl_X8_42 0 rfl rfl dX8_tipDistance_1 ?_
  refine lv_iload_n hx hb dX8_tipDistance_4 rfl (lv_at hl 1 rfl) ?_
  refine q_iald hx hb hK hW 1 0 rfl rfl dX8_tipDistance_5 hf (fun hf => ?_)
  refine lv_bipush (v := 21) hx hb dX8_tipDistance_6 (by decide) ?_
  refine lv_idiv hx hb dX8_tipDistance_8 (by decide) ?_
  refine lv_bipush (v := 10) hx hb dX8_tipDistance_9 (by decide) ?_
  refine lv_isub hx hb dX8_tipDistance_11 ?_
  refine lv_aload_n hx hb dX8_tipDistance_12 rfl (lv_at hl 0 rfl) ?_
  refine q_get hF hK hW fl_X8_42 0 rfl rfl dX8_tipDistance_13 ?_
  refine lv_iload_n hx hb dX8_tipDistance_16 rfl (lv_at hl 1 rfl) ?_
  refine q_iald hx hb hK hW 1 0 rfl rfl dX8_tipDistance_17 hf (fun hf => ?_)
  refine lv_bipush (v := 21) hx hb dX8_tipDistance_18 (by decide) ?_
  refine lv_irem hx hb dX8_tipDistance_20 (by decide) ?_
  refine lv_bipush (v := 10) hx hb dX8_tipDistance_21 (by decide) ?_
  refine lv_isub hx hb dX8_tipDistance_23 ?_
  refine lv_iload_n hx hb dX8_tipDistance_24 rfl (lv_at hl 2 rfl) ?_
  refine lv_iload_n hx hb dX8_tipDistance_25 rfl (lv_at hl 3 rfl) ?_
  obtain ⟨o_1, hc_1, hf⟩ := ob_bind hf
  refine q_callSI hF hl.1 hK hA hZ hW ms_X8_distance ml_X8_215 (c_X8_distance l D E tx (((s_tips x1.toNatClampNeg) / 21) - 10) (((s_tips x1.toNatClampNeg) - (s_tips x1.toNatClampNeg) / 21 * 21) - 10) x2 x3 o_1 hc_1) [] rfl rfl rfl ⟨Nat.le_of_ble_eq_true rfl, Nat.le_of_ble_eq_true rfl⟩ ⟨Nat.le_of_ble_eq_true rfl, Nat.le_of_ble_eq_true rfl⟩ rfl rfl (Nat.le_of_ble_eq_true rfl) dX8_tipDistance_26 (fun H locs hW => ?_)
  have hW : WD D A s (w_X8_tipDistance E h_ h_g h_kept h_past h_path h_pose h_way h_px h_py h_free h_tips h_far h_queue h_times h_turns h_names h_named h_text h_told h_spare s_hasKept s_pasts s_pathMoves s_spot s_thrown s_faulty s_queued s_length s_at s_error s_tolds s_number s_tips) H locs := hW
  cases hf
  exact hret dX8_tipDistance_29 rfl rfl hW
def w_X8_planNear (E : Nat → ClassId) (h_ h_g h_kept h_past h_path h_pose h_way h_px h_py h_free h_tips h_far h_queue h_times h_turns h_names h_named h_text h_told h_spare : Nat) (s_hasKept : Int32) (s_pasts : Int32) (s_pathMoves : Int32) (s_spot : Int32) (s_thrown : Int32) (s_faulty : Int32) (s_queued : Int32) (s_length : Int32) (s_at : Int32) (s_error : Int32) (s_tolds : Int32) (s_number : Int32) (s_g : Nat → Int32) (s_path : Nat → Int32) (s_pose : Nat → Int32) (s_way : Nat → Int32) (s_px : Nat → Int32) (s_py : Nat → Int32) (s_free : Nat → Int32) (s_tips : Nat → Int32) (s_far : Nat → Int32) (s_queue : Nat → Int32) : va_W := [(h_, .inr (10, [.ref h_g, .ref h_kept, .int s_hasKept, .ref h_past, .int s_pasts, .ref h_path, .int s_pathMoves, .int s_spot, .int s_thrown, .ref h_pose, .ref h_way, .ref h_px, .ref h_py, .int s_faulty, .ref h_free, .ref h_tips, .ref h_far, .ref h_queue, .int s_queued, .ref h_times, .ref h_turns, .ref h_names, .ref h_named, .ref h_text, .int s_length, .int s_at, .int s_error, .ref h_told, .int s_tolds, .int s_number, .ref h_spare])), (h_g, .inl (E 0, 141, .inl s_g)), (h_path, .inl (E 0, 5000, .inl s_path)), (h_pose, .inl (E 0, 4, .inl s_pose)), (h_way, .inl (E 0, 4, .inl s_way)), (h_px, .inl (E 0, 5, .inl s_px)), (h_py, .inl (E 0, 5, .inl s_py)), (h_free, .inl (E 1, 5000, .inl s_free)), (h_tips, .inl (E 0, 5000, .inl s_tips)), (h_far, .inl (E 0, 5000, .inl s_far)), (h_queue, .inl (E 0, 5000, .inl s_queue))]
set_option maxHeartbeats 4000000 in
set_option maxRecDepth 100000 in
theorem c_X8_planNear (l : Launch) (D : va_G) (E : Nat → ClassId) (tx : List (Nat × String)) (h_ h_g h_kept h_past h_path h_pose h_way h_px h_py h_free h_tips h_far h_queue h_times h_turns h_names h_named h_text h_told h_spare : Nat) (s_hasKept : Int32) (s_pasts : Int32) (s_pathMoves : Int32) (s_spot : Int32) (s_thrown : Int32) (s_faulty : Int32) (s_queued : Int32) (s_length : Int32) (s_at : Int32) (s_error : Int32) (s_tolds : Int32) (s_number : Int32) (s_g : Nat → Int32) (s_path : Nat → Int32) (s_pose : Nat → Int32) (s_way : Nat → Int32) (s_px : Nat → Int32) (s_py : Nat → Int32) (s_free : Nat → Int32) (s_tips : Nat → Int32) (s_far : Nat → Int32) (s_queue : Nat → Int32) (x1 : Int32) (x2 : Int32) (r0 : Int32) (r1 : Int32) (r2 : Int32) (r3 : Int32) (r4 : Int32) (r5 : Int32) (r6 : Nat → Int32) (r7 : Nat → Int32) (r8 : Nat → Int32) (r9 : Nat → Int32) (r10 : Nat → Int32) (r11 : Nat → Int32) (r12 : Nat → Int32) (r13 : Nat → Int32) (r14 : Nat → Int32) (hf : f_X8_planNear s_pathMoves s_spot s_thrown s_faulty s_queued s_g s_path s_pose s_way s_px s_py s_free s_tips s_far s_queue x1 x2 = some (r0, r1, r2, r3, r4, r5, r6, r7, r8, r9, r10, r11, r12, r13, r14)) : CI l yX8_planNear cX8_planNear 6 (some .int) 8 175 D E tx [.ref h_, .int x1, .int x2] (w_X8_planNear E h_ h_g h_kept h_past h_path h_pose h_way h_px h_py h_free h_tips h_far h_queue h_times h_turns h_names h_named h_text h_told h_spare s_hasKept s_pasts s_pathMoves s_spot s_thrown s_faulty s_queued s_length s_at s_error s_tolds s_number s_g s_path s_pose s_way s_px s_py s_free s_tips s_far s_queue) (w_X8_planNear E h_ h_g h_kept h_past h_path h_pose h_way h_px h_py h_free h_tips h_far h_queue h_times h_turns h_names h_named h_text h_told h_spare s_hasKept s_pasts r1 r2 r3 r4 r5 s_length s_at s_error s_tolds s_number s_g r6 r7 r8 r9 r10 r11 r12 r13 r14) r0 := by
  refine CI_of RX8 pn_X8 rfl (Nat.le_of_ble_eq_true rfl) (fun p e s m args below meth c A Q hF hK hA hZ hW hret ls hl => ?_)
  have hx := hF.1
  have hb := hF.2.1
  have hl : lv_has ls 6 [(0, .ref h_), (1, .int x1), (2, .int x2)] := hl
  unfold f_X8_planNear at hf
  have hL25 : ∀ (s_pathMoves_25 : Int32) (s_spot_25 : Int32) (s_thrown_25 : Int32) (s_faulty_25 : Int32) (s_queued_25 : Int32) (s_path_25 : Nat → Int32) (s_pose_25 : Nat → Int32) (s_way_25 : Nat → Int32) (s_px_25 : Nat → Int32) (s_py_25 : Nat → Int32) (s_free_25 : Nat → Int32) (s_tips_25 : Nat → Int32) (s_far_25 : Nat → Int32) (s_queue_25 : Nat → Int32) (y1_25 : Int32) (y2_25 : Int32) (k1_25 : Int32) (H : Heap) (locs : List Loc) (ls : Array Slot), f_X8_planNear_L25 s_pathMoves_25 s_spot_25 s_thrown_25 s_faulty_25 s_queued_25 s_g s_path_25 s_pose_25 s_way_25 s_px_25 s_py_25 s_free_25 s_tips_25 s_far_25 s_queue_25 y1_25 y2_25 k1_25 = some (r0, r1, r2, r3, r4, r5, r6, r7, r8, r9, r10, r11, r12, r13, r14) → lv_has ls 6 [(0, .ref h_), (1, .int y1_25), (2, .int y2_25)] → WD D A s (w_X8_planNear E h_ h_g h_kept h_past h_path h_pose h_way h_px h_py h_free h_tips h_far h_queue h_times h_turns h_names h_named h_text h_told h_spare s_hasKept s_pasts s_pathMoves_25 s_spot_25 s_thrown_25 s_faulty_25 s_queued_25 s_length s_at s_error s_tolds s_number s_g s_path_25 s_pose_25 s_way_25 s_px_25 s_py_25 s_free_25 s_tips_25 s_far_25 s_queue_25) H locs → W p l e (RM 8 175) s m args below meth c H locs 0 0 Q (F0 m 25 ls [.int k1_25, .ref h_]) := by
    intro s_pathMoves_25 s_spot_25 s_thrown_25 s_faulty_25 s_queued_25 s_path_25 s_pose_25 s_way_25 s_px_25 s_py_25 s_free_25 s_tips_25 s_far_25 s_queue_25 y1_25 y2_25 k1_25 H locs ls hf hl hW
    unfold f_X8_planNear_L25 at hf
    refine q_put hF hK hW fl_X8_76 ft_X8 rfl 0 rfl rfl rfl (Nat.le_of_ble_eq_true rfl) dX8_planNear_25 (fun H locs hW => ?_)
    have hW : WD D A s (w_X8_planNear E h_ h_g h_kept h_past h_path h_pose h_way h_px h_py h_free h_tips h_far h_queue h_times h_turns h_names h_named h_text h_told h_spare s_hasKept s_pasts s_pathMoves_25 s_spot_25 k1_25 s_faulty_25 s_queued_25 s_length s_at s_error s_tolds s_number s_g s_path_25 s_pose_25 s_way_25 s_px_25 s_py_25 s_free_25 s_tips_25 s_far_25 s_queue_25) H locs := hW
    refine lv_aload_n hx hb dX8_planNear_28 rfl (lv_at hl 0 rfl) ?_
    refine q_get hF hK hW fl_X8_76 0 rfl rfl dX8_planNear_29 ?_
    refine q_if_le (tgt := 37) hx hb dX8_planNear_32 (by decide) hf (fun hf => ?_) (fun hf => ?_)
    · refine lv_aload_n hx hb dX8_planNear_37 rfl (lv_at hl 0 rfl) ?_
      obtain ⟨o_1, hc_1, hf⟩ := ob_bind hf
      refine q_callV hF hl.1 hK hA hZ hW mv_X8_connects ml_X8_246 (c_X8_connects l D E tx h_ h_g h_kept h_past h_path h_pose h_way h_px h_py h_free h_tips h_far h_queue h_times h_turns h_names h_named h_text h_told h_spare s_hasKept s_pasts s_pathMoves_25 s_spot_25 k1_25 s_faulty_25 s_queued_25 s_length s_at s_error s_tolds s_number s_g s_pose_25 s_way_25 s_px_25 s_py_25 s_free_25 s_tips_25 s_far_25 s_queue_25 o_1.1 o_1.2.1 o_1.2.2.1 o_1.2.2.2.1 o_1.2.2.2.2.1 o_1.2.2.2.2.2.1 o_1.2.2.2.2.2.2.1 o_1.2.2.2.2.2.2.2.1 o_1.2.2.2.2.2.2.2.2.1 o_1.2.2.2.2.2.2.2.2.2 hc_1) [0, 1, 3, 4, 5, 6, 7, 8, 9, 10] rfl rfl rfl rfl rfl rfl ⟨Nat.le_of_ble_eq_true rfl, Nat.le_of_ble_eq_true rfl⟩ ⟨Nat.le_of_ble_eq_true rfl, Nat.le_of_ble_eq_true rfl⟩ rfl rfl (Nat.le_of_ble_eq_true rfl) dX8_planNear_38 (fun H locs hW => ?_)
      have hW : WD D A s (w_X8_planNear E h_ h_g h_kept h_past h_path h_pose h_way h_px h_py h_free h_tips h_far h_queue h_times h_turns h_names h_named h_text h_told h_spare s_hasKept s_pasts s_pathMoves_25 s_spot_25 k1_25 o_1.1 o_1.2.1 s_length s_at s_error s_tolds s_number s_g s_path_25 o_1.2.2.1 o_1.2.2.2.1 o_1.2.2.2.2.1 o_1.2.2.2.2.2.1 o_1.2.2.2.2.2.2.1 o_1.2.2.2.2.2.2.2.1 o_1.2.2.2.2.2.2.2.2.1 o_1.2.2.2.2.2.2.2.2.2) H locs := hW
      refine lv_aload_n hx hb dX8_planNear_41 rfl (lv_at hl 0 rfl) ?_
      refine q_get hF hK hW fl_X8_234 0 rfl rfl dX8_planNear_42 ?_
      refine q_if_ne (tgt := 54) hx hb dX8_planNear_45 (by decide) hf (fun hf => ?_) (fun hf => ?_)
      · refine lv_sipush (v := 1000) hx hb dX8_planNear_54 (by decide) ?_
        refine lv_istore_n (lv' := [(3, .int 1000), (0, .ref h_), (1, .int y1_25), (2, .int y2_25)]) hx hb dX8_planNear_57 rfl hl (by decide) rfl (fun ls hl => ?_)
        refine lv_iconst (v := 0) hx hb dX8_planNear_58 (by decide) ?_
        refine lv_istore (lv' := [(4, .int 0), (3, .int 1000), (0, .ref h_), (1, .int y1_25), (2, .int y2_25)]) hx hb dX8_planNear_59 hl (by decide) rfl (fun ls hl => ?_)
        have hB61 : ∀ (n : Nat) (z3_61 : Int32) (z4_61 : Int32) (ex : Int32) (H : Heap) (locs : List Loc) (ls : Array Slot), LPF (fun z => f_X8_planNear_B61 s_pathMoves_25 s_spot_25 k1_25 o_1.1 o_1.2.1 s_g s_path_25 o_1.2.2.1 o_1.2.2.2.1 o_1.2.2.2.2.1 o_1.2.2.2.2.2.1 o_1.2.2.2.2.2.2.1 o_1.2.2.2.2.2.2.2.1 o_1.2.2.2.2.2.2.2.2.1 o_1.2.2.2.2.2.2.2.2.2 y1_25 y2_25 z.1 z.2) n (z3_61, z4_61) = some ex → lv_has ls 6 [(0, .ref h_), (1, .int y1_25), (2, .int y2_25), (3, .int z3_61), (4, .int z4_61)] → WD D A s (w_X8_planNear E h_ h_g h_kept h_past h_path h_pose h_way h_px h_py h_free h_tips h_far h_queue h_times h_turns h_names h_named h_text h_told h_spare s_hasKept s_pasts s_pathMoves_25 s_spot_25 k1_25 o_1.1 o_1.2.1 s_length s_at s_error s_tolds s_number s_g s_path_25 o_1.2.2.1 o_1.2.2.2.1 o_1.2.2.2.2.1 o_1.2.2.2.2.2.1 o_1.2.2.2.2.2.2.1 o_1.2.2.2.2.2.2.2.1 o_1.2.2.2.2.2.2.2.2.1 o_1.2.2.2.2.2.2.2.2.2) H locs → (∀ (H : Heap) (locs : List Loc) (ls : Array Slot), lv_has ls 6 [(0, .ref h_), (1, .int y1_25), (2, .int y2_25), (3, .int ex)] → WD D A s (w_X8_planNear E h_ h_g h_kept h_past h_path h_pose h_way h_px h_py h_free h_tips h_far h_queue h_times h_turns h_names h_named h_text h_told h_spare s_hasKept s_pasts s_pathMoves_25 s_spot_25 k1_25 o_1.1 o_1.2.1 s_length s_at s_error s_tolds s_number s_g s_path_25 o_1.2.2.1 o_1.2.2.2.1 o_1.2.2.2.2.1 o_1.2.2.2.2.2.1 o_1.2.2.2.2.2.2.1 o_1.2.2.2.2.2.2.2.1 o_1.2.2.2.2.2.2.2.2.1 o_1.2.2.2.2.2.2.2.2.2) H locs → W p l e (RM 8 175) s m args below meth c H locs 0 0 Q (F0 m 104 ls [])) → W p l e (RM 8 175) s m args below meth c H locs 0 0 Q (F0 m 61 ls []) := by
          intro n
          induction n with
          | zero => intro z3_61 z4_61 ex H locs ls h9; exact (ob_lp0 h9).elim
          | succ n ih =>
            intro z3_61 z4_61 ex H locs ls h9 hl hW kx0
            obtain ⟨q9, hf, h9, k9⟩ := ob_lp h9
            have hf : f_X8_planNear_B61 s_pathMoves_25 s_spot_25 k1_25 o_1.1 o_1.2.1 s_g s_path_25 o_1.2.2.1 o_1.2.2.2.1 o_1.2.2.2.2.1 o_1.2.2.2.2.2.1 o_1.2.2.2.2.2.2.1 o_1.2.2.2.2.2.2.2.1 o_1.2.2.2.2.2.2.2.2.1 o_1.2.2.2.2.2.2.2.2.2 y1_25 y2_25 z3_61 z4_61 = some q9 := hf
            unfold f_X8_planNear_B61 at hf
            refine lv_iload hx hb dX8_planNear_61 (lv_at hl 4 rfl) ?_
            refine lv_aload_n hx hb dX8_planNear_63 rfl (lv_at hl 0 rfl) ?_
            refine q_get hF hK hW fl_X8_234 0 rfl rfl dX8_planNear_64 ?_
            refine q_icmp_ge (tgt := 104) hx hb dX8_planNear_67 (by decide) hf (fun hf => ?_) (fun hf => ?_)
            · cases hf
              have hx9 := k9 _ rfl
              subst hx9
              exact kx0 _ _ _ (lv_sub hl [0, 1, 2, 3] rfl) hW
            · refine lv_aload_n hx hb dX8_planNear_70 rfl (lv_at hl 0 rfl) ?_
              refine lv_aload_n hx hb dX8_planNear_71 rfl (lv_at hl 0 rfl) ?_
              refine q_get hF hK hW fl_X8_48 0 rfl rfl dX8_planNear_72 ?_
              refine lv_iload hx hb dX8_planNear_75 (lv_at hl 4 rfl) ?_
              refine q_iald hx hb hK hW 10 0 rfl rfl dX8_planNear_77 hf (fun hf => ?_)
              refine lv_iload_n hx hb dX8_planNear_78 rfl (lv_at hl 1 rfl) ?_
              refine lv_iload_n hx hb dX8_planNear_79 rfl (lv_at hl 2 rfl) ?_
              obtain ⟨o_2, hc_2, hf⟩ := ob_bind hf
              refine q_callI hF hl.1 hK hA hZ hW mv_X8_tipDistance ml_X8_276 (c_X8_tipDistance l D E tx h_ h_g h_kept h_past h_path h_pose h_way h_px h_py h_free h_tips h_far h_queue h_times h_turns h_names h_named h_text h_told h_spare s_hasKept s_pasts s_pathMoves_25 s_spot_25 k1_25 o_1.1 o_1.2.1 s_length s_at s_error s_tolds s_number o_1.2.2.2.2.2.2.2.1 (o_1.2.2.2.2.2.2.2.2.2 z4_61.toNatClampNeg) y1_25 y2_25 o_2 hc_2) [0, 8] rfl rfl rfl rfl rfl rfl ⟨Nat.le_of_ble_eq_true rfl, Nat.le_of_ble_eq_true rfl⟩ ⟨Nat.le_of_ble_eq_true rfl, Nat.le_of_ble_eq_true rfl⟩ rfl rfl (Nat.le_of_ble_eq_true rfl) dX8_planNear_80 (fun H locs hW => ?_)
              have hW : WD D A s (w_X8_planNear E h_ h_g h_kept h_past h_path h_pose h_way h_px h_py h_free h_tips h_far h_queue h_times h_turns h_names h_named h_text h_told h_spare s_hasKept s_pasts s_pathMoves_25 s_spot_25 k1_25 o_1.1 o_1.2.1 s_length s_at s_error s_tolds s_number s_g s_path_25 o_1.2.2.1 o_1.2.2.2.1 o_1.2.2.2.2.1 o_1.2.2.2.2.2.1 o_1.2.2.2.2.2.2.1 o_1.2.2.2.2.2.2.2.1 o_1.2.2.2.2.2.2.2.2.1 o_1.2.2.2.2.2.2.2.2.2) H locs := hW
              refine lv_istore (lv' := [(5, .int o_2), (0, .ref h_), (1, .int y1_25), (2, .int y2_25), (3, .int z3_61), (4, .int z4_61)]) hx hb dX8_planNear_83 hl (by decide) rfl (fun ls hl => ?_)
              refine lv_iload hx hb dX8_planNear_85 (lv_at hl 0 rfl) ?_
              refine lv_iload_n hx hb dX8_planNear_87 rfl (lv_at hl 4 rfl) ?_
              refine q_icmp_ge (tgt := 96) hx hb dX8_planNear_88 (by decide) hf (fun hf => ?_) (fun hf => ?_)
              · refine lv_iload_n hx hb dX8_planNear_96 rfl (lv_at hl 4 rfl) ?_
                refine lv_istore_n (lv' := [(3, .int z3_61), (5, .int o_2), (0, .ref h_), (1, .int y1_25), (2, .int y2_25), (4, .int z4_61)]) hx hb dX8_planNear_97 rfl hl (by decide) rfl (fun ls hl => ?_)
                obtain ⟨v_3, ev_3⟩ : ∃ y : Int32, y = z4_61 + 1 := ⟨_, rfl⟩
                replace hf := ob_let hf ev_3
                refine lv_iinc (v := v_3) (lv' := [(4, .int v_3), (3, .int z3_61), (5, .int o_2), (0, .ref h_), (1, .int y1_25), (2, .int y2_25)]) hx hb dX8_planNear_98 hl (k := 5) rfl (by rw [ev_3]; rfl) (by decide) rfl (fun ls hl => ?_)
                refine lv_goto (tgt := 61) hx hb dX8_planNear_101 (by decide) ?_
                cases hf
                exact ih z3_61 v_3 ex _ _ _ (h9 _ rfl) (lv_sub hl [3, 4, 5, 1, 0] rfl) hW kx0
              · refine lv_iload hx hb dX8_planNear_91 (lv_at hl 0 rfl) ?_
                refine lv_goto (tgt := 97) hx hb dX8_planNear_93 (by decide) ?_
                refine lv_istore_n (lv' := [(3, .int o_2), (5, .int o_2), (0, .ref h_), (1, .int y1_25), (2, .int y2_25), (4, .int z4_61)]) hx hb dX8_planNear_97 rfl hl (by decide) rfl (fun ls hl => ?_)
                obtain ⟨v_4, ev_4⟩ : ∃ y : Int32, y = z4_61 + 1 := ⟨_, rfl⟩
                replace hf := ob_let hf ev_4
                refine lv_iinc (v := v_4) (lv' := [(4, .int v_4), (3, .int o_2), (5, .int o_2), (0, .ref h_), (1, .int y1_25), (2, .int y2_25)]) hx hb dX8_planNear_98 hl (k := 5) rfl (by rw [ev_4]; rfl) (by decide) rfl (fun ls hl => ?_)
                refine lv_goto (tgt := 61) hx hb dX8_planNear_101 (by decide) ?_
                cases hf
                exact ih o_2 v_4 ex _ _ _ (h9 _ rfl) (lv_sub hl [3, 4, 5, 1, 0] rfl) hW kx0
        obtain ⟨e_5, hc_5, hf⟩ := ob_bind hf
        refine hB61 lfuel 1000 0 e_5 _ _ _ hc_5 (lv_sub hl [2, 3, 4, 1, 0] rfl) hW ?_
        intro H locs ls hl hW
        refine lv_aload_n hx hb dX8_planNear_104 rfl (lv_at hl 0 rfl) ?_
        obtain ⟨o_6, hc_6, hf⟩ := ob_bind hf
        refine q_callV hF hl.1 hK hA hZ hW mv_X8_forgets ml_X8_237 (c_X8_forgets l D E tx h_ h_g h_kept h_past h_path h_pose h_way h_px h_py h_free h_tips h_far h_queue h_times h_turns h_names h_named h_text h_told h_spare s_hasKept s_pasts s_pathMoves_25 s_spot_25 k1_25 o_1.1 o_1.2.1 s_length s_at s_error s_tolds s_number s_g o_1.2.2.2.2.2.2.2.2.1 o_6.1 o_6.2 hc_6) [0, 1, 9] rfl rfl rfl rfl rfl rfl ⟨Nat.le_of_ble_eq_true rfl, Nat.le_of_ble_eq_true rfl⟩ ⟨Nat.le_of_ble_eq_true rfl, Nat.le_of_ble_eq_true rfl⟩ rfl rfl (Nat.le_of_ble_eq_true rfl) dX8_planNear_105 (fun H locs hW => ?_)
        have hW : WD D A s (w_X8_planNear E h_ h_g h_kept h_past h_path h_pose h_way h_px h_py h_free h_tips h_far h_queue h_times h_turns h_names h_named h_text h_told h_spare s_hasKept s_pasts s_pathMoves_25 s_spot_25 k1_25 o_1.1 o_6.1 s_length s_at s_error s_tolds s_number s_g s_path_25 o_1.2.2.1 o_1.2.2.2.1 o_1.2.2.2.2.1 o_1.2.2.2.2.2.1 o_1.2.2.2.2.2.2.1 o_1.2.2.2.2.2.2.2.1 o_6.2 o_1.2.2.2.2.2.2.2.2.2) H locs := hW
        refine lv_iconst (v := 0) hx hb dX8_planNear_108 (by decide) ?_
        refine lv_istore (lv' := [(4, .int 0), (0, .ref h_), (1, .int y1_25), (2, .int y2_25), (3, .int e_5)]) hx hb dX8_planNear_109 hl (by decide) rfl (fun ls hl => ?_)
        have hB111 : ∀ (n : Nat) (s_queued_111 : Int32) (s_far_111 : Nat → Int32) (s_queue_111 : Nat → Int32) (z4_111 : Int32) (ex : Int32 × (Nat → Int32) × (Nat → Int32)) (H : Heap) (locs : List Loc) (ls : Array Slot), LPF (fun z => f_X8_planNear_B111 s_pathMoves_25 s_spot_25 k1_25 o_1.1 z.1 s_g s_path_25 o_1.2.2.1 o_1.2.2.2.1 o_1.2.2.2.2.1 o_1.2.2.2.2.2.1 o_1.2.2.2.2.2.2.1 o_1.2.2.2.2.2.2.2.1 z.2.1 z.2.2.1 y1_25 y2_25 e_5 z.2.2.2) n (s_queued_111, s_far_111, s_queue_111, z4_111) = some ex → lv_has ls 6 [(0, .ref h_), (1, .int y1_25), (2, .int y2_25), (3, .int e_5), (4, .int z4_111)] → WD D A s (w_X8_planNear E h_ h_g h_kept h_past h_path h_pose h_way h_px h_py h_free h_tips h_far h_queue h_times h_turns h_names h_named h_text h_told h_spare s_hasKept s_pasts s_pathMoves_25 s_spot_25 k1_25 o_1.1 s_queued_111 s_length s_at s_error s_tolds s_number s_g s_path_25 o_1.2.2.1 o_1.2.2.2.1 o_1.2.2.2.2.1 o_1.2.2.2.2.2.1 o_1.2.2.2.2.2.2.1 o_1.2.2.2.2.2.2.2.1 s_far_111 s_queue_111) H locs → (∀ (H : Heap) (locs : List Loc) (ls : Array Slot), lv_has ls 6 [(0, .ref h_), (3, .int e_5)] → WD D A s (w_X8_planNear E h_ h_g h_kept h_past h_path h_pose h_way h_px h_py h_free h_tips h_far h_queue h_times h_turns h_names h_named h_text h_told h_spare s_hasKept s_pasts s_pathMoves_25 s_spot_25 k1_25 o_1.1 ex.1 s_length s_at s_error s_tolds s_number s_g s_path_25 o_1.2.2.1 o_1.2.2.2.1 o_1.2.2.2.2.1 o_1.2.2.2.2.2.1 o_1.2.2.2.2.2.2.1 o_1.2.2.2.2.2.2.2.1 ex.2.1 ex.2.2) H locs → W p l e (RM 8 175) s m args below meth c H locs 0 0 Q (F0 m 154 ls [])) → W p l e (RM 8 175) s m args below meth c H locs 0 0 Q (F0 m 111 ls []) := by
          intro n
          induction n with
          | zero => intro s_queued_111 s_far_111 s_queue_111 z4_111 ex H locs ls h9; exact (ob_lp0 h9).elim
          | succ n ih =>
            intro s_queued_111 s_far_111 s_queue_111 z4_111 ex H locs ls h9 hl hW kx0
            obtain ⟨q9, hf, h9, k9⟩ := ob_lp h9
            have hf : f_X8_planNear_B111 s_pathMoves_25 s_spot_25 k1_25 o_1.1 s_queued_111 s_g s_path_25 o_1.2.2.1 o_1.2.2.2.1 o_1.2.2.2.2.1 o_1.2.2.2.2.2.1 o_1.2.2.2.2.2.2.1 o_1.2.2.2.2.2.2.2.1 s_far_111 s_queue_111 y1_25 y2_25 e_5 z4_111 = some q9 := hf
            unfold f_X8_planNear_B111 at hf
            refine lv_iload hx hb dX8_planNear_111 (lv_at hl 4 rfl) ?_
            refine lv_aload_n hx hb dX8_planNear_113 rfl (lv_at hl 0 rfl) ?_
            obtain ⟨o_7, hc_7, hf⟩ := ob_bind hf
            refine q_callI hF hl.1 hK hA hZ hW mv_X8_poses ml_X8_133 (c_X8_poses l D E tx h_ h_g h_kept h_past h_path h_pose h_way h_px h_py h_free h_tips h_far h_queue h_times h_turns h_names h_named h_text h_told h_spare s_hasKept s_pasts s_pathMoves_25 s_spot_25 k1_25 o_1.1 s_queued_111 s_length s_at s_error s_tolds s_number s_g o_7 hc_7) [0, 1] rfl rfl rfl rfl rfl rfl ⟨Nat.le_of_ble_eq_true rfl, Nat.le_of_ble_eq_true rfl⟩ ⟨Nat.le_of_ble_eq_true rfl, Nat.le_of_ble_eq_true rfl⟩ rfl rfl (Nat.le_of_ble_eq_true rfl) dX8_planNear_114 (fun H locs hW => ?_)
            have hW : WD D A s (w_X8_planNear E h_ h_g h_kept h_past h_path h_pose h_way h_px h_py h_free h_tips h_far h_queue h_times h_turns h_names h_named h_text h_told h_spare s_hasKept s_pasts s_pathMoves_25 s_spot_25 k1_25 o_1.1 s_queued_111 s_length s_at s_error s_tolds s_number s_g s_path_25 o_1.2.2.1 o_1.2.2.2.1 o_1.2.2.2.2.1 o_1.2.2.2.2.2.1 o_1.2.2.2.2.2.2.1 o_1.2.2.2.2.2.2.2.1 s_far_111 s_queue_111) H locs := hW
            refine q_icmp_ge (tgt := 154) hx hb dX8_planNear_117 (by decide) hf (fun hf => ?_) (fun hf => ?_)
            · cases hf
              have hx9 := k9 _ rfl
              subst hx9
              exact kx0 _ _ _ (lv_sub hl [0, 3] rfl) hW
            · refine lv_aload_n hx hb dX8_planNear_120 rfl (lv_at hl 0 rfl) ?_
              refine q_get hF hK hW fl_X8_38 0 rfl rfl dX8_planNear_121 ?_
              refine lv_iload hx hb dX8_planNear_124 (lv_at hl 4 rfl) ?_
              refine q_zald hx hb hK hW 7 1 rfl rfl dX8_planNear_126 hf (fun hf => ?_)
              refine q_if_eq (tgt := 148) hx hb dX8_planNear_127 (by decide) hf (fun hf => ?_) (fun hf => ?_)
              · obtain ⟨v_8, ev_8⟩ : ∃ y : Int32, y = z4_111 + 1 := ⟨_, rfl⟩
                replace hf := ob_let hf ev_8
                refine lv_iinc (v := v_8) (lv' := [(4, .int v_8), (0, .ref h_), (1, .int y1_25), (2, .int y2_25), (3, .int e_5)]) hx hb dX8_planNear_148 hl (k := 4) rfl (by rw [ev_8]; rfl) (by decide) rfl (fun ls hl => ?_)
                refine lv_goto (tgt := 111) hx hb dX8_planNear_151 (by decide) ?_
                cases hf
                exact ih s_queued_111 s_far_111 s_queue_111 v_8 ex _ _ _ (h9 _ rfl) (lv_sub hl [1, 2, 3, 4, 0] rfl) hW kx0
              · refine lv_aload_n hx hb dX8_planNear_130 rfl (lv_at hl 0 rfl) ?_
                refine lv_iload hx hb dX8_planNear_131 (lv_at hl 4 rfl) ?_
                refine lv_iload_n hx hb dX8_planNear_133 rfl (lv_at hl 1 rfl) ?_
                refine lv_iload_n hx hb dX8_planNear_134 rfl (lv_at hl 2 rfl) ?_
                obtain ⟨o_9, hc_9, hf⟩ := ob_bind hf
                refine q_callI hF hl.1 hK hA hZ hW mv_X8_tipDistance ml_X8_276 (c_X8_tipDistance l D E tx h_ h_g h_kept h_past h_path h_pose h_way h_px h_py h_free h_tips h_far h_queue h_times h_turns h_names h_named h_text h_told h_spare s_hasKept s_pasts s_pathMoves_25 s_spot_25 k1_25 o_1.1 s_queued_111 s_length s_at s_error s_tolds s_number o_1.2.2.2.2.2.2.2.1 z4_111 y1_25 y2_25 o_9 hc_9) [0, 8] rfl rfl rfl rfl rfl rfl ⟨Nat.le_of_ble_eq_true rfl, Nat.le_of_ble_eq_true rfl⟩ ⟨Nat.le_of_ble_eq_true rfl, Nat.le_of_ble_eq_true rfl⟩ rfl rfl (Nat.le_of_ble_eq_true rfl) dX8_planNear_135 (fun H locs hW => ?_)
                have hW : WD D A s (w_X8_planNear E h_ h_g h_kept h_past h_path h_pose h_way h_px h_py h_free h_tips h_far h_queue h_times h_turns h_names h_named h_text h_told h_spare s_hasKept s_pasts s_pathMoves_25 s_spot_25 k1_25 o_1.1 s_queued_111 s_length s_at s_error s_tolds s_number s_g s_path_25 o_1.2.2.1 o_1.2.2.2.1 o_1.2.2.2.2.1 o_1.2.2.2.2.2.1 o_1.2.2.2.2.2.2.1 o_1.2.2.2.2.2.2.2.1 s_far_111 s_queue_111) H locs := hW
                refine lv_iload_n hx hb dX8_planNear_138 rfl (lv_at hl 3 rfl) ?_
                refine q_icmp_ne (tgt := 148) hx hb dX8_planNear_139 (by decide) hf (fun hf => ?_) (fun hf => ?_)
                · obtain ⟨v_10, ev_10⟩ : ∃ y : Int32, y = z4_111 + 1 := ⟨_, rfl⟩
                  replace hf := ob_let hf ev_10
                  refine lv_iinc (v := v_10) (lv' := [(4, .int v_10), (0, .ref h_), (1, .int y1_25), (2, .int y2_25), (3, .int e_5)]) hx hb dX8_planNear_148 hl (k := 4) rfl (by rw [ev_10]; rfl) (by decide) rfl (fun ls hl => ?_)
                  refine lv_goto (tgt := 111) hx hb dX8_planNear_151 (by decide) ?_
                  cases hf
                  exact ih s_queued_111 s_far_111 s_queue_111 v_10 ex _ _ _ (h9 _ rfl) (lv_sub hl [1, 2, 3, 4, 0] rfl) hW kx0
                · refine lv_aload_n hx hb dX8_planNear_142 rfl (lv_at hl 0 rfl) ?_
                  refine lv_iload hx hb dX8_planNear_143 (lv_at hl 4 rfl) ?_
                  obtain ⟨o_11, hc_11, hf⟩ := ob_bind hf
                  refine q_callV hF hl.1 hK hA hZ hW mv_X8_starts ml_X8_240 (c_X8_starts l D E tx h_ h_g h_kept h_past h_path h_pose h_way h_px h_py h_free h_tips h_far h_queue h_times h_turns h_names h_named h_text h_told h_spare s_hasKept s_pasts s_pathMoves_25 s_spot_25 k1_25 o_1.1 s_queued_111 s_length s_at s_error s_tolds s_number s_far_111 s_queue_111 z4_111 o_11.1 o_11.2.1 o_11.2.2 hc_11) [0, 9, 10] rfl rfl rfl rfl rfl rfl ⟨Nat.le_of_ble_eq_true rfl, Nat.le_of_ble_eq_true rfl⟩ ⟨Nat.le_of_ble_eq_true rfl, Nat.le_of_ble_eq_true rfl⟩ rfl rfl (Nat.le_of_ble_eq_true rfl) dX8_planNear_145 (fun H locs hW => ?_)
                  have hW : WD D A s (w_X8_planNear E h_ h_g h_kept h_past h_path h_pose h_way h_px h_py h_free h_tips h_far h_queue h_times h_turns h_names h_named h_text h_told h_spare s_hasKept s_pasts s_pathMoves_25 s_spot_25 k1_25 o_1.1 o_11.1 s_length s_at s_error s_tolds s_number s_g s_path_25 o_1.2.2.1 o_1.2.2.2.1 o_1.2.2.2.2.1 o_1.2.2.2.2.2.1 o_1.2.2.2.2.2.2.1 o_1.2.2.2.2.2.2.2.1 o_11.2.1 o_11.2.2) H locs := hW
                  obtain ⟨v_12, ev_12⟩ : ∃ y : Int32, y = z4_111 + 1 := ⟨_, rfl⟩
                  replace hf := ob_let hf ev_12
                  refine lv_iinc (v := v_12) (lv' := [(4, .int v_12), (0, .ref h_), (1, .int y1_25), (2, .int y2_25), (3, .int e_5)]) hx hb dX8_planNear_148 hl (k := 4) rfl (by rw [ev_12]; rfl) (by decide) rfl (fun ls hl => ?_)
                  refine lv_goto (tgt := 111) hx hb dX8_planNear_151 (by decide) ?_
                  cases hf
                  exact ih o_11.1 o_11.2.1 o_11.2.2 v_12 ex _ _ _ (h9 _ rfl) (lv_sub hl [1, 2, 3, 4, 0] rfl) hW kx0
        obtain ⟨e_13, hc_13, hf⟩ := ob_bind hf
        refine hB111 lfuel o_6.1 o_6.2 o_1.2.2.2.2.2.2.2.2.2 0 e_13 _ _ _ hc_13 (lv_sub hl [1, 2, 3, 4, 0] rfl) hW ?_
        intro H locs ls hl hW
        refine lv_aload_n hx hb dX8_planNear_154 rfl (lv_at hl 0 rfl) ?_
        refine lv_iconst (v := 0) hx hb dX8_planNear_155 (by decide) ?_
        obtain ⟨o_14, hc_14, hf⟩ := ob_bind hf
        refine q_callV hF hl.1 hK hA hZ hW mv_X8_spreads ml_X8_243 (c_X8_spreads l D E tx h_ h_g h_kept h_past h_path h_pose h_way h_px h_py h_free h_tips h_far h_queue h_times h_turns h_names h_named h_text h_told h_spare s_hasKept s_pasts s_pathMoves_25 s_spot_25 k1_25 o_1.1 e_13.1 s_length s_at s_error s_tolds s_number s_g o_1.2.2.2.2.2.2.1 e_13.2.1 e_13.2.2 0 o_14.1 o_14.2.1 o_14.2.2 hc_14) [0, 1, 7, 9, 10] rfl rfl rfl rfl rfl rfl ⟨Nat.le_of_ble_eq_true rfl, Nat.le_of_ble_eq_true rfl⟩ ⟨Nat.le_of_ble_eq_true rfl, Nat.le_of_ble_eq_true rfl⟩ rfl rfl (Nat.le_of_ble_eq_true rfl) dX8_planNear_156 (fun H locs hW => ?_)
        have hW : WD D A s (w_X8_planNear E h_ h_g h_kept h_past h_path h_pose h_way h_px h_py h_free h_tips h_far h_queue h_times h_turns h_names h_named h_text h_told h_spare s_hasKept s_pasts s_pathMoves_25 s_spot_25 k1_25 o_1.1 o_14.1 s_length s_at s_error s_tolds s_number s_g s_path_25 o_1.2.2.1 o_1.2.2.2.1 o_1.2.2.2.2.1 o_1.2.2.2.2.2.1 o_1.2.2.2.2.2.2.1 o_1.2.2.2.2.2.2.2.1 o_14.2.1 o_14.2.2) H locs := hW
        refine lv_aload_n hx hb dX8_planNear_159 rfl (lv_at hl 0 rfl) ?_
        obtain ⟨o_15, hc_15, hf⟩ := ob_bind hf
        refine q_callI hF hl.1 hK hA hZ hW mv_X8_leads ml_X8_261 (c_X8_leads l D E tx h_ h_g h_kept h_past h_path h_pose h_way h_px h_py h_free h_tips h_far h_queue h_times h_turns h_names h_named h_text h_told h_spare s_hasKept s_pasts s_pathMoves_25 s_spot_25 k1_25 o_1.1 o_14.1 s_length s_at s_error s_tolds s_number s_g s_path_25 o_1.2.2.2.2.2.2.1 o_14.2.1 o_15.1 o_15.2.1 o_15.2.2.1 o_15.2.2.2 hc_15) [0, 1, 2, 7, 9] rfl rfl rfl rfl rfl rfl ⟨Nat.le_of_ble_eq_true rfl, Nat.le_of_ble_eq_true rfl⟩ ⟨Nat.le_of_ble_eq_true rfl, Nat.le_of_ble_eq_true rfl⟩ rfl rfl (Nat.le_of_ble_eq_true rfl) dX8_planNear_160 (fun H locs hW => ?_)
        have hW : WD D A s (w_X8_planNear E h_ h_g h_kept h_past h_path h_pose h_way h_px h_py h_free h_tips h_far h_queue h_times h_turns h_names h_named h_text h_told h_spare s_hasKept s_pasts o_15.2.1 o_15.2.2.1 k1_25 o_1.1 o_14.1 s_length s_at s_error s_tolds s_number s_g o_15.2.2.2 o_1.2.2.1 o_1.2.2.2.1 o_1.2.2.2.2.1 o_1.2.2.2.2.2.1 o_1.2.2.2.2.2.2.1 o_1.2.2.2.2.2.2.2.1 o_14.2.1 o_14.2.2) H locs := hW
        refine lv_pop hx hb dX8_planNear_163 rfl ?_
        refine lv_iload_n hx hb dX8_planNear_164 rfl (lv_at hl 1 rfl) ?_
        cases hf
        exact hret dX8_planNear_165 rfl rfl hW
      · refine lv_aload_n hx hb dX8_planNear_48 rfl (lv_at hl 0 rfl) ?_
        refine lv_iconst (v := 3) hx hb dX8_planNear_49 (by decide) ?_
        obtain ⟨o_16, hc_16, hf⟩ := ob_bind hf
        refine q_callI hF hl.1 hK hA hZ hW mv_X8_fails ml_X8_86 (c_X8_fails l D E tx h_ h_g h_kept h_past h_path h_pose h_way h_px h_py h_free h_tips h_far h_queue h_times h_turns h_names h_named h_text h_told h_spare s_hasKept s_pasts s_pathMoves_25 s_spot_25 k1_25 o_1.1 o_1.2.1 s_length s_at s_error s_tolds s_number 3 o_16.1 o_16.2 hc_16) [0] rfl rfl rfl rfl rfl rfl ⟨Nat.le_of_ble_eq_true rfl, Nat.le_of_ble_eq_true rfl⟩ ⟨Nat.le_of_ble_eq_true rfl, Nat.le_of_ble_eq_true rfl⟩ rfl rfl (Nat.le_of_ble_eq_true rfl) dX8_planNear_50 (fun H locs hW => ?_)
        have hW : WD D A s (w_X8_planNear E h_ h_g h_kept h_past h_path h_pose h_way h_px h_py h_free h_tips h_far h_queue h_times h_turns h_names h_named h_text h_told h_spare s_hasKept s_pasts s_pathMoves_25 s_spot_25 o_16.2 o_1.1 o_1.2.1 s_length s_at s_error s_tolds s_number s_g s_path_25 o_1.2.2.1 o_1.2.2.2.1 o_1.2.2.2.2.1 o_1.2.2.2.2.2.1 o_1.2.2.2.2.2.2.1 o_1.2.2.2.2.2.2.2.1 o_1.2.2.2.2.2.2.2.2.1 o_1.2.2.2.2.2.2.2.2.2) H locs := hW
        cases hf
        exact hret dX8_planNear_53 rfl rfl hW
    · refine lv_iconst (v := 0) hx hb dX8_planNear_35 (by decide) ?_
      cases hf
      exact hret dX8_planNear_36 rfl rfl hW
  refine lv_aload_n hx hb dX8_planNear_0 rfl (lv_at hl 0 rfl) ?_
  refine lv_iload_n hx hb dX8_planNear_1 rfl (lv_at hl 1 rfl) ?_
  refine lv_iload_n hx hb dX8_planNear_2 rfl (lv_at hl 2 rfl) ?_
  obtain ⟨o_17, hc_17, hf⟩ := ob_bind hf
  refine q_callSI hF hl.1 hK hA hZ hW ms_X8_isCell ml_X8_109 (c_X8_isCell l D E tx x1 x2 o_17 hc_17) [] rfl rfl rfl ⟨Nat.le_of_ble_eq_true rfl, Nat.le_of_ble_eq_true rfl⟩ ⟨Nat.le_of_ble_eq_true rfl, Nat.le_of_ble_eq_true rfl⟩ rfl rfl (Nat.le_of_ble_eq_true rfl) dX8_planNear_3 (fun H locs hW => ?_)
  have hW : WD D A s (w_X8_planNear E h_ h_g h_kept h_past h_path h_pose h_way h_px h_py h_free h_tips h_far h_queue h_times h_turns h_names h_named h_text h_told h_spare s_hasKept s_pasts s_pathMoves s_spot s_thrown s_faulty s_queued s_length s_at s_error s_tolds s_number s_g s_path s_pose s_way s_px s_py s_free s_tips s_far s_queue) H locs := hW
  refine q_if_eq (tgt := 24) hx hb dX8_planNear_6 (by decide) hf (fun hf => ?_) (fun hf => ?_)
  · refine lv_iconst (v := 1) hx hb dX8_planNear_24 (by decide) ?_
    exact hL25 s_pathMoves s_spot s_thrown s_faulty s_queued s_path s_pose s_way s_px s_py s_free s_tips s_far s_queue x1 x2 1 _ _ _ hf (lv_sub hl [0, 1, 2] rfl) hW
  · refine lv_aload_n hx hb dX8_planNear_9 rfl (lv_at hl 0 rfl) ?_
    obtain ⟨o_18, hc_18, hf⟩ := ob_bind hf
    refine q_callI hF hl.1 hK hA hZ hW mv_X8_isMany ml_X8_222 (c_X8_isMany l D E tx h_ h_g h_kept h_past h_path h_pose h_way h_px h_py h_free h_tips h_far h_queue h_times h_turns h_names h_named h_text h_told h_spare s_hasKept s_pasts s_pathMoves s_spot s_thrown s_faulty s_queued s_length s_at s_error s_tolds s_number s_g o_18 hc_18) [0, 1] rfl rfl rfl rfl rfl rfl ⟨Nat.le_of_ble_eq_true rfl, Nat.le_of_ble_eq_true rfl⟩ ⟨Nat.le_of_ble_eq_true rfl, Nat.le_of_ble_eq_true rfl⟩ rfl rfl (Nat.le_of_ble_eq_true rfl) dX8_planNear_10 (fun H locs hW => ?_)
    have hW : WD D A s (w_X8_planNear E h_ h_g h_kept h_past h_path h_pose h_way h_px h_py h_free h_tips h_far h_queue h_times h_turns h_names h_named h_text h_told h_spare s_hasKept s_pasts s_pathMoves s_spot s_thrown s_faulty s_queued s_length s_at s_error s_tolds s_number s_g s_path s_pose s_way s_px s_py s_free s_tips s_far s_queue) H locs := hW
    refine q_if_eq (tgt := 20) hx hb dX8_planNear_13 (by decide) hf (fun hf => ?_) (fun hf => ?_)
    · refine lv_iconst (v := 0) hx hb dX8_planNear_20 (by decide) ?_
      refine lv_goto (tgt := 25) hx hb dX8_planNear_21 (by decide) ?_
      exact hL25 s_pathMoves s_spot s_thrown s_faulty s_queued s_path s_pose s_way s_px s_py s_free s_tips s_far s_queue x1 x2 0 _ _ _ hf (lv_sub hl [0, 1, 2] rfl) hW
    · refine lv_iconst (v := 2) hx hb dX8_planNear_16 (by decide) ?_
      refine lv_goto (tgt := 25) hx hb dX8_planNear_17 (by decide) ?_
      exact hL25 s_pathMoves s_spot s_thrown s_faulty s_queued s_path s_pose s_way s_px s_py s_free s_tips s_far s_queue x1 x2 2 _ _ _ hf (lv_sub hl [0, 1, 2] rfl) hW
def w_X8_pathLength (E : Nat → ClassId) (h_ h_g h_kept h_past h_path h_pose h_way h_px h_py h_free h_tips h_far h_queue h_times h_turns h_names h_named h_text h_told h_spare : Nat) (s_hasKept : Int32) (s_pasts : Int32) (s_pathMoves : Int32) (s_spot : Int32) (s_thrown : Int32) (s_faulty : Int32) (s_queued : Int32) (s_length : Int32) (s_at : Int32) (s_error : Int32) (s_tolds : Int32) (s_number : Int32) : va_W := [(h_, .inr (10, [.ref h_g, .ref h_kept, .int s_hasKept, .ref h_past, .int s_pasts, .ref h_path, .int s_pathMoves, .int s_spot, .int s_thrown, .ref h_pose, .ref h_way, .ref h_px, .ref h_py, .int s_faulty, .ref h_free, .ref h_tips, .ref h_far, .ref h_queue, .int s_queued, .ref h_times, .ref h_turns, .ref h_names, .ref h_named, .ref h_text, .int s_length, .int s_at, .int s_error, .ref h_told, .int s_tolds, .int s_number, .ref h_spare]))]
set_option maxHeartbeats 4000000 in
set_option maxRecDepth 100000 in
theorem c_X8_pathLength (l : Launch) (D : va_G) (E : Nat → ClassId) (tx : List (Nat × String)) (h_ h_g h_kept h_past h_path h_pose h_way h_px h_py h_free h_tips h_far h_queue h_times h_turns h_names h_named h_text h_told h_spare : Nat) (s_hasKept : Int32) (s_pasts : Int32) (s_pathMoves : Int32) (s_spot : Int32) (s_thrown : Int32) (s_faulty : Int32) (s_queued : Int32) (s_length : Int32) (s_at : Int32) (s_error : Int32) (s_tolds : Int32) (s_number : Int32)  (r0 : Int32) (r1 : Int32) (hf : f_X8_pathLength s_pathMoves s_thrown = some (r0, r1)) : CI l yX8_pathLength cX8_pathLength 1 (some .int) 0 0 D E tx [.ref h_] (w_X8_pathLength E h_ h_g h_kept h_past h_path h_pose h_way h_px h_py h_free h_tips h_far h_queue h_times h_turns h_names h_named h_text h_told h_spare s_hasKept s_pasts s_pathMoves s_spot s_thrown s_faulty s_queued s_length s_at s_error s_tolds s_number) (w_X8_pathLength E h_ h_g h_kept h_past h_path h_pose h_way h_px h_py h_free h_tips h_far h_queue h_times h_turns h_names h_named h_text h_told h_spare s_hasKept s_pasts s_pathMoves s_spot r1 s_faulty s_queued s_length s_at s_error s_tolds s_number) r0 := by
  refine CI_of RX8 pn_X8 rfl (Nat.le_of_ble_eq_true rfl) (fun p e s m args below meth c A Q hF hK hA hZ hW hret ls hl => ?_)
  have hx := hF.1
  have hb := hF.2.1
  have hl : lv_has ls 1 [(0, .ref h_)] := hl
  unfold f_X8_pathLength at hf
  have hL13 : ∀ (s_thrown_13 : Int32) (k1_13 : Int32) (H : Heap) (locs : List Loc) (ls : Array Slot), f_X8_pathLength_L13 s_pathMoves s_thrown_13 k1_13 = some (r0, r1) → lv_has ls 1 [(0, .ref h_)] → WD D A s (w_X8_pathLength E h_ h_g h_kept h_past h_path h_pose h_way h_px h_py h_free h_tips h_far h_queue h_times h_turns h_names h_named h_text h_told h_spare s_hasKept s_pasts s_pathMoves s_spot s_thrown_13 s_faulty s_queued s_length s_at s_error s_tolds s_number) H locs → W p l e (RM 0 0) s m args below meth c H locs 0 0 Q (F0 m 13 ls [.int k1_13, .ref h_]) := by
    intro s_thrown_13 k1_13 H locs ls hf hl hW
    unfold f_X8_pathLength_L13 at hf
    refine q_put hF hK hW fl_X8_76 ft_X8 rfl 0 rfl rfl rfl (Nat.le_of_ble_eq_true rfl) dX8_pathLength_13 (fun H locs hW => ?_)
    have hW : WD D A s (w_X8_pathLength E h_ h_g h_kept h_past h_path h_pose h_way h_px h_py h_free h_tips h_far h_queue h_times h_turns h_names h_named h_text h_told h_spare s_hasKept s_pasts s_pathMoves s_spot k1_13 s_faulty s_queued s_length s_at s_error s_tolds s_number) H locs := hW
    refine lv_aload_n hx hb dX8_pathLength_16 rfl (lv_at hl 0 rfl) ?_
    refine q_get hF hK hW fl_X8_76 0 rfl rfl dX8_pathLength_17 ?_
    refine q_if_le (tgt := 27) hx hb dX8_pathLength_20 (by decide) hf (fun hf => ?_) (fun hf => ?_)
    · refine lv_aload_n hx hb dX8_pathLength_27 rfl (lv_at hl 0 rfl) ?_
      refine q_get hF hK hW fl_X8_22 0 rfl rfl dX8_pathLength_28 ?_
      cases hf
      exact hret dX8_pathLength_31 rfl rfl hW
    · refine lv_iconst (v := 0) hx hb dX8_pathLength_23 (by decide) ?_
      refine lv_goto (tgt := 31) hx hb dX8_pathLength_24 (by decide) ?_
      cases hf
      exact hret dX8_pathLength_31 rfl rfl hW
  refine lv_aload_n hx hb dX8_pathLength_0 rfl (lv_at hl 0 rfl) ?_
  refine lv_aload_n hx hb dX8_pathLength_1 rfl (lv_at hl 0 rfl) ?_
  refine q_get hF hK hW fl_X8_22 0 rfl rfl dX8_pathLength_2 ?_
  refine q_if_ge (tgt := 12) hx hb dX8_pathLength_5 (by decide) hf (fun hf => ?_) (fun hf => ?_)
  · refine lv_iconst (v := 0) hx hb dX8_pathLength_12 (by decide) ?_
    exact hL13 s_thrown 0 _ _ _ hf (lv_sub hl [0] rfl) hW
  · refine lv_iconst (v := 1) hx hb dX8_pathLength_8 (by decide) ?_
    refine lv_goto (tgt := 13) hx hb dX8_pathLength_9 (by decide) ?_
    exact hL13 s_thrown 1 _ _ _ hf (lv_sub hl [0] rfl) hW
def w_X8_pathMove (E : Nat → ClassId) (h_ h_g h_kept h_past h_path h_pose h_way h_px h_py h_free h_tips h_far h_queue h_times h_turns h_names h_named h_text h_told h_spare : Nat) (s_hasKept : Int32) (s_pasts : Int32) (s_pathMoves : Int32) (s_spot : Int32) (s_thrown : Int32) (s_faulty : Int32) (s_queued : Int32) (s_length : Int32) (s_at : Int32) (s_error : Int32) (s_tolds : Int32) (s_number : Int32) (s_path : Nat → Int32) : va_W := [(h_, .inr (10, [.ref h_g, .ref h_kept, .int s_hasKept, .ref h_past, .int s_pasts, .ref h_path, .int s_pathMoves, .int s_spot, .int s_thrown, .ref h_pose, .ref h_way, .ref h_px, .ref h_py, .int s_faulty, .ref h_free, .ref h_tips, .ref h_far, .ref h_queue, .int s_queued, .ref h_times, .ref h_turns, .ref h_names, .ref h_named, .ref h_text, .int s_length, .int s_at, .int s_error, .ref h_told, .int s_tolds, .int s_number, .ref h_spare])), (h_path, .inl (E 0, 5000, .inl s_path))]
set_option maxHeartbeats 4000000 in
set_option maxRecDepth 100000 in
theorem c_X8_pathMove (l : Launch) (D : va_G) (E : Nat → ClassId) (tx : List (Nat × String)) (h_ h_g h_kept h_past h_path h_pose h_way h_px h_py h_free h_tips h_far h_queue h_times h_turns h_names h_named h_text h_told h_spare : Nat) (s_hasKept : Int32) (s_pasts : Int32) (s_pathMoves : Int32) (s_spot : Int32) (s_thrown : Int32) (s_faulty : Int32) (s_queued : Int32) (s_length : Int32) (s_at : Int32) (s_error : Int32) (s_tolds : Int32) (s_number : Int32) (s_path : Nat → Int32) (x1 : Int32) (r0 : Int32) (r1 : Int32) (hf : f_X8_pathMove s_pathMoves s_thrown s_path x1 = some (r0, r1)) : CI l yX8_pathMove cX8_pathMove 2 (some .int) 1 22 D E tx [.ref h_, .int x1] (w_X8_pathMove E h_ h_g h_kept h_past h_path h_pose h_way h_px h_py h_free h_tips h_far h_queue h_times h_turns h_names h_named h_text h_told h_spare s_hasKept s_pasts s_pathMoves s_spot s_thrown s_faulty s_queued s_length s_at s_error s_tolds s_number s_path) (w_X8_pathMove E h_ h_g h_kept h_past h_path h_pose h_way h_px h_py h_free h_tips h_far h_queue h_times h_turns h_names h_named h_text h_told h_spare s_hasKept s_pasts s_pathMoves s_spot r1 s_faulty s_queued s_length s_at s_error s_tolds s_number s_path) r0 := by
  refine CI_of RX8 pn_X8 rfl (Nat.le_of_ble_eq_true rfl) (fun p e s m args below meth c A Q hF hK hA hZ hW hret ls hl => ?_)
  have hx := hF.1
  have hb := hF.2.1
  have hl : lv_has ls 2 [(0, .ref h_), (1, .int x1)] := hl
  unfold f_X8_pathMove at hf
  have hL20 : ∀ (s_thrown_20 : Int32) (y1_20 : Int32) (k1_20 : Int32) (H : Heap) (locs : List Loc) (ls : Array Slot), f_X8_pathMove_L20 s_pathMoves s_thrown_20 s_path y1_20 k1_20 = some (r0, r1) → lv_has ls 2 [(0, .ref h_), (1, .int y1_20)] → WD D A s (w_X8_pathMove E h_ h_g h_kept h_past h_path h_pose h_way h_px h_py h_free h_tips h_far h_queue h_times h_turns h_names h_named h_text h_told h_spare s_hasKept s_pasts s_pathMoves s_spot s_thrown_20 s_faulty s_queued s_length s_at s_error s_tolds s_number s_path) H locs → W p l e (RM 1 22) s m args below meth c H locs 0 0 Q (F0 m 20 ls [.int k1_20, .ref h_]) := by
    intro s_thrown_20 y1_20 k1_20 H locs ls hf hl hW
    unfold f_X8_pathMove_L20 at hf
    refine q_put hF hK hW fl_X8_76 ft_X8 rfl 0 rfl rfl rfl (Nat.le_of_ble_eq_true rfl) dX8_pathMove_20 (fun H locs hW => ?_)
    have hW : WD D A s (w_X8_pathMove E h_ h_g h_kept h_past h_path h_pose h_way h_px h_py h_free h_tips h_far h_queue h_times h_turns h_names h_named h_text h_told h_spare s_hasKept s_pasts s_pathMoves s_spot k1_20 s_faulty s_queued s_length s_at s_error s_tolds s_number s_path) H locs := hW
    refine lv_aload_n hx hb dX8_pathMove_23 rfl (lv_at hl 0 rfl) ?_
    refine q_get hF hK hW fl_X8_76 0 rfl rfl dX8_pathMove_24 ?_
    refine q_if_le (tgt := 34) hx hb dX8_pathMove_27 (by decide) hf (fun hf => ?_) (fun hf => ?_)
    · refine lv_aload_n hx hb dX8_pathMove_34 rfl (lv_at hl 0 rfl) ?_
      refine q_get hF hK hW fl_X8_19 0 rfl rfl dX8_pathMove_35 ?_
      refine lv_iload_n hx hb dX8_pathMove_38 rfl (lv_at hl 1 rfl) ?_
      refine q_iald hx hb hK hW 1 0 rfl rfl dX8_pathMove_39 hf (fun hf => ?_)
      cases hf
      exact hret dX8_pathMove_40 rfl rfl hW
    · refine lv_iconst (v := 0) hx hb dX8_pathMove_30 (by decide) ?_
      refine lv_goto (tgt := 40) hx hb dX8_pathMove_31 (by decide) ?_
      cases hf
      exact hret dX8_pathMove_40 rfl rfl hW
  refine lv_aload_n hx hb dX8_pathMove_0 rfl (lv_at hl 0 rfl) ?_
  refine lv_iload_n hx hb dX8_pathMove_1 rfl (lv_at hl 1 rfl) ?_
  refine lv_iconst (v := 0) hx hb dX8_pathMove_2 (by decide) ?_
  refine lv_aload_n hx hb dX8_pathMove_3 rfl (lv_at hl 0 rfl) ?_
  refine q_get hF hK hW fl_X8_22 0 rfl rfl dX8_pathMove_4 ?_
  refine lv_iconst (v := 1) hx hb dX8_pathMove_7 (by decide) ?_
  refine lv_isub hx hb dX8_pathMove_8 ?_
  obtain ⟨o_1, hc_1, hf⟩ := ob_bind hf
  refine q_callSI hF hl.1 hK hA hZ hW ms_X8_in ml_X8_79 (c_X8_in l D E tx x1 0 (s_pathMoves - 1) o_1 hc_1) [] rfl rfl rfl ⟨Nat.le_of_ble_eq_true rfl, Nat.le_of_ble_eq_true rfl⟩ ⟨Nat.le_of_ble_eq_true rfl, Nat.le_of_ble_eq_true rfl⟩ rfl rfl (Nat.le_of_ble_eq_true rfl) dX8_pathMove_9 (fun H locs hW => ?_)
  have hW : WD D A s (w_X8_pathMove E h_ h_g h_kept h_past h_path h_pose h_way h_px h_py h_free h_tips h_far h_queue h_times h_turns h_names h_named h_text h_told h_spare s_hasKept s_pasts s_pathMoves s_spot s_thrown s_faulty s_queued s_length s_at s_error s_tolds s_number s_path) H locs := hW
  refine q_if_eq (tgt := 19) hx hb dX8_pathMove_12 (by decide) hf (fun hf => ?_) (fun hf => ?_)
  · refine lv_iconst (v := 1) hx hb dX8_pathMove_19 (by decide) ?_
    exact hL20 s_thrown x1 1 _ _ _ hf (lv_sub hl [0, 1] rfl) hW
  · refine lv_iconst (v := 0) hx hb dX8_pathMove_15 (by decide) ?_
    refine lv_goto (tgt := 20) hx hb dX8_pathMove_16 (by decide) ?_
    exact hL20 s_thrown x1 0 _ _ _ hf (lv_sub hl [0, 1] rfl) hW
def w_X8_pathChanges (E : Nat → ClassId) (h_ h_g h_kept h_past h_path h_pose h_way h_px h_py h_free h_tips h_far h_queue h_times h_turns h_names h_named h_text h_told h_spare : Nat) (s_hasKept : Int32) (s_pasts : Int32) (s_pathMoves : Int32) (s_spot : Int32) (s_thrown : Int32) (s_faulty : Int32) (s_queued : Int32) (s_length : Int32) (s_at : Int32) (s_error : Int32) (s_tolds : Int32) (s_number : Int32) (s_path : Nat → Int32) : va_W := [(h_, .inr (10, [.ref h_g, .ref h_kept, .int s_hasKept, .ref h_past, .int s_pasts, .ref h_path, .int s_pathMoves, .int s_spot, .int s_thrown, .ref h_pose, .ref h_way, .ref h_px, .ref h_py, .int s_faulty, .ref h_free, .ref h_tips, .ref h_far, .ref h_queue, .int s_queued, .ref h_times, .ref h_turns, .ref h_names, .ref h_named, .ref h_text, .int s_length, .int s_at, .int s_error, .ref h_told, .int s_tolds, .int s_number, .ref h_spare])), (h_path, .inl (E 0, 5000, .inl s_path))]
set_option maxHeartbeats 4000000 in
set_option maxRecDepth 100000 in
theorem c_X8_pathChanges (l : Launch) (D : va_G) (E : Nat → ClassId) (tx : List (Nat × String)) (h_ h_g h_kept h_past h_path h_pose h_way h_px h_py h_free h_tips h_far h_queue h_times h_turns h_names h_named h_text h_told h_spare : Nat) (s_hasKept : Int32) (s_pasts : Int32) (s_pathMoves : Int32) (s_spot : Int32) (s_thrown : Int32) (s_faulty : Int32) (s_queued : Int32) (s_length : Int32) (s_at : Int32) (s_error : Int32) (s_tolds : Int32) (s_number : Int32) (s_path : Nat → Int32)  (r0 : Int32) (r1 : Int32) (hf : f_X8_pathChanges s_pathMoves s_thrown s_path = some (r0, r1)) : CI l yX8_pathChanges cX8_pathChanges 1 (some .int) 1 22 D E tx [.ref h_] (w_X8_pathChanges E h_ h_g h_kept h_past h_path h_pose h_way h_px h_py h_free h_tips h_far h_queue h_times h_turns h_names h_named h_text h_told h_spare s_hasKept s_pasts s_pathMoves s_spot s_thrown s_faulty s_queued s_length s_at s_error s_tolds s_number s_path) (w_X8_pathChanges E h_ h_g h_kept h_past h_path h_pose h_way h_px h_py h_free h_tips h_far h_queue h_times h_turns h_names h_named h_text h_told h_spare s_hasKept s_pasts s_pathMoves s_spot r1 s_faulty s_queued s_length s_at s_error s_tolds s_number s_path) r0 := by
  refine CI_of RX8 pn_X8 rfl (Nat.le_of_ble_eq_true rfl) (fun p e s m args below meth c A Q hF hK hA hZ hW hret ls hl => ?_)
  have hx := hF.1
  have hb := hF.2.1
  have hl : lv_has ls 1 [(0, .ref h_)] := hl
  unfold f_X8_pathChanges at hf
  have hL13 : ∀ (s_thrown_13 : Int32) (k1_13 : Int32) (H : Heap) (locs : List Loc) (ls : Array Slot), f_X8_pathChanges_L13 s_pathMoves s_thrown_13 s_path k1_13 = some (r0, r1) → lv_has ls 1 [(0, .ref h_)] → WD D A s (w_X8_pathChanges E h_ h_g h_kept h_past h_path h_pose h_way h_px h_py h_free h_tips h_far h_queue h_times h_turns h_names h_named h_text h_told h_spare s_hasKept s_pasts s_pathMoves s_spot s_thrown_13 s_faulty s_queued s_length s_at s_error s_tolds s_number s_path) H locs → W p l e (RM 1 22) s m args below meth c H locs 0 0 Q (F0 m 13 ls [.int k1_13, .ref h_]) := by
    intro s_thrown_13 k1_13 H locs ls hf hl hW
    unfold f_X8_pathChanges_L13 at hf
    refine q_put hF hK hW fl_X8_76 ft_X8 rfl 0 rfl rfl rfl (Nat.le_of_ble_eq_true rfl) dX8_pathChanges_13 (fun H locs hW => ?_)
    have hW : WD D A s (w_X8_pathChanges E h_ h_g h_kept h_past h_path h_pose h_way h_px h_py h_free h_tips h_far h_queue h_times h_turns h_names h_named h_text h_told h_spare s_hasKept s_pasts s_pathMoves s_spot k1_13 s_faulty s_queued s_length s_at s_error s_tolds s_number s_path) H locs := hW
    refine lv_aload_n hx hb dX8_pathChanges_16 rfl (lv_at hl 0 rfl) ?_
    refine q_get hF hK hW fl_X8_76 0 rfl rfl dX8_pathChanges_17 ?_
    refine q_if_le (tgt := 27) hx hb dX8_pathChanges_20 (by decide) hf (fun hf => ?_) (fun hf => ?_)
    · refine lv_aload_n hx hb dX8_pathChanges_27 rfl (lv_at hl 0 rfl) ?_
      obtain ⟨o_1, hc_1, hf⟩ := ob_bind hf
      refine q_callI hF hl.1 hK hA hZ hW mv_X8_changesOf ml_X8_273 (c_X8_changesOf l D E tx h_ h_g h_kept h_past h_path h_pose h_way h_px h_py h_free h_tips h_far h_queue h_times h_turns h_names h_named h_text h_told h_spare s_hasKept s_pasts s_pathMoves s_spot k1_13 s_faulty s_queued s_length s_at s_error s_tolds s_number s_path o_1 hc_1) [0, 1] rfl rfl rfl rfl rfl rfl ⟨Nat.le_of_ble_eq_true rfl, Nat.le_of_ble_eq_true rfl⟩ ⟨Nat.le_of_ble_eq_true rfl, Nat.le_of_ble_eq_true rfl⟩ rfl rfl (Nat.le_of_ble_eq_true rfl) dX8_pathChanges_28 (fun H locs hW => ?_)
      have hW : WD D A s (w_X8_pathChanges E h_ h_g h_kept h_past h_path h_pose h_way h_px h_py h_free h_tips h_far h_queue h_times h_turns h_names h_named h_text h_told h_spare s_hasKept s_pasts s_pathMoves s_spot k1_13 s_faulty s_queued s_length s_at s_error s_tolds s_number s_path) H locs := hW
      cases hf
      exact hret dX8_pathChanges_31 rfl rfl hW
    · refine lv_iconst (v := 0) hx hb dX8_pathChanges_23 (by decide) ?_
      refine lv_goto (tgt := 31) hx hb dX8_pathChanges_24 (by decide) ?_
      cases hf
      exact hret dX8_pathChanges_31 rfl rfl hW
  refine lv_aload_n hx hb dX8_pathChanges_0 rfl (lv_at hl 0 rfl) ?_
  refine lv_aload_n hx hb dX8_pathChanges_1 rfl (lv_at hl 0 rfl) ?_
  refine q_get hF hK hW fl_X8_22 0 rfl rfl dX8_pathChanges_2 ?_
  refine q_if_ge (tgt := 12) hx hb dX8_pathChanges_5 (by decide) hf (fun hf => ?_) (fun hf => ?_)
  · refine lv_iconst (v := 0) hx hb dX8_pathChanges_12 (by decide) ?_
    exact hL13 s_thrown 0 _ _ _ hf (lv_sub hl [0] rfl) hW
  · refine lv_iconst (v := 1) hx hb dX8_pathChanges_8 (by decide) ?_
    refine lv_goto (tgt := 13) hx hb dX8_pathChanges_9 (by decide) ?_
    exact hL13 s_thrown 1 _ _ _ hf (lv_sub hl [0] rfl) hW
def w_X8_follow (E : Nat → ClassId) (h_ h_g h_kept h_past h_path h_pose h_way h_px h_py h_free h_tips h_far h_queue h_times h_turns h_names h_named h_text h_told h_spare : Nat) (s_hasKept : Int32) (s_pasts : Int32) (s_pathMoves : Int32) (s_spot : Int32) (s_thrown : Int32) (s_faulty : Int32) (s_queued : Int32) (s_length : Int32) (s_at : Int32) (s_error : Int32) (s_tolds : Int32) (s_number : Int32) (s_g : Nat → Int32) (s_path : Nat → Int32) : va_W := [(h_, .inr (10, [.ref h_g, .ref h_kept, .int s_hasKept, .ref h_past, .int s_pasts, .ref h_path, .int s_pathMoves, .int s_spot, .int s_thrown, .ref h_pose, .ref h_way, .ref h_px, .ref h_py, .int s_faulty, .ref h_free, .ref h_tips, .ref h_far, .ref h_queue, .int s_queued, .ref h_times, .ref h_turns, .ref h_names, .ref h_named, .ref h_text, .int s_length, .int s_at, .int s_error, .ref h_told, .int s_tolds, .int s_number, .ref h_spare])), (h_g, .inl (E 0, 141, .inl s_g)), (h_path, .inl (E 0, 5000, .inl s_path))]
set_option maxHeartbeats 4000000 in
set_option maxRecDepth 100000 in
theorem c_X8_follow (l : Launch) (D : va_G) (E : Nat → ClassId) (tx : List (Nat × String)) (h_ h_g h_kept h_past h_path h_pose h_way h_px h_py h_free h_tips h_far h_queue h_times h_turns h_names h_named h_text h_told h_spare : Nat) (s_hasKept : Int32) (s_pasts : Int32) (s_pathMoves : Int32) (s_spot : Int32) (s_thrown : Int32) (s_faulty : Int32) (s_queued : Int32) (s_length : Int32) (s_at : Int32) (s_error : Int32) (s_tolds : Int32) (s_number : Int32) (s_g : Nat → Int32) (s_path : Nat → Int32) (x1 : Int32) (r0 : Int32) (r1 : Int32) (r2 : Int32) (r3 : Nat → Int32) (hf : f_X8_follow s_pathMoves s_spot s_thrown s_g s_path x1 = some (r0, r1, r2, r3)) : CI l yX8_follow cX8_follow 3 (some .int) 1 21 D E tx [.ref h_, .int x1] (w_X8_follow E h_ h_g h_kept h_past h_path h_pose h_way h_px h_py h_free h_tips h_far h_queue h_times h_turns h_names h_named h_text h_told h_spare s_hasKept s_pasts s_pathMoves s_spot s_thrown s_faulty s_queued s_length s_at s_error s_tolds s_number s_g s_path) (w_X8_follow E h_ h_g h_kept h_past h_path h_pose h_way h_px h_py h_free h_tips h_far h_queue h_times h_turns h_names h_named h_text h_told h_spare s_hasKept s_pasts s_pathMoves r1 r2 s_faulty s_queued s_length s_at s_error s_tolds s_number r3 s_path) r0 := by
  refine CI_of RX8 pn_X8 rfl (Nat.le_of_ble_eq_true rfl) (fun p e s m args below meth c A Q hF hK hA hZ hW hret ls hl => ?_)
  have hx := hF.1
  have hb := hF.2.1
  have hl : lv_has ls 3 [(0, .ref h_), (1, .int x1)] := hl
  unfold f_X8_follow at hf
  have hL21 : ∀ (s_spot_21 : Int32) (s_thrown_21 : Int32) (s_g_21 : Nat → Int32) (y1_21 : Int32) (k1_21 : Int32) (H : Heap) (locs : List Loc) (ls : Array Slot), f_X8_follow_L21 s_pathMoves s_spot_21 s_thrown_21 s_g_21 s_path y1_21 k1_21 = some (r0, r1, r2, r3) → lv_has ls 3 [(0, .ref h_), (1, .int y1_21)] → WD D A s (w_X8_follow E h_ h_g h_kept h_past h_path h_pose h_way h_px h_py h_free h_tips h_far h_queue h_times h_turns h_names h_named h_text h_told h_spare s_hasKept s_pasts s_pathMoves s_spot_21 s_thrown_21 s_faulty s_queued s_length s_at s_error s_tolds s_number s_g_21 s_path) H locs → W p l e (RM 1 21) s m args below meth c H locs 0 0 Q (F0 m 21 ls [.int k1_21, .ref h_]) := by
    intro s_spot_21 s_thrown_21 s_g_21 y1_21 k1_21 H locs ls hf hl hW
    unfold f_X8_follow_L21 at hf
    refine q_put hF hK hW fl_X8_76 ft_X8 rfl 0 rfl rfl rfl (Nat.le_of_ble_eq_true rfl) dX8_follow_21 (fun H locs hW => ?_)
    have hW : WD D A s (w_X8_follow E h_ h_g h_kept h_past h_path h_pose h_way h_px h_py h_free h_tips h_far h_queue h_times h_turns h_names h_named h_text h_told h_spare s_hasKept s_pasts s_pathMoves s_spot_21 k1_21 s_faulty s_queued s_length s_at s_error s_tolds s_number s_g_21 s_path) H locs := hW
    refine lv_iconst (v := 0) hx hb dX8_follow_24 (by decide) ?_
    refine lv_istore_n (lv' := [(2, .int 0), (0, .ref h_), (1, .int y1_21)]) hx hb dX8_follow_25 rfl hl (by decide) rfl (fun ls hl => ?_)
    have hB26 : ∀ (n : Nat) (s_spot_26 : Int32) (s_g_26 : Nat → Int32) (z2_26 : Int32) (ex : Int32 × (Nat → Int32)) (H : Heap) (locs : List Loc) (ls : Array Slot), LPF (fun z => f_X8_follow_B26 s_pathMoves z.1 k1_21 z.2.1 s_path y1_21 z.2.2) n (s_spot_26, s_g_26, z2_26) = some ex → lv_has ls 3 [(0, .ref h_), (1, .int y1_21), (2, .int z2_26)] → WD D A s (w_X8_follow E h_ h_g h_kept h_past h_path h_pose h_way h_px h_py h_free h_tips h_far h_queue h_times h_turns h_names h_named h_text h_told h_spare s_hasKept s_pasts s_pathMoves s_spot_26 k1_21 s_faulty s_queued s_length s_at s_error s_tolds s_number s_g_26 s_path) H locs → (∀ (H : Heap) (locs : List Loc) (ls : Array Slot), lv_has ls 3 [(0, .ref h_)] → WD D A s (w_X8_follow E h_ h_g h_kept h_past h_path h_pose h_way h_px h_py h_free h_tips h_far h_queue h_times h_turns h_names h_named h_text h_told h_spare s_hasKept s_pasts s_pathMoves ex.1 k1_21 s_faulty s_queued s_length s_at s_error s_tolds s_number ex.2 s_path) H locs → W p l e (RM 1 21) s m args below meth c H locs 0 0 Q (F0 m 78 ls [])) → W p l e (RM 1 21) s m args below meth c H locs 0 0 Q (F0 m 26 ls []) := by
      intro n
      induction n with
      | zero => intro s_spot_26 s_g_26 z2_26 ex H locs ls h9; exact (ob_lp0 h9).elim
      | succ n ih =>
        intro s_spot_26 s_g_26 z2_26 ex H locs ls h9 hl hW kx0
        obtain ⟨q9, hf, h9, k9⟩ := ob_lp h9
        have hf : f_X8_follow_B26 s_pathMoves s_spot_26 k1_21 s_g_26 s_path y1_21 z2_26 = some q9 := hf
        unfold f_X8_follow_B26 at hf
        refine lv_iload_n hx hb dX8_follow_26 rfl (lv_at hl 2 rfl) ?_
        refine lv_iload_n hx hb dX8_follow_27 rfl (lv_at hl 1 rfl) ?_
        refine q_icmp_ge (tgt := 78) hx hb dX8_follow_28 (by decide) hf (fun hf => ?_) (fun hf => ?_)
        · cases hf
          have hx9 := k9 _ rfl
          subst hx9
          exact kx0 _ _ _ (lv_sub hl [0] rfl) hW
        · refine lv_aload_n hx hb dX8_follow_31 rfl (lv_at hl 0 rfl) ?_
          refine q_get hF hK hW fl_X8_76 0 rfl rfl dX8_follow_32 ?_
          refine q_if_ne (tgt := 78) hx hb dX8_follow_35 (by decide) hf (fun hf => ?_) (fun hf => ?_)
          · cases hf
            have hx9 := k9 _ rfl
            subst hx9
            exact kx0 _ _ _ (lv_sub hl [0] rfl) hW
          · refine lv_aload_n hx hb dX8_follow_38 rfl (lv_at hl 0 rfl) ?_
            refine q_get hF hK hW fl_X8_252 0 rfl rfl dX8_follow_39 ?_
            refine lv_aload_n hx hb dX8_follow_42 rfl (lv_at hl 0 rfl) ?_
            refine q_get hF hK hW fl_X8_22 0 rfl rfl dX8_follow_43 ?_
            refine q_icmp_ge (tgt := 78) hx hb dX8_follow_46 (by decide) hf (fun hf => ?_) (fun hf => ?_)
            · cases hf
              have hx9 := k9 _ rfl
              subst hx9
              exact kx0 _ _ _ (lv_sub hl [0] rfl) hW
            · refine lv_aload_n hx hb dX8_follow_49 rfl (lv_at hl 0 rfl) ?_
              refine lv_aload_n hx hb dX8_follow_50 rfl (lv_at hl 0 rfl) ?_
              refine q_get hF hK hW fl_X8_19 0 rfl rfl dX8_follow_51 ?_
              refine lv_aload_n hx hb dX8_follow_54 rfl (lv_at hl 0 rfl) ?_
              refine q_get hF hK hW fl_X8_252 0 rfl rfl dX8_follow_55 ?_
              refine q_iald hx hb hK hW 2 0 rfl rfl dX8_follow_58 hf (fun hf => ?_)
              obtain ⟨o_1, hc_1, hf⟩ := ob_bind hf
              refine q_callV hF hl.1 hK hA hZ hW mv_X8_turnsTo ml_X8_209 (c_X8_turnsTo l D E tx h_ h_g h_kept h_past h_path h_pose h_way h_px h_py h_free h_tips h_far h_queue h_times h_turns h_names h_named h_text h_told h_spare s_hasKept s_pasts s_pathMoves s_spot_26 k1_21 s_faulty s_queued s_length s_at s_error s_tolds s_number s_g_26 (s_path s_spot_26.toNatClampNeg) o_1 hc_1) [0, 1] rfl rfl rfl rfl rfl rfl ⟨Nat.le_of_ble_eq_true rfl, Nat.le_of_ble_eq_true rfl⟩ ⟨Nat.le_of_ble_eq_true rfl, Nat.le_of_ble_eq_true rfl⟩ rfl rfl (Nat.le_of_ble_eq_true rfl) dX8_follow_59 (fun H locs hW => ?_)
              have hW : WD D A s (w_X8_follow E h_ h_g h_kept h_past h_path h_pose h_way h_px h_py h_free h_tips h_far h_queue h_times h_turns h_names h_named h_text h_told h_spare s_hasKept s_pasts s_pathMoves s_spot_26 k1_21 s_faulty s_queued s_length s_at s_error s_tolds s_number o_1 s_path) H locs := hW
              refine lv_aload_n hx hb dX8_follow_62 rfl (lv_at hl 0 rfl) ?_
              refine lv_dup hx hb dX8_follow_63 rfl ?_
              refine q_get hF hK hW fl_X8_252 0 rfl rfl dX8_follow_64 ?_
              refine lv_iconst (v := 1) hx hb dX8_follow_67 (by decide) ?_
              refine lv_iadd hx hb dX8_follow_68 ?_
              refine lv_topi (fun v_2 ev_2 => ?_)
              replace hf := ob_let hf ev_2
              refine q_put hF hK hW fl_X8_252 ft_X8 rfl 0 rfl rfl rfl (Nat.le_of_ble_eq_true rfl) dX8_follow_69 (fun H locs hW => ?_)
              have hW : WD D A s (w_X8_follow E h_ h_g h_kept h_past h_path h_pose h_way h_px h_py h_free h_tips h_far h_queue h_times h_turns h_names h_named h_text h_told h_spare s_hasKept s_pasts s_pathMoves v_2 k1_21 s_faulty s_queued s_length s_at s_error s_tolds s_number o_1 s_path) H locs := hW
              obtain ⟨v_3, ev_3⟩ : ∃ y : Int32, y = z2_26 + 1 := ⟨_, rfl⟩
              replace hf := ob_let hf ev_3
              refine lv_iinc (v := v_3) (lv' := [(2, .int v_3), (0, .ref h_), (1, .int y1_21)]) hx hb dX8_follow_72 hl (k := 2) rfl (by rw [ev_3]; rfl) (by decide) rfl (fun ls hl => ?_)
              refine lv_goto (tgt := 26) hx hb dX8_follow_75 (by decide) ?_
              cases hf
              exact ih v_2 o_1 v_3 ex _ _ _ (h9 _ rfl) (lv_sub hl [1, 2, 0] rfl) hW kx0
    obtain ⟨e_4, hc_4, hf⟩ := ob_bind hf
    refine hB26 lfuel s_spot_21 s_g_21 0 e_4 _ _ _ hc_4 (lv_sub hl [1, 2, 0] rfl) hW ?_
    intro H locs ls hl hW
    refine lv_aload_n hx hb dX8_follow_78 rfl (lv_at hl 0 rfl) ?_
    refine q_get hF hK hW fl_X8_76 0 rfl rfl dX8_follow_79 ?_
    refine q_if_le (tgt := 89) hx hb dX8_follow_82 (by decide) hf (fun hf => ?_) (fun hf => ?_)
    · refine lv_aload_n hx hb dX8_follow_89 rfl (lv_at hl 0 rfl) ?_
      refine q_get hF hK hW fl_X8_22 0 rfl rfl dX8_follow_90 ?_
      refine lv_aload_n hx hb dX8_follow_93 rfl (lv_at hl 0 rfl) ?_
      refine q_get hF hK hW fl_X8_252 0 rfl rfl dX8_follow_94 ?_
      refine lv_isub hx hb dX8_follow_97 ?_
      cases hf
      exact hret dX8_follow_98 rfl rfl hW
    · refine lv_iconst (v := 0) hx hb dX8_follow_85 (by decide) ?_
      refine lv_goto (tgt := 98) hx hb dX8_follow_86 (by decide) ?_
      cases hf
      exact hret dX8_follow_98 rfl rfl hW
  refine lv_aload_n hx hb dX8_follow_0 rfl (lv_at hl 0 rfl) ?_
  refine lv_iload_n hx hb dX8_follow_1 rfl (lv_at hl 1 rfl) ?_
  refine q_if_ge (tgt := 9) hx hb dX8_follow_2 (by decide) hf (fun hf => ?_) (fun hf => ?_)
  · refine lv_aload_n hx hb dX8_follow_9 rfl (lv_at hl 0 rfl) ?_
    refine q_get hF hK hW fl_X8_22 0 rfl rfl dX8_follow_10 ?_
    refine q_if_ge (tgt := 20) hx hb dX8_follow_13 (by decide) hf (fun hf => ?_) (fun hf => ?_)
    · refine lv_iconst (v := 0) hx hb dX8_follow_20 (by decide) ?_
      exact hL21 s_spot s_thrown s_g x1 0 _ _ _ hf (lv_sub hl [0, 1] rfl) hW
    · refine lv_iconst (v := 2) hx hb dX8_follow_16 (by decide) ?_
      refine lv_goto (tgt := 21) hx hb dX8_follow_17 (by decide) ?_
      exact hL21 s_spot s_thrown s_g x1 2 _ _ _ hf (lv_sub hl [0, 1] rfl) hW
  · refine lv_iconst (v := 1) hx hb dX8_follow_5 (by decide) ?_
    refine lv_goto (tgt := 21) hx hb dX8_follow_6 (by decide) ?_
    exact hL21 s_spot s_thrown s_g x1 1 _ _ _ hf (lv_sub hl [0, 1] rfl) hW
def w_X8_back (E : Nat → ClassId) (h_ h_g h_kept h_past h_path h_pose h_way h_px h_py h_free h_tips h_far h_queue h_times h_turns h_names h_named h_text h_told h_spare : Nat) (s_hasKept : Int32) (s_pasts : Int32) (s_pathMoves : Int32) (s_spot : Int32) (s_thrown : Int32) (s_faulty : Int32) (s_queued : Int32) (s_length : Int32) (s_at : Int32) (s_error : Int32) (s_tolds : Int32) (s_number : Int32) (s_g : Nat → Int32) (s_path : Nat → Int32) : va_W := [(h_, .inr (10, [.ref h_g, .ref h_kept, .int s_hasKept, .ref h_past, .int s_pasts, .ref h_path, .int s_pathMoves, .int s_spot, .int s_thrown, .ref h_pose, .ref h_way, .ref h_px, .ref h_py, .int s_faulty, .ref h_free, .ref h_tips, .ref h_far, .ref h_queue, .int s_queued, .ref h_times, .ref h_turns, .ref h_names, .ref h_named, .ref h_text, .int s_length, .int s_at, .int s_error, .ref h_told, .int s_tolds, .int s_number, .ref h_spare])), (h_g, .inl (E 0, 141, .inl s_g)), (h_path, .inl (E 0, 5000, .inl s_path))]
set_option maxHeartbeats 4000000 in
set_option maxRecDepth 100000 in
theorem c_X8_back (l : Launch) (D : va_G) (E : Nat → ClassId) (tx : List (Nat × String)) (h_ h_g h_kept h_past h_path h_pose h_way h_px h_py h_free h_tips h_far h_queue h_times h_turns h_names h_named h_text h_told h_spare : Nat) (s_hasKept : Int32) (s_pasts : Int32) (s_pathMoves : Int32) (s_spot : Int32) (s_thrown : Int32) (s_faulty : Int32) (s_queued : Int32) (s_length : Int32) (s_at : Int32) (s_error : Int32) (s_tolds : Int32) (s_number : Int32) (s_g : Nat → Int32) (s_path : Nat → Int32) (x1 : Int32) (r0 : Int32) (r1 : Int32) (r2 : Int32) (r3 : Nat → Int32) (hf : f_X8_back s_pathMoves s_spot s_thrown s_g s_path x1 = some (r0, r1, r2, r3)) : CI l yX8_back cX8_back 3 (some .int) 1 21 D E tx [.ref h_, .int x1] (w_X8_back E h_ h_g h_kept h_past h_path h_pose h_way h_px h_py h_free h_tips h_far h_queue h_times h_turns h_names h_named h_text h_told h_spare s_hasKept s_pasts s_pathMoves s_spot s_thrown s_faulty s_queued s_length s_at s_error s_tolds s_number s_g s_path) (w_X8_back E h_ h_g h_kept h_past h_path h_pose h_way h_px h_py h_free h_tips h_far h_queue h_times h_turns h_names h_named h_text h_told h_spare s_hasKept s_pasts s_pathMoves r1 r2 s_faulty s_queued s_length s_at s_error s_tolds s_number r3 s_path) r0 := by
  refine CI_of RX8 pn_X8 rfl (Nat.le_of_ble_eq_true rfl) (fun p e s m args below meth c A Q hF hK hA hZ hW hret ls hl => ?_)
  have hx := hF.1
  have hb := hF.2.1
  have hl : lv_has ls 3 [(0, .ref h_), (1, .int x1)] := hl
  unfold f_X8_back at hf
  have hL21 : ∀ (s_spot_21 : Int32) (s_thrown_21 : Int32) (s_g_21 : Nat → Int32) (y1_21 : Int32) (k1_21 : Int32) (H : Heap) (locs : List Loc) (ls : Array Slot), f_X8_back_L21 s_pathMoves s_spot_21 s_thrown_21 s_g_21 s_path y1_21 k1_21 = some (r0, r1, r2, r3) → lv_has ls 3 [(0, .ref h_), (1, .int y1_21)] → WD D A s (w_X8_back E h_ h_g h_kept h_past h_path h_pose h_way h_px h_py h_free h_tips h_far h_queue h_times h_turns h_names h_named h_text h_told h_spare s_hasKept s_pasts s_pathMoves s_spot_21 s_thrown_21 s_faulty s_queued s_length s_at s_error s_tolds s_number s_g_21 s_path) H locs → W p l e (RM 1 21) s m args below meth c H locs 0 0 Q (F0 m 21 ls [.int k1_21, .ref h_]) := by
    intro s_spot_21 s_thrown_21 s_g_21 y1_21 k1_21 H locs ls hf hl hW
    unfold f_X8_back_L21 at hf
    refine q_put hF hK hW fl_X8_76 ft_X8 rfl 0 rfl rfl rfl (Nat.le_of_ble_eq_true rfl) dX8_back_21 (fun H locs hW => ?_)
    have hW : WD D A s (w_X8_back E h_ h_g h_kept h_past h_path h_pose h_way h_px h_py h_free h_tips h_far h_queue h_times h_turns h_names h_named h_text h_told h_spare s_hasKept s_pasts s_pathMoves s_spot_21 k1_21 s_faulty s_queued s_length s_at s_error s_tolds s_number s_g_21 s_path) H locs := hW
    refine lv_iconst (v := 0) hx hb dX8_back_24 (by decide) ?_
    refine lv_istore_n (lv' := [(2, .int 0), (0, .ref h_), (1, .int y1_21)]) hx hb dX8_back_25 rfl hl (by decide) rfl (fun ls hl => ?_)
    have hB26 : ∀ (n : Nat) (s_spot_26 : Int32) (s_g_26 : Nat → Int32) (z2_26 : Int32) (ex : Int32 × (Nat → Int32)) (H : Heap) (locs : List Loc) (ls : Array Slot), LPF (fun z => f_X8_back_B26 s_pathMoves z.1 k1_21 z.2.1 s_path y1_21 z.2.2) n (s_spot_26, s_g_26, z2_26) = some ex → lv_has ls 3 [(0, .ref h_), (1, .int y1_21), (2, .int z2_26)] → WD D A s (w_X8_back E h_ h_g h_kept h_past h_path h_pose h_way h_px h_py h_free h_tips h_far h_queue h_times h_turns h_names h_named h_text h_told h_spare s_hasKept s_pasts s_pathMoves s_spot_26 k1_21 s_faulty s_queued s_length s_at s_error s_tolds s_number s_g_26 s_path) H locs → (∀ (H : Heap) (locs : List Loc) (ls : Array Slot), lv_has ls 3 [(0, .ref h_)] → WD D A s (w_X8_back E h_ h_g h_kept h_past h_path h_pose h_way h_px h_py h_free h_tips h_far h_queue h_times h_turns h_names h_named h_text h_told h_spare s_hasKept s_pasts s_pathMoves ex.1 k1_21 s_faulty s_queued s_length s_at s_error s_tolds s_number ex.2 s_path) H locs → W p l e (RM 1 21) s m args below meth c H locs 0 0 Q (F0 m 104 ls [])) → W p l e (RM 1 21) s m args below meth c H locs 0 0 Q (F0 m 26 ls []) := by
      intro n
      induction n with
      | zero => intro s_spot_26 s_g_26 z2_26 ex H locs ls h9; exact (ob_lp0 h9).elim
      | succ n ih =>
        intro s_spot_26 s_g_26 z2_26 ex H locs ls h9 hl hW kx0
        obtain ⟨q9, hf, h9, k9⟩ := ob_lp h9
        have hf : f_X8_back_B26 s_pathMoves s_spot_26 k1_21 s_g_26 s_path y1_21 z2_26 = some q9 := hf
        unfold f_X8_back_B26 at hf
        have hL95 : ∀ (s_spot_95 : Int32) (s_g_95 : Nat → Int32) (y2_95 : Int32) (k1_95 : Int32) (H : Heap) (locs : List Loc) (ls : Array Slot), f_X8_back_L95 s_pathMoves s_spot_95 k1_21 s_g_95 s_path y1_21 y2_95 k1_95 = some q9 → lv_has ls 3 [(0, .ref h_), (1, .int y1_21), (2, .int y2_95)] → WD D A s (w_X8_back E h_ h_g h_kept h_past h_path h_pose h_way h_px h_py h_free h_tips h_far h_queue h_times h_turns h_names h_named h_text h_told h_spare s_hasKept s_pasts s_pathMoves s_spot_95 k1_21 s_faulty s_queued s_length s_at s_error s_tolds s_number s_g_95 s_path) H locs → W p l e (RM 1 21) s m args below meth c H locs 0 0 Q (F0 m 95 ls [.int k1_95, .ref h_]) := by
          intro s_spot_95 s_g_95 y2_95 k1_95 H locs ls hf hl hW
          unfold f_X8_back_L95 at hf
          obtain ⟨o_1, hc_1, hf⟩ := ob_bind hf
          refine q_callV hF hl.1 hK hA hZ hW mv_X8_turnsTo ml_X8_209 (c_X8_turnsTo l D E tx h_ h_g h_kept h_past h_path h_pose h_way h_px h_py h_free h_tips h_far h_queue h_times h_turns h_names h_named h_text h_told h_spare s_hasKept s_pasts s_pathMoves s_spot_95 k1_21 s_faulty s_queued s_length s_at s_error s_tolds s_number s_g_95 k1_95 o_1 hc_1) [0, 1] rfl rfl rfl rfl rfl rfl ⟨Nat.le_of_ble_eq_true rfl, Nat.le_of_ble_eq_true rfl⟩ ⟨Nat.le_of_ble_eq_true rfl, Nat.le_of_ble_eq_true rfl⟩ rfl rfl (Nat.le_of_ble_eq_true rfl) dX8_back_95 (fun H locs hW => ?_)
          have hW : WD D A s (w_X8_back E h_ h_g h_kept h_past h_path h_pose h_way h_px h_py h_free h_tips h_far h_queue h_times h_turns h_names h_named h_text h_told h_spare s_hasKept s_pasts s_pathMoves s_spot_95 k1_21 s_faulty s_queued s_length s_at s_error s_tolds s_number o_1 s_path) H locs := hW
          obtain ⟨v_2, ev_2⟩ : ∃ y : Int32, y = y2_95 + 1 := ⟨_, rfl⟩
          replace hf := ob_let hf ev_2
          refine lv_iinc (v := v_2) (lv' := [(2, .int v_2), (0, .ref h_), (1, .int y1_21)]) hx hb dX8_back_98 hl (k := 2) rfl (by rw [ev_2]; rfl) (by decide) rfl (fun ls hl => ?_)
          refine lv_goto (tgt := 26) hx hb dX8_back_101 (by decide) ?_
          cases hf
          exact ih s_spot_95 o_1 v_2 ex _ _ _ (h9 _ rfl) (lv_sub hl [1, 2, 0] rfl) hW kx0
        refine lv_iload_n hx hb dX8_back_26 rfl (lv_at hl 2 rfl) ?_
        refine lv_iload_n hx hb dX8_back_27 rfl (lv_at hl 1 rfl) ?_
        refine q_icmp_ge (tgt := 104) hx hb dX8_back_28 (by decide) hf (fun hf => ?_) (fun hf => ?_)
        · cases hf
          have hx9 := k9 _ rfl
          subst hx9
          exact kx0 _ _ _ (lv_sub hl [0] rfl) hW
        · refine lv_aload_n hx hb dX8_back_31 rfl (lv_at hl 0 rfl) ?_
          refine q_get hF hK hW fl_X8_76 0 rfl rfl dX8_back_32 ?_
          refine q_if_ne (tgt := 104) hx hb dX8_back_35 (by decide) hf (fun hf => ?_) (fun hf => ?_)
          · cases hf
            have hx9 := k9 _ rfl
            subst hx9
            exact kx0 _ _ _ (lv_sub hl [0] rfl) hW
          · refine lv_aload_n hx hb dX8_back_38 rfl (lv_at hl 0 rfl) ?_
            refine q_get hF hK hW fl_X8_252 0 rfl rfl dX8_back_39 ?_
            refine q_if_le (tgt := 104) hx hb dX8_back_42 (by decide) hf (fun hf => ?_) (fun hf => ?_)
            · cases hf
              have hx9 := k9 _ rfl
              subst hx9
              exact kx0 _ _ _ (lv_sub hl [0] rfl) hW
            · refine lv_aload_n hx hb dX8_back_45 rfl (lv_at hl 0 rfl) ?_
              refine lv_dup hx hb dX8_back_46 rfl ?_
              refine q_get hF hK hW fl_X8_252 0 rfl rfl dX8_back_47 ?_
              refine lv_iconst (v := 1) hx hb dX8_back_50 (by decide) ?_
              refine lv_isub hx hb dX8_back_51 ?_
              refine lv_topi (fun v_3 ev_3 => ?_)
              replace hf := ob_let hf ev_3
              refine q_put hF hK hW fl_X8_252 ft_X8 rfl 0 rfl rfl rfl (Nat.le_of_ble_eq_true rfl) dX8_back_52 (fun H locs hW => ?_)
              have hW : WD D A s (w_X8_back E h_ h_g h_kept h_past h_path h_pose h_way h_px h_py h_free h_tips h_far h_queue h_times h_turns h_names h_named h_text h_told h_spare s_hasKept s_pasts s_pathMoves v_3 k1_21 s_faulty s_queued s_length s_at s_error s_tolds s_number s_g_26 s_path) H locs := hW
              refine lv_aload_n hx hb dX8_back_55 rfl (lv_at hl 0 rfl) ?_
              refine lv_aload_n hx hb dX8_back_56 rfl (lv_at hl 0 rfl) ?_
              refine q_get hF hK hW fl_X8_19 0 rfl rfl dX8_back_57 ?_
              refine lv_aload_n hx hb dX8_back_60 rfl (lv_at hl 0 rfl) ?_
              refine q_get hF hK hW fl_X8_252 0 rfl rfl dX8_back_61 ?_
              refine q_iald hx hb hK hW 2 0 rfl rfl dX8_back_64 hf (fun hf => ?_)
              refine lv_iconst (v := 2) hx hb dX8_back_65 (by decide) ?_
              refine lv_irem hx hb dX8_back_66 (by decide) ?_
              refine q_if_ne (tgt := 84) hx hb dX8_back_67 (by decide) hf (fun hf => ?_) (fun hf => ?_)
              · refine lv_aload_n hx hb dX8_back_84 rfl (lv_at hl 0 rfl) ?_
                refine q_get hF hK hW fl_X8_19 0 rfl rfl dX8_back_85 ?_
                refine lv_aload_n hx hb dX8_back_88 rfl (lv_at hl 0 rfl) ?_
                refine q_get hF hK hW fl_X8_252 0 rfl rfl dX8_back_89 ?_
                refine q_iald hx hb hK hW 2 0 rfl rfl dX8_back_92 hf (fun hf => ?_)
                refine lv_iconst (v := 1) hx hb dX8_back_93 (by decide) ?_
                refine lv_isub hx hb dX8_back_94 ?_
                exact hL95 v_3 s_g_26 z2_26 ((s_path v_3.toNatClampNeg) - 1) _ _ _ hf (lv_sub hl [0, 1, 2] rfl) hW
              · refine lv_aload_n hx hb dX8_back_70 rfl (lv_at hl 0 rfl) ?_
                refine q_get hF hK hW fl_X8_19 0 rfl rfl dX8_back_71 ?_
                refine lv_aload_n hx hb dX8_back_74 rfl (lv_at hl 0 rfl) ?_
                refine q_get hF hK hW fl_X8_252 0 rfl rfl dX8_back_75 ?_
                refine q_iald hx hb hK hW 2 0 rfl rfl dX8_back_78 hf (fun hf => ?_)
                refine lv_iconst (v := 1) hx hb dX8_back_79 (by decide) ?_
                refine lv_iadd hx hb dX8_back_80 ?_
                refine lv_goto (tgt := 95) hx hb dX8_back_81 (by decide) ?_
                exact hL95 v_3 s_g_26 z2_26 ((s_path v_3.toNatClampNeg) + 1) _ _ _ hf (lv_sub hl [0, 1, 2] rfl) hW
    obtain ⟨e_4, hc_4, hf⟩ := ob_bind hf
    refine hB26 lfuel s_spot_21 s_g_21 0 e_4 _ _ _ hc_4 (lv_sub hl [1, 2, 0] rfl) hW ?_
    intro H locs ls hl hW
    refine lv_aload_n hx hb dX8_back_104 rfl (lv_at hl 0 rfl) ?_
    refine q_get hF hK hW fl_X8_76 0 rfl rfl dX8_back_105 ?_
    refine q_if_le (tgt := 115) hx hb dX8_back_108 (by decide) hf (fun hf => ?_) (fun hf => ?_)
    · refine lv_aload_n hx hb dX8_back_115 rfl (lv_at hl 0 rfl) ?_
      refine q_get hF hK hW fl_X8_252 0 rfl rfl dX8_back_116 ?_
      cases hf
      exact hret dX8_back_119 rfl rfl hW
    · refine lv_iconst (v := 0) hx hb dX8_back_111 (by decide) ?_
      refine lv_goto (tgt := 119) hx hb dX8_back_112 (by decide) ?_
      cases hf
      exact hret dX8_back_119 rfl rfl hW
  refine lv_aload_n hx hb dX8_back_0 rfl (lv_at hl 0 rfl) ?_
  refine lv_iload_n hx hb dX8_back_1 rfl (lv_at hl 1 rfl) ?_
  refine q_if_ge (tgt := 9) hx hb dX8_back_2 (by decide) hf (fun hf => ?_) (fun hf => ?_)
  · refine lv_aload_n hx hb dX8_back_9 rfl (lv_at hl 0 rfl) ?_
    refine q_get hF hK hW fl_X8_22 0 rfl rfl dX8_back_10 ?_
    refine q_if_ge (tgt := 20) hx hb dX8_back_13 (by decide) hf (fun hf => ?_) (fun hf => ?_)
    · refine lv_iconst (v := 0) hx hb dX8_back_20 (by decide) ?_
      exact hL21 s_spot s_thrown s_g x1 0 _ _ _ hf (lv_sub hl [0, 1] rfl) hW
    · refine lv_iconst (v := 2) hx hb dX8_back_16 (by decide) ?_
      refine lv_goto (tgt := 21) hx hb dX8_back_17 (by decide) ?_
      exact hL21 s_spot s_thrown s_g x1 2 _ _ _ hf (lv_sub hl [0, 1] rfl) hW
  · refine lv_iconst (v := 1) hx hb dX8_back_5 (by decide) ?_
    refine lv_goto (tgt := 21) hx hb dX8_back_6 (by decide) ?_
    exact hL21 s_spot s_thrown s_g x1 1 _ _ _ hf (lv_sub hl [0, 1] rfl) hW
def w_X8_pathCells (E : Nat → ClassId) (h_ h_g h_kept h_past h_path h_pose h_way h_px h_py h_free h_tips h_far h_queue h_times h_turns h_names h_named h_text h_told h_spare : Nat) (s_hasKept : Int32) (s_pasts : Int32) (s_pathMoves : Int32) (s_spot : Int32) (s_thrown : Int32) (s_faulty : Int32) (s_queued : Int32) (s_length : Int32) (s_at : Int32) (s_error : Int32) (s_tolds : Int32) (s_number : Int32) (s_g : Nat → Int32) (s_path : Nat → Int32) (s_pose : Nat → Int32) (s_way : Nat → Int32) (s_px : Nat → Int32) (s_py : Nat → Int32) (s_tips : Nat → Int32) (s_queue : Nat → Int32) (s_times : Nat → Int32) : va_W := [(h_, .inr (10, [.ref h_g, .ref h_kept, .int s_hasKept, .ref h_past, .int s_pasts, .ref h_path, .int s_pathMoves, .int s_spot, .int s_thrown, .ref h_pose, .ref h_way, .ref h_px, .ref h_py, .int s_faulty, .ref h_free, .ref h_tips, .ref h_far, .ref h_queue, .int s_queued, .ref h_times, .ref h_turns, .ref h_names, .ref h_named, .ref h_text, .int s_length, .int s_at, .int s_error, .ref h_told, .int s_tolds, .int s_number, .ref h_spare])), (h_g, .inl (E 0, 141, .inl s_g)), (h_path, .inl (E 0, 5000, .inl s_path)), (h_pose, .inl (E 0, 4, .inl s_pose)), (h_way, .inl (E 0, 4, .inl s_way)), (h_px, .inl (E 0, 5, .inl s_px)), (h_py, .inl (E 0, 5, .inl s_py)), (h_tips, .inl (E 0, 5000, .inl s_tips)), (h_queue, .inl (E 0, 5000, .inl s_queue)), (h_times, .inl (E 0, 441, .inl s_times))]
set_option maxHeartbeats 4000000 in
set_option maxRecDepth 100000 in
theorem c_X8_pathCells (l : Launch) (D : va_G) (E : Nat → ClassId) (tx : List (Nat × String)) (h_ h_g h_kept h_past h_path h_pose h_way h_px h_py h_free h_tips h_far h_queue h_times h_turns h_names h_named h_text h_told h_spare : Nat) (s_hasKept : Int32) (s_pasts : Int32) (s_pathMoves : Int32) (s_spot : Int32) (s_thrown : Int32) (s_faulty : Int32) (s_queued : Int32) (s_length : Int32) (s_at : Int32) (s_error : Int32) (s_tolds : Int32) (s_number : Int32) (s_g : Nat → Int32) (s_path : Nat → Int32) (s_pose : Nat → Int32) (s_way : Nat → Int32) (s_px : Nat → Int32) (s_py : Nat → Int32) (s_tips : Nat → Int32) (s_queue : Nat → Int32) (s_times : Nat → Int32)  (r0 : Int32) (r1 : Int32) (r2 : Int32) (r3 : Nat → Int32) (r4 : Nat → Int32) (r5 : Nat → Int32) (r6 : Nat → Int32) (r7 : Nat → Int32) (r8 : Nat → Int32) (r9 : Nat → Int32) (hf : f_X8_pathCells s_pathMoves s_spot s_thrown s_queued s_g s_path s_pose s_way s_px s_py s_tips s_queue s_times = some (r0, r1, r2, r3, r4, r5, r6, r7, r8, r9)) : CI l yX8_pathCells cX8_pathCells 3 (some .int) 4 91 D E tx [.ref h_] (w_X8_pathCells E h_ h_g h_kept h_past h_path h_pose h_way h_px h_py h_free h_tips h_far h_queue h_times h_turns h_names h_named h_text h_told h_spare s_hasKept s_pasts s_pathMoves s_spot s_thrown s_faulty s_queued s_length s_at s_error s_tolds s_number s_g s_path s_pose s_way s_px s_py s_tips s_queue s_times) (w_X8_pathCells E h_ h_g h_kept h_past h_path h_pose h_way h_px h_py h_free h_tips h_far h_queue h_times h_turns h_names h_named h_text h_told h_spare s_hasKept s_pasts s_pathMoves s_spot r1 s_faulty r2 s_length s_at s_error s_tolds s_number s_g s_path r3 r4 r5 r6 r7 r8 r9) r0 := by
  refine CI_of RX8 pn_X8 rfl (Nat.le_of_ble_eq_true rfl) (fun p e s m args below meth c A Q hF hK hA hZ hW hret ls hl => ?_)
  have hx := hF.1
  have hb := hF.2.1
  have hl : lv_has ls 3 [(0, .ref h_)] := hl
  unfold f_X8_pathCells at hf
  have hL13 : ∀ (s_thrown_13 : Int32) (s_queued_13 : Int32) (s_pose_13 : Nat → Int32) (s_way_13 : Nat → Int32) (s_px_13 : Nat → Int32) (s_py_13 : Nat → Int32) (s_tips_13 : Nat → Int32) (s_queue_13 : Nat → Int32) (s_times_13 : Nat → Int32) (k1_13 : Int32) (H : Heap) (locs : List Loc) (ls : Array Slot), f_X8_pathCells_L13 s_pathMoves s_spot s_thrown_13 s_queued_13 s_g s_path s_pose_13 s_way_13 s_px_13 s_py_13 s_tips_13 s_queue_13 s_times_13 k1_13 = some (r0, r1, r2, r3, r4, r5, r6, r7, r8, r9) → lv_has ls 3 [(0, .ref h_)] → WD D A s (w_X8_pathCells E h_ h_g h_kept h_past h_path h_pose h_way h_px h_py h_free h_tips h_far h_queue h_times h_turns h_names h_named h_text h_told h_spare s_hasKept s_pasts s_pathMoves s_spot s_thrown_13 s_faulty s_queued_13 s_length s_at s_error s_tolds s_number s_g s_path s_pose_13 s_way_13 s_px_13 s_py_13 s_tips_13 s_queue_13 s_times_13) H locs → W p l e (RM 4 91) s m args below meth c H locs 0 0 Q (F0 m 13 ls [.int k1_13, .ref h_]) := by
    intro s_thrown_13 s_queued_13 s_pose_13 s_way_13 s_px_13 s_py_13 s_tips_13 s_queue_13 s_times_13 k1_13 H locs ls hf hl hW
    unfold f_X8_pathCells_L13 at hf
    refine q_put hF hK hW fl_X8_76 ft_X8 rfl 0 rfl rfl rfl (Nat.le_of_ble_eq_true rfl) dX8_pathCells_13 (fun H locs hW => ?_)
    have hW : WD D A s (w_X8_pathCells E h_ h_g h_kept h_past h_path h_pose h_way h_px h_py h_free h_tips h_far h_queue h_times h_turns h_names h_named h_text h_told h_spare s_hasKept s_pasts s_pathMoves s_spot k1_13 s_faulty s_queued_13 s_length s_at s_error s_tolds s_number s_g s_path s_pose_13 s_way_13 s_px_13 s_py_13 s_tips_13 s_queue_13 s_times_13) H locs := hW
    refine lv_aload_n hx hb dX8_pathCells_16 rfl (lv_at hl 0 rfl) ?_
    refine q_get hF hK hW fl_X8_76 0 rfl rfl dX8_pathCells_17 ?_
    refine q_if_le (tgt := 25) hx hb dX8_pathCells_20 (by decide) hf (fun hf => ?_) (fun hf => ?_)
    · refine lv_aload_n hx hb dX8_pathCells_25 rfl (lv_at hl 0 rfl) ?_
      obtain ⟨o_1, hc_1, hf⟩ := ob_bind hf
      refine q_callI hF hl.1 hK hA hZ hW mv_X8_numberNow ml_X8_181 (c_X8_numberNow l D E tx h_ h_g h_kept h_past h_path h_pose h_way h_px h_py h_free h_tips h_far h_queue h_times h_turns h_names h_named h_text h_told h_spare s_hasKept s_pasts s_pathMoves s_spot k1_13 s_faulty s_queued_13 s_length s_at s_error s_tolds s_number s_g o_1 hc_1) [0, 1] rfl rfl rfl rfl rfl rfl ⟨Nat.le_of_ble_eq_true rfl, Nat.le_of_ble_eq_true rfl⟩ ⟨Nat.le_of_ble_eq_true rfl, Nat.le_of_ble_eq_true rfl⟩ rfl rfl (Nat.le_of_ble_eq_true rfl) dX8_pathCells_26 (fun H locs hW => ?_)
      have hW : WD D A s (w_X8_pathCells E h_ h_g h_kept h_past h_path h_pose h_way h_px h_py h_free h_tips h_far h_queue h_times h_turns h_names h_named h_text h_told h_spare s_hasKept s_pasts s_pathMoves s_spot k1_13 s_faulty s_queued_13 s_length s_at s_error s_tolds s_number s_g s_path s_pose_13 s_way_13 s_px_13 s_py_13 s_tips_13 s_queue_13 s_times_13) H locs := hW
      refine lv_istore_n (lv' := [(1, .int o_1), (0, .ref h_)]) hx hb dX8_pathCells_29 rfl hl (by decide) rfl (fun ls hl => ?_)
      refine lv_aload_n hx hb dX8_pathCells_30 rfl (lv_at hl 1 rfl) ?_
      refine q_get hF hK hW fl_X8_252 0 rfl rfl dX8_pathCells_31 ?_
      refine lv_iconst (v := 1) hx hb dX8_pathCells_34 (by decide) ?_
      refine lv_isub hx hb dX8_pathCells_35 ?_
      refine lv_topi (fun v_2 ev_2 => ?_)
      replace hf := ob_let hf ev_2
      refine lv_istore_n (lv' := [(2, .int v_2), (1, .int o_1), (0, .ref h_)]) hx hb dX8_pathCells_36 rfl hl (by decide) rfl (fun ls hl => ?_)
      have hB37 : ∀ (n : Nat) (z1_37 : Int32) (z2_37 : Int32) (ex : Int32) (H : Heap) (locs : List Loc) (ls : Array Slot), LPF (fun z => f_X8_pathCells_B37 s_pathMoves s_spot k1_13 s_queued_13 s_g s_path s_pose_13 s_way_13 s_px_13 s_py_13 s_tips_13 s_queue_13 s_times_13 z.1 z.2) n (z1_37, z2_37) = some ex → lv_has ls 3 [(0, .ref h_), (1, .int z1_37), (2, .int z2_37)] → WD D A s (w_X8_pathCells E h_ h_g h_kept h_past h_path h_pose h_way h_px h_py h_free h_tips h_far h_queue h_times h_turns h_names h_named h_text h_told h_spare s_hasKept s_pasts s_pathMoves s_spot k1_13 s_faulty s_queued_13 s_length s_at s_error s_tolds s_number s_g s_path s_pose_13 s_way_13 s_px_13 s_py_13 s_tips_13 s_queue_13 s_times_13) H locs → (∀ (H : Heap) (locs : List Loc) (ls : Array Slot), lv_has ls 3 [(0, .ref h_), (1, .int ex)] → WD D A s (w_X8_pathCells E h_ h_g h_kept h_past h_path h_pose h_way h_px h_py h_free h_tips h_far h_queue h_times h_turns h_names h_named h_text h_told h_spare s_hasKept s_pasts s_pathMoves s_spot k1_13 s_faulty s_queued_13 s_length s_at s_error s_tolds s_number s_g s_path s_pose_13 s_way_13 s_px_13 s_py_13 s_tips_13 s_queue_13 s_times_13) H locs → W p l e (RM 4 91) s m args below meth c H locs 0 0 Q (F0 m 83 ls [])) → W p l e (RM 4 91) s m args below meth c H locs 0 0 Q (F0 m 37 ls []) := by
        intro n
        induction n with
        | zero => intro z1_37 z2_37 ex H locs ls h9; exact (ob_lp0 h9).elim
        | succ n ih =>
          intro z1_37 z2_37 ex H locs ls h9 hl hW kx0
          obtain ⟨q9, hf, h9, k9⟩ := ob_lp h9
          have hf : f_X8_pathCells_B37 s_pathMoves s_spot k1_13 s_queued_13 s_g s_path s_pose_13 s_way_13 s_px_13 s_py_13 s_tips_13 s_queue_13 s_times_13 z1_37 z2_37 = some q9 := hf
          unfold f_X8_pathCells_B37 at hf
          have hL73 : ∀ (y2_73 : Int32) (k1_73 : Int32) (k2_73 : Int32) (H : Heap) (locs : List Loc) (ls : Array Slot), f_X8_pathCells_L73 s_pathMoves s_spot k1_13 s_queued_13 s_g s_path s_pose_13 s_way_13 s_px_13 s_py_13 s_tips_13 s_queue_13 s_times_13 y2_73 k1_73 k2_73 = some q9 → lv_has ls 3 [(0, .ref h_), (2, .int y2_73)] → WD D A s (w_X8_pathCells E h_ h_g h_kept h_past h_path h_pose h_way h_px h_py h_free h_tips h_far h_queue h_times h_turns h_names h_named h_text h_told h_spare s_hasKept s_pasts s_pathMoves s_spot k1_13 s_faulty s_queued_13 s_length s_at s_error s_tolds s_number s_g s_path s_pose_13 s_way_13 s_px_13 s_py_13 s_tips_13 s_queue_13 s_times_13) H locs → W p l e (RM 4 91) s m args below meth c H locs 0 0 Q (F0 m 73 ls [.int k2_73, .int k1_73, .ref h_]) := by
            intro y2_73 k1_73 k2_73 H locs ls hf hl hW
            unfold f_X8_pathCells_L73 at hf
            obtain ⟨o_3, hc_3, hf⟩ := ob_bind hf
            refine q_callI hF hl.1 hK hA hZ hW mv_X8_behind ml_X8_196 (c_X8_behind l D E tx h_ h_g h_kept h_past h_path h_pose h_way h_px h_py h_free h_tips h_far h_queue h_times h_turns h_names h_named h_text h_told h_spare s_hasKept s_pasts s_pathMoves s_spot k1_13 s_faulty s_queued_13 s_length s_at s_error s_tolds s_number s_g k1_73 k2_73 o_3 hc_3) [0, 1] rfl rfl rfl rfl rfl rfl ⟨Nat.le_of_ble_eq_true rfl, Nat.le_of_ble_eq_true rfl⟩ ⟨Nat.le_of_ble_eq_true rfl, Nat.le_of_ble_eq_true rfl⟩ rfl rfl (Nat.le_of_ble_eq_true rfl) dX8_pathCells_73 (fun H locs hW => ?_)
            have hW : WD D A s (w_X8_pathCells E h_ h_g h_kept h_past h_path h_pose h_way h_px h_py h_free h_tips h_far h_queue h_times h_turns h_names h_named h_text h_told h_spare s_hasKept s_pasts s_pathMoves s_spot k1_13 s_faulty s_queued_13 s_length s_at s_error s_tolds s_number s_g s_path s_pose_13 s_way_13 s_px_13 s_py_13 s_tips_13 s_queue_13 s_times_13) H locs := hW
            refine lv_istore_n (lv' := [(1, .int o_3), (0, .ref h_), (2, .int y2_73)]) hx hb dX8_pathCells_76 rfl hl (by decide) rfl (fun ls hl => ?_)
            obtain ⟨v_4, ev_4⟩ : ∃ y : Int32, y = y2_73 + (-1) := ⟨_, rfl⟩
            replace hf := ob_let hf ev_4
            refine lv_iinc (v := v_4) (lv' := [(2, .int v_4), (1, .int o_3), (0, .ref h_)]) hx hb dX8_pathCells_77 hl (k := 2) rfl (by rw [ev_4]; rfl) (by decide) rfl (fun ls hl => ?_)
            refine lv_goto (tgt := 37) hx hb dX8_pathCells_80 (by decide) ?_
            cases hf
            exact ih o_3 v_4 ex _ _ _ (h9 _ rfl) (lv_sub hl [2, 1, 0] rfl) hW kx0
          refine lv_iload_n hx hb dX8_pathCells_37 rfl (lv_at hl 2 rfl) ?_
          refine q_if_lt (tgt := 83) hx hb dX8_pathCells_38 (by decide) hf (fun hf => ?_) (fun hf => ?_)
          · cases hf
            have hx9 := k9 _ rfl
            subst hx9
            exact kx0 _ _ _ (lv_sub hl [0, 1] rfl) hW
          · refine lv_aload_n hx hb dX8_pathCells_41 rfl (lv_at hl 0 rfl) ?_
            refine lv_iload_n hx hb dX8_pathCells_42 rfl (lv_at hl 1 rfl) ?_
            refine lv_aload_n hx hb dX8_pathCells_43 rfl (lv_at hl 0 rfl) ?_
            refine q_get hF hK hW fl_X8_19 0 rfl rfl dX8_pathCells_44 ?_
            refine lv_iload_n hx hb dX8_pathCells_47 rfl (lv_at hl 2 rfl) ?_
            refine q_iald hx hb hK hW 2 0 rfl rfl dX8_pathCells_48 hf (fun hf => ?_)
            refine lv_iconst (v := 2) hx hb dX8_pathCells_49 (by decide) ?_
            refine lv_irem hx hb dX8_pathCells_50 (by decide) ?_
            refine q_if_ne (tgt := 65) hx hb dX8_pathCells_51 (by decide) hf (fun hf => ?_) (fun hf => ?_)
            · refine lv_aload_n hx hb dX8_pathCells_65 rfl (lv_at hl 0 rfl) ?_
              refine q_get hF hK hW fl_X8_19 0 rfl rfl dX8_pathCells_66 ?_
              refine lv_iload_n hx hb dX8_pathCells_69 rfl (lv_at hl 2 rfl) ?_
              refine q_iald hx hb hK hW 2 0 rfl rfl dX8_pathCells_70 hf (fun hf => ?_)
              refine lv_iconst (v := 1) hx hb dX8_pathCells_71 (by decide) ?_
              refine lv_isub hx hb dX8_pathCells_72 ?_
              exact hL73 z2_37 z1_37 ((s_path z2_37.toNatClampNeg) - 1) _ _ _ hf (lv_sub hl [0, 2] rfl) hW
            · refine lv_aload_n hx hb dX8_pathCells_54 rfl (lv_at hl 0 rfl) ?_
              refine q_get hF hK hW fl_X8_19 0 rfl rfl dX8_pathCells_55 ?_
              refine lv_iload_n hx hb dX8_pathCells_58 rfl (lv_at hl 2 rfl) ?_
              refine q_iald hx hb hK hW 2 0 rfl rfl dX8_pathCells_59 hf (fun hf => ?_)
              refine lv_iconst (v := 1) hx hb dX8_pathCells_60 (by decide) ?_
              refine lv_iadd hx hb dX8_pathCells_61 ?_
              refine lv_goto (tgt := 73) hx hb dX8_pathCells_62 (by decide) ?_
              exact hL73 z2_37 z1_37 ((s_path z2_37.toNatClampNeg) + 1) _ _ _ hf (lv_sub hl [0, 2] rfl) hW
      obtain ⟨e_5, hc_5, hf⟩ := ob_bind hf
      refine hB37 lfuel o_1 v_2 e_5 _ _ _ hc_5 (lv_sub hl [2, 1, 0] rfl) hW ?_
      intro H locs ls hl hW
      refine lv_aload_n hx hb dX8_pathCells_83 rfl (lv_at hl 0 rfl) ?_
      refine lv_iconst (v := 0) hx hb dX8_pathCells_84 (by decide) ?_
      refine q_put hF hK hW fl_X8_234 ft_X8 rfl 0 rfl rfl rfl (Nat.le_of_ble_eq_true rfl) dX8_pathCells_85 (fun H locs hW => ?_)
      have hW : WD D A s (w_X8_pathCells E h_ h_g h_kept h_past h_path h_pose h_way h_px h_py h_free h_tips h_far h_queue h_times h_turns h_names h_named h_text h_told h_spare s_hasKept s_pasts s_pathMoves s_spot k1_13 s_faulty 0 s_length s_at s_error s_tolds s_number s_g s_path s_pose_13 s_way_13 s_px_13 s_py_13 s_tips_13 s_queue_13 s_times_13) H locs := hW
      refine lv_iconst (v := 0) hx hb dX8_pathCells_88 (by decide) ?_
      refine lv_istore_n (lv' := [(2, .int 0), (0, .ref h_), (1, .int e_5)]) hx hb dX8_pathCells_89 rfl hl (by decide) rfl (fun ls hl => ?_)
      have hB90 : ∀ (n : Nat) (s_queued_90 : Int32) (s_pose_90 : Nat → Int32) (s_way_90 : Nat → Int32) (s_px_90 : Nat → Int32) (s_py_90 : Nat → Int32) (s_tips_90 : Nat → Int32) (s_queue_90 : Nat → Int32) (z1_90 : Int32) (z2_90 : Int32) (ex : Int32 × (Nat → Int32) × (Nat → Int32) × (Nat → Int32) × (Nat → Int32) × (Nat → Int32) × (Nat → Int32)) (H : Heap) (locs : List Loc) (ls : Array Slot), LPF (fun z => f_X8_pathCells_B90 s_pathMoves s_spot k1_13 z.1 s_g s_path z.2.1 z.2.2.1 z.2.2.2.1 z.2.2.2.2.1 z.2.2.2.2.2.1 z.2.2.2.2.2.2.1 s_times_13 z.2.2.2.2.2.2.2.1 z.2.2.2.2.2.2.2.2) n (s_queued_90, s_pose_90, s_way_90, s_px_90, s_py_90, s_tips_90, s_queue_90, z1_90, z2_90) = some ex → lv_has ls 3 [(0, .ref h_), (1, .int z1_90), (2, .int z2_90)] → WD D A s (w_X8_pathCells E h_ h_g h_kept h_past h_path h_pose h_way h_px h_py h_free h_tips h_far h_queue h_times h_turns h_names h_named h_text h_told h_spare s_hasKept s_pasts s_pathMoves s_spot k1_13 s_faulty s_queued_90 s_length s_at s_error s_tolds s_number s_g s_path s_pose_90 s_way_90 s_px_90 s_py_90 s_tips_90 s_queue_90 s_times_13) H locs → (∀ (H : Heap) (locs : List Loc) (ls : Array Slot), lv_has ls 3 [(0, .ref h_)] → WD D A s (w_X8_pathCells E h_ h_g h_kept h_past h_path h_pose h_way h_px h_py h_free h_tips h_far h_queue h_times h_turns h_names h_named h_text h_told h_spare s_hasKept s_pasts s_pathMoves s_spot k1_13 s_faulty ex.1 s_length s_at s_error s_tolds s_number s_g s_path ex.2.1 ex.2.2.1 ex.2.2.2.1 ex.2.2.2.2.1 ex.2.2.2.2.2.1 ex.2.2.2.2.2.2 s_times_13) H locs → W p l e (RM 4 91) s m args below meth c H locs 0 0 Q (F0 m 184 ls [])) → W p l e (RM 4 91) s m args below meth c H locs 0 0 Q (F0 m 90 ls []) := by
        intro n
        induction n with
        | zero => intro s_queued_90 s_pose_90 s_way_90 s_px_90 s_py_90 s_tips_90 s_queue_90 z1_90 z2_90 ex H locs ls h9; exact (ob_lp0 h9).elim
        | succ n ih =>
          intro s_queued_90 s_pose_90 s_way_90 s_px_90 s_py_90 s_tips_90 s_queue_90 z1_90 z2_90 ex H locs ls h9 hl hW kx0
          obtain ⟨q9, hf, h9, k9⟩ := ob_lp h9
          have hf : f_X8_pathCells_B90 s_pathMoves s_spot k1_13 s_queued_90 s_g s_path s_pose_90 s_way_90 s_px_90 s_py_90 s_tips_90 s_queue_90 s_times_13 z1_90 z2_90 = some q9 := hf
          unfold f_X8_pathCells_B90 at hf
          refine lv_iload_n hx hb dX8_pathCells_90 rfl (lv_at hl 2 rfl) ?_
          refine lv_aload_n hx hb dX8_pathCells_91 rfl (lv_at hl 0 rfl) ?_
          refine q_get hF hK hW fl_X8_22 0 rfl rfl dX8_pathCells_92 ?_
          refine q_icmp_gt (tgt := 184) hx hb dX8_pathCells_95 (by decide) hf (fun hf => ?_) (fun hf => ?_)
          · cases hf
            have hx9 := k9 _ rfl
            subst hx9
            exact kx0 _ _ _ (lv_sub hl [0] rfl) hW
          · refine lv_aload_n hx hb dX8_pathCells_98 rfl (lv_at hl 0 rfl) ?_
            refine lv_iload_n hx hb dX8_pathCells_99 rfl (lv_at hl 1 rfl) ?_
            obtain ⟨o_6, hc_6, hf⟩ := ob_bind hf
            refine q_callV hF hl.1 hK hA hZ hW mv_X8_takes ml_X8_174 (c_X8_takes l D E tx h_ h_g h_kept h_past h_path h_pose h_way h_px h_py h_free h_tips h_far h_queue h_times h_turns h_names h_named h_text h_told h_spare s_hasKept s_pasts s_pathMoves s_spot k1_13 s_faulty s_queued_90 s_length s_at s_error s_tolds s_number s_g s_pose_90 s_way_90 s_px_90 s_py_90 z1_90 o_6.1 o_6.2.1 o_6.2.2.1 o_6.2.2.2 hc_6) [0, 1, 3, 4, 5, 6] rfl rfl rfl rfl rfl rfl ⟨Nat.le_of_ble_eq_true rfl, Nat.le_of_ble_eq_true rfl⟩ ⟨Nat.le_of_ble_eq_true rfl, Nat.le_of_ble_eq_true rfl⟩ rfl rfl (Nat.le_of_ble_eq_true rfl) dX8_pathCells_100 (fun H locs hW => ?_)
            have hW : WD D A s (w_X8_pathCells E h_ h_g h_kept h_past h_path h_pose h_way h_px h_py h_free h_tips h_far h_queue h_times h_turns h_names h_named h_text h_told h_spare s_hasKept s_pasts s_pathMoves s_spot k1_13 s_faulty s_queued_90 s_length s_at s_error s_tolds s_number s_g s_path o_6.1 o_6.2.1 o_6.2.2.1 o_6.2.2.2 s_tips_90 s_queue_90 s_times_13) H locs := hW
            refine lv_aload_n hx hb dX8_pathCells_103 rfl (lv_at hl 0 rfl) ?_
            refine q_get hF hK hW fl_X8_42 0 rfl rfl dX8_pathCells_104 ?_
            refine lv_iload_n hx hb dX8_pathCells_107 rfl (lv_at hl 1 rfl) ?_
            refine lv_aload_n hx hb dX8_pathCells_108 rfl (lv_at hl 0 rfl) ?_
            refine q_get hF hK hW fl_X8_32 0 rfl rfl dX8_pathCells_109 ?_
            refine lv_aload_n hx hb dX8_pathCells_112 rfl (lv_at hl 0 rfl) ?_
            refine q_get hF hK hW fl_X8_7 0 rfl rfl dX8_pathCells_113 ?_
            refine lv_iconst (v := 0) hx hb dX8_pathCells_116 (by decide) ?_
            refine q_iald hx hb hK hW 1 0 rfl rfl dX8_pathCells_117 hf (fun hf => ?_)
            refine q_iald hx hb hK hW 5 0 rfl rfl dX8_pathCells_118 hf (fun hf => ?_)
            refine lv_aload_n hx hb dX8_pathCells_119 rfl (lv_at hl 0 rfl) ?_
            refine q_get hF hK hW fl_X8_35 0 rfl rfl dX8_pathCells_120 ?_
            refine lv_aload_n hx hb dX8_pathCells_123 rfl (lv_at hl 0 rfl) ?_
            refine q_get hF hK hW fl_X8_7 0 rfl rfl dX8_pathCells_124 ?_
            refine lv_iconst (v := 0) hx hb dX8_pathCells_127 (by decide) ?_
            refine q_iald hx hb hK hW 1 0 rfl rfl dX8_pathCells_128 hf (fun hf => ?_)
            refine q_iald hx hb hK hW 6 0 rfl rfl dX8_pathCells_129 hf (fun hf => ?_)
            obtain ⟨o_7, hc_7, hf⟩ := ob_bind hf
            refine q_callSI hF hl.1 hK hA hZ hW ms_X8_cellOf ml_X8_219 (c_X8_cellOf l D E tx (o_6.2.2.1 (s_g (0 : Int32).toNatClampNeg).toNatClampNeg) (o_6.2.2.2 (s_g (0 : Int32).toNatClampNeg).toNatClampNeg) o_7 hc_7) [] rfl rfl rfl ⟨Nat.le_of_ble_eq_true rfl, Nat.le_of_ble_eq_true rfl⟩ ⟨Nat.le_of_ble_eq_true rfl, Nat.le_of_ble_eq_true rfl⟩ rfl rfl (Nat.le_of_ble_eq_true rfl) dX8_pathCells_130 (fun H locs hW => ?_)
            have hW : WD D A s (w_X8_pathCells E h_ h_g h_kept h_past h_path h_pose h_way h_px h_py h_free h_tips h_far h_queue h_times h_turns h_names h_named h_text h_told h_spare s_hasKept s_pasts s_pathMoves s_spot k1_13 s_faulty s_queued_90 s_length s_at s_error s_tolds s_number s_g s_path o_6.1 o_6.2.1 o_6.2.2.1 o_6.2.2.2 s_tips_90 s_queue_90 s_times_13) H locs := hW
            refine q_iast hx hb hK hW 7 0 rfl rfl dX8_pathCells_133 hf (fun a_8 hf H locs hW => ?_)
            have hW : WD D A s (w_X8_pathCells E h_ h_g h_kept h_past h_path h_pose h_way h_px h_py h_free h_tips h_far h_queue h_times h_turns h_names h_named h_text h_told h_spare s_hasKept s_pasts s_pathMoves s_spot k1_13 s_faulty s_queued_90 s_length s_at s_error s_tolds s_number s_g s_path o_6.1 o_6.2.1 o_6.2.2.1 o_6.2.2.2 a_8 s_queue_90 s_times_13) H locs := hW
            refine lv_aload_n hx hb dX8_pathCells_134 rfl (lv_at hl 0 rfl) ?_
            refine q_get hF hK hW fl_X8_48 0 rfl rfl dX8_pathCells_135 ?_
            refine lv_aload_n hx hb dX8_pathCells_138 rfl (lv_at hl 0 rfl) ?_
            refine q_get hF hK hW fl_X8_234 0 rfl rfl dX8_pathCells_139 ?_
            refine lv_iload_n hx hb dX8_pathCells_142 rfl (lv_at hl 1 rfl) ?_
            refine q_iast hx hb hK hW 8 0 rfl rfl dX8_pathCells_143 hf (fun a_9 hf H locs hW => ?_)
            have hW : WD D A s (w_X8_pathCells E h_ h_g h_kept h_past h_path h_pose h_way h_px h_py h_free h_tips h_far h_queue h_times h_turns h_names h_named h_text h_told h_spare s_hasKept s_pasts s_pathMoves s_spot k1_13 s_faulty s_queued_90 s_length s_at s_error s_tolds s_number s_g s_path o_6.1 o_6.2.1 o_6.2.2.1 o_6.2.2.2 a_8 a_9 s_times_13) H locs := hW
            refine lv_aload_n hx hb dX8_pathCells_144 rfl (lv_at hl 0 rfl) ?_
            refine lv_dup hx hb dX8_pathCells_145 rfl ?_
            refine q_get hF hK hW fl_X8_234 0 rfl rfl dX8_pathCells_146 ?_
            refine lv_iconst (v := 1) hx hb dX8_pathCells_149 (by decide) ?_
            refine lv_iadd hx hb dX8_pathCells_150 ?_
            refine lv_topi (fun v_10 ev_10 => ?_)
            replace hf := ob_let hf ev_10
            refine q_put hF hK hW fl_X8_234 ft_X8 rfl 0 rfl rfl rfl (Nat.le_of_ble_eq_true rfl) dX8_pathCells_151 (fun H locs hW => ?_)
            have hW : WD D A s (w_X8_pathCells E h_ h_g h_kept h_past h_path h_pose h_way h_px h_py h_free h_tips h_far h_queue h_times h_turns h_names h_named h_text h_told h_spare s_hasKept s_pasts s_pathMoves s_spot k1_13 s_faulty v_10 s_length s_at s_error s_tolds s_number s_g s_path o_6.1 o_6.2.1 o_6.2.2.1 o_6.2.2.2 a_8 a_9 s_times_13) H locs := hW
            refine lv_iload_n hx hb dX8_pathCells_154 rfl (lv_at hl 2 rfl) ?_
            refine lv_aload_n hx hb dX8_pathCells_155 rfl (lv_at hl 0 rfl) ?_
            refine q_get hF hK hW fl_X8_22 0 rfl rfl dX8_pathCells_156 ?_
            refine q_icmp_ge (tgt := 176) hx hb dX8_pathCells_159 (by decide) hf (fun hf => ?_) (fun hf => ?_)
            · refine lv_iload_n hx hb dX8_pathCells_176 rfl (lv_at hl 1 rfl) ?_
              refine lv_istore_n (lv' := [(1, .int z1_90), (0, .ref h_), (2, .int z2_90)]) hx hb dX8_pathCells_177 rfl hl (by decide) rfl (fun ls hl => ?_)
              obtain ⟨v_11, ev_11⟩ : ∃ y : Int32, y = z2_90 + 1 := ⟨_, rfl⟩
              replace hf := ob_let hf ev_11
              refine lv_iinc (v := v_11) (lv' := [(2, .int v_11), (1, .int z1_90), (0, .ref h_)]) hx hb dX8_pathCells_178 hl (k := 2) rfl (by rw [ev_11]; rfl) (by decide) rfl (fun ls hl => ?_)
              refine lv_goto (tgt := 90) hx hb dX8_pathCells_181 (by decide) ?_
              cases hf
              exact ih v_10 o_6.1 o_6.2.1 o_6.2.2.1 o_6.2.2.2 a_8 a_9 z1_90 v_11 ex _ _ _ (h9 _ rfl) (lv_sub hl [2, 1, 0] rfl) hW kx0
            · refine lv_aload_n hx hb dX8_pathCells_162 rfl (lv_at hl 0 rfl) ?_
              refine lv_iload_n hx hb dX8_pathCells_163 rfl (lv_at hl 1 rfl) ?_
              refine lv_aload_n hx hb dX8_pathCells_164 rfl (lv_at hl 0 rfl) ?_
              refine q_get hF hK hW fl_X8_19 0 rfl rfl dX8_pathCells_165 ?_
              refine lv_iload_n hx hb dX8_pathCells_168 rfl (lv_at hl 2 rfl) ?_
              refine q_iald hx hb hK hW 2 0 rfl rfl dX8_pathCells_169 hf (fun hf => ?_)
              obtain ⟨o_12, hc_12, hf⟩ := ob_bind hf
              refine q_callI hF hl.1 hK hA hZ hW mv_X8_behind ml_X8_196 (c_X8_behind l D E tx h_ h_g h_kept h_past h_path h_pose h_way h_px h_py h_free h_tips h_far h_queue h_times h_turns h_names h_named h_text h_told h_spare s_hasKept s_pasts s_pathMoves s_spot k1_13 s_faulty v_10 s_length s_at s_error s_tolds s_number s_g z1_90 (s_path z2_90.toNatClampNeg) o_12 hc_12) [0, 1] rfl rfl rfl rfl rfl rfl ⟨Nat.le_of_ble_eq_true rfl, Nat.le_of_ble_eq_true rfl⟩ ⟨Nat.le_of_ble_eq_true rfl, Nat.le_of_ble_eq_true rfl⟩ rfl rfl (Nat.le_of_ble_eq_true rfl) dX8_pathCells_170 (fun H locs hW => ?_)
              have hW : WD D A s (w_X8_pathCells E h_ h_g h_kept h_past h_path h_pose h_way h_px h_py h_free h_tips h_far h_queue h_times h_turns h_names h_named h_text h_told h_spare s_hasKept s_pasts s_pathMoves s_spot k1_13 s_faulty v_10 s_length s_at s_error s_tolds s_number s_g s_path o_6.1 o_6.2.1 o_6.2.2.1 o_6.2.2.2 a_8 a_9 s_times_13) H locs := hW
              refine lv_goto (tgt := 177) hx hb dX8_pathCells_173 (by decide) ?_
              refine lv_istore_n (lv' := [(1, .int o_12), (0, .ref h_), (2, .int z2_90)]) hx hb dX8_pathCells_177 rfl hl (by decide) rfl (fun ls hl => ?_)
              obtain ⟨v_13, ev_13⟩ : ∃ y : Int32, y = z2_90 + 1 := ⟨_, rfl⟩
              replace hf := ob_let hf ev_13
              refine lv_iinc (v := v_13) (lv' := [(2, .int v_13), (1, .int o_12), (0, .ref h_)]) hx hb dX8_pathCells_178 hl (k := 2) rfl (by rw [ev_13]; rfl) (by decide) rfl (fun ls hl => ?_)
              refine lv_goto (tgt := 90) hx hb dX8_pathCells_181 (by decide) ?_
              cases hf
              exact ih v_10 o_6.1 o_6.2.1 o_6.2.2.1 o_6.2.2.2 a_8 a_9 o_12 v_13 ex _ _ _ (h9 _ rfl) (lv_sub hl [2, 1, 0] rfl) hW kx0
      obtain ⟨e_14, hc_14, hf⟩ := ob_bind hf
      refine hB90 lfuel 0 s_pose_13 s_way_13 s_px_13 s_py_13 s_tips_13 s_queue_13 e_5 0 e_14 _ _ _ hc_14 (lv_sub hl [1, 2, 0] rfl) hW ?_
      intro H locs ls hl hW
      refine lv_aload_n hx hb dX8_pathCells_184 rfl (lv_at hl 0 rfl) ?_
      obtain ⟨o_15, hc_15, hf⟩ := ob_bind hf
      refine q_callI hF hl.1 hK hA hZ hW mv_X8_counts ml_X8_249 (c_X8_counts l D E tx h_ h_g h_kept h_past h_path h_pose h_way h_px h_py h_free h_tips h_far h_queue h_times h_turns h_names h_named h_text h_told h_spare s_hasKept s_pasts s_pathMoves s_spot k1_13 s_faulty e_14.1 s_length s_at s_error s_tolds s_number e_14.2.2.2.2.2.1 e_14.2.2.2.2.2.2 s_times_13 o_15.1 o_15.2 hc_15) [0, 7, 8, 9] rfl rfl rfl rfl rfl rfl ⟨Nat.le_of_ble_eq_true rfl, Nat.le_of_ble_eq_true rfl⟩ ⟨Nat.le_of_ble_eq_true rfl, Nat.le_of_ble_eq_true rfl⟩ rfl rfl (Nat.le_of_ble_eq_true rfl) dX8_pathCells_185 (fun H locs hW => ?_)
      have hW : WD D A s (w_X8_pathCells E h_ h_g h_kept h_past h_path h_pose h_way h_px h_py h_free h_tips h_far h_queue h_times h_turns h_names h_named h_text h_told h_spare s_hasKept s_pasts s_pathMoves s_spot k1_13 s_faulty e_14.1 s_length s_at s_error s_tolds s_number s_g s_path e_14.2.1 e_14.2.2.1 e_14.2.2.2.1 e_14.2.2.2.2.1 e_14.2.2.2.2.2.1 e_14.2.2.2.2.2.2 o_15.2) H locs := hW
      cases hf
      exact hret dX8_pathCells_188 rfl rfl hW
    · refine lv_iconst (v := 0) hx hb dX8_pathCells_23 (by decide) ?_
      cases hf
      exact hret dX8_pathCells_24 rfl rfl hW
  refine lv_aload_n hx hb dX8_pathCells_0 rfl (lv_at hl 0 rfl) ?_
  refine lv_aload_n hx hb dX8_pathCells_1 rfl (lv_at hl 0 rfl) ?_
  refine q_get hF hK hW fl_X8_22 0 rfl rfl dX8_pathCells_2 ?_
  refine q_if_ge (tgt := 12) hx hb dX8_pathCells_5 (by decide) hf (fun hf => ?_) (fun hf => ?_)
  · refine lv_iconst (v := 0) hx hb dX8_pathCells_12 (by decide) ?_
    exact hL13 s_thrown s_queued s_pose s_way s_px s_py s_tips s_queue s_times 0 _ _ _ hf (lv_sub hl [0] rfl) hW
  · refine lv_iconst (v := 1) hx hb dX8_pathCells_8 (by decide) ?_
    refine lv_goto (tgt := 13) hx hb dX8_pathCells_9 (by decide) ?_
    exact hL13 s_thrown s_queued s_pose s_way s_px s_py s_tips s_queue s_times 1 _ _ _ hf (lv_sub hl [0] rfl) hW
def w_X8_used (E : Nat → ClassId) (h_ h_g h_kept h_past h_path h_pose h_way h_px h_py h_free h_tips h_far h_queue h_times h_turns h_names h_named h_text h_told h_spare : Nat) (s_hasKept : Int32) (s_pasts : Int32) (s_pathMoves : Int32) (s_spot : Int32) (s_thrown : Int32) (s_faulty : Int32) (s_queued : Int32) (s_length : Int32) (s_at : Int32) (s_error : Int32) (s_tolds : Int32) (s_number : Int32) (s_names : Nat → Int32) : va_W := [(h_, .inr (10, [.ref h_g, .ref h_kept, .int s_hasKept, .ref h_past, .int s_pasts, .ref h_path, .int s_pathMoves, .int s_spot, .int s_thrown, .ref h_pose, .ref h_way, .ref h_px, .ref h_py, .int s_faulty, .ref h_free, .ref h_tips, .ref h_far, .ref h_queue, .int s_queued, .ref h_times, .ref h_turns, .ref h_names, .ref h_named, .ref h_text, .int s_length, .int s_at, .int s_error, .ref h_told, .int s_tolds, .int s_number, .ref h_spare])), (h_names, .inl (E 0, 26, .inl s_names))]
set_option maxHeartbeats 4000000 in
set_option maxRecDepth 100000 in
theorem c_X8_used (l : Launch) (D : va_G) (E : Nat → ClassId) (tx : List (Nat × String)) (h_ h_g h_kept h_past h_path h_pose h_way h_px h_py h_free h_tips h_far h_queue h_times h_turns h_names h_named h_text h_told h_spare : Nat) (s_hasKept : Int32) (s_pasts : Int32) (s_pathMoves : Int32) (s_spot : Int32) (s_thrown : Int32) (s_faulty : Int32) (s_queued : Int32) (s_length : Int32) (s_at : Int32) (s_error : Int32) (s_tolds : Int32) (s_number : Int32) (s_names : Nat → Int32)  (r0 : Int32) (hf : f_X8_used s_names = some r0) : CI l yX8_used cX8_used 3 (some .int) 0 0 D E tx [.ref h_] (w_X8_used E h_ h_g h_kept h_past h_path h_pose h_way h_px h_py h_free h_tips h_far h_queue h_times h_turns h_names h_named h_text h_told h_spare s_hasKept s_pasts s_pathMoves s_spot s_thrown s_faulty s_queued s_length s_at s_error s_tolds s_number s_names) (w_X8_used E h_ h_g h_kept h_past h_path h_pose h_way h_px h_py h_free h_tips h_far h_queue h_times h_turns h_names h_named h_text h_told h_spare s_hasKept s_pasts s_pathMoves s_spot s_thrown s_faulty s_queued s_length s_at s_error s_tolds s_number s_names) r0 := by
  refine CI_of RX8 pn_X8 rfl (Nat.le_of_ble_eq_true rfl) (fun p e s m args below meth c A Q hF hK hA hZ hW hret ls hl => ?_)
  have hx := hF.1
  have hb := hF.2.1
  have hl : lv_has ls 3 [(0, .ref h_)] := hl
  unfold f_X8_used at hf
  refine lv_iconst (v := 0) hx hb dX8_used_0 (by decide) ?_
  refine lv_istore_n (lv' := [(1, .int 0), (0, .ref h_)]) hx hb dX8_used_1 rfl hl (by decide) rfl (fun ls hl => ?_)
  refine lv_iconst (v := 0) hx hb dX8_used_2 (by decide) ?_
  refine lv_istore_n (lv' := [(2, .int 0), (1, .int 0), (0, .ref h_)]) hx hb dX8_used_3 rfl hl (by decide) rfl (fun ls hl => ?_)
  have hB4 : ∀ (n : Nat) (z1_4 : Int32) (z2_4 : Int32) (ex : Int32) (H : Heap) (locs : List Loc) (ls : Array Slot), LPF (fun z => f_X8_used_B4 s_names z.1 z.2) n (z1_4, z2_4) = some ex → lv_has ls 3 [(0, .ref h_), (1, .int z1_4), (2, .int z2_4)] → WD D A s (w_X8_used E h_ h_g h_kept h_past h_path h_pose h_way h_px h_py h_free h_tips h_far h_queue h_times h_turns h_names h_named h_text h_told h_spare s_hasKept s_pasts s_pathMoves s_spot s_thrown s_faulty s_queued s_length s_at s_error s_tolds s_number s_names) H locs → (∀ (H : Heap) (locs : List Loc) (ls : Array Slot), lv_has ls 3 [(1, .int ex)] → WD D A s (w_X8_used E h_ h_g h_kept h_past h_path h_pose h_way h_px h_py h_free h_tips h_far h_queue h_times h_turns h_names h_named h_text h_told h_spare s_hasKept s_pasts s_pathMoves s_spot s_thrown s_faulty s_queued s_length s_at s_error s_tolds s_number s_names) H locs → W p l e (RM 0 0) s m args below meth c H locs 0 0 Q (F0 m 33 ls [])) → W p l e (RM 0 0) s m args below meth c H locs 0 0 Q (F0 m 4 ls []) := by
    intro n
    induction n with
    | zero => intro z1_4 z2_4 ex H locs ls h9; exact (ob_lp0 h9).elim
    | succ n ih =>
      intro z1_4 z2_4 ex H locs ls h9 hl hW kx0
      obtain ⟨q9, hf, h9, k9⟩ := ob_lp h9
      have hf : f_X8_used_B4 s_names z1_4 z2_4 = some q9 := hf
      unfold f_X8_used_B4 at hf
      refine lv_iload_n hx hb dX8_used_4 rfl (lv_at hl 2 rfl) ?_
      refine lv_bipush (v := 26) hx hb dX8_used_5 (by decide) ?_
      refine q_icmp_ge (tgt := 33) hx hb dX8_used_7 (by decide) hf (fun hf => ?_) (fun hf => ?_)
      · cases hf
        have hx9 := k9 _ rfl
        subst hx9
        exact kx0 _ _ _ (lv_sub hl [1] rfl) hW
      · refine lv_iload_n hx hb dX8_used_10 rfl (lv_at hl 1 rfl) ?_
        refine lv_aload_n hx hb dX8_used_11 rfl (lv_at hl 0 rfl) ?_
        refine q_get hF hK hW fl_X8_58 0 rfl rfl dX8_used_12 ?_
        refine lv_iload_n hx hb dX8_used_15 rfl (lv_at hl 2 rfl) ?_
        refine q_iald hx hb hK hW 1 0 rfl rfl dX8_used_16 hf (fun hf => ?_)
        refine q_if_lt (tgt := 24) hx hb dX8_used_17 (by decide) hf (fun hf => ?_) (fun hf => ?_)
        · refine lv_iconst (v := 0) hx hb dX8_used_24 (by decide) ?_
          refine lv_iadd hx hb dX8_used_25 ?_
          refine lv_topi (fun v_1 ev_1 => ?_)
          replace hf := ob_let hf ev_1
          refine lv_istore_n (lv' := [(1, .int v_1), (0, .ref h_), (2, .int z2_4)]) hx hb dX8_used_26 rfl hl (by decide) rfl (fun ls hl => ?_)
          obtain ⟨v_2, ev_2⟩ : ∃ y : Int32, y = z2_4 + 1 := ⟨_, rfl⟩
          replace hf := ob_let hf ev_2
          refine lv_iinc (v := v_2) (lv' := [(2, .int v_2), (1, .int v_1), (0, .ref h_)]) hx hb dX8_used_27 hl (k := 2) rfl (by rw [ev_2]; rfl) (by decide) rfl (fun ls hl => ?_)
          refine lv_goto (tgt := 4) hx hb dX8_used_30 (by decide) ?_
          cases hf
          exact ih v_1 v_2 ex _ _ _ (h9 _ rfl) (lv_sub hl [2, 1, 0] rfl) hW kx0
        · refine lv_iconst (v := 1) hx hb dX8_used_20 (by decide) ?_
          refine lv_goto (tgt := 25) hx hb dX8_used_21 (by decide) ?_
          refine lv_iadd hx hb dX8_used_25 ?_
          refine lv_topi (fun v_3 ev_3 => ?_)
          replace hf := ob_let hf ev_3
          refine lv_istore_n (lv' := [(1, .int v_3), (0, .ref h_), (2, .int z2_4)]) hx hb dX8_used_26 rfl hl (by decide) rfl (fun ls hl => ?_)
          obtain ⟨v_4, ev_4⟩ : ∃ y : Int32, y = z2_4 + 1 := ⟨_, rfl⟩
          replace hf := ob_let hf ev_4
          refine lv_iinc (v := v_4) (lv' := [(2, .int v_4), (1, .int v_3), (0, .ref h_)]) hx hb dX8_used_27 hl (k := 2) rfl (by rw [ev_4]; rfl) (by decide) rfl (fun ls hl => ?_)
          refine lv_goto (tgt := 4) hx hb dX8_used_30 (by decide) ?_
          cases hf
          exact ih v_3 v_4 ex _ _ _ (h9 _ rfl) (lv_sub hl [2, 1, 0] rfl) hW kx0
  obtain ⟨e_5, hc_5, hf⟩ := ob_bind hf
  refine hB4 lfuel 0 0 e_5 _ _ _ hc_5 (lv_sub hl [2, 1, 0] rfl) hW ?_
  intro H locs ls hl hW
  refine lv_iload_n hx hb dX8_used_33 rfl (lv_at hl 0 rfl) ?_
  cases hf
  exact hret dX8_used_34 rfl rfl hW
def w_X8_bookmark (E : Nat → ClassId) (h_ h_g h_kept h_past h_path h_pose h_way h_px h_py h_free h_tips h_far h_queue h_times h_turns h_names h_named h_text h_told h_spare : Nat) (s_hasKept : Int32) (s_pasts : Int32) (s_pathMoves : Int32) (s_spot : Int32) (s_thrown : Int32) (s_faulty : Int32) (s_queued : Int32) (s_length : Int32) (s_at : Int32) (s_error : Int32) (s_tolds : Int32) (s_number : Int32) (s_g : Nat → Int32) (s_names : Nat → Int32) (s_named : Nat → Int32) : va_W := [(h_, .inr (10, [.ref h_g, .ref h_kept, .int s_hasKept, .ref h_past, .int s_pasts, .ref h_path, .int s_pathMoves, .int s_spot, .int s_thrown, .ref h_pose, .ref h_way, .ref h_px, .ref h_py, .int s_faulty, .ref h_free, .ref h_tips, .ref h_far, .ref h_queue, .int s_queued, .ref h_times, .ref h_turns, .ref h_names, .ref h_named, .ref h_text, .int s_length, .int s_at, .int s_error, .ref h_told, .int s_tolds, .int s_number, .ref h_spare])), (h_g, .inl (E 0, 141, .inl s_g)), (h_names, .inl (E 0, 26, .inl s_names)), (h_named, .inl (E 0, 104, .inl s_named))]
set_option maxHeartbeats 4000000 in
set_option maxRecDepth 100000 in
theorem c_X8_bookmark (l : Launch) (D : va_G) (E : Nat → ClassId) (tx : List (Nat × String)) (h_ h_g h_kept h_past h_path h_pose h_way h_px h_py h_free h_tips h_far h_queue h_times h_turns h_names h_named h_text h_told h_spare : Nat) (s_hasKept : Int32) (s_pasts : Int32) (s_pathMoves : Int32) (s_spot : Int32) (s_thrown : Int32) (s_faulty : Int32) (s_queued : Int32) (s_length : Int32) (s_at : Int32) (s_error : Int32) (s_tolds : Int32) (s_number : Int32) (s_g : Nat → Int32) (s_names : Nat → Int32) (s_named : Nat → Int32) (x1 : Int32) (r0 : Int32) (r1 : Int32) (r2 : Nat → Int32) (r3 : Nat → Int32) (hf : f_X8_bookmark s_thrown s_g s_names s_named x1 = some (r0, r1, r2, r3)) : CI l yX8_bookmark cX8_bookmark 4 (some .int) 1 22 D E tx [.ref h_, .int x1] (w_X8_bookmark E h_ h_g h_kept h_past h_path h_pose h_way h_px h_py h_free h_tips h_far h_queue h_times h_turns h_names h_named h_text h_told h_spare s_hasKept s_pasts s_pathMoves s_spot s_thrown s_faulty s_queued s_length s_at s_error s_tolds s_number s_g s_names s_named) (w_X8_bookmark E h_ h_g h_kept h_past h_path h_pose h_way h_px h_py h_free h_tips h_far h_queue h_times h_turns h_names h_named h_text h_told h_spare s_hasKept s_pasts s_pathMoves s_spot r1 s_faulty s_queued s_length s_at s_error s_tolds s_number s_g r2 r3) r0 := by
  refine CI_of RX8 pn_X8 rfl (Nat.le_of_ble_eq_true rfl) (fun p e s m args below meth c A Q hF hK hA hZ hW hret ls hl => ?_)
  have hx := hF.1
  have hb := hF.2.1
  have hl : lv_has ls 4 [(0, .ref h_), (1, .int x1)] := hl
  unfold f_X8_bookmark at hf
  have hL43 : ∀ (s_thrown_43 : Int32) (s_names_43 : Nat → Int32) (s_named_43 : Nat → Int32) (y2_43 : Int32) (k1_43 : Int32) (H : Heap) (locs : List Loc) (ls : Array Slot), f_X8_bookmark_L43 s_thrown_43 s_g s_names_43 s_named_43 y2_43 k1_43 = some (r0, r1, r2, r3) → lv_has ls 4 [(0, .ref h_), (2, .int y2_43)] → WD D A s (w_X8_bookmark E h_ h_g h_kept h_past h_path h_pose h_way h_px h_py h_free h_tips h_far h_queue h_times h_turns h_names h_named h_text h_told h_spare s_hasKept s_pasts s_pathMoves s_spot s_thrown_43 s_faulty s_queued s_length s_at s_error s_tolds s_number s_g s_names_43 s_named_43) H locs → W p l e (RM 1 22) s m args below meth c H locs 0 0 Q (F0 m 43 ls [.int k1_43, .ref h_]) := by
    intro s_thrown_43 s_names_43 s_named_43 y2_43 k1_43 H locs ls hf hl hW
    unfold f_X8_bookmark_L43 at hf
    refine q_put hF hK hW fl_X8_76 ft_X8 rfl 0 rfl rfl rfl (Nat.le_of_ble_eq_true rfl) dX8_bookmark_43 (fun H locs hW => ?_)
    have hW : WD D A s (w_X8_bookmark E h_ h_g h_kept h_past h_path h_pose h_way h_px h_py h_free h_tips h_far h_queue h_times h_turns h_names h_named h_text h_told h_spare s_hasKept s_pasts s_pathMoves s_spot k1_43 s_faulty s_queued s_length s_at s_error s_tolds s_number s_g s_names_43 s_named_43) H locs := hW
    refine lv_aload_n hx hb dX8_bookmark_46 rfl (lv_at hl 0 rfl) ?_
    refine q_get hF hK hW fl_X8_76 0 rfl rfl dX8_bookmark_47 ?_
    refine q_if_le (tgt := 55) hx hb dX8_bookmark_50 (by decide) hf (fun hf => ?_) (fun hf => ?_)
    · refine lv_aload_n hx hb dX8_bookmark_55 rfl (lv_at hl 0 rfl) ?_
      refine q_get hF hK hW fl_X8_58 0 rfl rfl dX8_bookmark_56 ?_
      refine lv_iload_n hx hb dX8_bookmark_59 rfl (lv_at hl 1 rfl) ?_
      refine lv_aload_n hx hb dX8_bookmark_60 rfl (lv_at hl 0 rfl) ?_
      refine q_get hF hK hW fl_X8_7 0 rfl rfl dX8_bookmark_61 ?_
      refine lv_iconst (v := 0) hx hb dX8_bookmark_64 (by decide) ?_
      refine q_iald hx hb hK hW 1 0 rfl rfl dX8_bookmark_65 hf (fun hf => ?_)
      refine q_iast hx hb hK hW 2 0 rfl rfl dX8_bookmark_66 hf (fun a_1 hf H locs hW => ?_)
      have hW : WD D A s (w_X8_bookmark E h_ h_g h_kept h_past h_path h_pose h_way h_px h_py h_free h_tips h_far h_queue h_times h_turns h_names h_named h_text h_told h_spare s_hasKept s_pasts s_pathMoves s_spot k1_43 s_faulty s_queued s_length s_at s_error s_tolds s_number s_g a_1 s_named_43) H locs := hW
      refine lv_iconst (v := 0) hx hb dX8_bookmark_67 (by decide) ?_
      refine lv_istore_n (lv' := [(3, .int 0), (0, .ref h_), (2, .int y2_43)]) hx hb dX8_bookmark_68 rfl hl (by decide) rfl (fun ls hl => ?_)
      have hB69 : ∀ (n : Nat) (s_named_69 : Nat → Int32) (z3_69 : Int32) (ex : (Nat → Int32)) (H : Heap) (locs : List Loc) (ls : Array Slot), LPF (fun z => f_X8_bookmark_B69 k1_43 s_g a_1 z.1 y2_43 z.2) n (s_named_69, z3_69) = some ex → lv_has ls 4 [(0, .ref h_), (2, .int y2_43), (3, .int z3_69)] → WD D A s (w_X8_bookmark E h_ h_g h_kept h_past h_path h_pose h_way h_px h_py h_free h_tips h_far h_queue h_times h_turns h_names h_named h_text h_told h_spare s_hasKept s_pasts s_pathMoves s_spot k1_43 s_faulty s_queued s_length s_at s_error s_tolds s_number s_g a_1 s_named_69) H locs → (∀ (H : Heap) (locs : List Loc) (ls : Array Slot), lv_has ls 4 [(0, .ref h_)] → WD D A s (w_X8_bookmark E h_ h_g h_kept h_past h_path h_pose h_way h_px h_py h_free h_tips h_far h_queue h_times h_turns h_names h_named h_text h_told h_spare s_hasKept s_pasts s_pathMoves s_spot k1_43 s_faulty s_queued s_length s_at s_error s_tolds s_number s_g a_1 ex) H locs → W p l e (RM 1 22) s m args below meth c H locs 0 0 Q (F0 m 105 ls [])) → W p l e (RM 1 22) s m args below meth c H locs 0 0 Q (F0 m 69 ls []) := by
        intro n
        induction n with
        | zero => intro s_named_69 z3_69 ex H locs ls h9; exact (ob_lp0 h9).elim
        | succ n ih =>
          intro s_named_69 z3_69 ex H locs ls h9 hl hW kx0
          obtain ⟨q9, hf, h9, k9⟩ := ob_lp h9
          have hf : f_X8_bookmark_B69 k1_43 s_g a_1 s_named_69 y2_43 z3_69 = some q9 := hf
          unfold f_X8_bookmark_B69 at hf
          refine lv_iload_n hx hb dX8_bookmark_69 rfl (lv_at hl 2 rfl) ?_
          refine lv_aload_n hx hb dX8_bookmark_70 rfl (lv_at hl 0 rfl) ?_
          refine q_get hF hK hW fl_X8_7 0 rfl rfl dX8_bookmark_71 ?_
          refine lv_iconst (v := 0) hx hb dX8_bookmark_74 (by decide) ?_
          refine q_iald hx hb hK hW 1 0 rfl rfl dX8_bookmark_75 hf (fun hf => ?_)
          refine q_icmp_ge (tgt := 105) hx hb dX8_bookmark_76 (by decide) hf (fun hf => ?_) (fun hf => ?_)
          · cases hf
            have hx9 := k9 _ rfl
            subst hx9
            exact kx0 _ _ _ (lv_sub hl [0] rfl) hW
          · refine lv_aload_n hx hb dX8_bookmark_79 rfl (lv_at hl 0 rfl) ?_
            refine q_get hF hK hW fl_X8_61 0 rfl rfl dX8_bookmark_80 ?_
            refine lv_iconst (v := 4) hx hb dX8_bookmark_83 (by decide) ?_
            refine lv_iload_n hx hb dX8_bookmark_84 rfl (lv_at hl 1 rfl) ?_
            refine lv_imul hx hb dX8_bookmark_85 ?_
            refine lv_iload_n hx hb dX8_bookmark_86 rfl (lv_at hl 2 rfl) ?_
            refine lv_iadd hx hb dX8_bookmark_87 ?_
            refine lv_aload_n hx hb dX8_bookmark_88 rfl (lv_at hl 0 rfl) ?_
            refine q_get hF hK hW fl_X8_7 0 rfl rfl dX8_bookmark_89 ?_
            refine lv_iconst (v := 4) hx hb dX8_bookmark_92 (by decide) ?_
            refine lv_iconst (v := 4) hx hb dX8_bookmark_93 (by decide) ?_
            refine lv_iload_n hx hb dX8_bookmark_94 rfl (lv_at hl 2 rfl) ?_
            refine lv_imul hx hb dX8_bookmark_95 ?_
            refine lv_iadd hx hb dX8_bookmark_96 ?_
            refine q_iald hx hb hK hW 1 0 rfl rfl dX8_bookmark_97 hf (fun hf => ?_)
            refine q_iast hx hb hK hW 3 0 rfl rfl dX8_bookmark_98 hf (fun a_2 hf H locs hW => ?_)
            have hW : WD D A s (w_X8_bookmark E h_ h_g h_kept h_past h_path h_pose h_way h_px h_py h_free h_tips h_far h_queue h_times h_turns h_names h_named h_text h_told h_spare s_hasKept s_pasts s_pathMoves s_spot k1_43 s_faulty s_queued s_length s_at s_error s_tolds s_number s_g a_1 a_2) H locs := hW
            obtain ⟨v_3, ev_3⟩ : ∃ y : Int32, y = z3_69 + 1 := ⟨_, rfl⟩
            replace hf := ob_let hf ev_3
            refine lv_iinc (v := v_3) (lv' := [(3, .int v_3), (0, .ref h_), (2, .int y2_43)]) hx hb dX8_bookmark_99 hl (k := 2) rfl (by rw [ev_3]; rfl) (by decide) rfl (fun ls hl => ?_)
            refine lv_goto (tgt := 69) hx hb dX8_bookmark_102 (by decide) ?_
            cases hf
            exact ih a_2 v_3 ex _ _ _ (h9 _ rfl) (lv_sub hl [1, 2, 0] rfl) hW kx0
      obtain ⟨e_4, hc_4, hf⟩ := ob_bind hf
      refine hB69 lfuel s_named_43 0 e_4 _ _ _ hc_4 (lv_sub hl [1, 2, 0] rfl) hW ?_
      intro H locs ls hl hW
      refine lv_aload_n hx hb dX8_bookmark_105 rfl (lv_at hl 0 rfl) ?_
      obtain ⟨o_5, hc_5, hf⟩ := ob_bind hf
      refine q_callI hF hl.1 hK hA hZ hW mv_X8_used ml_X8_279 (c_X8_used l D E tx h_ h_g h_kept h_past h_path h_pose h_way h_px h_py h_free h_tips h_far h_queue h_times h_turns h_names h_named h_text h_told h_spare s_hasKept s_pasts s_pathMoves s_spot k1_43 s_faulty s_queued s_length s_at s_error s_tolds s_number a_1 o_5 hc_5) [0, 2] rfl rfl rfl rfl rfl rfl ⟨Nat.le_of_ble_eq_true rfl, Nat.le_of_ble_eq_true rfl⟩ ⟨Nat.le_of_ble_eq_true rfl, Nat.le_of_ble_eq_true rfl⟩ rfl rfl (Nat.le_of_ble_eq_true rfl) dX8_bookmark_106 (fun H locs hW => ?_)
      have hW : WD D A s (w_X8_bookmark E h_ h_g h_kept h_past h_path h_pose h_way h_px h_py h_free h_tips h_far h_queue h_times h_turns h_names h_named h_text h_told h_spare s_hasKept s_pasts s_pathMoves s_spot k1_43 s_faulty s_queued s_length s_at s_error s_tolds s_number s_g a_1 e_4) H locs := hW
      cases hf
      exact hret dX8_bookmark_109 rfl rfl hW
    · refine lv_iconst (v := 0) hx hb dX8_bookmark_53 (by decide) ?_
      cases hf
      exact hret dX8_bookmark_54 rfl rfl hW
  refine lv_iload_n hx hb dX8_bookmark_0 rfl (lv_at hl 1 rfl) ?_
  refine lv_bipush (v := 97) hx hb dX8_bookmark_1 (by decide) ?_
  refine lv_isub hx hb dX8_bookmark_3 ?_
  refine lv_topi (fun v_6 ev_6 => ?_)
  replace hf := ob_let hf ev_6
  refine lv_istore_n (lv' := [(2, .int v_6), (0, .ref h_), (1, .int x1)]) hx hb dX8_bookmark_4 rfl hl (by decide) rfl (fun ls hl => ?_)
  refine lv_aload_n hx hb dX8_bookmark_5 rfl (lv_at hl 1 rfl) ?_
  refine lv_iload_n hx hb dX8_bookmark_6 rfl (lv_at hl 0 rfl) ?_
  refine lv_iconst (v := 0) hx hb dX8_bookmark_7 (by decide) ?_
  refine lv_bipush (v := 25) hx hb dX8_bookmark_8 (by decide) ?_
  obtain ⟨o_7, hc_7, hf⟩ := ob_bind hf
  refine q_callSI hF hl.1 hK hA hZ hW ms_X8_in ml_X8_79 (c_X8_in l D E tx v_6 0 25 o_7 hc_7) [] rfl rfl rfl ⟨Nat.le_of_ble_eq_true rfl, Nat.le_of_ble_eq_true rfl⟩ ⟨Nat.le_of_ble_eq_true rfl, Nat.le_of_ble_eq_true rfl⟩ rfl rfl (Nat.le_of_ble_eq_true rfl) dX8_bookmark_10 (fun H locs hW => ?_)
  have hW : WD D A s (w_X8_bookmark E h_ h_g h_kept h_past h_path h_pose h_way h_px h_py h_free h_tips h_far h_queue h_times h_turns h_names h_named h_text h_told h_spare s_hasKept s_pasts s_pathMoves s_spot s_thrown s_faulty s_queued s_length s_at s_error s_tolds s_number s_g s_names s_named) H locs := hW
  refine q_if_eq (tgt := 42) hx hb dX8_bookmark_13 (by decide) hf (fun hf => ?_) (fun hf => ?_)
  · refine lv_iconst (v := 1) hx hb dX8_bookmark_42 (by decide) ?_
    exact hL43 s_thrown s_names s_named v_6 1 _ _ _ hf (lv_sub hl [1, 0] rfl) hW
  · refine lv_aload_n hx hb dX8_bookmark_16 rfl (lv_at hl 1 rfl) ?_
    refine q_get hF hK hW fl_X8_58 0 rfl rfl dX8_bookmark_17 ?_
    refine lv_iload_n hx hb dX8_bookmark_20 rfl (lv_at hl 0 rfl) ?_
    refine q_iald hx hb hK hW 2 0 rfl rfl dX8_bookmark_21 hf (fun hf => ?_)
    refine q_if_ge (tgt := 38) hx hb dX8_bookmark_22 (by decide) hf (fun hf => ?_) (fun hf => ?_)
    · refine lv_iconst (v := 0) hx hb dX8_bookmark_38 (by decide) ?_
      refine lv_goto (tgt := 43) hx hb dX8_bookmark_39 (by decide) ?_
      exact hL43 s_thrown s_names s_named v_6 0 _ _ _ hf (lv_sub hl [1, 0] rfl) hW
    · refine lv_aload_n hx hb dX8_bookmark_25 rfl (lv_at hl 1 rfl) ?_
      obtain ⟨o_8, hc_8, hf⟩ := ob_bind hf
      refine q_callI hF hl.1 hK hA hZ hW mv_X8_used ml_X8_279 (c_X8_used l D E tx h_ h_g h_kept h_past h_path h_pose h_way h_px h_py h_free h_tips h_far h_queue h_times h_turns h_names h_named h_text h_told h_spare s_hasKept s_pasts s_pathMoves s_spot s_thrown s_faulty s_queued s_length s_at s_error s_tolds s_number s_names o_8 hc_8) [0, 2] rfl rfl rfl rfl rfl rfl ⟨Nat.le_of_ble_eq_true rfl, Nat.le_of_ble_eq_true rfl⟩ ⟨Nat.le_of_ble_eq_true rfl, Nat.le_of_ble_eq_true rfl⟩ rfl rfl (Nat.le_of_ble_eq_true rfl) dX8_bookmark_26 (fun H locs hW => ?_)
      have hW : WD D A s (w_X8_bookmark E h_ h_g h_kept h_past h_path h_pose h_way h_px h_py h_free h_tips h_far h_queue h_times h_turns h_names h_named h_text h_told h_spare s_hasKept s_pasts s_pathMoves s_spot s_thrown s_faulty s_queued s_length s_at s_error s_tolds s_number s_g s_names s_named) H locs := hW
      refine lv_bipush (v := 6) hx hb dX8_bookmark_29 (by decide) ?_
      refine q_icmp_ne (tgt := 38) hx hb dX8_bookmark_31 (by decide) hf (fun hf => ?_) (fun hf => ?_)
      · refine lv_iconst (v := 0) hx hb dX8_bookmark_38 (by decide) ?_
        refine lv_goto (tgt := 43) hx hb dX8_bookmark_39 (by decide) ?_
        exact hL43 s_thrown s_names s_named v_6 0 _ _ _ hf (lv_sub hl [1, 0] rfl) hW
      · refine lv_iconst (v := 2) hx hb dX8_bookmark_34 (by decide) ?_
        refine lv_goto (tgt := 43) hx hb dX8_bookmark_35 (by decide) ?_
        exact hL43 s_thrown s_names s_named v_6 2 _ _ _ hf (lv_sub hl [1, 0] rfl) hW
def w_X8_isNamed (E : Nat → ClassId) (h_ h_g h_kept h_past h_path h_pose h_way h_px h_py h_free h_tips h_far h_queue h_times h_turns h_names h_named h_text h_told h_spare : Nat) (s_hasKept : Int32) (s_pasts : Int32) (s_pathMoves : Int32) (s_spot : Int32) (s_thrown : Int32) (s_faulty : Int32) (s_queued : Int32) (s_length : Int32) (s_at : Int32) (s_error : Int32) (s_tolds : Int32) (s_number : Int32) (s_g : Nat → Int32) (s_names : Nat → Int32) (s_named : Nat → Int32) : va_W := [(h_, .inr (10, [.ref h_g, .ref h_kept, .int s_hasKept, .ref h_past, .int s_pasts, .ref h_path, .int s_pathMoves, .int s_spot, .int s_thrown, .ref h_pose, .ref h_way, .ref h_px, .ref h_py, .int s_faulty, .ref h_free, .ref h_tips, .ref h_far, .ref h_queue, .int s_queued, .ref h_times, .ref h_turns, .ref h_names, .ref h_named, .ref h_text, .int s_length, .int s_at, .int s_error, .ref h_told, .int s_tolds, .int s_number, .ref h_spare])), (h_g, .inl (E 0, 141, .inl s_g)), (h_names, .inl (E 0, 26, .inl s_names)), (h_named, .inl (E 0, 104, .inl s_named))]
set_option maxHeartbeats 4000000 in
set_option maxRecDepth 100000 in
theorem c_X8_isNamed (l : Launch) (D : va_G) (E : Nat → ClassId) (tx : List (Nat × String)) (h_ h_g h_kept h_past h_path h_pose h_way h_px h_py h_free h_tips h_far h_queue h_times h_turns h_names h_named h_text h_told h_spare : Nat) (s_hasKept : Int32) (s_pasts : Int32) (s_pathMoves : Int32) (s_spot : Int32) (s_thrown : Int32) (s_faulty : Int32) (s_queued : Int32) (s_length : Int32) (s_at : Int32) (s_error : Int32) (s_tolds : Int32) (s_number : Int32) (s_g : Nat → Int32) (s_names : Nat → Int32) (s_named : Nat → Int32) (x1 : Int32) (r0 : Int32) (hf : f_X8_isNamed s_g s_names s_named x1 = some r0) : CI l yX8_isNamed cX8_isNamed 4 (some .boolean) 1 22 D E tx [.ref h_, .int x1] (w_X8_isNamed E h_ h_g h_kept h_past h_path h_pose h_way h_px h_py h_free h_tips h_far h_queue h_times h_turns h_names h_named h_text h_told h_spare s_hasKept s_pasts s_pathMoves s_spot s_thrown s_faulty s_queued s_length s_at s_error s_tolds s_number s_g s_names s_named) (w_X8_isNamed E h_ h_g h_kept h_past h_path h_pose h_way h_px h_py h_free h_tips h_far h_queue h_times h_turns h_names h_named h_text h_told h_spare s_hasKept s_pasts s_pathMoves s_spot s_thrown s_faulty s_queued s_length s_at s_error s_tolds s_number s_g s_names s_named) r0 := by
  refine CI_of RX8 pn_X8 rfl (Nat.le_of_ble_eq_true rfl) (fun p e s m args below meth c A Q hF hK hA hZ hW hret ls hl => ?_)
  have hx := hF.1
  have hb := hF.2.1
  have hl : lv_has ls 4 [(0, .ref h_), (1, .int x1)] := hl
  unfold f_X8_isNamed at hf
  have hL20 : ∀ (y1_20 : Int32) (k0_20 : Int32) (H : Heap) (locs : List Loc) (ls : Array Slot), f_X8_isNamed_L20 s_g s_names s_named y1_20 k0_20 = some r0 → lv_has ls 4 [(0, .ref h_), (1, .int y1_20)] → WD D A s (w_X8_isNamed E h_ h_g h_kept h_past h_path h_pose h_way h_px h_py h_free h_tips h_far h_queue h_times h_turns h_names h_named h_text h_told h_spare s_hasKept s_pasts s_pathMoves s_spot s_thrown s_faulty s_queued s_length s_at s_error s_tolds s_number s_g s_names s_named) H locs → W p l e (RM 1 22) s m args below meth c H locs 0 0 Q (F0 m 20 ls [.int k0_20]) := by
    intro y1_20 k0_20 H locs ls hf hl hW
    unfold f_X8_isNamed_L20 at hf
    refine lv_istore_n (lv' := [(2, .int k0_20), (0, .ref h_), (1, .int y1_20)]) hx hb dX8_isNamed_20 rfl hl (by decide) rfl (fun ls hl => ?_)
    refine lv_iconst (v := 0) hx hb dX8_isNamed_21 (by decide) ?_
    refine lv_istore_n (lv' := [(3, .int 0), (2, .int k0_20), (0, .ref h_), (1, .int y1_20)]) hx hb dX8_isNamed_22 rfl hl (by decide) rfl (fun ls hl => ?_)
    have hB23 : ∀ (n : Nat) (z2_23 : Int32) (z3_23 : Int32) (ex : Int32) (H : Heap) (locs : List Loc) (ls : Array Slot), LPF (fun z => f_X8_isNamed_B23 s_g s_names s_named y1_20 z.1 z.2) n (z2_23, z3_23) = some ex → lv_has ls 4 [(0, .ref h_), (1, .int y1_20), (2, .int z2_23), (3, .int z3_23)] → WD D A s (w_X8_isNamed E h_ h_g h_kept h_past h_path h_pose h_way h_px h_py h_free h_tips h_far h_queue h_times h_turns h_names h_named h_text h_told h_spare s_hasKept s_pasts s_pathMoves s_spot s_thrown s_faulty s_queued s_length s_at s_error s_tolds s_number s_g s_names s_named) H locs → (∀ (H : Heap) (locs : List Loc) (ls : Array Slot), lv_has ls 4 [(2, .int ex)] → WD D A s (w_X8_isNamed E h_ h_g h_kept h_past h_path h_pose h_way h_px h_py h_free h_tips h_far h_queue h_times h_turns h_names h_named h_text h_told h_spare s_hasKept s_pasts s_pathMoves s_spot s_thrown s_faulty s_queued s_length s_at s_error s_tolds s_number s_g s_names s_named) H locs → W p l e (RM 1 22) s m args below meth c H locs 0 0 Q (F0 m 68 ls [])) → W p l e (RM 1 22) s m args below meth c H locs 0 0 Q (F0 m 23 ls []) := by
      intro n
      induction n with
      | zero => intro z2_23 z3_23 ex H locs ls h9; exact (ob_lp0 h9).elim
      | succ n ih =>
        intro z2_23 z3_23 ex H locs ls h9 hl hW kx0
        obtain ⟨q9, hf, h9, k9⟩ := ob_lp h9
        have hf : f_X8_isNamed_B23 s_g s_names s_named y1_20 z2_23 z3_23 = some q9 := hf
        unfold f_X8_isNamed_B23 at hf
        refine lv_iload_n hx hb dX8_isNamed_23 rfl (lv_at hl 3 rfl) ?_
        refine lv_aload_n hx hb dX8_isNamed_24 rfl (lv_at hl 0 rfl) ?_
        refine q_get hF hK hW fl_X8_7 0 rfl rfl dX8_isNamed_25 ?_
        refine lv_iconst (v := 0) hx hb dX8_isNamed_28 (by decide) ?_
        refine q_iald hx hb hK hW 1 0 rfl rfl dX8_isNamed_29 hf (fun hf => ?_)
        refine q_icmp_ge (tgt := 68) hx hb dX8_isNamed_30 (by decide) hf (fun hf => ?_) (fun hf => ?_)
        · cases hf
          have hx9 := k9 _ rfl
          subst hx9
          exact kx0 _ _ _ (lv_sub hl [2] rfl) hW
        · refine lv_iload_n hx hb dX8_isNamed_33 rfl (lv_at hl 2 rfl) ?_
          refine q_if_eq (tgt := 68) hx hb dX8_isNamed_34 (by decide) hf (fun hf => ?_) (fun hf => ?_)
          · cases hf
            have hx9 := k9 _ rfl
            subst hx9
            exact kx0 _ _ _ (lv_sub hl [2] rfl) hW
          · refine lv_aload_n hx hb dX8_isNamed_37 rfl (lv_at hl 0 rfl) ?_
            refine q_get hF hK hW fl_X8_61 0 rfl rfl dX8_isNamed_38 ?_
            refine lv_iconst (v := 4) hx hb dX8_isNamed_41 (by decide) ?_
            refine lv_iload_n hx hb dX8_isNamed_42 rfl (lv_at hl 1 rfl) ?_
            refine lv_imul hx hb dX8_isNamed_43 ?_
            refine lv_iload_n hx hb dX8_isNamed_44 rfl (lv_at hl 3 rfl) ?_
            refine lv_iadd hx hb dX8_isNamed_45 ?_
            refine q_iald hx hb hK hW 3 0 rfl rfl dX8_isNamed_46 hf (fun hf => ?_)
            refine lv_aload_n hx hb dX8_isNamed_47 rfl (lv_at hl 0 rfl) ?_
            refine lv_iload_n hx hb dX8_isNamed_48 rfl (lv_at hl 3 rfl) ?_
            obtain ⟨o_1, hc_1, hf⟩ := ob_bind hf
            refine q_callI hF hl.1 hK hA hZ hW mv_X8_down ml_X8_124 (c_X8_down l D E tx h_ h_g h_kept h_past h_path h_pose h_way h_px h_py h_free h_tips h_far h_queue h_times h_turns h_names h_named h_text h_told h_spare s_hasKept s_pasts s_pathMoves s_spot s_thrown s_faulty s_queued s_length s_at s_error s_tolds s_number s_g z3_23 o_1 hc_1) [0, 1] rfl rfl rfl rfl rfl rfl ⟨Nat.le_of_ble_eq_true rfl, Nat.le_of_ble_eq_true rfl⟩ ⟨Nat.le_of_ble_eq_true rfl, Nat.le_of_ble_eq_true rfl⟩ rfl rfl (Nat.le_of_ble_eq_true rfl) dX8_isNamed_49 (fun H locs hW => ?_)
            have hW : WD D A s (w_X8_isNamed E h_ h_g h_kept h_past h_path h_pose h_way h_px h_py h_free h_tips h_far h_queue h_times h_turns h_names h_named h_text h_told h_spare s_hasKept s_pasts s_pathMoves s_spot s_thrown s_faulty s_queued s_length s_at s_error s_tolds s_number s_g s_names s_named) H locs := hW
            refine lv_ineg hx hb dX8_isNamed_52 ?_
            refine lv_aload_n hx hb dX8_isNamed_53 rfl (lv_at hl 0 rfl) ?_
            refine lv_iload_n hx hb dX8_isNamed_54 rfl (lv_at hl 3 rfl) ?_
            obtain ⟨o_2, hc_2, hf⟩ := ob_bind hf
            refine q_callI hF hl.1 hK hA hZ hW mv_X8_up ml_X8_127 (c_X8_up l D E tx h_ h_g h_kept h_past h_path h_pose h_way h_px h_py h_free h_tips h_far h_queue h_times h_turns h_names h_named h_text h_told h_spare s_hasKept s_pasts s_pathMoves s_spot s_thrown s_faulty s_queued s_length s_at s_error s_tolds s_number s_g z3_23 o_2 hc_2) [0, 1] rfl rfl rfl rfl rfl rfl ⟨Nat.le_of_ble_eq_true rfl, Nat.le_of_ble_eq_true rfl⟩ ⟨Nat.le_of_ble_eq_true rfl, Nat.le_of_ble_eq_true rfl⟩ rfl rfl (Nat.le_of_ble_eq_true rfl) dX8_isNamed_55 (fun H locs hW => ?_)
            have hW : WD D A s (w_X8_isNamed E h_ h_g h_kept h_past h_path h_pose h_way h_px h_py h_free h_tips h_far h_queue h_times h_turns h_names h_named h_text h_told h_spare s_hasKept s_pasts s_pathMoves s_spot s_thrown s_faulty s_queued s_length s_at s_error s_tolds s_number s_g s_names s_named) H locs := hW
            obtain ⟨o_3, hc_3, hf⟩ := ob_bind hf
            refine q_callSI hF hl.1 hK hA hZ hW ms_X8_in ml_X8_79 (c_X8_in l D E tx (s_named ((4 * y1_20) + z3_23).toNatClampNeg) (-o_1) o_2 o_3 hc_3) [] rfl rfl rfl ⟨Nat.le_of_ble_eq_true rfl, Nat.le_of_ble_eq_true rfl⟩ ⟨Nat.le_of_ble_eq_true rfl, Nat.le_of_ble_eq_true rfl⟩ rfl rfl (Nat.le_of_ble_eq_true rfl) dX8_isNamed_58 (fun H locs hW => ?_)
            have hW : WD D A s (w_X8_isNamed E h_ h_g h_kept h_past h_path h_pose h_way h_px h_py h_free h_tips h_far h_queue h_times h_turns h_names h_named h_text h_told h_spare s_hasKept s_pasts s_pathMoves s_spot s_thrown s_faulty s_queued s_length s_at s_error s_tolds s_number s_g s_names s_named) H locs := hW
            refine lv_istore_n (lv' := [(2, .int o_3), (0, .ref h_), (1, .int y1_20), (3, .int z3_23)]) hx hb dX8_isNamed_61 rfl hl (by decide) rfl (fun ls hl => ?_)
            obtain ⟨v_4, ev_4⟩ : ∃ y : Int32, y = z3_23 + 1 := ⟨_, rfl⟩
            replace hf := ob_let hf ev_4
            refine lv_iinc (v := v_4) (lv' := [(3, .int v_4), (2, .int o_3), (0, .ref h_), (1, .int y1_20)]) hx hb dX8_isNamed_62 hl (k := 3) rfl (by rw [ev_4]; rfl) (by decide) rfl (fun ls hl => ?_)
            refine lv_goto (tgt := 23) hx hb dX8_isNamed_65 (by decide) ?_
            cases hf
            exact ih o_3 v_4 ex _ _ _ (h9 _ rfl) (lv_sub hl [2, 3, 1, 0] rfl) hW kx0
    obtain ⟨e_5, hc_5, hf⟩ := ob_bind hf
    refine hB23 lfuel k0_20 0 e_5 _ _ _ hc_5 (lv_sub hl [2, 3, 1, 0] rfl) hW ?_
    intro H locs ls hl hW
    refine lv_iload_n hx hb dX8_isNamed_68 rfl (lv_at hl 0 rfl) ?_
    have hz := nar_b (ob_gb hf).1
    replace hf := (ob_gb hf).2
    cases hf
    exact hret dX8_isNamed_69 hz.1 rfl hW
  refine lv_aload_n hx hb dX8_isNamed_0 rfl (lv_at hl 0 rfl) ?_
  refine q_get hF hK hW fl_X8_58 0 rfl rfl dX8_isNamed_1 ?_
  refine lv_iload_n hx hb dX8_isNamed_4 rfl (lv_at hl 1 rfl) ?_
  refine q_iald hx hb hK hW 2 0 rfl rfl dX8_isNamed_5 hf (fun hf => ?_)
  refine lv_aload_n hx hb dX8_isNamed_6 rfl (lv_at hl 0 rfl) ?_
  refine q_get hF hK hW fl_X8_7 0 rfl rfl dX8_isNamed_7 ?_
  refine lv_iconst (v := 0) hx hb dX8_isNamed_10 (by decide) ?_
  refine q_iald hx hb hK hW 1 0 rfl rfl dX8_isNamed_11 hf (fun hf => ?_)
  refine q_icmp_ne (tgt := 19) hx hb dX8_isNamed_12 (by decide) hf (fun hf => ?_) (fun hf => ?_)
  · refine lv_iconst (v := 0) hx hb dX8_isNamed_19 (by decide) ?_
    exact hL20 x1 0 _ _ _ hf (lv_sub hl [0, 1] rfl) hW
  · refine lv_iconst (v := 1) hx hb dX8_isNamed_15 (by decide) ?_
    refine lv_goto (tgt := 20) hx hb dX8_isNamed_16 (by decide) ?_
    exact hL20 x1 1 _ _ _ hf (lv_sub hl [0, 1] rfl) hW
def w_X8_planToName (E : Nat → ClassId) (h_ h_g h_kept h_past h_path h_pose h_way h_px h_py h_free h_tips h_far h_queue h_times h_turns h_names h_named h_text h_told h_spare : Nat) (s_hasKept : Int32) (s_pasts : Int32) (s_pathMoves : Int32) (s_spot : Int32) (s_thrown : Int32) (s_faulty : Int32) (s_queued : Int32) (s_length : Int32) (s_at : Int32) (s_error : Int32) (s_tolds : Int32) (s_number : Int32) (s_g : Nat → Int32) (s_path : Nat → Int32) (s_pose : Nat → Int32) (s_way : Nat → Int32) (s_px : Nat → Int32) (s_py : Nat → Int32) (s_free : Nat → Int32) (s_tips : Nat → Int32) (s_far : Nat → Int32) (s_queue : Nat → Int32) (s_names : Nat → Int32) (s_named : Nat → Int32) : va_W := [(h_, .inr (10, [.ref h_g, .ref h_kept, .int s_hasKept, .ref h_past, .int s_pasts, .ref h_path, .int s_pathMoves, .int s_spot, .int s_thrown, .ref h_pose, .ref h_way, .ref h_px, .ref h_py, .int s_faulty, .ref h_free, .ref h_tips, .ref h_far, .ref h_queue, .int s_queued, .ref h_times, .ref h_turns, .ref h_names, .ref h_named, .ref h_text, .int s_length, .int s_at, .int s_error, .ref h_told, .int s_tolds, .int s_number, .ref h_spare])), (h_g, .inl (E 0, 141, .inl s_g)), (h_path, .inl (E 0, 5000, .inl s_path)), (h_pose, .inl (E 0, 4, .inl s_pose)), (h_way, .inl (E 0, 4, .inl s_way)), (h_px, .inl (E 0, 5, .inl s_px)), (h_py, .inl (E 0, 5, .inl s_py)), (h_free, .inl (E 1, 5000, .inl s_free)), (h_tips, .inl (E 0, 5000, .inl s_tips)), (h_far, .inl (E 0, 5000, .inl s_far)), (h_queue, .inl (E 0, 5000, .inl s_queue)), (h_names, .inl (E 0, 26, .inl s_names)), (h_named, .inl (E 0, 104, .inl s_named))]
set_option maxHeartbeats 4000000 in
set_option maxRecDepth 100000 in
theorem c_X8_planToName (l : Launch) (D : va_G) (E : Nat → ClassId) (tx : List (Nat × String)) (h_ h_g h_kept h_past h_path h_pose h_way h_px h_py h_free h_tips h_far h_queue h_times h_turns h_names h_named h_text h_told h_spare : Nat) (s_hasKept : Int32) (s_pasts : Int32) (s_pathMoves : Int32) (s_spot : Int32) (s_thrown : Int32) (s_faulty : Int32) (s_queued : Int32) (s_length : Int32) (s_at : Int32) (s_error : Int32) (s_tolds : Int32) (s_number : Int32) (s_g : Nat → Int32) (s_path : Nat → Int32) (s_pose : Nat → Int32) (s_way : Nat → Int32) (s_px : Nat → Int32) (s_py : Nat → Int32) (s_free : Nat → Int32) (s_tips : Nat → Int32) (s_far : Nat → Int32) (s_queue : Nat → Int32) (s_names : Nat → Int32) (s_named : Nat → Int32) (x1 : Int32) (r0 : Int32) (r1 : Int32) (r2 : Int32) (r3 : Int32) (r4 : Int32) (r5 : Int32) (r6 : Nat → Int32) (r7 : Nat → Int32) (r8 : Nat → Int32) (r9 : Nat → Int32) (r10 : Nat → Int32) (r11 : Nat → Int32) (r12 : Nat → Int32) (r13 : Nat → Int32) (r14 : Nat → Int32) (hf : f_X8_planToName s_pathMoves s_spot s_thrown s_faulty s_queued s_g s_path s_pose s_way s_px s_py s_free s_tips s_far s_queue s_names s_named x1 = some (r0, r1, r2, r3, r4, r5, r6, r7, r8, r9, r10, r11, r12, r13, r14)) : CI l yX8_planToName cX8_planToName 5 (some .int) 8 176 D E tx [.ref h_, .int x1] (w_X8_planToName E h_ h_g h_kept h_past h_path h_pose h_way h_px h_py h_free h_tips h_far h_queue h_times h_turns h_names h_named h_text h_told h_spare s_hasKept s_pasts s_pathMoves s_spot s_thrown s_faulty s_queued s_length s_at s_error s_tolds s_number s_g s_path s_pose s_way s_px s_py s_free s_tips s_far s_queue s_names s_named) (w_X8_planToName E h_ h_g h_kept h_past h_path h_pose h_way h_px h_py h_free h_tips h_far h_queue h_times h_turns h_names h_named h_text h_told h_spare s_hasKept s_pasts r1 r2 r3 r4 r5 s_length s_at s_error s_tolds s_number s_g r6 r7 r8 r9 r10 r11 r12 r13 r14 s_names s_named) r0 := by
  refine CI_of RX8 pn_X8 rfl (Nat.le_of_ble_eq_true rfl) (fun p e s m args below meth c A Q hF hK hA hZ hW hret ls hl => ?_)
  have hx := hF.1
  have hb := hF.2.1
  have hl : lv_has ls 5 [(0, .ref h_), (1, .int x1)] := hl
  unfold f_X8_planToName at hf
  have hL44 : ∀ (s_pathMoves_44 : Int32) (s_spot_44 : Int32) (s_thrown_44 : Int32) (s_faulty_44 : Int32) (s_queued_44 : Int32) (s_path_44 : Nat → Int32) (s_pose_44 : Nat → Int32) (s_way_44 : Nat → Int32) (s_px_44 : Nat → Int32) (s_py_44 : Nat → Int32) (s_free_44 : Nat → Int32) (s_tips_44 : Nat → Int32) (s_far_44 : Nat → Int32) (s_queue_44 : Nat → Int32) (y2_44 : Int32) (k1_44 : Int32) (H : Heap) (locs : List Loc) (ls : Array Slot), f_X8_planToName_L44 s_pathMoves_44 s_spot_44 s_thrown_44 s_faulty_44 s_queued_44 s_g s_path_44 s_pose_44 s_way_44 s_px_44 s_py_44 s_free_44 s_tips_44 s_far_44 s_queue_44 s_names s_named y2_44 k1_44 = some (r0, r1, r2, r3, r4, r5, r6, r7, r8, r9, r10, r11, r12, r13, r14) → lv_has ls 5 [(0, .ref h_), (2, .int y2_44)] → WD D A s (w_X8_planToName E h_ h_g h_kept h_past h_path h_pose h_way h_px h_py h_free h_tips h_far h_queue h_times h_turns h_names h_named h_text h_told h_spare s_hasKept s_pasts s_pathMoves_44 s_spot_44 s_thrown_44 s_faulty_44 s_queued_44 s_length s_at s_error s_tolds s_number s_g s_path_44 s_pose_44 s_way_44 s_px_44 s_py_44 s_free_44 s_tips_44 s_far_44 s_queue_44 s_names s_named) H locs → W p l e (RM 8 176) s m args below meth c H locs 0 0 Q (F0 m 44 ls [.int k1_44, .ref h_]) := by
    intro s_pathMoves_44 s_spot_44 s_thrown_44 s_faulty_44 s_queued_44 s_path_44 s_pose_44 s_way_44 s_px_44 s_py_44 s_free_44 s_tips_44 s_far_44 s_queue_44 y2_44 k1_44 H locs ls hf hl hW
    unfold f_X8_planToName_L44 at hf
    refine q_put hF hK hW fl_X8_76 ft_X8 rfl 0 rfl rfl rfl (Nat.le_of_ble_eq_true rfl) dX8_planToName_44 (fun H locs hW => ?_)
    have hW : WD D A s (w_X8_planToName E h_ h_g h_kept h_past h_path h_pose h_way h_px h_py h_free h_tips h_far h_queue h_times h_turns h_names h_named h_text h_told h_spare s_hasKept s_pasts s_pathMoves_44 s_spot_44 k1_44 s_faulty_44 s_queued_44 s_length s_at s_error s_tolds s_number s_g s_path_44 s_pose_44 s_way_44 s_px_44 s_py_44 s_free_44 s_tips_44 s_far_44 s_queue_44 s_names s_named) H locs := hW
    refine lv_aload_n hx hb dX8_planToName_47 rfl (lv_at hl 0 rfl) ?_
    refine q_get hF hK hW fl_X8_76 0 rfl rfl dX8_planToName_48 ?_
    refine q_if_le (tgt := 56) hx hb dX8_planToName_51 (by decide) hf (fun hf => ?_) (fun hf => ?_)
    · refine lv_iconst (v := 0) hx hb dX8_planToName_56 (by decide) ?_
      refine lv_istore_n (lv' := [(3, .int 0), (0, .ref h_), (2, .int y2_44)]) hx hb dX8_planToName_57 rfl hl (by decide) rfl (fun ls hl => ?_)
      refine lv_iconst (v := 0) hx hb dX8_planToName_58 (by decide) ?_
      refine lv_istore (lv' := [(4, .int 0), (3, .int 0), (0, .ref h_), (2, .int y2_44)]) hx hb dX8_planToName_59 hl (by decide) rfl (fun ls hl => ?_)
      have hB61 : ∀ (n : Nat) (z3_61 : Int32) (z4_61 : Int32) (ex : Int32) (H : Heap) (locs : List Loc) (ls : Array Slot), LPF (fun z => f_X8_planToName_B61 s_pathMoves_44 s_spot_44 k1_44 s_faulty_44 s_queued_44 s_g s_path_44 s_pose_44 s_way_44 s_px_44 s_py_44 s_free_44 s_tips_44 s_far_44 s_queue_44 s_names s_named y2_44 z.1 z.2) n (z3_61, z4_61) = some ex → lv_has ls 5 [(0, .ref h_), (2, .int y2_44), (3, .int z3_61), (4, .int z4_61)] → WD D A s (w_X8_planToName E h_ h_g h_kept h_past h_path h_pose h_way h_px h_py h_free h_tips h_far h_queue h_times h_turns h_names h_named h_text h_told h_spare s_hasKept s_pasts s_pathMoves_44 s_spot_44 k1_44 s_faulty_44 s_queued_44 s_length s_at s_error s_tolds s_number s_g s_path_44 s_pose_44 s_way_44 s_px_44 s_py_44 s_free_44 s_tips_44 s_far_44 s_queue_44 s_names s_named) H locs → (∀ (H : Heap) (locs : List Loc) (ls : Array Slot), lv_has ls 5 [(0, .ref h_), (3, .int ex)] → WD D A s (w_X8_planToName E h_ h_g h_kept h_past h_path h_pose h_way h_px h_py h_free h_tips h_far h_queue h_times h_turns h_names h_named h_text h_told h_spare s_hasKept s_pasts s_pathMoves_44 s_spot_44 k1_44 s_faulty_44 s_queued_44 s_length s_at s_error s_tolds s_number s_g s_path_44 s_pose_44 s_way_44 s_px_44 s_py_44 s_free_44 s_tips_44 s_far_44 s_queue_44 s_names s_named) H locs → W p l e (RM 8 176) s m args below meth c H locs 0 0 Q (F0 m 106 ls [])) → W p l e (RM 8 176) s m args below meth c H locs 0 0 Q (F0 m 61 ls []) := by
        intro n
        induction n with
        | zero => intro z3_61 z4_61 ex H locs ls h9; exact (ob_lp0 h9).elim
        | succ n ih =>
          intro z3_61 z4_61 ex H locs ls h9 hl hW kx0
          obtain ⟨q9, hf, h9, k9⟩ := ob_lp h9
          have hf : f_X8_planToName_B61 s_pathMoves_44 s_spot_44 k1_44 s_faulty_44 s_queued_44 s_g s_path_44 s_pose_44 s_way_44 s_px_44 s_py_44 s_free_44 s_tips_44 s_far_44 s_queue_44 s_names s_named y2_44 z3_61 z4_61 = some q9 := hf
          unfold f_X8_planToName_B61 at hf
          refine lv_iload hx hb dX8_planToName_61 (lv_at hl 3 rfl) ?_
          refine lv_aload_n hx hb dX8_planToName_63 rfl (lv_at hl 0 rfl) ?_
          refine q_get hF hK hW fl_X8_7 0 rfl rfl dX8_planToName_64 ?_
          refine lv_iconst (v := 0) hx hb dX8_planToName_67 (by decide) ?_
          refine q_iald hx hb hK hW 1 0 rfl rfl dX8_planToName_68 hf (fun hf => ?_)
          refine q_icmp_ge (tgt := 106) hx hb dX8_planToName_69 (by decide) hf (fun hf => ?_) (fun hf => ?_)
          · cases hf
            have hx9 := k9 _ rfl
            subst hx9
            exact kx0 _ _ _ (lv_sub hl [0, 2] rfl) hW
          · refine lv_iload_n hx hb dX8_planToName_72 rfl (lv_at hl 2 rfl) ?_
            refine lv_aload_n hx hb dX8_planToName_73 rfl (lv_at hl 0 rfl) ?_
            refine lv_iload hx hb dX8_planToName_74 (lv_at hl 3 rfl) ?_
            obtain ⟨o_1, hc_1, hf⟩ := ob_bind hf
            refine q_callI hF hl.1 hK hA hZ hW mv_X8_values ml_X8_130 (c_X8_values l D E tx h_ h_g h_kept h_past h_path h_pose h_way h_px h_py h_free h_tips h_far h_queue h_times h_turns h_names h_named h_text h_told h_spare s_hasKept s_pasts s_pathMoves_44 s_spot_44 k1_44 s_faulty_44 s_queued_44 s_length s_at s_error s_tolds s_number s_g z4_61 o_1 hc_1) [0, 1] rfl rfl rfl rfl rfl rfl ⟨Nat.le_of_ble_eq_true rfl, Nat.le_of_ble_eq_true rfl⟩ ⟨Nat.le_of_ble_eq_true rfl, Nat.le_of_ble_eq_true rfl⟩ rfl rfl (Nat.le_of_ble_eq_true rfl) dX8_planToName_76 (fun H locs hW => ?_)
            have hW : WD D A s (w_X8_planToName E h_ h_g h_kept h_past h_path h_pose h_way h_px h_py h_free h_tips h_far h_queue h_times h_turns h_names h_named h_text h_told h_spare s_hasKept s_pasts s_pathMoves_44 s_spot_44 k1_44 s_faulty_44 s_queued_44 s_length s_at s_error s_tolds s_number s_g s_path_44 s_pose_44 s_way_44 s_px_44 s_py_44 s_free_44 s_tips_44 s_far_44 s_queue_44 s_names s_named) H locs := hW
            refine lv_imul hx hb dX8_planToName_79 ?_
            refine lv_aload_n hx hb dX8_planToName_80 rfl (lv_at hl 0 rfl) ?_
            refine q_get hF hK hW fl_X8_61 0 rfl rfl dX8_planToName_81 ?_
            refine lv_iconst (v := 4) hx hb dX8_planToName_84 (by decide) ?_
            refine lv_iload_n hx hb dX8_planToName_85 rfl (lv_at hl 1 rfl) ?_
            refine lv_imul hx hb dX8_planToName_86 ?_
            refine lv_iload hx hb dX8_planToName_87 (lv_at hl 3 rfl) ?_
            refine lv_iadd hx hb dX8_planToName_89 ?_
            refine q_iald hx hb hK hW 12 0 rfl rfl dX8_planToName_90 hf (fun hf => ?_)
            refine lv_iadd hx hb dX8_planToName_91 ?_
            refine lv_aload_n hx hb dX8_planToName_92 rfl (lv_at hl 0 rfl) ?_
            refine lv_iload hx hb dX8_planToName_93 (lv_at hl 3 rfl) ?_
            obtain ⟨o_2, hc_2, hf⟩ := ob_bind hf
            refine q_callI hF hl.1 hK hA hZ hW mv_X8_down ml_X8_124 (c_X8_down l D E tx h_ h_g h_kept h_past h_path h_pose h_way h_px h_py h_free h_tips h_far h_queue h_times h_turns h_names h_named h_text h_told h_spare s_hasKept s_pasts s_pathMoves_44 s_spot_44 k1_44 s_faulty_44 s_queued_44 s_length s_at s_error s_tolds s_number s_g z4_61 o_2 hc_2) [0, 1] rfl rfl rfl rfl rfl rfl ⟨Nat.le_of_ble_eq_true rfl, Nat.le_of_ble_eq_true rfl⟩ ⟨Nat.le_of_ble_eq_true rfl, Nat.le_of_ble_eq_true rfl⟩ rfl rfl (Nat.le_of_ble_eq_true rfl) dX8_planToName_95 (fun H locs hW => ?_)
            have hW : WD D A s (w_X8_planToName E h_ h_g h_kept h_past h_path h_pose h_way h_px h_py h_free h_tips h_far h_queue h_times h_turns h_names h_named h_text h_told h_spare s_hasKept s_pasts s_pathMoves_44 s_spot_44 k1_44 s_faulty_44 s_queued_44 s_length s_at s_error s_tolds s_number s_g s_path_44 s_pose_44 s_way_44 s_px_44 s_py_44 s_free_44 s_tips_44 s_far_44 s_queue_44 s_names s_named) H locs := hW
            refine lv_iadd hx hb dX8_planToName_98 ?_
            refine lv_topi (fun v_3 ev_3 => ?_)
            replace hf := ob_let hf ev_3
            refine lv_istore_n (lv' := [(3, .int v_3), (0, .ref h_), (2, .int y2_44), (4, .int z4_61)]) hx hb dX8_planToName_99 rfl hl (by decide) rfl (fun ls hl => ?_)
            obtain ⟨v_4, ev_4⟩ : ∃ y : Int32, y = z4_61 + 1 := ⟨_, rfl⟩
            replace hf := ob_let hf ev_4
            refine lv_iinc (v := v_4) (lv' := [(4, .int v_4), (3, .int v_3), (0, .ref h_), (2, .int y2_44)]) hx hb dX8_planToName_100 hl (k := 3) rfl (by rw [ev_4]; rfl) (by decide) rfl (fun ls hl => ?_)
            refine lv_goto (tgt := 61) hx hb dX8_planToName_103 (by decide) ?_
            cases hf
            exact ih v_3 v_4 ex _ _ _ (h9 _ rfl) (lv_sub hl [2, 3, 1, 0] rfl) hW kx0
      obtain ⟨e_5, hc_5, hf⟩ := ob_bind hf
      refine hB61 lfuel 0 0 e_5 _ _ _ hc_5 (lv_sub hl [2, 3, 1, 0] rfl) hW ?_
      intro H locs ls hl hW
      refine lv_aload_n hx hb dX8_planToName_106 rfl (lv_at hl 0 rfl) ?_
      refine lv_iload_n hx hb dX8_planToName_107 rfl (lv_at hl 1 rfl) ?_
      obtain ⟨o_6, hc_6, hf⟩ := ob_bind hf
      refine q_callV hF hl.1 hK hA hZ hW mv_X8_toPose ml_X8_258 (c_X8_toPose l D E tx h_ h_g h_kept h_past h_path h_pose h_way h_px h_py h_free h_tips h_far h_queue h_times h_turns h_names h_named h_text h_told h_spare s_hasKept s_pasts s_pathMoves_44 s_spot_44 k1_44 s_faulty_44 s_queued_44 s_length s_at s_error s_tolds s_number s_g s_pose_44 s_way_44 s_px_44 s_py_44 s_free_44 s_tips_44 s_far_44 s_queue_44 e_5 o_6.1 o_6.2.1 o_6.2.2.1 o_6.2.2.2.1 o_6.2.2.2.2.1 o_6.2.2.2.2.2.1 o_6.2.2.2.2.2.2.1 o_6.2.2.2.2.2.2.2.1 o_6.2.2.2.2.2.2.2.2.1 o_6.2.2.2.2.2.2.2.2.2 hc_6) [0, 1, 3, 4, 5, 6, 7, 8, 9, 10] rfl rfl rfl rfl rfl rfl ⟨Nat.le_of_ble_eq_true rfl, Nat.le_of_ble_eq_true rfl⟩ ⟨Nat.le_of_ble_eq_true rfl, Nat.le_of_ble_eq_true rfl⟩ rfl rfl (Nat.le_of_ble_eq_true rfl) dX8_planToName_108 (fun H locs hW => ?_)
      have hW : WD D A s (w_X8_planToName E h_ h_g h_kept h_past h_path h_pose h_way h_px h_py h_free h_tips h_far h_queue h_times h_turns h_names h_named h_text h_told h_spare s_hasKept s_pasts s_pathMoves_44 s_spot_44 k1_44 o_6.1 o_6.2.1 s_length s_at s_error s_tolds s_number s_g s_path_44 o_6.2.2.1 o_6.2.2.2.1 o_6.2.2.2.2.1 o_6.2.2.2.2.2.1 o_6.2.2.2.2.2.2.1 o_6.2.2.2.2.2.2.2.1 o_6.2.2.2.2.2.2.2.2.1 o_6.2.2.2.2.2.2.2.2.2 s_names s_named) H locs := hW
      refine lv_aload_n hx hb dX8_planToName_111 rfl (lv_at hl 0 rfl) ?_
      obtain ⟨o_7, hc_7, hf⟩ := ob_bind hf
      refine q_callI hF hl.1 hK hA hZ hW mv_X8_leads ml_X8_261 (c_X8_leads l D E tx h_ h_g h_kept h_past h_path h_pose h_way h_px h_py h_free h_tips h_far h_queue h_times h_turns h_names h_named h_text h_told h_spare s_hasKept s_pasts s_pathMoves_44 s_spot_44 k1_44 o_6.1 o_6.2.1 s_length s_at s_error s_tolds s_number s_g s_path_44 o_6.2.2.2.2.2.2.1 o_6.2.2.2.2.2.2.2.2.1 o_7.1 o_7.2.1 o_7.2.2.1 o_7.2.2.2 hc_7) [0, 1, 2, 7, 9] rfl rfl rfl rfl rfl rfl ⟨Nat.le_of_ble_eq_true rfl, Nat.le_of_ble_eq_true rfl⟩ ⟨Nat.le_of_ble_eq_true rfl, Nat.le_of_ble_eq_true rfl⟩ rfl rfl (Nat.le_of_ble_eq_true rfl) dX8_planToName_112 (fun H locs hW => ?_)
      have hW : WD D A s (w_X8_planToName E h_ h_g h_kept h_past h_path h_pose h_way h_px h_py h_free h_tips h_far h_queue h_times h_turns h_names h_named h_text h_told h_spare s_hasKept s_pasts o_7.2.1 o_7.2.2.1 k1_44 o_6.1 o_6.2.1 s_length s_at s_error s_tolds s_number s_g o_7.2.2.2 o_6.2.2.1 o_6.2.2.2.1 o_6.2.2.2.2.1 o_6.2.2.2.2.2.1 o_6.2.2.2.2.2.2.1 o_6.2.2.2.2.2.2.2.1 o_6.2.2.2.2.2.2.2.2.1 o_6.2.2.2.2.2.2.2.2.2 s_names s_named) H locs := hW
      refine q_if_eq (tgt := 125) hx hb dX8_planToName_115 (by decide) hf (fun hf => ?_) (fun hf => ?_)
      · refine lv_aload_n hx hb dX8_planToName_125 rfl (lv_at hl 0 rfl) ?_
        refine lv_iconst (v := 4) hx hb dX8_planToName_126 (by decide) ?_
        obtain ⟨o_8, hc_8, hf⟩ := ob_bind hf
        refine q_callI hF hl.1 hK hA hZ hW mv_X8_fails ml_X8_86 (c_X8_fails l D E tx h_ h_g h_kept h_past h_path h_pose h_way h_px h_py h_free h_tips h_far h_queue h_times h_turns h_names h_named h_text h_told h_spare s_hasKept s_pasts o_7.2.1 o_7.2.2.1 k1_44 o_6.1 o_6.2.1 s_length s_at s_error s_tolds s_number 4 o_8.1 o_8.2 hc_8) [0] rfl rfl rfl rfl rfl rfl ⟨Nat.le_of_ble_eq_true rfl, Nat.le_of_ble_eq_true rfl⟩ ⟨Nat.le_of_ble_eq_true rfl, Nat.le_of_ble_eq_true rfl⟩ rfl rfl (Nat.le_of_ble_eq_true rfl) dX8_planToName_127 (fun H locs hW => ?_)
        have hW : WD D A s (w_X8_planToName E h_ h_g h_kept h_past h_path h_pose h_way h_px h_py h_free h_tips h_far h_queue h_times h_turns h_names h_named h_text h_told h_spare s_hasKept s_pasts o_7.2.1 o_7.2.2.1 o_8.2 o_6.1 o_6.2.1 s_length s_at s_error s_tolds s_number s_g o_7.2.2.2 o_6.2.2.1 o_6.2.2.2.1 o_6.2.2.2.2.1 o_6.2.2.2.2.2.1 o_6.2.2.2.2.2.2.1 o_6.2.2.2.2.2.2.2.1 o_6.2.2.2.2.2.2.2.2.1 o_6.2.2.2.2.2.2.2.2.2 s_names s_named) H locs := hW
        cases hf
        exact hret dX8_planToName_130 rfl rfl hW
      · refine lv_aload_n hx hb dX8_planToName_118 rfl (lv_at hl 0 rfl) ?_
        refine q_get hF hK hW fl_X8_22 0 rfl rfl dX8_planToName_119 ?_
        refine lv_goto (tgt := 130) hx hb dX8_planToName_122 (by decide) ?_
        cases hf
        exact hret dX8_planToName_130 rfl rfl hW
    · refine lv_iconst (v := 0) hx hb dX8_planToName_54 (by decide) ?_
      cases hf
      exact hret dX8_planToName_55 rfl rfl hW
  refine lv_iload_n hx hb dX8_planToName_0 rfl (lv_at hl 1 rfl) ?_
  refine lv_bipush (v := 97) hx hb dX8_planToName_1 (by decide) ?_
  refine lv_isub hx hb dX8_planToName_3 ?_
  refine lv_topi (fun v_9 ev_9 => ?_)
  replace hf := ob_let hf ev_9
  refine lv_istore_n (lv' := [(2, .int v_9), (0, .ref h_), (1, .int x1)]) hx hb dX8_planToName_4 rfl hl (by decide) rfl (fun ls hl => ?_)
  refine lv_aload_n hx hb dX8_planToName_5 rfl (lv_at hl 1 rfl) ?_
  refine lv_iload_n hx hb dX8_planToName_6 rfl (lv_at hl 0 rfl) ?_
  refine lv_iconst (v := 0) hx hb dX8_planToName_7 (by decide) ?_
  refine lv_bipush (v := 25) hx hb dX8_planToName_8 (by decide) ?_
  obtain ⟨o_10, hc_10, hf⟩ := ob_bind hf
  refine q_callSI hF hl.1 hK hA hZ hW ms_X8_in ml_X8_79 (c_X8_in l D E tx v_9 0 25 o_10 hc_10) [] rfl rfl rfl ⟨Nat.le_of_ble_eq_true rfl, Nat.le_of_ble_eq_true rfl⟩ ⟨Nat.le_of_ble_eq_true rfl, Nat.le_of_ble_eq_true rfl⟩ rfl rfl (Nat.le_of_ble_eq_true rfl) dX8_planToName_10 (fun H locs hW => ?_)
  have hW : WD D A s (w_X8_planToName E h_ h_g h_kept h_past h_path h_pose h_way h_px h_py h_free h_tips h_far h_queue h_times h_turns h_names h_named h_text h_told h_spare s_hasKept s_pasts s_pathMoves s_spot s_thrown s_faulty s_queued s_length s_at s_error s_tolds s_number s_g s_path s_pose s_way s_px s_py s_free s_tips s_far s_queue s_names s_named) H locs := hW
  refine q_if_eq (tgt := 43) hx hb dX8_planToName_13 (by decide) hf (fun hf => ?_) (fun hf => ?_)
  · refine lv_iconst (v := 1) hx hb dX8_planToName_43 (by decide) ?_
    exact hL44 s_pathMoves s_spot s_thrown s_faulty s_queued s_path s_pose s_way s_px s_py s_free s_tips s_far s_queue v_9 1 _ _ _ hf (lv_sub hl [1, 0] rfl) hW
  · refine lv_aload_n hx hb dX8_planToName_16 rfl (lv_at hl 1 rfl) ?_
    refine lv_iload_n hx hb dX8_planToName_17 rfl (lv_at hl 0 rfl) ?_
    obtain ⟨o_11, hc_11, hf⟩ := ob_bind hf
    refine q_callI hF hl.1 hK hA hZ hW mv_X8_isNamed ml_X8_282 (c_X8_isNamed l D E tx h_ h_g h_kept h_past h_path h_pose h_way h_px h_py h_free h_tips h_far h_queue h_times h_turns h_names h_named h_text h_told h_spare s_hasKept s_pasts s_pathMoves s_spot s_thrown s_faulty s_queued s_length s_at s_error s_tolds s_number s_g s_names s_named v_9 o_11 hc_11) [0, 1, 11, 12] rfl rfl rfl rfl rfl rfl ⟨Nat.le_of_ble_eq_true rfl, Nat.le_of_ble_eq_true rfl⟩ ⟨Nat.le_of_ble_eq_true rfl, Nat.le_of_ble_eq_true rfl⟩ rfl rfl (Nat.le_of_ble_eq_true rfl) dX8_planToName_18 (fun H locs hW => ?_)
    have hW : WD D A s (w_X8_planToName E h_ h_g h_kept h_past h_path h_pose h_way h_px h_py h_free h_tips h_far h_queue h_times h_turns h_names h_named h_text h_told h_spare s_hasKept s_pasts s_pathMoves s_spot s_thrown s_faulty s_queued s_length s_at s_error s_tolds s_number s_g s_path s_pose s_way s_px s_py s_free s_tips s_far s_queue s_names s_named) H locs := hW
    refine q_if_eq (tgt := 39) hx hb dX8_planToName_21 (by decide) hf (fun hf => ?_) (fun hf => ?_)
    · refine lv_iconst (v := 2) hx hb dX8_planToName_39 (by decide) ?_
      refine lv_goto (tgt := 44) hx hb dX8_planToName_40 (by decide) ?_
      exact hL44 s_pathMoves s_spot s_thrown s_faulty s_queued s_path s_pose s_way s_px s_py s_free s_tips s_far s_queue v_9 2 _ _ _ hf (lv_sub hl [1, 0] rfl) hW
    · refine lv_aload_n hx hb dX8_planToName_24 rfl (lv_at hl 1 rfl) ?_
      obtain ⟨o_12, hc_12, hf⟩ := ob_bind hf
      refine q_callI hF hl.1 hK hA hZ hW mv_X8_isMany ml_X8_222 (c_X8_isMany l D E tx h_ h_g h_kept h_past h_path h_pose h_way h_px h_py h_free h_tips h_far h_queue h_times h_turns h_names h_named h_text h_told h_spare s_hasKept s_pasts s_pathMoves s_spot s_thrown s_faulty s_queued s_length s_at s_error s_tolds s_number s_g o_12 hc_12) [0, 1] rfl rfl rfl rfl rfl rfl ⟨Nat.le_of_ble_eq_true rfl, Nat.le_of_ble_eq_true rfl⟩ ⟨Nat.le_of_ble_eq_true rfl, Nat.le_of_ble_eq_true rfl⟩ rfl rfl (Nat.le_of_ble_eq_true rfl) dX8_planToName_25 (fun H locs hW => ?_)
      have hW : WD D A s (w_X8_planToName E h_ h_g h_kept h_past h_path h_pose h_way h_px h_py h_free h_tips h_far h_queue h_times h_turns h_names h_named h_text h_told h_spare s_hasKept s_pasts s_pathMoves s_spot s_thrown s_faulty s_queued s_length s_at s_error s_tolds s_number s_g s_path s_pose s_way s_px s_py s_free s_tips s_far s_queue s_names s_named) H locs := hW
      refine q_if_eq (tgt := 35) hx hb dX8_planToName_28 (by decide) hf (fun hf => ?_) (fun hf => ?_)
      · refine lv_iconst (v := 0) hx hb dX8_planToName_35 (by decide) ?_
        refine lv_goto (tgt := 44) hx hb dX8_planToName_36 (by decide) ?_
        exact hL44 s_pathMoves s_spot s_thrown s_faulty s_queued s_path s_pose s_way s_px s_py s_free s_tips s_far s_queue v_9 0 _ _ _ hf (lv_sub hl [1, 0] rfl) hW
      · refine lv_iconst (v := 3) hx hb dX8_planToName_31 (by decide) ?_
        refine lv_goto (tgt := 44) hx hb dX8_planToName_32 (by decide) ?_
        exact hL44 s_pathMoves s_spot s_thrown s_faulty s_queued s_path s_pose s_way s_px s_py s_free s_tips s_far s_queue v_9 3 _ _ _ hf (lv_sub hl [1, 0] rfl) hW
def w_X8_append (E : Nat → ClassId) (h_ h_g h_kept h_past h_path h_pose h_way h_px h_py h_free h_tips h_far h_queue h_times h_turns h_names h_named h_text h_told h_spare : Nat) (s_hasKept : Int32) (s_pasts : Int32) (s_pathMoves : Int32) (s_spot : Int32) (s_thrown : Int32) (s_faulty : Int32) (s_queued : Int32) (s_length : Int32) (s_at : Int32) (s_error : Int32) (s_tolds : Int32) (s_number : Int32) (s_text : Nat → Int32) : va_W := [(h_, .inr (10, [.ref h_g, .ref h_kept, .int s_hasKept, .ref h_past, .int s_pasts, .ref h_path, .int s_pathMoves, .int s_spot, .int s_thrown, .ref h_pose, .ref h_way, .ref h_px, .ref h_py, .int s_faulty, .ref h_free, .ref h_tips, .ref h_far, .ref h_queue, .int s_queued, .ref h_times, .ref h_turns, .ref h_names, .ref h_named, .ref h_text, .int s_length, .int s_at, .int s_error, .ref h_told, .int s_tolds, .int s_number, .ref h_spare])), (h_text, .inl (E 0, 60, .inl s_text))]
set_option maxHeartbeats 4000000 in
set_option maxRecDepth 100000 in
theorem c_X8_append (l : Launch) (D : va_G) (E : Nat → ClassId) (tx : List (Nat × String)) (h_ h_g h_kept h_past h_path h_pose h_way h_px h_py h_free h_tips h_far h_queue h_times h_turns h_names h_named h_text h_told h_spare : Nat) (s_hasKept : Int32) (s_pasts : Int32) (s_pathMoves : Int32) (s_spot : Int32) (s_thrown : Int32) (s_faulty : Int32) (s_queued : Int32) (s_length : Int32) (s_at : Int32) (s_error : Int32) (s_tolds : Int32) (s_number : Int32) (s_text : Nat → Int32) (x1 : Int32) (r0 : Int32) (r1 : Int32) (r2 : Int32) (r3 : Nat → Int32) (hf : f_X8_append s_thrown s_length s_text x1 = some (r0, r1, r2, r3)) : CI l yX8_append cX8_append 2 (some .int) 1 22 D E tx [.ref h_, .int x1] (w_X8_append E h_ h_g h_kept h_past h_path h_pose h_way h_px h_py h_free h_tips h_far h_queue h_times h_turns h_names h_named h_text h_told h_spare s_hasKept s_pasts s_pathMoves s_spot s_thrown s_faulty s_queued s_length s_at s_error s_tolds s_number s_text) (w_X8_append E h_ h_g h_kept h_past h_path h_pose h_way h_px h_py h_free h_tips h_far h_queue h_times h_turns h_names h_named h_text h_told h_spare s_hasKept s_pasts s_pathMoves s_spot r1 s_faulty s_queued r2 s_at s_error s_tolds s_number r3) r0 := by
  refine CI_of RX8 pn_X8 rfl (Nat.le_of_ble_eq_true rfl) (fun p e s m args below meth c A Q hF hK hA hZ hW hret ls hl => ?_)
  have hx := hF.1
  have hb := hF.2.1
  have hl : lv_has ls 2 [(0, .ref h_), (1, .int x1)] := hl
  unfold f_X8_append at hf
  have hL30 : ∀ (s_thrown_30 : Int32) (s_length_30 : Int32) (s_text_30 : Nat → Int32) (y1_30 : Int32) (k1_30 : Int32) (H : Heap) (locs : List Loc) (ls : Array Slot), f_X8_append_L30 s_thrown_30 s_length_30 s_text_30 y1_30 k1_30 = some (r0, r1, r2, r3) → lv_has ls 2 [(0, .ref h_), (1, .int y1_30)] → WD D A s (w_X8_append E h_ h_g h_kept h_past h_path h_pose h_way h_px h_py h_free h_tips h_far h_queue h_times h_turns h_names h_named h_text h_told h_spare s_hasKept s_pasts s_pathMoves s_spot s_thrown_30 s_faulty s_queued s_length_30 s_at s_error s_tolds s_number s_text_30) H locs → W p l e (RM 1 22) s m args below meth c H locs 0 0 Q (F0 m 30 ls [.int k1_30, .ref h_]) := by
    intro s_thrown_30 s_length_30 s_text_30 y1_30 k1_30 H locs ls hf hl hW
    unfold f_X8_append_L30 at hf
    refine q_put hF hK hW fl_X8_76 ft_X8 rfl 0 rfl rfl rfl (Nat.le_of_ble_eq_true rfl) dX8_append_30 (fun H locs hW => ?_)
    have hW : WD D A s (w_X8_append E h_ h_g h_kept h_past h_path h_pose h_way h_px h_py h_free h_tips h_far h_queue h_times h_turns h_names h_named h_text h_told h_spare s_hasKept s_pasts s_pathMoves s_spot k1_30 s_faulty s_queued s_length_30 s_at s_error s_tolds s_number s_text_30) H locs := hW
    refine lv_aload_n hx hb dX8_append_33 rfl (lv_at hl 0 rfl) ?_
    refine q_get hF hK hW fl_X8_76 0 rfl rfl dX8_append_34 ?_
    refine q_if_le (tgt := 42) hx hb dX8_append_37 (by decide) hf (fun hf => ?_) (fun hf => ?_)
    · refine lv_aload_n hx hb dX8_append_42 rfl (lv_at hl 0 rfl) ?_
      refine q_get hF hK hW fl_X8_64 0 rfl rfl dX8_append_43 ?_
      refine lv_aload_n hx hb dX8_append_46 rfl (lv_at hl 0 rfl) ?_
      refine q_get hF hK hW fl_X8_285 0 rfl rfl dX8_append_47 ?_
      refine lv_iload_n hx hb dX8_append_50 rfl (lv_at hl 1 rfl) ?_
      refine q_iast hx hb hK hW 1 0 rfl rfl dX8_append_51 hf (fun a_1 hf H locs hW => ?_)
      have hW : WD D A s (w_X8_append E h_ h_g h_kept h_past h_path h_pose h_way h_px h_py h_free h_tips h_far h_queue h_times h_turns h_names h_named h_text h_told h_spare s_hasKept s_pasts s_pathMoves s_spot k1_30 s_faulty s_queued s_length_30 s_at s_error s_tolds s_number a_1) H locs := hW
      refine lv_aload_n hx hb dX8_append_52 rfl (lv_at hl 0 rfl) ?_
      refine lv_dup hx hb dX8_append_53 rfl ?_
      refine q_get hF hK hW fl_X8_285 0 rfl rfl dX8_append_54 ?_
      refine lv_iconst (v := 1) hx hb dX8_append_57 (by decide) ?_
      refine lv_iadd hx hb dX8_append_58 ?_
      refine lv_topi (fun v_2 ev_2 => ?_)
      replace hf := ob_let hf ev_2
      refine q_put hF hK hW fl_X8_285 ft_X8 rfl 0 rfl rfl rfl (Nat.le_of_ble_eq_true rfl) dX8_append_59 (fun H locs hW => ?_)
      have hW : WD D A s (w_X8_append E h_ h_g h_kept h_past h_path h_pose h_way h_px h_py h_free h_tips h_far h_queue h_times h_turns h_names h_named h_text h_told h_spare s_hasKept s_pasts s_pathMoves s_spot k1_30 s_faulty s_queued v_2 s_at s_error s_tolds s_number a_1) H locs := hW
      refine lv_aload_n hx hb dX8_append_62 rfl (lv_at hl 0 rfl) ?_
      refine q_get hF hK hW fl_X8_285 0 rfl rfl dX8_append_63 ?_
      cases hf
      exact hret dX8_append_66 rfl rfl hW
    · refine lv_iconst (v := 0) hx hb dX8_append_40 (by decide) ?_
      cases hf
      exact hret dX8_append_41 rfl rfl hW
  refine lv_aload_n hx hb dX8_append_0 rfl (lv_at hl 0 rfl) ?_
  refine lv_iload_n hx hb dX8_append_1 rfl (lv_at hl 1 rfl) ?_
  refine lv_bipush (v := 32) hx hb dX8_append_2 (by decide) ?_
  refine lv_bipush (v := 126) hx hb dX8_append_4 (by decide) ?_
  obtain ⟨o_3, hc_3, hf⟩ := ob_bind hf
  refine q_callSI hF hl.1 hK hA hZ hW ms_X8_in ml_X8_79 (c_X8_in l D E tx x1 32 126 o_3 hc_3) [] rfl rfl rfl ⟨Nat.le_of_ble_eq_true rfl, Nat.le_of_ble_eq_true rfl⟩ ⟨Nat.le_of_ble_eq_true rfl, Nat.le_of_ble_eq_true rfl⟩ rfl rfl (Nat.le_of_ble_eq_true rfl) dX8_append_6 (fun H locs hW => ?_)
  have hW : WD D A s (w_X8_append E h_ h_g h_kept h_past h_path h_pose h_way h_px h_py h_free h_tips h_far h_queue h_times h_turns h_names h_named h_text h_told h_spare s_hasKept s_pasts s_pathMoves s_spot s_thrown s_faulty s_queued s_length s_at s_error s_tolds s_number s_text) H locs := hW
  refine q_if_eq (tgt := 29) hx hb dX8_append_9 (by decide) hf (fun hf => ?_) (fun hf => ?_)
  · refine lv_iconst (v := 1) hx hb dX8_append_29 (by decide) ?_
    exact hL30 s_thrown s_length s_text x1 1 _ _ _ hf (lv_sub hl [0, 1] rfl) hW
  · refine lv_aload_n hx hb dX8_append_12 rfl (lv_at hl 0 rfl) ?_
    refine q_get hF hK hW fl_X8_285 0 rfl rfl dX8_append_13 ?_
    refine lv_bipush (v := 60) hx hb dX8_append_16 (by decide) ?_
    refine q_icmp_ne (tgt := 25) hx hb dX8_append_18 (by decide) hf (fun hf => ?_) (fun hf => ?_)
    · refine lv_iconst (v := 0) hx hb dX8_append_25 (by decide) ?_
      refine lv_goto (tgt := 30) hx hb dX8_append_26 (by decide) ?_
      exact hL30 s_thrown s_length s_text x1 0 _ _ _ hf (lv_sub hl [0, 1] rfl) hW
    · refine lv_iconst (v := 2) hx hb dX8_append_21 (by decide) ?_
      refine lv_goto (tgt := 30) hx hb dX8_append_22 (by decide) ?_
      exact hL30 s_thrown s_length s_text x1 2 _ _ _ hf (lv_sub hl [0, 1] rfl) hW
def w_X8_here (E : Nat → ClassId) (h_ h_g h_kept h_past h_path h_pose h_way h_px h_py h_free h_tips h_far h_queue h_times h_turns h_names h_named h_text h_told h_spare : Nat) (s_hasKept : Int32) (s_pasts : Int32) (s_pathMoves : Int32) (s_spot : Int32) (s_thrown : Int32) (s_faulty : Int32) (s_queued : Int32) (s_length : Int32) (s_at : Int32) (s_error : Int32) (s_tolds : Int32) (s_number : Int32) (s_text : Nat → Int32) : va_W := [(h_, .inr (10, [.ref h_g, .ref h_kept, .int s_hasKept, .ref h_past, .int s_pasts, .ref h_path, .int s_pathMoves, .int s_spot, .int s_thrown, .ref h_pose, .ref h_way, .ref h_px, .ref h_py, .int s_faulty, .ref h_free, .ref h_tips, .ref h_far, .ref h_queue, .int s_queued, .ref h_times, .ref h_turns, .ref h_names, .ref h_named, .ref h_text, .int s_length, .int s_at, .int s_error, .ref h_told, .int s_tolds, .int s_number, .ref h_spare])), (h_text, .inl (E 0, 60, .inl s_text))]
set_option maxHeartbeats 4000000 in
set_option maxRecDepth 100000 in
theorem c_X8_here (l : Launch) (D : va_G) (E : Nat → ClassId) (tx : List (Nat × String)) (h_ h_g h_kept h_past h_path h_pose h_way h_px h_py h_free h_tips h_far h_queue h_times h_turns h_names h_named h_text h_told h_spare : Nat) (s_hasKept : Int32) (s_pasts : Int32) (s_pathMoves : Int32) (s_spot : Int32) (s_thrown : Int32) (s_faulty : Int32) (s_queued : Int32) (s_length : Int32) (s_at : Int32) (s_error : Int32) (s_tolds : Int32) (s_number : Int32) (s_text : Nat → Int32)  (r0 : Int32) (hf : f_X8_here s_length s_at s_text = some r0) : CI l yX8_here cX8_here 1 (some .int) 0 0 D E tx [.ref h_] (w_X8_here E h_ h_g h_kept h_past h_path h_pose h_way h_px h_py h_free h_tips h_far h_queue h_times h_turns h_names h_named h_text h_told h_spare s_hasKept s_pasts s_pathMoves s_spot s_thrown s_faulty s_queued s_length s_at s_error s_tolds s_number s_text) (w_X8_here E h_ h_g h_kept h_past h_path h_pose h_way h_px h_py h_free h_tips h_far h_queue h_times h_turns h_names h_named h_text h_told h_spare s_hasKept s_pasts s_pathMoves s_spot s_thrown s_faulty s_queued s_length s_at s_error s_tolds s_number s_text) r0 := by
  refine CI_of RX8 pn_X8 rfl (Nat.le_of_ble_eq_true rfl) (fun p e s m args below meth c A Q hF hK hA hZ hW hret ls hl => ?_)
  have hx := hF.1
  have hb := hF.2.1
  have hl : lv_has ls 1 [(0, .ref h_)] := hl
  unfold f_X8_here at hf
  refine lv_aload_n hx hb dX8_here_0 rfl (lv_at hl 0 rfl) ?_
  refine q_get hF hK hW fl_X8_288 0 rfl rfl dX8_here_1 ?_
  refine lv_aload_n hx hb dX8_here_4 rfl (lv_at hl 0 rfl) ?_
  refine q_get hF hK hW fl_X8_285 0 rfl rfl dX8_here_5 ?_
  refine q_icmp_ge (tgt := 23) hx hb dX8_here_8 (by decide) hf (fun hf => ?_) (fun hf => ?_)
  · refine lv_iconst (v := (-1)) hx hb dX8_here_23 (by decide) ?_
    cases hf
    exact hret dX8_here_24 rfl rfl hW
  · refine lv_aload_n hx hb dX8_here_11 rfl (lv_at hl 0 rfl) ?_
    refine q_get hF hK hW fl_X8_64 0 rfl rfl dX8_here_12 ?_
    refine lv_aload_n hx hb dX8_here_15 rfl (lv_at hl 0 rfl) ?_
    refine q_get hF hK hW fl_X8_288 0 rfl rfl dX8_here_16 ?_
    refine q_iald hx hb hK hW 1 0 rfl rfl dX8_here_19 hf (fun hf => ?_)
    refine lv_goto (tgt := 24) hx hb dX8_here_20 (by decide) ?_
    cases hf
    exact hret dX8_here_24 rfl rfl hW
def w_X8_skips (E : Nat → ClassId) (h_ h_g h_kept h_past h_path h_pose h_way h_px h_py h_free h_tips h_far h_queue h_times h_turns h_names h_named h_text h_told h_spare : Nat) (s_hasKept : Int32) (s_pasts : Int32) (s_pathMoves : Int32) (s_spot : Int32) (s_thrown : Int32) (s_faulty : Int32) (s_queued : Int32) (s_length : Int32) (s_at : Int32) (s_error : Int32) (s_tolds : Int32) (s_number : Int32) (s_text : Nat → Int32) : va_W := [(h_, .inr (10, [.ref h_g, .ref h_kept, .int s_hasKept, .ref h_past, .int s_pasts, .ref h_path, .int s_pathMoves, .int s_spot, .int s_thrown, .ref h_pose, .ref h_way, .ref h_px, .ref h_py, .int s_faulty, .ref h_free, .ref h_tips, .ref h_far, .ref h_queue, .int s_queued, .ref h_times, .ref h_turns, .ref h_names, .ref h_named, .ref h_text, .int s_length, .int s_at, .int s_error, .ref h_told, .int s_tolds, .int s_number, .ref h_spare])), (h_text, .inl (E 0, 60, .inl s_text))]
set_option maxHeartbeats 4000000 in
set_option maxRecDepth 100000 in
theorem c_X8_skips (l : Launch) (D : va_G) (E : Nat → ClassId) (tx : List (Nat × String)) (h_ h_g h_kept h_past h_path h_pose h_way h_px h_py h_free h_tips h_far h_queue h_times h_turns h_names h_named h_text h_told h_spare : Nat) (s_hasKept : Int32) (s_pasts : Int32) (s_pathMoves : Int32) (s_spot : Int32) (s_thrown : Int32) (s_faulty : Int32) (s_queued : Int32) (s_length : Int32) (s_at : Int32) (s_error : Int32) (s_tolds : Int32) (s_number : Int32) (s_text : Nat → Int32) (x1 : Int32) (r0 : Int32) (r1 : Int32) (hf : f_X8_skips s_length s_at s_text x1 = some (r0, r1)) : CI l yX8_skips cX8_skips 2 (some .boolean) 1 20 D E tx [.ref h_, .int x1] (w_X8_skips E h_ h_g h_kept h_past h_path h_pose h_way h_px h_py h_free h_tips h_far h_queue h_times h_turns h_names h_named h_text h_told h_spare s_hasKept s_pasts s_pathMoves s_spot s_thrown s_faulty s_queued s_length s_at s_error s_tolds s_number s_text) (w_X8_skips E h_ h_g h_kept h_past h_path h_pose h_way h_px h_py h_free h_tips h_far h_queue h_times h_turns h_names h_named h_text h_told h_spare s_hasKept s_pasts s_pathMoves s_spot s_thrown s_faulty s_queued s_length r1 s_error s_tolds s_number s_text) r0 := by
  refine CI_of RX8 pn_X8 rfl (Nat.le_of_ble_eq_true rfl) (fun p e s m args below meth c A Q hF hK hA hZ hW hret ls hl => ?_)
  have hx := hF.1
  have hb := hF.2.1
  have hl : lv_has ls 2 [(0, .ref h_), (1, .int x1)] := hl
  unfold f_X8_skips at hf
  refine lv_aload_n hx hb dX8_skips_0 rfl (lv_at hl 0 rfl) ?_
  obtain ⟨o_1, hc_1, hf⟩ := ob_bind hf
  refine q_callI hF hl.1 hK hA hZ hW mv_X8_here ml_X8_291 (c_X8_here l D E tx h_ h_g h_kept h_past h_path h_pose h_way h_px h_py h_free h_tips h_far h_queue h_times h_turns h_names h_named h_text h_told h_spare s_hasKept s_pasts s_pathMoves s_spot s_thrown s_faulty s_queued s_length s_at s_error s_tolds s_number s_text o_1 hc_1) [0, 1] rfl rfl rfl rfl rfl rfl ⟨Nat.le_of_ble_eq_true rfl, Nat.le_of_ble_eq_true rfl⟩ ⟨Nat.le_of_ble_eq_true rfl, Nat.le_of_ble_eq_true rfl⟩ rfl rfl (Nat.le_of_ble_eq_true rfl) dX8_skips_1 (fun H locs hW => ?_)
  have hW : WD D A s (w_X8_skips E h_ h_g h_kept h_past h_path h_pose h_way h_px h_py h_free h_tips h_far h_queue h_times h_turns h_names h_named h_text h_told h_spare s_hasKept s_pasts s_pathMoves s_spot s_thrown s_faulty s_queued s_length s_at s_error s_tolds s_number s_text) H locs := hW
  refine lv_iload_n hx hb dX8_skips_4 rfl (lv_at hl 1 rfl) ?_
  refine q_icmp_eq (tgt := 10) hx hb dX8_skips_5 (by decide) hf (fun hf => ?_) (fun hf => ?_)
  · refine lv_aload_n hx hb dX8_skips_10 rfl (lv_at hl 0 rfl) ?_
    refine lv_dup hx hb dX8_skips_11 rfl ?_
    refine q_get hF hK hW fl_X8_288 0 rfl rfl dX8_skips_12 ?_
    refine lv_iconst (v := 1) hx hb dX8_skips_15 (by decide) ?_
    refine lv_iadd hx hb dX8_skips_16 ?_
    refine lv_topi (fun v_2 ev_2 => ?_)
    replace hf := ob_let hf ev_2
    refine q_put hF hK hW fl_X8_288 ft_X8 rfl 0 rfl rfl rfl (Nat.le_of_ble_eq_true rfl) dX8_skips_17 (fun H locs hW => ?_)
    have hW : WD D A s (w_X8_skips E h_ h_g h_kept h_past h_path h_pose h_way h_px h_py h_free h_tips h_far h_queue h_times h_turns h_names h_named h_text h_told h_spare s_hasKept s_pasts s_pathMoves s_spot s_thrown s_faulty s_queued s_length v_2 s_error s_tolds s_number s_text) H locs := hW
    refine lv_iconst (v := 1) hx hb dX8_skips_20 (by decide) ?_
    cases hf
    exact hret dX8_skips_21 rfl rfl hW
  · refine lv_iconst (v := 0) hx hb dX8_skips_8 (by decide) ?_
    cases hf
    exact hret dX8_skips_9 rfl rfl hW
def w_X8_digit (E : Nat → ClassId) (h_ h_g h_kept h_past h_path h_pose h_way h_px h_py h_free h_tips h_far h_queue h_times h_turns h_names h_named h_text h_told h_spare : Nat) (s_hasKept : Int32) (s_pasts : Int32) (s_pathMoves : Int32) (s_spot : Int32) (s_thrown : Int32) (s_faulty : Int32) (s_queued : Int32) (s_length : Int32) (s_at : Int32) (s_error : Int32) (s_tolds : Int32) (s_number : Int32) (s_text : Nat → Int32) : va_W := [(h_, .inr (10, [.ref h_g, .ref h_kept, .int s_hasKept, .ref h_past, .int s_pasts, .ref h_path, .int s_pathMoves, .int s_spot, .int s_thrown, .ref h_pose, .ref h_way, .ref h_px, .ref h_py, .int s_faulty, .ref h_free, .ref h_tips, .ref h_far, .ref h_queue, .int s_queued, .ref h_times, .ref h_turns, .ref h_names, .ref h_named, .ref h_text, .int s_length, .int s_at, .int s_error, .ref h_told, .int s_tolds, .int s_number, .ref h_spare])), (h_text, .inl (E 0, 60, .inl s_text))]
set_option maxHeartbeats 4000000 in
set_option maxRecDepth 100000 in
theorem c_X8_digit (l : Launch) (D : va_G) (E : Nat → ClassId) (tx : List (Nat × String)) (h_ h_g h_kept h_past h_path h_pose h_way h_px h_py h_free h_tips h_far h_queue h_times h_turns h_names h_named h_text h_told h_spare : Nat) (s_hasKept : Int32) (s_pasts : Int32) (s_pathMoves : Int32) (s_spot : Int32) (s_thrown : Int32) (s_faulty : Int32) (s_queued : Int32) (s_length : Int32) (s_at : Int32) (s_error : Int32) (s_tolds : Int32) (s_number : Int32) (s_text : Nat → Int32) (x1 : Int32) (x2 : Int32) (r0 : Int32) (r1 : Int32) (r2 : Int32) (hf : f_X8_digit s_length s_at s_number s_text x1 x2 = some (r0, r1, r2)) : CI l yX8_digit cX8_digit 3 (some .boolean) 1 22 D E tx [.ref h_, .int x1, .int x2] (w_X8_digit E h_ h_g h_kept h_past h_path h_pose h_way h_px h_py h_free h_tips h_far h_queue h_times h_turns h_names h_named h_text h_told h_spare s_hasKept s_pasts s_pathMoves s_spot s_thrown s_faulty s_queued s_length s_at s_error s_tolds s_number s_text) (w_X8_digit E h_ h_g h_kept h_past h_path h_pose h_way h_px h_py h_free h_tips h_far h_queue h_times h_turns h_names h_named h_text h_told h_spare s_hasKept s_pasts s_pathMoves s_spot s_thrown s_faulty s_queued s_length r1 s_error s_tolds r2 s_text) r0 := by
  refine CI_of RX8 pn_X8 rfl (Nat.le_of_ble_eq_true rfl) (fun p e s m args below meth c A Q hF hK hA hZ hW hret ls hl => ?_)
  have hx := hF.1
  have hb := hF.2.1
  have hl : lv_has ls 3 [(0, .ref h_), (1, .int x1), (2, .int x2)] := hl
  unfold f_X8_digit at hf
  refine lv_aload_n hx hb dX8_digit_0 rfl (lv_at hl 0 rfl) ?_
  obtain ⟨o_1, hc_1, hf⟩ := ob_bind hf
  refine q_callI hF hl.1 hK hA hZ hW mv_X8_here ml_X8_291 (c_X8_here l D E tx h_ h_g h_kept h_past h_path h_pose h_way h_px h_py h_free h_tips h_far h_queue h_times h_turns h_names h_named h_text h_told h_spare s_hasKept s_pasts s_pathMoves s_spot s_thrown s_faulty s_queued s_length s_at s_error s_tolds s_number s_text o_1 hc_1) [0, 1] rfl rfl rfl rfl rfl rfl ⟨Nat.le_of_ble_eq_true rfl, Nat.le_of_ble_eq_true rfl⟩ ⟨Nat.le_of_ble_eq_true rfl, Nat.le_of_ble_eq_true rfl⟩ rfl rfl (Nat.le_of_ble_eq_true rfl) dX8_digit_1 (fun H locs hW => ?_)
  have hW : WD D A s (w_X8_digit E h_ h_g h_kept h_past h_path h_pose h_way h_px h_py h_free h_tips h_far h_queue h_times h_turns h_names h_named h_text h_told h_spare s_hasKept s_pasts s_pathMoves s_spot s_thrown s_faulty s_queued s_length s_at s_error s_tolds s_number s_text) H locs := hW
  refine lv_bipush (v := 48) hx hb dX8_digit_4 (by decide) ?_
  refine lv_iload_n hx hb dX8_digit_6 rfl (lv_at hl 1 rfl) ?_
  refine lv_iadd hx hb dX8_digit_7 ?_
  refine lv_bipush (v := 48) hx hb dX8_digit_8 (by decide) ?_
  refine lv_iload_n hx hb dX8_digit_10 rfl (lv_at hl 2 rfl) ?_
  refine lv_iadd hx hb dX8_digit_11 ?_
  obtain ⟨o_2, hc_2, hf⟩ := ob_bind hf
  refine q_callSI hF hl.1 hK hA hZ hW ms_X8_in ml_X8_79 (c_X8_in l D E tx o_1 (48 + x1) (48 + x2) o_2 hc_2) [] rfl rfl rfl ⟨Nat.le_of_ble_eq_true rfl, Nat.le_of_ble_eq_true rfl⟩ ⟨Nat.le_of_ble_eq_true rfl, Nat.le_of_ble_eq_true rfl⟩ rfl rfl (Nat.le_of_ble_eq_true rfl) dX8_digit_12 (fun H locs hW => ?_)
  have hW : WD D A s (w_X8_digit E h_ h_g h_kept h_past h_path h_pose h_way h_px h_py h_free h_tips h_far h_queue h_times h_turns h_names h_named h_text h_told h_spare s_hasKept s_pasts s_pathMoves s_spot s_thrown s_faulty s_queued s_length s_at s_error s_tolds s_number s_text) H locs := hW
  refine q_if_ne (tgt := 20) hx hb dX8_digit_15 (by decide) hf (fun hf => ?_) (fun hf => ?_)
  · refine lv_aload_n hx hb dX8_digit_20 rfl (lv_at hl 0 rfl) ?_
    refine lv_aload_n hx hb dX8_digit_21 rfl (lv_at hl 0 rfl) ?_
    obtain ⟨o_3, hc_3, hf⟩ := ob_bind hf
    refine q_callI hF hl.1 hK hA hZ hW mv_X8_here ml_X8_291 (c_X8_here l D E tx h_ h_g h_kept h_past h_path h_pose h_way h_px h_py h_free h_tips h_far h_queue h_times h_turns h_names h_named h_text h_told h_spare s_hasKept s_pasts s_pathMoves s_spot s_thrown s_faulty s_queued s_length s_at s_error s_tolds s_number s_text o_3 hc_3) [0, 1] rfl rfl rfl rfl rfl rfl ⟨Nat.le_of_ble_eq_true rfl, Nat.le_of_ble_eq_true rfl⟩ ⟨Nat.le_of_ble_eq_true rfl, Nat.le_of_ble_eq_true rfl⟩ rfl rfl (Nat.le_of_ble_eq_true rfl) dX8_digit_22 (fun H locs hW => ?_)
    have hW : WD D A s (w_X8_digit E h_ h_g h_kept h_past h_path h_pose h_way h_px h_py h_free h_tips h_far h_queue h_times h_turns h_names h_named h_text h_told h_spare s_hasKept s_pasts s_pathMoves s_spot s_thrown s_faulty s_queued s_length s_at s_error s_tolds s_number s_text) H locs := hW
    refine lv_bipush (v := 48) hx hb dX8_digit_25 (by decide) ?_
    refine lv_isub hx hb dX8_digit_27 ?_
    refine lv_topi (fun v_4 ev_4 => ?_)
    replace hf := ob_let hf ev_4
    refine q_put hF hK hW fl_X8_294 ft_X8 rfl 0 rfl rfl rfl (Nat.le_of_ble_eq_true rfl) dX8_digit_28 (fun H locs hW => ?_)
    have hW : WD D A s (w_X8_digit E h_ h_g h_kept h_past h_path h_pose h_way h_px h_py h_free h_tips h_far h_queue h_times h_turns h_names h_named h_text h_told h_spare s_hasKept s_pasts s_pathMoves s_spot s_thrown s_faulty s_queued s_length s_at s_error s_tolds v_4 s_text) H locs := hW
    refine lv_aload_n hx hb dX8_digit_31 rfl (lv_at hl 0 rfl) ?_
    refine lv_dup hx hb dX8_digit_32 rfl ?_
    refine q_get hF hK hW fl_X8_288 0 rfl rfl dX8_digit_33 ?_
    refine lv_iconst (v := 1) hx hb dX8_digit_36 (by decide) ?_
    refine lv_iadd hx hb dX8_digit_37 ?_
    refine lv_topi (fun v_5 ev_5 => ?_)
    replace hf := ob_let hf ev_5
    refine q_put hF hK hW fl_X8_288 ft_X8 rfl 0 rfl rfl rfl (Nat.le_of_ble_eq_true rfl) dX8_digit_38 (fun H locs hW => ?_)
    have hW : WD D A s (w_X8_digit E h_ h_g h_kept h_past h_path h_pose h_way h_px h_py h_free h_tips h_far h_queue h_times h_turns h_names h_named h_text h_told h_spare s_hasKept s_pasts s_pathMoves s_spot s_thrown s_faulty s_queued s_length v_5 s_error s_tolds v_4 s_text) H locs := hW
    refine lv_iconst (v := 1) hx hb dX8_digit_41 (by decide) ?_
    cases hf
    exact hret dX8_digit_42 rfl rfl hW
  · refine lv_iconst (v := 0) hx hb dX8_digit_18 (by decide) ?_
    cases hf
    exact hret dX8_digit_19 rfl rfl hW
def w_X8_linkHere (E : Nat → ClassId) (h_ h_g h_kept h_past h_path h_pose h_way h_px h_py h_free h_tips h_far h_queue h_times h_turns h_names h_named h_text h_told h_spare : Nat) (s_hasKept : Int32) (s_pasts : Int32) (s_pathMoves : Int32) (s_spot : Int32) (s_thrown : Int32) (s_faulty : Int32) (s_queued : Int32) (s_length : Int32) (s_at : Int32) (s_error : Int32) (s_tolds : Int32) (s_number : Int32) (s_text : Nat → Int32) (s_told : Nat → Int32) : va_W := [(h_, .inr (10, [.ref h_g, .ref h_kept, .int s_hasKept, .ref h_past, .int s_pasts, .ref h_path, .int s_pathMoves, .int s_spot, .int s_thrown, .ref h_pose, .ref h_way, .ref h_px, .ref h_py, .int s_faulty, .ref h_free, .ref h_tips, .ref h_far, .ref h_queue, .int s_queued, .ref h_times, .ref h_turns, .ref h_names, .ref h_named, .ref h_text, .int s_length, .int s_at, .int s_error, .ref h_told, .int s_tolds, .int s_number, .ref h_spare])), (h_text, .inl (E 0, 60, .inl s_text)), (h_told, .inl (E 0, 60, .inl s_told))]
set_option maxHeartbeats 4000000 in
set_option maxRecDepth 100000 in
theorem c_X8_linkHere (l : Launch) (D : va_G) (E : Nat → ClassId) (tx : List (Nat × String)) (h_ h_g h_kept h_past h_path h_pose h_way h_px h_py h_free h_tips h_far h_queue h_times h_turns h_names h_named h_text h_told h_spare : Nat) (s_hasKept : Int32) (s_pasts : Int32) (s_pathMoves : Int32) (s_spot : Int32) (s_thrown : Int32) (s_faulty : Int32) (s_queued : Int32) (s_length : Int32) (s_at : Int32) (s_error : Int32) (s_tolds : Int32) (s_number : Int32) (s_text : Nat → Int32) (s_told : Nat → Int32)  (r0 : Int32) (r1 : Int32) (r2 : Int32) (r3 : Nat → Int32) (hf : f_X8_linkHere s_length s_at s_tolds s_number s_text s_told = some (r0, r1, r2, r3)) : CI l yX8_linkHere cX8_linkHere 1 (some .boolean) 2 44 D E tx [.ref h_] (w_X8_linkHere E h_ h_g h_kept h_past h_path h_pose h_way h_px h_py h_free h_tips h_far h_queue h_times h_turns h_names h_named h_text h_told h_spare s_hasKept s_pasts s_pathMoves s_spot s_thrown s_faulty s_queued s_length s_at s_error s_tolds s_number s_text s_told) (w_X8_linkHere E h_ h_g h_kept h_past h_path h_pose h_way h_px h_py h_free h_tips h_far h_queue h_times h_turns h_names h_named h_text h_told h_spare s_hasKept s_pasts s_pathMoves s_spot s_thrown s_faulty s_queued s_length r1 s_error s_tolds r2 s_text r3) r0 := by
  refine CI_of RX8 pn_X8 rfl (Nat.le_of_ble_eq_true rfl) (fun p e s m args below meth c A Q hF hK hA hZ hW hret ls hl => ?_)
  have hx := hF.1
  have hb := hF.2.1
  have hl : lv_has ls 1 [(0, .ref h_)] := hl
  unfold f_X8_linkHere at hf
  refine lv_aload_n hx hb dX8_linkHere_0 rfl (lv_at hl 0 rfl) ?_
  refine lv_iconst (v := 1) hx hb dX8_linkHere_1 (by decide) ?_
  refine lv_iconst (v := 5) hx hb dX8_linkHere_2 (by decide) ?_
  obtain ⟨o_1, hc_1, hf⟩ := ob_bind hf
  refine q_callI hF hl.1 hK hA hZ hW mv_X8_digit ml_X8_297 (c_X8_digit l D E tx h_ h_g h_kept h_past h_path h_pose h_way h_px h_py h_free h_tips h_far h_queue h_times h_turns h_names h_named h_text h_told h_spare s_hasKept s_pasts s_pathMoves s_spot s_thrown s_faulty s_queued s_length s_at s_error s_tolds s_number s_text 1 5 o_1.1 o_1.2.1 o_1.2.2 hc_1) [0, 1] rfl rfl rfl rfl rfl rfl ⟨Nat.le_of_ble_eq_true rfl, Nat.le_of_ble_eq_true rfl⟩ ⟨Nat.le_of_ble_eq_true rfl, Nat.le_of_ble_eq_true rfl⟩ rfl rfl (Nat.le_of_ble_eq_true rfl) dX8_linkHere_3 (fun H locs hW => ?_)
  have hW : WD D A s (w_X8_linkHere E h_ h_g h_kept h_past h_path h_pose h_way h_px h_py h_free h_tips h_far h_queue h_times h_turns h_names h_named h_text h_told h_spare s_hasKept s_pasts s_pathMoves s_spot s_thrown s_faulty s_queued s_length o_1.2.1 s_error s_tolds o_1.2.2 s_text s_told) H locs := hW
  refine q_if_ne (tgt := 11) hx hb dX8_linkHere_6 (by decide) hf (fun hf => ?_) (fun hf => ?_)
  · refine lv_aload_n hx hb dX8_linkHere_11 rfl (lv_at hl 0 rfl) ?_
    refine q_get hF hK hW fl_X8_70 0 rfl rfl dX8_linkHere_12 ?_
    refine lv_iconst (v := 3) hx hb dX8_linkHere_15 (by decide) ?_
    refine lv_aload_n hx hb dX8_linkHere_16 rfl (lv_at hl 0 rfl) ?_
    refine q_get hF hK hW fl_X8_300 0 rfl rfl dX8_linkHere_17 ?_
    refine lv_imul hx hb dX8_linkHere_20 ?_
    refine lv_aload_n hx hb dX8_linkHere_21 rfl (lv_at hl 0 rfl) ?_
    refine q_get hF hK hW fl_X8_294 0 rfl rfl dX8_linkHere_22 ?_
    refine q_iast hx hb hK hW 2 0 rfl rfl dX8_linkHere_25 hf (fun a_2 hf H locs hW => ?_)
    have hW : WD D A s (w_X8_linkHere E h_ h_g h_kept h_past h_path h_pose h_way h_px h_py h_free h_tips h_far h_queue h_times h_turns h_names h_named h_text h_told h_spare s_hasKept s_pasts s_pathMoves s_spot s_thrown s_faulty s_queued s_length o_1.2.1 s_error s_tolds o_1.2.2 s_text a_2) H locs := hW
    refine lv_aload_n hx hb dX8_linkHere_26 rfl (lv_at hl 0 rfl) ?_
    refine lv_bipush (v := 40) hx hb dX8_linkHere_27 (by decide) ?_
    obtain ⟨o_3, hc_3, hf⟩ := ob_bind hf
    refine q_callI hF hl.1 hK hA hZ hW mv_X8_skips ml_X8_303 (c_X8_skips l D E tx h_ h_g h_kept h_past h_path h_pose h_way h_px h_py h_free h_tips h_far h_queue h_times h_turns h_names h_named h_text h_told h_spare s_hasKept s_pasts s_pathMoves s_spot s_thrown s_faulty s_queued s_length o_1.2.1 s_error s_tolds o_1.2.2 s_text 40 o_3.1 o_3.2 hc_3) [0, 1] rfl rfl rfl rfl rfl rfl ⟨Nat.le_of_ble_eq_true rfl, Nat.le_of_ble_eq_true rfl⟩ ⟨Nat.le_of_ble_eq_true rfl, Nat.le_of_ble_eq_true rfl⟩ rfl rfl (Nat.le_of_ble_eq_true rfl) dX8_linkHere_29 (fun H locs hW => ?_)
    have hW : WD D A s (w_X8_linkHere E h_ h_g h_kept h_past h_path h_pose h_way h_px h_py h_free h_tips h_far h_queue h_times h_turns h_names h_named h_text h_told h_spare s_hasKept s_pasts s_pathMoves s_spot s_thrown s_faulty s_queued s_length o_3.2 s_error s_tolds o_1.2.2 s_text a_2) H locs := hW
    refine q_if_eq (tgt := 54) hx hb dX8_linkHere_32 (by decide) hf (fun hf => ?_) (fun hf => ?_)
    · refine lv_iconst (v := 0) hx hb dX8_linkHere_54 (by decide) ?_
      cases hf
      exact hret dX8_linkHere_55 rfl rfl hW
    · refine lv_aload_n hx hb dX8_linkHere_35 rfl (lv_at hl 0 rfl) ?_
      refine lv_bipush (v := 45) hx hb dX8_linkHere_36 (by decide) ?_
      obtain ⟨o_4, hc_4, hf⟩ := ob_bind hf
      refine q_callI hF hl.1 hK hA hZ hW mv_X8_skips ml_X8_303 (c_X8_skips l D E tx h_ h_g h_kept h_past h_path h_pose h_way h_px h_py h_free h_tips h_far h_queue h_times h_turns h_names h_named h_text h_told h_spare s_hasKept s_pasts s_pathMoves s_spot s_thrown s_faulty s_queued s_length o_3.2 s_error s_tolds o_1.2.2 s_text 45 o_4.1 o_4.2 hc_4) [0, 1] rfl rfl rfl rfl rfl rfl ⟨Nat.le_of_ble_eq_true rfl, Nat.le_of_ble_eq_true rfl⟩ ⟨Nat.le_of_ble_eq_true rfl, Nat.le_of_ble_eq_true rfl⟩ rfl rfl (Nat.le_of_ble_eq_true rfl) dX8_linkHere_38 (fun H locs hW => ?_)
      have hW : WD D A s (w_X8_linkHere E h_ h_g h_kept h_past h_path h_pose h_way h_px h_py h_free h_tips h_far h_queue h_times h_turns h_names h_named h_text h_told h_spare s_hasKept s_pasts s_pathMoves s_spot s_thrown s_faulty s_queued s_length o_4.2 s_error s_tolds o_1.2.2 s_text a_2) H locs := hW
      refine q_if_eq (tgt := 54) hx hb dX8_linkHere_41 (by decide) hf (fun hf => ?_) (fun hf => ?_)
      · refine lv_iconst (v := 0) hx hb dX8_linkHere_54 (by decide) ?_
        cases hf
        exact hret dX8_linkHere_55 rfl rfl hW
      · refine lv_aload_n hx hb dX8_linkHere_44 rfl (lv_at hl 0 rfl) ?_
        refine lv_iconst (v := 0) hx hb dX8_linkHere_45 (by decide) ?_
        refine lv_bipush (v := 8) hx hb dX8_linkHere_46 (by decide) ?_
        obtain ⟨o_5, hc_5, hf⟩ := ob_bind hf
        refine q_callI hF hl.1 hK hA hZ hW mv_X8_digit ml_X8_297 (c_X8_digit l D E tx h_ h_g h_kept h_past h_path h_pose h_way h_px h_py h_free h_tips h_far h_queue h_times h_turns h_names h_named h_text h_told h_spare s_hasKept s_pasts s_pathMoves s_spot s_thrown s_faulty s_queued s_length o_4.2 s_error s_tolds o_1.2.2 s_text 0 8 o_5.1 o_5.2.1 o_5.2.2 hc_5) [0, 1] rfl rfl rfl rfl rfl rfl ⟨Nat.le_of_ble_eq_true rfl, Nat.le_of_ble_eq_true rfl⟩ ⟨Nat.le_of_ble_eq_true rfl, Nat.le_of_ble_eq_true rfl⟩ rfl rfl (Nat.le_of_ble_eq_true rfl) dX8_linkHere_48 (fun H locs hW => ?_)
        have hW : WD D A s (w_X8_linkHere E h_ h_g h_kept h_past h_path h_pose h_way h_px h_py h_free h_tips h_far h_queue h_times h_turns h_names h_named h_text h_told h_spare s_hasKept s_pasts s_pathMoves s_spot s_thrown s_faulty s_queued s_length o_5.2.1 s_error s_tolds o_5.2.2 s_text a_2) H locs := hW
        refine q_if_ne (tgt := 56) hx hb dX8_linkHere_51 (by decide) hf (fun hf => ?_) (fun hf => ?_)
        · refine lv_aload_n hx hb dX8_linkHere_56 rfl (lv_at hl 0 rfl) ?_
          refine q_get hF hK hW fl_X8_70 0 rfl rfl dX8_linkHere_57 ?_
          refine lv_iconst (v := 3) hx hb dX8_linkHere_60 (by decide) ?_
          refine lv_aload_n hx hb dX8_linkHere_61 rfl (lv_at hl 0 rfl) ?_
          refine q_get hF hK hW fl_X8_300 0 rfl rfl dX8_linkHere_62 ?_
          refine lv_imul hx hb dX8_linkHere_65 ?_
          refine lv_iconst (v := 1) hx hb dX8_linkHere_66 (by decide) ?_
          refine lv_iadd hx hb dX8_linkHere_67 ?_
          refine lv_aload_n hx hb dX8_linkHere_68 rfl (lv_at hl 0 rfl) ?_
          refine q_get hF hK hW fl_X8_294 0 rfl rfl dX8_linkHere_69 ?_
          refine q_iast hx hb hK hW 2 0 rfl rfl dX8_linkHere_72 hf (fun a_6 hf H locs hW => ?_)
          have hW : WD D A s (w_X8_linkHere E h_ h_g h_kept h_past h_path h_pose h_way h_px h_py h_free h_tips h_far h_queue h_times h_turns h_names h_named h_text h_told h_spare s_hasKept s_pasts s_pathMoves s_spot s_thrown s_faulty s_queued s_length o_5.2.1 s_error s_tolds o_5.2.2 s_text a_6) H locs := hW
          refine lv_aload_n hx hb dX8_linkHere_73 rfl (lv_at hl 0 rfl) ?_
          refine lv_bipush (v := 44) hx hb dX8_linkHere_74 (by decide) ?_
          obtain ⟨o_7, hc_7, hf⟩ := ob_bind hf
          refine q_callI hF hl.1 hK hA hZ hW mv_X8_skips ml_X8_303 (c_X8_skips l D E tx h_ h_g h_kept h_past h_path h_pose h_way h_px h_py h_free h_tips h_far h_queue h_times h_turns h_names h_named h_text h_told h_spare s_hasKept s_pasts s_pathMoves s_spot s_thrown s_faulty s_queued s_length o_5.2.1 s_error s_tolds o_5.2.2 s_text 44 o_7.1 o_7.2 hc_7) [0, 1] rfl rfl rfl rfl rfl rfl ⟨Nat.le_of_ble_eq_true rfl, Nat.le_of_ble_eq_true rfl⟩ ⟨Nat.le_of_ble_eq_true rfl, Nat.le_of_ble_eq_true rfl⟩ rfl rfl (Nat.le_of_ble_eq_true rfl) dX8_linkHere_76 (fun H locs hW => ?_)
          have hW : WD D A s (w_X8_linkHere E h_ h_g h_kept h_past h_path h_pose h_way h_px h_py h_free h_tips h_far h_queue h_times h_turns h_names h_named h_text h_told h_spare s_hasKept s_pasts s_pathMoves s_spot s_thrown s_faulty s_queued s_length o_7.2 s_error s_tolds o_5.2.2 s_text a_6) H locs := hW
          refine q_if_eq (tgt := 92) hx hb dX8_linkHere_79 (by decide) hf (fun hf => ?_) (fun hf => ?_)
          · refine lv_iconst (v := 0) hx hb dX8_linkHere_92 (by decide) ?_
            cases hf
            exact hret dX8_linkHere_93 rfl rfl hW
          · refine lv_aload_n hx hb dX8_linkHere_82 rfl (lv_at hl 0 rfl) ?_
            refine lv_iconst (v := 0) hx hb dX8_linkHere_83 (by decide) ?_
            refine lv_bipush (v := 8) hx hb dX8_linkHere_84 (by decide) ?_
            obtain ⟨o_8, hc_8, hf⟩ := ob_bind hf
            refine q_callI hF hl.1 hK hA hZ hW mv_X8_digit ml_X8_297 (c_X8_digit l D E tx h_ h_g h_kept h_past h_path h_pose h_way h_px h_py h_free h_tips h_far h_queue h_times h_turns h_names h_named h_text h_told h_spare s_hasKept s_pasts s_pathMoves s_spot s_thrown s_faulty s_queued s_length o_7.2 s_error s_tolds o_5.2.2 s_text 0 8 o_8.1 o_8.2.1 o_8.2.2 hc_8) [0, 1] rfl rfl rfl rfl rfl rfl ⟨Nat.le_of_ble_eq_true rfl, Nat.le_of_ble_eq_true rfl⟩ ⟨Nat.le_of_ble_eq_true rfl, Nat.le_of_ble_eq_true rfl⟩ rfl rfl (Nat.le_of_ble_eq_true rfl) dX8_linkHere_86 (fun H locs hW => ?_)
            have hW : WD D A s (w_X8_linkHere E h_ h_g h_kept h_past h_path h_pose h_way h_px h_py h_free h_tips h_far h_queue h_times h_turns h_names h_named h_text h_told h_spare s_hasKept s_pasts s_pathMoves s_spot s_thrown s_faulty s_queued s_length o_8.2.1 s_error s_tolds o_8.2.2 s_text a_6) H locs := hW
            refine q_if_ne (tgt := 94) hx hb dX8_linkHere_89 (by decide) hf (fun hf => ?_) (fun hf => ?_)
            · refine lv_aload_n hx hb dX8_linkHere_94 rfl (lv_at hl 0 rfl) ?_
              refine q_get hF hK hW fl_X8_70 0 rfl rfl dX8_linkHere_95 ?_
              refine lv_iconst (v := 3) hx hb dX8_linkHere_98 (by decide) ?_
              refine lv_aload_n hx hb dX8_linkHere_99 rfl (lv_at hl 0 rfl) ?_
              refine q_get hF hK hW fl_X8_300 0 rfl rfl dX8_linkHere_100 ?_
              refine lv_imul hx hb dX8_linkHere_103 ?_
              refine lv_iconst (v := 2) hx hb dX8_linkHere_104 (by decide) ?_
              refine lv_iadd hx hb dX8_linkHere_105 ?_
              refine lv_aload_n hx hb dX8_linkHere_106 rfl (lv_at hl 0 rfl) ?_
              refine q_get hF hK hW fl_X8_294 0 rfl rfl dX8_linkHere_107 ?_
              refine q_iast hx hb hK hW 2 0 rfl rfl dX8_linkHere_110 hf (fun a_9 hf H locs hW => ?_)
              have hW : WD D A s (w_X8_linkHere E h_ h_g h_kept h_past h_path h_pose h_way h_px h_py h_free h_tips h_far h_queue h_times h_turns h_names h_named h_text h_told h_spare s_hasKept s_pasts s_pathMoves s_spot s_thrown s_faulty s_queued s_length o_8.2.1 s_error s_tolds o_8.2.2 s_text a_9) H locs := hW
              refine lv_aload_n hx hb dX8_linkHere_111 rfl (lv_at hl 0 rfl) ?_
              refine lv_bipush (v := 41) hx hb dX8_linkHere_112 (by decide) ?_
              obtain ⟨o_10, hc_10, hf⟩ := ob_bind hf
              refine q_callI hF hl.1 hK hA hZ hW mv_X8_skips ml_X8_303 (c_X8_skips l D E tx h_ h_g h_kept h_past h_path h_pose h_way h_px h_py h_free h_tips h_far h_queue h_times h_turns h_names h_named h_text h_told h_spare s_hasKept s_pasts s_pathMoves s_spot s_thrown s_faulty s_queued s_length o_8.2.1 s_error s_tolds o_8.2.2 s_text 41 o_10.1 o_10.2 hc_10) [0, 1] rfl rfl rfl rfl rfl rfl ⟨Nat.le_of_ble_eq_true rfl, Nat.le_of_ble_eq_true rfl⟩ ⟨Nat.le_of_ble_eq_true rfl, Nat.le_of_ble_eq_true rfl⟩ rfl rfl (Nat.le_of_ble_eq_true rfl) dX8_linkHere_114 (fun H locs hW => ?_)
              have hW : WD D A s (w_X8_linkHere E h_ h_g h_kept h_past h_path h_pose h_way h_px h_py h_free h_tips h_far h_queue h_times h_turns h_names h_named h_text h_told h_spare s_hasKept s_pasts s_pathMoves s_spot s_thrown s_faulty s_queued s_length o_10.2 s_error s_tolds o_8.2.2 s_text a_9) H locs := hW
              have hz := nar_b (ob_gb hf).1
              replace hf := (ob_gb hf).2
              cases hf
              exact hret dX8_linkHere_117 hz.1 rfl hW
            · refine lv_iconst (v := 0) hx hb dX8_linkHere_92 (by decide) ?_
              cases hf
              exact hret dX8_linkHere_93 rfl rfl hW
        · refine lv_iconst (v := 0) hx hb dX8_linkHere_54 (by decide) ?_
          cases hf
          exact hret dX8_linkHere_55 rfl rfl hW
  · refine lv_iconst (v := 0) hx hb dX8_linkHere_9 (by decide) ?_
    cases hf
    exact hret dX8_linkHere_10 rfl rfl hW
def w_X8_coordinate (E : Nat → ClassId) (h_ h_g h_kept h_past h_path h_pose h_way h_px h_py h_free h_tips h_far h_queue h_times h_turns h_names h_named h_text h_told h_spare : Nat) (s_hasKept : Int32) (s_pasts : Int32) (s_pathMoves : Int32) (s_spot : Int32) (s_thrown : Int32) (s_faulty : Int32) (s_queued : Int32) (s_length : Int32) (s_at : Int32) (s_error : Int32) (s_tolds : Int32) (s_number : Int32) (s_text : Nat → Int32) : va_W := [(h_, .inr (10, [.ref h_g, .ref h_kept, .int s_hasKept, .ref h_past, .int s_pasts, .ref h_path, .int s_pathMoves, .int s_spot, .int s_thrown, .ref h_pose, .ref h_way, .ref h_px, .ref h_py, .int s_faulty, .ref h_free, .ref h_tips, .ref h_far, .ref h_queue, .int s_queued, .ref h_times, .ref h_turns, .ref h_names, .ref h_named, .ref h_text, .int s_length, .int s_at, .int s_error, .ref h_told, .int s_tolds, .int s_number, .ref h_spare])), (h_text, .inl (E 0, 60, .inl s_text))]
set_option maxHeartbeats 4000000 in
set_option maxRecDepth 100000 in
theorem c_X8_coordinate (l : Launch) (D : va_G) (E : Nat → ClassId) (tx : List (Nat × String)) (h_ h_g h_kept h_past h_path h_pose h_way h_px h_py h_free h_tips h_far h_queue h_times h_turns h_names h_named h_text h_told h_spare : Nat) (s_hasKept : Int32) (s_pasts : Int32) (s_pathMoves : Int32) (s_spot : Int32) (s_thrown : Int32) (s_faulty : Int32) (s_queued : Int32) (s_length : Int32) (s_at : Int32) (s_error : Int32) (s_tolds : Int32) (s_number : Int32) (s_text : Nat → Int32)  (r0 : Int32) (r1 : Int32) (r2 : Int32) (hf : f_X8_coordinate s_length s_at s_number s_text = some (r0, r1, r2)) : CI l yX8_coordinate cX8_coordinate 2 (some .boolean) 2 44 D E tx [.ref h_] (w_X8_coordinate E h_ h_g h_kept h_past h_path h_pose h_way h_px h_py h_free h_tips h_far h_queue h_times h_turns h_names h_named h_text h_told h_spare s_hasKept s_pasts s_pathMoves s_spot s_thrown s_faulty s_queued s_length s_at s_error s_tolds s_number s_text) (w_X8_coordinate E h_ h_g h_kept h_past h_path h_pose h_way h_px h_py h_free h_tips h_far h_queue h_times h_turns h_names h_named h_text h_told h_spare s_hasKept s_pasts s_pathMoves s_spot s_thrown s_faulty s_queued s_length r1 s_error s_tolds r2 s_text) r0 := by
  refine CI_of RX8 pn_X8 rfl (Nat.le_of_ble_eq_true rfl) (fun p e s m args below meth c A Q hF hK hA hZ hW hret ls hl => ?_)
  have hx := hF.1
  have hb := hF.2.1
  have hl : lv_has ls 2 [(0, .ref h_)] := hl
  unfold f_X8_coordinate at hf
  have hL59 : ∀ (s_at_59 : Int32) (s_number_59 : Int32) (k1_59 : Int32) (H : Heap) (locs : List Loc) (ls : Array Slot), f_X8_coordinate_L59 s_length s_at_59 s_number_59 s_text k1_59 = some (r0, r1, r2) → lv_has ls 2 [] → WD D A s (w_X8_coordinate E h_ h_g h_kept h_past h_path h_pose h_way h_px h_py h_free h_tips h_far h_queue h_times h_turns h_names h_named h_text h_told h_spare s_hasKept s_pasts s_pathMoves s_spot s_thrown s_faulty s_queued s_length s_at_59 s_error s_tolds s_number_59 s_text) H locs → W p l e (RM 2 44) s m args below meth c H locs 0 0 Q (F0 m 59 ls [.int k1_59, .ref h_]) := by
    intro s_at_59 s_number_59 k1_59 H locs ls hf hl hW
    unfold f_X8_coordinate_L59 at hf
    refine q_put hF hK hW fl_X8_294 ft_X8 rfl 0 rfl rfl rfl (Nat.le_of_ble_eq_true rfl) dX8_coordinate_59 (fun H locs hW => ?_)
    have hW : WD D A s (w_X8_coordinate E h_ h_g h_kept h_past h_path h_pose h_way h_px h_py h_free h_tips h_far h_queue h_times h_turns h_names h_named h_text h_told h_spare s_hasKept s_pasts s_pathMoves s_spot s_thrown s_faulty s_queued s_length s_at_59 s_error s_tolds k1_59 s_text) H locs := hW
    refine lv_iconst (v := 1) hx hb dX8_coordinate_62 (by decide) ?_
    cases hf
    exact hret dX8_coordinate_63 rfl rfl hW
  have hL42 : ∀ (s_at_42 : Int32) (s_number_42 : Int32) (y1_42 : Int32) (H : Heap) (locs : List Loc) (ls : Array Slot), f_X8_coordinate_L42 s_length s_at_42 s_number_42 s_text y1_42 = some (r0, r1, r2) → lv_has ls 2 [(0, .ref h_), (1, .int y1_42)] → WD D A s (w_X8_coordinate E h_ h_g h_kept h_past h_path h_pose h_way h_px h_py h_free h_tips h_far h_queue h_times h_turns h_names h_named h_text h_told h_spare s_hasKept s_pasts s_pathMoves s_spot s_thrown s_faulty s_queued s_length s_at_42 s_error s_tolds s_number_42 s_text) H locs → W p l e (RM 2 44) s m args below meth c H locs 0 0 Q (F0 m 42 ls []) := by
    intro s_at_42 s_number_42 y1_42 H locs ls hf hl hW
    unfold f_X8_coordinate_L42 at hf
    refine lv_aload_n hx hb dX8_coordinate_42 rfl (lv_at hl 0 rfl) ?_
    refine lv_iload_n hx hb dX8_coordinate_43 rfl (lv_at hl 1 rfl) ?_
    refine q_if_eq (tgt := 55) hx hb dX8_coordinate_44 (by decide) hf (fun hf => ?_) (fun hf => ?_)
    · refine lv_aload_n hx hb dX8_coordinate_55 rfl (lv_at hl 0 rfl) ?_
      refine q_get hF hK hW fl_X8_294 0 rfl rfl dX8_coordinate_56 ?_
      exact hL59 s_at_42 s_number_42 s_number_42 _ _ _ hf (lv_sub hl [] rfl) hW
    · refine lv_aload_n hx hb dX8_coordinate_47 rfl (lv_at hl 0 rfl) ?_
      refine q_get hF hK hW fl_X8_294 0 rfl rfl dX8_coordinate_48 ?_
      refine lv_ineg hx hb dX8_coordinate_51 ?_
      refine lv_goto (tgt := 59) hx hb dX8_coordinate_52 (by decide) ?_
      exact hL59 s_at_42 s_number_42 (-s_number_42) _ _ _ hf (lv_sub hl [] rfl) hW
  refine lv_aload_n hx hb dX8_coordinate_0 rfl (lv_at hl 0 rfl) ?_
  refine lv_bipush (v := 45) hx hb dX8_coordinate_1 (by decide) ?_
  obtain ⟨o_1, hc_1, hf⟩ := ob_bind hf
  refine q_callI hF hl.1 hK hA hZ hW mv_X8_skips ml_X8_303 (c_X8_skips l D E tx h_ h_g h_kept h_past h_path h_pose h_way h_px h_py h_free h_tips h_far h_queue h_times h_turns h_names h_named h_text h_told h_spare s_hasKept s_pasts s_pathMoves s_spot s_thrown s_faulty s_queued s_length s_at s_error s_tolds s_number s_text 45 o_1.1 o_1.2 hc_1) [0, 1] rfl rfl rfl rfl rfl rfl ⟨Nat.le_of_ble_eq_true rfl, Nat.le_of_ble_eq_true rfl⟩ ⟨Nat.le_of_ble_eq_true rfl, Nat.le_of_ble_eq_true rfl⟩ rfl rfl (Nat.le_of_ble_eq_true rfl) dX8_coordinate_3 (fun H locs hW => ?_)
  have hW : WD D A s (w_X8_coordinate E h_ h_g h_kept h_past h_path h_pose h_way h_px h_py h_free h_tips h_far h_queue h_times h_turns h_names h_named h_text h_told h_spare s_hasKept s_pasts s_pathMoves s_spot s_thrown s_faulty s_queued s_length o_1.2 s_error s_tolds s_number s_text) H locs := hW
  refine lv_istore_n (lv' := [(1, .int o_1.1), (0, .ref h_)]) hx hb dX8_coordinate_6 rfl hl (by decide) rfl (fun ls hl => ?_)
  refine lv_aload_n hx hb dX8_coordinate_7 rfl (lv_at hl 1 rfl) ?_
  refine lv_iconst (v := 0) hx hb dX8_coordinate_8 (by decide) ?_
  refine lv_bipush (v := 9) hx hb dX8_coordinate_9 (by decide) ?_
  obtain ⟨o_2, hc_2, hf⟩ := ob_bind hf
  refine q_callI hF hl.1 hK hA hZ hW mv_X8_digit ml_X8_297 (c_X8_digit l D E tx h_ h_g h_kept h_past h_path h_pose h_way h_px h_py h_free h_tips h_far h_queue h_times h_turns h_names h_named h_text h_told h_spare s_hasKept s_pasts s_pathMoves s_spot s_thrown s_faulty s_queued s_length o_1.2 s_error s_tolds s_number s_text 0 9 o_2.1 o_2.2.1 o_2.2.2 hc_2) [0, 1] rfl rfl rfl rfl rfl rfl ⟨Nat.le_of_ble_eq_true rfl, Nat.le_of_ble_eq_true rfl⟩ ⟨Nat.le_of_ble_eq_true rfl, Nat.le_of_ble_eq_true rfl⟩ rfl rfl (Nat.le_of_ble_eq_true rfl) dX8_coordinate_11 (fun H locs hW => ?_)
  have hW : WD D A s (w_X8_coordinate E h_ h_g h_kept h_past h_path h_pose h_way h_px h_py h_free h_tips h_far h_queue h_times h_turns h_names h_named h_text h_told h_spare s_hasKept s_pasts s_pathMoves s_spot s_thrown s_faulty s_queued s_length o_2.2.1 s_error s_tolds o_2.2.2 s_text) H locs := hW
  refine q_if_ne (tgt := 19) hx hb dX8_coordinate_14 (by decide) hf (fun hf => ?_) (fun hf => ?_)
  · refine lv_aload_n hx hb dX8_coordinate_19 rfl (lv_at hl 1 rfl) ?_
    refine q_get hF hK hW fl_X8_294 0 rfl rfl dX8_coordinate_20 ?_
    refine lv_iconst (v := 1) hx hb dX8_coordinate_23 (by decide) ?_
    refine q_icmp_ne (tgt := 42) hx hb dX8_coordinate_24 (by decide) hf (fun hf => ?_) (fun hf => ?_)
    · exact hL42 o_2.2.1 o_2.2.2 o_1.1 _ _ _ hf (lv_sub hl [1, 0] rfl) hW
    · refine lv_aload_n hx hb dX8_coordinate_27 rfl (lv_at hl 1 rfl) ?_
      refine lv_bipush (v := 48) hx hb dX8_coordinate_28 (by decide) ?_
      obtain ⟨o_3, hc_3, hf⟩ := ob_bind hf
      refine q_callI hF hl.1 hK hA hZ hW mv_X8_skips ml_X8_303 (c_X8_skips l D E tx h_ h_g h_kept h_past h_path h_pose h_way h_px h_py h_free h_tips h_far h_queue h_times h_turns h_names h_named h_text h_told h_spare s_hasKept s_pasts s_pathMoves s_spot s_thrown s_faulty s_queued s_length o_2.2.1 s_error s_tolds o_2.2.2 s_text 48 o_3.1 o_3.2 hc_3) [0, 1] rfl rfl rfl rfl rfl rfl ⟨Nat.le_of_ble_eq_true rfl, Nat.le_of_ble_eq_true rfl⟩ ⟨Nat.le_of_ble_eq_true rfl, Nat.le_of_ble_eq_true rfl⟩ rfl rfl (Nat.le_of_ble_eq_true rfl) dX8_coordinate_30 (fun H locs hW => ?_)
      have hW : WD D A s (w_X8_coordinate E h_ h_g h_kept h_past h_path h_pose h_way h_px h_py h_free h_tips h_far h_queue h_times h_turns h_names h_named h_text h_told h_spare s_hasKept s_pasts s_pathMoves s_spot s_thrown s_faulty s_queued s_length o_3.2 s_error s_tolds o_2.2.2 s_text) H locs := hW
      refine q_if_eq (tgt := 42) hx hb dX8_coordinate_33 (by decide) hf (fun hf => ?_) (fun hf => ?_)
      · exact hL42 o_3.2 o_2.2.2 o_1.1 _ _ _ hf (lv_sub hl [1, 0] rfl) hW
      · refine lv_aload_n hx hb dX8_coordinate_36 rfl (lv_at hl 1 rfl) ?_
        refine lv_bipush (v := 10) hx hb dX8_coordinate_37 (by decide) ?_
        refine q_put hF hK hW fl_X8_294 ft_X8 rfl 0 rfl rfl rfl (Nat.le_of_ble_eq_true rfl) dX8_coordinate_39 (fun H locs hW => ?_)
        have hW : WD D A s (w_X8_coordinate E h_ h_g h_kept h_past h_path h_pose h_way h_px h_py h_free h_tips h_far h_queue h_times h_turns h_names h_named h_text h_told h_spare s_hasKept s_pasts s_pathMoves s_spot s_thrown s_faulty s_queued s_length o_3.2 s_error s_tolds 10 s_text) H locs := hW
        exact hL42 o_3.2 10 o_1.1 _ _ _ hf (lv_sub hl [1, 0] rfl) hW
  · refine lv_iconst (v := 0) hx hb dX8_coordinate_17 (by decide) ?_
    cases hf
    exact hret dX8_coordinate_18 rfl rfl hW
def w_X8_stoneHere (E : Nat → ClassId) (h_ h_g h_kept h_past h_path h_pose h_way h_px h_py h_free h_tips h_far h_queue h_times h_turns h_names h_named h_text h_told h_spare : Nat) (s_hasKept : Int32) (s_pasts : Int32) (s_pathMoves : Int32) (s_spot : Int32) (s_thrown : Int32) (s_faulty : Int32) (s_queued : Int32) (s_length : Int32) (s_at : Int32) (s_error : Int32) (s_tolds : Int32) (s_number : Int32) (s_text : Nat → Int32) (s_told : Nat → Int32) : va_W := [(h_, .inr (10, [.ref h_g, .ref h_kept, .int s_hasKept, .ref h_past, .int s_pasts, .ref h_path, .int s_pathMoves, .int s_spot, .int s_thrown, .ref h_pose, .ref h_way, .ref h_px, .ref h_py, .int s_faulty, .ref h_free, .ref h_tips, .ref h_far, .ref h_queue, .int s_queued, .ref h_times, .ref h_turns, .ref h_names, .ref h_named, .ref h_text, .int s_length, .int s_at, .int s_error, .ref h_told, .int s_tolds, .int s_number, .ref h_spare])), (h_text, .inl (E 0, 60, .inl s_text)), (h_told, .inl (E 0, 60, .inl s_told))]
set_option maxHeartbeats 4000000 in
set_option maxRecDepth 100000 in
theorem c_X8_stoneHere (l : Launch) (D : va_G) (E : Nat → ClassId) (tx : List (Nat × String)) (h_ h_g h_kept h_past h_path h_pose h_way h_px h_py h_free h_tips h_far h_queue h_times h_turns h_names h_named h_text h_told h_spare : Nat) (s_hasKept : Int32) (s_pasts : Int32) (s_pathMoves : Int32) (s_spot : Int32) (s_thrown : Int32) (s_faulty : Int32) (s_queued : Int32) (s_length : Int32) (s_at : Int32) (s_error : Int32) (s_tolds : Int32) (s_number : Int32) (s_text : Nat → Int32) (s_told : Nat → Int32)  (r0 : Int32) (r1 : Int32) (r2 : Int32) (r3 : Nat → Int32) (hf : f_X8_stoneHere s_length s_at s_tolds s_number s_text s_told = some (r0, r1, r2, r3)) : CI l yX8_stoneHere cX8_stoneHere 1 (some .boolean) 3 65 D E tx [.ref h_] (w_X8_stoneHere E h_ h_g h_kept h_past h_path h_pose h_way h_px h_py h_free h_tips h_far h_queue h_times h_turns h_names h_named h_text h_told h_spare s_hasKept s_pasts s_pathMoves s_spot s_thrown s_faulty s_queued s_length s_at s_error s_tolds s_number s_text s_told) (w_X8_stoneHere E h_ h_g h_kept h_past h_path h_pose h_way h_px h_py h_free h_tips h_far h_queue h_times h_turns h_names h_named h_text h_told h_spare s_hasKept s_pasts s_pathMoves s_spot s_thrown s_faulty s_queued s_length r1 s_error s_tolds r2 s_text r3) r0 := by
  refine CI_of RX8 pn_X8 rfl (Nat.le_of_ble_eq_true rfl) (fun p e s m args below meth c A Q hF hK hA hZ hW hret ls hl => ?_)
  have hx := hF.1
  have hb := hF.2.1
  have hl : lv_has ls 1 [(0, .ref h_)] := hl
  unfold f_X8_stoneHere at hf
  refine lv_aload_n hx hb dX8_stoneHere_0 rfl (lv_at hl 0 rfl) ?_
  refine q_get hF hK hW fl_X8_70 0 rfl rfl dX8_stoneHere_1 ?_
  refine lv_iconst (v := 3) hx hb dX8_stoneHere_4 (by decide) ?_
  refine lv_aload_n hx hb dX8_stoneHere_5 rfl (lv_at hl 0 rfl) ?_
  refine q_get hF hK hW fl_X8_300 0 rfl rfl dX8_stoneHere_6 ?_
  refine lv_imul hx hb dX8_stoneHere_9 ?_
  refine lv_iconst (v := 0) hx hb dX8_stoneHere_10 (by decide) ?_
  refine q_iast hx hb hK hW 2 0 rfl rfl dX8_stoneHere_11 hf (fun a_1 hf H locs hW => ?_)
  have hW : WD D A s (w_X8_stoneHere E h_ h_g h_kept h_past h_path h_pose h_way h_px h_py h_free h_tips h_far h_queue h_times h_turns h_names h_named h_text h_told h_spare s_hasKept s_pasts s_pathMoves s_spot s_thrown s_faulty s_queued s_length s_at s_error s_tolds s_number s_text a_1) H locs := hW
  refine lv_aload_n hx hb dX8_stoneHere_12 rfl (lv_at hl 0 rfl) ?_
  obtain ⟨o_2, hc_2, hf⟩ := ob_bind hf
  refine q_callI hF hl.1 hK hA hZ hW mv_X8_coordinate ml_X8_306 (c_X8_coordinate l D E tx h_ h_g h_kept h_past h_path h_pose h_way h_px h_py h_free h_tips h_far h_queue h_times h_turns h_names h_named h_text h_told h_spare s_hasKept s_pasts s_pathMoves s_spot s_thrown s_faulty s_queued s_length s_at s_error s_tolds s_number s_text o_2.1 o_2.2.1 o_2.2.2 hc_2) [0, 1] rfl rfl rfl rfl rfl rfl ⟨Nat.le_of_ble_eq_true rfl, Nat.le_of_ble_eq_true rfl⟩ ⟨Nat.le_of_ble_eq_true rfl, Nat.le_of_ble_eq_true rfl⟩ rfl rfl (Nat.le_of_ble_eq_true rfl) dX8_stoneHere_13 (fun H locs hW => ?_)
  have hW : WD D A s (w_X8_stoneHere E h_ h_g h_kept h_past h_path h_pose h_way h_px h_py h_free h_tips h_far h_queue h_times h_turns h_names h_named h_text h_told h_spare s_hasKept s_pasts s_pathMoves s_spot s_thrown s_faulty s_queued s_length o_2.2.1 s_error s_tolds o_2.2.2 s_text a_1) H locs := hW
  refine q_if_ne (tgt := 21) hx hb dX8_stoneHere_16 (by decide) hf (fun hf => ?_) (fun hf => ?_)
  · refine lv_aload_n hx hb dX8_stoneHere_21 rfl (lv_at hl 0 rfl) ?_
    refine q_get hF hK hW fl_X8_70 0 rfl rfl dX8_stoneHere_22 ?_
    refine lv_iconst (v := 3) hx hb dX8_stoneHere_25 (by decide) ?_
    refine lv_aload_n hx hb dX8_stoneHere_26 rfl (lv_at hl 0 rfl) ?_
    refine q_get hF hK hW fl_X8_300 0 rfl rfl dX8_stoneHere_27 ?_
    refine lv_imul hx hb dX8_stoneHere_30 ?_
    refine lv_iconst (v := 1) hx hb dX8_stoneHere_31 (by decide) ?_
    refine lv_iadd hx hb dX8_stoneHere_32 ?_
    refine lv_aload_n hx hb dX8_stoneHere_33 rfl (lv_at hl 0 rfl) ?_
    refine q_get hF hK hW fl_X8_294 0 rfl rfl dX8_stoneHere_34 ?_
    refine q_iast hx hb hK hW 2 0 rfl rfl dX8_stoneHere_37 hf (fun a_3 hf H locs hW => ?_)
    have hW : WD D A s (w_X8_stoneHere E h_ h_g h_kept h_past h_path h_pose h_way h_px h_py h_free h_tips h_far h_queue h_times h_turns h_names h_named h_text h_told h_spare s_hasKept s_pasts s_pathMoves s_spot s_thrown s_faulty s_queued s_length o_2.2.1 s_error s_tolds o_2.2.2 s_text a_3) H locs := hW
    refine lv_aload_n hx hb dX8_stoneHere_38 rfl (lv_at hl 0 rfl) ?_
    refine lv_bipush (v := 44) hx hb dX8_stoneHere_39 (by decide) ?_
    obtain ⟨o_4, hc_4, hf⟩ := ob_bind hf
    refine q_callI hF hl.1 hK hA hZ hW mv_X8_skips ml_X8_303 (c_X8_skips l D E tx h_ h_g h_kept h_past h_path h_pose h_way h_px h_py h_free h_tips h_far h_queue h_times h_turns h_names h_named h_text h_told h_spare s_hasKept s_pasts s_pathMoves s_spot s_thrown s_faulty s_queued s_length o_2.2.1 s_error s_tolds o_2.2.2 s_text 44 o_4.1 o_4.2 hc_4) [0, 1] rfl rfl rfl rfl rfl rfl ⟨Nat.le_of_ble_eq_true rfl, Nat.le_of_ble_eq_true rfl⟩ ⟨Nat.le_of_ble_eq_true rfl, Nat.le_of_ble_eq_true rfl⟩ rfl rfl (Nat.le_of_ble_eq_true rfl) dX8_stoneHere_41 (fun H locs hW => ?_)
    have hW : WD D A s (w_X8_stoneHere E h_ h_g h_kept h_past h_path h_pose h_way h_px h_py h_free h_tips h_far h_queue h_times h_turns h_names h_named h_text h_told h_spare s_hasKept s_pasts s_pathMoves s_spot s_thrown s_faulty s_queued s_length o_4.2 s_error s_tolds o_2.2.2 s_text a_3) H locs := hW
    refine q_if_eq (tgt := 54) hx hb dX8_stoneHere_44 (by decide) hf (fun hf => ?_) (fun hf => ?_)
    · refine lv_iconst (v := 0) hx hb dX8_stoneHere_54 (by decide) ?_
      cases hf
      exact hret dX8_stoneHere_55 rfl rfl hW
    · refine lv_aload_n hx hb dX8_stoneHere_47 rfl (lv_at hl 0 rfl) ?_
      obtain ⟨o_5, hc_5, hf⟩ := ob_bind hf
      refine q_callI hF hl.1 hK hA hZ hW mv_X8_coordinate ml_X8_306 (c_X8_coordinate l D E tx h_ h_g h_kept h_past h_path h_pose h_way h_px h_py h_free h_tips h_far h_queue h_times h_turns h_names h_named h_text h_told h_spare s_hasKept s_pasts s_pathMoves s_spot s_thrown s_faulty s_queued s_length o_4.2 s_error s_tolds o_2.2.2 s_text o_5.1 o_5.2.1 o_5.2.2 hc_5) [0, 1] rfl rfl rfl rfl rfl rfl ⟨Nat.le_of_ble_eq_true rfl, Nat.le_of_ble_eq_true rfl⟩ ⟨Nat.le_of_ble_eq_true rfl, Nat.le_of_ble_eq_true rfl⟩ rfl rfl (Nat.le_of_ble_eq_true rfl) dX8_stoneHere_48 (fun H locs hW => ?_)
      have hW : WD D A s (w_X8_stoneHere E h_ h_g h_kept h_past h_path h_pose h_way h_px h_py h_free h_tips h_far h_queue h_times h_turns h_names h_named h_text h_told h_spare s_hasKept s_pasts s_pathMoves s_spot s_thrown s_faulty s_queued s_length o_5.2.1 s_error s_tolds o_5.2.2 s_text a_3) H locs := hW
      refine q_if_ne (tgt := 56) hx hb dX8_stoneHere_51 (by decide) hf (fun hf => ?_) (fun hf => ?_)
      · refine lv_aload_n hx hb dX8_stoneHere_56 rfl (lv_at hl 0 rfl) ?_
        refine q_get hF hK hW fl_X8_70 0 rfl rfl dX8_stoneHere_57 ?_
        refine lv_iconst (v := 3) hx hb dX8_stoneHere_60 (by decide) ?_
        refine lv_aload_n hx hb dX8_stoneHere_61 rfl (lv_at hl 0 rfl) ?_
        refine q_get hF hK hW fl_X8_300 0 rfl rfl dX8_stoneHere_62 ?_
        refine lv_imul hx hb dX8_stoneHere_65 ?_
        refine lv_iconst (v := 2) hx hb dX8_stoneHere_66 (by decide) ?_
        refine lv_iadd hx hb dX8_stoneHere_67 ?_
        refine lv_aload_n hx hb dX8_stoneHere_68 rfl (lv_at hl 0 rfl) ?_
        refine q_get hF hK hW fl_X8_294 0 rfl rfl dX8_stoneHere_69 ?_
        refine q_iast hx hb hK hW 2 0 rfl rfl dX8_stoneHere_72 hf (fun a_6 hf H locs hW => ?_)
        have hW : WD D A s (w_X8_stoneHere E h_ h_g h_kept h_past h_path h_pose h_way h_px h_py h_free h_tips h_far h_queue h_times h_turns h_names h_named h_text h_told h_spare s_hasKept s_pasts s_pathMoves s_spot s_thrown s_faulty s_queued s_length o_5.2.1 s_error s_tolds o_5.2.2 s_text a_6) H locs := hW
        refine lv_iconst (v := 1) hx hb dX8_stoneHere_73 (by decide) ?_
        cases hf
        exact hret dX8_stoneHere_74 rfl rfl hW
      · refine lv_iconst (v := 0) hx hb dX8_stoneHere_54 (by decide) ?_
        cases hf
        exact hret dX8_stoneHere_55 rfl rfl hW
  · refine lv_iconst (v := 0) hx hb dX8_stoneHere_19 (by decide) ?_
    cases hf
    exact hret dX8_stoneHere_20 rfl rfl hW
def w_X8_isText (E : Nat → ClassId) (h_ h_g h_kept h_past h_path h_pose h_way h_px h_py h_free h_tips h_far h_queue h_times h_turns h_names h_named h_text h_told h_spare : Nat) (s_hasKept : Int32) (s_pasts : Int32) (s_pathMoves : Int32) (s_spot : Int32) (s_thrown : Int32) (s_faulty : Int32) (s_queued : Int32) (s_length : Int32) (s_at : Int32) (s_error : Int32) (s_tolds : Int32) (s_number : Int32) (s_text : Nat → Int32) (s_told : Nat → Int32) : va_W := [(h_, .inr (10, [.ref h_g, .ref h_kept, .int s_hasKept, .ref h_past, .int s_pasts, .ref h_path, .int s_pathMoves, .int s_spot, .int s_thrown, .ref h_pose, .ref h_way, .ref h_px, .ref h_py, .int s_faulty, .ref h_free, .ref h_tips, .ref h_far, .ref h_queue, .int s_queued, .ref h_times, .ref h_turns, .ref h_names, .ref h_named, .ref h_text, .int s_length, .int s_at, .int s_error, .ref h_told, .int s_tolds, .int s_number, .ref h_spare])), (h_text, .inl (E 0, 60, .inl s_text)), (h_told, .inl (E 0, 60, .inl s_told))]
set_option maxHeartbeats 4000000 in
set_option maxRecDepth 100000 in
theorem c_X8_isText (l : Launch) (D : va_G) (E : Nat → ClassId) (tx : List (Nat × String)) (h_ h_g h_kept h_past h_path h_pose h_way h_px h_py h_free h_tips h_far h_queue h_times h_turns h_names h_named h_text h_told h_spare : Nat) (s_hasKept : Int32) (s_pasts : Int32) (s_pathMoves : Int32) (s_spot : Int32) (s_thrown : Int32) (s_faulty : Int32) (s_queued : Int32) (s_length : Int32) (s_at : Int32) (s_error : Int32) (s_tolds : Int32) (s_number : Int32) (s_text : Nat → Int32) (s_told : Nat → Int32)  (r0 : Int32) (r1 : Int32) (r2 : Int32) (r3 : Int32) (r4 : Nat → Int32) (hf : f_X8_isText s_length s_at s_tolds s_number s_text s_told = some (r0, r1, r2, r3, r4)) : CI l yX8_isText cX8_isText 1 (some .boolean) 4 85 D E tx [.ref h_] (w_X8_isText E h_ h_g h_kept h_past h_path h_pose h_way h_px h_py h_free h_tips h_far h_queue h_times h_turns h_names h_named h_text h_told h_spare s_hasKept s_pasts s_pathMoves s_spot s_thrown s_faulty s_queued s_length s_at s_error s_tolds s_number s_text s_told) (w_X8_isText E h_ h_g h_kept h_past h_path h_pose h_way h_px h_py h_free h_tips h_far h_queue h_times h_turns h_names h_named h_text h_told h_spare s_hasKept s_pasts s_pathMoves s_spot s_thrown s_faulty s_queued s_length r1 s_error r2 r3 s_text r4) r0 := by
  refine CI_of RX8 pn_X8 rfl (Nat.le_of_ble_eq_true rfl) (fun p e s m args below meth c A Q hF hK hA hZ hW hret ls hl => ?_)
  have hx := hF.1
  have hb := hF.2.1
  have hl : lv_has ls 1 [(0, .ref h_)] := hl
  unfold f_X8_isText at hf
  refine lv_aload_n hx hb dX8_isText_0 rfl (lv_at hl 0 rfl) ?_
  refine lv_iconst (v := 0) hx hb dX8_isText_1 (by decide) ?_
  refine q_put hF hK hW fl_X8_288 ft_X8 rfl 0 rfl rfl rfl (Nat.le_of_ble_eq_true rfl) dX8_isText_2 (fun H locs hW => ?_)
  have hW : WD D A s (w_X8_isText E h_ h_g h_kept h_past h_path h_pose h_way h_px h_py h_free h_tips h_far h_queue h_times h_turns h_names h_named h_text h_told h_spare s_hasKept s_pasts s_pathMoves s_spot s_thrown s_faulty s_queued s_length 0 s_error s_tolds s_number s_text s_told) H locs := hW
  refine lv_aload_n hx hb dX8_isText_5 rfl (lv_at hl 0 rfl) ?_
  refine lv_iconst (v := 0) hx hb dX8_isText_6 (by decide) ?_
  refine q_put hF hK hW fl_X8_300 ft_X8 rfl 0 rfl rfl rfl (Nat.le_of_ble_eq_true rfl) dX8_isText_7 (fun H locs hW => ?_)
  have hW : WD D A s (w_X8_isText E h_ h_g h_kept h_past h_path h_pose h_way h_px h_py h_free h_tips h_far h_queue h_times h_turns h_names h_named h_text h_told h_spare s_hasKept s_pasts s_pathMoves s_spot s_thrown s_faulty s_queued s_length 0 s_error 0 s_number s_text s_told) H locs := hW
  have hB10 : ∀ (n : Nat) (s_at_10 : Int32) (s_tolds_10 : Int32) (s_number_10 : Int32) (s_told_10 : Nat → Int32) (ex : (Int32 × Int32 × Int32 × (Nat → Int32)) ⊕ (Int32 × Int32 × Int32 × (Nat → Int32)) ⊕ (Int32 × Int32 × Int32 × (Nat → Int32)) ⊕ (Int32 × Int32 × Int32 × (Nat → Int32))) (H : Heap) (locs : List Loc) (ls : Array Slot), LPF (fun z => f_X8_isText_B10 s_length z.1 z.2.1 z.2.2.1 s_text z.2.2.2 ) n (s_at_10, s_tolds_10, s_number_10, s_told_10) = some ex → lv_has ls 1 [(0, .ref h_)] → WD D A s (w_X8_isText E h_ h_g h_kept h_past h_path h_pose h_way h_px h_py h_free h_tips h_far h_queue h_times h_turns h_names h_named h_text h_told h_spare s_hasKept s_pasts s_pathMoves s_spot s_thrown s_faulty s_queued s_length s_at_10 s_error s_tolds_10 s_number_10 s_text s_told_10) H locs → (∀ (u9 : Int32 × Int32 × Int32 × (Nat → Int32)), ex = .inl u9 → ∀ (H : Heap) (locs : List Loc) (ls : Array Slot), lv_has ls 1 [] → WD D A s (w_X8_isText E h_ h_g h_kept h_past h_path h_pose h_way h_px h_py h_free h_tips h_far h_queue h_times h_turns h_names h_named h_text h_told h_spare s_hasKept s_pasts s_pathMoves s_spot s_thrown s_faulty s_queued s_length u9.1 s_error u9.2.1 u9.2.2.1 s_text u9.2.2.2) H locs → W p l e (RM 4 85) s m args below meth c H locs 0 0 Q (F0 m 26 ls [])) → (∀ (u9 : Int32 × Int32 × Int32 × (Nat → Int32)), ex = .inr (.inl u9) → ∀ (H : Heap) (locs : List Loc) (ls : Array Slot), lv_has ls 1 [] → WD D A s (w_X8_isText E h_ h_g h_kept h_past h_path h_pose h_way h_px h_py h_free h_tips h_far h_queue h_times h_turns h_names h_named h_text h_told h_spare s_hasKept s_pasts s_pathMoves s_spot s_thrown s_faulty s_queued s_length u9.1 s_error u9.2.1 u9.2.2.1 s_text u9.2.2.2) H locs → W p l e (RM 4 85) s m args below meth c H locs 0 0 Q (F0 m 45 ls [])) → (∀ (u9 : Int32 × Int32 × Int32 × (Nat → Int32)), ex = .inr (.inr (.inl u9)) → ∀ (H : Heap) (locs : List Loc) (ls : Array Slot), lv_has ls 1 [] → WD D A s (w_X8_isText E h_ h_g h_kept h_past h_path h_pose h_way h_px h_py h_free h_tips h_far h_queue h_times h_turns h_names h_named h_text h_told h_spare s_hasKept s_pasts s_pathMoves s_spot s_thrown s_faulty s_queued s_length u9.1 s_error u9.2.1 u9.2.2.1 s_text u9.2.2.2) H locs → W p l e (RM 4 85) s m args below meth c H locs 0 0 Q (F0 m 56 ls [])) → (∀ (u9 : Int32 × Int32 × Int32 × (Nat → Int32)), ex = .inr (.inr (.inr u9)) → ∀ (H : Heap) (locs : List Loc) (ls : Array Slot), lv_has ls 1 [] → WD D A s (w_X8_isText E h_ h_g h_kept h_past h_path h_pose h_way h_px h_py h_free h_tips h_far h_queue h_times h_turns h_names h_named h_text h_told h_spare s_hasKept s_pasts s_pathMoves s_spot s_thrown s_faulty s_queued s_length u9.1 s_error u9.2.1 u9.2.2.1 s_text u9.2.2.2) H locs → W p l e (RM 4 85) s m args below meth c H locs 0 0 Q (F0 m 79 ls [])) → W p l e (RM 4 85) s m args below meth c H locs 0 0 Q (F0 m 10 ls []) := by
    intro n
    induction n with
    | zero => intro s_at_10 s_tolds_10 s_number_10 s_told_10 ex H locs ls h9; exact (ob_lp0 h9).elim
    | succ n ih =>
      intro s_at_10 s_tolds_10 s_number_10 s_told_10 ex H locs ls h9 hl hW kx0 kx1 kx2 kx3
      obtain ⟨q9, hf, h9, k9⟩ := ob_lp h9
      have hf : f_X8_isText_B10 s_length s_at_10 s_tolds_10 s_number_10 s_text s_told_10 = some q9 := hf
      unfold f_X8_isText_B10 at hf
      have hL47 : ∀ (s_at_47 : Int32) (s_tolds_47 : Int32) (s_number_47 : Int32) (s_told_47 : Nat → Int32) (H : Heap) (locs : List Loc) (ls : Array Slot), f_X8_isText_L47 s_length s_at_47 s_tolds_47 s_number_47 s_text s_told_47 = some q9 → lv_has ls 1 [(0, .ref h_)] → WD D A s (w_X8_isText E h_ h_g h_kept h_past h_path h_pose h_way h_px h_py h_free h_tips h_far h_queue h_times h_turns h_names h_named h_text h_told h_spare s_hasKept s_pasts s_pathMoves s_spot s_thrown s_faulty s_queued s_length s_at_47 s_error s_tolds_47 s_number_47 s_text s_told_47) H locs → W p l e (RM 4 85) s m args below meth c H locs 0 0 Q (F0 m 47 ls []) := by
        intro s_at_47 s_tolds_47 s_number_47 s_told_47 H locs ls hf hl hW
        unfold f_X8_isText_L47 at hf
        refine lv_aload_n hx hb dX8_isText_47 rfl (lv_at hl 0 rfl) ?_
        refine lv_bipush (v := 59) hx hb dX8_isText_48 (by decide) ?_
        obtain ⟨o_1, hc_1, hf⟩ := ob_bind hf
        refine q_callI hF hl.1 hK hA hZ hW mv_X8_skips ml_X8_303 (c_X8_skips l D E tx h_ h_g h_kept h_past h_path h_pose h_way h_px h_py h_free h_tips h_far h_queue h_times h_turns h_names h_named h_text h_told h_spare s_hasKept s_pasts s_pathMoves s_spot s_thrown s_faulty s_queued s_length s_at_47 s_error s_tolds_47 s_number_47 s_text 59 o_1.1 o_1.2 hc_1) [0, 1] rfl rfl rfl rfl rfl rfl ⟨Nat.le_of_ble_eq_true rfl, Nat.le_of_ble_eq_true rfl⟩ ⟨Nat.le_of_ble_eq_true rfl, Nat.le_of_ble_eq_true rfl⟩ rfl rfl (Nat.le_of_ble_eq_true rfl) dX8_isText_50 (fun H locs hW => ?_)
        have hW : WD D A s (w_X8_isText E h_ h_g h_kept h_past h_path h_pose h_way h_px h_py h_free h_tips h_far h_queue h_times h_turns h_names h_named h_text h_told h_spare s_hasKept s_pasts s_pathMoves s_spot s_thrown s_faulty s_queued s_length o_1.2 s_error s_tolds_47 s_number_47 s_text s_told_47) H locs := hW
        refine q_if_ne (tgt := 58) hx hb dX8_isText_53 (by decide) hf (fun hf => ?_) (fun hf => ?_)
        · refine lv_aload_n hx hb dX8_isText_58 rfl (lv_at hl 0 rfl) ?_
          refine lv_dup hx hb dX8_isText_59 rfl ?_
          refine q_get hF hK hW fl_X8_300 0 rfl rfl dX8_isText_60 ?_
          refine lv_iconst (v := 1) hx hb dX8_isText_63 (by decide) ?_
          refine lv_iadd hx hb dX8_isText_64 ?_
          refine lv_topi (fun v_2 ev_2 => ?_)
          replace hf := ob_let hf ev_2
          refine q_put hF hK hW fl_X8_300 ft_X8 rfl 0 rfl rfl rfl (Nat.le_of_ble_eq_true rfl) dX8_isText_65 (fun H locs hW => ?_)
          have hW : WD D A s (w_X8_isText E h_ h_g h_kept h_past h_path h_pose h_way h_px h_py h_free h_tips h_far h_queue h_times h_turns h_names h_named h_text h_told h_spare s_hasKept s_pasts s_pathMoves s_spot s_thrown s_faulty s_queued s_length o_1.2 s_error v_2 s_number_47 s_text s_told_47) H locs := hW
          refine lv_aload_n hx hb dX8_isText_68 rfl (lv_at hl 0 rfl) ?_
          refine q_get hF hK hW fl_X8_288 0 rfl rfl dX8_isText_69 ?_
          refine lv_aload_n hx hb dX8_isText_72 rfl (lv_at hl 0 rfl) ?_
          refine q_get hF hK hW fl_X8_285 0 rfl rfl dX8_isText_73 ?_
          refine q_icmp_lt (tgt := 10) hx hb dX8_isText_76 (by decide) hf (fun hf => ?_) (fun hf => ?_)
          · cases hf
            exact ih o_1.2 v_2 s_number_47 s_told_47 ex _ _ _ (h9 _ rfl) (lv_sub hl [0] rfl) hW kx0 kx1 kx2 kx3
          · cases hf
            exact kx3 _ (k9 _ rfl) _ _ _ (lv_sub hl [] rfl) hW
        · cases hf
          exact kx2 _ (k9 _ rfl) _ _ _ (lv_sub hl [] rfl) hW
      refine lv_aload_n hx hb dX8_isText_10 rfl (lv_at hl 0 rfl) ?_
      refine lv_bipush (v := 76) hx hb dX8_isText_11 (by decide) ?_
      obtain ⟨o_3, hc_3, hf⟩ := ob_bind hf
      refine q_callI hF hl.1 hK hA hZ hW mv_X8_skips ml_X8_303 (c_X8_skips l D E tx h_ h_g h_kept h_past h_path h_pose h_way h_px h_py h_free h_tips h_far h_queue h_times h_turns h_names h_named h_text h_told h_spare s_hasKept s_pasts s_pathMoves s_spot s_thrown s_faulty s_queued s_length s_at_10 s_error s_tolds_10 s_number_10 s_text 76 o_3.1 o_3.2 hc_3) [0, 1] rfl rfl rfl rfl rfl rfl ⟨Nat.le_of_ble_eq_true rfl, Nat.le_of_ble_eq_true rfl⟩ ⟨Nat.le_of_ble_eq_true rfl, Nat.le_of_ble_eq_true rfl⟩ rfl rfl (Nat.le_of_ble_eq_true rfl) dX8_isText_13 (fun H locs hW => ?_)
      have hW : WD D A s (w_X8_isText E h_ h_g h_kept h_past h_path h_pose h_way h_px h_py h_free h_tips h_far h_queue h_times h_turns h_names h_named h_text h_told h_spare s_hasKept s_pasts s_pathMoves s_spot s_thrown s_faulty s_queued s_length o_3.2 s_error s_tolds_10 s_number_10 s_text s_told_10) H locs := hW
      refine q_if_eq (tgt := 29) hx hb dX8_isText_16 (by decide) hf (fun hf => ?_) (fun hf => ?_)
      · refine lv_aload_n hx hb dX8_isText_29 rfl (lv_at hl 0 rfl) ?_
        refine lv_bipush (v := 79) hx hb dX8_isText_30 (by decide) ?_
        obtain ⟨o_4, hc_4, hf⟩ := ob_bind hf
        refine q_callI hF hl.1 hK hA hZ hW mv_X8_skips ml_X8_303 (c_X8_skips l D E tx h_ h_g h_kept h_past h_path h_pose h_way h_px h_py h_free h_tips h_far h_queue h_times h_turns h_names h_named h_text h_told h_spare s_hasKept s_pasts s_pathMoves s_spot s_thrown s_faulty s_queued s_length o_3.2 s_error s_tolds_10 s_number_10 s_text 79 o_4.1 o_4.2 hc_4) [0, 1] rfl rfl rfl rfl rfl rfl ⟨Nat.le_of_ble_eq_true rfl, Nat.le_of_ble_eq_true rfl⟩ ⟨Nat.le_of_ble_eq_true rfl, Nat.le_of_ble_eq_true rfl⟩ rfl rfl (Nat.le_of_ble_eq_true rfl) dX8_isText_32 (fun H locs hW => ?_)
        have hW : WD D A s (w_X8_isText E h_ h_g h_kept h_past h_path h_pose h_way h_px h_py h_free h_tips h_far h_queue h_times h_turns h_names h_named h_text h_told h_spare s_hasKept s_pasts s_pathMoves s_spot s_thrown s_faulty s_queued s_length o_4.2 s_error s_tolds_10 s_number_10 s_text s_told_10) H locs := hW
        refine q_if_eq (tgt := 45) hx hb dX8_isText_35 (by decide) hf (fun hf => ?_) (fun hf => ?_)
        · cases hf
          exact kx1 _ (k9 _ rfl) _ _ _ (lv_sub hl [] rfl) hW
        · refine lv_aload_n hx hb dX8_isText_38 rfl (lv_at hl 0 rfl) ?_
          obtain ⟨o_5, hc_5, hf⟩ := ob_bind hf
          refine q_callI hF hl.1 hK hA hZ hW mv_X8_stoneHere ml_X8_312 (c_X8_stoneHere l D E tx h_ h_g h_kept h_past h_path h_pose h_way h_px h_py h_free h_tips h_far h_queue h_times h_turns h_names h_named h_text h_told h_spare s_hasKept s_pasts s_pathMoves s_spot s_thrown s_faulty s_queued s_length o_4.2 s_error s_tolds_10 s_number_10 s_text s_told_10 o_5.1 o_5.2.1 o_5.2.2.1 o_5.2.2.2 hc_5) [0, 1, 2] rfl rfl rfl rfl rfl rfl ⟨Nat.le_of_ble_eq_true rfl, Nat.le_of_ble_eq_true rfl⟩ ⟨Nat.le_of_ble_eq_true rfl, Nat.le_of_ble_eq_true rfl⟩ rfl rfl (Nat.le_of_ble_eq_true rfl) dX8_isText_39 (fun H locs hW => ?_)
          have hW : WD D A s (w_X8_isText E h_ h_g h_kept h_past h_path h_pose h_way h_px h_py h_free h_tips h_far h_queue h_times h_turns h_names h_named h_text h_told h_spare s_hasKept s_pasts s_pathMoves s_spot s_thrown s_faulty s_queued s_length o_5.2.1 s_error s_tolds_10 o_5.2.2.1 s_text o_5.2.2.2) H locs := hW
          refine q_if_ne (tgt := 47) hx hb dX8_isText_42 (by decide) hf (fun hf => ?_) (fun hf => ?_)
          · exact hL47 o_5.2.1 s_tolds_10 o_5.2.2.1 o_5.2.2.2 _ _ _ hf (lv_sub hl [0] rfl) hW
          · cases hf
            exact kx1 _ (k9 _ rfl) _ _ _ (lv_sub hl [] rfl) hW
      · refine lv_aload_n hx hb dX8_isText_19 rfl (lv_at hl 0 rfl) ?_
        obtain ⟨o_6, hc_6, hf⟩ := ob_bind hf
        refine q_callI hF hl.1 hK hA hZ hW mv_X8_linkHere ml_X8_309 (c_X8_linkHere l D E tx h_ h_g h_kept h_past h_path h_pose h_way h_px h_py h_free h_tips h_far h_queue h_times h_turns h_names h_named h_text h_told h_spare s_hasKept s_pasts s_pathMoves s_spot s_thrown s_faulty s_queued s_length o_3.2 s_error s_tolds_10 s_number_10 s_text s_told_10 o_6.1 o_6.2.1 o_6.2.2.1 o_6.2.2.2 hc_6) [0, 1, 2] rfl rfl rfl rfl rfl rfl ⟨Nat.le_of_ble_eq_true rfl, Nat.le_of_ble_eq_true rfl⟩ ⟨Nat.le_of_ble_eq_true rfl, Nat.le_of_ble_eq_true rfl⟩ rfl rfl (Nat.le_of_ble_eq_true rfl) dX8_isText_20 (fun H locs hW => ?_)
        have hW : WD D A s (w_X8_isText E h_ h_g h_kept h_past h_path h_pose h_way h_px h_py h_free h_tips h_far h_queue h_times h_turns h_names h_named h_text h_told h_spare s_hasKept s_pasts s_pathMoves s_spot s_thrown s_faulty s_queued s_length o_6.2.1 s_error s_tolds_10 o_6.2.2.1 s_text o_6.2.2.2) H locs := hW
        refine q_if_ne (tgt := 47) hx hb dX8_isText_23 (by decide) hf (fun hf => ?_) (fun hf => ?_)
        · exact hL47 o_6.2.1 s_tolds_10 o_6.2.2.1 o_6.2.2.2 _ _ _ hf (lv_sub hl [0] rfl) hW
        · cases hf
          exact kx0 _ (k9 _ rfl) _ _ _ (lv_sub hl [] rfl) hW
  obtain ⟨e_7, hc_7, hf⟩ := ob_bind hf
  refine hB10 lfuel 0 0 s_number s_told e_7 _ _ _ hc_7 (lv_sub hl [0] rfl) hW ?_ ?_ ?_ ?_
  · intro u_8 hu H locs ls hl hW
    subst hu
    dsimp only at hf
    refine lv_goto (tgt := 45) hx hb dX8_isText_26 (by decide) ?_
    refine lv_iconst (v := 0) hx hb dX8_isText_45 (by decide) ?_
    cases hf
    exact hret dX8_isText_46 rfl rfl hW
  · intro u_9 hu H locs ls hl hW
    subst hu
    dsimp only at hf
    refine lv_iconst (v := 0) hx hb dX8_isText_45 (by decide) ?_
    cases hf
    exact hret dX8_isText_46 rfl rfl hW
  · intro u_10 hu H locs ls hl hW
    subst hu
    dsimp only at hf
    refine lv_iconst (v := 0) hx hb dX8_isText_56 (by decide) ?_
    cases hf
    exact hret dX8_isText_57 rfl rfl hW
  · intro u_11 hu H locs ls hl hW
    subst hu
    dsimp only at hf
    refine lv_iconst (v := 1) hx hb dX8_isText_79 (by decide) ?_
    cases hf
    exact hret dX8_isText_80 rfl rfl hW
def w_X8_addsAll (E : Nat → ClassId) (h_ h_g h_kept h_past h_path h_pose h_way h_px h_py h_free h_tips h_far h_queue h_times h_turns h_names h_named h_text h_told h_spare : Nat) (s_hasKept : Int32) (s_pasts : Int32) (s_pathMoves : Int32) (s_spot : Int32) (s_thrown : Int32) (s_faulty : Int32) (s_queued : Int32) (s_length : Int32) (s_at : Int32) (s_error : Int32) (s_tolds : Int32) (s_number : Int32) (s_g : Nat → Int32) (s_told : Nat → Int32) (s_spare : Nat → Int32) : va_W := [(h_, .inr (10, [.ref h_g, .ref h_kept, .int s_hasKept, .ref h_past, .int s_pasts, .ref h_path, .int s_pathMoves, .int s_spot, .int s_thrown, .ref h_pose, .ref h_way, .ref h_px, .ref h_py, .int s_faulty, .ref h_free, .ref h_tips, .ref h_far, .ref h_queue, .int s_queued, .ref h_times, .ref h_turns, .ref h_names, .ref h_named, .ref h_text, .int s_length, .int s_at, .int s_error, .ref h_told, .int s_tolds, .int s_number, .ref h_spare])), (h_g, .inl (E 0, 141, .inl s_g)), (h_told, .inl (E 0, 60, .inl s_told)), (h_spare, .inl (E 0, 141, .inl s_spare))]
set_option maxHeartbeats 4000000 in
set_option maxRecDepth 100000 in
theorem c_X8_addsAll (l : Launch) (D : va_G) (E : Nat → ClassId) (tx : List (Nat × String)) (h_ h_g h_kept h_past h_path h_pose h_way h_px h_py h_free h_tips h_far h_queue h_times h_turns h_names h_named h_text h_told h_spare : Nat) (s_hasKept : Int32) (s_pasts : Int32) (s_pathMoves : Int32) (s_spot : Int32) (s_thrown : Int32) (s_faulty : Int32) (s_queued : Int32) (s_length : Int32) (s_at : Int32) (s_error : Int32) (s_tolds : Int32) (s_number : Int32) (s_g : Nat → Int32) (s_told : Nat → Int32) (s_spare : Nat → Int32)  (r0 : Int32) (r1 : Nat → Int32) (r2 : Nat → Int32) (hf : f_X8_addsAll s_tolds s_g s_told s_spare = some (r0, r1, r2)) : CI l yX8_addsAll cX8_addsAll 4 (some .boolean) 3 65 D E tx [.ref h_] (w_X8_addsAll E h_ h_g h_kept h_past h_path h_pose h_way h_px h_py h_free h_tips h_far h_queue h_times h_turns h_names h_named h_text h_told h_spare s_hasKept s_pasts s_pathMoves s_spot s_thrown s_faulty s_queued s_length s_at s_error s_tolds s_number s_g s_told s_spare) (w_X8_addsAll E h_ h_g h_kept h_past h_path h_pose h_way h_px h_py h_free h_tips h_far h_queue h_times h_turns h_names h_named h_text h_told h_spare s_hasKept s_pasts s_pathMoves s_spot s_thrown s_faulty s_queued s_length s_at s_error s_tolds s_number r1 s_told r2) r0 := by
  refine CI_of RX8 pn_X8 rfl (Nat.le_of_ble_eq_true rfl) (fun p e s m args below meth c A Q hF hK hA hZ hW hret ls hl => ?_)
  have hx := hF.1
  have hb := hF.2.1
  have hl : lv_has ls 4 [(0, .ref h_)] := hl
  unfold f_X8_addsAll at hf
  refine lv_iconst (v := 0) hx hb dX8_addsAll_0 (by decide) ?_
  refine lv_istore_n (lv' := [(1, .int 0), (0, .ref h_)]) hx hb dX8_addsAll_1 rfl hl (by decide) rfl (fun ls hl => ?_)
  have hB2 : ∀ (n : Nat) (s_spare_2 : Nat → Int32) (z1_2 : Int32) (ex : (Nat → Int32)) (H : Heap) (locs : List Loc) (ls : Array Slot), LPF (fun z => f_X8_addsAll_B2 s_tolds s_g s_told z.1 z.2) n (s_spare_2, z1_2) = some ex → lv_has ls 4 [(0, .ref h_), (1, .int z1_2)] → WD D A s (w_X8_addsAll E h_ h_g h_kept h_past h_path h_pose h_way h_px h_py h_free h_tips h_far h_queue h_times h_turns h_names h_named h_text h_told h_spare s_hasKept s_pasts s_pathMoves s_spot s_thrown s_faulty s_queued s_length s_at s_error s_tolds s_number s_g s_told s_spare_2) H locs → (∀ (H : Heap) (locs : List Loc) (ls : Array Slot), lv_has ls 4 [(0, .ref h_)] → WD D A s (w_X8_addsAll E h_ h_g h_kept h_past h_path h_pose h_way h_px h_py h_free h_tips h_far h_queue h_times h_turns h_names h_named h_text h_told h_spare s_hasKept s_pasts s_pathMoves s_spot s_thrown s_faulty s_queued s_length s_at s_error s_tolds s_number s_g s_told ex) H locs → W p l e (RM 3 65) s m args below meth c H locs 0 0 Q (F0 m 27 ls [])) → W p l e (RM 3 65) s m args below meth c H locs 0 0 Q (F0 m 2 ls []) := by
    intro n
    induction n with
    | zero => intro s_spare_2 z1_2 ex H locs ls h9; exact (ob_lp0 h9).elim
    | succ n ih =>
      intro s_spare_2 z1_2 ex H locs ls h9 hl hW kx0
      obtain ⟨q9, hf, h9, k9⟩ := ob_lp h9
      have hf : f_X8_addsAll_B2 s_tolds s_g s_told s_spare_2 z1_2 = some q9 := hf
      unfold f_X8_addsAll_B2 at hf
      refine lv_iload_n hx hb dX8_addsAll_2 rfl (lv_at hl 1 rfl) ?_
      refine lv_sipush (v := 141) hx hb dX8_addsAll_3 (by decide) ?_
      refine q_icmp_ge (tgt := 27) hx hb dX8_addsAll_6 (by decide) hf (fun hf => ?_) (fun hf => ?_)
      · cases hf
        have hx9 := k9 _ rfl
        subst hx9
        exact kx0 _ _ _ (lv_sub hl [0] rfl) hW
      · refine lv_aload_n hx hb dX8_addsAll_9 rfl (lv_at hl 0 rfl) ?_
        refine q_get hF hK hW fl_X8_73 0 rfl rfl dX8_addsAll_10 ?_
        refine lv_iload_n hx hb dX8_addsAll_13 rfl (lv_at hl 1 rfl) ?_
        refine lv_aload_n hx hb dX8_addsAll_14 rfl (lv_at hl 0 rfl) ?_
        refine q_get hF hK hW fl_X8_7 0 rfl rfl dX8_addsAll_15 ?_
        refine lv_iload_n hx hb dX8_addsAll_18 rfl (lv_at hl 1 rfl) ?_
        refine q_iald hx hb hK hW 1 0 rfl rfl dX8_addsAll_19 hf (fun hf => ?_)
        refine q_iast hx hb hK hW 3 0 rfl rfl dX8_addsAll_20 hf (fun a_1 hf H locs hW => ?_)
        have hW : WD D A s (w_X8_addsAll E h_ h_g h_kept h_past h_path h_pose h_way h_px h_py h_free h_tips h_far h_queue h_times h_turns h_names h_named h_text h_told h_spare s_hasKept s_pasts s_pathMoves s_spot s_thrown s_faulty s_queued s_length s_at s_error s_tolds s_number s_g s_told a_1) H locs := hW
        obtain ⟨v_2, ev_2⟩ : ∃ y : Int32, y = z1_2 + 1 := ⟨_, rfl⟩
        replace hf := ob_let hf ev_2
        refine lv_iinc (v := v_2) (lv' := [(1, .int v_2), (0, .ref h_)]) hx hb dX8_addsAll_21 hl (k := 1) rfl (by rw [ev_2]; rfl) (by decide) rfl (fun ls hl => ?_)
        refine lv_goto (tgt := 2) hx hb dX8_addsAll_24 (by decide) ?_
        cases hf
        exact ih a_1 v_2 ex _ _ _ (h9 _ rfl) (lv_sub hl [1, 0] rfl) hW kx0
  obtain ⟨e_3, hc_3, hf⟩ := ob_bind hf
  refine hB2 lfuel s_spare 0 e_3 _ _ _ hc_3 (lv_sub hl [1, 0] rfl) hW ?_
  intro H locs ls hl hW
  refine lv_iconst (v := 1) hx hb dX8_addsAll_27 (by decide) ?_
  refine lv_istore_n (lv' := [(1, .int 1), (0, .ref h_)]) hx hb dX8_addsAll_28 rfl hl (by decide) rfl (fun ls hl => ?_)
  refine lv_iconst (v := 0) hx hb dX8_addsAll_29 (by decide) ?_
  refine lv_istore_n (lv' := [(2, .int 0), (1, .int 1), (0, .ref h_)]) hx hb dX8_addsAll_30 rfl hl (by decide) rfl (fun ls hl => ?_)
  have hB31 : ∀ (n : Nat) (s_g_31 : Nat → Int32) (z1_31 : Int32) (z2_31 : Int32) (ex : (Nat → Int32) × Int32) (H : Heap) (locs : List Loc) (ls : Array Slot), LPF (fun z => f_X8_addsAll_B31 s_tolds z.1 s_told e_3 z.2.1 z.2.2) n (s_g_31, z1_31, z2_31) = some ex → lv_has ls 4 [(0, .ref h_), (1, .int z1_31), (2, .int z2_31)] → WD D A s (w_X8_addsAll E h_ h_g h_kept h_past h_path h_pose h_way h_px h_py h_free h_tips h_far h_queue h_times h_turns h_names h_named h_text h_told h_spare s_hasKept s_pasts s_pathMoves s_spot s_thrown s_faulty s_queued s_length s_at s_error s_tolds s_number s_g_31 s_told e_3) H locs → (∀ (H : Heap) (locs : List Loc) (ls : Array Slot), lv_has ls 4 [(0, .ref h_), (1, .int ex.2)] → WD D A s (w_X8_addsAll E h_ h_g h_kept h_past h_path h_pose h_way h_px h_py h_free h_tips h_far h_queue h_times h_turns h_names h_named h_text h_told h_spare s_hasKept s_pasts s_pathMoves s_spot s_thrown s_faulty s_queued s_length s_at s_error s_tolds s_number ex.1 s_told e_3) H locs → W p l e (RM 3 65) s m args below meth c H locs 0 0 Q (F0 m 187 ls [])) → W p l e (RM 3 65) s m args below meth c H locs 0 0 Q (F0 m 31 ls []) := by
    intro n
    induction n with
    | zero => intro s_g_31 z1_31 z2_31 ex H locs ls h9; exact (ob_lp0 h9).elim
    | succ n ih =>
      intro s_g_31 z1_31 z2_31 ex H locs ls h9 hl hW kx0
      obtain ⟨q9, hf, h9, k9⟩ := ob_lp h9
      have hf : f_X8_addsAll_B31 s_tolds s_g_31 s_told e_3 z1_31 z2_31 = some q9 := hf
      unfold f_X8_addsAll_B31 at hf
      have hL153 : ∀ (s_g_153 : Nat → Int32) (y1_153 : Int32) (y2_153 : Int32) (H : Heap) (locs : List Loc) (ls : Array Slot), f_X8_addsAll_L153 s_tolds s_g_153 s_told e_3 y1_153 y2_153 = some q9 → lv_has ls 4 [(0, .ref h_), (1, .int y1_153), (2, .int y2_153)] → WD D A s (w_X8_addsAll E h_ h_g h_kept h_past h_path h_pose h_way h_px h_py h_free h_tips h_far h_queue h_times h_turns h_names h_named h_text h_told h_spare s_hasKept s_pasts s_pathMoves s_spot s_thrown s_faulty s_queued s_length s_at s_error s_tolds s_number s_g_153 s_told e_3) H locs → W p l e (RM 3 65) s m args below meth c H locs 0 0 Q (F0 m 153 ls []) := by
        intro s_g_153 y1_153 y2_153 H locs ls hf hl hW
        unfold f_X8_addsAll_L153 at hf
        refine lv_iload_n hx hb dX8_addsAll_153 rfl (lv_at hl 1 rfl) ?_
        refine q_if_eq (tgt := 181) hx hb dX8_addsAll_154 (by decide) hf (fun hf => ?_) (fun hf => ?_)
        · obtain ⟨v_4, ev_4⟩ : ∃ y : Int32, y = y2_153 + 1 := ⟨_, rfl⟩
          replace hf := ob_let hf ev_4
          refine lv_iinc (v := v_4) (lv' := [(2, .int v_4), (0, .ref h_), (1, .int y1_153)]) hx hb dX8_addsAll_181 hl (k := 2) rfl (by rw [ev_4]; rfl) (by decide) rfl (fun ls hl => ?_)
          refine lv_goto (tgt := 31) hx hb dX8_addsAll_184 (by decide) ?_
          cases hf
          exact ih s_g_153 y1_153 v_4 ex _ _ _ (h9 _ rfl) (lv_sub hl [1, 2, 0] rfl) hW kx0
        · refine lv_aload_n hx hb dX8_addsAll_157 rfl (lv_at hl 0 rfl) ?_
          refine lv_aload_n hx hb dX8_addsAll_158 rfl (lv_at hl 0 rfl) ?_
          refine q_get hF hK hW fl_X8_70 0 rfl rfl dX8_addsAll_159 ?_
          refine lv_iconst (v := 3) hx hb dX8_addsAll_162 (by decide) ?_
          refine lv_iload_n hx hb dX8_addsAll_163 rfl (lv_at hl 2 rfl) ?_
          refine lv_imul hx hb dX8_addsAll_164 ?_
          refine lv_iconst (v := 1) hx hb dX8_addsAll_165 (by decide) ?_
          refine lv_iadd hx hb dX8_addsAll_166 ?_
          refine q_iald hx hb hK hW 2 0 rfl rfl dX8_addsAll_167 hf (fun hf => ?_)
          refine lv_aload_n hx hb dX8_addsAll_168 rfl (lv_at hl 0 rfl) ?_
          refine q_get hF hK hW fl_X8_70 0 rfl rfl dX8_addsAll_169 ?_
          refine lv_iconst (v := 3) hx hb dX8_addsAll_172 (by decide) ?_
          refine lv_iload_n hx hb dX8_addsAll_173 rfl (lv_at hl 2 rfl) ?_
          refine lv_imul hx hb dX8_addsAll_174 ?_
          refine lv_iconst (v := 2) hx hb dX8_addsAll_175 (by decide) ?_
          refine lv_iadd hx hb dX8_addsAll_176 ?_
          refine q_iald hx hb hK hW 2 0 rfl rfl dX8_addsAll_177 hf (fun hf => ?_)
          obtain ⟨o_5, hc_5, hf⟩ := ob_bind hf
          refine q_callV hF hl.1 hK hA hZ hW mv_X8_stoneComes ml_X8_120 (c_X8_stoneComes l D E tx h_ h_g h_kept h_past h_path h_pose h_way h_px h_py h_free h_tips h_far h_queue h_times h_turns h_names h_named h_text h_told h_spare s_hasKept s_pasts s_pathMoves s_spot s_thrown s_faulty s_queued s_length s_at s_error s_tolds s_number s_g_153 (s_told ((3 * y2_153) + 1).toNatClampNeg) (s_told ((3 * y2_153) + 2).toNatClampNeg) o_5 hc_5) [0, 1] rfl rfl rfl rfl rfl rfl ⟨Nat.le_of_ble_eq_true rfl, Nat.le_of_ble_eq_true rfl⟩ ⟨Nat.le_of_ble_eq_true rfl, Nat.le_of_ble_eq_true rfl⟩ rfl rfl (Nat.le_of_ble_eq_true rfl) dX8_addsAll_178 (fun H locs hW => ?_)
          have hW : WD D A s (w_X8_addsAll E h_ h_g h_kept h_past h_path h_pose h_way h_px h_py h_free h_tips h_far h_queue h_times h_turns h_names h_named h_text h_told h_spare s_hasKept s_pasts s_pathMoves s_spot s_thrown s_faulty s_queued s_length s_at s_error s_tolds s_number o_5 s_told e_3) H locs := hW
          obtain ⟨v_6, ev_6⟩ : ∃ y : Int32, y = y2_153 + 1 := ⟨_, rfl⟩
          replace hf := ob_let hf ev_6
          refine lv_iinc (v := v_6) (lv' := [(2, .int v_6), (0, .ref h_), (1, .int y1_153)]) hx hb dX8_addsAll_181 hl (k := 2) rfl (by rw [ev_6]; rfl) (by decide) rfl (fun ls hl => ?_)
          refine lv_goto (tgt := 31) hx hb dX8_addsAll_184 (by decide) ?_
          cases hf
          exact ih o_5 y1_153 v_6 ex _ _ _ (h9 _ rfl) (lv_sub hl [1, 2, 0] rfl) hW kx0
      have hL116 : ∀ (s_g_116 : Nat → Int32) (y2_116 : Int32) (y3_116 : Int32) (k0_116 : Int32) (H : Heap) (locs : List Loc) (ls : Array Slot), f_X8_addsAll_L116 s_tolds s_g_116 s_told e_3 y2_116 y3_116 k0_116 = some q9 → lv_has ls 4 [(0, .ref h_), (2, .int y2_116), (3, .int y3_116)] → WD D A s (w_X8_addsAll E h_ h_g h_kept h_past h_path h_pose h_way h_px h_py h_free h_tips h_far h_queue h_times h_turns h_names h_named h_text h_told h_spare s_hasKept s_pasts s_pathMoves s_spot s_thrown s_faulty s_queued s_length s_at s_error s_tolds s_number s_g_116 s_told e_3) H locs → W p l e (RM 3 65) s m args below meth c H locs 0 0 Q (F0 m 116 ls [.int k0_116]) := by
        intro s_g_116 y2_116 y3_116 k0_116 H locs ls hf hl hW
        unfold f_X8_addsAll_L116 at hf
        refine lv_istore_n (lv' := [(1, .int k0_116), (0, .ref h_), (2, .int y2_116), (3, .int y3_116)]) hx hb dX8_addsAll_116 rfl hl (by decide) rfl (fun ls hl => ?_)
        refine lv_iload_n hx hb dX8_addsAll_117 rfl (lv_at hl 0 rfl) ?_
        refine q_if_eq (tgt := 153) hx hb dX8_addsAll_118 (by decide) hf (fun hf => ?_) (fun hf => ?_)
        · exact hL153 s_g_116 k0_116 y2_116 _ _ _ hf (lv_sub hl [1, 0, 2] rfl) hW
        · refine lv_iload_n hx hb dX8_addsAll_121 rfl (lv_at hl 3 rfl) ?_
          refine q_if_le (tgt := 153) hx hb dX8_addsAll_122 (by decide) hf (fun hf => ?_) (fun hf => ?_)
          · exact hL153 s_g_116 k0_116 y2_116 _ _ _ hf (lv_sub hl [1, 0, 2] rfl) hW
          · refine lv_aload_n hx hb dX8_addsAll_125 rfl (lv_at hl 1 rfl) ?_
            refine lv_iload_n hx hb dX8_addsAll_126 rfl (lv_at hl 3 rfl) ?_
            refine lv_aload_n hx hb dX8_addsAll_127 rfl (lv_at hl 1 rfl) ?_
            refine q_get hF hK hW fl_X8_70 0 rfl rfl dX8_addsAll_128 ?_
            refine lv_iconst (v := 3) hx hb dX8_addsAll_131 (by decide) ?_
            refine lv_iload_n hx hb dX8_addsAll_132 rfl (lv_at hl 2 rfl) ?_
            refine lv_imul hx hb dX8_addsAll_133 ?_
            refine lv_iconst (v := 1) hx hb dX8_addsAll_134 (by decide) ?_
            refine lv_iadd hx hb dX8_addsAll_135 ?_
            refine q_iald hx hb hK hW 2 0 rfl rfl dX8_addsAll_136 hf (fun hf => ?_)
            refine lv_aload_n hx hb dX8_addsAll_137 rfl (lv_at hl 1 rfl) ?_
            refine q_get hF hK hW fl_X8_70 0 rfl rfl dX8_addsAll_138 ?_
            refine lv_iconst (v := 3) hx hb dX8_addsAll_141 (by decide) ?_
            refine lv_iload_n hx hb dX8_addsAll_142 rfl (lv_at hl 2 rfl) ?_
            refine lv_imul hx hb dX8_addsAll_143 ?_
            refine lv_iconst (v := 2) hx hb dX8_addsAll_144 (by decide) ?_
            refine lv_iadd hx hb dX8_addsAll_145 ?_
            refine q_iald hx hb hK hW 2 0 rfl rfl dX8_addsAll_146 hf (fun hf => ?_)
            obtain ⟨o_7, hc_7, hf⟩ := ob_bind hf
            refine q_callV hF hl.1 hK hA hZ hW mv_X8_linkComes ml_X8_101 (c_X8_linkComes l D E tx h_ h_g h_kept h_past h_path h_pose h_way h_px h_py h_free h_tips h_far h_queue h_times h_turns h_names h_named h_text h_told h_spare s_hasKept s_pasts s_pathMoves s_spot s_thrown s_faulty s_queued s_length s_at s_error s_tolds s_number s_g_116 y3_116 (s_told ((3 * y2_116) + 1).toNatClampNeg) (s_told ((3 * y2_116) + 2).toNatClampNeg) o_7 hc_7) [0, 1] rfl rfl rfl rfl rfl rfl ⟨Nat.le_of_ble_eq_true rfl, Nat.le_of_ble_eq_true rfl⟩ ⟨Nat.le_of_ble_eq_true rfl, Nat.le_of_ble_eq_true rfl⟩ rfl rfl (Nat.le_of_ble_eq_true rfl) dX8_addsAll_147 (fun H locs hW => ?_)
            have hW : WD D A s (w_X8_addsAll E h_ h_g h_kept h_past h_path h_pose h_way h_px h_py h_free h_tips h_far h_queue h_times h_turns h_names h_named h_text h_told h_spare s_hasKept s_pasts s_pathMoves s_spot s_thrown s_faulty s_queued s_length s_at s_error s_tolds s_number o_7 s_told e_3) H locs := hW
            refine lv_goto (tgt := 181) hx hb dX8_addsAll_150 (by decide) ?_
            obtain ⟨v_8, ev_8⟩ : ∃ y : Int32, y = y2_116 + 1 := ⟨_, rfl⟩
            replace hf := ob_let hf ev_8
            refine lv_iinc (v := v_8) (lv' := [(2, .int v_8), (1, .int k0_116), (0, .ref h_), (3, .int y3_116)]) hx hb dX8_addsAll_181 hl (k := 2) rfl (by rw [ev_8]; rfl) (by decide) rfl (fun ls hl => ?_)
            refine lv_goto (tgt := 31) hx hb dX8_addsAll_184 (by decide) ?_
            cases hf
            exact ih o_7 k0_116 v_8 ex _ _ _ (h9 _ rfl) (lv_sub hl [2, 1, 0] rfl) hW kx0
      have hL108 : ∀ (s_g_108 : Nat → Int32) (y2_108 : Int32) (y3_108 : Int32) (k0_108 : Int32) (H : Heap) (locs : List Loc) (ls : Array Slot), f_X8_addsAll_L108 s_tolds s_g_108 s_told e_3 y2_108 y3_108 k0_108 = some q9 → lv_has ls 4 [(0, .ref h_), (2, .int y2_108), (3, .int y3_108)] → WD D A s (w_X8_addsAll E h_ h_g h_kept h_past h_path h_pose h_way h_px h_py h_free h_tips h_far h_queue h_times h_turns h_names h_named h_text h_told h_spare s_hasKept s_pasts s_pathMoves s_spot s_thrown s_faulty s_queued s_length s_at s_error s_tolds s_number s_g_108 s_told e_3) H locs → W p l e (RM 3 65) s m args below meth c H locs 0 0 Q (F0 m 108 ls [.int k0_108]) := by
        intro s_g_108 y2_108 y3_108 k0_108 H locs ls hf hl hW
        unfold f_X8_addsAll_L108 at hf
        refine q_if_ne (tgt := 115) hx hb dX8_addsAll_108 (by decide) hf (fun hf => ?_) (fun hf => ?_)
        · refine lv_iconst (v := 0) hx hb dX8_addsAll_115 (by decide) ?_
          exact hL116 s_g_108 y2_108 y3_108 0 _ _ _ hf (lv_sub hl [0, 1, 2] rfl) hW
        · refine lv_iconst (v := 1) hx hb dX8_addsAll_111 (by decide) ?_
          refine lv_goto (tgt := 116) hx hb dX8_addsAll_112 (by decide) ?_
          exact hL116 s_g_108 y2_108 y3_108 1 _ _ _ hf (lv_sub hl [0, 1, 2] rfl) hW
      refine lv_iload_n hx hb dX8_addsAll_31 rfl (lv_at hl 2 rfl) ?_
      refine lv_aload_n hx hb dX8_addsAll_32 rfl (lv_at hl 0 rfl) ?_
      refine q_get hF hK hW fl_X8_300 0 rfl rfl dX8_addsAll_33 ?_
      refine q_icmp_ge (tgt := 187) hx hb dX8_addsAll_36 (by decide) hf (fun hf => ?_) (fun hf => ?_)
      · cases hf
        have hx9 := k9 _ rfl
        subst hx9
        exact kx0 _ _ _ (lv_sub hl [0, 1] rfl) hW
      · refine lv_iload_n hx hb dX8_addsAll_39 rfl (lv_at hl 1 rfl) ?_
        refine q_if_eq (tgt := 187) hx hb dX8_addsAll_40 (by decide) hf (fun hf => ?_) (fun hf => ?_)
        · cases hf
          have hx9 := k9 _ rfl
          subst hx9
          exact kx0 _ _ _ (lv_sub hl [0, 1] rfl) hW
        · refine lv_aload_n hx hb dX8_addsAll_43 rfl (lv_at hl 0 rfl) ?_
          refine q_get hF hK hW fl_X8_70 0 rfl rfl dX8_addsAll_44 ?_
          refine lv_iconst (v := 3) hx hb dX8_addsAll_47 (by decide) ?_
          refine lv_iload_n hx hb dX8_addsAll_48 rfl (lv_at hl 2 rfl) ?_
          refine lv_imul hx hb dX8_addsAll_49 ?_
          refine q_iald hx hb hK hW 2 0 rfl rfl dX8_addsAll_50 hf (fun hf => ?_)
          refine lv_topi (fun v_9 ev_9 => ?_)
          replace hf := ob_let hf ev_9
          refine lv_istore_n (lv' := [(3, .int v_9), (0, .ref h_), (1, .int z1_31), (2, .int z2_31)]) hx hb dX8_addsAll_51 rfl hl (by decide) rfl (fun ls hl => ?_)
          refine lv_iload_n hx hb dX8_addsAll_52 rfl (lv_at hl 0 rfl) ?_
          refine q_if_le (tgt := 84) hx hb dX8_addsAll_53 (by decide) hf (fun hf => ?_) (fun hf => ?_)
          · refine lv_aload_n hx hb dX8_addsAll_84 rfl (lv_at hl 1 rfl) ?_
            refine lv_aload_n hx hb dX8_addsAll_85 rfl (lv_at hl 1 rfl) ?_
            refine q_get hF hK hW fl_X8_70 0 rfl rfl dX8_addsAll_86 ?_
            refine lv_iconst (v := 3) hx hb dX8_addsAll_89 (by decide) ?_
            refine lv_iload_n hx hb dX8_addsAll_90 rfl (lv_at hl 3 rfl) ?_
            refine lv_imul hx hb dX8_addsAll_91 ?_
            refine lv_iconst (v := 1) hx hb dX8_addsAll_92 (by decide) ?_
            refine lv_iadd hx hb dX8_addsAll_93 ?_
            refine q_iald hx hb hK hW 2 0 rfl rfl dX8_addsAll_94 hf (fun hf => ?_)
            refine lv_aload_n hx hb dX8_addsAll_95 rfl (lv_at hl 1 rfl) ?_
            refine q_get hF hK hW fl_X8_70 0 rfl rfl dX8_addsAll_96 ?_
            refine lv_iconst (v := 3) hx hb dX8_addsAll_99 (by decide) ?_
            refine lv_iload_n hx hb dX8_addsAll_100 rfl (lv_at hl 3 rfl) ?_
            refine lv_imul hx hb dX8_addsAll_101 ?_
            refine lv_iconst (v := 2) hx hb dX8_addsAll_102 (by decide) ?_
            refine lv_iadd hx hb dX8_addsAll_103 ?_
            refine q_iald hx hb hK hW 2 0 rfl rfl dX8_addsAll_104 hf (fun hf => ?_)
            obtain ⟨o_10, hc_10, hf⟩ := ob_bind hf
            refine q_callI hF hl.1 hK hA hZ hW mv_X8_stoneStops ml_X8_117 (c_X8_stoneStops l D E tx h_ h_g h_kept h_past h_path h_pose h_way h_px h_py h_free h_tips h_far h_queue h_times h_turns h_names h_named h_text h_told h_spare s_hasKept s_pasts s_pathMoves s_spot s_thrown s_faulty s_queued s_length s_at s_error s_tolds s_number s_g_31 (s_told ((3 * z2_31) + 1).toNatClampNeg) (s_told ((3 * z2_31) + 2).toNatClampNeg) o_10 hc_10) [0, 1] rfl rfl rfl rfl rfl rfl ⟨Nat.le_of_ble_eq_true rfl, Nat.le_of_ble_eq_true rfl⟩ ⟨Nat.le_of_ble_eq_true rfl, Nat.le_of_ble_eq_true rfl⟩ rfl rfl (Nat.le_of_ble_eq_true rfl) dX8_addsAll_105 (fun H locs hW => ?_)
            have hW : WD D A s (w_X8_addsAll E h_ h_g h_kept h_past h_path h_pose h_way h_px h_py h_free h_tips h_far h_queue h_times h_turns h_names h_named h_text h_told h_spare s_hasKept s_pasts s_pathMoves s_spot s_thrown s_faulty s_queued s_length s_at s_error s_tolds s_number s_g_31 s_told e_3) H locs := hW
            exact hL108 s_g_31 z2_31 v_9 o_10 _ _ _ hf (lv_sub hl [1, 3, 0] rfl) hW
          · refine lv_aload_n hx hb dX8_addsAll_56 rfl (lv_at hl 1 rfl) ?_
            refine lv_iload_n hx hb dX8_addsAll_57 rfl (lv_at hl 0 rfl) ?_
            refine lv_aload_n hx hb dX8_addsAll_58 rfl (lv_at hl 1 rfl) ?_
            refine q_get hF hK hW fl_X8_70 0 rfl rfl dX8_addsAll_59 ?_
            refine lv_iconst (v := 3) hx hb dX8_addsAll_62 (by decide) ?_
            refine lv_iload_n hx hb dX8_addsAll_63 rfl (lv_at hl 3 rfl) ?_
            refine lv_imul hx hb dX8_addsAll_64 ?_
            refine lv_iconst (v := 1) hx hb dX8_addsAll_65 (by decide) ?_
            refine lv_iadd hx hb dX8_addsAll_66 ?_
            refine q_iald hx hb hK hW 2 0 rfl rfl dX8_addsAll_67 hf (fun hf => ?_)
            refine lv_aload_n hx hb dX8_addsAll_68 rfl (lv_at hl 1 rfl) ?_
            refine q_get hF hK hW fl_X8_70 0 rfl rfl dX8_addsAll_69 ?_
            refine lv_iconst (v := 3) hx hb dX8_addsAll_72 (by decide) ?_
            refine lv_iload_n hx hb dX8_addsAll_73 rfl (lv_at hl 3 rfl) ?_
            refine lv_imul hx hb dX8_addsAll_74 ?_
            refine lv_iconst (v := 2) hx hb dX8_addsAll_75 (by decide) ?_
            refine lv_iadd hx hb dX8_addsAll_76 ?_
            refine q_iald hx hb hK hW 2 0 rfl rfl dX8_addsAll_77 hf (fun hf => ?_)
            obtain ⟨o_11, hc_11, hf⟩ := ob_bind hf
            refine q_callI hF hl.1 hK hA hZ hW mv_X8_linkStops ml_X8_94 (c_X8_linkStops l D E tx h_ h_g h_kept h_past h_path h_pose h_way h_px h_py h_free h_tips h_far h_queue h_times h_turns h_names h_named h_text h_told h_spare s_hasKept s_pasts s_pathMoves s_spot s_thrown s_faulty s_queued s_length s_at s_error s_tolds s_number s_g_31 v_9 (s_told ((3 * z2_31) + 1).toNatClampNeg) (s_told ((3 * z2_31) + 2).toNatClampNeg) o_11 hc_11) [0, 1] rfl rfl rfl rfl rfl rfl ⟨Nat.le_of_ble_eq_true rfl, Nat.le_of_ble_eq_true rfl⟩ ⟨Nat.le_of_ble_eq_true rfl, Nat.le_of_ble_eq_true rfl⟩ rfl rfl (Nat.le_of_ble_eq_true rfl) dX8_addsAll_78 (fun H locs hW => ?_)
            have hW : WD D A s (w_X8_addsAll E h_ h_g h_kept h_past h_path h_pose h_way h_px h_py h_free h_tips h_far h_queue h_times h_turns h_names h_named h_text h_told h_spare s_hasKept s_pasts s_pathMoves s_spot s_thrown s_faulty s_queued s_length s_at s_error s_tolds s_number s_g_31 s_told e_3) H locs := hW
            refine lv_goto (tgt := 108) hx hb dX8_addsAll_81 (by decide) ?_
            exact hL108 s_g_31 z2_31 v_9 o_11 _ _ _ hf (lv_sub hl [1, 3, 0] rfl) hW
  obtain ⟨e_12, hc_12, hf⟩ := ob_bind hf
  refine hB31 lfuel s_g 1 0 e_12 _ _ _ hc_12 (lv_sub hl [2, 1, 0] rfl) hW ?_
  intro H locs ls hl hW
  refine lv_iconst (v := 0) hx hb dX8_addsAll_187 (by decide) ?_
  refine lv_istore_n (lv' := [(2, .int 0), (0, .ref h_), (1, .int e_12.2)]) hx hb dX8_addsAll_188 rfl hl (by decide) rfl (fun ls hl => ?_)
  have hB189 : ∀ (n : Nat) (s_g_189 : Nat → Int32) (s_spare_189 : Nat → Int32) (z2_189 : Int32) (ex : (Nat → Int32) × (Nat → Int32)) (H : Heap) (locs : List Loc) (ls : Array Slot), LPF (fun z => f_X8_addsAll_B189 s_tolds z.1 s_told z.2.1 e_12.2 z.2.2) n (s_g_189, s_spare_189, z2_189) = some ex → lv_has ls 4 [(0, .ref h_), (1, .int e_12.2), (2, .int z2_189)] → WD D A s (w_X8_addsAll E h_ h_g h_kept h_past h_path h_pose h_way h_px h_py h_free h_tips h_far h_queue h_times h_turns h_names h_named h_text h_told h_spare s_hasKept s_pasts s_pathMoves s_spot s_thrown s_faulty s_queued s_length s_at s_error s_tolds s_number s_g_189 s_told s_spare_189) H locs → (∀ (H : Heap) (locs : List Loc) (ls : Array Slot), lv_has ls 4 [(1, .int e_12.2)] → WD D A s (w_X8_addsAll E h_ h_g h_kept h_past h_path h_pose h_way h_px h_py h_free h_tips h_far h_queue h_times h_turns h_names h_named h_text h_told h_spare s_hasKept s_pasts s_pathMoves s_spot s_thrown s_faulty s_queued s_length s_at s_error s_tolds s_number ex.1 s_told ex.2) H locs → W p l e (RM 3 65) s m args below meth c H locs 0 0 Q (F0 m 228 ls [])) → W p l e (RM 3 65) s m args below meth c H locs 0 0 Q (F0 m 189 ls []) := by
    intro n
    induction n with
    | zero => intro s_g_189 s_spare_189 z2_189 ex H locs ls h9; exact (ob_lp0 h9).elim
    | succ n ih =>
      intro s_g_189 s_spare_189 z2_189 ex H locs ls h9 hl hW kx0
      obtain ⟨q9, hf, h9, k9⟩ := ob_lp h9
      have hf : f_X8_addsAll_B189 s_tolds s_g_189 s_told s_spare_189 e_12.2 z2_189 = some q9 := hf
      unfold f_X8_addsAll_B189 at hf
      refine lv_iload_n hx hb dX8_addsAll_189 rfl (lv_at hl 2 rfl) ?_
      refine lv_sipush (v := 141) hx hb dX8_addsAll_190 (by decide) ?_
      refine q_icmp_ge (tgt := 228) hx hb dX8_addsAll_193 (by decide) hf (fun hf => ?_) (fun hf => ?_)
      · cases hf
        have hx9 := k9 _ rfl
        subst hx9
        exact kx0 _ _ _ (lv_sub hl [1] rfl) hW
      · refine lv_aload_n hx hb dX8_addsAll_196 rfl (lv_at hl 0 rfl) ?_
        refine q_get hF hK hW fl_X8_7 0 rfl rfl dX8_addsAll_197 ?_
        refine lv_iload_n hx hb dX8_addsAll_200 rfl (lv_at hl 2 rfl) ?_
        refine q_iald hx hb hK hW 1 0 rfl rfl dX8_addsAll_201 hf (fun hf => ?_)
        refine lv_topi (fun v_13 ev_13 => ?_)
        replace hf := ob_let hf ev_13
        refine lv_istore_n (lv' := [(3, .int v_13), (0, .ref h_), (1, .int e_12.2), (2, .int z2_189)]) hx hb dX8_addsAll_202 rfl hl (by decide) rfl (fun ls hl => ?_)
        refine lv_aload_n hx hb dX8_addsAll_203 rfl (lv_at hl 1 rfl) ?_
        refine q_get hF hK hW fl_X8_7 0 rfl rfl dX8_addsAll_204 ?_
        refine lv_iload_n hx hb dX8_addsAll_207 rfl (lv_at hl 3 rfl) ?_
        refine lv_aload_n hx hb dX8_addsAll_208 rfl (lv_at hl 1 rfl) ?_
        refine q_get hF hK hW fl_X8_73 0 rfl rfl dX8_addsAll_209 ?_
        refine lv_iload_n hx hb dX8_addsAll_212 rfl (lv_at hl 3 rfl) ?_
        refine q_iald hx hb hK hW 3 0 rfl rfl dX8_addsAll_213 hf (fun hf => ?_)
        refine q_iast hx hb hK hW 1 0 rfl rfl dX8_addsAll_214 hf (fun a_14 hf H locs hW => ?_)
        have hW : WD D A s (w_X8_addsAll E h_ h_g h_kept h_past h_path h_pose h_way h_px h_py h_free h_tips h_far h_queue h_times h_turns h_names h_named h_text h_told h_spare s_hasKept s_pasts s_pathMoves s_spot s_thrown s_faulty s_queued s_length s_at s_error s_tolds s_number a_14 s_told s_spare_189) H locs := hW
        refine lv_aload_n hx hb dX8_addsAll_215 rfl (lv_at hl 1 rfl) ?_
        refine q_get hF hK hW fl_X8_73 0 rfl rfl dX8_addsAll_216 ?_
        refine lv_iload_n hx hb dX8_addsAll_219 rfl (lv_at hl 3 rfl) ?_
        refine lv_iload_n hx hb dX8_addsAll_220 rfl (lv_at hl 0 rfl) ?_
        refine q_iast hx hb hK hW 3 0 rfl rfl dX8_addsAll_221 hf (fun a_15 hf H locs hW => ?_)
        have hW : WD D A s (w_X8_addsAll E h_ h_g h_kept h_past h_path h_pose h_way h_px h_py h_free h_tips h_far h_queue h_times h_turns h_names h_named h_text h_told h_spare s_hasKept s_pasts s_pathMoves s_spot s_thrown s_faulty s_queued s_length s_at s_error s_tolds s_number a_14 s_told a_15) H locs := hW
        obtain ⟨v_16, ev_16⟩ : ∃ y : Int32, y = z2_189 + 1 := ⟨_, rfl⟩
        replace hf := ob_let hf ev_16
        refine lv_iinc (v := v_16) (lv' := [(2, .int v_16), (3, .int v_13), (0, .ref h_), (1, .int e_12.2)]) hx hb dX8_addsAll_222 hl (k := 3) rfl (by rw [ev_16]; rfl) (by decide) rfl (fun ls hl => ?_)
        refine lv_goto (tgt := 189) hx hb dX8_addsAll_225 (by decide) ?_
        cases hf
        exact ih a_14 a_15 v_16 ex _ _ _ (h9 _ rfl) (lv_sub hl [2, 3, 0] rfl) hW kx0
  obtain ⟨e_17, hc_17, hf⟩ := ob_bind hf
  refine hB189 lfuel e_12.1 e_3 0 e_17 _ _ _ hc_17 (lv_sub hl [1, 2, 0] rfl) hW ?_
  intro H locs ls hl hW
  refine lv_iload_n hx hb dX8_addsAll_228 rfl (lv_at hl 0 rfl) ?_
  have hz := nar_b (ob_gb hf).1
  replace hf := (ob_gb hf).2
  cases hf
  exact hret dX8_addsAll_229 hz.1 rfl hW
def w_X8_read (E : Nat → ClassId) (h_ h_g h_kept h_past h_path h_pose h_way h_px h_py h_free h_tips h_far h_queue h_times h_turns h_names h_named h_text h_told h_spare : Nat) (s_hasKept : Int32) (s_pasts : Int32) (s_pathMoves : Int32) (s_spot : Int32) (s_thrown : Int32) (s_faulty : Int32) (s_queued : Int32) (s_length : Int32) (s_at : Int32) (s_error : Int32) (s_tolds : Int32) (s_number : Int32) (s_g : Nat → Int32) (s_past : Nat → Int32) (s_text : Nat → Int32) (s_told : Nat → Int32) (s_spare : Nat → Int32) : va_W := [(h_, .inr (10, [.ref h_g, .ref h_kept, .int s_hasKept, .ref h_past, .int s_pasts, .ref h_path, .int s_pathMoves, .int s_spot, .int s_thrown, .ref h_pose, .ref h_way, .ref h_px, .ref h_py, .int s_faulty, .ref h_free, .ref h_tips, .ref h_far, .ref h_queue, .int s_queued, .ref h_times, .ref h_turns, .ref h_names, .ref h_named, .ref h_text, .int s_length, .int s_at, .int s_error, .ref h_told, .int s_tolds, .int s_number, .ref h_spare])), (h_g, .inl (E 0, 141, .inl s_g)), (h_past, .inl (E 0, 1128, .inl s_past)), (h_text, .inl (E 0, 60, .inl s_text)), (h_told, .inl (E 0, 60, .inl s_told)), (h_spare, .inl (E 0, 141, .inl s_spare))]
set_option maxHeartbeats 4000000 in
set_option maxRecDepth 100000 in
theorem c_X8_read (l : Launch) (D : va_G) (E : Nat → ClassId) (tx : List (Nat × String)) (h_ h_g h_kept h_past h_path h_pose h_way h_px h_py h_free h_tips h_far h_queue h_times h_turns h_names h_named h_text h_told h_spare : Nat) (s_hasKept : Int32) (s_pasts : Int32) (s_pathMoves : Int32) (s_spot : Int32) (s_thrown : Int32) (s_faulty : Int32) (s_queued : Int32) (s_length : Int32) (s_at : Int32) (s_error : Int32) (s_tolds : Int32) (s_number : Int32) (s_g : Nat → Int32) (s_past : Nat → Int32) (s_text : Nat → Int32) (s_told : Nat → Int32) (s_spare : Nat → Int32)  (r0 : Int32) (r1 : Int32) (r2 : Int32) (r3 : Int32) (r4 : Int32) (r5 : Int32) (r6 : Int32) (r7 : Int32) (r8 : Int32) (r9 : Nat → Int32) (r10 : Nat → Int32) (r11 : Nat → Int32) (r12 : Nat → Int32) (hf : f_X8_read s_pasts s_pathMoves s_thrown s_length s_at s_error s_tolds s_number s_g s_past s_text s_told s_spare = some (r0, r1, r2, r3, r4, r5, r6, r7, r8, r9, r10, r11, r12)) : CI l yX8_read cX8_read 3 (some .int) 5 105 D E tx [.ref h_] (w_X8_read E h_ h_g h_kept h_past h_path h_pose h_way h_px h_py h_free h_tips h_far h_queue h_times h_turns h_names h_named h_text h_told h_spare s_hasKept s_pasts s_pathMoves s_spot s_thrown s_faulty s_queued s_length s_at s_error s_tolds s_number s_g s_past s_text s_told s_spare) (w_X8_read E h_ h_g h_kept h_past h_path h_pose h_way h_px h_py h_free h_tips h_far h_queue h_times h_turns h_names h_named h_text h_told h_spare s_hasKept r1 r2 s_spot r3 s_faulty s_queued r4 r5 r6 r7 r8 r9 r10 s_text r11 r12) r0 := by
  refine CI_of RX8 pn_X8 rfl (Nat.le_of_ble_eq_true rfl) (fun p e s m args below meth c A Q hF hK hA hZ hW hret ls hl => ?_)
  have hx := hF.1
  have hb := hF.2.1
  have hl : lv_has ls 3 [(0, .ref h_)] := hl
  unfold f_X8_read at hf
  refine lv_aload_n hx hb dX8_read_0 rfl (lv_at hl 0 rfl) ?_
  refine lv_iconst (v := 0) hx hb dX8_read_1 (by decide) ?_
  refine q_put hF hK hW fl_X8_76 ft_X8 rfl 0 rfl rfl rfl (Nat.le_of_ble_eq_true rfl) dX8_read_2 (fun H locs hW => ?_)
  have hW : WD D A s (w_X8_read E h_ h_g h_kept h_past h_path h_pose h_way h_px h_py h_free h_tips h_far h_queue h_times h_turns h_names h_named h_text h_told h_spare s_hasKept s_pasts s_pathMoves s_spot 0 s_faulty s_queued s_length s_at s_error s_tolds s_number s_g s_past s_text s_told s_spare) H locs := hW
  refine lv_aload_n hx hb dX8_read_5 rfl (lv_at hl 0 rfl) ?_
  obtain ⟨o_1, hc_1, hf⟩ := ob_bind hf
  refine q_callI hF hl.1 hK hA hZ hW mv_X8_isText ml_X8_315 (c_X8_isText l D E tx h_ h_g h_kept h_past h_path h_pose h_way h_px h_py h_free h_tips h_far h_queue h_times h_turns h_names h_named h_text h_told h_spare s_hasKept s_pasts s_pathMoves s_spot 0 s_faulty s_queued s_length s_at s_error s_tolds s_number s_text s_told o_1.1 o_1.2.1 o_1.2.2.1 o_1.2.2.2.1 o_1.2.2.2.2 hc_1) [0, 3, 4] rfl rfl rfl rfl rfl rfl ⟨Nat.le_of_ble_eq_true rfl, Nat.le_of_ble_eq_true rfl⟩ ⟨Nat.le_of_ble_eq_true rfl, Nat.le_of_ble_eq_true rfl⟩ rfl rfl (Nat.le_of_ble_eq_true rfl) dX8_read_6 (fun H locs hW => ?_)
  have hW : WD D A s (w_X8_read E h_ h_g h_kept h_past h_path h_pose h_way h_px h_py h_free h_tips h_far h_queue h_times h_turns h_names h_named h_text h_told h_spare s_hasKept s_pasts s_pathMoves s_spot 0 s_faulty s_queued s_length o_1.2.1 s_error o_1.2.2.1 o_1.2.2.2.1 s_g s_past s_text o_1.2.2.2.2 s_spare) H locs := hW
  refine lv_istore_n (lv' := [(1, .int o_1.1), (0, .ref h_)]) hx hb dX8_read_9 rfl hl (by decide) rfl (fun ls hl => ?_)
  refine lv_aload_n hx hb dX8_read_10 rfl (lv_at hl 1 rfl) ?_
  refine lv_iconst (v := 0) hx hb dX8_read_11 (by decide) ?_
  refine q_put hF hK hW fl_X8_285 ft_X8 rfl 0 rfl rfl rfl (Nat.le_of_ble_eq_true rfl) dX8_read_12 (fun H locs hW => ?_)
  have hW : WD D A s (w_X8_read E h_ h_g h_kept h_past h_path h_pose h_way h_px h_py h_free h_tips h_far h_queue h_times h_turns h_names h_named h_text h_told h_spare s_hasKept s_pasts s_pathMoves s_spot 0 s_faulty s_queued 0 o_1.2.1 s_error o_1.2.2.1 o_1.2.2.2.1 s_g s_past s_text o_1.2.2.2.2 s_spare) H locs := hW
  refine lv_iload_n hx hb dX8_read_15 rfl (lv_at hl 0 rfl) ?_
  refine q_if_ne (tgt := 33) hx hb dX8_read_16 (by decide) hf (fun hf => ?_) (fun hf => ?_)
  · refine lv_aload_n hx hb dX8_read_33 rfl (lv_at hl 1 rfl) ?_
    obtain ⟨o_2, hc_2, hf⟩ := ob_bind hf
    refine q_callI hF hl.1 hK hA hZ hW mv_X8_addsAll ml_X8_318 (c_X8_addsAll l D E tx h_ h_g h_kept h_past h_path h_pose h_way h_px h_py h_free h_tips h_far h_queue h_times h_turns h_names h_named h_text h_told h_spare s_hasKept s_pasts s_pathMoves s_spot 0 s_faulty s_queued 0 o_1.2.1 s_error o_1.2.2.1 o_1.2.2.2.1 s_g o_1.2.2.2.2 s_spare o_2.1 o_2.2.1 o_2.2.2 hc_2) [0, 1, 4, 5] rfl rfl rfl rfl rfl rfl ⟨Nat.le_of_ble_eq_true rfl, Nat.le_of_ble_eq_true rfl⟩ ⟨Nat.le_of_ble_eq_true rfl, Nat.le_of_ble_eq_true rfl⟩ rfl rfl (Nat.le_of_ble_eq_true rfl) dX8_read_34 (fun H locs hW => ?_)
    have hW : WD D A s (w_X8_read E h_ h_g h_kept h_past h_path h_pose h_way h_px h_py h_free h_tips h_far h_queue h_times h_turns h_names h_named h_text h_told h_spare s_hasKept s_pasts s_pathMoves s_spot 0 s_faulty s_queued 0 o_1.2.1 s_error o_1.2.2.1 o_1.2.2.2.1 o_2.2.1 s_past s_text o_1.2.2.2.2 o_2.2.2) H locs := hW
    refine q_if_ne (tgt := 46) hx hb dX8_read_37 (by decide) hf (fun hf => ?_) (fun hf => ?_)
    · refine lv_aload_n hx hb dX8_read_46 rfl (lv_at hl 1 rfl) ?_
      obtain ⟨o_3, hc_3, hf⟩ := ob_bind hf
      refine q_callV hF hl.1 hK hA hZ hW mv_X8_changes ml_X8_98 (c_X8_changes l D E tx h_ h_g h_kept h_past h_path h_pose h_way h_px h_py h_free h_tips h_far h_queue h_times h_turns h_names h_named h_text h_told h_spare s_hasKept s_pasts s_pathMoves s_spot 0 s_faulty s_queued 0 o_1.2.1 s_error o_1.2.2.1 o_1.2.2.2.1 o_2.2.1 s_past o_3.1 o_3.2.1 o_3.2.2 hc_3) [0, 1, 2] rfl rfl rfl rfl rfl rfl ⟨Nat.le_of_ble_eq_true rfl, Nat.le_of_ble_eq_true rfl⟩ ⟨Nat.le_of_ble_eq_true rfl, Nat.le_of_ble_eq_true rfl⟩ rfl rfl (Nat.le_of_ble_eq_true rfl) dX8_read_47 (fun H locs hW => ?_)
      have hW : WD D A s (w_X8_read E h_ h_g h_kept h_past h_path h_pose h_way h_px h_py h_free h_tips h_far h_queue h_times h_turns h_names h_named h_text h_told h_spare s_hasKept o_3.1 o_3.2.1 s_spot 0 s_faulty s_queued 0 o_1.2.1 s_error o_1.2.2.1 o_1.2.2.2.1 o_2.2.1 o_3.2.2 s_text o_1.2.2.2.2 o_2.2.2) H locs := hW
      refine lv_iconst (v := 0) hx hb dX8_read_50 (by decide) ?_
      refine lv_istore_n (lv' := [(2, .int 0), (1, .int o_1.1), (0, .ref h_)]) hx hb dX8_read_51 rfl hl (by decide) rfl (fun ls hl => ?_)
      have hB52 : ∀ (n : Nat) (s_g_52 : Nat → Int32) (z2_52 : Int32) (ex : (Nat → Int32)) (H : Heap) (locs : List Loc) (ls : Array Slot), LPF (fun z => f_X8_read_B52 o_3.1 o_3.2.1 0 0 o_1.2.1 s_error o_1.2.2.1 o_1.2.2.2.1 z.1 o_3.2.2 s_text o_1.2.2.2.2 o_2.2.2 z.2) n (s_g_52, z2_52) = some ex → lv_has ls 3 [(0, .ref h_), (2, .int z2_52)] → WD D A s (w_X8_read E h_ h_g h_kept h_past h_path h_pose h_way h_px h_py h_free h_tips h_far h_queue h_times h_turns h_names h_named h_text h_told h_spare s_hasKept o_3.1 o_3.2.1 s_spot 0 s_faulty s_queued 0 o_1.2.1 s_error o_1.2.2.1 o_1.2.2.2.1 s_g_52 o_3.2.2 s_text o_1.2.2.2.2 o_2.2.2) H locs → (∀ (H : Heap) (locs : List Loc) (ls : Array Slot), lv_has ls 3 [(0, .ref h_)] → WD D A s (w_X8_read E h_ h_g h_kept h_past h_path h_pose h_way h_px h_py h_free h_tips h_far h_queue h_times h_turns h_names h_named h_text h_told h_spare s_hasKept o_3.1 o_3.2.1 s_spot 0 s_faulty s_queued 0 o_1.2.1 s_error o_1.2.2.1 o_1.2.2.2.1 ex o_3.2.2 s_text o_1.2.2.2.2 o_2.2.2) H locs → W p l e (RM 5 105) s m args below meth c H locs 0 0 Q (F0 m 77 ls [])) → W p l e (RM 5 105) s m args below meth c H locs 0 0 Q (F0 m 52 ls []) := by
        intro n
        induction n with
        | zero => intro s_g_52 z2_52 ex H locs ls h9; exact (ob_lp0 h9).elim
        | succ n ih =>
          intro s_g_52 z2_52 ex H locs ls h9 hl hW kx0
          obtain ⟨q9, hf, h9, k9⟩ := ob_lp h9
          have hf : f_X8_read_B52 o_3.1 o_3.2.1 0 0 o_1.2.1 s_error o_1.2.2.1 o_1.2.2.2.1 s_g_52 o_3.2.2 s_text o_1.2.2.2.2 o_2.2.2 z2_52 = some q9 := hf
          unfold f_X8_read_B52 at hf
          refine lv_iload_n hx hb dX8_read_52 rfl (lv_at hl 1 rfl) ?_
          refine lv_sipush (v := 141) hx hb dX8_read_53 (by decide) ?_
          refine q_icmp_ge (tgt := 77) hx hb dX8_read_56 (by decide) hf (fun hf => ?_) (fun hf => ?_)
          · cases hf
            have hx9 := k9 _ rfl
            subst hx9
            exact kx0 _ _ _ (lv_sub hl [0] rfl) hW
          · refine lv_aload_n hx hb dX8_read_59 rfl (lv_at hl 0 rfl) ?_
            refine q_get hF hK hW fl_X8_7 0 rfl rfl dX8_read_60 ?_
            refine lv_iload_n hx hb dX8_read_63 rfl (lv_at hl 1 rfl) ?_
            refine lv_aload_n hx hb dX8_read_64 rfl (lv_at hl 0 rfl) ?_
            refine q_get hF hK hW fl_X8_73 0 rfl rfl dX8_read_65 ?_
            refine lv_iload_n hx hb dX8_read_68 rfl (lv_at hl 1 rfl) ?_
            refine q_iald hx hb hK hW 5 0 rfl rfl dX8_read_69 hf (fun hf => ?_)
            refine q_iast hx hb hK hW 1 0 rfl rfl dX8_read_70 hf (fun a_4 hf H locs hW => ?_)
            have hW : WD D A s (w_X8_read E h_ h_g h_kept h_past h_path h_pose h_way h_px h_py h_free h_tips h_far h_queue h_times h_turns h_names h_named h_text h_told h_spare s_hasKept o_3.1 o_3.2.1 s_spot 0 s_faulty s_queued 0 o_1.2.1 s_error o_1.2.2.1 o_1.2.2.2.1 a_4 o_3.2.2 s_text o_1.2.2.2.2 o_2.2.2) H locs := hW
            obtain ⟨v_5, ev_5⟩ : ∃ y : Int32, y = z2_52 + 1 := ⟨_, rfl⟩
            replace hf := ob_let hf ev_5
            refine lv_iinc (v := v_5) (lv' := [(2, .int v_5), (0, .ref h_)]) hx hb dX8_read_71 hl (k := 1) rfl (by rw [ev_5]; rfl) (by decide) rfl (fun ls hl => ?_)
            refine lv_goto (tgt := 52) hx hb dX8_read_74 (by decide) ?_
            cases hf
            exact ih a_4 v_5 ex _ _ _ (h9 _ rfl) (lv_sub hl [1, 0] rfl) hW kx0
      obtain ⟨e_6, hc_6, hf⟩ := ob_bind hf
      refine hB52 lfuel o_2.2.1 0 e_6 _ _ _ hc_6 (lv_sub hl [2, 0] rfl) hW ?_
      intro H locs ls hl hW
      refine lv_aload_n hx hb dX8_read_77 rfl (lv_at hl 0 rfl) ?_
      refine q_get hF hK hW fl_X8_300 0 rfl rfl dX8_read_78 ?_
      cases hf
      exact hret dX8_read_81 rfl rfl hW
    · refine lv_aload_n hx hb dX8_read_40 rfl (lv_at hl 1 rfl) ?_
      refine lv_iconst (v := 2) hx hb dX8_read_41 (by decide) ?_
      obtain ⟨o_7, hc_7, hf⟩ := ob_bind hf
      refine q_callI hF hl.1 hK hA hZ hW mv_X8_fails ml_X8_86 (c_X8_fails l D E tx h_ h_g h_kept h_past h_path h_pose h_way h_px h_py h_free h_tips h_far h_queue h_times h_turns h_names h_named h_text h_told h_spare s_hasKept s_pasts s_pathMoves s_spot 0 s_faulty s_queued 0 o_1.2.1 s_error o_1.2.2.1 o_1.2.2.2.1 2 o_7.1 o_7.2 hc_7) [0] rfl rfl rfl rfl rfl rfl ⟨Nat.le_of_ble_eq_true rfl, Nat.le_of_ble_eq_true rfl⟩ ⟨Nat.le_of_ble_eq_true rfl, Nat.le_of_ble_eq_true rfl⟩ rfl rfl (Nat.le_of_ble_eq_true rfl) dX8_read_42 (fun H locs hW => ?_)
      have hW : WD D A s (w_X8_read E h_ h_g h_kept h_past h_path h_pose h_way h_px h_py h_free h_tips h_far h_queue h_times h_turns h_names h_named h_text h_told h_spare s_hasKept s_pasts s_pathMoves s_spot o_7.2 s_faulty s_queued 0 o_1.2.1 s_error o_1.2.2.1 o_1.2.2.2.1 o_2.2.1 s_past s_text o_1.2.2.2.2 o_2.2.2) H locs := hW
      cases hf
      exact hret dX8_read_45 rfl rfl hW
  · refine lv_aload_n hx hb dX8_read_19 rfl (lv_at hl 1 rfl) ?_
    refine lv_aload_n hx hb dX8_read_20 rfl (lv_at hl 1 rfl) ?_
    refine q_get hF hK hW fl_X8_288 0 rfl rfl dX8_read_21 ?_
    refine q_put hF hK hW fl_X8_67 ft_X8 rfl 0 rfl rfl rfl (Nat.le_of_ble_eq_true rfl) dX8_read_24 (fun H locs hW => ?_)
    have hW : WD D A s (w_X8_read E h_ h_g h_kept h_past h_path h_pose h_way h_px h_py h_free h_tips h_far h_queue h_times h_turns h_names h_named h_text h_told h_spare s_hasKept s_pasts s_pathMoves s_spot 0 s_faulty s_queued 0 o_1.2.1 o_1.2.1 o_1.2.2.1 o_1.2.2.2.1 s_g s_past s_text o_1.2.2.2.2 s_spare) H locs := hW
    refine lv_aload_n hx hb dX8_read_27 rfl (lv_at hl 1 rfl) ?_
    refine lv_iconst (v := 1) hx hb dX8_read_28 (by decide) ?_
    obtain ⟨o_8, hc_8, hf⟩ := ob_bind hf
    refine q_callI hF hl.1 hK hA hZ hW mv_X8_fails ml_X8_86 (c_X8_fails l D E tx h_ h_g h_kept h_past h_path h_pose h_way h_px h_py h_free h_tips h_far h_queue h_times h_turns h_names h_named h_text h_told h_spare s_hasKept s_pasts s_pathMoves s_spot 0 s_faulty s_queued 0 o_1.2.1 o_1.2.1 o_1.2.2.1 o_1.2.2.2.1 1 o_8.1 o_8.2 hc_8) [0] rfl rfl rfl rfl rfl rfl ⟨Nat.le_of_ble_eq_true rfl, Nat.le_of_ble_eq_true rfl⟩ ⟨Nat.le_of_ble_eq_true rfl, Nat.le_of_ble_eq_true rfl⟩ rfl rfl (Nat.le_of_ble_eq_true rfl) dX8_read_29 (fun H locs hW => ?_)
    have hW : WD D A s (w_X8_read E h_ h_g h_kept h_past h_path h_pose h_way h_px h_py h_free h_tips h_far h_queue h_times h_turns h_names h_named h_text h_told h_spare s_hasKept s_pasts s_pathMoves s_spot o_8.2 s_faulty s_queued 0 o_1.2.1 o_1.2.1 o_1.2.2.1 o_1.2.2.2.1 s_g s_past s_text o_1.2.2.2.2 s_spare) H locs := hW
    cases hf
    exact hret dX8_read_32 rfl rfl hW
def w_X8_errorPosition (E : Nat → ClassId) (h_ h_g h_kept h_past h_path h_pose h_way h_px h_py h_free h_tips h_far h_queue h_times h_turns h_names h_named h_text h_told h_spare : Nat) (s_hasKept : Int32) (s_pasts : Int32) (s_pathMoves : Int32) (s_spot : Int32) (s_thrown : Int32) (s_faulty : Int32) (s_queued : Int32) (s_length : Int32) (s_at : Int32) (s_error : Int32) (s_tolds : Int32) (s_number : Int32) : va_W := [(h_, .inr (10, [.ref h_g, .ref h_kept, .int s_hasKept, .ref h_past, .int s_pasts, .ref h_path, .int s_pathMoves, .int s_spot, .int s_thrown, .ref h_pose, .ref h_way, .ref h_px, .ref h_py, .int s_faulty, .ref h_free, .ref h_tips, .ref h_far, .ref h_queue, .int s_queued, .ref h_times, .ref h_turns, .ref h_names, .ref h_named, .ref h_text, .int s_length, .int s_at, .int s_error, .ref h_told, .int s_tolds, .int s_number, .ref h_spare]))]
set_option maxHeartbeats 4000000 in
set_option maxRecDepth 100000 in
theorem c_X8_errorPosition (l : Launch) (D : va_G) (E : Nat → ClassId) (tx : List (Nat × String)) (h_ h_g h_kept h_past h_path h_pose h_way h_px h_py h_free h_tips h_far h_queue h_times h_turns h_names h_named h_text h_told h_spare : Nat) (s_hasKept : Int32) (s_pasts : Int32) (s_pathMoves : Int32) (s_spot : Int32) (s_thrown : Int32) (s_faulty : Int32) (s_queued : Int32) (s_length : Int32) (s_at : Int32) (s_error : Int32) (s_tolds : Int32) (s_number : Int32)  (r0 : Int32) (r1 : Int32) (hf : f_X8_errorPosition s_thrown s_error = some (r0, r1)) : CI l yX8_errorPosition cX8_errorPosition 1 (some .int) 0 0 D E tx [.ref h_] (w_X8_errorPosition E h_ h_g h_kept h_past h_path h_pose h_way h_px h_py h_free h_tips h_far h_queue h_times h_turns h_names h_named h_text h_told h_spare s_hasKept s_pasts s_pathMoves s_spot s_thrown s_faulty s_queued s_length s_at s_error s_tolds s_number) (w_X8_errorPosition E h_ h_g h_kept h_past h_path h_pose h_way h_px h_py h_free h_tips h_far h_queue h_times h_turns h_names h_named h_text h_told h_spare s_hasKept s_pasts s_pathMoves s_spot r1 s_faulty s_queued s_length s_at s_error s_tolds s_number) r0 := by
  refine CI_of RX8 pn_X8 rfl (Nat.le_of_ble_eq_true rfl) (fun p e s m args below meth c A Q hF hK hA hZ hW hret ls hl => ?_)
  have hx := hF.1
  have hb := hF.2.1
  have hl : lv_has ls 1 [(0, .ref h_)] := hl
  unfold f_X8_errorPosition at hf
  have hL13 : ∀ (s_thrown_13 : Int32) (k1_13 : Int32) (H : Heap) (locs : List Loc) (ls : Array Slot), f_X8_errorPosition_L13 s_thrown_13 s_error k1_13 = some (r0, r1) → lv_has ls 1 [(0, .ref h_)] → WD D A s (w_X8_errorPosition E h_ h_g h_kept h_past h_path h_pose h_way h_px h_py h_free h_tips h_far h_queue h_times h_turns h_names h_named h_text h_told h_spare s_hasKept s_pasts s_pathMoves s_spot s_thrown_13 s_faulty s_queued s_length s_at s_error s_tolds s_number) H locs → W p l e (RM 0 0) s m args below meth c H locs 0 0 Q (F0 m 13 ls [.int k1_13, .ref h_]) := by
    intro s_thrown_13 k1_13 H locs ls hf hl hW
    unfold f_X8_errorPosition_L13 at hf
    refine q_put hF hK hW fl_X8_76 ft_X8 rfl 0 rfl rfl rfl (Nat.le_of_ble_eq_true rfl) dX8_errorPosition_13 (fun H locs hW => ?_)
    have hW : WD D A s (w_X8_errorPosition E h_ h_g h_kept h_past h_path h_pose h_way h_px h_py h_free h_tips h_far h_queue h_times h_turns h_names h_named h_text h_told h_spare s_hasKept s_pasts s_pathMoves s_spot k1_13 s_faulty s_queued s_length s_at s_error s_tolds s_number) H locs := hW
    refine lv_aload_n hx hb dX8_errorPosition_16 rfl (lv_at hl 0 rfl) ?_
    refine q_get hF hK hW fl_X8_76 0 rfl rfl dX8_errorPosition_17 ?_
    refine q_if_le (tgt := 27) hx hb dX8_errorPosition_20 (by decide) hf (fun hf => ?_) (fun hf => ?_)
    · refine lv_aload_n hx hb dX8_errorPosition_27 rfl (lv_at hl 0 rfl) ?_
      refine q_get hF hK hW fl_X8_67 0 rfl rfl dX8_errorPosition_28 ?_
      cases hf
      exact hret dX8_errorPosition_31 rfl rfl hW
    · refine lv_iconst (v := 0) hx hb dX8_errorPosition_23 (by decide) ?_
      refine lv_goto (tgt := 31) hx hb dX8_errorPosition_24 (by decide) ?_
      cases hf
      exact hret dX8_errorPosition_31 rfl rfl hW
  refine lv_aload_n hx hb dX8_errorPosition_0 rfl (lv_at hl 0 rfl) ?_
  refine lv_aload_n hx hb dX8_errorPosition_1 rfl (lv_at hl 0 rfl) ?_
  refine q_get hF hK hW fl_X8_67 0 rfl rfl dX8_errorPosition_2 ?_
  refine q_if_ge (tgt := 12) hx hb dX8_errorPosition_5 (by decide) hf (fun hf => ?_) (fun hf => ?_)
  · refine lv_iconst (v := 0) hx hb dX8_errorPosition_12 (by decide) ?_
    exact hL13 s_thrown 0 _ _ _ hf (lv_sub hl [0] rfl) hW
  · refine lv_iconst (v := 1) hx hb dX8_errorPosition_8 (by decide) ?_
    refine lv_goto (tgt := 13) hx hb dX8_errorPosition_9 (by decide) ?_
    exact hL13 s_thrown 1 _ _ _ hf (lv_sub hl [0] rfl) hW
