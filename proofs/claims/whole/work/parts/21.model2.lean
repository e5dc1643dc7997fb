def w_X8_weight (E : Nat → ClassId) (h_ h_g h_kept h_past h_path h_pose h_way h_px h_py h_free h_tips h_far h_queue h_times h_turns h_names h_named h_text h_told h_spare : Nat) (s_hasKept : Int32) (s_pasts : Int32) (s_pathMoves : Int32) (s_spot : Int32) (s_thrown : Int32) (s_faulty : Int32) (s_queued : Int32) (s_length : Int32) (s_at : Int32) (s_error : Int32) (s_tolds : Int32) (s_number : Int32) (s_g : Nat → Int32) : va_W := [(h_, .inr (10, [.ref h_g, .ref h_kept, .int s_hasKept, .ref h_past, .int s_pasts, .ref h_path, .int s_pathMoves, .int s_spot, .int s_thrown, .ref h_pose, .ref h_way, .ref h_px, .ref h_py, .int s_faulty, .ref h_free, .ref h_tips, .ref h_far, .ref h_queue, .int s_queued, .ref h_times, .ref h_turns, .ref h_names, .ref h_named, .ref h_text, .int s_length, .int s_at, .int s_error, .ref h_told, .int s_tolds, .int s_number, .ref h_spare])), (h_g, .inl (E 0, 141, .inl s_g))]
set_option maxHeartbeats 4000000 in
set_option maxRecDepth 100000 in
theorem c_X8_weight (l : Launch) (D : va_G) (E : Nat → ClassId) (tx : List (Nat × String)) (h_ h_g h_kept h_past h_path h_pose h_way h_px h_py h_free h_tips h_far h_queue h_times h_turns h_names h_named h_text h_told h_spare : Nat) (s_hasKept : Int32) (s_pasts : Int32) (s_pathMoves : Int32) (s_spot : Int32) (s_thrown : Int32) (s_faulty : Int32) (s_queued : Int32) (s_length : Int32) (s_at : Int32) (s_error : Int32) (s_tolds : Int32) (s_number : Int32) (s_g : Nat → Int32) (x1 : Int32) (r0 : Int32) (hf : f_X8_weight s_g x1 = some r0) : CI l yX8_weight cX8_weight 4 (some .int) 2 42 D E tx [.ref h_, .int x1] (w_X8_weight E h_ h_g h_kept h_past h_path h_pose h_way h_px h_py h_free h_tips h_far h_queue h_times h_turns h_names h_named h_text h_told h_spare s_hasKept s_pasts s_pathMoves s_spot s_thrown s_faulty s_queued s_length s_at s_error s_tolds s_number s_g) (w_X8_weight E h_ h_g h_kept h_past h_path h_pose h_way h_px h_py h_free h_tips h_far h_queue h_times h_turns h_names h_named h_text h_told h_spare s_hasKept s_pasts s_pathMoves s_spot s_thrown s_faulty s_queued s_length s_at s_error s_tolds s_number s_g) r0 := by
  refine CI_of RX8 pn_X8 rfl (Nat.le_of_ble_eq_true rfl) (fun p e s m args below meth c A Q hF hK hA hZ hW hret ls hl => ?_)
  have hx := hF.1
  have hb := hF.2.1
  have hl : lv_has ls 4 [(0, .ref h_), (1, .int x1)] := hl
  unfold f_X8_weight at hf
  refine lv_iconst (v := 1) hx hb dX8_weight_0 (by decide) ?_
  refine lv_istore_n (lv' := [(2, .int 1), (0, .ref h_), (1, .int x1)]) hx hb dX8_weight_1 rfl hl (by decide) rfl (fun ls hl => ?_)
  refine lv_iload_n hx hb dX8_weight_2 rfl (lv_at hl 2 rfl) ?_
  refine lv_iconst (v := 1) hx hb dX8_weight_3 (by decide) ?_
  refine lv_iadd hx hb dX8_weight_4 ?_
  refine lv_topi (fun v_1 ev_1 => ?_)
  replace hf := ob_let hf ev_1
  refine lv_istore_n (lv' := [(3, .int v_1), (2, .int 1), (0, .ref h_), (1, .int x1)]) hx hb dX8_weight_5 rfl hl (by decide) rfl (fun ls hl => ?_)
  have hB6 : ∀ (n : Nat) (z2_6 : Int32) (z3_6 : Int32) (ex : Int32) (H : Heap) (locs : List Loc) (ls : Array Slot), LPF (fun z => f_X8_weight_B6 s_g z.1 z.2) n (z2_6, z3_6) = some ex → lv_has ls 4 [(0, .ref h_), (2, .int z2_6), (3, .int z3_6)] → WD D A s (w_X8_weight E h_ h_g h_kept h_past h_path h_pose h_way h_px h_py h_free h_tips h_far h_queue h_times h_turns h_names h_named h_text h_told h_spare s_hasKept s_pasts s_pathMoves s_spot s_thrown s_faulty s_queued s_length s_at s_error s_tolds s_number s_g) H locs → (∀ (H : Heap) (locs : List Loc) (ls : Array Slot), lv_has ls 4 [(2, .int ex)] → WD D A s (w_X8_weight E h_ h_g h_kept h_past h_path h_pose h_way h_px h_py h_free h_tips h_far h_queue h_times h_turns h_names h_named h_text h_told h_spare s_hasKept s_pasts s_pathMoves s_spot s_thrown s_faulty s_queued s_length s_at s_error s_tolds s_number s_g) H locs → W p l e (RM 2 42) s m args below meth c H locs 0 0 Q (F0 m 30 ls [])) → W p l e (RM 2 42) s m args below meth c H locs 0 0 Q (F0 m 6 ls []) := by
    intro n
    induction n with
    | zero => intro z2_6 z3_6 ex H locs ls h9; exact (ob_lp0 h9).elim
    | succ n ih =>
      intro z2_6 z3_6 ex H locs ls h9 hl hW kx0
      obtain ⟨q9, hf, h9, k9⟩ := ob_lp h9
      have hf : f_X8_weight_B6 s_g z2_6 z3_6 = some q9 := hf
      unfold f_X8_weight_B6 at hf
      refine lv_iload_n hx hb dX8_weight_6 rfl (lv_at hl 2 rfl) ?_
      refine lv_aload_n hx hb dX8_weight_7 rfl (lv_at hl 0 rfl) ?_
      refine q_get hF hK hW fl_X8_7 0 rfl rfl dX8_weight_8 ?_
      refine lv_iconst (v := 0) hx hb dX8_weight_11 (by decide) ?_
      refine q_iald hx hb hK hW 1 0 rfl rfl dX8_weight_12 hf (fun hf => ?_)
      refine q_icmp_ge (tgt := 30) hx hb dX8_weight_13 (by decide) hf (fun hf => ?_) (fun hf => ?_)
      · cases hf
        have hx9 := k9 _ rfl
        subst hx9
        exact kx0 _ _ _ (lv_sub hl [1] rfl) hW
      · refine lv_iload_n hx hb dX8_weight_16 rfl (lv_at hl 1 rfl) ?_
        refine lv_aload_n hx hb dX8_weight_17 rfl (lv_at hl 0 rfl) ?_
        refine lv_iload_n hx hb dX8_weight_18 rfl (lv_at hl 2 rfl) ?_
        obtain ⟨o_2, hc_2, hf⟩ := ob_bind hf
        refine q_callI hF hl.1 hK hA hZ hW mv_X8_values ml_X8_130 (c_X8_values l D E tx h_ h_g h_kept h_past h_path h_pose h_way h_px h_py h_free h_tips h_far h_queue h_times h_turns h_names h_named h_text h_told h_spare s_hasKept s_pasts s_pathMoves s_spot s_thrown s_faulty s_queued s_length s_at s_error s_tolds s_number s_g z3_6 o_2 hc_2) [0, 1] rfl rfl rfl rfl rfl rfl ⟨Nat.le_of_ble_eq_true rfl, Nat.le_of_ble_eq_true rfl⟩ ⟨Nat.le_of_ble_eq_true rfl, Nat.le_of_ble_eq_true rfl⟩ rfl rfl (Nat.le_of_ble_eq_true rfl) dX8_weight_19 (fun H locs hW => ?_)
        have hW : WD D A s (w_X8_weight E h_ h_g h_kept h_past h_path h_pose h_way h_px h_py h_free h_tips h_far h_queue h_times h_turns h_names h_named h_text h_told h_spare s_hasKept s_pasts s_pathMoves s_spot s_thrown s_faulty s_queued s_length s_at s_error s_tolds s_number s_g) H locs := hW
        refine lv_imul hx hb dX8_weight_22 ?_
        refine lv_topi (fun v_3 ev_3 => ?_)
        replace hf := ob_let hf ev_3
        refine lv_istore_n (lv' := [(2, .int v_3), (0, .ref h_), (3, .int z3_6)]) hx hb dX8_weight_23 rfl hl (by decide) rfl (fun ls hl => ?_)
        obtain ⟨v_4, ev_4⟩ : ∃ y : Int32, y = z3_6 + 1 := ⟨_, rfl⟩
        replace hf := ob_let hf ev_4
        refine lv_iinc (v := v_4) (lv' := [(3, .int v_4), (2, .int v_3), (0, .ref h_)]) hx hb dX8_weight_24 hl (k := 2) rfl (by rw [ev_4]; rfl) (by decide) rfl (fun ls hl => ?_)
        refine lv_goto (tgt := 6) hx hb dX8_weight_27 (by decide) ?_
        cases hf
        exact ih v_3 v_4 ex _ _ _ (h9 _ rfl) (lv_sub hl [2, 1, 0] rfl) hW kx0
  obtain ⟨e_5, hc_5, hf⟩ := ob_bind hf
  refine hB6 lfuel 1 v_1 e_5 _ _ _ hc_5 (lv_sub hl [2, 1, 0] rfl) hW ?_
  intro H locs ls hl hW
  refine lv_iload_n hx hb dX8_weight_30 rfl (lv_at hl 0 rfl) ?_
  cases hf
  exact hret dX8_weight_31 rfl rfl hW
def w_X8_behind (E : Nat → ClassId) (h_ h_g h_kept h_past h_path h_pose h_way h_px h_py h_free h_tips h_far h_queue h_times h_turns h_names h_named h_text h_told h_spare : Nat) (s_hasKept : Int32) (s_pasts : Int32) (s_pathMoves : Int32) (s_spot : Int32) (s_thrown : Int32) (s_faulty : Int32) (s_queued : Int32) (s_length : Int32) (s_at : Int32) (s_error : Int32) (s_tolds : Int32) (s_number : Int32) (s_g : Nat → Int32) : va_W := [(h_, .inr (10, [.ref h_g, .ref h_kept, .int s_hasKept, .ref h_past, .int s_pasts, .ref h_path, .int s_pathMoves, .int s_spot, .int s_thrown, .ref h_pose, .ref h_way, .ref h_px, .ref h_py, .int s_faulty, .ref h_free, .ref h_tips, .ref h_far, .ref h_queue, .int s_queued, .ref h_times, .ref h_turns, .ref h_names, .ref h_named, .ref h_text, .int s_length, .int s_at, .int s_error, .ref h_told, .int s_tolds, .int s_number, .ref h_spare])), (h_g, .inl (E 0, 141, .inl s_g))]
set_option maxHeartbeats 4000000 in
set_option maxRecDepth 100000 in
theorem c_X8_behind (l : Launch) (D : va_G) (E : Nat → ClassId) (tx : List (Nat × String)) (h_ h_g h_kept h_past h_path h_pose h_way h_px h_py h_free h_tips h_far h_queue h_times h_turns h_names h_named h_text h_told h_spare : Nat) (s_hasKept : Int32) (s_pasts : Int32) (s_pathMoves : Int32) (s_spot : Int32) (s_thrown : Int32) (s_faulty : Int32) (s_queued : Int32) (s_length : Int32) (s_at : Int32) (s_error : Int32) (s_tolds : Int32) (s_number : Int32) (s_g : Nat → Int32) (x1 : Int32) (x2 : Int32) (r0 : Int32) (hf : f_X8_behind s_g x1 x2 = some r0) : CI l yX8_behind cX8_behind 7 (some .int) 3 65 D E tx [.ref h_, .int x1, .int x2] (w_X8_behind E h_ h_g h_kept h_past h_path h_pose h_way h_px h_py h_free h_tips h_far h_queue h_times h_turns h_names h_named h_text h_told h_spare s_hasKept s_pasts s_pathMoves s_spot s_thrown s_faulty s_queued s_length s_at s_error s_tolds s_number s_g) (w_X8_behind E h_ h_g h_kept h_past h_path h_pose h_way h_px h_py h_free h_tips h_far h_queue h_times h_turns h_names h_named h_text h_told h_spare s_hasKept s_pasts s_pathMoves s_spot s_thrown s_faulty s_queued s_length s_at s_error s_tolds s_number s_g) r0 := by
  refine CI_of RX8 pn_X8 rfl (Nat.le_of_ble_eq_true rfl) (fun p e s m args below meth c A Q hF hK hA hZ hW hret ls hl => ?_)
  have hx := hF.1
  have hb := hF.2.1
  have hl : lv_has ls 7 [(0, .ref h_), (1, .int x1), (2, .int x2)] := hl
  unfold f_X8_behind at hf
  have hL40 : ∀ (y1_40 : Int32) (y3_40 : Int32) (y4_40 : Int32) (y5_40 : Int32) (k0_40 : Int32) (H : Heap) (locs : List Loc) (ls : Array Slot), f_X8_behind_L40 s_g y1_40 y3_40 y4_40 y5_40 k0_40 = some r0 → lv_has ls 7 [(0, .ref h_), (1, .int y1_40), (3, .int y3_40), (4, .int y4_40), (5, .int y5_40)] → WD D A s (w_X8_behind E h_ h_g h_kept h_past h_path h_pose h_way h_px h_py h_free h_tips h_far h_queue h_times h_turns h_names h_named h_text h_told h_spare s_hasKept s_pasts s_pathMoves s_spot s_thrown s_faulty s_queued s_length s_at s_error s_tolds s_number s_g) H locs → W p l e (RM 3 65) s m args below meth c H locs 0 0 Q (F0 m 40 ls [.int k0_40]) := by
    intro y1_40 y3_40 y4_40 y5_40 k0_40 H locs ls hf hl hW
    unfold f_X8_behind_L40 at hf
    refine lv_istore (lv' := [(6, .int k0_40), (0, .ref h_), (1, .int y1_40), (3, .int y3_40), (4, .int y4_40), (5, .int y5_40)]) hx hb dX8_behind_40 hl (by decide) rfl (fun ls hl => ?_)
    refine lv_iload hx hb dX8_behind_42 (lv_at hl 0 rfl) ?_
    refine lv_iconst (v := 0) hx hb dX8_behind_44 (by decide) ?_
    refine lv_aload_n hx hb dX8_behind_45 rfl (lv_at hl 1 rfl) ?_
    refine lv_iload_n hx hb dX8_behind_46 rfl (lv_at hl 3 rfl) ?_
    obtain ⟨o_1, hc_1, hf⟩ := ob_bind hf
    refine q_callI hF hl.1 hK hA hZ hW mv_X8_values ml_X8_130 (c_X8_values l D E tx h_ h_g h_kept h_past h_path h_pose h_way h_px h_py h_free h_tips h_far h_queue h_times h_turns h_names h_named h_text h_told h_spare s_hasKept s_pasts s_pathMoves s_spot s_thrown s_faulty s_queued s_length s_at s_error s_tolds s_number s_g y3_40 o_1 hc_1) [0, 1] rfl rfl rfl rfl rfl rfl ⟨Nat.le_of_ble_eq_true rfl, Nat.le_of_ble_eq_true rfl⟩ ⟨Nat.le_of_ble_eq_true rfl, Nat.le_of_ble_eq_true rfl⟩ rfl rfl (Nat.le_of_ble_eq_true rfl) dX8_behind_47 (fun H locs hW => ?_)
    have hW : WD D A s (w_X8_behind E h_ h_g h_kept h_past h_path h_pose h_way h_px h_py h_free h_tips h_far h_queue h_times h_turns h_names h_named h_text h_told h_spare s_hasKept s_pasts s_pathMoves s_spot s_thrown s_faulty s_queued s_length s_at s_error s_tolds s_number s_g) H locs := hW
    refine lv_iconst (v := 1) hx hb dX8_behind_50 (by decide) ?_
    refine lv_isub hx hb dX8_behind_51 ?_
    obtain ⟨o_2, hc_2, hf⟩ := ob_bind hf
    refine q_callSI hF hl.1 hK hA hZ hW ms_X8_in ml_X8_79 (c_X8_in l D E tx k0_40 0 (o_1 - 1) o_2 hc_2) [] rfl rfl rfl ⟨Nat.le_of_ble_eq_true rfl, Nat.le_of_ble_eq_true rfl⟩ ⟨Nat.le_of_ble_eq_true rfl, Nat.le_of_ble_eq_true rfl⟩ rfl rfl (Nat.le_of_ble_eq_true rfl) dX8_behind_52 (fun H locs hW => ?_)
    have hW : WD D A s (w_X8_behind E h_ h_g h_kept h_past h_path h_pose h_way h_px h_py h_free h_tips h_far h_queue h_times h_turns h_names h_named h_text h_told h_spare s_hasKept s_pasts s_pathMoves s_spot s_thrown s_faulty s_queued s_length s_at s_error s_tolds s_number s_g) H locs := hW
    refine q_if_eq (tgt := 71) hx hb dX8_behind_55 (by decide) hf (fun hf => ?_) (fun hf => ?_)
    · refine lv_iconst (v := (-1)) hx hb dX8_behind_71 (by decide) ?_
      cases hf
      exact hret dX8_behind_72 rfl rfl hW
    · refine lv_iload_n hx hb dX8_behind_58 rfl (lv_at hl 2 rfl) ?_
      refine lv_iload hx hb dX8_behind_59 (lv_at hl 0 rfl) ?_
      refine lv_iload hx hb dX8_behind_61 (lv_at hl 5 rfl) ?_
      refine lv_isub hx hb dX8_behind_63 ?_
      refine lv_iload hx hb dX8_behind_64 (lv_at hl 4 rfl) ?_
      refine lv_imul hx hb dX8_behind_66 ?_
      refine lv_iadd hx hb dX8_behind_67 ?_
      refine lv_goto (tgt := 72) hx hb dX8_behind_68 (by decide) ?_
      cases hf
      exact hret dX8_behind_72 rfl rfl hW
  refine lv_iload_n hx hb dX8_behind_0 rfl (lv_at hl 2 rfl) ?_
  refine lv_iconst (v := 2) hx hb dX8_behind_1 (by decide) ?_
  refine lv_idiv hx hb dX8_behind_2 (by decide) ?_
  refine lv_topi (fun v_3 ev_3 => ?_)
  replace hf := ob_let hf ev_3
  refine lv_istore_n (lv' := [(3, .int v_3), (0, .ref h_), (1, .int x1), (2, .int x2)]) hx hb dX8_behind_3 rfl hl (by decide) rfl (fun ls hl => ?_)
  refine lv_aload_n hx hb dX8_behind_4 rfl (lv_at hl 1 rfl) ?_
  refine lv_iload_n hx hb dX8_behind_5 rfl (lv_at hl 0 rfl) ?_
  obtain ⟨o_4, hc_4, hf⟩ := ob_bind hf
  refine q_callI hF hl.1 hK hA hZ hW mv_X8_weight ml_X8_193 (c_X8_weight l D E tx h_ h_g h_kept h_past h_path h_pose h_way h_px h_py h_free h_tips h_far h_queue h_times h_turns h_names h_named h_text h_told h_spare s_hasKept s_pasts s_pathMoves s_spot s_thrown s_faulty s_queued s_length s_at s_error s_tolds s_number s_g v_3 o_4 hc_4) [0, 1] rfl rfl rfl rfl rfl rfl ⟨Nat.le_of_ble_eq_true rfl, Nat.le_of_ble_eq_true rfl⟩ ⟨Nat.le_of_ble_eq_true rfl, Nat.le_of_ble_eq_true rfl⟩ rfl rfl (Nat.le_of_ble_eq_true rfl) dX8_behind_6 (fun H locs hW => ?_)
  have hW : WD D A s (w_X8_behind E h_ h_g h_kept h_past h_path h_pose h_way h_px h_py h_free h_tips h_far h_queue h_times h_turns h_names h_named h_text h_told h_spare s_hasKept s_pasts s_pathMoves s_spot s_thrown s_faulty s_queued s_length s_at s_error s_tolds s_number s_g) H locs := hW
  refine lv_istore (lv' := [(4, .int o_4), (3, .int v_3), (0, .ref h_), (1, .int x1), (2, .int x2)]) hx hb dX8_behind_9 hl (by decide) rfl (fun ls hl => ?_)
  refine lv_iload_n hx hb dX8_behind_11 rfl (lv_at hl 3 rfl) ?_
  refine lv_iload hx hb dX8_behind_12 (lv_at hl 0 rfl) ?_
  refine lv_idiv hx hb dX8_behind_14 (ob_gn hf).1 ?_
  replace hf := (ob_gn hf).2
  refine lv_aload_n hx hb dX8_behind_15 rfl (lv_at hl 2 rfl) ?_
  refine lv_iload_n hx hb dX8_behind_16 rfl (lv_at hl 1 rfl) ?_
  obtain ⟨o_5, hc_5, hf⟩ := ob_bind hf
  refine q_callI hF hl.1 hK hA hZ hW mv_X8_values ml_X8_130 (c_X8_values l D E tx h_ h_g h_kept h_past h_path h_pose h_way h_px h_py h_free h_tips h_far h_queue h_times h_turns h_names h_named h_text h_told h_spare s_hasKept s_pasts s_pathMoves s_spot s_thrown s_faulty s_queued s_length s_at s_error s_tolds s_number s_g v_3 o_5 hc_5) [0, 1] rfl rfl rfl rfl rfl rfl ⟨Nat.le_of_ble_eq_true rfl, Nat.le_of_ble_eq_true rfl⟩ ⟨Nat.le_of_ble_eq_true rfl, Nat.le_of_ble_eq_true rfl⟩ rfl rfl (Nat.le_of_ble_eq_true rfl) dX8_behind_17 (fun H locs hW => ?_)
  have hW : WD D A s (w_X8_behind E h_ h_g h_kept h_past h_path h_pose h_way h_px h_py h_free h_tips h_far h_queue h_times h_turns h_names h_named h_text h_told h_spare s_hasKept s_pasts s_pathMoves s_spot s_thrown s_faulty s_queued s_length s_at s_error s_tolds s_number s_g) H locs := hW
  refine lv_irem hx hb dX8_behind_20 (ob_gn hf).1 ?_
  replace hf := (ob_gn hf).2
  refine lv_topi (fun v_6 ev_6 => ?_)
  replace hf := ob_let hf ev_6
  refine lv_istore (lv' := [(5, .int v_6), (4, .int o_4), (3, .int v_3), (0, .ref h_), (1, .int x1), (2, .int x2)]) hx hb dX8_behind_21 hl (by decide) rfl (fun ls hl => ?_)
  refine lv_iload_n hx hb dX8_behind_23 rfl (lv_at hl 5 rfl) ?_
  refine lv_iconst (v := 2) hx hb dX8_behind_24 (by decide) ?_
  refine lv_irem hx hb dX8_behind_25 (by decide) ?_
  refine q_if_ne (tgt := 36) hx hb dX8_behind_26 (by decide) hf (fun hf => ?_) (fun hf => ?_)
  · refine lv_iload hx hb dX8_behind_36 (lv_at hl 0 rfl) ?_
    refine lv_iconst (v := 1) hx hb dX8_behind_38 (by decide) ?_
    refine lv_iadd hx hb dX8_behind_39 ?_
    exact hL40 x1 v_3 o_4 v_6 (v_6 + 1) _ _ _ hf (lv_sub hl [3, 4, 2, 1, 0] rfl) hW
  · refine lv_iload hx hb dX8_behind_29 (lv_at hl 0 rfl) ?_
    refine lv_iconst (v := 1) hx hb dX8_behind_31 (by decide) ?_
    refine lv_isub hx hb dX8_behind_32 ?_
    refine lv_goto (tgt := 40) hx hb dX8_behind_33 (by decide) ?_
    exact hL40 x1 v_3 o_4 v_6 (v_6 - 1) _ _ _ hf (lv_sub hl [3, 4, 2, 1, 0] rfl) hW
def w_X8_isMove (E : Nat → ClassId) (h_ h_g h_kept h_past h_path h_pose h_way h_px h_py h_free h_tips h_far h_queue h_times h_turns h_names h_named h_text h_told h_spare : Nat) (s_hasKept : Int32) (s_pasts : Int32) (s_pathMoves : Int32) (s_spot : Int32) (s_thrown : Int32) (s_faulty : Int32) (s_queued : Int32) (s_length : Int32) (s_at : Int32) (s_error : Int32) (s_tolds : Int32) (s_number : Int32) (s_g : Nat → Int32) : va_W := [(h_, .inr (10, [.ref h_g, .ref h_kept, .int s_hasKept, .ref h_past, .int s_pasts, .ref h_path, .int s_pathMoves, .int s_spot, .int s_thrown, .ref h_pose, .ref h_way, .ref h_px, .ref h_py, .int s_faulty, .ref h_free, .ref h_tips, .ref h_far, .ref h_queue, .int s_queued, .ref h_times, .ref h_turns, .ref h_names, .ref h_named, .ref h_text, .int s_length, .int s_at, .int s_error, .ref h_told, .int s_tolds, .int s_number, .ref h_spare])), (h_g, .inl (E 0, 141, .inl s_g))]
set_option maxHeartbeats 4000000 in
set_option maxRecDepth 100000 in
theorem c_X8_isMove (l : Launch) (D : va_G) (E : Nat → ClassId) (tx : List (Nat × String)) (h_ h_g h_kept h_past h_path h_pose h_way h_px h_py h_free h_tips h_far h_queue h_times h_turns h_names h_named h_text h_told h_spare : Nat) (s_hasKept : Int32) (s_pasts : Int32) (s_pathMoves : Int32) (s_spot : Int32) (s_thrown : Int32) (s_faulty : Int32) (s_queued : Int32) (s_length : Int32) (s_at : Int32) (s_error : Int32) (s_tolds : Int32) (s_number : Int32) (s_g : Nat → Int32) (x1 : Int32) (r0 : Int32) (hf : f_X8_isMove s_g x1 = some r0) : CI l yX8_isMove cX8_isMove 2 (some .boolean) 1 22 D E tx [.ref h_, .int x1] (w_X8_isMove E h_ h_g h_kept h_past h_path h_pose h_way h_px h_py h_free h_tips h_far h_queue h_times h_turns h_names h_named h_text h_told h_spare s_hasKept s_pasts s_pathMoves s_spot s_thrown s_faulty s_queued s_length s_at s_error s_tolds s_number s_g) (w_X8_isMove E h_ h_g h_kept h_past h_path h_pose h_way h_px h_py h_free h_tips h_far h_queue h_times h_turns h_names h_named h_text h_told h_spare s_hasKept s_pasts s_pathMoves s_spot s_thrown s_faulty s_queued s_length s_at s_error s_tolds s_number s_g) r0 := by
  refine CI_of RX8 pn_X8 rfl (Nat.le_of_ble_eq_true rfl) (fun p e s m args below meth c A Q hF hK hA hZ hW hret ls hl => ?_)
  have hx := hF.1
  have hb := hF.2.1
  have hl : lv_has ls 2 [(0, .ref h_), (1, .int x1)] := hl
  unfold f_X8_isMove at hf
  refine lv_iload_n hx hb dX8_isMove_0 rfl (lv_at hl 1 rfl) ?_
  refine lv_iconst (v := 0) hx hb dX8_isMove_1 (by decide) ?_
  refine lv_iconst (v := 2) hx hb dX8_isMove_2 (by decide) ?_
  refine lv_aload_n hx hb dX8_isMove_3 rfl (lv_at hl 0 rfl) ?_
  refine q_get hF hK hW fl_X8_7 0 rfl rfl dX8_isMove_4 ?_
  refine lv_iconst (v := 0) hx hb dX8_isMove_7 (by decide) ?_
  refine q_iald hx hb hK hW 1 0 rfl rfl dX8_isMove_8 hf (fun hf => ?_)
  refine lv_imul hx hb dX8_isMove_9 ?_
  refine lv_iconst (v := 1) hx hb dX8_isMove_10 (by decide) ?_
  refine lv_isub hx hb dX8_isMove_11 ?_
  obtain ⟨o_1, hc_1, hf⟩ := ob_bind hf
  refine q_callSI hF hl.1 hK hA hZ hW ms_X8_in ml_X8_79 (c_X8_in l D E tx x1 0 ((2 * (s_g (0 : Int32).toNatClampNeg)) - 1) o_1 hc_1) [] rfl rfl rfl ⟨Nat.le_of_ble_eq_true rfl, Nat.le_of_ble_eq_true rfl⟩ ⟨Nat.le_of_ble_eq_true rfl, Nat.le_of_ble_eq_true rfl⟩ rfl rfl (Nat.le_of_ble_eq_true rfl) dX8_isMove_12 (fun H locs hW => ?_)
  have hW : WD D A s (w_X8_isMove E h_ h_g h_kept h_past h_path h_pose h_way h_px h_py h_free h_tips h_far h_queue h_times h_turns h_names h_named h_text h_told h_spare s_hasKept s_pasts s_pathMoves s_spot s_thrown s_faulty s_queued s_length s_at s_error s_tolds s_number s_g) H locs := hW
  have hz := nar_b (ob_gb hf).1
  replace hf := (ob_gb hf).2
  cases hf
  exact hret dX8_isMove_15 hz.1 rfl hW
def w_X8_mayMove (E : Nat → ClassId) (h_ h_g h_kept h_past h_path h_pose h_way h_px h_py h_free h_tips h_far h_queue h_times h_turns h_names h_named h_text h_told h_spare : Nat) (s_hasKept : Int32) (s_pasts : Int32) (s_pathMoves : Int32) (s_spot : Int32) (s_thrown : Int32) (s_faulty : Int32) (s_queued : Int32) (s_length : Int32) (s_at : Int32) (s_error : Int32) (s_tolds : Int32) (s_number : Int32) (s_g : Nat → Int32) (s_pose : Nat → Int32) (s_way : Nat → Int32) (s_px : Nat → Int32) (s_py : Nat → Int32) : va_W := [(h_, .inr (10, [.ref h_g, .ref h_kept, .int s_hasKept, .ref h_past, .int s_pasts, .ref h_path, .int s_pathMoves, .int s_spot, .int s_thrown, .ref h_pose, .ref h_way, .ref h_px, .ref h_py, .int s_faulty, .ref h_free, .ref h_tips, .ref h_far, .ref h_queue, .int s_queued, .ref h_times, .ref h_turns, .ref h_names, .ref h_named, .ref h_text, .int s_length, .int s_at, .int s_error, .ref h_told, .int s_tolds, .int s_number, .ref h_spare])), (h_g, .inl (E 0, 141, .inl s_g)), (h_pose, .inl (E 0, 4, .inl s_pose)), (h_way, .inl (E 0, 4, .inl s_way)), (h_px, .inl (E 0, 5, .inl s_px)), (h_py, .inl (E 0, 5, .inl s_py))]
set_option maxHeartbeats 4000000 in
set_option maxRecDepth 100000 in
theorem c_X8_mayMove (l : Launch) (D : va_G) (E : Nat → ClassId) (tx : List (Nat × String)) (h_ h_g h_kept h_past h_path h_pose h_way h_px h_py h_free h_tips h_far h_queue h_times h_turns h_names h_named h_text h_told h_spare : Nat) (s_hasKept : Int32) (s_pasts : Int32) (s_pathMoves : Int32) (s_spot : Int32) (s_thrown : Int32) (s_faulty : Int32) (s_queued : Int32) (s_length : Int32) (s_at : Int32) (s_error : Int32) (s_tolds : Int32) (s_number : Int32) (s_g : Nat → Int32) (s_pose : Nat → Int32) (s_way : Nat → Int32) (s_px : Nat → Int32) (s_py : Nat → Int32) (x1 : Int32) (r0 : Int32) (r1 : Int32) (r2 : Nat → Int32) (r3 : Nat → Int32) (r4 : Nat → Int32) (r5 : Nat → Int32) (hf : f_X8_mayMove s_faulty s_g s_pose s_way s_px s_py x1 = some (r0, r1, r2, r3, r4, r5)) : CI l yX8_mayMove cX8_mayMove 3 (some .boolean) 7 154 D E tx [.ref h_, .int x1] (w_X8_mayMove E h_ h_g h_kept h_past h_path h_pose h_way h_px h_py h_free h_tips h_far h_queue h_times h_turns h_names h_named h_text h_told h_spare s_hasKept s_pasts s_pathMoves s_spot s_thrown s_faulty s_queued s_length s_at s_error s_tolds s_number s_g s_pose s_way s_px s_py) (w_X8_mayMove E h_ h_g h_kept h_past h_path h_pose h_way h_px h_py h_free h_tips h_far h_queue h_times h_turns h_names h_named h_text h_told h_spare s_hasKept s_pasts s_pathMoves s_spot s_thrown r1 s_queued s_length s_at s_error s_tolds s_number s_g r2 r3 r4 r5) r0 := by
  refine CI_of RX8 pn_X8 rfl (Nat.le_of_ble_eq_true rfl) (fun p e s m args below meth c A Q hF hK hA hZ hW hret ls hl => ?_)
  have hx := hF.1
  have hb := hF.2.1
  have hl : lv_has ls 3 [(0, .ref h_), (1, .int x1)] := hl
  unfold f_X8_mayMove at hf
  refine lv_aload_n hx hb dX8_mayMove_0 rfl (lv_at hl 0 rfl) ?_
  refine lv_aload_n hx hb dX8_mayMove_1 rfl (lv_at hl 0 rfl) ?_
  obtain ⟨o_1, hc_1, hf⟩ := ob_bind hf
  refine q_callI hF hl.1 hK hA hZ hW mv_X8_numberNow ml_X8_181 (c_X8_numberNow l D E tx h_ h_g h_kept h_past h_path h_pose h_way h_px h_py h_free h_tips h_far h_queue h_times h_turns h_names h_named h_text h_told h_spare s_hasKept s_pasts s_pathMoves s_spot s_thrown s_faulty s_queued s_length s_at s_error s_tolds s_number s_g o_1 hc_1) [0, 1] rfl rfl rfl rfl rfl rfl ⟨Nat.le_of_ble_eq_true rfl, Nat.le_of_ble_eq_true rfl⟩ ⟨Nat.le_of_ble_eq_true rfl, Nat.le_of_ble_eq_true rfl⟩ rfl rfl (Nat.le_of_ble_eq_true rfl) dX8_mayMove_2 (fun H locs hW => ?_)
  have hW : WD D A s (w_X8_mayMove E h_ h_g h_kept h_past h_path h_pose h_way h_px h_py h_free h_tips h_far h_queue h_times h_turns h_names h_named h_text h_told h_spare s_hasKept s_pasts s_pathMoves s_spot s_thrown s_faulty s_queued s_length s_at s_error s_tolds s_number s_g s_pose s_way s_px s_py) H locs := hW
  refine lv_iload_n hx hb dX8_mayMove_5 rfl (lv_at hl 1 rfl) ?_
  obtain ⟨o_2, hc_2, hf⟩ := ob_bind hf
  refine q_callI hF hl.1 hK hA hZ hW mv_X8_behind ml_X8_196 (c_X8_behind l D E tx h_ h_g h_kept h_past h_path h_pose h_way h_px h_py h_free h_tips h_far h_queue h_times h_turns h_names h_named h_text h_told h_spare s_hasKept s_pasts s_pathMoves s_spot s_thrown s_faulty s_queued s_length s_at s_error s_tolds s_number s_g o_1 x1 o_2 hc_2) [0, 1] rfl rfl rfl rfl rfl rfl ⟨Nat.le_of_ble_eq_true rfl, Nat.le_of_ble_eq_true rfl⟩ ⟨Nat.le_of_ble_eq_true rfl, Nat.le_of_ble_eq_true rfl⟩ rfl rfl (Nat.le_of_ble_eq_true rfl) dX8_mayMove_6 (fun H locs hW => ?_)
  have hW : WD D A s (w_X8_mayMove E h_ h_g h_kept h_past h_path h_pose h_way h_px h_py h_free h_tips h_far h_queue h_times h_turns h_names h_named h_text h_told h_spare s_hasKept s_pasts s_pathMoves s_spot s_thrown s_faulty s_queued s_length s_at s_error s_tolds s_number s_g s_pose s_way s_px s_py) H locs := hW
  refine lv_istore_n (lv' := [(2, .int o_2), (0, .ref h_), (1, .int x1)]) hx hb dX8_mayMove_9 rfl hl (by decide) rfl (fun ls hl => ?_)
  refine lv_iload_n hx hb dX8_mayMove_10 rfl (lv_at hl 0 rfl) ?_
  refine q_if_lt (tgt := 33) hx hb dX8_mayMove_11 (by decide) hf (fun hf => ?_) (fun hf => ?_)
  · refine lv_iconst (v := 0) hx hb dX8_mayMove_33 (by decide) ?_
    cases hf
    exact hret dX8_mayMove_34 rfl rfl hW
  · refine lv_aload_n hx hb dX8_mayMove_14 rfl (lv_at hl 1 rfl) ?_
    obtain ⟨o_3, hc_3, hf⟩ := ob_bind hf
    refine q_callI hF hl.1 hK hA hZ hW mv_X8_isFreeNow ml_X8_199 (c_X8_isFreeNow l D E tx h_ h_g h_kept h_past h_path h_pose h_way h_px h_py h_free h_tips h_far h_queue h_times h_turns h_names h_named h_text h_told h_spare s_hasKept s_pasts s_pathMoves s_spot s_thrown s_faulty s_queued s_length s_at s_error s_tolds s_number s_g s_pose s_way s_px s_py o_3.1 o_3.2.1 o_3.2.2.1 o_3.2.2.2.1 o_3.2.2.2.2.1 o_3.2.2.2.2.2 hc_3) [0, 1, 2, 3, 4, 5] rfl rfl rfl rfl rfl rfl ⟨Nat.le_of_ble_eq_true rfl, Nat.le_of_ble_eq_true rfl⟩ ⟨Nat.le_of_ble_eq_true rfl, Nat.le_of_ble_eq_true rfl⟩ rfl rfl (Nat.le_of_ble_eq_true rfl) dX8_mayMove_15 (fun H locs hW => ?_)
    have hW : WD D A s (w_X8_mayMove E h_ h_g h_kept h_past h_path h_pose h_way h_px h_py h_free h_tips h_far h_queue h_times h_turns h_names h_named h_text h_told h_spare s_hasKept s_pasts s_pathMoves s_spot s_thrown o_3.2.1 s_queued s_length s_at s_error s_tolds s_number s_g o_3.2.2.1 o_3.2.2.2.1 o_3.2.2.2.2.1 o_3.2.2.2.2.2) H locs := hW
    refine q_if_eq (tgt := 33) hx hb dX8_mayMove_18 (by decide) hf (fun hf => ?_) (fun hf => ?_)
    · refine lv_iconst (v := 0) hx hb dX8_mayMove_33 (by decide) ?_
      cases hf
      exact hret dX8_mayMove_34 rfl rfl hW
    · refine lv_aload_n hx hb dX8_mayMove_21 rfl (lv_at hl 1 rfl) ?_
      refine lv_iload_n hx hb dX8_mayMove_22 rfl (lv_at hl 0 rfl) ?_
      obtain ⟨o_4, hc_4, hf⟩ := ob_bind hf
      refine q_callI hF hl.1 hK hA hZ hW mv_X8_isFree ml_X8_184 (c_X8_isFree l D E tx h_ h_g h_kept h_past h_path h_pose h_way h_px h_py h_free h_tips h_far h_queue h_times h_turns h_names h_named h_text h_told h_spare s_hasKept s_pasts s_pathMoves s_spot s_thrown o_3.2.1 s_queued s_length s_at s_error s_tolds s_number s_g o_3.2.2.1 o_3.2.2.2.1 o_3.2.2.2.2.1 o_3.2.2.2.2.2 o_2 o_4.1 o_4.2.1 o_4.2.2.1 o_4.2.2.2.1 o_4.2.2.2.2.1 o_4.2.2.2.2.2 hc_4) [0, 1, 2, 3, 4, 5] rfl rfl rfl rfl rfl rfl ⟨Nat.le_of_ble_eq_true rfl, Nat.le_of_ble_eq_true rfl⟩ ⟨Nat.le_of_ble_eq_true rfl, Nat.le_of_ble_eq_true rfl⟩ rfl rfl (Nat.le_of_ble_eq_true rfl) dX8_mayMove_23 (fun H locs hW => ?_)
      have hW : WD D A s (w_X8_mayMove E h_ h_g h_kept h_past h_path h_pose h_way h_px h_py h_free h_tips h_far h_queue h_times h_turns h_names h_named h_text h_told h_spare s_hasKept s_pasts s_pathMoves s_spot s_thrown o_4.2.1 s_queued s_length s_at s_error s_tolds s_number s_g o_4.2.2.1 o_4.2.2.2.1 o_4.2.2.2.2.1 o_4.2.2.2.2.2) H locs := hW
      refine q_if_eq (tgt := 33) hx hb dX8_mayMove_26 (by decide) hf (fun hf => ?_) (fun hf => ?_)
      · refine lv_iconst (v := 0) hx hb dX8_mayMove_33 (by decide) ?_
        cases hf
        exact hret dX8_mayMove_34 rfl rfl hW
      · refine lv_iconst (v := 1) hx hb dX8_mayMove_29 (by decide) ?_
        refine lv_goto (tgt := 34) hx hb dX8_mayMove_30 (by decide) ?_
        cases hf
        exact hret dX8_mayMove_34 rfl rfl hW
def w_X8_turnsTo (E : Nat → ClassId) (h_ h_g h_kept h_past h_path h_pose h_way h_px h_py h_free h_tips h_far h_queue h_times h_turns h_names h_named h_text h_told h_spare : Nat) (s_hasKept : Int32) (s_pasts : Int32) (s_pathMoves : Int32) (s_spot : Int32) (s_thrown : Int32) (s_faulty : Int32) (s_queued : Int32) (s_length : Int32) (s_at : Int32) (s_error : Int32) (s_tolds : Int32) (s_number : Int32) (s_g : Nat → Int32) : va_W := [(h_, .inr (10, [.ref h_g, .ref h_kept, .int s_hasKept, .ref h_past, .int s_pasts, .ref h_path, .int s_pathMoves, .int s_spot, .int s_thrown, .ref h_pose, .ref h_way, .ref h_px, .ref h_py, .int s_faulty, .ref h_free, .ref h_tips, .ref h_far, .ref h_queue, .int s_queued, .ref h_times, .ref h_turns, .ref h_names, .ref h_named, .ref h_text, .int s_length, .int s_at, .int s_error, .ref h_told, .int s_tolds, .int s_number, .ref h_spare])), (h_g, .inl (E 0, 141, .inl s_g))]
set_option maxHeartbeats 4000000 in
set_option maxRecDepth 100000 in
theorem c_X8_turnsTo (l : Launch) (D : va_G) (E : Nat → ClassId) (tx : List (Nat × String)) (h_ h_g h_kept h_past h_path h_pose h_way h_px h_py h_free h_tips h_far h_queue h_times h_turns h_names h_named h_text h_told h_spare : Nat) (s_hasKept : Int32) (s_pasts : Int32) (s_pathMoves : Int32) (s_spot : Int32) (s_thrown : Int32) (s_faulty : Int32) (s_queued : Int32) (s_length : Int32) (s_at : Int32) (s_error : Int32) (s_tolds : Int32) (s_number : Int32) (s_g : Nat → Int32) (x1 : Int32) (r0 : Nat → Int32) (hf : f_X8_turnsTo s_g x1 = some r0) : CV l yX8_turnsTo cX8_turnsTo 2 0 0 D E tx [.ref h_, .int x1] (w_X8_turnsTo E h_ h_g h_kept h_past h_path h_pose h_way h_px h_py h_free h_tips h_far h_queue h_times h_turns h_names h_named h_text h_told h_spare s_hasKept s_pasts s_pathMoves s_spot s_thrown s_faulty s_queued s_length s_at s_error s_tolds s_number s_g) (w_X8_turnsTo E h_ h_g h_kept h_past h_path h_pose h_way h_px h_py h_free h_tips h_far h_queue h_times h_turns h_names h_named h_text h_told h_spare s_hasKept s_pasts s_pathMoves s_spot s_thrown s_faulty s_queued s_length s_at s_error s_tolds s_number r0) := by
  refine CV_of RX8 pn_X8 rfl (Nat.le_of_ble_eq_true rfl) (fun p e s m args below meth c A Q hF hK hA hZ hW hret ls hl => ?_)
  have hx := hF.1
  have hb := hF.2.1
  have hl : lv_has ls 2 [(0, .ref h_), (1, .int x1)] := hl
  unfold f_X8_turnsTo at hf
  have hL24 : ∀ (s_g_24 : Nat → Int32) (k1_24 : Int32) (k2_24 : Int32) (k3_24 : Int32) (H : Heap) (locs : List Loc) (ls : Array Slot), f_X8_turnsTo_L24 s_g_24 k1_24 k2_24 k3_24 = some r0 → lv_has ls 2 [] → WD D A s (w_X8_turnsTo E h_ h_g h_kept h_past h_path h_pose h_way h_px h_py h_free h_tips h_far h_queue h_times h_turns h_names h_named h_text h_told h_spare s_hasKept s_pasts s_pathMoves s_spot s_thrown s_faulty s_queued s_length s_at s_error s_tolds s_number s_g_24) H locs → W p l e (RM 0 0) s m args below meth c H locs 0 0 Q (F0 m 24 ls [.int k3_24, .int k2_24, .int k1_24, .ref h_g]) := by
    intro s_g_24 k1_24 k2_24 k3_24 H locs ls hf hl hW
    unfold f_X8_turnsTo_L24 at hf
    refine lv_iadd hx hb dX8_turnsTo_24 ?_
    refine q_iast hx hb hK hW 1 0 rfl rfl dX8_turnsTo_25 hf (fun a_1 hf H locs hW => ?_)
    have hW : WD D A s (w_X8_turnsTo E h_ h_g h_kept h_past h_path h_pose h_way h_px h_py h_free h_tips h_far h_queue h_times h_turns h_names h_named h_text h_told h_spare s_hasKept s_pasts s_pathMoves s_spot s_thrown s_faulty s_queued s_length s_at s_error s_tolds s_number a_1) H locs := hW
    cases hf
    exact hret dX8_turnsTo_26 hW
  refine lv_aload_n hx hb dX8_turnsTo_0 rfl (lv_at hl 0 rfl) ?_
  refine q_get hF hK hW fl_X8_7 0 rfl rfl dX8_turnsTo_1 ?_
  refine lv_iconst (v := 4) hx hb dX8_turnsTo_4 (by decide) ?_
  refine lv_iconst (v := 4) hx hb dX8_turnsTo_5 (by decide) ?_
  refine lv_iload_n hx hb dX8_turnsTo_6 rfl (lv_at hl 1 rfl) ?_
  refine lv_iconst (v := 2) hx hb dX8_turnsTo_7 (by decide) ?_
  refine lv_idiv hx hb dX8_turnsTo_8 (by decide) ?_
  refine lv_imul hx hb dX8_turnsTo_9 ?_
  refine lv_iadd hx hb dX8_turnsTo_10 ?_
  refine lv_dup2_11 hx hb dX8_turnsTo_11 rfl rfl ?_
  refine q_iald hx hb hK hW 1 0 rfl rfl dX8_turnsTo_12 hf (fun hf => ?_)
  refine lv_iload_n hx hb dX8_turnsTo_13 rfl (lv_at hl 1 rfl) ?_
  refine lv_iconst (v := 2) hx hb dX8_turnsTo_14 (by decide) ?_
  refine lv_irem hx hb dX8_turnsTo_15 (by decide) ?_
  refine q_if_ne (tgt := 23) hx hb dX8_turnsTo_16 (by decide) hf (fun hf => ?_) (fun hf => ?_)
  · refine lv_iconst (v := 1) hx hb dX8_turnsTo_23 (by decide) ?_
    exact hL24 s_g (4 + (4 * (x1 / 2))) (s_g (4 + (4 * (x1 / 2))).toNatClampNeg) 1 _ _ _ hf (lv_sub hl [] rfl) hW
  · refine lv_iconst (v := (-1)) hx hb dX8_turnsTo_19 (by decide) ?_
    refine lv_goto (tgt := 24) hx hb dX8_turnsTo_20 (by decide) ?_
    exact hL24 s_g (4 + (4 * (x1 / 2))) (s_g (4 + (4 * (x1 / 2))).toNatClampNeg) ((-1)) _ _ _ hf (lv_sub hl [] rfl) hW
def w_X8_move (E : Nat → ClassId) (h_ h_g h_kept h_past h_path h_pose h_way h_px h_py h_free h_tips h_far h_queue h_times h_turns h_names h_named h_text h_told h_spare : Nat) (s_hasKept : Int32) (s_pasts : Int32) (s_pathMoves : Int32) (s_spot : Int32) (s_thrown : Int32) (s_faulty : Int32) (s_queued : Int32) (s_length : Int32) (s_at : Int32) (s_error : Int32) (s_tolds : Int32) (s_number : Int32) (s_g : Nat → Int32) (s_past : Nat → Int32) (s_pose : Nat → Int32) (s_way : Nat → Int32) (s_px : Nat → Int32) (s_py : Nat → Int32) : va_W := [(h_, .inr (10, [.ref h_g, .ref h_kept, .int s_hasKept, .ref h_past, .int s_pasts, .ref h_path, .int s_pathMoves, .int s_spot, .int s_thrown, .ref h_pose, .ref h_way, .ref h_px, .ref h_py, .int s_faulty, .ref h_free, .ref h_tips, .ref h_far, .ref h_queue, .int s_queued, .ref h_times, .ref h_turns, .ref h_names, .ref h_named, .ref h_text, .int s_length, .int s_at, .int s_error, .ref h_told, .int s_tolds, .int s_number, .ref h_spare])), (h_g, .inl (E 0, 141, .inl s_g)), (h_past, .inl (E 0, 1128, .inl s_past)), (h_pose, .inl (E 0, 4, .inl s_pose)), (h_way, .inl (E 0, 4, .inl s_way)), (h_px, .inl (E 0, 5, .inl s_px)), (h_py, .inl (E 0, 5, .inl s_py))]
set_option maxHeartbeats 4000000 in
set_option maxRecDepth 100000 in
theorem c_X8_move (l : Launch) (D : va_G) (E : Nat → ClassId) (tx : List (Nat × String)) (h_ h_g h_kept h_past h_path h_pose h_way h_px h_py h_free h_tips h_far h_queue h_times h_turns h_names h_named h_text h_told h_spare : Nat) (s_hasKept : Int32) (s_pasts : Int32) (s_pathMoves : Int32) (s_spot : Int32) (s_thrown : Int32) (s_faulty : Int32) (s_queued : Int32) (s_length : Int32) (s_at : Int32) (s_error : Int32) (s_tolds : Int32) (s_number : Int32) (s_g : Nat → Int32) (s_past : Nat → Int32) (s_pose : Nat → Int32) (s_way : Nat → Int32) (s_px : Nat → Int32) (s_py : Nat → Int32) (x1 : Int32) (r0 : Int32) (r1 : Int32) (r2 : Int32) (r3 : Int32) (r4 : Int32) (r5 : Nat → Int32) (r6 : Nat → Int32) (r7 : Nat → Int32) (r8 : Nat → Int32) (r9 : Nat → Int32) (r10 : Nat → Int32) (hf : f_X8_move s_pasts s_pathMoves s_thrown s_faulty s_g s_past s_pose s_way s_px s_py x1 = some (r0, r1, r2, r3, r4, r5, r6, r7, r8, r9, r10)) : CI l yX8_move cX8_move 2 (some .int) 8 176 D E tx [.ref h_, .int x1] (w_X8_move E h_ h_g h_kept h_past h_path h_pose h_way h_px h_py h_free h_tips h_far h_queue h_times h_turns h_names h_named h_text h_told h_spare s_hasKept s_pasts s_pathMoves s_spot s_thrown s_faulty s_queued s_length s_at s_error s_tolds s_number s_g s_past s_pose s_way s_px s_py) (w_X8_move E h_ h_g h_kept h_past h_path h_pose h_way h_px h_py h_free h_tips h_far h_queue h_times h_turns h_names h_named h_text h_told h_spare s_hasKept r1 r2 s_spot r3 r4 s_queued s_length s_at s_error s_tolds s_number r5 r6 r7 r8 r9 r10) r0 := by
  refine CI_of RX8 pn_X8 rfl (Nat.le_of_ble_eq_true rfl) (fun p e s m args below meth c A Q hF hK hA hZ hW hret ls hl => ?_)
  have hx := hF.1
  have hb := hF.2.1
  have hl : lv_has ls 2 [(0, .ref h_), (1, .int x1)] := hl
  unfold f_X8_move at hf
  have hL26 : ∀ (s_pasts_26 : Int32) (s_pathMoves_26 : Int32) (s_thrown_26 : Int32) (s_faulty_26 : Int32) (s_g_26 : Nat → Int32) (s_past_26 : Nat → Int32) (s_pose_26 : Nat → Int32) (s_way_26 : Nat → Int32) (s_px_26 : Nat → Int32) (s_py_26 : Nat → Int32) (y1_26 : Int32) (k1_26 : Int32) (H : Heap) (locs : List Loc) (ls : Array Slot), f_X8_move_L26 s_pasts_26 s_pathMoves_26 s_thrown_26 s_faulty_26 s_g_26 s_past_26 s_pose_26 s_way_26 s_px_26 s_py_26 y1_26 k1_26 = some (r0, r1, r2, r3, r4, r5, r6, r7, r8, r9, r10) → lv_has ls 2 [(0, .ref h_), (1, .int y1_26)] → WD D A s (w_X8_move E h_ h_g h_kept h_past h_path h_pose h_way h_px h_py h_free h_tips h_far h_queue h_times h_turns h_names h_named h_text h_told h_spare s_hasKept s_pasts_26 s_pathMoves_26 s_spot s_thrown_26 s_faulty_26 s_queued s_length s_at s_error s_tolds s_number s_g_26 s_past_26 s_pose_26 s_way_26 s_px_26 s_py_26) H locs → W p l e (RM 8 176) s m args below meth c H locs 0 0 Q (F0 m 26 ls [.int k1_26, .ref h_]) := by
    intro s_pasts_26 s_pathMoves_26 s_thrown_26 s_faulty_26 s_g_26 s_past_26 s_pose_26 s_way_26 s_px_26 s_py_26 y1_26 k1_26 H locs ls hf hl hW
    unfold f_X8_move_L26 at hf
    refine q_put hF hK hW fl_X8_76 ft_X8 rfl 0 rfl rfl rfl (Nat.le_of_ble_eq_true rfl) dX8_move_26 (fun H locs hW => ?_)
    have hW : WD D A s (w_X8_move E h_ h_g h_kept h_past h_path h_pose h_way h_px h_py h_free h_tips h_far h_queue h_times h_turns h_names h_named h_text h_told h_spare s_hasKept s_pasts_26 s_pathMoves_26 s_spot k1_26 s_faulty_26 s_queued s_length s_at s_error s_tolds s_number s_g_26 s_past_26 s_pose_26 s_way_26 s_px_26 s_py_26) H locs := hW
    refine lv_aload_n hx hb dX8_move_29 rfl (lv_at hl 0 rfl) ?_
    refine q_get hF hK hW fl_X8_76 0 rfl rfl dX8_move_30 ?_
    refine q_if_le (tgt := 38) hx hb dX8_move_33 (by decide) hf (fun hf => ?_) (fun hf => ?_)
    · refine lv_aload_n hx hb dX8_move_38 rfl (lv_at hl 0 rfl) ?_
      obtain ⟨o_1, hc_1, hf⟩ := ob_bind hf
      refine q_callV hF hl.1 hK hA hZ hW mv_X8_changes ml_X8_98 (c_X8_changes l D E tx h_ h_g h_kept h_past h_path h_pose h_way h_px h_py h_free h_tips h_far h_queue h_times h_turns h_names h_named h_text h_told h_spare s_hasKept s_pasts_26 s_pathMoves_26 s_spot k1_26 s_faulty_26 s_queued s_length s_at s_error s_tolds s_number s_g_26 s_past_26 o_1.1 o_1.2.1 o_1.2.2 hc_1) [0, 1, 2] rfl rfl rfl rfl rfl rfl ⟨Nat.le_of_ble_eq_true rfl, Nat.le_of_ble_eq_true rfl⟩ ⟨Nat.le_of_ble_eq_true rfl, Nat.le_of_ble_eq_true rfl⟩ rfl rfl (Nat.le_of_ble_eq_true rfl) dX8_move_39 (fun H locs hW => ?_)
      have hW : WD D A s (w_X8_move E h_ h_g h_kept h_past h_path h_pose h_way h_px h_py h_free h_tips h_far h_queue h_times h_turns h_names h_named h_text h_told h_spare s_hasKept o_1.1 o_1.2.1 s_spot k1_26 s_faulty_26 s_queued s_length s_at s_error s_tolds s_number s_g_26 o_1.2.2 s_pose_26 s_way_26 s_px_26 s_py_26) H locs := hW
      refine lv_aload_n hx hb dX8_move_42 rfl (lv_at hl 0 rfl) ?_
      refine lv_iload_n hx hb dX8_move_43 rfl (lv_at hl 1 rfl) ?_
      obtain ⟨o_2, hc_2, hf⟩ := ob_bind hf
      refine q_callV hF hl.1 hK hA hZ hW mv_X8_turnsTo ml_X8_209 (c_X8_turnsTo l D E tx h_ h_g h_kept h_past h_path h_pose h_way h_px h_py h_free h_tips h_far h_queue h_times h_turns h_names h_named h_text h_told h_spare s_hasKept o_1.1 o_1.2.1 s_spot k1_26 s_faulty_26 s_queued s_length s_at s_error s_tolds s_number s_g_26 y1_26 o_2 hc_2) [0, 1] rfl rfl rfl rfl rfl rfl ⟨Nat.le_of_ble_eq_true rfl, Nat.le_of_ble_eq_true rfl⟩ ⟨Nat.le_of_ble_eq_true rfl, Nat.le_of_ble_eq_true rfl⟩ rfl rfl (Nat.le_of_ble_eq_true rfl) dX8_move_44 (fun H locs hW => ?_)
      have hW : WD D A s (w_X8_move E h_ h_g h_kept h_past h_path h_pose h_way h_px h_py h_free h_tips h_far h_queue h_times h_turns h_names h_named h_text h_told h_spare s_hasKept o_1.1 o_1.2.1 s_spot k1_26 s_faulty_26 s_queued s_length s_at s_error s_tolds s_number o_2 o_1.2.2 s_pose_26 s_way_26 s_px_26 s_py_26) H locs := hW
      refine lv_aload_n hx hb dX8_move_47 rfl (lv_at hl 0 rfl) ?_
      refine q_get hF hK hW fl_X8_7 0 rfl rfl dX8_move_48 ?_
      refine lv_iconst (v := 4) hx hb dX8_move_51 (by decide) ?_
      refine lv_iconst (v := 4) hx hb dX8_move_52 (by decide) ?_
      refine lv_iload_n hx hb dX8_move_53 rfl (lv_at hl 1 rfl) ?_
      refine lv_iconst (v := 2) hx hb dX8_move_54 (by decide) ?_
      refine lv_idiv hx hb dX8_move_55 (by decide) ?_
      refine lv_imul hx hb dX8_move_56 ?_
      refine lv_iadd hx hb dX8_move_57 ?_
      refine q_iald hx hb hK hW 1 0 rfl rfl dX8_move_58 hf (fun hf => ?_)
      cases hf
      exact hret dX8_move_59 rfl rfl hW
    · refine lv_iconst (v := 0) hx hb dX8_move_36 (by decide) ?_
      cases hf
      exact hret dX8_move_37 rfl rfl hW
  refine lv_aload_n hx hb dX8_move_0 rfl (lv_at hl 0 rfl) ?_
  refine lv_aload_n hx hb dX8_move_1 rfl (lv_at hl 0 rfl) ?_
  refine lv_iload_n hx hb dX8_move_2 rfl (lv_at hl 1 rfl) ?_
  obtain ⟨o_3, hc_3, hf⟩ := ob_bind hf
  refine q_callI hF hl.1 hK hA hZ hW mv_X8_isMove ml_X8_203 (c_X8_isMove l D E tx h_ h_g h_kept h_past h_path h_pose h_way h_px h_py h_free h_tips h_far h_queue h_times h_turns h_names h_named h_text h_told h_spare s_hasKept s_pasts s_pathMoves s_spot s_thrown s_faulty s_queued s_length s_at s_error s_tolds s_number s_g x1 o_3 hc_3) [0, 1] rfl rfl rfl rfl rfl rfl ⟨Nat.le_of_ble_eq_true rfl, Nat.le_of_ble_eq_true rfl⟩ ⟨Nat.le_of_ble_eq_true rfl, Nat.le_of_ble_eq_true rfl⟩ rfl rfl (Nat.le_of_ble_eq_true rfl) dX8_move_3 (fun H locs hW => ?_)
  have hW : WD D A s (w_X8_move E h_ h_g h_kept h_past h_path h_pose h_way h_px h_py h_free h_tips h_far h_queue h_times h_turns h_names h_named h_text h_told h_spare s_hasKept s_pasts s_pathMoves s_spot s_thrown s_faulty s_queued s_length s_at s_error s_tolds s_number s_g s_past s_pose s_way s_px s_py) H locs := hW
  refine q_if_eq (tgt := 25) hx hb dX8_move_6 (by decide) hf (fun hf => ?_) (fun hf => ?_)
  · refine lv_iconst (v := 1) hx hb dX8_move_25 (by decide) ?_
    exact hL26 s_pasts s_pathMoves s_thrown s_faulty s_g s_past s_pose s_way s_px s_py x1 1 _ _ _ hf (lv_sub hl [0, 1] rfl) hW
  · refine lv_aload_n hx hb dX8_move_9 rfl (lv_at hl 0 rfl) ?_
    refine lv_iload_n hx hb dX8_move_10 rfl (lv_at hl 1 rfl) ?_
    obtain ⟨o_4, hc_4, hf⟩ := ob_bind hf
    refine q_callI hF hl.1 hK hA hZ hW mv_X8_mayMove ml_X8_206 (c_X8_mayMove l D E tx h_ h_g h_kept h_past h_path h_pose h_way h_px h_py h_free h_tips h_far h_queue h_times h_turns h_names h_named h_text h_told h_spare s_hasKept s_pasts s_pathMoves s_spot s_thrown s_faulty s_queued s_length s_at s_error s_tolds s_number s_g s_pose s_way s_px s_py x1 o_4.1 o_4.2.1 o_4.2.2.1 o_4.2.2.2.1 o_4.2.2.2.2.1 o_4.2.2.2.2.2 hc_4) [0, 1, 3, 4, 5, 6] rfl rfl rfl rfl rfl rfl ⟨Nat.le_of_ble_eq_true rfl, Nat.le_of_ble_eq_true rfl⟩ ⟨Nat.le_of_ble_eq_true rfl, Nat.le_of_ble_eq_true rfl⟩ rfl rfl (Nat.le_of_ble_eq_true rfl) dX8_move_11 (fun H locs hW => ?_)
    have hW : WD D A s (w_X8_move E h_ h_g h_kept h_past h_path h_pose h_way h_px h_py h_free h_tips h_far h_queue h_times h_turns h_names h_named h_text h_told h_spare s_hasKept s_pasts s_pathMoves s_spot s_thrown o_4.2.1 s_queued s_length s_at s_error s_tolds s_number s_g s_past o_4.2.2.1 o_4.2.2.2.1 o_4.2.2.2.2.1 o_4.2.2.2.2.2) H locs := hW
    refine q_if_eq (tgt := 21) hx hb dX8_move_14 (by decide) hf (fun hf => ?_) (fun hf => ?_)
    · refine lv_iconst (v := 2) hx hb dX8_move_21 (by decide) ?_
      refine lv_goto (tgt := 26) hx hb dX8_move_22 (by decide) ?_
      exact hL26 s_pasts s_pathMoves s_thrown o_4.2.1 s_g s_past o_4.2.2.1 o_4.2.2.2.1 o_4.2.2.2.2.1 o_4.2.2.2.2.2 x1 2 _ _ _ hf (lv_sub hl [0, 1] rfl) hW
    · refine lv_iconst (v := 0) hx hb dX8_move_17 (by decide) ?_
      refine lv_goto (tgt := 26) hx hb dX8_move_18 (by decide) ?_
      exact hL26 s_pasts s_pathMoves s_thrown o_4.2.1 s_g s_past o_4.2.2.1 o_4.2.2.2.1 o_4.2.2.2.2.1 o_4.2.2.2.2.2 x1 0 _ _ _ hf (lv_sub hl [0, 1] rfl) hW
def w_X8_moves (E : Nat → ClassId) (h_ h_g h_kept h_past h_path h_pose h_way h_px h_py h_free h_tips h_far h_queue h_times h_turns h_names h_named h_text h_told h_spare : Nat) (s_hasKept : Int32) (s_pasts : Int32) (s_pathMoves : Int32) (s_spot : Int32) (s_thrown : Int32) (s_faulty : Int32) (s_queued : Int32) (s_length : Int32) (s_at : Int32) (s_error : Int32) (s_tolds : Int32) (s_number : Int32) (s_g : Nat → Int32) (s_pose : Nat → Int32) (s_way : Nat → Int32) (s_px : Nat → Int32) (s_py : Nat → Int32) : va_W := [(h_, .inr (10, [.ref h_g, .ref h_kept, .int s_hasKept, .ref h_past, .int s_pasts, .ref h_path, .int s_pathMoves, .int s_spot, .int s_thrown, .ref h_pose, .ref h_way, .ref h_px, .ref h_py, .int s_faulty, .ref h_free, .ref h_tips, .ref h_far, .ref h_queue, .int s_queued, .ref h_times, .ref h_turns, .ref h_names, .ref h_named, .ref h_text, .int s_length, .int s_at, .int s_error, .ref h_told, .int s_tolds, .int s_number, .ref h_spare])), (h_g, .inl (E 0, 141, .inl s_g)), (h_pose, .inl (E 0, 4, .inl s_pose)), (h_way, .inl (E 0, 4, .inl s_way)), (h_px, .inl (E 0, 5, .inl s_px)), (h_py, .inl (E 0, 5, .inl s_py))]
set_option maxHeartbeats 4000000 in
set_option maxRecDepth 100000 in
theorem c_X8_moves (l : Launch) (D : va_G) (E : Nat → ClassId) (tx : List (Nat × String)) (h_ h_g h_kept h_past h_path h_pose h_way h_px h_py h_free h_tips h_far h_queue h_times h_turns h_names h_named h_text h_told h_spare : Nat) (s_hasKept : Int32) (s_pasts : Int32) (s_pathMoves : Int32) (s_spot : Int32) (s_thrown : Int32) (s_faulty : Int32) (s_queued : Int32) (s_length : Int32) (s_at : Int32) (s_error : Int32) (s_tolds : Int32) (s_number : Int32) (s_g : Nat → Int32) (s_pose : Nat → Int32) (s_way : Nat → Int32) (s_px : Nat → Int32) (s_py : Nat → Int32)  (r0 : Int32) (r1 : Int32) (r2 : Int32) (r3 : Nat → Int32) (r4 : Nat → Int32) (r5 : Nat → Int32) (r6 : Nat → Int32) (hf : f_X8_moves s_thrown s_faulty s_g s_pose s_way s_px s_py = some (r0, r1, r2, r3, r4, r5, r6)) : CI l yX8_moves cX8_moves 3 (some .int) 8 176 D E tx [.ref h_] (w_X8_moves E h_ h_g h_kept h_past h_path h_pose h_way h_px h_py h_free h_tips h_far h_queue h_times h_turns h_names h_named h_text h_told h_spare s_hasKept s_pasts s_pathMoves s_spot s_thrown s_faulty s_queued s_length s_at s_error s_tolds s_number s_g s_pose s_way s_px s_py) (w_X8_moves E h_ h_g h_kept h_past h_path h_pose h_way h_px h_py h_free h_tips h_far h_queue h_times h_turns h_names h_named h_text h_told h_spare s_hasKept s_pasts s_pathMoves s_spot r1 r2 s_queued s_length s_at s_error s_tolds s_number s_g r3 r4 r5 r6) r0 := by
  refine CI_of RX8 pn_X8 rfl (Nat.le_of_ble_eq_true rfl) (fun p e s m args below meth c A Q hF hK hA hZ hW hret ls hl => ?_)
  have hx := hF.1
  have hb := hF.2.1
  have hl : lv_has ls 3 [(0, .ref h_)] := hl
  unfold f_X8_moves at hf
  refine lv_aload_n hx hb dX8_moves_0 rfl (lv_at hl 0 rfl) ?_
  refine lv_iconst (v := 0) hx hb dX8_moves_1 (by decide) ?_
  refine q_put hF hK hW fl_X8_76 ft_X8 rfl 0 rfl rfl rfl (Nat.le_of_ble_eq_true rfl) dX8_moves_2 (fun H locs hW => ?_)
  have hW : WD D A s (w_X8_moves E h_ h_g h_kept h_past h_path h_pose h_way h_px h_py h_free h_tips h_far h_queue h_times h_turns h_names h_named h_text h_told h_spare s_hasKept s_pasts s_pathMoves s_spot 0 s_faulty s_queued s_length s_at s_error s_tolds s_number s_g s_pose s_way s_px s_py) H locs := hW
  refine lv_iconst (v := 0) hx hb dX8_moves_5 (by decide) ?_
  refine lv_istore_n (lv' := [(1, .int 0), (0, .ref h_)]) hx hb dX8_moves_6 rfl hl (by decide) rfl (fun ls hl => ?_)
  refine lv_iconst (v := 0) hx hb dX8_moves_7 (by decide) ?_
  refine lv_istore_n (lv' := [(2, .int 0), (1, .int 0), (0, .ref h_)]) hx hb dX8_moves_8 rfl hl (by decide) rfl (fun ls hl => ?_)
  have hB9 : ∀ (n : Nat) (s_faulty_9 : Int32) (s_pose_9 : Nat → Int32) (s_way_9 : Nat → Int32) (s_px_9 : Nat → Int32) (s_py_9 : Nat → Int32) (z1_9 : Int32) (z2_9 : Int32) (ex : Int32 × (Nat → Int32) × (Nat → Int32) × (Nat → Int32) × (Nat → Int32) × Int32) (H : Heap) (locs : List Loc) (ls : Array Slot), LPF (fun z => f_X8_moves_B9 0 z.1 s_g z.2.1 z.2.2.1 z.2.2.2.1 z.2.2.2.2.1 z.2.2.2.2.2.1 z.2.2.2.2.2.2) n (s_faulty_9, s_pose_9, s_way_9, s_px_9, s_py_9, z1_9, z2_9) = some ex → lv_has ls 3 [(0, .ref h_), (1, .int z1_9), (2, .int z2_9)] → WD D A s (w_X8_moves E h_ h_g h_kept h_past h_path h_pose h_way h_px h_py h_free h_tips h_far h_queue h_times h_turns h_names h_named h_text h_told h_spare s_hasKept s_pasts s_pathMoves s_spot 0 s_faulty_9 s_queued s_length s_at s_error s_tolds s_number s_g s_pose_9 s_way_9 s_px_9 s_py_9) H locs → (∀ (H : Heap) (locs : List Loc) (ls : Array Slot), lv_has ls 3 [(1, .int ex.2.2.2.2.2)] → WD D A s (w_X8_moves E h_ h_g h_kept h_past h_path h_pose h_way h_px h_py h_free h_tips h_far h_queue h_times h_turns h_names h_named h_text h_told h_spare s_hasKept s_pasts s_pathMoves s_spot 0 ex.1 s_queued s_length s_at s_error s_tolds s_number s_g ex.2.1 ex.2.2.1 ex.2.2.2.1 ex.2.2.2.2.1) H locs → W p l e (RM 8 176) s m args below meth c H locs 0 0 Q (F0 m 45 ls [])) → W p l e (RM 8 176) s m args below meth c H locs 0 0 Q (F0 m 9 ls []) := by
    intro n
    induction n with
    | zero => intro s_faulty_9 s_pose_9 s_way_9 s_px_9 s_py_9 z1_9 z2_9 ex H locs ls h9; exact (ob_lp0 h9).elim
    | succ n ih =>
      intro s_faulty_9 s_pose_9 s_way_9 s_px_9 s_py_9 z1_9 z2_9 ex H locs ls h9 hl hW kx0
      obtain ⟨q9, hf, h9, k9⟩ := ob_lp h9
      have hf : f_X8_moves_B9 0 s_faulty_9 s_g s_pose_9 s_way_9 s_px_9 s_py_9 z1_9 z2_9 = some q9 := hf
      unfold f_X8_moves_B9 at hf
      refine lv_iload_n hx hb dX8_moves_9 rfl (lv_at hl 2 rfl) ?_
      refine lv_iconst (v := 2) hx hb dX8_moves_10 (by decide) ?_
      refine lv_aload_n hx hb dX8_moves_11 rfl (lv_at hl 0 rfl) ?_
      refine q_get hF hK hW fl_X8_7 0 rfl rfl dX8_moves_12 ?_
      refine lv_iconst (v := 0) hx hb dX8_moves_15 (by decide) ?_
      refine q_iald hx hb hK hW 1 0 rfl rfl dX8_moves_16 hf (fun hf => ?_)
      refine lv_imul hx hb dX8_moves_17 ?_
      refine q_icmp_ge (tgt := 45) hx hb dX8_moves_18 (by decide) hf (fun hf => ?_) (fun hf => ?_)
      · cases hf
        have hx9 := k9 _ rfl
        subst hx9
        exact kx0 _ _ _ (lv_sub hl [1] rfl) hW
      · refine lv_iload_n hx hb dX8_moves_21 rfl (lv_at hl 1 rfl) ?_
        refine lv_aload_n hx hb dX8_moves_22 rfl (lv_at hl 0 rfl) ?_
        refine lv_iload_n hx hb dX8_moves_23 rfl (lv_at hl 2 rfl) ?_
        obtain ⟨o_1, hc_1, hf⟩ := ob_bind hf
        refine q_callI hF hl.1 hK hA hZ hW mv_X8_mayMove ml_X8_206 (c_X8_mayMove l D E tx h_ h_g h_kept h_past h_path h_pose h_way h_px h_py h_free h_tips h_far h_queue h_times h_turns h_names h_named h_text h_told h_spare s_hasKept s_pasts s_pathMoves s_spot 0 s_faulty_9 s_queued s_length s_at s_error s_tolds s_number s_g s_pose_9 s_way_9 s_px_9 s_py_9 z2_9 o_1.1 o_1.2.1 o_1.2.2.1 o_1.2.2.2.1 o_1.2.2.2.2.1 o_1.2.2.2.2.2 hc_1) [0, 1, 2, 3, 4, 5] rfl rfl rfl rfl rfl rfl ⟨Nat.le_of_ble_eq_true rfl, Nat.le_of_ble_eq_true rfl⟩ ⟨Nat.le_of_ble_eq_true rfl, Nat.le_of_ble_eq_true rfl⟩ rfl rfl (Nat.le_of_ble_eq_true rfl) dX8_moves_24 (fun H locs hW => ?_)
        have hW : WD D A s (w_X8_moves E h_ h_g h_kept h_past h_path h_pose h_way h_px h_py h_free h_tips h_far h_queue h_times h_turns h_names h_named h_text h_told h_spare s_hasKept s_pasts s_pathMoves s_spot 0 o_1.2.1 s_queued s_length s_at s_error s_tolds s_number s_g o_1.2.2.1 o_1.2.2.2.1 o_1.2.2.2.2.1 o_1.2.2.2.2.2) H locs := hW
        refine q_if_eq (tgt := 36) hx hb dX8_moves_27 (by decide) hf (fun hf => ?_) (fun hf => ?_)
        · refine lv_iconst (v := 0) hx hb dX8_moves_36 (by decide) ?_
          refine lv_ior hx hb dX8_moves_37 ?_
          refine lv_topi (fun v_2 ev_2 => ?_)
          replace hf := ob_let hf ev_2
          refine lv_istore_n (lv' := [(1, .int v_2), (0, .ref h_), (2, .int z2_9)]) hx hb dX8_moves_38 rfl hl (by decide) rfl (fun ls hl => ?_)
          obtain ⟨v_3, ev_3⟩ : ∃ y : Int32, y = z2_9 + 1 := ⟨_, rfl⟩
          replace hf := ob_let hf ev_3
          refine lv_iinc (v := v_3) (lv' := [(2, .int v_3), (1, .int v_2), (0, .ref h_)]) hx hb dX8_moves_39 hl (k := 2) rfl (by rw [ev_3]; rfl) (by decide) rfl (fun ls hl => ?_)
          refine lv_goto (tgt := 9) hx hb dX8_moves_42 (by decide) ?_
          cases hf
          exact ih o_1.2.1 o_1.2.2.1 o_1.2.2.2.1 o_1.2.2.2.2.1 o_1.2.2.2.2.2 v_2 v_3 ex _ _ _ (h9 _ rfl) (lv_sub hl [2, 1, 0] rfl) hW kx0
        · refine lv_iconst (v := 1) hx hb dX8_moves_30 (by decide) ?_
          refine lv_iload_n hx hb dX8_moves_31 rfl (lv_at hl 2 rfl) ?_
          refine lv_ishl hx hb dX8_moves_32 ?_
          refine lv_goto (tgt := 37) hx hb dX8_moves_33 (by decide) ?_
          refine lv_ior hx hb dX8_moves_37 ?_
          refine lv_topi (fun v_4 ev_4 => ?_)
          replace hf := ob_let hf ev_4
          refine lv_istore_n (lv' := [(1, .int v_4), (0, .ref h_), (2, .int z2_9)]) hx hb dX8_moves_38 rfl hl (by decide) rfl (fun ls hl => ?_)
          obtain ⟨v_5, ev_5⟩ : ∃ y : Int32, y = z2_9 + 1 := ⟨_, rfl⟩
          replace hf := ob_let hf ev_5
          refine lv_iinc (v := v_5) (lv' := [(2, .int v_5), (1, .int v_4), (0, .ref h_)]) hx hb dX8_moves_39 hl (k := 2) rfl (by rw [ev_5]; rfl) (by decide) rfl (fun ls hl => ?_)
          refine lv_goto (tgt := 9) hx hb dX8_moves_42 (by decide) ?_
          cases hf
          exact ih o_1.2.1 o_1.2.2.1 o_1.2.2.2.1 o_1.2.2.2.2.1 o_1.2.2.2.2.2 v_4 v_5 ex _ _ _ (h9 _ rfl) (lv_sub hl [2, 1, 0] rfl) hW kx0
  obtain ⟨e_6, hc_6, hf⟩ := ob_bind hf
  refine hB9 lfuel s_faulty s_pose s_way s_px s_py 0 0 e_6 _ _ _ hc_6 (lv_sub hl [2, 1, 0] rfl) hW ?_
  intro H locs ls hl hW
  refine lv_iload_n hx hb dX8_moves_45 rfl (lv_at hl 0 rfl) ?_
  cases hf
  exact hret dX8_moves_46 rfl rfl hW
def w_X8_tip (E : Nat → ClassId) (h_ h_g h_kept h_past h_path h_pose h_way h_px h_py h_free h_tips h_far h_queue h_times h_turns h_names h_named h_text h_told h_spare : Nat) (s_hasKept : Int32) (s_pasts : Int32) (s_pathMoves : Int32) (s_spot : Int32) (s_thrown : Int32) (s_faulty : Int32) (s_queued : Int32) (s_length : Int32) (s_at : Int32) (s_error : Int32) (s_tolds : Int32) (s_number : Int32) (s_g : Nat → Int32) (s_pose : Nat → Int32) (s_way : Nat → Int32) (s_px : Nat → Int32) (s_py : Nat → Int32) : va_W := [(h_, .inr (10, [.ref h_g, .ref h_kept, .int s_hasKept, .ref h_past, .int s_pasts, .ref h_path, .int s_pathMoves, .int s_spot, .int s_thrown, .ref h_pose, .ref h_way, .ref h_px, .ref h_py, .int s_faulty, .ref h_free, .ref h_tips, .ref h_far, .ref h_queue, .int s_queued, .ref h_times, .ref h_turns, .ref h_names, .ref h_named, .ref h_text, .int s_length, .int s_at, .int s_error, .ref h_told, .int s_tolds, .int s_number, .ref h_spare])), (h_g, .inl (E 0, 141, .inl s_g)), (h_pose, .inl (E 0, 4, .inl s_pose)), (h_way, .inl (E 0, 4, .inl s_way)), (h_px, .inl (E 0, 5, .inl s_px)), (h_py, .inl (E 0, 5, .inl s_py))]
set_option maxHeartbeats 4000000 in
set_option maxRecDepth 100000 in
theorem c_X8_tip (l : Launch) (D : va_G) (E : Nat → ClassId) (tx : List (Nat × String)) (h_ h_g h_kept h_past h_path h_pose h_way h_px h_py h_free h_tips h_far h_queue h_times h_turns h_names h_named h_text h_told h_spare : Nat) (s_hasKept : Int32) (s_pasts : Int32) (s_pathMoves : Int32) (s_spot : Int32) (s_thrown : Int32) (s_faulty : Int32) (s_queued : Int32) (s_length : Int32) (s_at : Int32) (s_error : Int32) (s_tolds : Int32) (s_number : Int32) (s_g : Nat → Int32) (s_pose : Nat → Int32) (s_way : Nat → Int32) (s_px : Nat → Int32) (s_py : Nat → Int32) (x1 : Int32) (r0 : Int32) (r1 : Int32) (r2 : Nat → Int32) (r3 : Nat → Int32) (r4 : Nat → Int32) (r5 : Nat → Int32) (hf : f_X8_tip s_thrown s_g s_pose s_way s_px s_py x1 = some (r0, r1, r2, r3, r4, r5)) : CI l yX8_tip cX8_tip 2 (some .int) 3 64 D E tx [.ref h_, .int x1] (w_X8_tip E h_ h_g h_kept h_past h_path h_pose h_way h_px h_py h_free h_tips h_far h_queue h_times h_turns h_names h_named h_text h_told h_spare s_hasKept s_pasts s_pathMoves s_spot s_thrown s_faulty s_queued s_length s_at s_error s_tolds s_number s_g s_pose s_way s_px s_py) (w_X8_tip E h_ h_g h_kept h_past h_path h_pose h_way h_px h_py h_free h_tips h_far h_queue h_times h_turns h_names h_named h_text h_told h_spare s_hasKept s_pasts s_pathMoves s_spot r1 s_faulty s_queued s_length s_at s_error s_tolds s_number s_g r2 r3 r4 r5) r0 := by
  refine CI_of RX8 pn_X8 rfl (Nat.le_of_ble_eq_true rfl) (fun p e s m args below meth c A Q hF hK hA hZ hW hret ls hl => ?_)
  have hx := hF.1
  have hb := hF.2.1
  have hl : lv_has ls 2 [(0, .ref h_), (1, .int x1)] := hl
  unfold f_X8_tip at hf
  refine lv_aload_n hx hb dX8_tip_0 rfl (lv_at hl 0 rfl) ?_
  refine lv_iconst (v := 0) hx hb dX8_tip_1 (by decide) ?_
  refine q_put hF hK hW fl_X8_76 ft_X8 rfl 0 rfl rfl rfl (Nat.le_of_ble_eq_true rfl) dX8_tip_2 (fun H locs hW => ?_)
  have hW : WD D A s (w_X8_tip E h_ h_g h_kept h_past h_path h_pose h_way h_px h_py h_free h_tips h_far h_queue h_times h_turns h_names h_named h_text h_told h_spare s_hasKept s_pasts s_pathMoves s_spot 0 s_faulty s_queued s_length s_at s_error s_tolds s_number s_g s_pose s_way s_px s_py) H locs := hW
  refine lv_aload_n hx hb dX8_tip_5 rfl (lv_at hl 0 rfl) ?_
  obtain ⟨o_1, hc_1, hf⟩ := ob_bind hf
  refine q_callV hF hl.1 hK hA hZ hW mv_X8_now ml_X8_187 (c_X8_now l D E tx h_ h_g h_kept h_past h_path h_pose h_way h_px h_py h_free h_tips h_far h_queue h_times h_turns h_names h_named h_text h_told h_spare s_hasKept s_pasts s_pathMoves s_spot 0 s_faulty s_queued s_length s_at s_error s_tolds s_number s_g s_pose s_way s_px s_py o_1.1 o_1.2.1 o_1.2.2.1 o_1.2.2.2 hc_1) [0, 1, 2, 3, 4, 5] rfl rfl rfl rfl rfl rfl ⟨Nat.le_of_ble_eq_true rfl, Nat.le_of_ble_eq_true rfl⟩ ⟨Nat.le_of_ble_eq_true rfl, Nat.le_of_ble_eq_true rfl⟩ rfl rfl (Nat.le_of_ble_eq_true rfl) dX8_tip_6 (fun H locs hW => ?_)
  have hW : WD D A s (w_X8_tip E h_ h_g h_kept h_past h_path h_pose h_way h_px h_py h_free h_tips h_far h_queue h_times h_turns h_names h_named h_text h_told h_spare s_hasKept s_pasts s_pathMoves s_spot 0 s_faulty s_queued s_length s_at s_error s_tolds s_number s_g o_1.1 o_1.2.1 o_1.2.2.1 o_1.2.2.2) H locs := hW
  refine lv_iload_n hx hb dX8_tip_9 rfl (lv_at hl 1 rfl) ?_
  refine q_if_eq (tgt := 27) hx hb dX8_tip_10 (by decide) hf (fun hf => ?_) (fun hf => ?_)
  · refine lv_aload_n hx hb dX8_tip_27 rfl (lv_at hl 0 rfl) ?_
    refine q_get hF hK hW fl_X8_32 0 rfl rfl dX8_tip_28 ?_
    refine lv_aload_n hx hb dX8_tip_31 rfl (lv_at hl 0 rfl) ?_
    refine q_get hF hK hW fl_X8_7 0 rfl rfl dX8_tip_32 ?_
    refine lv_iconst (v := 0) hx hb dX8_tip_35 (by decide) ?_
    refine q_iald hx hb hK hW 1 0 rfl rfl dX8_tip_36 hf (fun hf => ?_)
    refine q_iald hx hb hK hW 4 0 rfl rfl dX8_tip_37 hf (fun hf => ?_)
    cases hf
    exact hret dX8_tip_38 rfl rfl hW
  · refine lv_aload_n hx hb dX8_tip_13 rfl (lv_at hl 0 rfl) ?_
    refine q_get hF hK hW fl_X8_35 0 rfl rfl dX8_tip_14 ?_
    refine lv_aload_n hx hb dX8_tip_17 rfl (lv_at hl 0 rfl) ?_
    refine q_get hF hK hW fl_X8_7 0 rfl rfl dX8_tip_18 ?_
    refine lv_iconst (v := 0) hx hb dX8_tip_21 (by decide) ?_
    refine q_iald hx hb hK hW 1 0 rfl rfl dX8_tip_22 hf (fun hf => ?_)
    refine q_iald hx hb hK hW 5 0 rfl rfl dX8_tip_23 hf (fun hf => ?_)
    refine lv_goto (tgt := 38) hx hb dX8_tip_24 (by decide) ?_
    cases hf
    exact hret dX8_tip_38 rfl rfl hW
def w_X8_fault (E : Nat → ClassId) (h_ h_g h_kept h_past h_path h_pose h_way h_px h_py h_free h_tips h_far h_queue h_times h_turns h_names h_named h_text h_told h_spare : Nat) (s_hasKept : Int32) (s_pasts : Int32) (s_pathMoves : Int32) (s_spot : Int32) (s_thrown : Int32) (s_faulty : Int32) (s_queued : Int32) (s_length : Int32) (s_at : Int32) (s_error : Int32) (s_tolds : Int32) (s_number : Int32) (s_g : Nat → Int32) (s_pose : Nat → Int32) (s_way : Nat → Int32) (s_px : Nat → Int32) (s_py : Nat → Int32) : va_W := [(h_, .inr (10, [.ref h_g, .ref h_kept, .int s_hasKept, .ref h_past, .int s_pasts, .ref h_path, .int s_pathMoves, .int s_spot, .int s_thrown, .ref h_pose, .ref h_way, .ref h_px, .ref h_py, .int s_faulty, .ref h_free, .ref h_tips, .ref h_far, .ref h_queue, .int s_queued, .ref h_times, .ref h_turns, .ref h_names, .ref h_named, .ref h_text, .int s_length, .int s_at, .int s_error, .ref h_told, .int s_tolds, .int s_number, .ref h_spare])), (h_g, .inl (E 0, 141, .inl s_g)), (h_pose, .inl (E 0, 4, .inl s_pose)), (h_way, .inl (E 0, 4, .inl s_way)), (h_px, .inl (E 0, 5, .inl s_px)), (h_py, .inl (E 0, 5, .inl s_py))]
set_option maxHeartbeats 4000000 in
set_option maxRecDepth 100000 in
theorem c_X8_fault (l : Launch) (D : va_G) (E : Nat → ClassId) (tx : List (Nat × String)) (h_ h_g h_kept h_past h_path h_pose h_way h_px h_py h_free h_tips h_far h_queue h_times h_turns h_names h_named h_text h_told h_spare : Nat) (s_hasKept : Int32) (s_pasts : Int32) (s_pathMoves : Int32) (s_spot : Int32) (s_thrown : Int32) (s_faulty : Int32) (s_queued : Int32) (s_length : Int32) (s_at : Int32) (s_error : Int32) (s_tolds : Int32) (s_number : Int32) (s_g : Nat → Int32) (s_pose : Nat → Int32) (s_way : Nat → Int32) (s_px : Nat → Int32) (s_py : Nat → Int32)  (r0 : Int32) (r1 : Int32) (r2 : Int32) (r3 : Nat → Int32) (r4 : Nat → Int32) (r5 : Nat → Int32) (r6 : Nat → Int32) (hf : f_X8_fault s_thrown s_faulty s_g s_pose s_way s_px s_py = some (r0, r1, r2, r3, r4, r5, r6)) : CI l yX8_fault cX8_fault 1 (some .int) 5 113 D E tx [.ref h_] (w_X8_fault E h_ h_g h_kept h_past h_path h_pose h_way h_px h_py h_free h_tips h_far h_queue h_times h_turns h_names h_named h_text h_told h_spare s_hasKept s_pasts s_pathMoves s_spot s_thrown s_faulty s_queued s_length s_at s_error s_tolds s_number s_g s_pose s_way s_px s_py) (w_X8_fault E h_ h_g h_kept h_past h_path h_pose h_way h_px h_py h_free h_tips h_far h_queue h_times h_turns h_names h_named h_text h_told h_spare s_hasKept s_pasts s_pathMoves s_spot r1 r2 s_queued s_length s_at s_error s_tolds s_number s_g r3 r4 r5 r6) r0 := by
  refine CI_of RX8 pn_X8 rfl (Nat.le_of_ble_eq_true rfl) (fun p e s m args below meth c A Q hF hK hA hZ hW hret ls hl => ?_)
  have hx := hF.1
  have hb := hF.2.1
  have hl : lv_has ls 1 [(0, .ref h_)] := hl
  unfold f_X8_fault at hf
  refine lv_aload_n hx hb dX8_fault_0 rfl (lv_at hl 0 rfl) ?_
  refine lv_iconst (v := 0) hx hb dX8_fault_1 (by decide) ?_
  refine q_put hF hK hW fl_X8_76 ft_X8 rfl 0 rfl rfl rfl (Nat.le_of_ble_eq_true rfl) dX8_fault_2 (fun H locs hW => ?_)
  have hW : WD D A s (w_X8_fault E h_ h_g h_kept h_past h_path h_pose h_way h_px h_py h_free h_tips h_far h_queue h_times h_turns h_names h_named h_text h_told h_spare s_hasKept s_pasts s_pathMoves s_spot 0 s_faulty s_queued s_length s_at s_error s_tolds s_number s_g s_pose s_way s_px s_py) H locs := hW
  refine lv_aload_n hx hb dX8_fault_5 rfl (lv_at hl 0 rfl) ?_
  obtain ⟨o_1, hc_1, hf⟩ := ob_bind hf
  refine q_callV hF hl.1 hK hA hZ hW mv_X8_now ml_X8_187 (c_X8_now l D E tx h_ h_g h_kept h_past h_path h_pose h_way h_px h_py h_free h_tips h_far h_queue h_times h_turns h_names h_named h_text h_told h_spare s_hasKept s_pasts s_pathMoves s_spot 0 s_faulty s_queued s_length s_at s_error s_tolds s_number s_g s_pose s_way s_px s_py o_1.1 o_1.2.1 o_1.2.2.1 o_1.2.2.2 hc_1) [0, 1, 2, 3, 4, 5] rfl rfl rfl rfl rfl rfl ⟨Nat.le_of_ble_eq_true rfl, Nat.le_of_ble_eq_true rfl⟩ ⟨Nat.le_of_ble_eq_true rfl, Nat.le_of_ble_eq_true rfl⟩ rfl rfl (Nat.le_of_ble_eq_true rfl) dX8_fault_6 (fun H locs hW => ?_)
  have hW : WD D A s (w_X8_fault E h_ h_g h_kept h_past h_path h_pose h_way h_px h_py h_free h_tips h_far h_queue h_times h_turns h_names h_named h_text h_told h_spare s_hasKept s_pasts s_pathMoves s_spot 0 s_faulty s_queued s_length s_at s_error s_tolds s_number s_g o_1.1 o_1.2.1 o_1.2.2.1 o_1.2.2.2) H locs := hW
  refine lv_aload_n hx hb dX8_fault_9 rfl (lv_at hl 0 rfl) ?_
  obtain ⟨o_2, hc_2, hf⟩ := ob_bind hf
  refine q_callI hF hl.1 hK hA hZ hW mv_X8_faultHere ml_X8_178 (c_X8_faultHere l D E tx h_ h_g h_kept h_past h_path h_pose h_way h_px h_py h_free h_tips h_far h_queue h_times h_turns h_names h_named h_text h_told h_spare s_hasKept s_pasts s_pathMoves s_spot 0 s_faulty s_queued s_length s_at s_error s_tolds s_number s_g o_1.2.1 o_1.2.2.1 o_1.2.2.2 o_2.1 o_2.2 hc_2) [0, 1, 3, 4, 5] rfl rfl rfl rfl rfl rfl ⟨Nat.le_of_ble_eq_true rfl, Nat.le_of_ble_eq_true rfl⟩ ⟨Nat.le_of_ble_eq_true rfl, Nat.le_of_ble_eq_true rfl⟩ rfl rfl (Nat.le_of_ble_eq_true rfl) dX8_fault_10 (fun H locs hW => ?_)
  have hW : WD D A s (w_X8_fault E h_ h_g h_kept h_past h_path h_pose h_way h_px h_py h_free h_tips h_far h_queue h_times h_turns h_names h_named h_text h_told h_spare s_hasKept s_pasts s_pathMoves s_spot 0 o_2.2 s_queued s_length s_at s_error s_tolds s_number s_g o_1.1 o_1.2.1 o_1.2.2.1 o_1.2.2.2) H locs := hW
  cases hf
  exact hret dX8_fault_13 rfl rfl hW
def w_X8_faultyLink (E : Nat → ClassId) (h_ h_g h_kept h_past h_path h_pose h_way h_px h_py h_free h_tips h_far h_queue h_times h_turns h_names h_named h_text h_told h_spare : Nat) (s_hasKept : Int32) (s_pasts : Int32) (s_pathMoves : Int32) (s_spot : Int32) (s_thrown : Int32) (s_faulty : Int32) (s_queued : Int32) (s_length : Int32) (s_at : Int32) (s_error : Int32) (s_tolds : Int32) (s_number : Int32) (s_g : Nat → Int32) (s_pose : Nat → Int32) (s_way : Nat → Int32) (s_px : Nat → Int32) (s_py : Nat → Int32) : va_W := [(h_, .inr (10, [.ref h_g, .ref h_kept, .int s_hasKept, .ref h_past, .int s_pasts, .ref h_path, .int s_pathMoves, .int s_spot, .int s_thrown, .ref h_pose, .ref h_way, .ref h_px, .ref h_py, .int s_faulty, .ref h_free, .ref h_tips, .ref h_far, .ref h_queue, .int s_queued, .ref h_times, .ref h_turns, .ref h_names, .ref h_named, .ref h_text, .int s_length, .int s_at, .int s_error, .ref h_told, .int s_tolds, .int s_number, .ref h_spare])), (h_g, .inl (E 0, 141, .inl s_g)), (h_pose, .inl (E 0, 4, .inl s_pose)), (h_way, .inl (E 0, 4, .inl s_way)), (h_px, .inl (E 0, 5, .inl s_px)), (h_py, .inl (E 0, 5, .inl s_py))]
set_option maxHeartbeats 4000000 in
set_option maxRecDepth 100000 in
theorem c_X8_faultyLink (l : Launch) (D : va_G) (E : Nat → ClassId) (tx : List (Nat × String)) (h_ h_g h_kept h_past h_path h_pose h_way h_px h_py h_free h_tips h_far h_queue h_times h_turns h_names h_named h_text h_told h_spare : Nat) (s_hasKept : Int32) (s_pasts : Int32) (s_pathMoves : Int32) (s_spot : Int32) (s_thrown : Int32) (s_faulty : Int32) (s_queued : Int32) (s_length : Int32) (s_at : Int32) (s_error : Int32) (s_tolds : Int32) (s_number : Int32) (s_g : Nat → Int32) (s_pose : Nat → Int32) (s_way : Nat → Int32) (s_px : Nat → Int32) (s_py : Nat → Int32)  (r0 : Int32) (r1 : Int32) (r2 : Int32) (r3 : Nat → Int32) (r4 : Nat → Int32) (r5 : Nat → Int32) (r6 : Nat → Int32) (hf : f_X8_faultyLink s_thrown s_faulty s_g s_pose s_way s_px s_py = some (r0, r1, r2, r3, r4, r5, r6)) : CI l yX8_faultyLink cX8_faultyLink 1 (some .int) 5 113 D E tx [.ref h_] (w_X8_faultyLink E h_ h_g h_kept h_past h_path h_pose h_way h_px h_py h_free h_tips h_far h_queue h_times h_turns h_names h_named h_text h_told h_spare s_hasKept s_pasts s_pathMoves s_spot s_thrown s_faulty s_queued s_length s_at s_error s_tolds s_number s_g s_pose s_way s_px s_py) (w_X8_faultyLink E h_ h_g h_kept h_past h_path h_pose h_way h_px h_py h_free h_tips h_far h_queue h_times h_turns h_names h_named h_text h_told h_spare s_hasKept s_pasts s_pathMoves s_spot r1 r2 s_queued s_length s_at s_error s_tolds s_number s_g r3 r4 r5 r6) r0 := by
  refine CI_of RX8 pn_X8 rfl (Nat.le_of_ble_eq_true rfl) (fun p e s m args below meth c A Q hF hK hA hZ hW hret ls hl => ?_)
  have hx := hF.1
  have hb := hF.2.1
  have hl : lv_has ls 1 [(0, .ref h_)] := hl
  unfold f_X8_faultyLink at hf
  refine lv_aload_n hx hb dX8_faultyLink_0 rfl (lv_at hl 0 rfl) ?_
  refine lv_iconst (v := 0) hx hb dX8_faultyLink_1 (by decide) ?_
  refine q_put hF hK hW fl_X8_76 ft_X8 rfl 0 rfl rfl rfl (Nat.le_of_ble_eq_true rfl) dX8_faultyLink_2 (fun H locs hW => ?_)
  have hW : WD D A s (w_X8_faultyLink E h_ h_g h_kept h_past h_path h_pose h_way h_px h_py h_free h_tips h_far h_queue h_times h_turns h_names h_named h_text h_told h_spare s_hasKept s_pasts s_pathMoves s_spot 0 s_faulty s_queued s_length s_at s_error s_tolds s_number s_g s_pose s_way s_px s_py) H locs := hW
  refine lv_aload_n hx hb dX8_faultyLink_5 rfl (lv_at hl 0 rfl) ?_
  obtain ⟨o_1, hc_1, hf⟩ := ob_bind hf
  refine q_callV hF hl.1 hK hA hZ hW mv_X8_now ml_X8_187 (c_X8_now l D E tx h_ h_g h_kept h_past h_path h_pose h_way h_px h_py h_free h_tips h_far h_queue h_times h_turns h_names h_named h_text h_told h_spare s_hasKept s_pasts s_pathMoves s_spot 0 s_faulty s_queued s_length s_at s_error s_tolds s_number s_g s_pose s_way s_px s_py o_1.1 o_1.2.1 o_1.2.2.1 o_1.2.2.2 hc_1) [0, 1, 2, 3, 4, 5] rfl rfl rfl rfl rfl rfl ⟨Nat.le_of_ble_eq_true rfl, Nat.le_of_ble_eq_true rfl⟩ ⟨Nat.le_of_ble_eq_true rfl, Nat.le_of_ble_eq_true rfl⟩ rfl rfl (Nat.le_of_ble_eq_true rfl) dX8_faultyLink_6 (fun H locs hW => ?_)
  have hW : WD D A s (w_X8_faultyLink E h_ h_g h_kept h_past h_path h_pose h_way h_px h_py h_free h_tips h_far h_queue h_times h_turns h_names h_named h_text h_told h_spare s_hasKept s_pasts s_pathMoves s_spot 0 s_faulty s_queued s_length s_at s_error s_tolds s_number s_g o_1.1 o_1.2.1 o_1.2.2.1 o_1.2.2.2) H locs := hW
  refine lv_aload_n hx hb dX8_faultyLink_9 rfl (lv_at hl 0 rfl) ?_
  obtain ⟨o_2, hc_2, hf⟩ := ob_bind hf
  refine q_callI hF hl.1 hK hA hZ hW mv_X8_faultHere ml_X8_178 (c_X8_faultHere l D E tx h_ h_g h_kept h_past h_path h_pose h_way h_px h_py h_free h_tips h_far h_queue h_times h_turns h_names h_named h_text h_told h_spare s_hasKept s_pasts s_pathMoves s_spot 0 s_faulty s_queued s_length s_at s_error s_tolds s_number s_g o_1.2.1 o_1.2.2.1 o_1.2.2.2 o_2.1 o_2.2 hc_2) [0, 1, 3, 4, 5] rfl rfl rfl rfl rfl rfl ⟨Nat.le_of_ble_eq_true rfl, Nat.le_of_ble_eq_true rfl⟩ ⟨Nat.le_of_ble_eq_true rfl, Nat.le_of_ble_eq_true rfl⟩ rfl rfl (Nat.le_of_ble_eq_true rfl) dX8_faultyLink_10 (fun H locs hW => ?_)
  have hW : WD D A s (w_X8_faultyLink E h_ h_g h_kept h_past h_path h_pose h_way h_px h_py h_free h_tips h_far h_queue h_times h_turns h_names h_named h_text h_told h_spare s_hasKept s_pasts s_pathMoves s_spot 0 o_2.2 s_queued s_length s_at s_error s_tolds s_number s_g o_1.1 o_1.2.1 o_1.2.2.1 o_1.2.2.2) H locs := hW
  refine q_if_ne (tgt := 24) hx hb dX8_faultyLink_13 (by decide) hf (fun hf => ?_) (fun hf => ?_)
  · refine lv_aload_n hx hb dX8_faultyLink_24 rfl (lv_at hl 0 rfl) ?_
    refine q_get hF hK hW fl_X8_171 0 rfl rfl dX8_faultyLink_25 ?_
    cases hf
    exact hret dX8_faultyLink_28 rfl rfl hW
  · refine lv_aload_n hx hb dX8_faultyLink_16 rfl (lv_at hl 0 rfl) ?_
    refine lv_iconst (v := 1) hx hb dX8_faultyLink_17 (by decide) ?_
    obtain ⟨o_3, hc_3, hf⟩ := ob_bind hf
    refine q_callI hF hl.1 hK hA hZ hW mv_X8_fails ml_X8_86 (c_X8_fails l D E tx h_ h_g h_kept h_past h_path h_pose h_way h_px h_py h_free h_tips h_far h_queue h_times h_turns h_names h_named h_text h_told h_spare s_hasKept s_pasts s_pathMoves s_spot 0 o_2.2 s_queued s_length s_at s_error s_tolds s_number 1 o_3.1 o_3.2 hc_3) [0] rfl rfl rfl rfl rfl rfl ⟨Nat.le_of_ble_eq_true rfl, Nat.le_of_ble_eq_true rfl⟩ ⟨Nat.le_of_ble_eq_true rfl, Nat.le_of_ble_eq_true rfl⟩ rfl rfl (Nat.le_of_ble_eq_true rfl) dX8_faultyLink_18 (fun H locs hW => ?_)
    have hW : WD D A s (w_X8_faultyLink E h_ h_g h_kept h_past h_path h_pose h_way h_px h_py h_free h_tips h_far h_queue h_times h_turns h_names h_named h_text h_told h_spare s_hasKept s_pasts s_pathMoves s_spot o_3.2 o_2.2 s_queued s_length s_at s_error s_tolds s_number s_g o_1.1 o_1.2.1 o_1.2.2.1 o_1.2.2.2) H locs := hW
    refine lv_goto (tgt := 28) hx hb dX8_faultyLink_21 (by decide) ?_
    cases hf
    exact hret dX8_faultyLink_28 rfl rfl hW
def w_X8_linksAt (E : Nat → ClassId) (h_ h_g h_kept h_past h_path h_pose h_way h_px h_py h_free h_tips h_far h_queue h_times h_turns h_names h_named h_text h_told h_spare : Nat) (s_hasKept : Int32) (s_pasts : Int32) (s_pathMoves : Int32) (s_spot : Int32) (s_thrown : Int32) (s_faulty : Int32) (s_queued : Int32) (s_length : Int32) (s_at : Int32) (s_error : Int32) (s_tolds : Int32) (s_number : Int32) (s_g : Nat → Int32) (s_pose : Nat → Int32) (s_way : Nat → Int32) (s_px : Nat → Int32) (s_py : Nat → Int32) : va_W := [(h_, .inr (10, [.ref h_g, .ref h_kept, .int s_hasKept, .ref h_past, .int s_pasts, .ref h_path, .int s_pathMoves, .int s_spot, .int s_thrown, .ref h_pose, .ref h_way, .ref h_px, .ref h_py, .int s_faulty, .ref h_free, .ref h_tips, .ref h_far, .ref h_queue, .int s_queued, .ref h_times, .ref h_turns, .ref h_names, .ref h_named, .ref h_text, .int s_length, .int s_at, .int s_error, .ref h_told, .int s_tolds, .int s_number, .ref h_spare])), (h_g, .inl (E 0, 141, .inl s_g)), (h_pose, .inl (E 0, 4, .inl s_pose)), (h_way, .inl (E 0, 4, .inl s_way)), (h_px, .inl (E 0, 5, .inl s_px)), (h_py, .inl (E 0, 5, .inl s_py))]
set_option maxHeartbeats 4000000 in
set_option maxRecDepth 100000 in
theorem c_X8_linksAt (l : Launch) (D : va_G) (E : Nat → ClassId) (tx : List (Nat × String)) (h_ h_g h_kept h_past h_path h_pose h_way h_px h_py h_free h_tips h_far h_queue h_times h_turns h_names h_named h_text h_told h_spare : Nat) (s_hasKept : Int32) (s_pasts : Int32) (s_pathMoves : Int32) (s_spot : Int32) (s_thrown : Int32) (s_faulty : Int32) (s_queued : Int32) (s_length : Int32) (s_at : Int32) (s_error : Int32) (s_tolds : Int32) (s_number : Int32) (s_g : Nat → Int32) (s_pose : Nat → Int32) (s_way : Nat → Int32) (s_px : Nat → Int32) (s_py : Nat → Int32) (x1 : Int32) (x2 : Int32) (r0 : Int32) (r1 : Int32) (r2 : Nat → Int32) (r3 : Nat → Int32) (r4 : Nat → Int32) (r5 : Nat → Int32) (hf : f_X8_linksAt s_thrown s_g s_pose s_way s_px s_py x1 x2 = some (r0, r1, r2, r3, r4, r5)) : CI l yX8_linksAt cX8_linksAt 5 (some .int) 3 66 D E tx [.ref h_, .int x1, .int x2] (w_X8_linksAt E h_ h_g h_kept h_past h_path h_pose h_way h_px h_py h_free h_tips h_far h_queue h_times h_turns h_names h_named h_text h_told h_spare s_hasKept s_pasts s_pathMoves s_spot s_thrown s_faulty s_queued s_length s_at s_error s_tolds s_number s_g s_pose s_way s_px s_py) (w_X8_linksAt E h_ h_g h_kept h_past h_path h_pose h_way h_px h_py h_free h_tips h_far h_queue h_times h_turns h_names h_named h_text h_told h_spare s_hasKept s_pasts s_pathMoves s_spot r1 s_faulty s_queued s_length s_at s_error s_tolds s_number s_g r2 r3 r4 r5) r0 := by
  refine CI_of RX8 pn_X8 rfl (Nat.le_of_ble_eq_true rfl) (fun p e s m args below meth c A Q hF hK hA hZ hW hret ls hl => ?_)
  have hx := hF.1
  have hb := hF.2.1
  have hl : lv_has ls 5 [(0, .ref h_), (1, .int x1), (2, .int x2)] := hl
  unfold f_X8_linksAt at hf
  have hL14 : ∀ (s_thrown_14 : Int32) (s_pose_14 : Nat → Int32) (s_way_14 : Nat → Int32) (s_px_14 : Nat → Int32) (s_py_14 : Nat → Int32) (y1_14 : Int32) (y2_14 : Int32) (k1_14 : Int32) (H : Heap) (locs : List Loc) (ls : Array Slot), f_X8_linksAt_L14 s_thrown_14 s_g s_pose_14 s_way_14 s_px_14 s_py_14 y1_14 y2_14 k1_14 = some (r0, r1, r2, r3, r4, r5) → lv_has ls 5 [(0, .ref h_), (1, .int y1_14), (2, .int y2_14)] → WD D A s (w_X8_linksAt E h_ h_g h_kept h_past h_path h_pose h_way h_px h_py h_free h_tips h_far h_queue h_times h_turns h_names h_named h_text h_told h_spare s_hasKept s_pasts s_pathMoves s_spot s_thrown_14 s_faulty s_queued s_length s_at s_error s_tolds s_number s_g s_pose_14 s_way_14 s_px_14 s_py_14) H locs → W p l e (RM 3 66) s m args below meth c H locs 0 0 Q (F0 m 14 ls [.int k1_14, .ref h_]) := by
    intro s_thrown_14 s_pose_14 s_way_14 s_px_14 s_py_14 y1_14 y2_14 k1_14 H locs ls hf hl hW
    unfold f_X8_linksAt_L14 at hf
    refine q_put hF hK hW fl_X8_76 ft_X8 rfl 0 rfl rfl rfl (Nat.le_of_ble_eq_true rfl) dX8_linksAt_14 (fun H locs hW => ?_)
    have hW : WD D A s (w_X8_linksAt E h_ h_g h_kept h_past h_path h_pose h_way h_px h_py h_free h_tips h_far h_queue h_times h_turns h_names h_named h_text h_told h_spare s_hasKept s_pasts s_pathMoves s_spot k1_14 s_faulty s_queued s_length s_at s_error s_tolds s_number s_g s_pose_14 s_way_14 s_px_14 s_py_14) H locs := hW
    refine lv_aload_n hx hb dX8_linksAt_17 rfl (lv_at hl 0 rfl) ?_
    obtain ⟨o_1, hc_1, hf⟩ := ob_bind hf
    refine q_callV hF hl.1 hK hA hZ hW mv_X8_now ml_X8_187 (c_X8_now l D E tx h_ h_g h_kept h_past h_path h_pose h_way h_px h_py h_free h_tips h_far h_queue h_times h_turns h_names h_named h_text h_told h_spare s_hasKept s_pasts s_pathMoves s_spot k1_14 s_faulty s_queued s_length s_at s_error s_tolds s_number s_g s_pose_14 s_way_14 s_px_14 s_py_14 o_1.1 o_1.2.1 o_1.2.2.1 o_1.2.2.2 hc_1) [0, 1, 2, 3, 4, 5] rfl rfl rfl rfl rfl rfl ⟨Nat.le_of_ble_eq_true rfl, Nat.le_of_ble_eq_true rfl⟩ ⟨Nat.le_of_ble_eq_true rfl, Nat.le_of_ble_eq_true rfl⟩ rfl rfl (Nat.le_of_ble_eq_true rfl) dX8_linksAt_18 (fun H locs hW => ?_)
    have hW : WD D A s (w_X8_linksAt E h_ h_g h_kept h_past h_path h_pose h_way h_px h_py h_free h_tips h_far h_queue h_times h_turns h_names h_named h_text h_told h_spare s_hasKept s_pasts s_pathMoves s_spot k1_14 s_faulty s_queued s_length s_at s_error s_tolds s_number s_g o_1.1 o_1.2.1 o_1.2.2.1 o_1.2.2.2) H locs := hW
    refine lv_iconst (v := 0) hx hb dX8_linksAt_21 (by decide) ?_
    refine lv_istore_n (lv' := [(3, .int 0), (0, .ref h_), (1, .int y1_14), (2, .int y2_14)]) hx hb dX8_linksAt_22 rfl hl (by decide) rfl (fun ls hl => ?_)
    refine lv_iconst (v := 0) hx hb dX8_linksAt_23 (by decide) ?_
    refine lv_istore (lv' := [(4, .int 0), (3, .int 0), (0, .ref h_), (1, .int y1_14), (2, .int y2_14)]) hx hb dX8_linksAt_24 hl (by decide) rfl (fun ls hl => ?_)
    have hB26 : ∀ (n : Nat) (z3_26 : Int32) (z4_26 : Int32) (ex : Int32) (H : Heap) (locs : List Loc) (ls : Array Slot), LPF (fun z => f_X8_linksAt_B26 k1_14 s_g o_1.1 o_1.2.1 o_1.2.2.1 o_1.2.2.2 y1_14 y2_14 z.1 z.2) n (z3_26, z4_26) = some ex → lv_has ls 5 [(0, .ref h_), (1, .int y1_14), (2, .int y2_14), (3, .int z3_26), (4, .int z4_26)] → WD D A s (w_X8_linksAt E h_ h_g h_kept h_past h_path h_pose h_way h_px h_py h_free h_tips h_far h_queue h_times h_turns h_names h_named h_text h_told h_spare s_hasKept s_pasts s_pathMoves s_spot k1_14 s_faulty s_queued s_length s_at s_error s_tolds s_number s_g o_1.1 o_1.2.1 o_1.2.2.1 o_1.2.2.2) H locs → (∀ (H : Heap) (locs : List Loc) (ls : Array Slot), lv_has ls 5 [(3, .int ex)] → WD D A s (w_X8_linksAt E h_ h_g h_kept h_past h_path h_pose h_way h_px h_py h_free h_tips h_far h_queue h_times h_turns h_names h_named h_text h_told h_spare s_hasKept s_pasts s_pathMoves s_spot k1_14 s_faulty s_queued s_length s_at s_error s_tolds s_number s_g o_1.1 o_1.2.1 o_1.2.2.1 o_1.2.2.2) H locs → W p l e (RM 3 66) s m args below meth c H locs 0 0 Q (F0 m 72 ls [])) → W p l e (RM 3 66) s m args below meth c H locs 0 0 Q (F0 m 26 ls []) := by
      intro n
      induction n with
      | zero => intro z3_26 z4_26 ex H locs ls h9; exact (ob_lp0 h9).elim
      | succ n ih =>
        intro z3_26 z4_26 ex H locs ls h9 hl hW kx0
        obtain ⟨q9, hf, h9, k9⟩ := ob_lp h9
        have hf : f_X8_linksAt_B26 k1_14 s_g o_1.1 o_1.2.1 o_1.2.2.1 o_1.2.2.2 y1_14 y2_14 z3_26 z4_26 = some q9 := hf
        unfold f_X8_linksAt_B26 at hf
        refine lv_iload hx hb dX8_linksAt_26 (lv_at hl 4 rfl) ?_
        refine lv_aload_n hx hb dX8_linksAt_28 rfl (lv_at hl 0 rfl) ?_
        refine q_get hF hK hW fl_X8_7 0 rfl rfl dX8_linksAt_29 ?_
        refine lv_iconst (v := 0) hx hb dX8_linksAt_32 (by decide) ?_
        refine q_iald hx hb hK hW 1 0 rfl rfl dX8_linksAt_33 hf (fun hf => ?_)
        refine q_icmp_ge (tgt := 72) hx hb dX8_linksAt_34 (by decide) hf (fun hf => ?_) (fun hf => ?_)
        · cases hf
          have hx9 := k9 _ rfl
          subst hx9
          exact kx0 _ _ _ (lv_sub hl [3] rfl) hW
        · refine lv_aload_n hx hb dX8_linksAt_37 rfl (lv_at hl 0 rfl) ?_
          refine q_get hF hK hW fl_X8_76 0 rfl rfl dX8_linksAt_38 ?_
          refine q_if_ne (tgt := 72) hx hb dX8_linksAt_41 (by decide) hf (fun hf => ?_) (fun hf => ?_)
          · cases hf
            have hx9 := k9 _ rfl
            subst hx9
            exact kx0 _ _ _ (lv_sub hl [3] rfl) hW
          · refine lv_iload_n hx hb dX8_linksAt_44 rfl (lv_at hl 3 rfl) ?_
            refine lv_aload_n hx hb dX8_linksAt_45 rfl (lv_at hl 0 rfl) ?_
            refine lv_iload hx hb dX8_linksAt_46 (lv_at hl 4 rfl) ?_
            refine lv_iload_n hx hb dX8_linksAt_48 rfl (lv_at hl 1 rfl) ?_
            refine lv_iload_n hx hb dX8_linksAt_49 rfl (lv_at hl 2 rfl) ?_
            obtain ⟨o_2, hc_2, hf⟩ := ob_bind hf
            refine q_callI hF hl.1 hK hA hZ hW mv_X8_has ml_X8_155 (c_X8_has l D E tx h_ h_g h_kept h_past h_path h_pose h_way h_px h_py h_free h_tips h_far h_queue h_times h_turns h_names h_named h_text h_told h_spare s_hasKept s_pasts s_pathMoves s_spot k1_14 s_faulty s_queued s_length s_at s_error s_tolds s_number s_g o_1.2.1 o_1.2.2.1 o_1.2.2.2 z4_26 y1_14 y2_14 o_2 hc_2) [0, 1, 3, 4, 5] rfl rfl rfl rfl rfl rfl ⟨Nat.le_of_ble_eq_true rfl, Nat.le_of_ble_eq_true rfl⟩ ⟨Nat.le_of_ble_eq_true rfl, Nat.le_of_ble_eq_true rfl⟩ rfl rfl (Nat.le_of_ble_eq_true rfl) dX8_linksAt_50 (fun H locs hW => ?_)
            have hW : WD D A s (w_X8_linksAt E h_ h_g h_kept h_past h_path h_pose h_way h_px h_py h_free h_tips h_far h_queue h_times h_turns h_names h_named h_text h_told h_spare s_hasKept s_pasts s_pathMoves s_spot k1_14 s_faulty s_queued s_length s_at s_error s_tolds s_number s_g o_1.1 o_1.2.1 o_1.2.2.1 o_1.2.2.2) H locs := hW
            refine q_if_eq (tgt := 63) hx hb dX8_linksAt_53 (by decide) hf (fun hf => ?_) (fun hf => ?_)
            · refine lv_iconst (v := 0) hx hb dX8_linksAt_63 (by decide) ?_
              refine lv_ior hx hb dX8_linksAt_64 ?_
              refine lv_topi (fun v_3 ev_3 => ?_)
              replace hf := ob_let hf ev_3
              refine lv_istore_n (lv' := [(3, .int v_3), (0, .ref h_), (1, .int y1_14), (2, .int y2_14), (4, .int z4_26)]) hx hb dX8_linksAt_65 rfl hl (by decide) rfl (fun ls hl => ?_)
              obtain ⟨v_4, ev_4⟩ : ∃ y : Int32, y = z4_26 + 1 := ⟨_, rfl⟩
              replace hf := ob_let hf ev_4
              refine lv_iinc (v := v_4) (lv' := [(4, .int v_4), (3, .int v_3), (0, .ref h_), (1, .int y1_14), (2, .int y2_14)]) hx hb dX8_linksAt_66 hl (k := 4) rfl (by rw [ev_4]; rfl) (by decide) rfl (fun ls hl => ?_)
              refine lv_goto (tgt := 26) hx hb dX8_linksAt_69 (by decide) ?_
              cases hf
              exact ih v_3 v_4 ex _ _ _ (h9 _ rfl) (lv_sub hl [2, 3, 4, 1, 0] rfl) hW kx0
            · refine lv_iconst (v := 1) hx hb dX8_linksAt_56 (by decide) ?_
              refine lv_iload hx hb dX8_linksAt_57 (lv_at hl 4 rfl) ?_
              refine lv_ishl hx hb dX8_linksAt_59 ?_
              refine lv_goto (tgt := 64) hx hb dX8_linksAt_60 (by decide) ?_
              refine lv_ior hx hb dX8_linksAt_64 ?_
              refine lv_topi (fun v_5 ev_5 => ?_)
              replace hf := ob_let hf ev_5
              refine lv_istore_n (lv' := [(3, .int v_5), (0, .ref h_), (1, .int y1_14), (2, .int y2_14), (4, .int z4_26)]) hx hb dX8_linksAt_65 rfl hl (by decide) rfl (fun ls hl => ?_)
              obtain ⟨v_6, ev_6⟩ : ∃ y : Int32, y = z4_26 + 1 := ⟨_, rfl⟩
              replace hf := ob_let hf ev_6
              refine lv_iinc (v := v_6) (lv' := [(4, .int v_6), (3, .int v_5), (0, .ref h_), (1, .int y1_14), (2, .int y2_14)]) hx hb dX8_linksAt_66 hl (k := 4) rfl (by rw [ev_6]; rfl) (by decide) rfl (fun ls hl => ?_)
              refine lv_goto (tgt := 26) hx hb dX8_linksAt_69 (by decide) ?_
              cases hf
              exact ih v_5 v_6 ex _ _ _ (h9 _ rfl) (lv_sub hl [2, 3, 4, 1, 0] rfl) hW kx0
    obtain ⟨e_7, hc_7, hf⟩ := ob_bind hf
    refine hB26 lfuel 0 0 e_7 _ _ _ hc_7 (lv_sub hl [2, 3, 4, 1, 0] rfl) hW ?_
    intro H locs ls hl hW
    refine lv_iload_n hx hb dX8_linksAt_72 rfl (lv_at hl 0 rfl) ?_
    cases hf
    exact hret dX8_linksAt_73 rfl rfl hW
  refine lv_aload_n hx hb dX8_linksAt_0 rfl (lv_at hl 0 rfl) ?_
  refine lv_iload_n hx hb dX8_linksAt_1 rfl (lv_at hl 1 rfl) ?_
  refine lv_iload_n hx hb dX8_linksAt_2 rfl (lv_at hl 2 rfl) ?_
  obtain ⟨o_8, hc_8, hf⟩ := ob_bind hf
  refine q_callSI hF hl.1 hK hA hZ hW ms_X8_isCell ml_X8_109 (c_X8_isCell l D E tx x1 x2 o_8 hc_8) [] rfl rfl rfl ⟨Nat.le_of_ble_eq_true rfl, Nat.le_of_ble_eq_true rfl⟩ ⟨Nat.le_of_ble_eq_true rfl, Nat.le_of_ble_eq_true rfl⟩ rfl rfl (Nat.le_of_ble_eq_true rfl) dX8_linksAt_3 (fun H locs hW => ?_)
  have hW : WD D A s (w_X8_linksAt E h_ h_g h_kept h_past h_path h_pose h_way h_px h_py h_free h_tips h_far h_queue h_times h_turns h_names h_named h_text h_told h_spare s_hasKept s_pasts s_pathMoves s_spot s_thrown s_faulty s_queued s_length s_at s_error s_tolds s_number s_g s_pose s_way s_px s_py) H locs := hW
  refine q_if_eq (tgt := 13) hx hb dX8_linksAt_6 (by decide) hf (fun hf => ?_) (fun hf => ?_)
  · refine lv_iconst (v := 1) hx hb dX8_linksAt_13 (by decide) ?_
    exact hL14 s_thrown s_pose s_way s_px s_py x1 x2 1 _ _ _ hf (lv_sub hl [0, 1, 2] rfl) hW
  · refine lv_iconst (v := 0) hx hb dX8_linksAt_9 (by decide) ?_
    refine lv_goto (tgt := 14) hx hb dX8_linksAt_10 (by decide) ?_
    exact hL14 s_thrown s_pose s_way s_px s_py x1 x2 0 _ _ _ hf (lv_sub hl [0, 1, 2] rfl) hW
def w_X8_poseNumber (E : Nat → ClassId) (h_ h_g h_kept h_past h_path h_pose h_way h_px h_py h_free h_tips h_far h_queue h_times h_turns h_names h_named h_text h_told h_spare : Nat) (s_hasKept : Int32) (s_pasts : Int32) (s_pathMoves : Int32) (s_spot : Int32) (s_thrown : Int32) (s_faulty : Int32) (s_queued : Int32) (s_length : Int32) (s_at : Int32) (s_error : Int32) (s_tolds : Int32) (s_number : Int32) (s_g : Nat → Int32) : va_W := [(h_, .inr (10, [.ref h_g, .ref h_kept, .int s_hasKept, .ref h_past, .int s_pasts, .ref h_path, .int s_pathMoves, .int s_spot, .int s_thrown, .ref h_pose, .ref h_way, .ref h_px, .ref h_py, .int s_faulty, .ref h_free, .ref h_tips, .ref h_far, .ref h_queue, .int s_queued, .ref h_times, .ref h_turns, .ref h_names, .ref h_named, .ref h_text, .int s_length, .int s_at, .int s_error, .ref h_told, .int s_tolds, .int s_number, .ref h_spare])), (h_g, .inl (E 0, 141, .inl s_g))]
set_option maxHeartbeats 4000000 in
set_option maxRecDepth 100000 in
theorem c_X8_poseNumber (l : Launch) (D : va_G) (E : Nat → ClassId) (tx : List (Nat × String)) (h_ h_g h_kept h_past h_path h_pose h_way h_px h_py h_free h_tips h_far h_queue h_times h_turns h_names h_named h_text h_told h_spare : Nat) (s_hasKept : Int32) (s_pasts : Int32) (s_pathMoves : Int32) (s_spot : Int32) (s_thrown : Int32) (s_faulty : Int32) (s_queued : Int32) (s_length : Int32) (s_at : Int32) (s_error : Int32) (s_tolds : Int32) (s_number : Int32) (s_g : Nat → Int32)  (r0 : Int32) (r1 : Int32) (hf : f_X8_poseNumber s_thrown s_g = some (r0, r1)) : CI l yX8_poseNumber cX8_poseNumber 1 (some .int) 3 64 D E tx [.ref h_] (w_X8_poseNumber E h_ h_g h_kept h_past h_path h_pose h_way h_px h_py h_free h_tips h_far h_queue h_times h_turns h_names h_named h_text h_told h_spare s_hasKept s_pasts s_pathMoves s_spot s_thrown s_faulty s_queued s_length s_at s_error s_tolds s_number s_g) (w_X8_poseNumber E h_ h_g h_kept h_past h_path h_pose h_way h_px h_py h_free h_tips h_far h_queue h_times h_turns h_names h_named h_text h_told h_spare s_hasKept s_pasts s_pathMoves s_spot r1 s_faulty s_queued s_length s_at s_error s_tolds s_number s_g) r0 := by
  refine CI_of RX8 pn_X8 rfl (Nat.le_of_ble_eq_true rfl) (fun p e s m args below meth c A Q hF hK hA hZ hW hret ls hl => ?_)
  have hx := hF.1
  have hb := hF.2.1
  have hl : lv_has ls 1 [(0, .ref h_)] := hl
  unfold f_X8_poseNumber at hf
  refine lv_aload_n hx hb dX8_poseNumber_0 rfl (lv_at hl 0 rfl) ?_
  refine lv_iconst (v := 0) hx hb dX8_poseNumber_1 (by decide) ?_
  refine q_put hF hK hW fl_X8_76 ft_X8 rfl 0 rfl rfl rfl (Nat.le_of_ble_eq_true rfl) dX8_poseNumber_2 (fun H locs hW => ?_)
  have hW : WD D A s (w_X8_poseNumber E h_ h_g h_kept h_past h_path h_pose h_way h_px h_py h_free h_tips h_far h_queue h_times h_turns h_names h_named h_text h_told h_spare s_hasKept s_pasts s_pathMoves s_spot 0 s_faulty s_queued s_length s_at s_error s_tolds s_number s_g) H locs := hW
  refine lv_aload_n hx hb dX8_poseNumber_5 rfl (lv_at hl 0 rfl) ?_
  obtain ⟨o_1, hc_1, hf⟩ := ob_bind hf
  refine q_callI hF hl.1 hK hA hZ hW mv_X8_numberNow ml_X8_181 (c_X8_numberNow l D E tx h_ h_g h_kept h_past h_path h_pose h_way h_px h_py h_free h_tips h_far h_queue h_times h_turns h_names h_named h_text h_told h_spare s_hasKept s_pasts s_pathMoves s_spot 0 s_faulty s_queued s_length s_at s_error s_tolds s_number s_g o_1 hc_1) [0, 1] rfl rfl rfl rfl rfl rfl ⟨Nat.le_of_ble_eq_true rfl, Nat.le_of_ble_eq_true rfl⟩ ⟨Nat.le_of_ble_eq_true rfl, Nat.le_of_ble_eq_true rfl⟩ rfl rfl (Nat.le_of_ble_eq_true rfl) dX8_poseNumber_6 (fun H locs hW => ?_)
  have hW : WD D A s (w_X8_poseNumber E h_ h_g h_kept h_past h_path h_pose h_way h_px h_py h_free h_tips h_far h_queue h_times h_turns h_names h_named h_text h_told h_spare s_hasKept s_pasts s_pathMoves s_spot 0 s_faulty s_queued s_length s_at s_error s_tolds s_number s_g) H locs := hW
  cases hf
  exact hret dX8_poseNumber_9 rfl rfl hW
def w_X8_size (E : Nat → ClassId)   : va_W := []
set_option maxHeartbeats 4000000 in
set_option maxRecDepth 100000 in
theorem c_X8_size (l : Launch) (D : va_G) (E : Nat → ClassId) (tx : List (Nat × String))   (x0 : Int32) (r0 : Int32) (hf : f_X8_size x0 = some r0) : CI l yX8_size cX8_size 1 (some .int) 0 0 D E tx [.int x0] (w_X8_size E ) (w_X8_size E ) r0 := by
  refine CI_of RX8 pn_X8 rfl (Nat.le_of_ble_eq_true rfl) (fun p e s m args below meth c A Q hF hK hA hZ hW hret ls hl => ?_)
  have hx := hF.1
  have hb := hF.2.1
  have hl : lv_has ls 1 [(0, .int x0)] := hl
  unfold f_X8_size at hf
  refine lv_iload_n hx hb dX8_size_0 rfl (lv_at hl 0 rfl) ?_
  refine q_if_ge (tgt := 9) hx hb dX8_size_1 (by decide) hf (fun hf => ?_) (fun hf => ?_)
  · refine lv_iload_n hx hb dX8_size_9 rfl (lv_at hl 0 rfl) ?_
    cases hf
    exact hret dX8_size_10 rfl rfl hW
  · refine lv_iload_n hx hb dX8_size_4 rfl (lv_at hl 0 rfl) ?_
    refine lv_ineg hx hb dX8_size_5 ?_
    refine lv_goto (tgt := 10) hx hb dX8_size_6 (by decide) ?_
    cases hf
    exact hret dX8_size_10 rfl rfl hW
def w_X8_distance (E : Nat → ClassId)   : va_W := []
set_option maxHeartbeats 4000000 in
set_option maxRecDepth 100000 in
theorem c_X8_distance (l : Launch) (D : va_G) (E : Nat → ClassId) (tx : List (Nat × String))   (x0 : Int32) (x1 : Int32) (x2 : Int32) (x3 : Int32) (r0 : Int32) (hf : f_X8_distance x0 x1 x2 x3 = some r0) : CI l yX8_distance cX8_distance 4 (some .int) 1 20 D E tx [.int x0, .int x1, .int x2, .int x3] (w_X8_distance E ) (w_X8_distance E ) r0 := by
  refine CI_of RX8 pn_X8 rfl (Nat.le_of_ble_eq_true rfl) (fun p e s m args below meth c A Q hF hK hA hZ hW hret ls hl => ?_)
  have hx := hF.1
  have hb := hF.2.1
  have hl : lv_has ls 4 [(0, .int x0), (1, .int x1), (2, .int x2), (3, .int x3)] := hl
  unfold f_X8_distance at hf
  refine lv_iload_n hx hb dX8_distance_0 rfl (lv_at hl 0 rfl) ?_
  refine lv_iload_n hx hb dX8_distance_1 rfl (lv_at hl 2 rfl) ?_
  refine lv_isub hx hb dX8_distance_2 ?_
  obtain ⟨o_1, hc_1, hf⟩ := ob_bind hf
  refine q_callSI hF hl.1 hK hA hZ hW ms_X8_size ml_X8_212 (c_X8_size l D E tx (x0 - x2) o_1 hc_1) [] rfl rfl rfl ⟨Nat.le_of_ble_eq_true rfl, Nat.le_of_ble_eq_true rfl⟩ ⟨Nat.le_of_ble_eq_true rfl, Nat.le_of_ble_eq_true rfl⟩ rfl rfl (Nat.le_of_ble_eq_true rfl) dX8_distance_3 (fun H locs hW => ?_)
  have hW : WD D A s (w_X8_distance E ) H locs := hW
  refine lv_iload_n hx hb dX8_distance_6 rfl (lv_at hl 1 rfl) ?_
  refine lv_iload_n hx hb dX8_distance_7 rfl (lv_at hl 3 rfl) ?_
  refine lv_isub hx hb dX8_distance_8 ?_
  obtain ⟨o_2, hc_2, hf⟩ := ob_bind hf
  refine q_callSI hF hl.1 hK hA hZ hW ms_X8_size ml_X8_212 (c_X8_size l D E tx (x1 - x3) o_2 hc_2) [] rfl rfl rfl ⟨Nat.le_of_ble_eq_true rfl, Nat.le_of_ble_eq_true rfl⟩ ⟨Nat.le_of_ble_eq_true rfl, Nat.le_of_ble_eq_true rfl⟩ rfl rfl (Nat.le_of_ble_eq_true rfl) dX8_distance_9 (fun H locs hW => ?_)
  have hW : WD D A s (w_X8_distance E ) H locs := hW
  refine q_icmp_le (tgt := 24) hx hb dX8_distance_12 (by decide) hf (fun hf => ?_) (fun hf => ?_)
  · refine lv_iload_n hx hb dX8_distance_24 rfl (lv_at hl 1 rfl) ?_
    refine lv_iload_n hx hb dX8_distance_25 rfl (lv_at hl 3 rfl) ?_
    refine lv_isub hx hb dX8_distance_26 ?_
    obtain ⟨o_3, hc_3, hf⟩ := ob_bind hf
    refine q_callSI hF hl.1 hK hA hZ hW ms_X8_size ml_X8_212 (c_X8_size l D E tx (x1 - x3) o_3 hc_3) [] rfl rfl rfl ⟨Nat.le_of_ble_eq_true rfl, Nat.le_of_ble_eq_true rfl⟩ ⟨Nat.le_of_ble_eq_true rfl, Nat.le_of_ble_eq_true rfl⟩ rfl rfl (Nat.le_of_ble_eq_true rfl) dX8_distance_27 (fun H locs hW => ?_)
    have hW : WD D A s (w_X8_distance E ) H locs := hW
    cases hf
    exact hret dX8_distance_30 rfl rfl hW
  · refine lv_iload_n hx hb dX8_distance_15 rfl (lv_at hl 0 rfl) ?_
    refine lv_iload_n hx hb dX8_distance_16 rfl (lv_at hl 2 rfl) ?_
    refine lv_isub hx hb dX8_distance_17 ?_
    obtain ⟨o_4, hc_4, hf⟩ := ob_bind hf
    refine q_callSI hF hl.1 hK hA hZ hW ms_X8_size ml_X8_212 (c_X8_size l D E tx (x0 - x2) o_4 hc_4) [] rfl rfl rfl ⟨Nat.le_of_ble_eq_true rfl, Nat.le_of_ble_eq_true rfl⟩ ⟨Nat.le_of_ble_eq_true rfl, Nat.le_of_ble_eq_true rfl⟩ rfl rfl (Nat.le_of_ble_eq_true rfl) dX8_distance_18 (fun H locs hW => ?_)
    have hW : WD D A s (w_X8_distance E ) H locs := hW
    refine lv_goto (tgt := 30) hx hb dX8_distance_21 (by decide) ?_
    cases hf
    exact hret dX8_distance_30 rfl rfl hW
def w_X8_clearance (E : Nat → ClassId) (h_ h_g h_kept h_past h_path h_pose h_way h_px h_py h_free h_tips h_far h_queue h_times h_turns h_names h_named h_text h_told h_spare : Nat) (s_hasKept : Int32) (s_pasts : Int32) (s_pathMoves : Int32) (s_spot : Int32) (s_thrown : Int32) (s_faulty : Int32) (s_queued : Int32) (s_length : Int32) (s_at : Int32) (s_error : Int32) (s_tolds : Int32) (s_number : Int32) (s_g : Nat → Int32) (s_pose : Nat → Int32) (s_way : Nat → Int32) (s_px : Nat → Int32) (s_py : Nat → Int32) : va_W := [(h_, .inr (10, [.ref h_g, .ref h_kept, .int s_hasKept, .ref h_past, .int s_pasts, .ref h_path, .int s_pathMoves, .int s_spot, .int s_thrown, .ref h_pose, .ref h_way, .ref h_px, .ref h_py, .int s_faulty, .ref h_free, .ref h_tips, .ref h_far, .ref h_queue, .int s_queued, .ref h_times, .ref h_turns, .ref h_names, .ref h_named, .ref h_text, .int s_length, .int s_at, .int s_error, .ref h_told, .int s_tolds, .int s_number, .ref h_spare])), (h_g, .inl (E 0, 141, .inl s_g)), (h_pose, .inl (E 0, 4, .inl s_pose)), (h_way, .inl (E 0, 4, .inl s_way)), (h_px, .inl (E 0, 5, .inl s_px)), (h_py, .inl (E 0, 5, .inl s_py))]
set_option maxHeartbeats 4000000 in
set_option maxRecDepth 100000 in
theorem c_X8_clearance (l : Launch) (D : va_G) (E : Nat → ClassId) (tx : List (Nat × String)) (h_ h_g h_kept h_past h_path h_pose h_way h_px h_py h_free h_tips h_far h_queue h_times h_turns h_names h_named h_text h_told h_spare : Nat) (s_hasKept : Int32) (s_pasts : Int32) (s_pathMoves : Int32) (s_spot : Int32) (s_thrown : Int32) (s_faulty : Int32) (s_queued : Int32) (s_length : Int32) (s_at : Int32) (s_error : Int32) (s_tolds : Int32) (s_number : Int32) (s_g : Nat → Int32) (s_pose : Nat → Int32) (s_way : Nat → Int32) (s_px : Nat → Int32) (s_py : Nat → Int32)  (r0 : Int32) (r1 : Int32) (r2 : Nat → Int32) (r3 : Nat → Int32) (r4 : Nat → Int32) (r5 : Nat → Int32) (hf : f_X8_clearance s_thrown s_g s_pose s_way s_px s_py = some (r0, r1, r2, r3, r4, r5)) : CI l yX8_clearance cX8_clearance 6 (some .int) 3 64 D E tx [.ref h_] (w_X8_clearance E h_ h_g h_kept h_past h_path h_pose h_way h_px h_py h_free h_tips h_far h_queue h_times h_turns h_names h_named h_text h_told h_spare s_hasKept s_pasts s_pathMoves s_spot s_thrown s_faulty s_queued s_length s_at s_error s_tolds s_number s_g s_pose s_way s_px s_py) (w_X8_clearance E h_ h_g h_kept h_past h_path h_pose h_way h_px h_py h_free h_tips h_far h_queue h_times h_turns h_names h_named h_text h_told h_spare s_hasKept s_pasts s_pathMoves s_spot r1 s_faulty s_queued s_length s_at s_error s_tolds s_number s_g r2 r3 r4 r5) r0 := by
  refine CI_of RX8 pn_X8 rfl (Nat.le_of_ble_eq_true rfl) (fun p e s m args below meth c A Q hF hK hA hZ hW hret ls hl => ?_)
  have hx := hF.1
  have hb := hF.2.1
  have hl : lv_has ls 6 [(0, .ref h_)] := hl
  unfold f_X8_clearance at hf
  have hL25 : ∀ (s_thrown_25 : Int32) (s_pose_25 : Nat → Int32) (s_way_25 : Nat → Int32) (s_px_25 : Nat → Int32) (s_py_25 : Nat → Int32) (k1_25 : Int32) (H : Heap) (locs : List Loc) (ls : Array Slot), f_X8_clearance_L25 s_thrown_25 s_g s_pose_25 s_way_25 s_px_25 s_py_25 k1_25 = some (r0, r1, r2, r3, r4, r5) → lv_has ls 6 [(0, .ref h_)] → WD D A s (w_X8_clearance E h_ h_g h_kept h_past h_path h_pose h_way h_px h_py h_free h_tips h_far h_queue h_times h_turns h_names h_named h_text h_told h_spare s_hasKept s_pasts s_pathMoves s_spot s_thrown_25 s_faulty s_queued s_length s_at s_error s_tolds s_number s_g s_pose_25 s_way_25 s_px_25 s_py_25) H locs → W p l e (RM 3 64) s m args below meth c H locs 0 0 Q (F0 m 25 ls [.int k1_25, .ref h_]) := by
    intro s_thrown_25 s_pose_25 s_way_25 s_px_25 s_py_25 k1_25 H locs ls hf hl hW
    unfold f_X8_clearance_L25 at hf
    refine q_put hF hK hW fl_X8_76 ft_X8 rfl 0 rfl rfl rfl (Nat.le_of_ble_eq_true rfl) dX8_clearance_25 (fun H locs hW => ?_)
    have hW : WD D A s (w_X8_clearance E h_ h_g h_kept h_past h_path h_pose h_way h_px h_py h_free h_tips h_far h_queue h_times h_turns h_names h_named h_text h_told h_spare s_hasKept s_pasts s_pathMoves s_spot k1_25 s_faulty s_queued s_length s_at s_error s_tolds s_number s_g s_pose_25 s_way_25 s_px_25 s_py_25) H locs := hW
    refine lv_aload_n hx hb dX8_clearance_28 rfl (lv_at hl 0 rfl) ?_
    obtain ⟨o_1, hc_1, hf⟩ := ob_bind hf
    refine q_callV hF hl.1 hK hA hZ hW mv_X8_now ml_X8_187 (c_X8_now l D E tx h_ h_g h_kept h_past h_path h_pose h_way h_px h_py h_free h_tips h_far h_queue h_times h_turns h_names h_named h_text h_told h_spare s_hasKept s_pasts s_pathMoves s_spot k1_25 s_faulty s_queued s_length s_at s_error s_tolds s_number s_g s_pose_25 s_way_25 s_px_25 s_py_25 o_1.1 o_1.2.1 o_1.2.2.1 o_1.2.2.2 hc_1) [0, 1, 2, 3, 4, 5] rfl rfl rfl rfl rfl rfl ⟨Nat.le_of_ble_eq_true rfl, Nat.le_of_ble_eq_true rfl⟩ ⟨Nat.le_of_ble_eq_true rfl, Nat.le_of_ble_eq_true rfl⟩ rfl rfl (Nat.le_of_ble_eq_true rfl) dX8_clearance_29 (fun H locs hW => ?_)
    have hW : WD D A s (w_X8_clearance E h_ h_g h_kept h_past h_path h_pose h_way h_px h_py h_free h_tips h_far h_queue h_times h_turns h_names h_named h_text h_told h_spare s_hasKept s_pasts s_pathMoves s_spot k1_25 s_faulty s_queued s_length s_at s_error s_tolds s_number s_g o_1.1 o_1.2.1 o_1.2.2.1 o_1.2.2.2) H locs := hW
    refine lv_sipush (v := 1000) hx hb dX8_clearance_32 (by decide) ?_
    refine lv_istore_n (lv' := [(1, .int 1000), (0, .ref h_)]) hx hb dX8_clearance_35 rfl hl (by decide) rfl (fun ls hl => ?_)
    refine lv_iconst (v := 0) hx hb dX8_clearance_36 (by decide) ?_
    refine lv_istore_n (lv' := [(2, .int 0), (1, .int 1000), (0, .ref h_)]) hx hb dX8_clearance_37 rfl hl (by decide) rfl (fun ls hl => ?_)
    have hB38 : ∀ (n : Nat) (z1_38 : Int32) (z2_38 : Int32) (ex : Int32) (H : Heap) (locs : List Loc) (ls : Array Slot), LPF (fun z => f_X8_clearance_B38 k1_25 s_g o_1.1 o_1.2.1 o_1.2.2.1 o_1.2.2.2 z.1 z.2) n (z1_38, z2_38) = some ex → lv_has ls 6 [(0, .ref h_), (1, .int z1_38), (2, .int z2_38)] → WD D A s (w_X8_clearance E h_ h_g h_kept h_past h_path h_pose h_way h_px h_py h_free h_tips h_far h_queue h_times h_turns h_names h_named h_text h_told h_spare s_hasKept s_pasts s_pathMoves s_spot k1_25 s_faulty s_queued s_length s_at s_error s_tolds s_number s_g o_1.1 o_1.2.1 o_1.2.2.1 o_1.2.2.2) H locs → (∀ (H : Heap) (locs : List Loc) (ls : Array Slot), lv_has ls 6 [(0, .ref h_), (1, .int ex)] → WD D A s (w_X8_clearance E h_ h_g h_kept h_past h_path h_pose h_way h_px h_py h_free h_tips h_far h_queue h_times h_turns h_names h_named h_text h_told h_spare s_hasKept s_pasts s_pathMoves s_spot k1_25 s_faulty s_queued s_length s_at s_error s_tolds s_number s_g o_1.1 o_1.2.1 o_1.2.2.1 o_1.2.2.2) H locs → W p l e (RM 3 64) s m args below meth c H locs 0 0 Q (F0 m 155 ls [])) → W p l e (RM 3 64) s m args below meth c H locs 0 0 Q (F0 m 38 ls []) := by
      intro n
      induction n with
      | zero => intro z1_38 z2_38 ex H locs ls h9; exact (ob_lp0 h9).elim
      | succ n ih =>
        intro z1_38 z2_38 ex H locs ls h9 hl hW kx0
        obtain ⟨q9, hf, h9, k9⟩ := ob_lp h9
        have hf : f_X8_clearance_B38 k1_25 s_g o_1.1 o_1.2.1 o_1.2.2.1 o_1.2.2.2 z1_38 z2_38 = some q9 := hf
        unfold f_X8_clearance_B38 at hf
        refine lv_iload_n hx hb dX8_clearance_38 rfl (lv_at hl 2 rfl) ?_
        refine lv_aload_n hx hb dX8_clearance_39 rfl (lv_at hl 0 rfl) ?_
        refine q_get hF hK hW fl_X8_7 0 rfl rfl dX8_clearance_40 ?_
        refine lv_iconst (v := 0) hx hb dX8_clearance_43 (by decide) ?_
        refine q_iald hx hb hK hW 1 0 rfl rfl dX8_clearance_44 hf (fun hf => ?_)
        refine q_icmp_ge (tgt := 155) hx hb dX8_clearance_45 (by decide) hf (fun hf => ?_) (fun hf => ?_)
        · cases hf
          have hx9 := k9 _ rfl
          subst hx9
          exact kx0 _ _ _ (lv_sub hl [0, 1] rfl) hW
        · refine lv_aload_n hx hb dX8_clearance_48 rfl (lv_at hl 0 rfl) ?_
          refine q_get hF hK hW fl_X8_76 0 rfl rfl dX8_clearance_49 ?_
          refine q_if_ne (tgt := 155) hx hb dX8_clearance_52 (by decide) hf (fun hf => ?_) (fun hf => ?_)
          · cases hf
            have hx9 := k9 _ rfl
            subst hx9
            exact kx0 _ _ _ (lv_sub hl [0, 1] rfl) hW
          · refine lv_iconst (v := 0) hx hb dX8_clearance_55 (by decide) ?_
            refine lv_istore_n (lv' := [(3, .int 0), (0, .ref h_), (1, .int z1_38), (2, .int z2_38)]) hx hb dX8_clearance_56 rfl hl (by decide) rfl (fun ls hl => ?_)
            have hB57 : ∀ (n : Nat) (z1_57 : Int32) (z3_57 : Int32) (ex : Int32) (H : Heap) (locs : List Loc) (ls : Array Slot), LPF (fun z => f_X8_clearance_B57 k1_25 s_g o_1.1 o_1.2.1 o_1.2.2.1 o_1.2.2.2 z.1 z2_38 z.2) n (z1_57, z3_57) = some ex → lv_has ls 6 [(0, .ref h_), (1, .int z1_57), (2, .int z2_38), (3, .int z3_57)] → WD D A s (w_X8_clearance E h_ h_g h_kept h_past h_path h_pose h_way h_px h_py h_free h_tips h_far h_queue h_times h_turns h_names h_named h_text h_told h_spare s_hasKept s_pasts s_pathMoves s_spot k1_25 s_faulty s_queued s_length s_at s_error s_tolds s_number s_g o_1.1 o_1.2.1 o_1.2.2.1 o_1.2.2.2) H locs → (∀ (H : Heap) (locs : List Loc) (ls : Array Slot), lv_has ls 6 [(0, .ref h_), (1, .int ex), (2, .int z2_38)] → WD D A s (w_X8_clearance E h_ h_g h_kept h_past h_path h_pose h_way h_px h_py h_free h_tips h_far h_queue h_times h_turns h_names h_named h_text h_told h_spare s_hasKept s_pasts s_pathMoves s_spot k1_25 s_faulty s_queued s_length s_at s_error s_tolds s_number s_g o_1.1 o_1.2.1 o_1.2.2.1 o_1.2.2.2) H locs → W p l e (RM 3 64) s m args below meth c H locs 0 0 Q (F0 m 149 ls [])) → W p l e (RM 3 64) s m args below meth c H locs 0 0 Q (F0 m 57 ls []) := by
              intro n
              induction n with
              | zero => intro z1_57 z3_57 ex H locs ls h9; exact (ob_lp0 h9).elim
              | succ n ih =>
                intro z1_57 z3_57 ex H locs ls h9 hl hW kx0
                obtain ⟨q9, hf, h9, k9⟩ := ob_lp h9
                have hf : f_X8_clearance_B57 k1_25 s_g o_1.1 o_1.2.1 o_1.2.2.1 o_1.2.2.2 z1_57 z2_38 z3_57 = some q9 := hf
                unfold f_X8_clearance_B57 at hf
                refine lv_iload_n hx hb dX8_clearance_57 rfl (lv_at hl 3 rfl) ?_
                refine lv_aload_n hx hb dX8_clearance_58 rfl (lv_at hl 0 rfl) ?_
                refine lv_iload_n hx hb dX8_clearance_59 rfl (lv_at hl 2 rfl) ?_
                obtain ⟨o_2, hc_2, hf⟩ := ob_bind hf
                refine q_callI hF hl.1 hK hA hZ hW mv_X8_lengthOf ml_X8_137 (c_X8_lengthOf l D E tx h_ h_g h_kept h_past h_path h_pose h_way h_px h_py h_free h_tips h_far h_queue h_times h_turns h_names h_named h_text h_told h_spare s_hasKept s_pasts s_pathMoves s_spot k1_25 s_faulty s_queued s_length s_at s_error s_tolds s_number s_g z2_38 o_2 hc_2) [0, 1] rfl rfl rfl rfl rfl rfl ⟨Nat.le_of_ble_eq_true rfl, Nat.le_of_ble_eq_true rfl⟩ ⟨Nat.le_of_ble_eq_true rfl, Nat.le_of_ble_eq_true rfl⟩ rfl rfl (Nat.le_of_ble_eq_true rfl) dX8_clearance_60 (fun H locs hW => ?_)
                have hW : WD D A s (w_X8_clearance E h_ h_g h_kept h_past h_path h_pose h_way h_px h_py h_free h_tips h_far h_queue h_times h_turns h_names h_named h_text h_told h_spare s_hasKept s_pasts s_pathMoves s_spot k1_25 s_faulty s_queued s_length s_at s_error s_tolds s_number s_g o_1.1 o_1.2.1 o_1.2.2.1 o_1.2.2.2) H locs := hW
                refine q_icmp_gt (tgt := 149) hx hb dX8_clearance_63 (by decide) hf (fun hf => ?_) (fun hf => ?_)
                · cases hf
                  have hx9 := k9 _ rfl
                  subst hx9
                  exact kx0 _ _ _ (lv_sub hl [0, 1, 2] rfl) hW
                · refine lv_iconst (v := 0) hx hb dX8_clearance_66 (by decide) ?_
                  refine lv_istore (lv' := [(4, .int 0), (0, .ref h_), (1, .int z1_57), (2, .int z2_38), (3, .int z3_57)]) hx hb dX8_clearance_67 hl (by decide) rfl (fun ls hl => ?_)
                  have hB69 : ∀ (n : Nat) (z1_69 : Int32) (z4_69 : Int32) (ex : Int32) (H : Heap) (locs : List Loc) (ls : Array Slot), LPF (fun z => f_X8_clearance_B69 k1_25 s_g o_1.1 o_1.2.1 o_1.2.2.1 o_1.2.2.2 z.1 z2_38 z3_57 z.2) n (z1_69, z4_69) = some ex → lv_has ls 6 [(0, .ref h_), (1, .int z1_69), (2, .int z2_38), (3, .int z3_57), (4, .int z4_69)] → WD D A s (w_X8_clearance E h_ h_g h_kept h_past h_path h_pose h_way h_px h_py h_free h_tips h_far h_queue h_times h_turns h_names h_named h_text h_told h_spare s_hasKept s_pasts s_pathMoves s_spot k1_25 s_faulty s_queued s_length s_at s_error s_tolds s_number s_g o_1.1 o_1.2.1 o_1.2.2.1 o_1.2.2.2) H locs → (∀ (H : Heap) (locs : List Loc) (ls : Array Slot), lv_has ls 6 [(0, .ref h_), (1, .int ex), (2, .int z2_38), (3, .int z3_57)] → WD D A s (w_X8_clearance E h_ h_g h_kept h_past h_path h_pose h_way h_px h_py h_free h_tips h_far h_queue h_times h_turns h_names h_named h_text h_told h_spare s_hasKept s_pasts s_pathMoves s_spot k1_25 s_faulty s_queued s_length s_at s_error s_tolds s_number s_g o_1.1 o_1.2.1 o_1.2.2.1 o_1.2.2.2) H locs → W p l e (RM 3 64) s m args below meth c H locs 0 0 Q (F0 m 143 ls [])) → W p l e (RM 3 64) s m args below meth c H locs 0 0 Q (F0 m 69 ls []) := by
                    intro n
                    induction n with
                    | zero => intro z1_69 z4_69 ex H locs ls h9; exact (ob_lp0 h9).elim
                    | succ n ih =>
                      intro z1_69 z4_69 ex H locs ls h9 hl hW kx0
                      obtain ⟨q9, hf, h9, k9⟩ := ob_lp h9
                      have hf : f_X8_clearance_B69 k1_25 s_g o_1.1 o_1.2.1 o_1.2.2.1 o_1.2.2.2 z1_69 z2_38 z3_57 z4_69 = some q9 := hf
                      unfold f_X8_clearance_B69 at hf
                      refine lv_iload hx hb dX8_clearance_69 (lv_at hl 4 rfl) ?_
                      refine lv_aload_n hx hb dX8_clearance_71 rfl (lv_at hl 0 rfl) ?_
                      refine q_get hF hK hW fl_X8_7 0 rfl rfl dX8_clearance_72 ?_
                      refine lv_bipush (v := 20) hx hb dX8_clearance_75 (by decide) ?_
                      refine q_iald hx hb hK hW 1 0 rfl rfl dX8_clearance_77 hf (fun hf => ?_)
                      refine q_icmp_ge (tgt := 143) hx hb dX8_clearance_78 (by decide) hf (fun hf => ?_) (fun hf => ?_)
                      · cases hf
                        have hx9 := k9 _ rfl
                        subst hx9
                        exact kx0 _ _ _ (lv_sub hl [0, 1, 2, 3] rfl) hW
                      · refine lv_aload_n hx hb dX8_clearance_81 rfl (lv_at hl 0 rfl) ?_
                        refine lv_iload_n hx hb dX8_clearance_82 rfl (lv_at hl 2 rfl) ?_
                        refine lv_iload_n hx hb dX8_clearance_83 rfl (lv_at hl 3 rfl) ?_
                        obtain ⟨o_3, hc_3, hf⟩ := ob_bind hf
                        refine q_callI hF hl.1 hK hA hZ hW mv_X8_cellX ml_X8_149 (c_X8_cellX l D E tx h_ h_g h_kept h_past h_path h_pose h_way h_px h_py h_free h_tips h_far h_queue h_times h_turns h_names h_named h_text h_told h_spare s_hasKept s_pasts s_pathMoves s_spot k1_25 s_faulty s_queued s_length s_at s_error s_tolds s_number o_1.2.1 o_1.2.2.1 z2_38 z3_57 o_3 hc_3) [0, 3, 4] rfl rfl rfl rfl rfl rfl ⟨Nat.le_of_ble_eq_true rfl, Nat.le_of_ble_eq_true rfl⟩ ⟨Nat.le_of_ble_eq_true rfl, Nat.le_of_ble_eq_true rfl⟩ rfl rfl (Nat.le_of_ble_eq_true rfl) dX8_clearance_84 (fun H locs hW => ?_)
                        have hW : WD D A s (w_X8_clearance E h_ h_g h_kept h_past h_path h_pose h_way h_px h_py h_free h_tips h_far h_queue h_times h_turns h_names h_named h_text h_told h_spare s_hasKept s_pasts s_pathMoves s_spot k1_25 s_faulty s_queued s_length s_at s_error s_tolds s_number s_g o_1.1 o_1.2.1 o_1.2.2.1 o_1.2.2.2) H locs := hW
                        refine lv_aload_n hx hb dX8_clearance_87 rfl (lv_at hl 0 rfl) ?_
                        refine lv_iload_n hx hb dX8_clearance_88 rfl (lv_at hl 2 rfl) ?_
                        refine lv_iload_n hx hb dX8_clearance_89 rfl (lv_at hl 3 rfl) ?_
                        obtain ⟨o_4, hc_4, hf⟩ := ob_bind hf
                        refine q_callI hF hl.1 hK hA hZ hW mv_X8_cellY ml_X8_152 (c_X8_cellY l D E tx h_ h_g h_kept h_past h_path h_pose h_way h_px h_py h_free h_tips h_far h_queue h_times h_turns h_names h_named h_text h_told h_spare s_hasKept s_pasts s_pathMoves s_spot k1_25 s_faulty s_queued s_length s_at s_error s_tolds s_number o_1.2.1 o_1.2.2.2 z2_38 z3_57 o_4 hc_4) [0, 3, 5] rfl rfl rfl rfl rfl rfl ⟨Nat.le_of_ble_eq_true rfl, Nat.le_of_ble_eq_true rfl⟩ ⟨Nat.le_of_ble_eq_true rfl, Nat.le_of_ble_eq_true rfl⟩ rfl rfl (Nat.le_of_ble_eq_true rfl) dX8_clearance_90 (fun H locs hW => ?_)
                        have hW : WD D A s (w_X8_clearance E h_ h_g h_kept h_past h_path h_pose h_way h_px h_py h_free h_tips h_far h_queue h_times h_turns h_names h_named h_text h_told h_spare s_hasKept s_pasts s_pathMoves s_spot k1_25 s_faulty s_queued s_length s_at s_error s_tolds s_number s_g o_1.1 o_1.2.1 o_1.2.2.1 o_1.2.2.2) H locs := hW
                        refine lv_aload_n hx hb dX8_clearance_93 rfl (lv_at hl 0 rfl) ?_
                        refine q_get hF hK hW fl_X8_7 0 rfl rfl dX8_clearance_94 ?_
                        refine lv_bipush (v := 21) hx hb dX8_clearance_97 (by decide) ?_
                        refine lv_iconst (v := 2) hx hb dX8_clearance_99 (by decide) ?_
                        refine lv_iload hx hb dX8_clearance_100 (lv_at hl 4 rfl) ?_
                        refine lv_imul hx hb dX8_clearance_102 ?_
                        refine lv_iadd hx hb dX8_clearance_103 ?_
                        refine q_iald hx hb hK hW 1 0 rfl rfl dX8_clearance_104 hf (fun hf => ?_)
                        refine lv_aload_n hx hb dX8_clearance_105 rfl (lv_at hl 0 rfl) ?_
                        refine q_get hF hK hW fl_X8_7 0 rfl rfl dX8_clearance_106 ?_
                        refine lv_bipush (v := 21) hx hb dX8_clearance_109 (by decide) ?_
                        refine lv_iconst (v := 2) hx hb dX8_clearance_111 (by decide) ?_
                        refine lv_iload hx hb dX8_clearance_112 (lv_at hl 4 rfl) ?_
                        refine lv_imul hx hb dX8_clearance_114 ?_
                        refine lv_iadd hx hb dX8_clearance_115 ?_
                        refine lv_iconst (v := 1) hx hb dX8_clearance_116 (by decide) ?_
                        refine lv_iadd hx hb dX8_clearance_117 ?_
                        refine q_iald hx hb hK hW 1 0 rfl rfl dX8_clearance_118 hf (fun hf => ?_)
                        obtain ⟨o_5, hc_5, hf⟩ := ob_bind hf
                        refine q_callSI hF hl.1 hK hA hZ hW ms_X8_distance ml_X8_215 (c_X8_distance l D E tx o_3 o_4 (s_g (21 + (2 * z4_69)).toNatClampNeg) (s_g ((21 + (2 * z4_69)) + 1).toNatClampNeg) o_5 hc_5) [] rfl rfl rfl ⟨Nat.le_of_ble_eq_true rfl, Nat.le_of_ble_eq_true rfl⟩ ⟨Nat.le_of_ble_eq_true rfl, Nat.le_of_ble_eq_true rfl⟩ rfl rfl (Nat.le_of_ble_eq_true rfl) dX8_clearance_119 (fun H locs hW => ?_)
                        have hW : WD D A s (w_X8_clearance E h_ h_g h_kept h_past h_path h_pose h_way h_px h_py h_free h_tips h_far h_queue h_times h_turns h_names h_named h_text h_told h_spare s_hasKept s_pasts s_pathMoves s_spot k1_25 s_faulty s_queued s_length s_at s_error s_tolds s_number s_g o_1.1 o_1.2.1 o_1.2.2.1 o_1.2.2.2) H locs := hW
                        refine lv_istore (lv' := [(5, .int o_5), (0, .ref h_), (1, .int z1_69), (2, .int z2_38), (3, .int z3_57), (4, .int z4_69)]) hx hb dX8_clearance_122 hl (by decide) rfl (fun ls hl => ?_)
                        refine lv_iload hx hb dX8_clearance_124 (lv_at hl 0 rfl) ?_
                        refine lv_iload_n hx hb dX8_clearance_126 rfl (lv_at hl 2 rfl) ?_
                        refine q_icmp_ge (tgt := 135) hx hb dX8_clearance_127 (by decide) hf (fun hf => ?_) (fun hf => ?_)
                        · refine lv_iload_n hx hb dX8_clearance_135 rfl (lv_at hl 2 rfl) ?_
                          refine lv_istore_n (lv' := [(1, .int z1_69), (5, .int o_5), (0, .ref h_), (2, .int z2_38), (3, .int z3_57), (4, .int z4_69)]) hx hb dX8_clearance_136 rfl hl (by decide) rfl (fun ls hl => ?_)
                          obtain ⟨v_6, ev_6⟩ : ∃ y : Int32, y = z4_69 + 1 := ⟨_, rfl⟩
                          replace hf := ob_let hf ev_6
                          refine lv_iinc (v := v_6) (lv' := [(4, .int v_6), (1, .int z1_69), (5, .int o_5), (0, .ref h_), (2, .int z2_38), (3, .int z3_57)]) hx hb dX8_clearance_137 hl (k := 5) rfl (by rw [ev_6]; rfl) (by decide) rfl (fun ls hl => ?_)
                          refine lv_goto (tgt := 69) hx hb dX8_clearance_140 (by decide) ?_
                          cases hf
                          exact ih z1_69 v_6 ex _ _ _ (h9 _ rfl) (lv_sub hl [3, 1, 4, 5, 0] rfl) hW kx0
                        · refine lv_iload hx hb dX8_clearance_130 (lv_at hl 0 rfl) ?_
                          refine lv_goto (tgt := 136) hx hb dX8_clearance_132 (by decide) ?_
                          refine lv_istore_n (lv' := [(1, .int o_5), (5, .int o_5), (0, .ref h_), (2, .int z2_38), (3, .int z3_57), (4, .int z4_69)]) hx hb dX8_clearance_136 rfl hl (by decide) rfl (fun ls hl => ?_)
                          obtain ⟨v_7, ev_7⟩ : ∃ y : Int32, y = z4_69 + 1 := ⟨_, rfl⟩
                          replace hf := ob_let hf ev_7
                          refine lv_iinc (v := v_7) (lv' := [(4, .int v_7), (1, .int o_5), (5, .int o_5), (0, .ref h_), (2, .int z2_38), (3, .int z3_57)]) hx hb dX8_clearance_137 hl (k := 5) rfl (by rw [ev_7]; rfl) (by decide) rfl (fun ls hl => ?_)
                          refine lv_goto (tgt := 69) hx hb dX8_clearance_140 (by decide) ?_
                          cases hf
                          exact ih o_5 v_7 ex _ _ _ (h9 _ rfl) (lv_sub hl [3, 1, 4, 5, 0] rfl) hW kx0
                  obtain ⟨e_8, hc_8, hf⟩ := ob_bind hf
                  refine hB69 lfuel z1_57 0 e_8 _ _ _ hc_8 (lv_sub hl [1, 2, 3, 4, 0] rfl) hW ?_
                  intro H locs ls hl hW
                  obtain ⟨v_9, ev_9⟩ : ∃ y : Int32, y = z3_57 + 1 := ⟨_, rfl⟩
                  replace hf := ob_let hf ev_9
                  refine lv_iinc (v := v_9) (lv' := [(3, .int v_9), (0, .ref h_), (1, .int e_8), (2, .int z2_38)]) hx hb dX8_clearance_143 hl (k := 3) rfl (by rw [ev_9]; rfl) (by decide) rfl (fun ls hl => ?_)
                  refine lv_goto (tgt := 57) hx hb dX8_clearance_146 (by decide) ?_
                  cases hf
                  exact ih e_8 v_9 ex _ _ _ (h9 _ rfl) (lv_sub hl [1, 2, 3, 0] rfl) hW kx0
            obtain ⟨e_10, hc_10, hf⟩ := ob_bind hf
            refine hB57 lfuel z1_38 0 e_10 _ _ _ hc_10 (lv_sub hl [1, 2, 3, 0] rfl) hW ?_
            intro H locs ls hl hW
            obtain ⟨v_11, ev_11⟩ : ∃ y : Int32, y = z2_38 + 1 := ⟨_, rfl⟩
            replace hf := ob_let hf ev_11
            refine lv_iinc (v := v_11) (lv' := [(2, .int v_11), (0, .ref h_), (1, .int e_10)]) hx hb dX8_clearance_149 hl (k := 2) rfl (by rw [ev_11]; rfl) (by decide) rfl (fun ls hl => ?_)
            refine lv_goto (tgt := 38) hx hb dX8_clearance_152 (by decide) ?_
            cases hf
            exact ih e_10 v_11 ex _ _ _ (h9 _ rfl) (lv_sub hl [1, 2, 0] rfl) hW kx0
    obtain ⟨e_12, hc_12, hf⟩ := ob_bind hf
    refine hB38 lfuel 1000 0 e_12 _ _ _ hc_12 (lv_sub hl [2, 1, 0] rfl) hW ?_
    intro H locs ls hl hW
    refine lv_aload_n hx hb dX8_clearance_155 rfl (lv_at hl 0 rfl) ?_
    refine q_get hF hK hW fl_X8_76 0 rfl rfl dX8_clearance_156 ?_
    refine q_if_le (tgt := 166) hx hb dX8_clearance_159 (by decide) hf (fun hf => ?_) (fun hf => ?_)
    · refine lv_iload_n hx hb dX8_clearance_166 rfl (lv_at hl 1 rfl) ?_
      cases hf
      exact hret dX8_clearance_167 rfl rfl hW
    · refine lv_iconst (v := 0) hx hb dX8_clearance_162 (by decide) ?_
      refine lv_goto (tgt := 167) hx hb dX8_clearance_163 (by decide) ?_
      cases hf
      exact hret dX8_clearance_167 rfl rfl hW
  refine lv_aload_n hx hb dX8_clearance_0 rfl (lv_at hl 0 rfl) ?_
  refine lv_aload_n hx hb dX8_clearance_1 rfl (lv_at hl 0 rfl) ?_
  refine q_get hF hK hW fl_X8_7 0 rfl rfl dX8_clearance_2 ?_
  refine lv_iconst (v := 0) hx hb dX8_clearance_5 (by decide) ?_
  refine q_iald hx hb hK hW 1 0 rfl rfl dX8_clearance_6 hf (fun hf => ?_)
  refine q_if_eq (tgt := 20) hx hb dX8_clearance_7 (by decide) hf (fun hf => ?_) (fun hf => ?_)
  · refine lv_iconst (v := 1) hx hb dX8_clearance_20 (by decide) ?_
    refine lv_goto (tgt := 25) hx hb dX8_clearance_21 (by decide) ?_
    exact hL25 s_thrown s_pose s_way s_px s_py 1 _ _ _ hf (lv_sub hl [0] rfl) hW
  · refine lv_aload_n hx hb dX8_clearance_10 rfl (lv_at hl 0 rfl) ?_
    refine q_get hF hK hW fl_X8_7 0 rfl rfl dX8_clearance_11 ?_
    refine lv_bipush (v := 20) hx hb dX8_clearance_14 (by decide) ?_
    refine q_iald hx hb hK hW 1 0 rfl rfl dX8_clearance_16 hf (fun hf => ?_)
    refine q_if_ne (tgt := 24) hx hb dX8_clearance_17 (by decide) hf (fun hf => ?_) (fun hf => ?_)
    · refine lv_iconst (v := 0) hx hb dX8_clearance_24 (by decide) ?_
      exact hL25 s_thrown s_pose s_way s_px s_py 0 _ _ _ hf (lv_sub hl [0] rfl) hW
    · refine lv_iconst (v := 1) hx hb dX8_clearance_20 (by decide) ?_
      refine lv_goto (tgt := 25) hx hb dX8_clearance_21 (by decide) ?_
      exact hL25 s_thrown s_pose s_way s_px s_py 1 _ _ _ hf (lv_sub hl [0] rfl) hW
def w_X8_winding (E : Nat → ClassId) (h_ h_g h_kept h_past h_path h_pose h_way h_px h_py h_free h_tips h_far h_queue h_times h_turns h_names h_named h_text h_told h_spare : Nat) (s_hasKept : Int32) (s_pasts : Int32) (s_pathMoves : Int32) (s_spot : Int32) (s_thrown : Int32) (s_faulty : Int32) (s_queued : Int32) (s_length : Int32) (s_at : Int32) (s_error : Int32) (s_tolds : Int32) (s_number : Int32) (s_g : Nat → Int32) : va_W := [(h_, .inr (10, [.ref h_g, .ref h_kept, .int s_hasKept, .ref h_past, .int s_pasts, .ref h_path, .int s_pathMoves, .int s_spot, .int s_thrown, .ref h_pose, .ref h_way, .ref h_px, .ref h_py, .int s_faulty, .ref h_free, .ref h_tips, .ref h_far, .ref h_queue, .int s_queued, .ref h_times, .ref h_turns, .ref h_names, .ref h_named, .ref h_text, .int s_length, .int s_at, .int s_error, .ref h_told, .int s_tolds, .int s_number, .ref h_spare])), (h_g, .inl (E 0, 141, .inl s_g))]
set_option maxHeartbeats 4000000 in
set_option maxRecDepth 100000 in
theorem c_X8_winding (l : Launch) (D : va_G) (E : Nat → ClassId) (tx : List (Nat × String)) (h_ h_g h_kept h_past h_path h_pose h_way h_px h_py h_free h_tips h_far h_queue h_times h_turns h_names h_named h_text h_told h_spare : Nat) (s_hasKept : Int32) (s_pasts : Int32) (s_pathMoves : Int32) (s_spot : Int32) (s_thrown : Int32) (s_faulty : Int32) (s_queued : Int32) (s_length : Int32) (s_at : Int32) (s_error : Int32) (s_tolds : Int32) (s_number : Int32) (s_g : Nat → Int32)  (r0 : Int32) (r1 : Int32) (hf : f_X8_winding s_thrown s_g = some (r0, r1)) : CI l yX8_winding cX8_winding 3 (some .int) 0 0 D E tx [.ref h_] (w_X8_winding E h_ h_g h_kept h_past h_path h_pose h_way h_px h_py h_free h_tips h_far h_queue h_times h_turns h_names h_named h_text h_told h_spare s_hasKept s_pasts s_pathMoves s_spot s_thrown s_faulty s_queued s_length s_at s_error s_tolds s_number s_g) (w_X8_winding E h_ h_g h_kept h_past h_path h_pose h_way h_px h_py h_free h_tips h_far h_queue h_times h_turns h_names h_named h_text h_told h_spare s_hasKept s_pasts s_pathMoves s_spot r1 s_faulty s_queued s_length s_at s_error s_tolds s_number s_g) r0 := by
  refine CI_of RX8 pn_X8 rfl (Nat.le_of_ble_eq_true rfl) (fun p e s m args below meth c A Q hF hK hA hZ hW hret ls hl => ?_)
  have hx := hF.1
  have hb := hF.2.1
  have hl : lv_has ls 3 [(0, .ref h_)] := hl
  unfold f_X8_winding at hf
  refine lv_aload_n hx hb dX8_winding_0 rfl (lv_at hl 0 rfl) ?_
  refine lv_iconst (v := 0) hx hb dX8_winding_1 (by decide) ?_
  refine q_put hF hK hW fl_X8_76 ft_X8 rfl 0 rfl rfl rfl (Nat.le_of_ble_eq_true rfl) dX8_winding_2 (fun H locs hW => ?_)
  have hW : WD D A s (w_X8_winding E h_ h_g h_kept h_past h_path h_pose h_way h_px h_py h_free h_tips h_far h_queue h_times h_turns h_names h_named h_text h_told h_spare s_hasKept s_pasts s_pathMoves s_spot 0 s_faulty s_queued s_length s_at s_error s_tolds s_number s_g) H locs := hW
  refine lv_iconst (v := 0) hx hb dX8_winding_5 (by decide) ?_
  refine lv_istore_n (lv' := [(1, .int 0), (0, .ref h_)]) hx hb dX8_winding_6 rfl hl (by decide) rfl (fun ls hl => ?_)
  refine lv_iconst (v := 0) hx hb dX8_winding_7 (by decide) ?_
  refine lv_istore_n (lv' := [(2, .int 0), (1, .int 0), (0, .ref h_)]) hx hb dX8_winding_8 rfl hl (by decide) rfl (fun ls hl => ?_)
  have hB9 : ∀ (n : Nat) (z1_9 : Int32) (z2_9 : Int32) (ex : Int32) (H : Heap) (locs : List Loc) (ls : Array Slot), LPF (fun z => f_X8_winding_B9 0 s_g z.1 z.2) n (z1_9, z2_9) = some ex → lv_has ls 3 [(0, .ref h_), (1, .int z1_9), (2, .int z2_9)] → WD D A s (w_X8_winding E h_ h_g h_kept h_past h_path h_pose h_way h_px h_py h_free h_tips h_far h_queue h_times h_turns h_names h_named h_text h_told h_spare s_hasKept s_pasts s_pathMoves s_spot 0 s_faulty s_queued s_length s_at s_error s_tolds s_number s_g) H locs → (∀ (H : Heap) (locs : List Loc) (ls : Array Slot), lv_has ls 3 [(1, .int ex)] → WD D A s (w_X8_winding E h_ h_g h_kept h_past h_path h_pose h_way h_px h_py h_free h_tips h_far h_queue h_times h_turns h_names h_named h_text h_told h_spare s_hasKept s_pasts s_pathMoves s_spot 0 s_faulty s_queued s_length s_at s_error s_tolds s_number s_g) H locs → W p l e (RM 0 0) s m args below meth c H locs 0 0 Q (F0 m 38 ls [])) → W p l e (RM 0 0) s m args below meth c H locs 0 0 Q (F0 m 9 ls []) := by
    intro n
    induction n with
    | zero => intro z1_9 z2_9 ex H locs ls h9; exact (ob_lp0 h9).elim
    | succ n ih =>
      intro z1_9 z2_9 ex H locs ls h9 hl hW kx0
      obtain ⟨q9, hf, h9, k9⟩ := ob_lp h9
      have hf : f_X8_winding_B9 0 s_g z1_9 z2_9 = some q9 := hf
      unfold f_X8_winding_B9 at hf
      refine lv_iload_n hx hb dX8_winding_9 rfl (lv_at hl 2 rfl) ?_
      refine lv_aload_n hx hb dX8_winding_10 rfl (lv_at hl 0 rfl) ?_
      refine q_get hF hK hW fl_X8_7 0 rfl rfl dX8_winding_11 ?_
      refine lv_iconst (v := 0) hx hb dX8_winding_14 (by decide) ?_
      refine q_iald hx hb hK hW 1 0 rfl rfl dX8_winding_15 hf (fun hf => ?_)
      refine q_icmp_ge (tgt := 38) hx hb dX8_winding_16 (by decide) hf (fun hf => ?_) (fun hf => ?_)
      · cases hf
        have hx9 := k9 _ rfl
        subst hx9
        exact kx0 _ _ _ (lv_sub hl [1] rfl) hW
      · refine lv_iload_n hx hb dX8_winding_19 rfl (lv_at hl 1 rfl) ?_
        refine lv_aload_n hx hb dX8_winding_20 rfl (lv_at hl 0 rfl) ?_
        refine q_get hF hK hW fl_X8_7 0 rfl rfl dX8_winding_21 ?_
        refine lv_iconst (v := 4) hx hb dX8_winding_24 (by decide) ?_
        refine lv_iconst (v := 4) hx hb dX8_winding_25 (by decide) ?_
        refine lv_iload_n hx hb dX8_winding_26 rfl (lv_at hl 2 rfl) ?_
        refine lv_imul hx hb dX8_winding_27 ?_
        refine lv_iadd hx hb dX8_winding_28 ?_
        refine q_iald hx hb hK hW 1 0 rfl rfl dX8_winding_29 hf (fun hf => ?_)
        refine lv_iadd hx hb dX8_winding_30 ?_
        refine lv_topi (fun v_1 ev_1 => ?_)
        replace hf := ob_let hf ev_1
        refine lv_istore_n (lv' := [(1, .int v_1), (0, .ref h_), (2, .int z2_9)]) hx hb dX8_winding_31 rfl hl (by decide) rfl (fun ls hl => ?_)
        obtain ⟨v_2, ev_2⟩ : ∃ y : Int32, y = z2_9 + 1 := ⟨_, rfl⟩
        replace hf := ob_let hf ev_2
        refine lv_iinc (v := v_2) (lv' := [(2, .int v_2), (1, .int v_1), (0, .ref h_)]) hx hb dX8_winding_32 hl (k := 2) rfl (by rw [ev_2]; rfl) (by decide) rfl (fun ls hl => ?_)
        refine lv_goto (tgt := 9) hx hb dX8_winding_35 (by decide) ?_
        cases hf
        exact ih v_1 v_2 ex _ _ _ (h9 _ rfl) (lv_sub hl [2, 1, 0] rfl) hW kx0
  obtain ⟨e_3, hc_3, hf⟩ := ob_bind hf
  refine hB9 lfuel 0 0 e_3 _ _ _ hc_3 (lv_sub hl [2, 1, 0] rfl) hW ?_
  intro H locs ls hl hW
  refine lv_iload_n hx hb dX8_winding_38 rfl (lv_at hl 0 rfl) ?_
  refine lv_iconst (v := 3) hx hb dX8_winding_39 (by decide) ?_
  refine lv_ishr hx hb dX8_winding_40 ?_
  cases hf
  exact hret dX8_winding_41 rfl rfl hW
def w_X8_cellOf (E : Nat → ClassId)   : va_W := []
set_option maxHeartbeats 4000000 in
set_option maxRecDepth 100000 in
theorem c_X8_cellOf (l : Launch) (D : va_G) (E : Nat → ClassId) (tx : List (Nat × String))   (x0 : Int32) (x1 : Int32) (r0 : Int32) (hf : f_X8_cellOf x0 x1 = some r0) : CI l yX8_cellOf cX8_cellOf 2 (some .int) 0 0 D E tx [.int x0, .int x1] (w_X8_cellOf E ) (w_X8_cellOf E ) r0 := by
  refine CI_of RX8 pn_X8 rfl (Nat.le_of_ble_eq_true rfl) (fun p e s m args below meth c A Q hF hK hA hZ hW hret ls hl => ?_)
  have hx := hF.1
  have hb := hF.2.1
  have hl : lv_has ls 2 [(0, .int x0), (1, .int x1)] := hl
  unfold f_X8_cellOf at hf
  refine lv_bipush (v := 21) hx hb dX8_cellOf_0 (by decide) ?_
  refine lv_iload_n hx hb dX8_cellOf_2 rfl (lv_at hl 0 rfl) ?_
  refine lv_bipush (v := 10) hx hb dX8_cellOf_3 (by decide) ?_
  refine lv_iadd hx hb dX8_cellOf_5 ?_
  refine lv_imul hx hb dX8_cellOf_6 ?_
  refine lv_iload_n hx hb dX8_cellOf_7 rfl (lv_at hl 1 rfl) ?_
  refine lv_iadd hx hb dX8_cellOf_8 ?_
  refine lv_bipush (v := 10) hx hb dX8_cellOf_9 (by decide) ?_
  refine lv_iadd hx hb dX8_cellOf_11 ?_
  cases hf
  exact hret dX8_cellOf_12 rfl rfl hW
def w_X8_isMany (E : Nat → ClassId) (h_ h_g h_kept h_past h_path h_pose h_way h_px h_py h_free h_tips h_far h_queue h_times h_turns h_names h_named h_text h_told h_spare : Nat) (s_hasKept : Int32) (s_pasts : Int32) (s_pathMoves : Int32) (s_spot : Int32) (s_thrown : Int32) (s_faulty : Int32) (s_queued : Int32) (s_length : Int32) (s_at : Int32) (s_error : Int32) (s_tolds : Int32) (s_number : Int32) (s_g : Nat → Int32) : va_W := [(h_, .inr (10, [.ref h_g, .ref h_kept, .int s_hasKept, .ref h_past, .int s_pasts, .ref h_path, .int s_pathMoves, .int s_spot, .int s_thrown, .ref h_pose, .ref h_way, .ref h_px, .ref h_py, .int s_faulty, .ref h_free, .ref h_tips, .ref h_far, .ref h_queue, .int s_queued, .ref h_times, .ref h_turns, .ref h_names, .ref h_named, .ref h_text, .int s_length, .int s_at, .int s_error, .ref h_told, .int s_tolds, .int s_number, .ref h_spare])), (h_g, .inl (E 0, 141, .inl s_g))]
set_option maxHeartbeats 4000000 in
set_option maxRecDepth 100000 in
theorem c_X8_isMany (l : Launch) (D : va_G) (E : Nat → ClassId) (tx : List (Nat × String)) (h_ h_g h_kept h_past h_path h_pose h_way h_px h_py h_free h_tips h_far h_queue h_times h_turns h_names h_named h_text h_told h_spare : Nat) (s_hasKept : Int32) (s_pasts : Int32) (s_pathMoves : Int32) (s_spot : Int32) (s_thrown : Int32) (s_faulty : Int32) (s_queued : Int32) (s_length : Int32) (s_at : Int32) (s_error : Int32) (s_tolds : Int32) (s_number : Int32) (s_g : Nat → Int32)  (r0 : Int32) (hf : f_X8_isMany s_g = some r0) : CI l yX8_isMany cX8_isMany 1 (some .boolean) 3 64 D E tx [.ref h_] (w_X8_isMany E h_ h_g h_kept h_past h_path h_pose h_way h_px h_py h_free h_tips h_far h_queue h_times h_turns h_names h_named h_text h_told h_spare s_hasKept s_pasts s_pathMoves s_spot s_thrown s_faulty s_queued s_length s_at s_error s_tolds s_number s_g) (w_X8_isMany E h_ h_g h_kept h_past h_path h_pose h_way h_px h_py h_free h_tips h_far h_queue h_times h_turns h_names h_named h_text h_told h_spare s_hasKept s_pasts s_pathMoves s_spot s_thrown s_faulty s_queued s_length s_at s_error s_tolds s_number s_g) r0 := by
  refine CI_of RX8 pn_X8 rfl (Nat.le_of_ble_eq_true rfl) (fun p e s m args below meth c A Q hF hK hA hZ hW hret ls hl => ?_)
  have hx := hF.1
  have hb := hF.2.1
  have hl : lv_has ls 1 [(0, .ref h_)] := hl
  unfold f_X8_isMany at hf
  refine lv_aload_n hx hb dX8_isMany_0 rfl (lv_at hl 0 rfl) ?_
  obtain ⟨o_1, hc_1, hf⟩ := ob_bind hf
  refine q_callI hF hl.1 hK hA hZ hW mv_X8_poses ml_X8_133 (c_X8_poses l D E tx h_ h_g h_kept h_past h_path h_pose h_way h_px h_py h_free h_tips h_far h_queue h_times h_turns h_names h_named h_text h_told h_spare s_hasKept s_pasts s_pathMoves s_spot s_thrown s_faulty s_queued s_length s_at s_error s_tolds s_number s_g o_1 hc_1) [0, 1] rfl rfl rfl rfl rfl rfl ⟨Nat.le_of_ble_eq_true rfl, Nat.le_of_ble_eq_true rfl⟩ ⟨Nat.le_of_ble_eq_true rfl, Nat.le_of_ble_eq_true rfl⟩ rfl rfl (Nat.le_of_ble_eq_true rfl) dX8_isMany_1 (fun H locs hW => ?_)
  have hW : WD D A s (w_X8_isMany E h_ h_g h_kept h_past h_path h_pose h_way h_px h_py h_free h_tips h_far h_queue h_times h_turns h_names h_named h_text h_told h_spare s_hasKept s_pasts s_pathMoves s_spot s_thrown s_faulty s_queued s_length s_at s_error s_tolds s_number s_g) H locs := hW
  refine lv_sipush (v := 5000) hx hb dX8_isMany_4 (by decide) ?_
  refine q_icmp_le (tgt := 14) hx hb dX8_isMany_7 (by decide) hf (fun hf => ?_) (fun hf => ?_)
  · refine lv_iconst (v := 0) hx hb dX8_isMany_14 (by decide) ?_
    cases hf
    exact hret dX8_isMany_15 rfl rfl hW
  · refine lv_iconst (v := 1) hx hb dX8_isMany_10 (by decide) ?_
    refine lv_goto (tgt := 15) hx hb dX8_isMany_11 (by decide) ?_
    cases hf
    exact hret dX8_isMany_15 rfl rfl hW
def w_X8_laysAll (E : Nat → ClassId) (h_ h_g h_kept h_past h_path h_pose h_way h_px h_py h_free h_tips h_far h_queue h_times h_turns h_names h_named h_text h_told h_spare : Nat) (s_hasKept : Int32) (s_pasts : Int32) (s_pathMoves : Int32) (s_spot : Int32) (s_thrown : Int32) (s_faulty : Int32) (s_queued : Int32) (s_length : Int32) (s_at : Int32) (s_error : Int32) (s_tolds : Int32) (s_number : Int32) (s_g : Nat → Int32) (s_pose : Nat → Int32) (s_way : Nat → Int32) (s_px : Nat → Int32) (s_py : Nat → Int32) (s_free : Nat → Int32) (s_tips : Nat → Int32) : va_W := [(h_, .inr (10, [.ref h_g, .ref h_kept, .int s_hasKept, .ref h_past, .int s_pasts, .ref h_path, .int s_pathMoves, .int s_spot, .int s_thrown, .ref h_pose, .ref h_way, .ref h_px, .ref h_py, .int s_faulty, .ref h_free, .ref h_tips, .ref h_far, .ref h_queue, .int s_queued, .ref h_times, .ref h_turns, .ref h_names, .ref h_named, .ref h_text, .int s_length, .int s_at, .int s_error, .ref h_told, .int s_tolds, .int s_number, .ref h_spare])), (h_g, .inl (E 0, 141, .inl s_g)), (h_pose, .inl (E 0, 4, .inl s_pose)), (h_way, .inl (E 0, 4, .inl s_way)), (h_px, .inl (E 0, 5, .inl s_px)), (h_py, .inl (E 0, 5, .inl s_py)), (h_free, .inl (E 1, 5000, .inl s_free)), (h_tips, .inl (E 0, 5000, .inl s_tips))]
set_option maxHeartbeats 4000000 in
set_option maxRecDepth 100000 in
theorem c_X8_laysAll (l : Launch) (D : va_G) (E : Nat → ClassId) (tx : List (Nat × String)) (h_ h_g h_kept h_past h_path h_pose h_way h_px h_py h_free h_tips h_far h_queue h_times h_turns h_names h_named h_text h_told h_spare : Nat) (s_hasKept : Int32) (s_pasts : Int32) (s_pathMoves : Int32) (s_spot : Int32) (s_thrown : Int32) (s_faulty : Int32) (s_queued : Int32) (s_length : Int32) (s_at : Int32) (s_error : Int32) (s_tolds : Int32) (s_number : Int32) (s_g : Nat → Int32) (s_pose : Nat → Int32) (s_way : Nat → Int32) (s_px : Nat → Int32) (s_py : Nat → Int32) (s_free : Nat → Int32) (s_tips : Nat → Int32)  (r0 : Int32) (r1 : Nat → Int32) (r2 : Nat → Int32) (r3 : Nat → Int32) (r4 : Nat → Int32) (r5 : Nat → Int32) (r6 : Nat → Int32) (hf : f_X8_laysAll s_faulty s_g s_pose s_way s_px s_py s_free s_tips = some (r0, r1, r2, r3, r4, r5, r6)) : CV l yX8_laysAll cX8_laysAll 2 6 134 D E tx [.ref h_] (w_X8_laysAll E h_ h_g h_kept h_past h_path h_pose h_way h_px h_py h_free h_tips h_far h_queue h_times h_turns h_names h_named h_text h_told h_spare s_hasKept s_pasts s_pathMoves s_spot s_thrown s_faulty s_queued s_length s_at s_error s_tolds s_number s_g s_pose s_way s_px s_py s_free s_tips) (w_X8_laysAll E h_ h_g h_kept h_past h_path h_pose h_way h_px h_py h_free h_tips h_far h_queue h_times h_turns h_names h_named h_text h_told h_spare s_hasKept s_pasts s_pathMoves s_spot s_thrown r0 s_queued s_length s_at s_error s_tolds s_number s_g r1 r2 r3 r4 r5 r6) := by
  refine CV_of RX8 pn_X8 rfl (Nat.le_of_ble_eq_true rfl) (fun p e s m args below meth c A Q hF hK hA hZ hW hret ls hl => ?_)
  have hx := hF.1
  have hb := hF.2.1
  have hl : lv_has ls 2 [(0, .ref h_)] := hl
  unfold f_X8_laysAll at hf
  refine lv_iconst (v := 0) hx hb dX8_laysAll_0 (by decide) ?_
  refine lv_istore_n (lv' := [(1, .int 0), (0, .ref h_)]) hx hb dX8_laysAll_1 rfl hl (by decide) rfl (fun ls hl => ?_)
  have hB2 : ∀ (n : Nat) (s_faulty_2 : Int32) (s_pose_2 : Nat → Int32) (s_way_2 : Nat → Int32) (s_px_2 : Nat → Int32) (s_py_2 : Nat → Int32) (s_free_2 : Nat → Int32) (s_tips_2 : Nat → Int32) (z1_2 : Int32) (ex : Int32 × (Nat → Int32) × (Nat → Int32) × (Nat → Int32) × (Nat → Int32) × (Nat → Int32) × (Nat → Int32)) (H : Heap) (locs : List Loc) (ls : Array Slot), LPF (fun z => f_X8_laysAll_B2 z.1 s_g z.2.1 z.2.2.1 z.2.2.2.1 z.2.2.2.2.1 z.2.2.2.2.2.1 z.2.2.2.2.2.2.1 z.2.2.2.2.2.2.2) n (s_faulty_2, s_pose_2, s_way_2, s_px_2, s_py_2, s_free_2, s_tips_2, z1_2) = some ex → lv_has ls 2 [(0, .ref h_), (1, .int z1_2)] → WD D A s (w_X8_laysAll E h_ h_g h_kept h_past h_path h_pose h_way h_px h_py h_free h_tips h_far h_queue h_times h_turns h_names h_named h_text h_told h_spare s_hasKept s_pasts s_pathMoves s_spot s_thrown s_faulty_2 s_queued s_length s_at s_error s_tolds s_number s_g s_pose_2 s_way_2 s_px_2 s_py_2 s_free_2 s_tips_2) H locs → (∀ (H : Heap) (locs : List Loc) (ls : Array Slot), lv_has ls 2 [] → WD D A s (w_X8_laysAll E h_ h_g h_kept h_past h_path h_pose h_way h_px h_py h_free h_tips h_far h_queue h_times h_turns h_names h_named h_text h_told h_spare s_hasKept s_pasts s_pathMoves s_spot s_thrown ex.1 s_queued s_length s_at s_error s_tolds s_number s_g ex.2.1 ex.2.2.1 ex.2.2.2.1 ex.2.2.2.2.1 ex.2.2.2.2.2.1 ex.2.2.2.2.2.2) H locs → W p l e (RM 6 134) s m args below meth c H locs 0 0 Q (F0 m 71 ls [])) → W p l e (RM 6 134) s m args below meth c H locs 0 0 Q (F0 m 2 ls []) := by
    intro n
    induction n with
    | zero => intro s_faulty_2 s_pose_2 s_way_2 s_px_2 s_py_2 s_free_2 s_tips_2 z1_2 ex H locs ls h9; exact (ob_lp0 h9).elim
    | succ n ih =>
      intro s_faulty_2 s_pose_2 s_way_2 s_px_2 s_py_2 s_free_2 s_tips_2 z1_2 ex H locs ls h9 hl hW kx0
      obtain ⟨q9, hf, h9, k9⟩ := ob_lp h9
      have hf : f_X8_laysAll_B2 s_faulty_2 s_g s_pose_2 s_way_2 s_px_2 s_py_2 s_free_2 s_tips_2 z1_2 = some q9 := hf
      unfold f_X8_laysAll_B2 at hf
      have hL64 : ∀ (s_faulty_64 : Int32) (s_pose_64 : Nat → Int32) (s_way_64 : Nat → Int32) (s_px_64 : Nat → Int32) (s_py_64 : Nat → Int32) (s_free_64 : Nat → Int32) (s_tips_64 : Nat → Int32) (y1_64 : Int32) (k1_64 : Int32) (k2_64 : Int32) (H : Heap) (locs : List Loc) (ls : Array Slot), f_X8_laysAll_L64 s_faulty_64 s_g s_pose_64 s_way_64 s_px_64 s_py_64 s_free_64 s_tips_64 y1_64 k1_64 k2_64 = some q9 → lv_has ls 2 [(0, .ref h_), (1, .int y1_64)] → WD D A s (w_X8_laysAll E h_ h_g h_kept h_past h_path h_pose h_way h_px h_py h_free h_tips h_far h_queue h_times h_turns h_names h_named h_text h_told h_spare s_hasKept s_pasts s_pathMoves s_spot s_thrown s_faulty_64 s_queued s_length s_at s_error s_tolds s_number s_g s_pose_64 s_way_64 s_px_64 s_py_64 s_free_64 s_tips_64) H locs → W p l e (RM 6 134) s m args below meth c H locs 0 0 Q (F0 m 64 ls [.int k2_64, .int k1_64, .ref h_tips]) := by
        intro s_faulty_64 s_pose_64 s_way_64 s_px_64 s_py_64 s_free_64 s_tips_64 y1_64 k1_64 k2_64 H locs ls hf hl hW
        unfold f_X8_laysAll_L64 at hf
        refine q_iast hx hb hK hW 7 0 rfl rfl dX8_laysAll_64 hf (fun a_1 hf H locs hW => ?_)
        have hW : WD D A s (w_X8_laysAll E h_ h_g h_kept h_past h_path h_pose h_way h_px h_py h_free h_tips h_far h_queue h_times h_turns h_names h_named h_text h_told h_spare s_hasKept s_pasts s_pathMoves s_spot s_thrown s_faulty_64 s_queued s_length s_at s_error s_tolds s_number s_g s_pose_64 s_way_64 s_px_64 s_py_64 s_free_64 a_1) H locs := hW
        obtain ⟨v_2, ev_2⟩ : ∃ y : Int32, y = y1_64 + 1 := ⟨_, rfl⟩
        replace hf := ob_let hf ev_2
        refine lv_iinc (v := v_2) (lv' := [(1, .int v_2), (0, .ref h_)]) hx hb dX8_laysAll_65 hl (k := 1) rfl (by rw [ev_2]; rfl) (by decide) rfl (fun ls hl => ?_)
        refine lv_goto (tgt := 2) hx hb dX8_laysAll_68 (by decide) ?_
        cases hf
        exact ih s_faulty_64 s_pose_64 s_way_64 s_px_64 s_py_64 s_free_64 a_1 v_2 ex _ _ _ (h9 _ rfl) (lv_sub hl [1, 0] rfl) hW kx0
      refine lv_iload_n hx hb dX8_laysAll_2 rfl (lv_at hl 1 rfl) ?_
      refine lv_aload_n hx hb dX8_laysAll_3 rfl (lv_at hl 0 rfl) ?_
      obtain ⟨o_3, hc_3, hf⟩ := ob_bind hf
      refine q_callI hF hl.1 hK hA hZ hW mv_X8_poses ml_X8_133 (c_X8_poses l D E tx h_ h_g h_kept h_past h_path h_pose h_way h_px h_py h_free h_tips h_far h_queue h_times h_turns h_names h_named h_text h_told h_spare s_hasKept s_pasts s_pathMoves s_spot s_thrown s_faulty_2 s_queued s_length s_at s_error s_tolds s_number s_g o_3 hc_3) [0, 1] rfl rfl rfl rfl rfl rfl ⟨Nat.le_of_ble_eq_true rfl, Nat.le_of_ble_eq_true rfl⟩ ⟨Nat.le_of_ble_eq_true rfl, Nat.le_of_ble_eq_true rfl⟩ rfl rfl (Nat.le_of_ble_eq_true rfl) dX8_laysAll_4 (fun H locs hW => ?_)
      have hW : WD D A s (w_X8_laysAll E h_ h_g h_kept h_past h_path h_pose h_way h_px h_py h_free h_tips h_far h_queue h_times h_turns h_names h_named h_text h_told h_spare s_hasKept s_pasts s_pathMoves s_spot s_thrown s_faulty_2 s_queued s_length s_at s_error s_tolds s_number s_g s_pose_2 s_way_2 s_px_2 s_py_2 s_free_2 s_tips_2) H locs := hW
      refine q_icmp_ge (tgt := 71) hx hb dX8_laysAll_7 (by decide) hf (fun hf => ?_) (fun hf => ?_)
      · cases hf
        have hx9 := k9 _ rfl
        subst hx9
        exact kx0 _ _ _ (lv_sub hl [] rfl) hW
      · refine lv_aload_n hx hb dX8_laysAll_10 rfl (lv_at hl 0 rfl) ?_
        refine q_get hF hK hW fl_X8_38 0 rfl rfl dX8_laysAll_11 ?_
        refine lv_iload_n hx hb dX8_laysAll_14 rfl (lv_at hl 1 rfl) ?_
        refine lv_aload_n hx hb dX8_laysAll_15 rfl (lv_at hl 0 rfl) ?_
        refine lv_iload_n hx hb dX8_laysAll_16 rfl (lv_at hl 1 rfl) ?_
        obtain ⟨o_4, hc_4, hf⟩ := ob_bind hf
        refine q_callI hF hl.1 hK hA hZ hW mv_X8_isFree ml_X8_184 (c_X8_isFree l D E tx h_ h_g h_kept h_past h_path h_pose h_way h_px h_py h_free h_tips h_far h_queue h_times h_turns h_names h_named h_text h_told h_spare s_hasKept s_pasts s_pathMoves s_spot s_thrown s_faulty_2 s_queued s_length s_at s_error s_tolds s_number s_g s_pose_2 s_way_2 s_px_2 s_py_2 z1_2 o_4.1 o_4.2.1 o_4.2.2.1 o_4.2.2.2.1 o_4.2.2.2.2.1 o_4.2.2.2.2.2 hc_4) [0, 1, 2, 3, 4, 5] rfl rfl rfl rfl rfl rfl ⟨Nat.le_of_ble_eq_true rfl, Nat.le_of_ble_eq_true rfl⟩ ⟨Nat.le_of_ble_eq_true rfl, Nat.le_of_ble_eq_true rfl⟩ rfl rfl (Nat.le_of_ble_eq_true rfl) dX8_laysAll_17 (fun H locs hW => ?_)
        have hW : WD D A s (w_X8_laysAll E h_ h_g h_kept h_past h_path h_pose h_way h_px h_py h_free h_tips h_far h_queue h_times h_turns h_names h_named h_text h_told h_spare s_hasKept s_pasts s_pathMoves s_spot s_thrown o_4.2.1 s_queued s_length s_at s_error s_tolds s_number s_g o_4.2.2.1 o_4.2.2.2.1 o_4.2.2.2.2.1 o_4.2.2.2.2.2 s_free_2 s_tips_2) H locs := hW
        refine q_zast hx hb hK hW 6 1 rfl rfl dX8_laysAll_20 hf (fun a_5 hf H locs hW => ?_)
        have hW : WD D A s (w_X8_laysAll E h_ h_g h_kept h_past h_path h_pose h_way h_px h_py h_free h_tips h_far h_queue h_times h_turns h_names h_named h_text h_told h_spare s_hasKept s_pasts s_pathMoves s_spot s_thrown o_4.2.1 s_queued s_length s_at s_error s_tolds s_number s_g o_4.2.2.1 o_4.2.2.2.1 o_4.2.2.2.2.1 o_4.2.2.2.2.2 a_5 s_tips_2) H locs := hW
        refine lv_aload_n hx hb dX8_laysAll_21 rfl (lv_at hl 0 rfl) ?_
        refine q_get hF hK hW fl_X8_42 0 rfl rfl dX8_laysAll_22 ?_
        refine lv_iload_n hx hb dX8_laysAll_25 rfl (lv_at hl 1 rfl) ?_
        refine lv_aload_n hx hb dX8_laysAll_26 rfl (lv_at hl 0 rfl) ?_
        refine q_get hF hK hW fl_X8_38 0 rfl rfl dX8_laysAll_27 ?_
        refine lv_iload_n hx hb dX8_laysAll_30 rfl (lv_at hl 1 rfl) ?_
        refine q_zald hx hb hK hW 6 1 rfl rfl dX8_laysAll_31 hf (fun hf => ?_)
        refine q_if_eq (tgt := 63) hx hb dX8_laysAll_32 (by decide) hf (fun hf => ?_) (fun hf => ?_)
        · refine lv_iconst (v := (-1)) hx hb dX8_laysAll_63 (by decide) ?_
          exact hL64 o_4.2.1 o_4.2.2.1 o_4.2.2.2.1 o_4.2.2.2.2.1 o_4.2.2.2.2.2 a_5 s_tips_2 z1_2 z1_2 ((-1)) _ _ _ hf (lv_sub hl [0, 1] rfl) hW
        · refine lv_aload_n hx hb dX8_laysAll_35 rfl (lv_at hl 0 rfl) ?_
          refine q_get hF hK hW fl_X8_32 0 rfl rfl dX8_laysAll_36 ?_
          refine lv_aload_n hx hb dX8_laysAll_39 rfl (lv_at hl 0 rfl) ?_
          refine q_get hF hK hW fl_X8_7 0 rfl rfl dX8_laysAll_40 ?_
          refine lv_iconst (v := 0) hx hb dX8_laysAll_43 (by decide) ?_
          refine q_iald hx hb hK hW 1 0 rfl rfl dX8_laysAll_44 hf (fun hf => ?_)
          refine q_iald hx hb hK hW 4 0 rfl rfl dX8_laysAll_45 hf (fun hf => ?_)
          refine lv_aload_n hx hb dX8_laysAll_46 rfl (lv_at hl 0 rfl) ?_
          refine q_get hF hK hW fl_X8_35 0 rfl rfl dX8_laysAll_47 ?_
          refine lv_aload_n hx hb dX8_laysAll_50 rfl (lv_at hl 0 rfl) ?_
          refine q_get hF hK hW fl_X8_7 0 rfl rfl dX8_laysAll_51 ?_
          refine lv_iconst (v := 0) hx hb dX8_laysAll_54 (by decide) ?_
          refine q_iald hx hb hK hW 1 0 rfl rfl dX8_laysAll_55 hf (fun hf => ?_)
          refine q_iald hx hb hK hW 5 0 rfl rfl dX8_laysAll_56 hf (fun hf => ?_)
          obtain ⟨o_6, hc_6, hf⟩ := ob_bind hf
          refine q_callSI hF hl.1 hK hA hZ hW ms_X8_cellOf ml_X8_219 (c_X8_cellOf l D E tx (o_4.2.2.2.2.1 (s_g (0 : Int32).toNatClampNeg).toNatClampNeg) (o_4.2.2.2.2.2 (s_g (0 : Int32).toNatClampNeg).toNatClampNeg) o_6 hc_6) [] rfl rfl rfl ⟨Nat.le_of_ble_eq_true rfl, Nat.le_of_ble_eq_true rfl⟩ ⟨Nat.le_of_ble_eq_true rfl, Nat.le_of_ble_eq_true rfl⟩ rfl rfl (Nat.le_of_ble_eq_true rfl) dX8_laysAll_57 (fun H locs hW => ?_)
          have hW : WD D A s (w_X8_laysAll E h_ h_g h_kept h_past h_path h_pose h_way h_px h_py h_free h_tips h_far h_queue h_times h_turns h_names h_named h_text h_told h_spare s_hasKept s_pasts s_pathMoves s_spot s_thrown o_4.2.1 s_queued s_length s_at s_error s_tolds s_number s_g o_4.2.2.1 o_4.2.2.2.1 o_4.2.2.2.2.1 o_4.2.2.2.2.2 a_5 s_tips_2) H locs := hW
          refine lv_goto (tgt := 64) hx hb dX8_laysAll_60 (by decide) ?_
          exact hL64 o_4.2.1 o_4.2.2.1 o_4.2.2.2.1 o_4.2.2.2.2.1 o_4.2.2.2.2.2 a_5 s_tips_2 z1_2 z1_2 o_6 _ _ _ hf (lv_sub hl [0, 1] rfl) hW
  obtain ⟨e_7, hc_7, hf⟩ := ob_bind hf
  refine hB2 lfuel s_faulty s_pose s_way s_px s_py s_free s_tips 0 e_7 _ _ _ hc_7 (lv_sub hl [1, 0] rfl) hW ?_
  intro H locs ls hl hW
  cases hf
  exact hret dX8_laysAll_71 hW
def w_X8_freeAt (E : Nat → ClassId) (h_ h_g h_kept h_past h_path h_pose h_way h_px h_py h_free h_tips h_far h_queue h_times h_turns h_names h_named h_text h_told h_spare : Nat) (s_hasKept : Int32) (s_pasts : Int32) (s_pathMoves : Int32) (s_spot : Int32) (s_thrown : Int32) (s_faulty : Int32) (s_queued : Int32) (s_length : Int32) (s_at : Int32) (s_error : Int32) (s_tolds : Int32) (s_number : Int32) (s_g : Nat → Int32) (s_pose : Nat → Int32) (s_way : Nat → Int32) (s_px : Nat → Int32) (s_py : Nat → Int32) (s_free : Nat → Int32) (s_tips : Nat → Int32) : va_W := [(h_, .inr (10, [.ref h_g, .ref h_kept, .int s_hasKept, .ref h_past, .int s_pasts, .ref h_path, .int s_pathMoves, .int s_spot, .int s_thrown, .ref h_pose, .ref h_way, .ref h_px, .ref h_py, .int s_faulty, .ref h_free, .ref h_tips, .ref h_far, .ref h_queue, .int s_queued, .ref h_times, .ref h_turns, .ref h_names, .ref h_named, .ref h_text, .int s_length, .int s_at, .int s_error, .ref h_told, .int s_tolds, .int s_number, .ref h_spare])), (h_g, .inl (E 0, 141, .inl s_g)), (h_pose, .inl (E 0, 4, .inl s_pose)), (h_way, .inl (E 0, 4, .inl s_way)), (h_px, .inl (E 0, 5, .inl s_px)), (h_py, .inl (E 0, 5, .inl s_py)), (h_free, .inl (E 1, 5000, .inl s_free)), (h_tips, .inl (E 0, 5000, .inl s_tips))]
set_option maxHeartbeats 4000000 in
set_option maxRecDepth 100000 in
theorem c_X8_freeAt (l : Launch) (D : va_G) (E : Nat → ClassId) (tx : List (Nat × String)) (h_ h_g h_kept h_past h_path h_pose h_way h_px h_py h_free h_tips h_far h_queue h_times h_turns h_names h_named h_text h_told h_spare : Nat) (s_hasKept : Int32) (s_pasts : Int32) (s_pathMoves : Int32) (s_spot : Int32) (s_thrown : Int32) (s_faulty : Int32) (s_queued : Int32) (s_length : Int32) (s_at : Int32) (s_error : Int32) (s_tolds : Int32) (s_number : Int32) (s_g : Nat → Int32) (s_pose : Nat → Int32) (s_way : Nat → Int32) (s_px : Nat → Int32) (s_py : Nat → Int32) (s_free : Nat → Int32) (s_tips : Nat → Int32) (x1 : Int32) (r0 : Int32) (r1 : Int32) (r2 : Nat → Int32) (r3 : Nat → Int32) (r4 : Nat → Int32) (r5 : Nat → Int32) (r6 : Nat → Int32) (r7 : Nat → Int32) (hf : f_X8_freeAt s_faulty s_g s_pose s_way s_px s_py s_free s_tips x1 = some (r0, r1, r2, r3, r4, r5, r6, r7)) : CI l yX8_freeAt cX8_freeAt 4 (some .int) 7 155 D E tx [.ref h_, .int x1] (w_X8_freeAt E h_ h_g h_kept h_past h_path h_pose h_way h_px h_py h_free h_tips h_far h_queue h_times h_turns h_names h_named h_text h_told h_spare s_hasKept s_pasts s_pathMoves s_spot s_thrown s_faulty s_queued s_length s_at s_error s_tolds s_number s_g s_pose s_way s_px s_py s_free s_tips) (w_X8_freeAt E h_ h_g h_kept h_past h_path h_pose h_way h_px h_py h_free h_tips h_far h_queue h_times h_turns h_names h_named h_text h_told h_spare s_hasKept s_pasts s_pathMoves s_spot s_thrown r1 s_queued s_length s_at s_error s_tolds s_number s_g r2 r3 r4 r5 r6 r7) r0 := by
  refine CI_of RX8 pn_X8 rfl (Nat.le_of_ble_eq_true rfl) (fun p e s m args below meth c A Q hF hK hA hZ hW hret ls hl => ?_)
  have hx := hF.1
  have hb := hF.2.1
  have hl : lv_has ls 4 [(0, .ref h_), (1, .int x1)] := hl
  unfold f_X8_freeAt at hf
  refine lv_aload_n hx hb dX8_freeAt_0 rfl (lv_at hl 0 rfl) ?_
  obtain ⟨o_1, hc_1, hf⟩ := ob_bind hf
  refine q_callV hF hl.1 hK hA hZ hW mv_X8_laysAll ml_X8_228 (c_X8_laysAll l D E tx h_ h_g h_kept h_past h_path h_pose h_way h_px h_py h_free h_tips h_far h_queue h_times h_turns h_names h_named h_text h_told h_spare s_hasKept s_pasts s_pathMoves s_spot s_thrown s_faulty s_queued s_length s_at s_error s_tolds s_number s_g s_pose s_way s_px s_py s_free s_tips o_1.1 o_1.2.1 o_1.2.2.1 o_1.2.2.2.1 o_1.2.2.2.2.1 o_1.2.2.2.2.2.1 o_1.2.2.2.2.2.2 hc_1) [0, 1, 2, 3, 4, 5, 6, 7] rfl rfl rfl rfl rfl rfl ⟨Nat.le_of_ble_eq_true rfl, Nat.le_of_ble_eq_true rfl⟩ ⟨Nat.le_of_ble_eq_true rfl, Nat.le_of_ble_eq_true rfl⟩ rfl rfl (Nat.le_of_ble_eq_true rfl) dX8_freeAt_1 (fun H locs hW => ?_)
  have hW : WD D A s (w_X8_freeAt E h_ h_g h_kept h_past h_path h_pose h_way h_px h_py h_free h_tips h_far h_queue h_times h_turns h_names h_named h_text h_told h_spare s_hasKept s_pasts s_pathMoves s_spot s_thrown o_1.1 s_queued s_length s_at s_error s_tolds s_number s_g o_1.2.1 o_1.2.2.1 o_1.2.2.2.1 o_1.2.2.2.2.1 o_1.2.2.2.2.2.1 o_1.2.2.2.2.2.2) H locs := hW
  refine lv_iconst (v := 0) hx hb dX8_freeAt_4 (by decide) ?_
  refine lv_istore_n (lv' := [(2, .int 0), (0, .ref h_), (1, .int x1)]) hx hb dX8_freeAt_5 rfl hl (by decide) rfl (fun ls hl => ?_)
  refine lv_iconst (v := 0) hx hb dX8_freeAt_6 (by decide) ?_
  refine lv_istore_n (lv' := [(3, .int 0), (2, .int 0), (0, .ref h_), (1, .int x1)]) hx hb dX8_freeAt_7 rfl hl (by decide) rfl (fun ls hl => ?_)
  have hB8 : ∀ (n : Nat) (z2_8 : Int32) (z3_8 : Int32) (ex : Int32) (H : Heap) (locs : List Loc) (ls : Array Slot), LPF (fun z => f_X8_freeAt_B8 o_1.1 s_g o_1.2.1 o_1.2.2.1 o_1.2.2.2.1 o_1.2.2.2.2.1 o_1.2.2.2.2.2.1 o_1.2.2.2.2.2.2 x1 z.1 z.2) n (z2_8, z3_8) = some ex → lv_has ls 4 [(0, .ref h_), (1, .int x1), (2, .int z2_8), (3, .int z3_8)] → WD D A s (w_X8_freeAt E h_ h_g h_kept h_past h_path h_pose h_way h_px h_py h_free h_tips h_far h_queue h_times h_turns h_names h_named h_text h_told h_spare s_hasKept s_pasts s_pathMoves s_spot s_thrown o_1.1 s_queued s_length s_at s_error s_tolds s_number s_g o_1.2.1 o_1.2.2.1 o_1.2.2.2.1 o_1.2.2.2.2.1 o_1.2.2.2.2.2.1 o_1.2.2.2.2.2.2) H locs → (∀ (H : Heap) (locs : List Loc) (ls : Array Slot), lv_has ls 4 [(2, .int ex)] → WD D A s (w_X8_freeAt E h_ h_g h_kept h_past h_path h_pose h_way h_px h_py h_free h_tips h_far h_queue h_times h_turns h_names h_named h_text h_told h_spare s_hasKept s_pasts s_pathMoves s_spot s_thrown o_1.1 s_queued s_length s_at s_error s_tolds s_number s_g o_1.2.1 o_1.2.2.1 o_1.2.2.2.1 o_1.2.2.2.2.1 o_1.2.2.2.2.2.1 o_1.2.2.2.2.2.2) H locs → W p l e (RM 7 155) s m args below meth c H locs 0 0 Q (F0 m 53 ls [])) → W p l e (RM 7 155) s m args below meth c H locs 0 0 Q (F0 m 8 ls []) := by
    intro n
    induction n with
    | zero => intro z2_8 z3_8 ex H locs ls h9; exact (ob_lp0 h9).elim
    | succ n ih =>
      intro z2_8 z3_8 ex H locs ls h9 hl hW kx0
      obtain ⟨q9, hf, h9, k9⟩ := ob_lp h9
      have hf : f_X8_freeAt_B8 o_1.1 s_g o_1.2.1 o_1.2.2.1 o_1.2.2.2.1 o_1.2.2.2.2.1 o_1.2.2.2.2.2.1 o_1.2.2.2.2.2.2 x1 z2_8 z3_8 = some q9 := hf
      unfold f_X8_freeAt_B8 at hf
      refine lv_iload_n hx hb dX8_freeAt_8 rfl (lv_at hl 3 rfl) ?_
      refine lv_aload_n hx hb dX8_freeAt_9 rfl (lv_at hl 0 rfl) ?_
      obtain ⟨o_2, hc_2, hf⟩ := ob_bind hf
      refine q_callI hF hl.1 hK hA hZ hW mv_X8_poses ml_X8_133 (c_X8_poses l D E tx h_ h_g h_kept h_past h_path h_pose h_way h_px h_py h_free h_tips h_far h_queue h_times h_turns h_names h_named h_text h_told h_spare s_hasKept s_pasts s_pathMoves s_spot s_thrown o_1.1 s_queued s_length s_at s_error s_tolds s_number s_g o_2 hc_2) [0, 1] rfl rfl rfl rfl rfl rfl ⟨Nat.le_of_ble_eq_true rfl, Nat.le_of_ble_eq_true rfl⟩ ⟨Nat.le_of_ble_eq_true rfl, Nat.le_of_ble_eq_true rfl⟩ rfl rfl (Nat.le_of_ble_eq_true rfl) dX8_freeAt_10 (fun H locs hW => ?_)
      have hW : WD D A s (w_X8_freeAt E h_ h_g h_kept h_past h_path h_pose h_way h_px h_py h_free h_tips h_far h_queue h_times h_turns h_names h_named h_text h_told h_spare s_hasKept s_pasts s_pathMoves s_spot s_thrown o_1.1 s_queued s_length s_at s_error s_tolds s_number s_g o_1.2.1 o_1.2.2.1 o_1.2.2.2.1 o_1.2.2.2.2.1 o_1.2.2.2.2.2.1 o_1.2.2.2.2.2.2) H locs := hW
      refine q_icmp_ge (tgt := 53) hx hb dX8_freeAt_13 (by decide) hf (fun hf => ?_) (fun hf => ?_)
      · cases hf
        have hx9 := k9 _ rfl
        subst hx9
        exact kx0 _ _ _ (lv_sub hl [2] rfl) hW
      · refine lv_iload_n hx hb dX8_freeAt_16 rfl (lv_at hl 2 rfl) ?_
        refine lv_aload_n hx hb dX8_freeAt_17 rfl (lv_at hl 0 rfl) ?_
        refine q_get hF hK hW fl_X8_38 0 rfl rfl dX8_freeAt_18 ?_
        refine lv_iload_n hx hb dX8_freeAt_21 rfl (lv_at hl 3 rfl) ?_
        refine q_zald hx hb hK hW 6 1 rfl rfl dX8_freeAt_22 hf (fun hf => ?_)
        refine q_if_eq (tgt := 44) hx hb dX8_freeAt_23 (by decide) hf (fun hf => ?_) (fun hf => ?_)
        · refine lv_iconst (v := 0) hx hb dX8_freeAt_44 (by decide) ?_
          refine lv_iadd hx hb dX8_freeAt_45 ?_
          refine lv_topi (fun v_3 ev_3 => ?_)
          replace hf := ob_let hf ev_3
          refine lv_istore_n (lv' := [(2, .int v_3), (0, .ref h_), (1, .int x1), (3, .int z3_8)]) hx hb dX8_freeAt_46 rfl hl (by decide) rfl (fun ls hl => ?_)
          obtain ⟨v_4, ev_4⟩ : ∃ y : Int32, y = z3_8 + 1 := ⟨_, rfl⟩
          replace hf := ob_let hf ev_4
          refine lv_iinc (v := v_4) (lv' := [(3, .int v_4), (2, .int v_3), (0, .ref h_), (1, .int x1)]) hx hb dX8_freeAt_47 hl (k := 3) rfl (by rw [ev_4]; rfl) (by decide) rfl (fun ls hl => ?_)
          refine lv_goto (tgt := 8) hx hb dX8_freeAt_50 (by decide) ?_
          cases hf
          exact ih v_3 v_4 ex _ _ _ (h9 _ rfl) (lv_sub hl [2, 3, 1, 0] rfl) hW kx0
        · refine lv_iload_n hx hb dX8_freeAt_26 rfl (lv_at hl 1 rfl) ?_
          refine q_if_lt (tgt := 40) hx hb dX8_freeAt_27 (by decide) hf (fun hf => ?_) (fun hf => ?_)
          · refine lv_iconst (v := 1) hx hb dX8_freeAt_40 (by decide) ?_
            refine lv_goto (tgt := 45) hx hb dX8_freeAt_41 (by decide) ?_
            refine lv_iadd hx hb dX8_freeAt_45 ?_
            refine lv_topi (fun v_5 ev_5 => ?_)
            replace hf := ob_let hf ev_5
            refine lv_istore_n (lv' := [(2, .int v_5), (0, .ref h_), (1, .int x1), (3, .int z3_8)]) hx hb dX8_freeAt_46 rfl hl (by decide) rfl (fun ls hl => ?_)
            obtain ⟨v_6, ev_6⟩ : ∃ y : Int32, y = z3_8 + 1 := ⟨_, rfl⟩
            replace hf := ob_let hf ev_6
            refine lv_iinc (v := v_6) (lv' := [(3, .int v_6), (2, .int v_5), (0, .ref h_), (1, .int x1)]) hx hb dX8_freeAt_47 hl (k := 3) rfl (by rw [ev_6]; rfl) (by decide) rfl (fun ls hl => ?_)
            refine lv_goto (tgt := 8) hx hb dX8_freeAt_50 (by decide) ?_
            cases hf
            exact ih v_5 v_6 ex _ _ _ (h9 _ rfl) (lv_sub hl [2, 3, 1, 0] rfl) hW kx0
          · refine lv_aload_n hx hb dX8_freeAt_30 rfl (lv_at hl 0 rfl) ?_
            refine q_get hF hK hW fl_X8_42 0 rfl rfl dX8_freeAt_31 ?_
            refine lv_iload_n hx hb dX8_freeAt_34 rfl (lv_at hl 3 rfl) ?_
            refine q_iald hx hb hK hW 7 0 rfl rfl dX8_freeAt_35 hf (fun hf => ?_)
            refine lv_iload_n hx hb dX8_freeAt_36 rfl (lv_at hl 1 rfl) ?_
            refine q_icmp_ne (tgt := 44) hx hb dX8_freeAt_37 (by decide) hf (fun hf => ?_) (fun hf => ?_)
            · refine lv_iconst (v := 0) hx hb dX8_freeAt_44 (by decide) ?_
              refine lv_iadd hx hb dX8_freeAt_45 ?_
              refine lv_topi (fun v_7 ev_7 => ?_)
              replace hf := ob_let hf ev_7
              refine lv_istore_n (lv' := [(2, .int v_7), (0, .ref h_), (1, .int x1), (3, .int z3_8)]) hx hb dX8_freeAt_46 rfl hl (by decide) rfl (fun ls hl => ?_)
              obtain ⟨v_8, ev_8⟩ : ∃ y : Int32, y = z3_8 + 1 := ⟨_, rfl⟩
              replace hf := ob_let hf ev_8
              refine lv_iinc (v := v_8) (lv' := [(3, .int v_8), (2, .int v_7), (0, .ref h_), (1, .int x1)]) hx hb dX8_freeAt_47 hl (k := 3) rfl (by rw [ev_8]; rfl) (by decide) rfl (fun ls hl => ?_)
              refine lv_goto (tgt := 8) hx hb dX8_freeAt_50 (by decide) ?_
              cases hf
              exact ih v_7 v_8 ex _ _ _ (h9 _ rfl) (lv_sub hl [2, 3, 1, 0] rfl) hW kx0
            · refine lv_iconst (v := 1) hx hb dX8_freeAt_40 (by decide) ?_
              refine lv_goto (tgt := 45) hx hb dX8_freeAt_41 (by decide) ?_
              refine lv_iadd hx hb dX8_freeAt_45 ?_
              refine lv_topi (fun v_9 ev_9 => ?_)
              replace hf := ob_let hf ev_9
              refine lv_istore_n (lv' := [(2, .int v_9), (0, .ref h_), (1, .int x1), (3, .int z3_8)]) hx hb dX8_freeAt_46 rfl hl (by decide) rfl (fun ls hl => ?_)
              obtain ⟨v_10, ev_10⟩ : ∃ y : Int32, y = z3_8 + 1 := ⟨_, rfl⟩
              replace hf := ob_let hf ev_10
              refine lv_iinc (v := v_10) (lv' := [(3, .int v_10), (2, .int v_9), (0, .ref h_), (1, .int x1)]) hx hb dX8_freeAt_47 hl (k := 3) rfl (by rw [ev_10]; rfl) (by decide) rfl (fun ls hl => ?_)
              refine lv_goto (tgt := 8) hx hb dX8_freeAt_50 (by decide) ?_
              cases hf
              exact ih v_9 v_10 ex _ _ _ (h9 _ rfl) (lv_sub hl [2, 3, 1, 0] rfl) hW kx0
  obtain ⟨e_11, hc_11, hf⟩ := ob_bind hf
  refine hB8 lfuel 0 0 e_11 _ _ _ hc_11 (lv_sub hl [2, 3, 1, 0] rfl) hW ?_
  intro H locs ls hl hW
  refine lv_iload_n hx hb dX8_freeAt_53 rfl (lv_at hl 0 rfl) ?_
  cases hf
  exact hret dX8_freeAt_54 rfl rfl hW
def w_X8_freePoses (E : Nat → ClassId) (h_ h_g h_kept h_past h_path h_pose h_way h_px h_py h_free h_tips h_far h_queue h_times h_turns h_names h_named h_text h_told h_spare : Nat) (s_hasKept : Int32) (s_pasts : Int32) (s_pathMoves : Int32) (s_spot : Int32) (s_thrown : Int32) (s_faulty : Int32) (s_queued : Int32) (s_length : Int32) (s_at : Int32) (s_error : Int32) (s_tolds : Int32) (s_number : Int32) (s_g : Nat → Int32) (s_pose : Nat → Int32) (s_way : Nat → Int32) (s_px : Nat → Int32) (s_py : Nat → Int32) (s_free : Nat → Int32) (s_tips : Nat → Int32) : va_W := [(h_, .inr (10, [.ref h_g, .ref h_kept, .int s_hasKept, .ref h_past, .int s_pasts, .ref h_path, .int s_pathMoves, .int s_spot, .int s_thrown, .ref h_pose, .ref h_way, .ref h_px, .ref h_py, .int s_faulty, .ref h_free, .ref h_tips, .ref h_far, .ref h_queue, .int s_queued, .ref h_times, .ref h_turns, .ref h_names, .ref h_named, .ref h_text, .int s_length, .int s_at, .int s_error, .ref h_told, .int s_tolds, .int s_number, .ref h_spare])), (h_g, .inl (E 0, 141, .inl s_g)), (h_pose, .inl (E 0, 4, .inl s_pose)), (h_way, .inl (E 0, 4, .inl s_way)), (h_px, .inl (E 0, 5, .inl s_px)), (h_py, .inl (E 0, 5, .inl s_py)), (h_free, .inl (E 1, 5000, .inl s_free)), (h_tips, .inl (E 0, 5000, .inl s_tips))]
set_option maxHeartbeats 4000000 in
set_option maxRecDepth 100000 in
theorem c_X8_freePoses (l : Launch) (D : va_G) (E : Nat → ClassId) (tx : List (Nat × String)) (h_ h_g h_kept h_past h_path h_pose h_way h_px h_py h_free h_tips h_far h_queue h_times h_turns h_names h_named h_text h_told h_spare : Nat) (s_hasKept : Int32) (s_pasts : Int32) (s_pathMoves : Int32) (s_spot : Int32) (s_thrown : Int32) (s_faulty : Int32) (s_queued : Int32) (s_length : Int32) (s_at : Int32) (s_error : Int32) (s_tolds : Int32) (s_number : Int32) (s_g : Nat → Int32) (s_pose : Nat → Int32) (s_way : Nat → Int32) (s_px : Nat → Int32) (s_py : Nat → Int32) (s_free : Nat → Int32) (s_tips : Nat → Int32)  (r0 : Int32) (r1 : Int32) (r2 : Int32) (r3 : Nat → Int32) (r4 : Nat → Int32) (r5 : Nat → Int32) (r6 : Nat → Int32) (r7 : Nat → Int32) (r8 : Nat → Int32) (hf : f_X8_freePoses s_thrown s_faulty s_g s_pose s_way s_px s_py s_free s_tips = some (r0, r1, r2, r3, r4, r5, r6, r7, r8)) : CI l yX8_freePoses cX8_freePoses 1 (some .int) 8 178 D E tx [.ref h_] (w_X8_freePoses E h_ h_g h_kept h_past h_path h_pose h_way h_px h_py h_free h_tips h_far h_queue h_times h_turns h_names h_named h_text h_told h_spare s_hasKept s_pasts s_pathMoves s_spot s_thrown s_faulty s_queued s_length s_at s_error s_tolds s_number s_g s_pose s_way s_px s_py s_free s_tips) (w_X8_freePoses E h_ h_g h_kept h_past h_path h_pose h_way h_px h_py h_free h_tips h_far h_queue h_times h_turns h_names h_named h_text h_told h_spare s_hasKept s_pasts s_pathMoves s_spot r1 r2 s_queued s_length s_at s_error s_tolds s_number s_g r3 r4 r5 r6 r7 r8) r0 := by
  refine CI_of RX8 pn_X8 rfl (Nat.le_of_ble_eq_true rfl) (fun p e s m args below meth c A Q hF hK hA hZ hW hret ls hl => ?_)
  have hx := hF.1
  have hb := hF.2.1
  have hl : lv_has ls 1 [(0, .ref h_)] := hl
  unfold f_X8_freePoses at hf
  have hL13 : ∀ (s_thrown_13 : Int32) (s_faulty_13 : Int32) (s_pose_13 : Nat → Int32) (s_way_13 : Nat → Int32) (s_px_13 : Nat → Int32) (s_py_13 : Nat → Int32) (s_free_13 : Nat → Int32) (s_tips_13 : Nat → Int32) (k1_13 : Int32) (H : Heap) (locs : List Loc) (ls : Array Slot), f_X8_freePoses_L13 s_thrown_13 s_faulty_13 s_g s_pose_13 s_way_13 s_px_13 s_py_13 s_free_13 s_tips_13 k1_13 = some (r0, r1, r2, r3, r4, r5, r6, r7, r8) → lv_has ls 1 [(0, .ref h_)] → WD D A s (w_X8_freePoses E h_ h_g h_kept h_past h_path h_pose h_way h_px h_py h_free h_tips h_far h_queue h_times h_turns h_names h_named h_text h_told h_spare s_hasKept s_pasts s_pathMoves s_spot s_thrown_13 s_faulty_13 s_queued s_length s_at s_error s_tolds s_number s_g s_pose_13 s_way_13 s_px_13 s_py_13 s_free_13 s_tips_13) H locs → W p l e (RM 8 178) s m args below meth c H locs 0 0 Q (F0 m 13 ls [.int k1_13, .ref h_]) := by
    intro s_thrown_13 s_faulty_13 s_pose_13 s_way_13 s_px_13 s_py_13 s_free_13 s_tips_13 k1_13 H locs ls hf hl hW
    unfold f_X8_freePoses_L13 at hf
    refine q_put hF hK hW fl_X8_76 ft_X8 rfl 0 rfl rfl rfl (Nat.le_of_ble_eq_true rfl) dX8_freePoses_13 (fun H locs hW => ?_)
    have hW : WD D A s (w_X8_freePoses E h_ h_g h_kept h_past h_path h_pose h_way h_px h_py h_free h_tips h_far h_queue h_times h_turns h_names h_named h_text h_told h_spare s_hasKept s_pasts s_pathMoves s_spot k1_13 s_faulty_13 s_queued s_length s_at s_error s_tolds s_number s_g s_pose_13 s_way_13 s_px_13 s_py_13 s_free_13 s_tips_13) H locs := hW
    refine lv_aload_n hx hb dX8_freePoses_16 rfl (lv_at hl 0 rfl) ?_
    refine q_get hF hK hW fl_X8_76 0 rfl rfl dX8_freePoses_17 ?_
    refine q_if_le (tgt := 27) hx hb dX8_freePoses_20 (by decide) hf (fun hf => ?_) (fun hf => ?_)
    · refine lv_aload_n hx hb dX8_freePoses_27 rfl (lv_at hl 0 rfl) ?_
      refine lv_iconst (v := (-1)) hx hb dX8_freePoses_28 (by decide) ?_
      obtain ⟨o_1, hc_1, hf⟩ := ob_bind hf
      refine q_callI hF hl.1 hK hA hZ hW mv_X8_freeAt ml_X8_225 (c_X8_freeAt l D E tx h_ h_g h_kept h_past h_path h_pose h_way h_px h_py h_free h_tips h_far h_queue h_times h_turns h_names h_named h_text h_told h_spare s_hasKept s_pasts s_pathMoves s_spot k1_13 s_faulty_13 s_queued s_length s_at s_error s_tolds s_number s_g s_pose_13 s_way_13 s_px_13 s_py_13 s_free_13 s_tips_13 ((-1)) o_1.1 o_1.2.1 o_1.2.2.1 o_1.2.2.2.1 o_1.2.2.2.2.1 o_1.2.2.2.2.2.1 o_1.2.2.2.2.2.2.1 o_1.2.2.2.2.2.2.2 hc_1) [0, 1, 2, 3, 4, 5, 6, 7] rfl rfl rfl rfl rfl rfl ⟨Nat.le_of_ble_eq_true rfl, Nat.le_of_ble_eq_true rfl⟩ ⟨Nat.le_of_ble_eq_true rfl, Nat.le_of_ble_eq_true rfl⟩ rfl rfl (Nat.le_of_ble_eq_true rfl) dX8_freePoses_29 (fun H locs hW => ?_)
      have hW : WD D A s (w_X8_freePoses E h_ h_g h_kept h_past h_path h_pose h_way h_px h_py h_free h_tips h_far h_queue h_times h_turns h_names h_named h_text h_told h_spare s_hasKept s_pasts s_pathMoves s_spot k1_13 o_1.2.1 s_queued s_length s_at s_error s_tolds s_number s_g o_1.2.2.1 o_1.2.2.2.1 o_1.2.2.2.2.1 o_1.2.2.2.2.2.1 o_1.2.2.2.2.2.2.1 o_1.2.2.2.2.2.2.2) H locs := hW
      cases hf
      exact hret dX8_freePoses_32 rfl rfl hW
    · refine lv_iconst (v := 0) hx hb dX8_freePoses_23 (by decide) ?_
      refine lv_goto (tgt := 32) hx hb dX8_freePoses_24 (by decide) ?_
      cases hf
      exact hret dX8_freePoses_32 rfl rfl hW
  refine lv_aload_n hx hb dX8_freePoses_0 rfl (lv_at hl 0 rfl) ?_
  refine lv_aload_n hx hb dX8_freePoses_1 rfl (lv_at hl 0 rfl) ?_
  obtain ⟨o_2, hc_2, hf⟩ := ob_bind hf
  refine q_callI hF hl.1 hK hA hZ hW mv_X8_isMany ml_X8_222 (c_X8_isMany l D E tx h_ h_g h_kept h_past h_path h_pose h_way h_px h_py h_free h_tips h_far h_queue h_times h_turns h_names h_named h_text h_told h_spare s_hasKept s_pasts s_pathMoves s_spot s_thrown s_faulty s_queued s_length s_at s_error s_tolds s_number s_g o_2 hc_2) [0, 1] rfl rfl rfl rfl rfl rfl ⟨Nat.le_of_ble_eq_true rfl, Nat.le_of_ble_eq_true rfl⟩ ⟨Nat.le_of_ble_eq_true rfl, Nat.le_of_ble_eq_true rfl⟩ rfl rfl (Nat.le_of_ble_eq_true rfl) dX8_freePoses_2 (fun H locs hW => ?_)
  have hW : WD D A s (w_X8_freePoses E h_ h_g h_kept h_past h_path h_pose h_way h_px h_py h_free h_tips h_far h_queue h_times h_turns h_names h_named h_text h_told h_spare s_hasKept s_pasts s_pathMoves s_spot s_thrown s_faulty s_queued s_length s_at s_error s_tolds s_number s_g s_pose s_way s_px s_py s_free s_tips) H locs := hW
  refine q_if_eq (tgt := 12) hx hb dX8_freePoses_5 (by decide) hf (fun hf => ?_) (fun hf => ?_)
  · refine lv_iconst (v := 0) hx hb dX8_freePoses_12 (by decide) ?_
    exact hL13 s_thrown s_faulty s_pose s_way s_px s_py s_free s_tips 0 _ _ _ hf (lv_sub hl [0] rfl) hW
  · refine lv_iconst (v := 1) hx hb dX8_freePoses_8 (by decide) ?_
    refine lv_goto (tgt := 13) hx hb dX8_freePoses_9 (by decide) ?_
    exact hL13 s_thrown s_faulty s_pose s_way s_px s_py s_free s_tips 1 _ _ _ hf (lv_sub hl [0] rfl) hW
def w_X8_isPose (E : Nat → ClassId) (h_ h_g h_kept h_past h_path h_pose h_way h_px h_py h_free h_tips h_far h_queue h_times h_turns h_names h_named h_text h_told h_spare : Nat) (s_hasKept : Int32) (s_pasts : Int32) (s_pathMoves : Int32) (s_spot : Int32) (s_thrown : Int32) (s_faulty : Int32) (s_queued : Int32) (s_length : Int32) (s_at : Int32) (s_error : Int32) (s_tolds : Int32) (s_number : Int32) (s_g : Nat → Int32) : va_W := [(h_, .inr (10, [.ref h_g, .ref h_kept, .int s_hasKept, .ref h_past, .int s_pasts, .ref h_path, .int s_pathMoves, .int s_spot, .int s_thrown, .ref h_pose, .ref h_way, .ref h_px, .ref h_py, .int s_faulty, .ref h_free, .ref h_tips, .ref h_far, .ref h_queue, .int s_queued, .ref h_times, .ref h_turns, .ref h_names, .ref h_named, .ref h_text, .int s_length, .int s_at, .int s_error, .ref h_told, .int s_tolds, .int s_number, .ref h_spare])), (h_g, .inl (E 0, 141, .inl s_g))]
set_option maxHeartbeats 4000000 in
set_option maxRecDepth 100000 in
theorem c_X8_isPose (l : Launch) (D : va_G) (E : Nat → ClassId) (tx : List (Nat × String)) (h_ h_g h_kept h_past h_path h_pose h_way h_px h_py h_free h_tips h_far h_queue h_times h_turns h_names h_named h_text h_told h_spare : Nat) (s_hasKept : Int32) (s_pasts : Int32) (s_pathMoves : Int32) (s_spot : Int32) (s_thrown : Int32) (s_faulty : Int32) (s_queued : Int32) (s_length : Int32) (s_at : Int32) (s_error : Int32) (s_tolds : Int32) (s_number : Int32) (s_g : Nat → Int32) (x1 : Int32) (r0 : Int32) (hf : f_X8_isPose s_g x1 = some r0) : CI l yX8_isPose cX8_isPose 2 (some .boolean) 3 64 D E tx [.ref h_, .int x1] (w_X8_isPose E h_ h_g h_kept h_past h_path h_pose h_way h_px h_py h_free h_tips h_far h_queue h_times h_turns h_names h_named h_text h_told h_spare s_hasKept s_pasts s_pathMoves s_spot s_thrown s_faulty s_queued s_length s_at s_error s_tolds s_number s_g) (w_X8_isPose E h_ h_g h_kept h_past h_path h_pose h_way h_px h_py h_free h_tips h_far h_queue h_times h_turns h_names h_named h_text h_told h_spare s_hasKept s_pasts s_pathMoves s_spot s_thrown s_faulty s_queued s_length s_at s_error s_tolds s_number s_g) r0 := by
  refine CI_of RX8 pn_X8 rfl (Nat.le_of_ble_eq_true rfl) (fun p e s m args below meth c A Q hF hK hA hZ hW hret ls hl => ?_)
  have hx := hF.1
  have hb := hF.2.1
  have hl : lv_has ls 2 [(0, .ref h_), (1, .int x1)] := hl
  unfold f_X8_isPose at hf
  refine lv_iload_n hx hb dX8_isPose_0 rfl (lv_at hl 1 rfl) ?_
  refine lv_iconst (v := 0) hx hb dX8_isPose_1 (by decide) ?_
  refine lv_aload_n hx hb dX8_isPose_2 rfl (lv_at hl 0 rfl) ?_
  obtain ⟨o_1, hc_1, hf⟩ := ob_bind hf
  refine q_callI hF hl.1 hK hA hZ hW mv_X8_poses ml_X8_133 (c_X8_poses l D E tx h_ h_g h_kept h_past h_path h_pose h_way h_px h_py h_free h_tips h_far h_queue h_times h_turns h_names h_named h_text h_told h_spare s_hasKept s_pasts s_pathMoves s_spot s_thrown s_faulty s_queued s_length s_at s_error s_tolds s_number s_g o_1 hc_1) [0, 1] rfl rfl rfl rfl rfl rfl ⟨Nat.le_of_ble_eq_true rfl, Nat.le_of_ble_eq_true rfl⟩ ⟨Nat.le_of_ble_eq_true rfl, Nat.le_of_ble_eq_true rfl⟩ rfl rfl (Nat.le_of_ble_eq_true rfl) dX8_isPose_3 (fun H locs hW => ?_)
  have hW : WD D A s (w_X8_isPose E h_ h_g h_kept h_past h_path h_pose h_way h_px h_py h_free h_tips h_far h_queue h_times h_turns h_names h_named h_text h_told h_spare s_hasKept s_pasts s_pathMoves s_spot s_thrown s_faulty s_queued s_length s_at s_error s_tolds s_number s_g) H locs := hW
  refine lv_iconst (v := 1) hx hb dX8_isPose_6 (by decide) ?_
  refine lv_isub hx hb dX8_isPose_7 ?_
  obtain ⟨o_2, hc_2, hf⟩ := ob_bind hf
  refine q_callSI hF hl.1 hK hA hZ hW ms_X8_in ml_X8_79 (c_X8_in l D E tx x1 0 (o_1 - 1) o_2 hc_2) [] rfl rfl rfl ⟨Nat.le_of_ble_eq_true rfl, Nat.le_of_ble_eq_true rfl⟩ ⟨Nat.le_of_ble_eq_true rfl, Nat.le_of_ble_eq_true rfl⟩ rfl rfl (Nat.le_of_ble_eq_true rfl) dX8_isPose_8 (fun H locs hW => ?_)
  have hW : WD D A s (w_X8_isPose E h_ h_g h_kept h_past h_path h_pose h_way h_px h_py h_free h_tips h_far h_queue h_times h_turns h_names h_named h_text h_told h_spare s_hasKept s_pasts s_pathMoves s_spot s_thrown s_faulty s_queued s_length s_at s_error s_tolds s_number s_g) H locs := hW
  have hz := nar_b (ob_gb hf).1
  replace hf := (ob_gb hf).2
  cases hf
  exact hret dX8_isPose_11 hz.1 rfl hW
def w_X8_poseValue (E : Nat → ClassId) (h_ h_g h_kept h_past h_path h_pose h_way h_px h_py h_free h_tips h_far h_queue h_times h_turns h_names h_named h_text h_told h_spare : Nat) (s_hasKept : Int32) (s_pasts : Int32) (s_pathMoves : Int32) (s_spot : Int32) (s_thrown : Int32) (s_faulty : Int32) (s_queued : Int32) (s_length : Int32) (s_at : Int32) (s_error : Int32) (s_tolds : Int32) (s_number : Int32) (s_g : Nat → Int32) (s_pose : Nat → Int32) (s_way : Nat → Int32) (s_px : Nat → Int32) (s_py : Nat → Int32) : va_W := [(h_, .inr (10, [.ref h_g, .ref h_kept, .int s_hasKept, .ref h_past, .int s_pasts, .ref h_path, .int s_pathMoves, .int s_spot, .int s_thrown, .ref h_pose, .ref h_way, .ref h_px, .ref h_py, .int s_faulty, .ref h_free, .ref h_tips, .ref h_far, .ref h_queue, .int s_queued, .ref h_times, .ref h_turns, .ref h_names, .ref h_named, .ref h_text, .int s_length, .int s_at, .int s_error, .ref h_told, .int s_tolds, .int s_number, .ref h_spare])), (h_g, .inl (E 0, 141, .inl s_g)), (h_pose, .inl (E 0, 4, .inl s_pose)), (h_way, .inl (E 0, 4, .inl s_way)), (h_px, .inl (E 0, 5, .inl s_px)), (h_py, .inl (E 0, 5, .inl s_py))]
set_option maxHeartbeats 4000000 in
set_option maxRecDepth 100000 in
theorem c_X8_poseValue (l : Launch) (D : va_G) (E : Nat → ClassId) (tx : List (Nat × String)) (h_ h_g h_kept h_past h_path h_pose h_way h_px h_py h_free h_tips h_far h_queue h_times h_turns h_names h_named h_text h_told h_spare : Nat) (s_hasKept : Int32) (s_pasts : Int32) (s_pathMoves : Int32) (s_spot : Int32) (s_thrown : Int32) (s_faulty : Int32) (s_queued : Int32) (s_length : Int32) (s_at : Int32) (s_error : Int32) (s_tolds : Int32) (s_number : Int32) (s_g : Nat → Int32) (s_pose : Nat → Int32) (s_way : Nat → Int32) (s_px : Nat → Int32) (s_py : Nat → Int32) (x1 : Int32) (x2 : Int32) (r0 : Int32) (r1 : Int32) (r2 : Nat → Int32) (r3 : Nat → Int32) (r4 : Nat → Int32) (r5 : Nat → Int32) (hf : f_X8_poseValue s_thrown s_g s_pose s_way s_px s_py x1 x2 = some (r0, r1, r2, r3, r4, r5)) : CI l yX8_poseValue cX8_poseValue 3 (some .int) 4 85 D E tx [.ref h_, .int x1, .int x2] (w_X8_poseValue E h_ h_g h_kept h_past h_path h_pose h_way h_px h_py h_free h_tips h_far h_queue h_times h_turns h_names h_named h_text h_told h_spare s_hasKept s_pasts s_pathMoves s_spot s_thrown s_faulty s_queued s_length s_at s_error s_tolds s_number s_g s_pose s_way s_px s_py) (w_X8_poseValue E h_ h_g h_kept h_past h_path h_pose h_way h_px h_py h_free h_tips h_far h_queue h_times h_turns h_names h_named h_text h_told h_spare s_hasKept s_pasts s_pathMoves s_spot r1 s_faulty s_queued s_length s_at s_error s_tolds s_number s_g r2 r3 r4 r5) r0 := by
  refine CI_of RX8 pn_X8 rfl (Nat.le_of_ble_eq_true rfl) (fun p e s m args below meth c A Q hF hK hA hZ hW hret ls hl => ?_)
  have hx := hF.1
  have hb := hF.2.1
  have hl : lv_has ls 3 [(0, .ref h_), (1, .int x1), (2, .int x2)] := hl
  unfold f_X8_poseValue at hf
  have hL22 : ∀ (s_thrown_22 : Int32) (s_pose_22 : Nat → Int32) (s_way_22 : Nat → Int32) (s_px_22 : Nat → Int32) (s_py_22 : Nat → Int32) (y1_22 : Int32) (y2_22 : Int32) (k1_22 : Int32) (H : Heap) (locs : List Loc) (ls : Array Slot), f_X8_poseValue_L22 s_thrown_22 s_g s_pose_22 s_way_22 s_px_22 s_py_22 y1_22 y2_22 k1_22 = some (r0, r1, r2, r3, r4, r5) → lv_has ls 3 [(0, .ref h_), (1, .int y1_22), (2, .int y2_22)] → WD D A s (w_X8_poseValue E h_ h_g h_kept h_past h_path h_pose h_way h_px h_py h_free h_tips h_far h_queue h_times h_turns h_names h_named h_text h_told h_spare s_hasKept s_pasts s_pathMoves s_spot s_thrown_22 s_faulty s_queued s_length s_at s_error s_tolds s_number s_g s_pose_22 s_way_22 s_px_22 s_py_22) H locs → W p l e (RM 4 85) s m args below meth c H locs 0 0 Q (F0 m 22 ls [.int k1_22, .ref h_]) := by
    intro s_thrown_22 s_pose_22 s_way_22 s_px_22 s_py_22 y1_22 y2_22 k1_22 H locs ls hf hl hW
    unfold f_X8_poseValue_L22 at hf
    refine q_put hF hK hW fl_X8_76 ft_X8 rfl 0 rfl rfl rfl (Nat.le_of_ble_eq_true rfl) dX8_poseValue_22 (fun H locs hW => ?_)
    have hW : WD D A s (w_X8_poseValue E h_ h_g h_kept h_past h_path h_pose h_way h_px h_py h_free h_tips h_far h_queue h_times h_turns h_names h_named h_text h_told h_spare s_hasKept s_pasts s_pathMoves s_spot k1_22 s_faulty s_queued s_length s_at s_error s_tolds s_number s_g s_pose_22 s_way_22 s_px_22 s_py_22) H locs := hW
    refine lv_aload_n hx hb dX8_poseValue_25 rfl (lv_at hl 0 rfl) ?_
    refine q_get hF hK hW fl_X8_76 0 rfl rfl dX8_poseValue_26 ?_
    refine q_if_le (tgt := 34) hx hb dX8_poseValue_29 (by decide) hf (fun hf => ?_) (fun hf => ?_)
    · refine lv_aload_n hx hb dX8_poseValue_34 rfl (lv_at hl 0 rfl) ?_
      refine lv_iload_n hx hb dX8_poseValue_35 rfl (lv_at hl 1 rfl) ?_
      obtain ⟨o_1, hc_1, hf⟩ := ob_bind hf
      refine q_callV hF hl.1 hK hA hZ hW mv_X8_takes ml_X8_174 (c_X8_takes l D E tx h_ h_g h_kept h_past h_path h_pose h_way h_px h_py h_free h_tips h_far h_queue h_times h_turns h_names h_named h_text h_told h_spare s_hasKept s_pasts s_pathMoves s_spot k1_22 s_faulty s_queued s_length s_at s_error s_tolds s_number s_g s_pose_22 s_way_22 s_px_22 s_py_22 y1_22 o_1.1 o_1.2.1 o_1.2.2.1 o_1.2.2.2 hc_1) [0, 1, 2, 3, 4, 5] rfl rfl rfl rfl rfl rfl ⟨Nat.le_of_ble_eq_true rfl, Nat.le_of_ble_eq_true rfl⟩ ⟨Nat.le_of_ble_eq_true rfl, Nat.le_of_ble_eq_true rfl⟩ rfl rfl (Nat.le_of_ble_eq_true rfl) dX8_poseValue_36 (fun H locs hW => ?_)
      have hW : WD D A s (w_X8_poseValue E h_ h_g h_kept h_past h_path h_pose h_way h_px h_py h_free h_tips h_far h_queue h_times h_turns h_names h_named h_text h_told h_spare s_hasKept s_pasts s_pathMoves s_spot k1_22 s_faulty s_queued s_length s_at s_error s_tolds s_number s_g o_1.1 o_1.2.1 o_1.2.2.1 o_1.2.2.2) H locs := hW
      refine lv_aload_n hx hb dX8_poseValue_39 rfl (lv_at hl 0 rfl) ?_
      refine q_get hF hK hW fl_X8_26 0 rfl rfl dX8_poseValue_40 ?_
      refine lv_iload_n hx hb dX8_poseValue_43 rfl (lv_at hl 2 rfl) ?_
      refine q_iald hx hb hK hW 2 0 rfl rfl dX8_poseValue_44 hf (fun hf => ?_)
      cases hf
      exact hret dX8_poseValue_45 rfl rfl hW
    · refine lv_iconst (v := 0) hx hb dX8_poseValue_32 (by decide) ?_
      cases hf
      exact hret dX8_poseValue_33 rfl rfl hW
  have hL21 : ∀ (s_thrown_21 : Int32) (s_pose_21 : Nat → Int32) (s_way_21 : Nat → Int32) (s_px_21 : Nat → Int32) (s_py_21 : Nat → Int32) (y1_21 : Int32) (y2_21 : Int32) (H : Heap) (locs : List Loc) (ls : Array Slot), f_X8_poseValue_L21 s_thrown_21 s_g s_pose_21 s_way_21 s_px_21 s_py_21 y1_21 y2_21 = some (r0, r1, r2, r3, r4, r5) → lv_has ls 3 [(0, .ref h_), (1, .int y1_21), (2, .int y2_21)] → WD D A s (w_X8_poseValue E h_ h_g h_kept h_past h_path h_pose h_way h_px h_py h_free h_tips h_far h_queue h_times h_turns h_names h_named h_text h_told h_spare s_hasKept s_pasts s_pathMoves s_spot s_thrown_21 s_faulty s_queued s_length s_at s_error s_tolds s_number s_g s_pose_21 s_way_21 s_px_21 s_py_21) H locs → W p l e (RM 4 85) s m args below meth c H locs 0 0 Q (F0 m 21 ls [.ref h_]) := by
    intro s_thrown_21 s_pose_21 s_way_21 s_px_21 s_py_21 y1_21 y2_21 H locs ls hf hl hW
    unfold f_X8_poseValue_L21 at hf
    refine lv_iconst (v := 1) hx hb dX8_poseValue_21 (by decide) ?_
    exact hL22 s_thrown_21 s_pose_21 s_way_21 s_px_21 s_py_21 y1_21 y2_21 1 _ _ _ hf (lv_sub hl [0, 1, 2] rfl) hW
  refine lv_aload_n hx hb dX8_poseValue_0 rfl (lv_at hl 0 rfl) ?_
  refine lv_aload_n hx hb dX8_poseValue_1 rfl (lv_at hl 0 rfl) ?_
  refine lv_iload_n hx hb dX8_poseValue_2 rfl (lv_at hl 1 rfl) ?_
  obtain ⟨o_2, hc_2, hf⟩ := ob_bind hf
  refine q_callI hF hl.1 hK hA hZ hW mv_X8_isPose ml_X8_231 (c_X8_isPose l D E tx h_ h_g h_kept h_past h_path h_pose h_way h_px h_py h_free h_tips h_far h_queue h_times h_turns h_names h_named h_text h_told h_spare s_hasKept s_pasts s_pathMoves s_spot s_thrown s_faulty s_queued s_length s_at s_error s_tolds s_number s_g x1 o_2 hc_2) [0, 1] rfl rfl rfl rfl rfl rfl ⟨Nat.le_of_ble_eq_true rfl, Nat.le_of_ble_eq_true rfl⟩ ⟨Nat.le_of_ble_eq_true rfl, Nat.le_of_ble_eq_true rfl⟩ rfl rfl (Nat.le_of_ble_eq_true rfl) dX8_poseValue_3 (fun H locs hW => ?_)
  have hW : WD D A s (w_X8_poseValue E h_ h_g h_kept h_past h_path h_pose h_way h_px h_py h_free h_tips h_far h_queue h_times h_turns h_names h_named h_text h_told h_spare s_hasKept s_pasts s_pathMoves s_spot s_thrown s_faulty s_queued s_length s_at s_error s_tolds s_number s_g s_pose s_way s_px s_py) H locs := hW
  refine q_if_eq (tgt := 21) hx hb dX8_poseValue_6 (by decide) hf (fun hf => ?_) (fun hf => ?_)
  · exact hL21 s_thrown s_pose s_way s_px s_py x1 x2 _ _ _ hf (lv_sub hl [0, 1, 2] rfl) hW
  · refine lv_aload_n hx hb dX8_poseValue_9 rfl (lv_at hl 0 rfl) ?_
    refine lv_iload_n hx hb dX8_poseValue_10 rfl (lv_at hl 2 rfl) ?_
    obtain ⟨o_3, hc_3, hf⟩ := ob_bind hf
    refine q_callI hF hl.1 hK hA hZ hW mv_X8_isJoint ml_X8_105 (c_X8_isJoint l D E tx h_ h_g h_kept h_past h_path h_pose h_way h_px h_py h_free h_tips h_far h_queue h_times h_turns h_names h_named h_text h_told h_spare s_hasKept s_pasts s_pathMoves s_spot s_thrown s_faulty s_queued s_length s_at s_error s_tolds s_number s_g x2 o_3 hc_3) [0, 1] rfl rfl rfl rfl rfl rfl ⟨Nat.le_of_ble_eq_true rfl, Nat.le_of_ble_eq_true rfl⟩ ⟨Nat.le_of_ble_eq_true rfl, Nat.le_of_ble_eq_true rfl⟩ rfl rfl (Nat.le_of_ble_eq_true rfl) dX8_poseValue_11 (fun H locs hW => ?_)
    have hW : WD D A s (w_X8_poseValue E h_ h_g h_kept h_past h_path h_pose h_way h_px h_py h_free h_tips h_far h_queue h_times h_turns h_names h_named h_text h_told h_spare s_hasKept s_pasts s_pathMoves s_spot s_thrown s_faulty s_queued s_length s_at s_error s_tolds s_number s_g s_pose s_way s_px s_py) H locs := hW
    refine q_if_eq (tgt := 21) hx hb dX8_poseValue_14 (by decide) hf (fun hf => ?_) (fun hf => ?_)
    · exact hL21 s_thrown s_pose s_way s_px s_py x1 x2 _ _ _ hf (lv_sub hl [0, 1, 2] rfl) hW
    · refine lv_iconst (v := 0) hx hb dX8_poseValue_17 (by decide) ?_
      refine lv_goto (tgt := 22) hx hb dX8_poseValue_18 (by decide) ?_
      exact hL22 s_thrown s_pose s_way s_px s_py x1 x2 0 _ _ _ hf (lv_sub hl [0, 1, 2] rfl) hW
def w_X8_isFreePose (E : Nat → ClassId) (h_ h_g h_kept h_past h_path h_pose h_way h_px h_py h_free h_tips h_far h_queue h_times h_turns h_names h_named h_text h_told h_spare : Nat) (s_hasKept : Int32) (s_pasts : Int32) (s_pathMoves : Int32) (s_spot : Int32) (s_thrown : Int32) (s_faulty : Int32) (s_queued : Int32) (s_length : Int32) (s_at : Int32) (s_error : Int32) (s_tolds : Int32) (s_number : Int32) (s_g : Nat → Int32) (s_pose : Nat → Int32) (s_way : Nat → Int32) (s_px : Nat → Int32) (s_py : Nat → Int32) : va_W := [(h_, .inr (10, [.ref h_g, .ref h_kept, .int s_hasKept, .ref h_past, .int s_pasts, .ref h_path, .int s_pathMoves, .int s_spot, .int s_thrown, .ref h_pose, .ref h_way, .ref h_px, .ref h_py, .int s_faulty, .ref h_free, .ref h_tips, .ref h_far, .ref h_queue, .int s_queued, .ref h_times, .ref h_turns, .ref h_names, .ref h_named, .ref h_text, .int s_length, .int s_at, .int s_error, .ref h_told, .int s_tolds, .int s_number, .ref h_spare])), (h_g, .inl (E 0, 141, .inl s_g)), (h_pose, .inl (E 0, 4, .inl s_pose)), (h_way, .inl (E 0, 4, .inl s_way)), (h_px, .inl (E 0, 5, .inl s_px)), (h_py, .inl (E 0, 5, .inl s_py))]
set_option maxHeartbeats 4000000 in
set_option maxRecDepth 100000 in
theorem c_X8_isFreePose (l : Launch) (D : va_G) (E : Nat → ClassId) (tx : List (Nat × String)) (h_ h_g h_kept h_past h_path h_pose h_way h_px h_py h_free h_tips h_far h_queue h_times h_turns h_names h_named h_text h_told h_spare : Nat) (s_hasKept : Int32) (s_pasts : Int32) (s_pathMoves : Int32) (s_spot : Int32) (s_thrown : Int32) (s_faulty : Int32) (s_queued : Int32) (s_length : Int32) (s_at : Int32) (s_error : Int32) (s_tolds : Int32) (s_number : Int32) (s_g : Nat → Int32) (s_pose : Nat → Int32) (s_way : Nat → Int32) (s_px : Nat → Int32) (s_py : Nat → Int32) (x1 : Int32) (r0 : Int32) (r1 : Int32) (r2 : Int32) (r3 : Nat → Int32) (r4 : Nat → Int32) (r5 : Nat → Int32) (r6 : Nat → Int32) (hf : f_X8_isFreePose s_thrown s_faulty s_g s_pose s_way s_px s_py x1 = some (r0, r1, r2, r3, r4, r5, r6)) : CI l yX8_isFreePose cX8_isFreePose 2 (some .boolean) 6 134 D E tx [.ref h_, .int x1] (w_X8_isFreePose E h_ h_g h_kept h_past h_path h_pose h_way h_px h_py h_free h_tips h_far h_queue h_times h_turns h_names h_named h_text h_told h_spare s_hasKept s_pasts s_pathMoves s_spot s_thrown s_faulty s_queued s_length s_at s_error s_tolds s_number s_g s_pose s_way s_px s_py) (w_X8_isFreePose E h_ h_g h_kept h_past h_path h_pose h_way h_px h_py h_free h_tips h_far h_queue h_times h_turns h_names h_named h_text h_told h_spare s_hasKept s_pasts s_pathMoves s_spot r1 r2 s_queued s_length s_at s_error s_tolds s_number s_g r3 r4 r5 r6) r0 := by
  refine CI_of RX8 pn_X8 rfl (Nat.le_of_ble_eq_true rfl) (fun p e s m args below meth c A Q hF hK hA hZ hW hret ls hl => ?_)
  have hx := hF.1
  have hb := hF.2.1
  have hl : lv_has ls 2 [(0, .ref h_), (1, .int x1)] := hl
  unfold f_X8_isFreePose at hf
  have hL14 : ∀ (s_thrown_14 : Int32) (s_faulty_14 : Int32) (s_pose_14 : Nat → Int32) (s_way_14 : Nat → Int32) (s_px_14 : Nat → Int32) (s_py_14 : Nat → Int32) (y1_14 : Int32) (k1_14 : Int32) (H : Heap) (locs : List Loc) (ls : Array Slot), f_X8_isFreePose_L14 s_thrown_14 s_faulty_14 s_g s_pose_14 s_way_14 s_px_14 s_py_14 y1_14 k1_14 = some (r0, r1, r2, r3, r4, r5, r6) → lv_has ls 2 [(0, .ref h_), (1, .int y1_14)] → WD D A s (w_X8_isFreePose E h_ h_g h_kept h_past h_path h_pose h_way h_px h_py h_free h_tips h_far h_queue h_times h_turns h_names h_named h_text h_told h_spare s_hasKept s_pasts s_pathMoves s_spot s_thrown_14 s_faulty_14 s_queued s_length s_at s_error s_tolds s_number s_g s_pose_14 s_way_14 s_px_14 s_py_14) H locs → W p l e (RM 6 134) s m args below meth c H locs 0 0 Q (F0 m 14 ls [.int k1_14, .ref h_]) := by
    intro s_thrown_14 s_faulty_14 s_pose_14 s_way_14 s_px_14 s_py_14 y1_14 k1_14 H locs ls hf hl hW
    unfold f_X8_isFreePose_L14 at hf
    refine q_put hF hK hW fl_X8_76 ft_X8 rfl 0 rfl rfl rfl (Nat.le_of_ble_eq_true rfl) dX8_isFreePose_14 (fun H locs hW => ?_)
    have hW : WD D A s (w_X8_isFreePose E h_ h_g h_kept h_past h_path h_pose h_way h_px h_py h_free h_tips h_far h_queue h_times h_turns h_names h_named h_text h_told h_spare s_hasKept s_pasts s_pathMoves s_spot k1_14 s_faulty_14 s_queued s_length s_at s_error s_tolds s_number s_g s_pose_14 s_way_14 s_px_14 s_py_14) H locs := hW
    refine lv_aload_n hx hb dX8_isFreePose_17 rfl (lv_at hl 0 rfl) ?_
    refine q_get hF hK hW fl_X8_76 0 rfl rfl dX8_isFreePose_18 ?_
    refine q_if_ne (tgt := 36) hx hb dX8_isFreePose_21 (by decide) hf (fun hf => ?_) (fun hf => ?_)
    · refine lv_iconst (v := 0) hx hb dX8_isFreePose_36 (by decide) ?_
      cases hf
      exact hret dX8_isFreePose_37 rfl rfl hW
    · refine lv_aload_n hx hb dX8_isFreePose_24 rfl (lv_at hl 0 rfl) ?_
      refine lv_iload_n hx hb dX8_isFreePose_25 rfl (lv_at hl 1 rfl) ?_
      obtain ⟨o_1, hc_1, hf⟩ := ob_bind hf
      refine q_callI hF hl.1 hK hA hZ hW mv_X8_isFree ml_X8_184 (c_X8_isFree l D E tx h_ h_g h_kept h_past h_path h_pose h_way h_px h_py h_free h_tips h_far h_queue h_times h_turns h_names h_named h_text h_told h_spare s_hasKept s_pasts s_pathMoves s_spot k1_14 s_faulty_14 s_queued s_length s_at s_error s_tolds s_number s_g s_pose_14 s_way_14 s_px_14 s_py_14 y1_14 o_1.1 o_1.2.1 o_1.2.2.1 o_1.2.2.2.1 o_1.2.2.2.2.1 o_1.2.2.2.2.2 hc_1) [0, 1, 2, 3, 4, 5] rfl rfl rfl rfl rfl rfl ⟨Nat.le_of_ble_eq_true rfl, Nat.le_of_ble_eq_true rfl⟩ ⟨Nat.le_of_ble_eq_true rfl, Nat.le_of_ble_eq_true rfl⟩ rfl rfl (Nat.le_of_ble_eq_true rfl) dX8_isFreePose_26 (fun H locs hW => ?_)
      have hW : WD D A s (w_X8_isFreePose E h_ h_g h_kept h_past h_path h_pose h_way h_px h_py h_free h_tips h_far h_queue h_times h_turns h_names h_named h_text h_told h_spare s_hasKept s_pasts s_pathMoves s_spot k1_14 o_1.2.1 s_queued s_length s_at s_error s_tolds s_number s_g o_1.2.2.1 o_1.2.2.2.1 o_1.2.2.2.2.1 o_1.2.2.2.2.2) H locs := hW
      refine q_if_eq (tgt := 36) hx hb dX8_isFreePose_29 (by decide) hf (fun hf => ?_) (fun hf => ?_)
      · refine lv_iconst (v := 0) hx hb dX8_isFreePose_36 (by decide) ?_
        cases hf
        exact hret dX8_isFreePose_37 rfl rfl hW
      · refine lv_iconst (v := 1) hx hb dX8_isFreePose_32 (by decide) ?_
        refine lv_goto (tgt := 37) hx hb dX8_isFreePose_33 (by decide) ?_
        cases hf
        exact hret dX8_isFreePose_37 rfl rfl hW
  refine lv_aload_n hx hb dX8_isFreePose_0 rfl (lv_at hl 0 rfl) ?_
  refine lv_aload_n hx hb dX8_isFreePose_1 rfl (lv_at hl 0 rfl) ?_
  refine lv_iload_n hx hb dX8_isFreePose_2 rfl (lv_at hl 1 rfl) ?_
  obtain ⟨o_2, hc_2, hf⟩ := ob_bind hf
  refine q_callI hF hl.1 hK hA hZ hW mv_X8_isPose ml_X8_231 (c_X8_isPose l D E tx h_ h_g h_kept h_past h_path h_pose h_way h_px h_py h_free h_tips h_far h_queue h_times h_turns h_names h_named h_text h_told h_spare s_hasKept s_pasts s_pathMoves s_spot s_thrown s_faulty s_queued s_length s_at s_error s_tolds s_number s_g x1 o_2 hc_2) [0, 1] rfl rfl rfl rfl rfl rfl ⟨Nat.le_of_ble_eq_true rfl, Nat.le_of_ble_eq_true rfl⟩ ⟨Nat.le_of_ble_eq_true rfl, Nat.le_of_ble_eq_true rfl⟩ rfl rfl (Nat.le_of_ble_eq_true rfl) dX8_isFreePose_3 (fun H locs hW => ?_)
  have hW : WD D A s (w_X8_isFreePose E h_ h_g h_kept h_past h_path h_pose h_way h_px h_py h_free h_tips h_far h_queue h_times h_turns h_names h_named h_text h_told h_spare s_hasKept s_pasts s_pathMoves s_spot s_thrown s_faulty s_queued s_length s_at s_error s_tolds s_number s_g s_pose s_way s_px s_py) H locs := hW
  refine q_if_eq (tgt := 13) hx hb dX8_isFreePose_6 (by decide) hf (fun hf => ?_) (fun hf => ?_)
  · refine lv_iconst (v := 1) hx hb dX8_isFreePose_13 (by decide) ?_
    exact hL14 s_thrown s_faulty s_pose s_way s_px s_py x1 1 _ _ _ hf (lv_sub hl [0, 1] rfl) hW
  · refine lv_iconst (v := 0) hx hb dX8_isFreePose_9 (by decide) ?_
    refine lv_goto (tgt := 14) hx hb dX8_isFreePose_10 (by decide) ?_
    exact hL14 s_thrown s_faulty s_pose s_way s_px s_py x1 0 _ _ _ hf (lv_sub hl [0, 1] rfl) hW
def w_X8_posesAt (E : Nat → ClassId) (h_ h_g h_kept h_past h_path h_pose h_way h_px h_py h_free h_tips h_far h_queue h_times h_turns h_names h_named h_text h_told h_spare : Nat) (s_hasKept : Int32) (s_pasts : Int32) (s_pathMoves : Int32) (s_spot : Int32) (s_thrown : Int32) (s_faulty : Int32) (s_queued : Int32) (s_length : Int32) (s_at : Int32) (s_error : Int32) (s_tolds : Int32) (s_number : Int32) (s_g : Nat → Int32) (s_pose : Nat → Int32) (s_way : Nat → Int32) (s_px : Nat → Int32) (s_py : Nat → Int32) (s_free : Nat → Int32) (s_tips : Nat → Int32) : va_W := [(h_, .inr (10, [.ref h_g, .ref h_kept, .int s_hasKept, .ref h_past, .int s_pasts, .ref h_path, .int s_pathMoves, .int s_spot, .int s_thrown, .ref h_pose, .ref h_way, .ref h_px, .ref h_py, .int s_faulty, .ref h_free, .ref h_tips, .ref h_far, .ref h_queue, .int s_queued, .ref h_times, .ref h_turns, .ref h_names, .ref h_named, .ref h_text, .int s_length, .int s_at, .int s_error, .ref h_told, .int s_tolds, .int s_number, .ref h_spare])), (h_g, .inl (E 0, 141, .inl s_g)), (h_pose, .inl (E 0, 4, .inl s_pose)), (h_way, .inl (E 0, 4, .inl s_way)), (h_px, .inl (E 0, 5, .inl s_px)), (h_py, .inl (E 0, 5, .inl s_py)), (h_free, .inl (E 1, 5000, .inl s_free)), (h_tips, .inl (E 0, 5000, .inl s_tips))]
set_option maxHeartbeats 4000000 in
set_option maxRecDepth 100000 in
theorem c_X8_posesAt (l : Launch) (D : va_G) (E : Nat → ClassId) (tx : List (Nat × String)) (h_ h_g h_kept h_past h_path h_pose h_way h_px h_py h_free h_tips h_far h_queue h_times h_turns h_names h_named h_text h_told h_spare : Nat) (s_hasKept : Int32) (s_pasts : Int32) (s_pathMoves : Int32) (s_spot : Int32) (s_thrown : Int32) (s_faulty : Int32) (s_queued : Int32) (s_length : Int32) (s_at : Int32) (s_error : Int32) (s_tolds : Int32) (s_number : Int32) (s_g : Nat → Int32) (s_pose : Nat → Int32) (s_way : Nat → Int32) (s_px : Nat → Int32) (s_py : Nat → Int32) (s_free : Nat → Int32) (s_tips : Nat → Int32) (x1 : Int32) (x2 : Int32) (r0 : Int32) (r1 : Int32) (r2 : Int32) (r3 : Nat → Int32) (r4 : Nat → Int32) (r5 : Nat → Int32) (r6 : Nat → Int32) (r7 : Nat → Int32) (r8 : Nat → Int32) (hf : f_X8_posesAt s_thrown s_faulty s_g s_pose s_way s_px s_py s_free s_tips x1 x2 = some (r0, r1, r2, r3, r4, r5, r6, r7, r8)) : CI l yX8_posesAt cX8_posesAt 3 (some .int) 8 178 D E tx [.ref h_, .int x1, .int x2] (w_X8_posesAt E h_ h_g h_kept h_past h_path h_pose h_way h_px h_py h_free h_tips h_far h_queue h_times h_turns h_names h_named h_text h_told h_spare s_hasKept s_pasts s_pathMoves s_spot s_thrown s_faulty s_queued s_length s_at s_error s_tolds s_number s_g s_pose s_way s_px s_py s_free s_tips) (w_X8_posesAt E h_ h_g h_kept h_past h_path h_pose h_way h_px h_py h_free h_tips h_far h_queue h_times h_turns h_names h_named h_text h_told h_spare s_hasKept s_pasts s_pathMoves s_spot r1 r2 s_queued s_length s_at s_error s_tolds s_number s_g r3 r4 r5 r6 r7 r8) r0 := by
  refine CI_of RX8 pn_X8 rfl (Nat.le_of_ble_eq_true rfl) (fun p e s m args below meth c A Q hF hK hA hZ hW hret ls hl => ?_)
  have hx := hF.1
  have hb := hF.2.1
  have hl : lv_has ls 3 [(0, .ref h_), (1, .int x1), (2, .int x2)] := hl
  unfold f_X8_posesAt at hf
  have hL25 : ∀ (s_thrown_25 : Int32) (s_faulty_25 : Int32) (s_pose_25 : Nat → Int32) (s_way_25 : Nat → Int32) (s_px_25 : Nat → Int32) (s_py_25 : Nat → Int32) (s_free_25 : Nat → Int32) (s_tips_25 : Nat → Int32) (y1_25 : Int32) (y2_25 : Int32) (k1_25 : Int32) (H : Heap) (locs : List Loc) (ls : Array Slot), f_X8_posesAt_L25 s_thrown_25 s_faulty_25 s_g s_pose_25 s_way_25 s_px_25 s_py_25 s_free_25 s_tips_25 y1_25 y2_25 k1_25 = some (r0, r1, r2, r3, r4, r5, r6, r7, r8) → lv_has ls 3 [(0, .ref h_), (1, .int y1_25), (2, .int y2_25)] → WD D A s (w_X8_posesAt E h_ h_g h_kept h_past h_path h_pose h_way h_px h_py h_free h_tips h_far h_queue h_times h_turns h_names h_named h_text h_told h_spare s_hasKept s_pasts s_pathMoves s_spot s_thrown_25 s_faulty_25 s_queued s_length s_at s_error s_tolds s_number s_g s_pose_25 s_way_25 s_px_25 s_py_25 s_free_25 s_tips_25) H locs → W p l e (RM 8 178) s m args below meth c H locs 0 0 Q (F0 m 25 ls [.int k1_25, .ref h_]) := by
    intro s_thrown_25 s_faulty_25 s_pose_25 s_way_25 s_px_25 s_py_25 s_free_25 s_tips_25 y1_25 y2_25 k1_25 H locs ls hf hl hW
    unfold f_X8_posesAt_L25 at hf
    refine q_put hF hK hW fl_X8_76 ft_X8 rfl 0 rfl rfl rfl (Nat.le_of_ble_eq_true rfl) dX8_posesAt_25 (fun H locs hW => ?_)
    have hW : WD D A s (w_X8_posesAt E h_ h_g h_kept h_past h_path h_pose h_way h_px h_py h_free h_tips h_far h_queue h_times h_turns h_names h_named h_text h_told h_spare s_hasKept s_pasts s_pathMoves s_spot k1_25 s_faulty_25 s_queued s_length s_at s_error s_tolds s_number s_g s_pose_25 s_way_25 s_px_25 s_py_25 s_free_25 s_tips_25) H locs := hW
    refine lv_aload_n hx hb dX8_posesAt_28 rfl (lv_at hl 0 rfl) ?_
    refine q_get hF hK hW fl_X8_76 0 rfl rfl dX8_posesAt_29 ?_
    refine q_if_le (tgt := 39) hx hb dX8_posesAt_32 (by decide) hf (fun hf => ?_) (fun hf => ?_)
    · refine lv_aload_n hx hb dX8_posesAt_39 rfl (lv_at hl 0 rfl) ?_
      refine lv_iload_n hx hb dX8_posesAt_40 rfl (lv_at hl 1 rfl) ?_
      refine lv_iload_n hx hb dX8_posesAt_41 rfl (lv_at hl 2 rfl) ?_
      obtain ⟨o_1, hc_1, hf⟩ := ob_bind hf
      refine q_callSI hF hl.1 hK hA hZ hW ms_X8_cellOf ml_X8_219 (c_X8_cellOf l D E tx y1_25 y2_25 o_1 hc_1) [] rfl rfl rfl ⟨Nat.le_of_ble_eq_true rfl, Nat.le_of_ble_eq_true rfl⟩ ⟨Nat.le_of_ble_eq_true rfl, Nat.le_of_ble_eq_true rfl⟩ rfl rfl (Nat.le_of_ble_eq_true rfl) dX8_posesAt_42 (fun H locs hW => ?_)
      have hW : WD D A s (w_X8_posesAt E h_ h_g h_kept h_past h_path h_pose h_way h_px h_py h_free h_tips h_far h_queue h_times h_turns h_names h_named h_text h_told h_spare s_hasKept s_pasts s_pathMoves s_spot k1_25 s_faulty_25 s_queued s_length s_at s_error s_tolds s_number s_g s_pose_25 s_way_25 s_px_25 s_py_25 s_free_25 s_tips_25) H locs := hW
      obtain ⟨o_2, hc_2, hf⟩ := ob_bind hf
      refine q_callI hF hl.1 hK hA hZ hW mv_X8_freeAt ml_X8_225 (c_X8_freeAt l D E tx h_ h_g h_kept h_past h_path h_pose h_way h_px h_py h_free h_tips h_far h_queue h_times h_turns h_names h_named h_text h_told h_spare s_hasKept s_pasts s_pathMoves s_spot k1_25 s_faulty_25 s_queued s_length s_at s_error s_tolds s_number s_g s_pose_25 s_way_25 s_px_25 s_py_25 s_free_25 s_tips_25 o_1 o_2.1 o_2.2.1 o_2.2.2.1 o_2.2.2.2.1 o_2.2.2.2.2.1 o_2.2.2.2.2.2.1 o_2.2.2.2.2.2.2.1 o_2.2.2.2.2.2.2.2 hc_2) [0, 1, 2, 3, 4, 5, 6, 7] rfl rfl rfl rfl rfl rfl ⟨Nat.le_of_ble_eq_true rfl, Nat.le_of_ble_eq_true rfl⟩ ⟨Nat.le_of_ble_eq_true rfl, Nat.le_of_ble_eq_true rfl⟩ rfl rfl (Nat.le_of_ble_eq_true rfl) dX8_posesAt_45 (fun H locs hW => ?_)
      have hW : WD D A s (w_X8_posesAt E h_ h_g h_kept h_past h_path h_pose h_way h_px h_py h_free h_tips h_far h_queue h_times h_turns h_names h_named h_text h_told h_spare s_hasKept s_pasts s_pathMoves s_spot k1_25 o_2.2.1 s_queued s_length s_at s_error s_tolds s_number s_g o_2.2.2.1 o_2.2.2.2.1 o_2.2.2.2.2.1 o_2.2.2.2.2.2.1 o_2.2.2.2.2.2.2.1 o_2.2.2.2.2.2.2.2) H locs := hW
      cases hf
      exact hret dX8_posesAt_48 rfl rfl hW
    · refine lv_iconst (v := 0) hx hb dX8_posesAt_35 (by decide) ?_
      refine lv_goto (tgt := 48) hx hb dX8_posesAt_36 (by decide) ?_
      cases hf
      exact hret dX8_posesAt_48 rfl rfl hW
  refine lv_aload_n hx hb dX8_posesAt_0 rfl (lv_at hl 0 rfl) ?_
  refine lv_iload_n hx hb dX8_posesAt_1 rfl (lv_at hl 1 rfl) ?_
  refine lv_iload_n hx hb dX8_posesAt_2 rfl (lv_at hl 2 rfl) ?_
  obtain ⟨o_3, hc_3, hf⟩ := ob_bind hf
  refine q_callSI hF hl.1 hK hA hZ hW ms_X8_isCell ml_X8_109 (c_X8_isCell l D E tx x1 x2 o_3 hc_3) [] rfl rfl rfl ⟨Nat.le_of_ble_eq_true rfl, Nat.le_of_ble_eq_true rfl⟩ ⟨Nat.le_of_ble_eq_true rfl, Nat.le_of_ble_eq_true rfl⟩ rfl rfl (Nat.le_of_ble_eq_true rfl) dX8_posesAt_3 (fun H locs hW => ?_)
  have hW : WD D A s (w_X8_posesAt E h_ h_g h_kept h_past h_path h_pose h_way h_px h_py h_free h_tips h_far h_queue h_times h_turns h_names h_named h_text h_told h_spare s_hasKept s_pasts s_pathMoves s_spot s_thrown s_faulty s_queued s_length s_at s_error s_tolds s_number s_g s_pose s_way s_px s_py s_free s_tips) H locs := hW
  refine q_if_eq (tgt := 24) hx hb dX8_posesAt_6 (by decide) hf (fun hf => ?_) (fun hf => ?_)
  · refine lv_iconst (v := 1) hx hb dX8_posesAt_24 (by decide) ?_
    exact hL25 s_thrown s_faulty s_pose s_way s_px s_py s_free s_tips x1 x2 1 _ _ _ hf (lv_sub hl [0, 1, 2] rfl) hW
  · refine lv_aload_n hx hb dX8_posesAt_9 rfl (lv_at hl 0 rfl) ?_
    obtain ⟨o_4, hc_4, hf⟩ := ob_bind hf
    refine q_callI hF hl.1 hK hA hZ hW mv_X8_isMany ml_X8_222 (c_X8_isMany l D E tx h_ h_g h_kept h_past h_path h_pose h_way h_px h_py h_free h_tips h_far h_queue h_times h_turns h_names h_named h_text h_told h_spare s_hasKept s_pasts s_pathMoves s_spot s_thrown s_faulty s_queued s_length s_at s_error s_tolds s_number s_g o_4 hc_4) [0, 1] rfl rfl rfl rfl rfl rfl ⟨Nat.le_of_ble_eq_true rfl, Nat.le_of_ble_eq_true rfl⟩ ⟨Nat.le_of_ble_eq_true rfl, Nat.le_of_ble_eq_true rfl⟩ rfl rfl (Nat.le_of_ble_eq_true rfl) dX8_posesAt_10 (fun H locs hW => ?_)
    have hW : WD D A s (w_X8_posesAt E h_ h_g h_kept h_past h_path h_pose h_way h_px h_py h_free h_tips h_far h_queue h_times h_turns h_names h_named h_text h_told h_spare s_hasKept s_pasts s_pathMoves s_spot s_thrown s_faulty s_queued s_length s_at s_error s_tolds s_number s_g s_pose s_way s_px s_py s_free s_tips) H locs := hW
    refine q_if_eq (tgt := 20) hx hb dX8_posesAt_13 (by decide) hf (fun hf => ?_) (fun hf => ?_)
    · refine lv_iconst (v := 0) hx hb dX8_posesAt_20 (by decide) ?_
      refine lv_goto (tgt := 25) hx hb dX8_posesAt_21 (by decide) ?_
      exact hL25 s_thrown s_faulty s_pose s_way s_px s_py s_free s_tips x1 x2 0 _ _ _ hf (lv_sub hl [0, 1, 2] rfl) hW
    · refine lv_iconst (v := 2) hx hb dX8_posesAt_16 (by decide) ?_
      refine lv_goto (tgt := 25) hx hb dX8_posesAt_17 (by decide) ?_
      exact hL25 s_thrown s_faulty s_pose s_way s_px s_py s_free s_tips x1 x2 2 _ _ _ hf (lv_sub hl [0, 1, 2] rfl) hW
def w_X8_forgets (E : Nat → ClassId) (h_ h_g h_kept h_past h_path h_pose h_way h_px h_py h_free h_tips h_far h_queue h_times h_turns h_names h_named h_text h_told h_spare : Nat) (s_hasKept : Int32) (s_pasts : Int32) (s_pathMoves : Int32) (s_spot : Int32) (s_thrown : Int32) (s_faulty : Int32) (s_queued : Int32) (s_length : Int32) (s_at : Int32) (s_error : Int32) (s_tolds : Int32) (s_number : Int32) (s_g : Nat → Int32) (s_far : Nat → Int32) : va_W := [(h_, .inr (10, [.ref h_g, .ref h_kept, .int s_hasKept, .ref h_past, .int s_pasts, .ref h_path, .int s_pathMoves, .int s_spot, .int s_thrown, .ref h_pose, .ref h_way, .ref h_px, .ref h_py, .int s_faulty, .ref h_free, .ref h_tips, .ref h_far, .ref h_queue, .int s_queued, .ref h_times, .ref h_turns, .ref h_names, .ref h_named, .ref h_text, .int s_length, .int s_at, .int s_error, .ref h_told, .int s_tolds, .int s_number, .ref h_spare])), (h_g, .inl (E 0, 141, .inl s_g)), (h_far, .inl (E 0, 5000, .inl s_far))]
set_option maxHeartbeats 4000000 in
set_option maxRecDepth 100000 in
theorem c_X8_forgets (l : Launch) (D : va_G) (E : Nat → ClassId) (tx : List (Nat × String)) (h_ h_g h_kept h_past h_path h_pose h_way h_px h_py h_free h_tips h_far h_queue h_times h_turns h_names h_named h_text h_told h_spare : Nat) (s_hasKept : Int32) (s_pasts : Int32) (s_pathMoves : Int32) (s_spot : Int32) (s_thrown : Int32) (s_faulty : Int32) (s_queued : Int32) (s_length : Int32) (s_at : Int32) (s_error : Int32) (s_tolds : Int32) (s_number : Int32) (s_g : Nat → Int32) (s_far : Nat → Int32)  (r0 : Int32) (r1 : Nat → Int32) (hf : f_X8_forgets s_queued s_g s_far = some (r0, r1)) : CV l yX8_forgets cX8_forgets 2 3 64 D E tx [.ref h_] (w_X8_forgets E h_ h_g h_kept h_past h_path h_pose h_way h_px h_py h_free h_tips h_far h_queue h_times h_turns h_names h_named h_text h_told h_spare s_hasKept s_pasts s_pathMoves s_spot s_thrown s_faulty s_queued s_length s_at s_error s_tolds s_number s_g s_far) (w_X8_forgets E h_ h_g h_kept h_past h_path h_pose h_way h_px h_py h_free h_tips h_far h_queue h_times h_turns h_names h_named h_text h_told h_spare s_hasKept s_pasts s_pathMoves s_spot s_thrown s_faulty r0 s_length s_at s_error s_tolds s_number s_g r1) := by
  refine CV_of RX8 pn_X8 rfl (Nat.le_of_ble_eq_true rfl) (fun p e s m args below meth c A Q hF hK hA hZ hW hret ls hl => ?_)
  have hx := hF.1
  have hb := hF.2.1
  have hl : lv_has ls 2 [(0, .ref h_)] := hl
  unfold f_X8_forgets at hf
  refine lv_aload_n hx hb dX8_forgets_0 rfl (lv_at hl 0 rfl) ?_
  refine lv_iconst (v := 0) hx hb dX8_forgets_1 (by decide) ?_
  refine q_put hF hK hW fl_X8_234 ft_X8 rfl 0 rfl rfl rfl (Nat.le_of_ble_eq_true rfl) dX8_forgets_2 (fun H locs hW => ?_)
  have hW : WD D A s (w_X8_forgets E h_ h_g h_kept h_past h_path h_pose h_way h_px h_py h_free h_tips h_far h_queue h_times h_turns h_names h_named h_text h_told h_spare s_hasKept s_pasts s_pathMoves s_spot s_thrown s_faulty 0 s_length s_at s_error s_tolds s_number s_g s_far) H locs := hW
  refine lv_iconst (v := 0) hx hb dX8_forgets_5 (by decide) ?_
  refine lv_istore_n (lv' := [(1, .int 0), (0, .ref h_)]) hx hb dX8_forgets_6 rfl hl (by decide) rfl (fun ls hl => ?_)
  have hB7 : ∀ (n : Nat) (s_far_7 : Nat → Int32) (z1_7 : Int32) (ex : (Nat → Int32)) (H : Heap) (locs : List Loc) (ls : Array Slot), LPF (fun z => f_X8_forgets_B7 0 s_g z.1 z.2) n (s_far_7, z1_7) = some ex → lv_has ls 2 [(0, .ref h_), (1, .int z1_7)] → WD D A s (w_X8_forgets E h_ h_g h_kept h_past h_path h_pose h_way h_px h_py h_free h_tips h_far h_queue h_times h_turns h_names h_named h_text h_told h_spare s_hasKept s_pasts s_pathMoves s_spot s_thrown s_faulty 0 s_length s_at s_error s_tolds s_number s_g s_far_7) H locs → (∀ (H : Heap) (locs : List Loc) (ls : Array Slot), lv_has ls 2 [] → WD D A s (w_X8_forgets E h_ h_g h_kept h_past h_path h_pose h_way h_px h_py h_free h_tips h_far h_queue h_times h_turns h_names h_named h_text h_told h_spare s_hasKept s_pasts s_pathMoves s_spot s_thrown s_faulty 0 s_length s_at s_error s_tolds s_number s_g ex) H locs → W p l e (RM 3 64) s m args below meth c H locs 0 0 Q (F0 m 28 ls [])) → W p l e (RM 3 64) s m args below meth c H locs 0 0 Q (F0 m 7 ls []) := by
    intro n
    induction n with
    | zero => intro s_far_7 z1_7 ex H locs ls h9; exact (ob_lp0 h9).elim
    | succ n ih =>
      intro s_far_7 z1_7 ex H locs ls h9 hl hW kx0
      obtain ⟨q9, hf, h9, k9⟩ := ob_lp h9
      have hf : f_X8_forgets_B7 0 s_g s_far_7 z1_7 = some q9 := hf
      unfold f_X8_forgets_B7 at hf
      refine lv_iload_n hx hb dX8_forgets_7 rfl (lv_at hl 1 rfl) ?_
      refine lv_aload_n hx hb dX8_forgets_8 rfl (lv_at hl 0 rfl) ?_
      obtain ⟨o_1, hc_1, hf⟩ := ob_bind hf
      refine q_callI hF hl.1 hK hA hZ hW mv_X8_poses ml_X8_133 (c_X8_poses l D E tx h_ h_g h_kept h_past h_path h_pose h_way h_px h_py h_free h_tips h_far h_queue h_times h_turns h_names h_named h_text h_told h_spare s_hasKept s_pasts s_pathMoves s_spot s_thrown s_faulty 0 s_length s_at s_error s_tolds s_number s_g o_1 hc_1) [0, 1] rfl rfl rfl rfl rfl rfl ⟨Nat.le_of_ble_eq_true rfl, Nat.le_of_ble_eq_true rfl⟩ ⟨Nat.le_of_ble_eq_true rfl, Nat.le_of_ble_eq_true rfl⟩ rfl rfl (Nat.le_of_ble_eq_true rfl) dX8_forgets_9 (fun H locs hW => ?_)
      have hW : WD D A s (w_X8_forgets E h_ h_g h_kept h_past h_path h_pose h_way h_px h_py h_free h_tips h_far h_queue h_times h_turns h_names h_named h_text h_told h_spare s_hasKept s_pasts s_pathMoves s_spot s_thrown s_faulty 0 s_length s_at s_error s_tolds s_number s_g s_far_7) H locs := hW
      refine q_icmp_ge (tgt := 28) hx hb dX8_forgets_12 (by decide) hf (fun hf => ?_) (fun hf => ?_)
      · cases hf
        have hx9 := k9 _ rfl
        subst hx9
        exact kx0 _ _ _ (lv_sub hl [] rfl) hW
      · refine lv_aload_n hx hb dX8_forgets_15 rfl (lv_at hl 0 rfl) ?_
        refine q_get hF hK hW fl_X8_45 0 rfl rfl dX8_forgets_16 ?_
        refine lv_iload_n hx hb dX8_forgets_19 rfl (lv_at hl 1 rfl) ?_
        refine lv_iconst (v := (-1)) hx hb dX8_forgets_20 (by decide) ?_
        refine q_iast hx hb hK hW 2 0 rfl rfl dX8_forgets_21 hf (fun a_2 hf H locs hW => ?_)
        have hW : WD D A s (w_X8_forgets E h_ h_g h_kept h_past h_path h_pose h_way h_px h_py h_free h_tips h_far h_queue h_times h_turns h_names h_named h_text h_told h_spare s_hasKept s_pasts s_pathMoves s_spot s_thrown s_faulty 0 s_length s_at s_error s_tolds s_number s_g a_2) H locs := hW
        obtain ⟨v_3, ev_3⟩ : ∃ y : Int32, y = z1_7 + 1 := ⟨_, rfl⟩
        replace hf := ob_let hf ev_3
        refine lv_iinc (v := v_3) (lv' := [(1, .int v_3), (0, .ref h_)]) hx hb dX8_forgets_22 hl (k := 1) rfl (by rw [ev_3]; rfl) (by decide) rfl (fun ls hl => ?_)
        refine lv_goto (tgt := 7) hx hb dX8_forgets_25 (by decide) ?_
        cases hf
        exact ih a_2 v_3 ex _ _ _ (h9 _ rfl) (lv_sub hl [1, 0] rfl) hW kx0
  obtain ⟨e_4, hc_4, hf⟩ := ob_bind hf
  refine hB7 lfuel s_far 0 e_4 _ _ _ hc_4 (lv_sub hl [1, 0] rfl) hW ?_
  intro H locs ls hl hW
  cases hf
  exact hret dX8_forgets_28 hW
def w_X8_starts (E : Nat → ClassId) (h_ h_g h_kept h_past h_path h_pose h_way h_px h_py h_free h_tips h_far h_queue h_times h_turns h_names h_named h_text h_told h_spare : Nat) (s_hasKept : Int32) (s_pasts : Int32) (s_pathMoves : Int32) (s_spot : Int32) (s_thrown : Int32) (s_faulty : Int32) (s_queued : Int32) (s_length : Int32) (s_at : Int32) (s_error : Int32) (s_tolds : Int32) (s_number : Int32) (s_far : Nat → Int32) (s_queue : Nat → Int32) : va_W := [(h_, .inr (10, [.ref h_g, .ref h_kept, .int s_hasKept, .ref h_past, .int s_pasts, .ref h_path, .int s_pathMoves, .int s_spot, .int s_thrown, .ref h_pose, .ref h_way, .ref h_px, .ref h_py, .int s_faulty, .ref h_free, .ref h_tips, .ref h_far, .ref h_queue, .int s_queued, .ref h_times, .ref h_turns, .ref h_names, .ref h_named, .ref h_text, .int s_length, .int s_at, .int s_error, .ref h_told, .int s_tolds, .int s_number, .ref h_spare])), (h_far, .inl (E 0, 5000, .inl s_far)), (h_queue, .inl (E 0, 5000, .inl s_queue))]
set_option maxHeartbeats 4000000 in
set_option maxRecDepth 100000 in
theorem c_X8_starts (l : Launch) (D : va_G) (E : Nat → ClassId) (tx : List (Nat × String)) (h_ h_g h_kept h_past h_path h_pose h_way h_px h_py h_free h_tips h_far h_queue h_times h_turns h_names h_named h_text h_told h_spare : Nat) (s_hasKept : Int32) (s_pasts : Int32) (s_pathMoves : Int32) (s_spot : Int32) (s_thrown : Int32) (s_faulty : Int32) (s_queued : Int32) (s_length : Int32) (s_at : Int32) (s_error : Int32) (s_tolds : Int32) (s_number : Int32) (s_far : Nat → Int32) (s_queue : Nat → Int32) (x1 : Int32) (r0 : Int32) (r1 : Nat → Int32) (r2 : Nat → Int32) (hf : f_X8_starts s_queued s_far s_queue x1 = some (r0, r1, r2)) : CV l yX8_starts cX8_starts 2 0 0 D E tx [.ref h_, .int x1] (w_X8_starts E h_ h_g h_kept h_past h_path h_pose h_way h_px h_py h_free h_tips h_far h_queue h_times h_turns h_names h_named h_text h_told h_spare s_hasKept s_pasts s_pathMoves s_spot s_thrown s_faulty s_queued s_length s_at s_error s_tolds s_number s_far s_queue) (w_X8_starts E h_ h_g h_kept h_past h_path h_pose h_way h_px h_py h_free h_tips h_far h_queue h_times h_turns h_names h_named h_text h_told h_spare s_hasKept s_pasts s_pathMoves s_spot s_thrown s_faulty r0 s_length s_at s_error s_tolds s_number r1 r2) := by
  refine CV_of RX8 pn_X8 rfl (Nat.le_of_ble_eq_true rfl) (fun p e s m args below meth c A Q hF hK hA hZ hW hret ls hl => ?_)
  have hx := hF.1
  have hb := hF.2.1
  have hl : lv_has ls 2 [(0, .ref h_), (1, .int x1)] := hl
  unfold f_X8_starts at hf
  refine lv_aload_n hx hb dX8_starts_0 rfl (lv_at hl 0 rfl) ?_
  refine q_get hF hK hW fl_X8_45 0 rfl rfl dX8_starts_1 ?_
  refine lv_iload_n hx hb dX8_starts_4 rfl (lv_at hl 1 rfl) ?_
  refine lv_iconst (v := 0) hx hb dX8_starts_5 (by decide) ?_
  refine q_iast hx hb hK hW 1 0 rfl rfl dX8_starts_6 hf (fun a_1 hf H locs hW => ?_)
  have hW : WD D A s (w_X8_starts E h_ h_g h_kept h_past h_path h_pose h_way h_px h_py h_free h_tips h_far h_queue h_times h_turns h_names h_named h_text h_told h_spare s_hasKept s_pasts s_pathMoves s_spot s_thrown s_faulty s_queued s_length s_at s_error s_tolds s_number a_1 s_queue) H locs := hW
  refine lv_aload_n hx hb dX8_starts_7 rfl (lv_at hl 0 rfl) ?_
  refine q_get hF hK hW fl_X8_48 0 rfl rfl dX8_starts_8 ?_
  refine lv_aload_n hx hb dX8_starts_11 rfl (lv_at hl 0 rfl) ?_
  refine q_get hF hK hW fl_X8_234 0 rfl rfl dX8_starts_12 ?_
  refine lv_iload_n hx hb dX8_starts_15 rfl (lv_at hl 1 rfl) ?_
  refine q_iast hx hb hK hW 2 0 rfl rfl dX8_starts_16 hf (fun a_2 hf H locs hW => ?_)
  have hW : WD D A s (w_X8_starts E h_ h_g h_kept h_past h_path h_pose h_way h_px h_py h_free h_tips h_far h_queue h_times h_turns h_names h_named h_text h_told h_spare s_hasKept s_pasts s_pathMoves s_spot s_thrown s_faulty s_queued s_length s_at s_error s_tolds s_number a_1 a_2) H locs := hW
  refine lv_aload_n hx hb dX8_starts_17 rfl (lv_at hl 0 rfl) ?_
  refine lv_dup hx hb dX8_starts_18 rfl ?_
  refine q_get hF hK hW fl_X8_234 0 rfl rfl dX8_starts_19 ?_
  refine lv_iconst (v := 1) hx hb dX8_starts_22 (by decide) ?_
  refine lv_iadd hx hb dX8_starts_23 ?_
  refine lv_topi (fun v_3 ev_3 => ?_)
  replace hf := ob_let hf ev_3
  refine q_put hF hK hW fl_X8_234 ft_X8 rfl 0 rfl rfl rfl (Nat.le_of_ble_eq_true rfl) dX8_starts_24 (fun H locs hW => ?_)
  have hW : WD D A s (w_X8_starts E h_ h_g h_kept h_past h_path h_pose h_way h_px h_py h_free h_tips h_far h_queue h_times h_turns h_names h_named h_text h_told h_spare s_hasKept s_pasts s_pathMoves s_spot s_thrown s_faulty v_3 s_length s_at s_error s_tolds s_number a_1 a_2) H locs := hW
  cases hf
  exact hret dX8_starts_27 hW
def w_X8_spreads (E : Nat → ClassId) (h_ h_g h_kept h_past h_path h_pose h_way h_px h_py h_free h_tips h_far h_queue h_times h_turns h_names h_named h_text h_told h_spare : Nat) (s_hasKept : Int32) (s_pasts : Int32) (s_pathMoves : Int32) (s_spot : Int32) (s_thrown : Int32) (s_faulty : Int32) (s_queued : Int32) (s_length : Int32) (s_at : Int32) (s_error : Int32) (s_tolds : Int32) (s_number : Int32) (s_g : Nat → Int32) (s_free : Nat → Int32) (s_far : Nat → Int32) (s_queue : Nat → Int32) : va_W := [(h_, .inr (10, [.ref h_g, .ref h_kept, .int s_hasKept, .ref h_past, .int s_pasts, .ref h_path, .int s_pathMoves, .int s_spot, .int s_thrown, .ref h_pose, .ref h_way, .ref h_px, .ref h_py, .int s_faulty, .ref h_free, .ref h_tips, .ref h_far, .ref h_queue, .int s_queued, .ref h_times, .ref h_turns, .ref h_names, .ref h_named, .ref h_text, .int s_length, .int s_at, .int s_error, .ref h_told, .int s_tolds, .int s_number, .ref h_spare])), (h_g, .inl (E 0, 141, .inl s_g)), (h_free, .inl (E 1, 5000, .inl s_free)), (h_far, .inl (E 0, 5000, .inl s_far)), (h_queue, .inl (E 0, 5000, .inl s_queue))]
set_option maxHeartbeats 4000000 in
set_option maxRecDepth 100000 in
theorem c_X8_spreads (l : Launch) (D : va_G) (E : Nat → ClassId) (tx : List (Nat × String)) (h_ h_g h_kept h_past h_path h_pose h_way h_px h_py h_free h_tips h_far h_queue h_times h_turns h_names h_named h_text h_told h_spare : Nat) (s_hasKept : Int32) (s_pasts : Int32) (s_pathMoves : Int32) (s_spot : Int32) (s_thrown : Int32) (s_faulty : Int32) (s_queued : Int32) (s_length : Int32) (s_at : Int32) (s_error : Int32) (s_tolds : Int32) (s_number : Int32) (s_g : Nat → Int32) (s_free : Nat → Int32) (s_far : Nat → Int32) (s_queue : Nat → Int32) (x1 : Int32) (r0 : Int32) (r1 : Nat → Int32) (r2 : Nat → Int32) (hf : f_X8_spreads s_queued s_g s_free s_far s_queue x1 = some (r0, r1, r2)) : CV l yX8_spreads cX8_spreads 5 4 91 D E tx [.ref h_, .int x1] (w_X8_spreads E h_ h_g h_kept h_past h_path h_pose h_way h_px h_py h_free h_tips h_far h_queue h_times h_turns h_names h_named h_text h_told h_spare s_hasKept s_pasts s_pathMoves s_spot s_thrown s_faulty s_queued s_length s_at s_error s_tolds s_number s_g s_free s_far s_queue) (w_X8_spreads E h_ h_g h_kept h_past h_path h_pose h_way h_px h_py h_free h_tips h_far h_queue h_times h_turns h_names h_named h_text h_told h_spare s_hasKept s_pasts s_pathMoves s_spot s_thrown s_faulty r0 s_length s_at s_error s_tolds s_number s_g s_free r1 r2) := by
  refine CV_of RX8 pn_X8 rfl (Nat.le_of_ble_eq_true rfl) (fun p e s m args below meth c A Q hF hK hA hZ hW hret ls hl => ?_)
  have hx := hF.1
  have hb := hF.2.1
  have hl : lv_has ls 5 [(0, .ref h_), (1, .int x1)] := hl
  unfold f_X8_spreads at hf
  refine lv_iload_n hx hb dX8_spreads_0 rfl (lv_at hl 1 rfl) ?_
  refine lv_istore_n (lv' := [(2, .int x1), (0, .ref h_), (1, .int x1)]) hx hb dX8_spreads_1 rfl hl (by decide) rfl (fun ls hl => ?_)
  have hB2 : ∀ (n : Nat) (s_queued_2 : Int32) (s_far_2 : Nat → Int32) (s_queue_2 : Nat → Int32) (z2_2 : Int32) (ex : Int32 × (Nat → Int32) × (Nat → Int32)) (H : Heap) (locs : List Loc) (ls : Array Slot), LPF (fun z => f_X8_spreads_B2 z.1 s_g s_free z.2.1 z.2.2.1 z.2.2.2) n (s_queued_2, s_far_2, s_queue_2, z2_2) = some ex → lv_has ls 5 [(0, .ref h_), (2, .int z2_2)] → WD D A s (w_X8_spreads E h_ h_g h_kept h_past h_path h_pose h_way h_px h_py h_free h_tips h_far h_queue h_times h_turns h_names h_named h_text h_told h_spare s_hasKept s_pasts s_pathMoves s_spot s_thrown s_faulty s_queued_2 s_length s_at s_error s_tolds s_number s_g s_free s_far_2 s_queue_2) H locs → (∀ (H : Heap) (locs : List Loc) (ls : Array Slot), lv_has ls 5 [] → WD D A s (w_X8_spreads E h_ h_g h_kept h_past h_path h_pose h_way h_px h_py h_free h_tips h_far h_queue h_times h_turns h_names h_named h_text h_told h_spare s_hasKept s_pasts s_pathMoves s_spot s_thrown s_faulty ex.1 s_length s_at s_error s_tolds s_number s_g s_free ex.2.1 ex.2.2) H locs → W p l e (RM 4 91) s m args below meth c H locs 0 0 Q (F0 m 115 ls [])) → W p l e (RM 4 91) s m args below meth c H locs 0 0 Q (F0 m 2 ls []) := by
    intro n
    induction n with
    | zero => intro s_queued_2 s_far_2 s_queue_2 z2_2 ex H locs ls h9; exact (ob_lp0 h9).elim
    | succ n ih =>
      intro s_queued_2 s_far_2 s_queue_2 z2_2 ex H locs ls h9 hl hW kx0
      obtain ⟨q9, hf, h9, k9⟩ := ob_lp h9
      have hf : f_X8_spreads_B2 s_queued_2 s_g s_free s_far_2 s_queue_2 z2_2 = some q9 := hf
      unfold f_X8_spreads_B2 at hf
      refine lv_iload_n hx hb dX8_spreads_2 rfl (lv_at hl 1 rfl) ?_
      refine lv_aload_n hx hb dX8_spreads_3 rfl (lv_at hl 0 rfl) ?_
      refine q_get hF hK hW fl_X8_234 0 rfl rfl dX8_spreads_4 ?_
      refine q_icmp_ge (tgt := 115) hx hb dX8_spreads_7 (by decide) hf (fun hf => ?_) (fun hf => ?_)
      · cases hf
        have hx9 := k9 _ rfl
        subst hx9
        exact kx0 _ _ _ (lv_sub hl [] rfl) hW
      · refine lv_iconst (v := 0) hx hb dX8_spreads_10 (by decide) ?_
        refine lv_istore_n (lv' := [(3, .int 0), (0, .ref h_), (2, .int z2_2)]) hx hb dX8_spreads_11 rfl hl (by decide) rfl (fun ls hl => ?_)
        have hB12 : ∀ (n : Nat) (s_queued_12 : Int32) (s_far_12 : Nat → Int32) (s_queue_12 : Nat → Int32) (z3_12 : Int32) (ex : Int32 × (Nat → Int32) × (Nat → Int32)) (H : Heap) (locs : List Loc) (ls : Array Slot), LPF (fun z => f_X8_spreads_B12 z.1 s_g s_free z.2.1 z.2.2.1 z2_2 z.2.2.2) n (s_queued_12, s_far_12, s_queue_12, z3_12) = some ex → lv_has ls 5 [(0, .ref h_), (2, .int z2_2), (3, .int z3_12)] → WD D A s (w_X8_spreads E h_ h_g h_kept h_past h_path h_pose h_way h_px h_py h_free h_tips h_far h_queue h_times h_turns h_names h_named h_text h_told h_spare s_hasKept s_pasts s_pathMoves s_spot s_thrown s_faulty s_queued_12 s_length s_at s_error s_tolds s_number s_g s_free s_far_12 s_queue_12) H locs → (∀ (H : Heap) (locs : List Loc) (ls : Array Slot), lv_has ls 5 [(0, .ref h_), (2, .int z2_2)] → WD D A s (w_X8_spreads E h_ h_g h_kept h_past h_path h_pose h_way h_px h_py h_free h_tips h_far h_queue h_times h_turns h_names h_named h_text h_told h_spare s_hasKept s_pasts s_pathMoves s_spot s_thrown s_faulty ex.1 s_length s_at s_error s_tolds s_number s_g s_free ex.2.1 ex.2.2) H locs → W p l e (RM 4 91) s m args below meth c H locs 0 0 Q (F0 m 109 ls [])) → W p l e (RM 4 91) s m args below meth c H locs 0 0 Q (F0 m 12 ls []) := by
          intro n
          induction n with
          | zero => intro s_queued_12 s_far_12 s_queue_12 z3_12 ex H locs ls h9; exact (ob_lp0 h9).elim
          | succ n ih =>
            intro s_queued_12 s_far_12 s_queue_12 z3_12 ex H locs ls h9 hl hW kx0
            obtain ⟨q9, hf, h9, k9⟩ := ob_lp h9
            have hf : f_X8_spreads_B12 s_queued_12 s_g s_free s_far_12 s_queue_12 z2_2 z3_12 = some q9 := hf
            unfold f_X8_spreads_B12 at hf
            refine lv_iload_n hx hb dX8_spreads_12 rfl (lv_at hl 2 rfl) ?_
            refine lv_iconst (v := 2) hx hb dX8_spreads_13 (by decide) ?_
            refine lv_aload_n hx hb dX8_spreads_14 rfl (lv_at hl 0 rfl) ?_
            refine q_get hF hK hW fl_X8_7 0 rfl rfl dX8_spreads_15 ?_
            refine lv_iconst (v := 0) hx hb dX8_spreads_18 (by decide) ?_
            refine q_iald hx hb hK hW 1 0 rfl rfl dX8_spreads_19 hf (fun hf => ?_)
            refine lv_imul hx hb dX8_spreads_20 ?_
            refine q_icmp_ge (tgt := 109) hx hb dX8_spreads_21 (by decide) hf (fun hf => ?_) (fun hf => ?_)
            · cases hf
              have hx9 := k9 _ rfl
              subst hx9
              exact kx0 _ _ _ (lv_sub hl [0, 1] rfl) hW
            · refine lv_aload_n hx hb dX8_spreads_24 rfl (lv_at hl 0 rfl) ?_
              refine lv_aload_n hx hb dX8_spreads_25 rfl (lv_at hl 0 rfl) ?_
              refine q_get hF hK hW fl_X8_48 0 rfl rfl dX8_spreads_26 ?_
              refine lv_iload_n hx hb dX8_spreads_29 rfl (lv_at hl 1 rfl) ?_
              refine q_iald hx hb hK hW 4 0 rfl rfl dX8_spreads_30 hf (fun hf => ?_)
              refine lv_iload_n hx hb dX8_spreads_31 rfl (lv_at hl 2 rfl) ?_
              obtain ⟨o_1, hc_1, hf⟩ := ob_bind hf
              refine q_callI hF hl.1 hK hA hZ hW mv_X8_behind ml_X8_196 (c_X8_behind l D E tx h_ h_g h_kept h_past h_path h_pose h_way h_px h_py h_free h_tips h_far h_queue h_times h_turns h_names h_named h_text h_told h_spare s_hasKept s_pasts s_pathMoves s_spot s_thrown s_faulty s_queued_12 s_length s_at s_error s_tolds s_number s_g (s_queue_12 z2_2.toNatClampNeg) z3_12 o_1 hc_1) [0, 1] rfl rfl rfl rfl rfl rfl ⟨Nat.le_of_ble_eq_true rfl, Nat.le_of_ble_eq_true rfl⟩ ⟨Nat.le_of_ble_eq_true rfl, Nat.le_of_ble_eq_true rfl⟩ rfl rfl (Nat.le_of_ble_eq_true rfl) dX8_spreads_32 (fun H locs hW => ?_)
              have hW : WD D A s (w_X8_spreads E h_ h_g h_kept h_past h_path h_pose h_way h_px h_py h_free h_tips h_far h_queue h_times h_turns h_names h_named h_text h_told h_spare s_hasKept s_pasts s_pathMoves s_spot s_thrown s_faulty s_queued_12 s_length s_at s_error s_tolds s_number s_g s_free s_far_12 s_queue_12) H locs := hW
              refine lv_istore (lv' := [(4, .int o_1), (0, .ref h_), (2, .int z2_2), (3, .int z3_12)]) hx hb dX8_spreads_35 hl (by decide) rfl (fun ls hl => ?_)
              refine lv_iload hx hb dX8_spreads_37 (lv_at hl 0 rfl) ?_
              refine q_if_lt (tgt := 103) hx hb dX8_spreads_39 (by decide) hf (fun hf => ?_) (fun hf => ?_)
              · obtain ⟨v_2, ev_2⟩ : ∃ y : Int32, y = z3_12 + 1 := ⟨_, rfl⟩
                replace hf := ob_let hf ev_2
                refine lv_iinc (v := v_2) (lv' := [(3, .int v_2), (4, .int o_1), (0, .ref h_), (2, .int z2_2)]) hx hb dX8_spreads_103 hl (k := 3) rfl (by rw [ev_2]; rfl) (by decide) rfl (fun ls hl => ?_)
                refine lv_goto (tgt := 12) hx hb dX8_spreads_106 (by decide) ?_
                cases hf
                exact ih s_queued_12 s_far_12 s_queue_12 v_2 ex _ _ _ (h9 _ rfl) (lv_sub hl [2, 3, 0] rfl) hW kx0
              · refine lv_aload_n hx hb dX8_spreads_42 rfl (lv_at hl 1 rfl) ?_
                refine q_get hF hK hW fl_X8_38 0 rfl rfl dX8_spreads_43 ?_
                refine lv_iload hx hb dX8_spreads_46 (lv_at hl 0 rfl) ?_
                refine q_zald hx hb hK hW 2 1 rfl rfl dX8_spreads_48 hf (fun hf => ?_)
                refine q_if_eq (tgt := 103) hx hb dX8_spreads_49 (by decide) hf (fun hf => ?_) (fun hf => ?_)
                · obtain ⟨v_3, ev_3⟩ : ∃ y : Int32, y = z3_12 + 1 := ⟨_, rfl⟩
                  replace hf := ob_let hf ev_3
                  refine lv_iinc (v := v_3) (lv' := [(3, .int v_3), (4, .int o_1), (0, .ref h_), (2, .int z2_2)]) hx hb dX8_spreads_103 hl (k := 3) rfl (by rw [ev_3]; rfl) (by decide) rfl (fun ls hl => ?_)
                  refine lv_goto (tgt := 12) hx hb dX8_spreads_106 (by decide) ?_
                  cases hf
                  exact ih s_queued_12 s_far_12 s_queue_12 v_3 ex _ _ _ (h9 _ rfl) (lv_sub hl [2, 3, 0] rfl) hW kx0
                · refine lv_aload_n hx hb dX8_spreads_52 rfl (lv_at hl 1 rfl) ?_
                  refine q_get hF hK hW fl_X8_45 0 rfl rfl dX8_spreads_53 ?_
                  refine lv_iload hx hb dX8_spreads_56 (lv_at hl 0 rfl) ?_
                  refine q_iald hx hb hK hW 3 0 rfl rfl dX8_spreads_58 hf (fun hf => ?_)
                  refine q_if_ge (tgt := 103) hx hb dX8_spreads_59 (by decide) hf (fun hf => ?_) (fun hf => ?_)
                  · obtain ⟨v_4, ev_4⟩ : ∃ y : Int32, y = z3_12 + 1 := ⟨_, rfl⟩
                    replace hf := ob_let hf ev_4
                    refine lv_iinc (v := v_4) (lv' := [(3, .int v_4), (4, .int o_1), (0, .ref h_), (2, .int z2_2)]) hx hb dX8_spreads_103 hl (k := 3) rfl (by rw [ev_4]; rfl) (by decide) rfl (fun ls hl => ?_)
                    refine lv_goto (tgt := 12) hx hb dX8_spreads_106 (by decide) ?_
                    cases hf
                    exact ih s_queued_12 s_far_12 s_queue_12 v_4 ex _ _ _ (h9 _ rfl) (lv_sub hl [2, 3, 0] rfl) hW kx0
                  · refine lv_aload_n hx hb dX8_spreads_62 rfl (lv_at hl 1 rfl) ?_
                    refine q_get hF hK hW fl_X8_45 0 rfl rfl dX8_spreads_63 ?_
                    refine lv_iload hx hb dX8_spreads_66 (lv_at hl 0 rfl) ?_
                    refine lv_aload_n hx hb dX8_spreads_68 rfl (lv_at hl 1 rfl) ?_
                    refine q_get hF hK hW fl_X8_45 0 rfl rfl dX8_spreads_69 ?_
                    refine lv_aload_n hx hb dX8_spreads_72 rfl (lv_at hl 1 rfl) ?_
                    refine q_get hF hK hW fl_X8_48 0 rfl rfl dX8_spreads_73 ?_
                    refine lv_iload_n hx hb dX8_spreads_76 rfl (lv_at hl 2 rfl) ?_
                    refine q_iald hx hb hK hW 4 0 rfl rfl dX8_spreads_77 hf (fun hf => ?_)
                    refine q_iald hx hb hK hW 3 0 rfl rfl dX8_spreads_78 hf (fun hf => ?_)
                    refine lv_iconst (v := 1) hx hb dX8_spreads_79 (by decide) ?_
                    refine lv_iadd hx hb dX8_spreads_80 ?_
                    refine q_iast hx hb hK hW 3 0 rfl rfl dX8_spreads_81 hf (fun a_5 hf H locs hW => ?_)
                    have hW : WD D A s (w_X8_spreads E h_ h_g h_kept h_past h_path h_pose h_way h_px h_py h_free h_tips h_far h_queue h_times h_turns h_names h_named h_text h_told h_spare s_hasKept s_pasts s_pathMoves s_spot s_thrown s_faulty s_queued_12 s_length s_at s_error s_tolds s_number s_g s_free a_5 s_queue_12) H locs := hW
                    refine lv_aload_n hx hb dX8_spreads_82 rfl (lv_at hl 1 rfl) ?_
                    refine q_get hF hK hW fl_X8_48 0 rfl rfl dX8_spreads_83 ?_
                    refine lv_aload_n hx hb dX8_spreads_86 rfl (lv_at hl 1 rfl) ?_
                    refine q_get hF hK hW fl_X8_234 0 rfl rfl dX8_spreads_87 ?_
                    refine lv_iload hx hb dX8_spreads_90 (lv_at hl 0 rfl) ?_
                    refine q_iast hx hb hK hW 4 0 rfl rfl dX8_spreads_92 hf (fun a_6 hf H locs hW => ?_)
                    have hW : WD D A s (w_X8_spreads E h_ h_g h_kept h_past h_path h_pose h_way h_px h_py h_free h_tips h_far h_queue h_times h_turns h_names h_named h_text h_told h_spare s_hasKept s_pasts s_pathMoves s_spot s_thrown s_faulty s_queued_12 s_length s_at s_error s_tolds s_number s_g s_free a_5 a_6) H locs := hW
                    refine lv_aload_n hx hb dX8_spreads_93 rfl (lv_at hl 1 rfl) ?_
                    refine lv_dup hx hb dX8_spreads_94 rfl ?_
                    refine q_get hF hK hW fl_X8_234 0 rfl rfl dX8_spreads_95 ?_
                    refine lv_iconst (v := 1) hx hb dX8_spreads_98 (by decide) ?_
                    refine lv_iadd hx hb dX8_spreads_99 ?_
                    refine lv_topi (fun v_7 ev_7 => ?_)
                    replace hf := ob_let hf ev_7
                    refine q_put hF hK hW fl_X8_234 ft_X8 rfl 0 rfl rfl rfl (Nat.le_of_ble_eq_true rfl) dX8_spreads_100 (fun H locs hW => ?_)
                    have hW : WD D A s (w_X8_spreads E h_ h_g h_kept h_past h_path h_pose h_way h_px h_py h_free h_tips h_far h_queue h_times h_turns h_names h_named h_text h_told h_spare s_hasKept s_pasts s_pathMoves s_spot s_thrown s_faulty v_7 s_length s_at s_error s_tolds s_number s_g s_free a_5 a_6) H locs := hW
                    obtain ⟨v_8, ev_8⟩ : ∃ y : Int32, y = z3_12 + 1 := ⟨_, rfl⟩
                    replace hf := ob_let hf ev_8
                    refine lv_iinc (v := v_8) (lv' := [(3, .int v_8), (4, .int o_1), (0, .ref h_), (2, .int z2_2)]) hx hb dX8_spreads_103 hl (k := 3) rfl (by rw [ev_8]; rfl) (by decide) rfl (fun ls hl => ?_)
                    refine lv_goto (tgt := 12) hx hb dX8_spreads_106 (by decide) ?_
                    cases hf
                    exact ih v_7 a_5 a_6 v_8 ex _ _ _ (h9 _ rfl) (lv_sub hl [2, 3, 0] rfl) hW kx0
        obtain ⟨e_9, hc_9, hf⟩ := ob_bind hf
        refine hB12 lfuel s_queued_2 s_far_2 s_queue_2 0 e_9 _ _ _ hc_9 (lv_sub hl [1, 2, 0] rfl) hW ?_
        intro H locs ls hl hW
        obtain ⟨v_10, ev_10⟩ : ∃ y : Int32, y = z2_2 + 1 := ⟨_, rfl⟩
        replace hf := ob_let hf ev_10
        refine lv_iinc (v := v_10) (lv' := [(2, .int v_10), (0, .ref h_)]) hx hb dX8_spreads_109 hl (k := 1) rfl (by rw [ev_10]; rfl) (by decide) rfl (fun ls hl => ?_)
        refine lv_goto (tgt := 2) hx hb dX8_spreads_112 (by decide) ?_
        cases hf
        exact ih e_9.1 e_9.2.1 e_9.2.2 v_10 ex _ _ _ (h9 _ rfl) (lv_sub hl [1, 0] rfl) hW kx0
  obtain ⟨e_11, hc_11, hf⟩ := ob_bind hf
  refine hB2 lfuel s_queued s_far s_queue x1 e_11 _ _ _ hc_11 (lv_sub hl [1, 0] rfl) hW ?_
  intro H locs ls hl hW
  cases hf
  exact hret dX8_spreads_115 hW
def w_X8_connects (E : Nat → ClassId) (h_ h_g h_kept h_past h_path h_pose h_way h_px h_py h_free h_tips h_far h_queue h_times h_turns h_names h_named h_text h_told h_spare : Nat) (s_hasKept : Int32) (s_pasts : Int32) (s_pathMoves : Int32) (s_spot : Int32) (s_thrown : Int32) (s_faulty : Int32) (s_queued : Int32) (s_length : Int32) (s_at : Int32) (s_error : Int32) (s_tolds : Int32) (s_number : Int32) (s_g : Nat → Int32) (s_pose : Nat → Int32) (s_way : Nat → Int32) (s_px : Nat → Int32) (s_py : Nat → Int32) (s_free : Nat → Int32) (s_tips : Nat → Int32) (s_far : Nat → Int32) (s_queue : Nat → Int32) : va_W := [(h_, .inr (10, [.ref h_g, .ref h_kept, .int s_hasKept, .ref h_past, .int s_pasts, .ref h_path, .int s_pathMoves, .int s_spot, .int s_thrown, .ref h_pose, .ref h_way, .ref h_px, .ref h_py, .int s_faulty, .ref h_free, .ref h_tips, .ref h_far, .ref h_queue, .int s_queued, .ref h_times, .ref h_turns, .ref h_names, .ref h_named, .ref h_text, .int s_length, .int s_at, .int s_error, .ref h_told, .int s_tolds, .int s_number, .ref h_spare])), (h_g, .inl (E 0, 141, .inl s_g)), (h_pose, .inl (E 0, 4, .inl s_pose)), (h_way, .inl (E 0, 4, .inl s_way)), (h_px, .inl (E 0, 5, .inl s_px)), (h_py, .inl (E 0, 5, .inl s_py)), (h_free, .inl (E 1, 5000, .inl s_free)), (h_tips, .inl (E 0, 5000, .inl s_tips)), (h_far, .inl (E 0, 5000, .inl s_far)), (h_queue, .inl (E 0, 5000, .inl s_queue))]
set_option maxHeartbeats 4000000 in
set_option maxRecDepth 100000 in
theorem c_X8_connects (l : Launch) (D : va_G) (E : Nat → ClassId) (tx : List (Nat × String)) (h_ h_g h_kept h_past h_path h_pose h_way h_px h_py h_free h_tips h_far h_queue h_times h_turns h_names h_named h_text h_told h_spare : Nat) (s_hasKept : Int32) (s_pasts : Int32) (s_pathMoves : Int32) (s_spot : Int32) (s_thrown : Int32) (s_faulty : Int32) (s_queued : Int32) (s_length : Int32) (s_at : Int32) (s_error : Int32) (s_tolds : Int32) (s_number : Int32) (s_g : Nat → Int32) (s_pose : Nat → Int32) (s_way : Nat → Int32) (s_px : Nat → Int32) (s_py : Nat → Int32) (s_free : Nat → Int32) (s_tips : Nat → Int32) (s_far : Nat → Int32) (s_queue : Nat → Int32)  (r0 : Int32) (r1 : Int32) (r2 : Nat → Int32) (r3 : Nat → Int32) (r4 : Nat → Int32) (r5 : Nat → Int32) (r6 : Nat → Int32) (r7 : Nat → Int32) (r8 : Nat → Int32) (r9 : Nat → Int32) (hf : f_X8_connects s_faulty s_queued s_g s_pose s_way s_px s_py s_free s_tips s_far s_queue = some (r0, r1, r2, r3, r4, r5, r6, r7, r8, r9)) : CV l yX8_connects cX8_connects 1 7 155 D E tx [.ref h_] (w_X8_connects E h_ h_g h_kept h_past h_path h_pose h_way h_px h_py h_free h_tips h_far h_queue h_times h_turns h_names h_named h_text h_told h_spare s_hasKept s_pasts s_pathMoves s_spot s_thrown s_faulty s_queued s_length s_at s_error s_tolds s_number s_g s_pose s_way s_px s_py s_free s_tips s_far s_queue) (w_X8_connects E h_ h_g h_kept h_past h_path h_pose h_way h_px h_py h_free h_tips h_far h_queue h_times h_turns h_names h_named h_text h_told h_spare s_hasKept s_pasts s_pathMoves s_spot s_thrown r0 r1 s_length s_at s_error s_tolds s_number s_g r2 r3 r4 r5 r6 r7 r8 r9) := by
  refine CV_of RX8 pn_X8 rfl (Nat.le_of_ble_eq_true rfl) (fun p e s m args below meth c A Q hF hK hA hZ hW hret ls hl => ?_)
  have hx := hF.1
  have hb := hF.2.1
  have hl : lv_has ls 1 [(0, .ref h_)] := hl
  unfold f_X8_connects at hf
  refine lv_aload_n hx hb dX8_connects_0 rfl (lv_at hl 0 rfl) ?_
  obtain ⟨o_1, hc_1, hf⟩ := ob_bind hf
  refine q_callV hF hl.1 hK hA hZ hW mv_X8_laysAll ml_X8_228 (c_X8_laysAll l D E tx h_ h_g h_kept h_past h_path h_pose h_way h_px h_py h_free h_tips h_far h_queue h_times h_turns h_names h_named h_text h_told h_spare s_hasKept s_pasts s_pathMoves s_spot s_thrown s_faulty s_queued s_length s_at s_error s_tolds s_number s_g s_pose s_way s_px s_py s_free s_tips o_1.1 o_1.2.1 o_1.2.2.1 o_1.2.2.2.1 o_1.2.2.2.2.1 o_1.2.2.2.2.2.1 o_1.2.2.2.2.2.2 hc_1) [0, 1, 2, 3, 4, 5, 6, 7] rfl rfl rfl rfl rfl rfl ⟨Nat.le_of_ble_eq_true rfl, Nat.le_of_ble_eq_true rfl⟩ ⟨Nat.le_of_ble_eq_true rfl, Nat.le_of_ble_eq_true rfl⟩ rfl rfl (Nat.le_of_ble_eq_true rfl) dX8_connects_1 (fun H locs hW => ?_)
  have hW : WD D A s (w_X8_connects E h_ h_g h_kept h_past h_path h_pose h_way h_px h_py h_free h_tips h_far h_queue h_times h_turns h_names h_named h_text h_told h_spare s_hasKept s_pasts s_pathMoves s_spot s_thrown o_1.1 s_queued s_length s_at s_error s_tolds s_number s_g o_1.2.1 o_1.2.2.1 o_1.2.2.2.1 o_1.2.2.2.2.1 o_1.2.2.2.2.2.1 o_1.2.2.2.2.2.2 s_far s_queue) H locs := hW
  refine lv_aload_n hx hb dX8_connects_4 rfl (lv_at hl 0 rfl) ?_
  obtain ⟨o_2, hc_2, hf⟩ := ob_bind hf
  refine q_callV hF hl.1 hK hA hZ hW mv_X8_forgets ml_X8_237 (c_X8_forgets l D E tx h_ h_g h_kept h_past h_path h_pose h_way h_px h_py h_free h_tips h_far h_queue h_times h_turns h_names h_named h_text h_told h_spare s_hasKept s_pasts s_pathMoves s_spot s_thrown o_1.1 s_queued s_length s_at s_error s_tolds s_number s_g s_far o_2.1 o_2.2 hc_2) [0, 1, 8] rfl rfl rfl rfl rfl rfl ⟨Nat.le_of_ble_eq_true rfl, Nat.le_of_ble_eq_true rfl⟩ ⟨Nat.le_of_ble_eq_true rfl, Nat.le_of_ble_eq_true rfl⟩ rfl rfl (Nat.le_of_ble_eq_true rfl) dX8_connects_5 (fun H locs hW => ?_)
  have hW : WD D A s (w_X8_connects E h_ h_g h_kept h_past h_path h_pose h_way h_px h_py h_free h_tips h_far h_queue h_times h_turns h_names h_named h_text h_told h_spare s_hasKept s_pasts s_pathMoves s_spot s_thrown o_1.1 o_2.1 s_length s_at s_error s_tolds s_number s_g o_1.2.1 o_1.2.2.1 o_1.2.2.2.1 o_1.2.2.2.2.1 o_1.2.2.2.2.2.1 o_1.2.2.2.2.2.2 o_2.2 s_queue) H locs := hW
  refine lv_aload_n hx hb dX8_connects_8 rfl (lv_at hl 0 rfl) ?_
  refine q_get hF hK hW fl_X8_38 0 rfl rfl dX8_connects_9 ?_
  refine lv_aload_n hx hb dX8_connects_12 rfl (lv_at hl 0 rfl) ?_
  obtain ⟨o_3, hc_3, hf⟩ := ob_bind hf
  refine q_callI hF hl.1 hK hA hZ hW mv_X8_numberNow ml_X8_181 (c_X8_numberNow l D E tx h_ h_g h_kept h_past h_path h_pose h_way h_px h_py h_free h_tips h_far h_queue h_times h_turns h_names h_named h_text h_told h_spare s_hasKept s_pasts s_pathMoves s_spot s_thrown o_1.1 o_2.1 s_length s_at s_error s_tolds s_number s_g o_3 hc_3) [0, 1] rfl rfl rfl rfl rfl rfl ⟨Nat.le_of_ble_eq_true rfl, Nat.le_of_ble_eq_true rfl⟩ ⟨Nat.le_of_ble_eq_true rfl, Nat.le_of_ble_eq_true rfl⟩ rfl rfl (Nat.le_of_ble_eq_true rfl) dX8_connects_13 (fun H locs hW => ?_)
  have hW : WD D A s (w_X8_connects E h_ h_g h_kept h_past h_path h_pose h_way h_px h_py h_free h_tips h_far h_queue h_times h_turns h_names h_named h_text h_told h_spare s_hasKept s_pasts s_pathMoves s_spot s_thrown o_1.1 o_2.1 s_length s_at s_error s_tolds s_number s_g o_1.2.1 o_1.2.2.1 o_1.2.2.2.1 o_1.2.2.2.2.1 o_1.2.2.2.2.2.1 o_1.2.2.2.2.2.2 o_2.2 s_queue) H locs := hW
  refine q_zald hx hb hK hW 6 1 rfl rfl dX8_connects_16 hf (fun hf => ?_)
  refine q_if_eq (tgt := 33) hx hb dX8_connects_17 (by decide) hf (fun hf => ?_) (fun hf => ?_)
  · cases hf
    exact hret dX8_connects_33 hW
  · refine lv_aload_n hx hb dX8_connects_20 rfl (lv_at hl 0 rfl) ?_
    refine lv_aload_n hx hb dX8_connects_21 rfl (lv_at hl 0 rfl) ?_
    obtain ⟨o_4, hc_4, hf⟩ := ob_bind hf
    refine q_callI hF hl.1 hK hA hZ hW mv_X8_numberNow ml_X8_181 (c_X8_numberNow l D E tx h_ h_g h_kept h_past h_path h_pose h_way h_px h_py h_free h_tips h_far h_queue h_times h_turns h_names h_named h_text h_told h_spare s_hasKept s_pasts s_pathMoves s_spot s_thrown o_1.1 o_2.1 s_length s_at s_error s_tolds s_number s_g o_4 hc_4) [0, 1] rfl rfl rfl rfl rfl rfl ⟨Nat.le_of_ble_eq_true rfl, Nat.le_of_ble_eq_true rfl⟩ ⟨Nat.le_of_ble_eq_true rfl, Nat.le_of_ble_eq_true rfl⟩ rfl rfl (Nat.le_of_ble_eq_true rfl) dX8_connects_22 (fun H locs hW => ?_)
    have hW : WD D A s (w_X8_connects E h_ h_g h_kept h_past h_path h_pose h_way h_px h_py h_free h_tips h_far h_queue h_times h_turns h_names h_named h_text h_told h_spare s_hasKept s_pasts s_pathMoves s_spot s_thrown o_1.1 o_2.1 s_length s_at s_error s_tolds s_number s_g o_1.2.1 o_1.2.2.1 o_1.2.2.2.1 o_1.2.2.2.2.1 o_1.2.2.2.2.2.1 o_1.2.2.2.2.2.2 o_2.2 s_queue) H locs := hW
    obtain ⟨o_5, hc_5, hf⟩ := ob_bind hf
    refine q_callV hF hl.1 hK hA hZ hW mv_X8_starts ml_X8_240 (c_X8_starts l D E tx h_ h_g h_kept h_past h_path h_pose h_way h_px h_py h_free h_tips h_far h_queue h_times h_turns h_names h_named h_text h_told h_spare s_hasKept s_pasts s_pathMoves s_spot s_thrown o_1.1 o_2.1 s_length s_at s_error s_tolds s_number o_2.2 s_queue o_4 o_5.1 o_5.2.1 o_5.2.2 hc_5) [0, 8, 9] rfl rfl rfl rfl rfl rfl ⟨Nat.le_of_ble_eq_true rfl, Nat.le_of_ble_eq_true rfl⟩ ⟨Nat.le_of_ble_eq_true rfl, Nat.le_of_ble_eq_true rfl⟩ rfl rfl (Nat.le_of_ble_eq_true rfl) dX8_connects_25 (fun H locs hW => ?_)
    have hW : WD D A s (w_X8_connects E h_ h_g h_kept h_past h_path h_pose h_way h_px h_py h_free h_tips h_far h_queue h_times h_turns h_names h_named h_text h_told h_spare s_hasKept s_pasts s_pathMoves s_spot s_thrown o_1.1 o_5.1 s_length s_at s_error s_tolds s_number s_g o_1.2.1 o_1.2.2.1 o_1.2.2.2.1 o_1.2.2.2.2.1 o_1.2.2.2.2.2.1 o_1.2.2.2.2.2.2 o_5.2.1 o_5.2.2) H locs := hW
    refine lv_aload_n hx hb dX8_connects_28 rfl (lv_at hl 0 rfl) ?_
    refine lv_iconst (v := 0) hx hb dX8_connects_29 (by decide) ?_
    obtain ⟨o_6, hc_6, hf⟩ := ob_bind hf
    refine q_callV hF hl.1 hK hA hZ hW mv_X8_spreads ml_X8_243 (c_X8_spreads l D E tx h_ h_g h_kept h_past h_path h_pose h_way h_px h_py h_free h_tips h_far h_queue h_times h_turns h_names h_named h_text h_told h_spare s_hasKept s_pasts s_pathMoves s_spot s_thrown o_1.1 o_5.1 s_length s_at s_error s_tolds s_number s_g o_1.2.2.2.2.2.1 o_5.2.1 o_5.2.2 0 o_6.1 o_6.2.1 o_6.2.2 hc_6) [0, 1, 6, 8, 9] rfl rfl rfl rfl rfl rfl ⟨Nat.le_of_ble_eq_true rfl, Nat.le_of_ble_eq_true rfl⟩ ⟨Nat.le_of_ble_eq_true rfl, Nat.le_of_ble_eq_true rfl⟩ rfl rfl (Nat.le_of_ble_eq_true rfl) dX8_connects_30 (fun H locs hW => ?_)
    have hW : WD D A s (w_X8_connects E h_ h_g h_kept h_past h_path h_pose h_way h_px h_py h_free h_tips h_far h_queue h_times h_turns h_names h_named h_text h_told h_spare s_hasKept s_pasts s_pathMoves s_spot s_thrown o_1.1 o_6.1 s_length s_at s_error s_tolds s_number s_g o_1.2.1 o_1.2.2.1 o_1.2.2.2.1 o_1.2.2.2.2.1 o_1.2.2.2.2.2.1 o_1.2.2.2.2.2.2 o_6.2.1 o_6.2.2) H locs := hW
    cases hf
    exact hret dX8_connects_33 hW
def w_X8_connected (E : Nat → ClassId) (h_ h_g h_kept h_past h_path h_pose h_way h_px h_py h_free h_tips h_far h_queue h_times h_turns h_names h_named h_text h_told h_spare : Nat) (s_hasKept : Int32) (s_pasts : Int32) (s_pathMoves : Int32) (s_spot : Int32) (s_thrown : Int32) (s_faulty : Int32) (s_queued : Int32) (s_length : Int32) (s_at : Int32) (s_error : Int32) (s_tolds : Int32) (s_number : Int32) (s_g : Nat → Int32) (s_pose : Nat → Int32) (s_way : Nat → Int32) (s_px : Nat → Int32) (s_py : Nat → Int32) (s_free : Nat → Int32) (s_tips : Nat → Int32) (s_far : Nat → Int32) (s_queue : Nat → Int32) : va_W := [(h_, .inr (10, [.ref h_g, .ref h_kept, .int s_hasKept, .ref h_past, .int s_pasts, .ref h_path, .int s_pathMoves, .int s_spot, .int s_thrown, .ref h_pose, .ref h_way, .ref h_px, .ref h_py, .int s_faulty, .ref h_free, .ref h_tips, .ref h_far, .ref h_queue, .int s_queued, .ref h_times, .ref h_turns, .ref h_names, .ref h_named, .ref h_text, .int s_length, .int s_at, .int s_error, .ref h_told, .int s_tolds, .int s_number, .ref h_spare])), (h_g, .inl (E 0, 141, .inl s_g)), (h_pose, .inl (E 0, 4, .inl s_pose)), (h_way, .inl (E 0, 4, .inl s_way)), (h_px, .inl (E 0, 5, .inl s_px)), (h_py, .inl (E 0, 5, .inl s_py)), (h_free, .inl (E 1, 5000, .inl s_free)), (h_tips, .inl (E 0, 5000, .inl s_tips)), (h_far, .inl (E 0, 5000, .inl s_far)), (h_queue, .inl (E 0, 5000, .inl s_queue))]
set_option maxHeartbeats 4000000 in
set_option maxRecDepth 100000 in
theorem c_X8_connected (l : Launch) (D : va_G) (E : Nat → ClassId) (tx : List (Nat × String)) (h_ h_g h_kept h_past h_path h_pose h_way h_px h_py h_free h_tips h_far h_queue h_times h_turns h_names h_named h_text h_told h_spare : Nat) (s_hasKept : Int32) (s_pasts : Int32) (s_pathMoves : Int32) (s_spot : Int32) (s_thrown : Int32) (s_faulty : Int32) (s_queued : Int32) (s_length : Int32) (s_at : Int32) (s_error : Int32) (s_tolds : Int32) (s_number : Int32) (s_g : Nat → Int32) (s_pose : Nat → Int32) (s_way : Nat → Int32) (s_px : Nat → Int32) (s_py : Nat → Int32) (s_free : Nat → Int32) (s_tips : Nat → Int32) (s_far : Nat → Int32) (s_queue : Nat → Int32)  (r0 : Int32) (r1 : Int32) (r2 : Int32) (r3 : Int32) (r4 : Nat → Int32) (r5 : Nat → Int32) (r6 : Nat → Int32) (r7 : Nat → Int32) (r8 : Nat → Int32) (r9 : Nat → Int32) (r10 : Nat → Int32) (r11 : Nat → Int32) (hf : f_X8_connected s_thrown s_faulty s_queued s_g s_pose s_way s_px s_py s_free s_tips s_far s_queue = some (r0, r1, r2, r3, r4, r5, r6, r7, r8, r9, r10, r11)) : CI l yX8_connected cX8_connected 1 (some .int) 8 175 D E tx [.ref h_] (w_X8_connected E h_ h_g h_kept h_past h_path h_pose h_way h_px h_py h_free h_tips h_far h_queue h_times h_turns h_names h_named h_text h_told h_spare s_hasKept s_pasts s_pathMoves s_spot s_thrown s_faulty s_queued s_length s_at s_error s_tolds s_number s_g s_pose s_way s_px s_py s_free s_tips s_far s_queue) (w_X8_connected E h_ h_g h_kept h_past h_path h_pose h_way h_px h_py h_free h_tips h_far h_queue h_times h_turns h_names h_named h_text h_told h_spare s_hasKept s_pasts s_pathMoves s_spot r1 r2 r3 s_length s_at s_error s_tolds s_number s_g r4 r5 r6 r7 r8 r9 r10 r11) r0 := by
  refine CI_of RX8 pn_X8 rfl (Nat.le_of_ble_eq_true rfl) (fun p e s m args below meth c A Q hF hK hA hZ hW hret ls hl => ?_)
  have hx := hF.1
  have hb := hF.2.1
  have hl : lv_has ls 1 [(0, .ref h_)] := hl
  unfold f_X8_connected at hf
  have hL13 : ∀ (s_thrown_13 : Int32) (s_faulty_13 : Int32) (s_queued_13 : Int32) (s_pose_13 : Nat → Int32) (s_way_13 : Nat → Int32) (s_px_13 : Nat → Int32) (s_py_13 : Nat → Int32) (s_free_13 : Nat → Int32) (s_tips_13 : Nat → Int32) (s_far_13 : Nat → Int32) (s_queue_13 : Nat → Int32) (k1_13 : Int32) (H : Heap) (locs : List Loc) (ls : Array Slot), f_X8_connected_L13 s_thrown_13 s_faulty_13 s_queued_13 s_g s_pose_13 s_way_13 s_px_13 s_py_13 s_free_13 s_tips_13 s_far_13 s_queue_13 k1_13 = some (r0, r1, r2, r3, r4, r5, r6, r7, r8, r9, r10, r11) → lv_has ls 1 [(0, .ref h_)] → WD D A s (w_X8_connected E h_ h_g h_kept h_past h_path h_pose h_way h_px h_py h_free h_tips h_far h_queue h_times h_turns h_names h_named h_text h_told h_spare s_hasKept s_pasts s_pathMoves s_spot s_thrown_13 s_faulty_13 s_queued_13 s_length s_at s_error s_tolds s_number s_g s_pose_13 s_way_13 s_px_13 s_py_13 s_free_13 s_tips_13 s_far_13 s_queue_13) H locs → W p l e (RM 8 175) s m args below meth c H locs 0 0 Q (F0 m 13 ls [.int k1_13, .ref h_]) := by
    intro s_thrown_13 s_faulty_13 s_queued_13 s_pose_13 s_way_13 s_px_13 s_py_13 s_free_13 s_tips_13 s_far_13 s_queue_13 k1_13 H locs ls hf hl hW
    unfold f_X8_connected_L13 at hf
    refine q_put hF hK hW fl_X8_76 ft_X8 rfl 0 rfl rfl rfl (Nat.le_of_ble_eq_true rfl) dX8_connected_13 (fun H locs hW => ?_)
    have hW : WD D A s (w_X8_connected E h_ h_g h_kept h_past h_path h_pose h_way h_px h_py h_free h_tips h_far h_queue h_times h_turns h_names h_named h_text h_told h_spare s_hasKept s_pasts s_pathMoves s_spot k1_13 s_faulty_13 s_queued_13 s_length s_at s_error s_tolds s_number s_g s_pose_13 s_way_13 s_px_13 s_py_13 s_free_13 s_tips_13 s_far_13 s_queue_13) H locs := hW
    refine lv_aload_n hx hb dX8_connected_16 rfl (lv_at hl 0 rfl) ?_
    refine q_get hF hK hW fl_X8_76 0 rfl rfl dX8_connected_17 ?_
    refine q_if_le (tgt := 25) hx hb dX8_connected_20 (by decide) hf (fun hf => ?_) (fun hf => ?_)
    · refine lv_aload_n hx hb dX8_connected_25 rfl (lv_at hl 0 rfl) ?_
      obtain ⟨o_1, hc_1, hf⟩ := ob_bind hf
      refine q_callV hF hl.1 hK hA hZ hW mv_X8_connects ml_X8_246 (c_X8_connects l D E tx h_ h_g h_kept h_past h_path h_pose h_way h_px h_py h_free h_tips h_far h_queue h_times h_turns h_names h_named h_text h_told h_spare s_hasKept s_pasts s_pathMoves s_spot k1_13 s_faulty_13 s_queued_13 s_length s_at s_error s_tolds s_number s_g s_pose_13 s_way_13 s_px_13 s_py_13 s_free_13 s_tips_13 s_far_13 s_queue_13 o_1.1 o_1.2.1 o_1.2.2.1 o_1.2.2.2.1 o_1.2.2.2.2.1 o_1.2.2.2.2.2.1 o_1.2.2.2.2.2.2.1 o_1.2.2.2.2.2.2.2.1 o_1.2.2.2.2.2.2.2.2.1 o_1.2.2.2.2.2.2.2.2.2 hc_1) [0, 1, 2, 3, 4, 5, 6, 7, 8, 9] rfl rfl rfl rfl rfl rfl ⟨Nat.le_of_ble_eq_true rfl, Nat.le_of_ble_eq_true rfl⟩ ⟨Nat.le_of_ble_eq_true rfl, Nat.le_of_ble_eq_true rfl⟩ rfl rfl (Nat.le_of_ble_eq_true rfl) dX8_connected_26 (fun H locs hW => ?_)
      have hW : WD D A s (w_X8_connected E h_ h_g h_kept h_past h_path h_pose h_way h_px h_py h_free h_tips h_far h_queue h_times h_turns h_names h_named h_text h_told h_spare s_hasKept s_pasts s_pathMoves s_spot k1_13 o_1.1 o_1.2.1 s_length s_at s_error s_tolds s_number s_g o_1.2.2.1 o_1.2.2.2.1 o_1.2.2.2.2.1 o_1.2.2.2.2.2.1 o_1.2.2.2.2.2.2.1 o_1.2.2.2.2.2.2.2.1 o_1.2.2.2.2.2.2.2.2.1 o_1.2.2.2.2.2.2.2.2.2) H locs := hW
      refine lv_aload_n hx hb dX8_connected_29 rfl (lv_at hl 0 rfl) ?_
      refine q_get hF hK hW fl_X8_234 0 rfl rfl dX8_connected_30 ?_
      cases hf
      exact hret dX8_connected_33 rfl rfl hW
    · refine lv_iconst (v := 0) hx hb dX8_connected_23 (by decide) ?_
      cases hf
      exact hret dX8_connected_24 rfl rfl hW
  refine lv_aload_n hx hb dX8_connected_0 rfl (lv_at hl 0 rfl) ?_
  refine lv_aload_n hx hb dX8_connected_1 rfl (lv_at hl 0 rfl) ?_
  obtain ⟨o_2, hc_2, hf⟩ := ob_bind hf
  refine q_callI hF hl.1 hK hA hZ hW mv_X8_isMany ml_X8_222 (c_X8_isMany l D E tx h_ h_g h_kept h_past h_path h_pose h_way h_px h_py h_free h_tips h_far h_queue h_times h_turns h_names h_named h_text h_told h_spare s_hasKept s_pasts s_pathMoves s_spot s_thrown s_faulty s_queued s_length s_at s_error s_tolds s_number s_g o_2 hc_2) [0, 1] rfl rfl rfl rfl rfl rfl ⟨Nat.le_of_ble_eq_true rfl, Nat.le_of_ble_eq_true rfl⟩ ⟨Nat.le_of_ble_eq_true rfl, Nat.le_of_ble_eq_true rfl⟩ rfl rfl (Nat.le_of_ble_eq_true rfl) dX8_connected_2 (fun H locs hW => ?_)
  have hW : WD D A s (w_X8_connected E h_ h_g h_kept h_past h_path h_pose h_way h_px h_py h_free h_tips h_far h_queue h_times h_turns h_names h_named h_text h_told h_spare s_hasKept s_pasts s_pathMoves s_spot s_thrown s_faulty s_queued s_length s_at s_error s_tolds s_number s_g s_pose s_way s_px s_py s_free s_tips s_far s_queue) H locs := hW
  refine q_if_eq (tgt := 12) hx hb dX8_connected_5 (by decide) hf (fun hf => ?_) (fun hf => ?_)
  · refine lv_iconst (v := 0) hx hb dX8_connected_12 (by decide) ?_
    exact hL13 s_thrown s_faulty s_queued s_pose s_way s_px s_py s_free s_tips s_far s_queue 0 _ _ _ hf (lv_sub hl [0] rfl) hW
  · refine lv_iconst (v := 1) hx hb dX8_connected_8 (by decide) ?_
    refine lv_goto (tgt := 13) hx hb dX8_connected_9 (by decide) ?_
    exact hL13 s_thrown s_faulty s_queued s_pose s_way s_px s_py s_free s_tips s_far s_queue 1 _ _ _ hf (lv_sub hl [0] rfl) hW
def w_X8_counts (E : Nat → ClassId) (h_ h_g h_kept h_past h_path h_pose h_way h_px h_py h_free h_tips h_far h_queue h_times h_turns h_names h_named h_text h_told h_spare : Nat) (s_hasKept : Int32) (s_pasts : Int32) (s_pathMoves : Int32) (s_spot : Int32) (s_thrown : Int32) (s_faulty : Int32) (s_queued : Int32) (s_length : Int32) (s_at : Int32) (s_error : Int32) (s_tolds : Int32) (s_number : Int32) (s_tips : Nat → Int32) (s_queue : Nat → Int32) (s_times : Nat → Int32) : va_W := [(h_, .inr (10, [.ref h_g, .ref h_kept, .int s_hasKept, .ref h_past, .int s_pasts, .ref h_path, .int s_pathMoves, .int s_spot, .int s_thrown, .ref h_pose, .ref h_way, .ref h_px, .ref h_py, .int s_faulty, .ref h_free, .ref h_tips, .ref h_far, .ref h_queue, .int s_queued, .ref h_times, .ref h_turns, .ref h_names, .ref h_named, .ref h_text, .int s_length, .int s_at, .int s_error, .ref h_told, .int s_tolds, .int s_number, .ref h_spare])), (h_tips, .inl (E 0, 5000, .inl s_tips)), (h_queue, .inl (E 0, 5000, .inl s_queue)), (h_times, .inl (E 0, 441, .inl s_times))]
set_option maxHeartbeats 4000000 in
set_option maxRecDepth 100000 in
theorem c_X8_counts (l : Launch) (D : va_G) (E : Nat → ClassId) (tx : List (Nat × String)) (h_ h_g h_kept h_past h_path h_pose h_way h_px h_py h_free h_tips h_far h_queue h_times h_turns h_names h_named h_text h_told h_spare : Nat) (s_hasKept : Int32) (s_pasts : Int32) (s_pathMoves : Int32) (s_spot : Int32) (s_thrown : Int32) (s_faulty : Int32) (s_queued : Int32) (s_length : Int32) (s_at : Int32) (s_error : Int32) (s_tolds : Int32) (s_number : Int32) (s_tips : Nat → Int32) (s_queue : Nat → Int32) (s_times : Nat → Int32)  (r0 : Int32) (r1 : Nat → Int32) (hf : f_X8_counts s_queued s_tips s_queue s_times = some (r0, r1)) : CI l yX8_counts cX8_counts 3 (some .int) 0 0 D E tx [.ref h_] (w_X8_counts E h_ h_g h_kept h_past h_path h_pose h_way h_px h_py h_free h_tips h_far h_queue h_times h_turns h_names h_named h_text h_told h_spare s_hasKept s_pasts s_pathMoves s_spot s_thrown s_faulty s_queued s_length s_at s_error s_tolds s_number s_tips s_queue s_times) (w_X8_counts E h_ h_g h_kept h_past h_path h_pose h_way h_px h_py h_free h_tips h_far h_queue h_times h_turns h_names h_named h_text h_told h_spare s_hasKept s_pasts s_pathMoves s_spot s_thrown s_faulty s_queued s_length s_at s_error s_tolds s_number s_tips s_queue r1) r0 := by
  refine CI_of RX8 pn_X8 rfl (Nat.le_of_ble_eq_true rfl) (fun p e s m args below meth c A Q hF hK hA hZ hW hret ls hl => ?_)
  have hx := hF.1
  have hb := hF.2.1
  have hl : lv_has ls 3 [(0, .ref h_)] := hl
  unfold f_X8_counts at hf
  refine lv_iconst (v := 0) hx hb dX8_counts_0 (by decide) ?_
  refine lv_istore_n (lv' := [(1, .int 0), (0, .ref h_)]) hx hb dX8_counts_1 rfl hl (by decide) rfl (fun ls hl => ?_)
  refine lv_iconst (v := 0) hx hb dX8_counts_2 (by decide) ?_
  refine lv_istore_n (lv' := [(2, .int 0), (1, .int 0), (0, .ref h_)]) hx hb dX8_counts_3 rfl hl (by decide) rfl (fun ls hl => ?_)
  have hB4 : ∀ (n : Nat) (s_times_4 : Nat → Int32) (z2_4 : Int32) (ex : (Nat → Int32)) (H : Heap) (locs : List Loc) (ls : Array Slot), LPF (fun z => f_X8_counts_B4 s_queued s_tips s_queue z.1 0 z.2) n (s_times_4, z2_4) = some ex → lv_has ls 3 [(0, .ref h_), (1, .int 0), (2, .int z2_4)] → WD D A s (w_X8_counts E h_ h_g h_kept h_past h_path h_pose h_way h_px h_py h_free h_tips h_far h_queue h_times h_turns h_names h_named h_text h_told h_spare s_hasKept s_pasts s_pathMoves s_spot s_thrown s_faulty s_queued s_length s_at s_error s_tolds s_number s_tips s_queue s_times_4) H locs → (∀ (H : Heap) (locs : List Loc) (ls : Array Slot), lv_has ls 3 [(0, .ref h_), (1, .int 0)] → WD D A s (w_X8_counts E h_ h_g h_kept h_past h_path h_pose h_way h_px h_py h_free h_tips h_far h_queue h_times h_turns h_names h_named h_text h_told h_spare s_hasKept s_pasts s_pathMoves s_spot s_thrown s_faulty s_queued s_length s_at s_error s_tolds s_number s_tips s_queue ex) H locs → W p l e (RM 0 0) s m args below meth c H locs 0 0 Q (F0 m 24 ls [])) → W p l e (RM 0 0) s m args below meth c H locs 0 0 Q (F0 m 4 ls []) := by
    intro n
    induction n with
    | zero => intro s_times_4 z2_4 ex H locs ls h9; exact (ob_lp0 h9).elim
    | succ n ih =>
      intro s_times_4 z2_4 ex H locs ls h9 hl hW kx0
      obtain ⟨q9, hf, h9, k9⟩ := ob_lp h9
      have hf : f_X8_counts_B4 s_queued s_tips s_queue s_times_4 0 z2_4 = some q9 := hf
      unfold f_X8_counts_B4 at hf
      refine lv_iload_n hx hb dX8_counts_4 rfl (lv_at hl 2 rfl) ?_
      refine lv_sipush (v := 441) hx hb dX8_counts_5 (by decide) ?_
      refine q_icmp_ge (tgt := 24) hx hb dX8_counts_8 (by decide) hf (fun hf => ?_) (fun hf => ?_)
      · cases hf
        have hx9 := k9 _ rfl
        subst hx9
        exact kx0 _ _ _ (lv_sub hl [0, 1] rfl) hW
      · refine lv_aload_n hx hb dX8_counts_11 rfl (lv_at hl 0 rfl) ?_
        refine q_get hF hK hW fl_X8_51 0 rfl rfl dX8_counts_12 ?_
        refine lv_iload_n hx hb dX8_counts_15 rfl (lv_at hl 2 rfl) ?_
        refine lv_iconst (v := 0) hx hb dX8_counts_16 (by decide) ?_
        refine q_iast hx hb hK hW 3 0 rfl rfl dX8_counts_17 hf (fun a_1 hf H locs hW => ?_)
        have hW : WD D A s (w_X8_counts E h_ h_g h_kept h_past h_path h_pose h_way h_px h_py h_free h_tips h_far h_queue h_times h_turns h_names h_named h_text h_told h_spare s_hasKept s_pasts s_pathMoves s_spot s_thrown s_faulty s_queued s_length s_at s_error s_tolds s_number s_tips s_queue a_1) H locs := hW
        obtain ⟨v_2, ev_2⟩ : ∃ y : Int32, y = z2_4 + 1 := ⟨_, rfl⟩
        replace hf := ob_let hf ev_2
        refine lv_iinc (v := v_2) (lv' := [(2, .int v_2), (0, .ref h_), (1, .int 0)]) hx hb dX8_counts_18 hl (k := 2) rfl (by rw [ev_2]; rfl) (by decide) rfl (fun ls hl => ?_)
        refine lv_goto (tgt := 4) hx hb dX8_counts_21 (by decide) ?_
        cases hf
        exact ih a_1 v_2 ex _ _ _ (h9 _ rfl) (lv_sub hl [1, 2, 0] rfl) hW kx0
  obtain ⟨e_3, hc_3, hf⟩ := ob_bind hf
  refine hB4 lfuel s_times 0 e_3 _ _ _ hc_3 (lv_sub hl [2, 1, 0] rfl) hW ?_
  intro H locs ls hl hW
  refine lv_iconst (v := 0) hx hb dX8_counts_24 (by decide) ?_
  refine lv_istore_n (lv' := [(2, .int 0), (0, .ref h_), (1, .int 0)]) hx hb dX8_counts_25 rfl hl (by decide) rfl (fun ls hl => ?_)
  have hB26 : ∀ (n : Nat) (s_times_26 : Nat → Int32) (z1_26 : Int32) (z2_26 : Int32) (ex : (Nat → Int32) × Int32) (H : Heap) (locs : List Loc) (ls : Array Slot), LPF (fun z => f_X8_counts_B26 s_queued s_tips s_queue z.1 z.2.1 z.2.2) n (s_times_26, z1_26, z2_26) = some ex → lv_has ls 3 [(0, .ref h_), (1, .int z1_26), (2, .int z2_26)] → WD D A s (w_X8_counts E h_ h_g h_kept h_past h_path h_pose h_way h_px h_py h_free h_tips h_far h_queue h_times h_turns h_names h_named h_text h_told h_spare s_hasKept s_pasts s_pathMoves s_spot s_thrown s_faulty s_queued s_length s_at s_error s_tolds s_number s_tips s_queue s_times_26) H locs → (∀ (H : Heap) (locs : List Loc) (ls : Array Slot), lv_has ls 3 [(1, .int ex.2)] → WD D A s (w_X8_counts E h_ h_g h_kept h_past h_path h_pose h_way h_px h_py h_free h_tips h_far h_queue h_times h_turns h_names h_named h_text h_told h_spare s_hasKept s_pasts s_pathMoves s_spot s_thrown s_faulty s_queued s_length s_at s_error s_tolds s_number s_tips s_queue ex.1) H locs → W p l e (RM 0 0) s m args below meth c H locs 0 0 Q (F0 m 87 ls [])) → W p l e (RM 0 0) s m args below meth c H locs 0 0 Q (F0 m 26 ls []) := by
    intro n
    induction n with
    | zero => intro s_times_26 z1_26 z2_26 ex H locs ls h9; exact (ob_lp0 h9).elim
    | succ n ih =>
      intro s_times_26 z1_26 z2_26 ex H locs ls h9 hl hW kx0
      obtain ⟨q9, hf, h9, k9⟩ := ob_lp h9
      have hf : f_X8_counts_B26 s_queued s_tips s_queue s_times_26 z1_26 z2_26 = some q9 := hf
      unfold f_X8_counts_B26 at hf
      have hL59 : ∀ (s_times_59 : Nat → Int32) (y2_59 : Int32) (k0_59 : Int32) (k1_59 : Int32) (H : Heap) (locs : List Loc) (ls : Array Slot), f_X8_counts_L59 s_queued s_tips s_queue s_times_59 y2_59 k0_59 k1_59 = some q9 → lv_has ls 3 [(0, .ref h_), (2, .int y2_59)] → WD D A s (w_X8_counts E h_ h_g h_kept h_past h_path h_pose h_way h_px h_py h_free h_tips h_far h_queue h_times h_turns h_names h_named h_text h_told h_spare s_hasKept s_pasts s_pathMoves s_spot s_thrown s_faulty s_queued s_length s_at s_error s_tolds s_number s_tips s_queue s_times_59) H locs → W p l e (RM 0 0) s m args below meth c H locs 0 0 Q (F0 m 59 ls [.int k1_59, .int k0_59]) := by
        intro s_times_59 y2_59 k0_59 k1_59 H locs ls hf hl hW
        unfold f_X8_counts_L59 at hf
        refine lv_iadd hx hb dX8_counts_59 ?_
        refine lv_topi (fun v_4 ev_4 => ?_)
        replace hf := ob_let hf ev_4
        refine lv_istore_n (lv' := [(1, .int v_4), (0, .ref h_), (2, .int y2_59)]) hx hb dX8_counts_60 rfl hl (by decide) rfl (fun ls hl => ?_)
        refine lv_aload_n hx hb dX8_counts_61 rfl (lv_at hl 1 rfl) ?_
        refine q_get hF hK hW fl_X8_51 0 rfl rfl dX8_counts_62 ?_
        refine lv_aload_n hx hb dX8_counts_65 rfl (lv_at hl 1 rfl) ?_
        refine q_get hF hK hW fl_X8_42 0 rfl rfl dX8_counts_66 ?_
        refine lv_aload_n hx hb dX8_counts_69 rfl (lv_at hl 1 rfl) ?_
        refine q_get hF hK hW fl_X8_48 0 rfl rfl dX8_counts_70 ?_
        refine lv_iload_n hx hb dX8_counts_73 rfl (lv_at hl 2 rfl) ?_
        refine q_iald hx hb hK hW 2 0 rfl rfl dX8_counts_74 hf (fun hf => ?_)
        refine q_iald hx hb hK hW 1 0 rfl rfl dX8_counts_75 hf (fun hf => ?_)
        refine lv_dup2_11 hx hb dX8_counts_76 rfl rfl ?_
        refine q_iald hx hb hK hW 3 0 rfl rfl dX8_counts_77 hf (fun hf => ?_)
        refine lv_iconst (v := 1) hx hb dX8_counts_78 (by decide) ?_
        refine lv_iadd hx hb dX8_counts_79 ?_
        refine q_iast hx hb hK hW 3 0 rfl rfl dX8_counts_80 hf (fun a_5 hf H locs hW => ?_)
        have hW : WD D A s (w_X8_counts E h_ h_g h_kept h_past h_path h_pose h_way h_px h_py h_free h_tips h_far h_queue h_times h_turns h_names h_named h_text h_told h_spare s_hasKept s_pasts s_pathMoves s_spot s_thrown s_faulty s_queued s_length s_at s_error s_tolds s_number s_tips s_queue a_5) H locs := hW
        obtain ⟨v_6, ev_6⟩ : ∃ y : Int32, y = y2_59 + 1 := ⟨_, rfl⟩
        replace hf := ob_let hf ev_6
        refine lv_iinc (v := v_6) (lv' := [(2, .int v_6), (1, .int v_4), (0, .ref h_)]) hx hb dX8_counts_81 hl (k := 2) rfl (by rw [ev_6]; rfl) (by decide) rfl (fun ls hl => ?_)
        refine lv_goto (tgt := 26) hx hb dX8_counts_84 (by decide) ?_
        cases hf
        exact ih a_5 v_4 v_6 ex _ _ _ (h9 _ rfl) (lv_sub hl [2, 1, 0] rfl) hW kx0
      refine lv_iload_n hx hb dX8_counts_26 rfl (lv_at hl 2 rfl) ?_
      refine lv_aload_n hx hb dX8_counts_27 rfl (lv_at hl 0 rfl) ?_
      refine q_get hF hK hW fl_X8_234 0 rfl rfl dX8_counts_28 ?_
      refine q_icmp_ge (tgt := 87) hx hb dX8_counts_31 (by decide) hf (fun hf => ?_) (fun hf => ?_)
      · cases hf
        have hx9 := k9 _ rfl
        subst hx9
        exact kx0 _ _ _ (lv_sub hl [1] rfl) hW
      · refine lv_iload_n hx hb dX8_counts_34 rfl (lv_at hl 1 rfl) ?_
        refine lv_aload_n hx hb dX8_counts_35 rfl (lv_at hl 0 rfl) ?_
        refine q_get hF hK hW fl_X8_51 0 rfl rfl dX8_counts_36 ?_
        refine lv_aload_n hx hb dX8_counts_39 rfl (lv_at hl 0 rfl) ?_
        refine q_get hF hK hW fl_X8_42 0 rfl rfl dX8_counts_40 ?_
        refine lv_aload_n hx hb dX8_counts_43 rfl (lv_at hl 0 rfl) ?_
        refine q_get hF hK hW fl_X8_48 0 rfl rfl dX8_counts_44 ?_
        refine lv_iload_n hx hb dX8_counts_47 rfl (lv_at hl 2 rfl) ?_
        refine q_iald hx hb hK hW 2 0 rfl rfl dX8_counts_48 hf (fun hf => ?_)
        refine q_iald hx hb hK hW 1 0 rfl rfl dX8_counts_49 hf (fun hf => ?_)
        refine q_iald hx hb hK hW 3 0 rfl rfl dX8_counts_50 hf (fun hf => ?_)
        refine q_if_ne (tgt := 58) hx hb dX8_counts_51 (by decide) hf (fun hf => ?_) (fun hf => ?_)
        · refine lv_iconst (v := 0) hx hb dX8_counts_58 (by decide) ?_
          exact hL59 s_times_26 z2_26 z1_26 0 _ _ _ hf (lv_sub hl [0, 2] rfl) hW
        · refine lv_iconst (v := 1) hx hb dX8_counts_54 (by decide) ?_
          refine lv_goto (tgt := 59) hx hb dX8_counts_55 (by decide) ?_
          exact hL59 s_times_26 z2_26 z1_26 1 _ _ _ hf (lv_sub hl [0, 2] rfl) hW
  obtain ⟨e_7, hc_7, hf⟩ := ob_bind hf
  refine hB26 lfuel e_3 0 0 e_7 _ _ _ hc_7 (lv_sub hl [1, 2, 0] rfl) hW ?_
  intro H locs ls hl hW
  refine lv_iload_n hx hb dX8_counts_87 rfl (lv_at hl 0 rfl) ?_
  cases hf
  exact hret dX8_counts_88 rfl rfl hW
def w_X8_reachableCells (E : Nat → ClassId) (h_ h_g h_kept h_past h_path h_pose h_way h_px h_py h_free h_tips h_far h_queue h_times h_turns h_names h_named h_text h_told h_spare : Nat) (s_hasKept : Int32) (s_pasts : Int32) (s_pathMoves : Int32) (s_spot : Int32) (s_thrown : Int32) (s_faulty : Int32) (s_queued : Int32) (s_length : Int32) (s_at : Int32) (s_error : Int32) (s_tolds : Int32) (s_number : Int32) (s_g : Nat → Int32) (s_pose : Nat → Int32) (s_way : Nat → Int32) (s_px : Nat → Int32) (s_py : Nat → Int32) (s_free : Nat → Int32) (s_tips : Nat → Int32) (s_far : Nat → Int32) (s_queue : Nat → Int32) (s_times : Nat → Int32) : va_W := [(h_, .inr (10, [.ref h_g, .ref h_kept, .int s_hasKept, .ref h_past, .int s_pasts, .ref h_path, .int s_pathMoves, .int s_spot, .int s_thrown, .ref h_pose, .ref h_way, .ref h_px, .ref h_py, .int s_faulty, .ref h_free, .ref h_tips, .ref h_far, .ref h_queue, .int s_queued, .ref h_times, .ref h_turns, .ref h_names, .ref h_named, .ref h_text, .int s_length, .int s_at, .int s_error, .ref h_told, .int s_tolds, .int s_number, .ref h_spare])), (h_g, .inl (E 0, 141, .inl s_g)), (h_pose, .inl (E 0, 4, .inl s_pose)), (h_way, .inl (E 0, 4, .inl s_way)), (h_px, .inl (E 0, 5, .inl s_px)), (h_py, .inl (E 0, 5, .inl s_py)), (h_free, .inl (E 1, 5000, .inl s_free)), (h_tips, .inl (E 0, 5000, .inl s_tips)), (h_far, .inl (E 0, 5000, .inl s_far)), (h_queue, .inl (E 0, 5000, .inl s_queue)), (h_times, .inl (E 0, 441, .inl s_times))]
set_option maxHeartbeats 4000000 in
set_option maxRecDepth 100000 in
theorem c_X8_reachableCells (l : Launch) (D : va_G) (E : Nat → ClassId) (tx : List (Nat × String)) (h_ h_g h_kept h_past h_path h_pose h_way h_px h_py h_free h_tips h_far h_queue h_times h_turns h_names h_named h_text h_told h_spare : Nat) (s_hasKept : Int32) (s_pasts : Int32) (s_pathMoves : Int32) (s_spot : Int32) (s_thrown : Int32) (s_faulty : Int32) (s_queued : Int32) (s_length : Int32) (s_at : Int32) (s_error : Int32) (s_tolds : Int32) (s_number : Int32) (s_g : Nat → Int32) (s_pose : Nat → Int32) (s_way : Nat → Int32) (s_px : Nat → Int32) (s_py : Nat → Int32) (s_free : Nat → Int32) (s_tips : Nat → Int32) (s_far : Nat → Int32) (s_queue : Nat → Int32) (s_times : Nat → Int32)  (r0 : Int32) (r1 : Int32) (r2 : Int32) (r3 : Int32) (r4 : Nat → Int32) (r5 : Nat → Int32) (r6 : Nat → Int32) (r7 : Nat → Int32) (r8 : Nat → Int32) (r9 : Nat → Int32) (r10 : Nat → Int32) (r11 : Nat → Int32) (r12 : Nat → Int32) (hf : f_X8_reachableCells s_thrown s_faulty s_queued s_g s_pose s_way s_px s_py s_free s_tips s_far s_queue s_times = some (r0, r1, r2, r3, r4, r5, r6, r7, r8, r9, r10, r11, r12)) : CI l yX8_reachableCells cX8_reachableCells 1 (some .int) 8 175 D E tx [.ref h_] (w_X8_reachableCells E h_ h_g h_kept h_past h_path h_pose h_way h_px h_py h_free h_tips h_far h_queue h_times h_turns h_names h_named h_text h_told h_spare s_hasKept s_pasts s_pathMoves s_spot s_thrown s_faulty s_queued s_length s_at s_error s_tolds s_number s_g s_pose s_way s_px s_py s_free s_tips s_far s_queue s_times) (w_X8_reachableCells E h_ h_g h_kept h_past h_path h_pose h_way h_px h_py h_free h_tips h_far h_queue h_times h_turns h_names h_named h_text h_told h_spare s_hasKept s_pasts s_pathMoves s_spot r1 r2 r3 s_length s_at s_error s_tolds s_number s_g r4 r5 r6 r7 r8 r9 r10 r11 r12) r0 := by
  refine CI_of RX8 pn_X8 rfl (Nat.le_of_ble_eq_true rfl) (fun p e s m args below meth c A Q hF hK hA hZ hW hret ls hl => ?_)
  have hx := hF.1
  have hb := hF.2.1
  have hl : lv_has ls 1 [(0, .ref h_)] := hl
  unfold f_X8_reachableCells at hf
  have hL13 : ∀ (s_thrown_13 : Int32) (s_faulty_13 : Int32) (s_queued_13 : Int32) (s_pose_13 : Nat → Int32) (s_way_13 : Nat → Int32) (s_px_13 : Nat → Int32) (s_py_13 : Nat → Int32) (s_free_13 : Nat → Int32) (s_tips_13 : Nat → Int32) (s_far_13 : Nat → Int32) (s_queue_13 : Nat → Int32) (s_times_13 : Nat → Int32) (k1_13 : Int32) (H : Heap) (locs : List Loc) (ls : Array Slot), f_X8_reachableCells_L13 s_thrown_13 s_faulty_13 s_queued_13 s_g s_pose_13 s_way_13 s_px_13 s_py_13 s_free_13 s_tips_13 s_far_13 s_queue_13 s_times_13 k1_13 = some (r0, r1, r2, r3, r4, r5, r6, r7, r8, r9, r10, r11, r12) → lv_has ls 1 [(0, .ref h_)] → WD D A s (w_X8_reachableCells E h_ h_g h_kept h_past h_path h_pose h_way h_px h_py h_free h_tips h_far h_queue h_times h_turns h_names h_named h_text h_told h_spare s_hasKept s_pasts s_pathMoves s_spot s_thrown_13 s_faulty_13 s_queued_13 s_length s_at s_error s_tolds s_number s_g s_pose_13 s_way_13 s_px_13 s_py_13 s_free_13 s_tips_13 s_far_13 s_queue_13 s_times_13) H locs → W p l e (RM 8 175) s m args below meth c H locs 0 0 Q (F0 m 13 ls [.int k1_13, .ref h_]) := by
    intro s_thrown_13 s_faulty_13 s_queued_13 s_pose_13 s_way_13 s_px_13 s_py_13 s_free_13 s_tips_13 s_far_13 s_queue_13 s_times_13 k1_13 H locs ls hf hl hW
    unfold f_X8_reachableCells_L13 at hf
    refine q_put hF hK hW fl_X8_76 ft_X8 rfl 0 rfl rfl rfl (Nat.le_of_ble_eq_true rfl) dX8_reachableCells_13 (fun H locs hW => ?_)
    have hW : WD D A s (w_X8_reachableCells E h_ h_g h_kept h_past h_path h_pose h_way h_px h_py h_free h_tips h_far h_queue h_times h_turns h_names h_named h_text h_told h_spare s_hasKept s_pasts s_pathMoves s_spot k1_13 s_faulty_13 s_queued_13 s_length s_at s_error s_tolds s_number s_g s_pose_13 s_way_13 s_px_13 s_py_13 s_free_13 s_tips_13 s_far_13 s_queue_13 s_times_13) H locs := hW
    refine lv_aload_n hx hb dX8_reachableCells_16 rfl (lv_at hl 0 rfl) ?_
    refine q_get hF hK hW fl_X8_76 0 rfl rfl dX8_reachableCells_17 ?_
    refine q_if_le (tgt := 25) hx hb dX8_reachableCells_20 (by decide) hf (fun hf => ?_) (fun hf => ?_)
    · refine lv_aload_n hx hb dX8_reachableCells_25 rfl (lv_at hl 0 rfl) ?_
      obtain ⟨o_1, hc_1, hf⟩ := ob_bind hf
      refine q_callV hF hl.1 hK hA hZ hW mv_X8_connects ml_X8_246 (c_X8_connects l D E tx h_ h_g h_kept h_past h_path h_pose h_way h_px h_py h_free h_tips h_far h_queue h_times h_turns h_names h_named h_text h_told h_spare s_hasKept s_pasts s_pathMoves s_spot k1_13 s_faulty_13 s_queued_13 s_length s_at s_error s_tolds s_number s_g s_pose_13 s_way_13 s_px_13 s_py_13 s_free_13 s_tips_13 s_far_13 s_queue_13 o_1.1 o_1.2.1 o_1.2.2.1 o_1.2.2.2.1 o_1.2.2.2.2.1 o_1.2.2.2.2.2.1 o_1.2.2.2.2.2.2.1 o_1.2.2.2.2.2.2.2.1 o_1.2.2.2.2.2.2.2.2.1 o_1.2.2.2.2.2.2.2.2.2 hc_1) [0, 1, 2, 3, 4, 5, 6, 7, 8, 9] rfl rfl rfl rfl rfl rfl ⟨Nat.le_of_ble_eq_true rfl, Nat.le_of_ble_eq_true rfl⟩ ⟨Nat.le_of_ble_eq_true rfl, Nat.le_of_ble_eq_true rfl⟩ rfl rfl (Nat.le_of_ble_eq_true rfl) dX8_reachableCells_26 (fun H locs hW => ?_)
      have hW : WD D A s (w_X8_reachableCells E h_ h_g h_kept h_past h_path h_pose h_way h_px h_py h_free h_tips h_far h_queue h_times h_turns h_names h_named h_text h_told h_spare s_hasKept s_pasts s_pathMoves s_spot k1_13 o_1.1 o_1.2.1 s_length s_at s_error s_tolds s_number s_g o_1.2.2.1 o_1.2.2.2.1 o_1.2.2.2.2.1 o_1.2.2.2.2.2.1 o_1.2.2.2.2.2.2.1 o_1.2.2.2.2.2.2.2.1 o_1.2.2.2.2.2.2.2.2.1 o_1.2.2.2.2.2.2.2.2.2 s_times_13) H locs := hW
      refine lv_aload_n hx hb dX8_reachableCells_29 rfl (lv_at hl 0 rfl) ?_
      obtain ⟨o_2, hc_2, hf⟩ := ob_bind hf
      refine q_callI hF hl.1 hK hA hZ hW mv_X8_counts ml_X8_249 (c_X8_counts l D E tx h_ h_g h_kept h_past h_path h_pose h_way h_px h_py h_free h_tips h_far h_queue h_times h_turns h_names h_named h_text h_told h_spare s_hasKept s_pasts s_pathMoves s_spot k1_13 o_1.1 o_1.2.1 s_length s_at s_error s_tolds s_number o_1.2.2.2.2.2.2.2.1 o_1.2.2.2.2.2.2.2.2.2 s_times_13 o_2.1 o_2.2 hc_2) [0, 7, 9, 10] rfl rfl rfl rfl rfl rfl ⟨Nat.le_of_ble_eq_true rfl, Nat.le_of_ble_eq_true rfl⟩ ⟨Nat.le_of_ble_eq_true rfl, Nat.le_of_ble_eq_true rfl⟩ rfl rfl (Nat.le_of_ble_eq_true rfl) dX8_reachableCells_30 (fun H locs hW => ?_)
      have hW : WD D A s (w_X8_reachableCells E h_ h_g h_kept h_past h_path h_pose h_way h_px h_py h_free h_tips h_far h_queue h_times h_turns h_names h_named h_text h_told h_spare s_hasKept s_pasts s_pathMoves s_spot k1_13 o_1.1 o_1.2.1 s_length s_at s_error s_tolds s_number s_g o_1.2.2.1 o_1.2.2.2.1 o_1.2.2.2.2.1 o_1.2.2.2.2.2.1 o_1.2.2.2.2.2.2.1 o_1.2.2.2.2.2.2.2.1 o_1.2.2.2.2.2.2.2.2.1 o_1.2.2.2.2.2.2.2.2.2 o_2.2) H locs := hW
      cases hf
      exact hret dX8_reachableCells_33 rfl rfl hW
    · refine lv_iconst (v := 0) hx hb dX8_reachableCells_23 (by decide) ?_
      cases hf
      exact hret dX8_reachableCells_24 rfl rfl hW
  refine lv_aload_n hx hb dX8_reachableCells_0 rfl (lv_at hl 0 rfl) ?_
  refine lv_aload_n hx hb dX8_reachableCells_1 rfl (lv_at hl 0 rfl) ?_
  obtain ⟨o_3, hc_3, hf⟩ := ob_bind hf
  refine q_callI hF hl.1 hK hA hZ hW mv_X8_isMany ml_X8_222 (c_X8_isMany l D E tx h_ h_g h_kept h_past h_path h_pose h_way h_px h_py h_free h_tips h_far h_queue h_times h_turns h_names h_named h_text h_told h_spare s_hasKept s_pasts s_pathMoves s_spot s_thrown s_faulty s_queued s_length s_at s_error s_tolds s_number s_g o_3 hc_3) [0, 1] rfl rfl rfl rfl rfl rfl ⟨Nat.le_of_ble_eq_true rfl, Nat.le_of_ble_eq_true rfl⟩ ⟨Nat.le_of_ble_eq_true rfl, Nat.le_of_ble_eq_true rfl⟩ rfl rfl (Nat.le_of_ble_eq_true rfl) dX8_reachableCells_2 (fun H locs hW => ?_)
  have hW : WD D A s (w_X8_reachableCells E h_ h_g h_kept h_past h_path h_pose h_way h_px h_py h_free h_tips h_far h_queue h_times h_turns h_names h_named h_text h_told h_spare s_hasKept s_pasts s_pathMoves s_spot s_thrown s_faulty s_queued s_length s_at s_error s_tolds s_number s_g s_pose s_way s_px s_py s_free s_tips s_far s_queue s_times) H locs := hW
  refine q_if_eq (tgt := 12) hx hb dX8_reachableCells_5 (by decide) hf (fun hf => ?_) (fun hf => ?_)
  · refine lv_iconst (v := 0) hx hb dX8_reachableCells_12 (by decide) ?_
    exact hL13 s_thrown s_faulty s_queued s_pose s_way s_px s_py s_free s_tips s_far s_queue s_times 0 _ _ _ hf (lv_sub hl [0] rfl) hW
  · refine lv_iconst (v := 1) hx hb dX8_reachableCells_8 (by decide) ?_
    refine lv_goto (tgt := 13) hx hb dX8_reachableCells_9 (by decide) ?_
    exact hL13 s_thrown s_faulty s_queued s_pose s_way s_px s_py s_free s_tips s_far s_queue s_times 1 _ _ _ hf (lv_sub hl [0] rfl) hW
def w_X8_favorite (E : Nat → ClassId) (h_ h_g h_kept h_past h_path h_pose h_way h_px h_py h_free h_tips h_far h_queue h_times h_turns h_names h_named h_text h_told h_spare : Nat) (s_hasKept : Int32) (s_pasts : Int32) (s_pathMoves : Int32) (s_spot : Int32) (s_thrown : Int32) (s_faulty : Int32) (s_queued : Int32) (s_length : Int32) (s_at : Int32) (s_error : Int32) (s_tolds : Int32) (s_number : Int32) (s_g : Nat → Int32) (s_pose : Nat → Int32) (s_way : Nat → Int32) (s_px : Nat → Int32) (s_py : Nat → Int32) (s_free : Nat → Int32) (s_tips : Nat → Int32) (s_far : Nat → Int32) (s_queue : Nat → Int32) (s_times : Nat → Int32) : va_W := [(h_, .inr (10, [.ref h_g, .ref h_kept, .int s_hasKept, .ref h_past, .int s_pasts, .ref h_path, .int s_pathMoves, .int s_spot, .int s_thrown, .ref h_pose, .ref h_way, .ref h_px, .ref h_py, .int s_faulty, .ref h_free, .ref h_tips, .ref h_far, .ref h_queue, .int s_queued, .ref h_times, .ref h_turns, .ref h_names, .ref h_named, .ref h_text, .int s_length, .int s_at, .int s_error, .ref h_told, .int s_tolds, .int s_number, .ref h_spare])), (h_g, .inl (E 0, 141, .inl s_g)), (h_pose, .inl (E 0, 4, .inl s_pose)), (h_way, .inl (E 0, 4, .inl s_way)), (h_px, .inl (E 0, 5, .inl s_px)), (h_py, .inl (E 0, 5, .inl s_py)), (h_free, .inl (E 1, 5000, .inl s_free)), (h_tips, .inl (E 0, 5000, .inl s_tips)), (h_far, .inl (E 0, 5000, .inl s_far)), (h_queue, .inl (E 0, 5000, .inl s_queue)), (h_times, .inl (E 0, 441, .inl s_times))]
set_option maxHeartbeats 4000000 in
set_option maxRecDepth 100000 in
theorem c_X8_favorite (l : Launch) (D : va_G) (E : Nat → ClassId) (tx : List (Nat × String)) (h_ h_g h_kept h_past h_path h_pose h_way h_px h_py h_free h_tips h_far h_queue h_times h_turns h_names h_named h_text h_told h_spare : Nat) (s_hasKept : Int32) (s_pasts : Int32) (s_pathMoves : Int32) (s_spot : Int32) (s_thrown : Int32) (s_faulty : Int32) (s_queued : Int32) (s_length : Int32) (s_at : Int32) (s_error : Int32) (s_tolds : Int32) (s_number : Int32) (s_g : Nat → Int32) (s_pose : Nat → Int32) (s_way : Nat → Int32) (s_px : Nat → Int32) (s_py : Nat → Int32) (s_free : Nat → Int32) (s_tips : Nat → Int32) (s_far : Nat → Int32) (s_queue : Nat → Int32) (s_times : Nat → Int32) (x1 : Int32) (r0 : Int32) (r1 : Int32) (r2 : Int32) (r3 : Int32) (r4 : Nat → Int32) (r5 : Nat → Int32) (r6 : Nat → Int32) (r7 : Nat → Int32) (r8 : Nat → Int32) (r9 : Nat → Int32) (r10 : Nat → Int32) (r11 : Nat → Int32) (r12 : Nat → Int32) (hf : f_X8_favorite s_thrown s_faulty s_queued s_g s_pose s_way s_px s_py s_free s_tips s_far s_queue s_times x1 = some (r0, r1, r2, r3, r4, r5, r6, r7, r8, r9, r10, r11, r12)) : CI l yX8_favorite cX8_favorite 4 (some .int) 8 175 D E tx [.ref h_, .int x1] (w_X8_favorite E h_ h_g h_kept h_past h_path h_pose h_way h_px h_py h_free h_tips h_far h_queue h_times h_turns h_names h_named h_text h_told h_spare s_hasKept s_pasts s_pathMoves s_spot s_thrown s_faulty s_queued s_length s_at s_error s_tolds s_number s_g s_pose s_way s_px s_py s_free s_tips s_far s_queue s_times) (w_X8_favorite E h_ h_g h_kept h_past h_path h_pose h_way h_px h_py h_free h_tips h_far h_queue h_times h_turns h_names h_named h_text h_told h_spare s_hasKept s_pasts s_pathMoves s_spot r1 r2 r3 s_length s_at s_error s_tolds s_number s_g r4 r5 r6 r7 r8 r9 r10 r11 r12) r0 := by
  refine CI_of RX8 pn_X8 rfl (Nat.le_of_ble_eq_true rfl) (fun p e s m args below meth c A Q hF hK hA hZ hW hret ls hl => ?_)
  have hx := hF.1
  have hb := hF.2.1
  have hl : lv_has ls 4 [(0, .ref h_), (1, .int x1)] := hl
  unfold f_X8_favorite at hf
  have hL13 : ∀ (s_thrown_13 : Int32) (s_faulty_13 : Int32) (s_queued_13 : Int32) (s_pose_13 : Nat → Int32) (s_way_13 : Nat → Int32) (s_px_13 : Nat → Int32) (s_py_13 : Nat → Int32) (s_free_13 : Nat → Int32) (s_tips_13 : Nat → Int32) (s_far_13 : Nat → Int32) (s_queue_13 : Nat → Int32) (s_times_13 : Nat → Int32) (y1_13 : Int32) (k1_13 : Int32) (H : Heap) (locs : List Loc) (ls : Array Slot), f_X8_favorite_L13 s_thrown_13 s_faulty_13 s_queued_13 s_g s_pose_13 s_way_13 s_px_13 s_py_13 s_free_13 s_tips_13 s_far_13 s_queue_13 s_times_13 y1_13 k1_13 = some (r0, r1, r2, r3, r4, r5, r6, r7, r8, r9, r10, r11, r12) → lv_has ls 4 [(0, .ref h_), (1, .int y1_13)] → WD D A s (w_X8_favorite E h_ h_g h_kept h_past h_path h_pose h_way h_px h_py h_free h_tips h_far h_queue h_times h_turns h_names h_named h_text h_told h_spare s_hasKept s_pasts s_pathMoves s_spot s_thrown_13 s_faulty_13 s_queued_13 s_length s_at s_error s_tolds s_number s_g s_pose_13 s_way_13 s_px_13 s_py_13 s_free_13 s_tips_13 s_far_13 s_queue_13 s_times_13) H locs → W p l e (RM 8 175) s m args below meth c H locs 0 0 Q (F0 m 13 ls [.int k1_13, .ref h_]) := by
    intro s_thrown_13 s_faulty_13 s_queued_13 s_pose_13 s_way_13 s_px_13 s_py_13 s_free_13 s_tips_13 s_far_13 s_queue_13 s_times_13 y1_13 k1_13 H locs ls hf hl hW
    unfold f_X8_favorite_L13 at hf
    refine q_put hF hK hW fl_X8_76 ft_X8 rfl 0 rfl rfl rfl (Nat.le_of_ble_eq_true rfl) dX8_favorite_13 (fun H locs hW => ?_)
    have hW : WD D A s (w_X8_favorite E h_ h_g h_kept h_past h_path h_pose h_way h_px h_py h_free h_tips h_far h_queue h_times h_turns h_names h_named h_text h_told h_spare s_hasKept s_pasts s_pathMoves s_spot k1_13 s_faulty_13 s_queued_13 s_length s_at s_error s_tolds s_number s_g s_pose_13 s_way_13 s_px_13 s_py_13 s_free_13 s_tips_13 s_far_13 s_queue_13 s_times_13) H locs := hW
    refine lv_aload_n hx hb dX8_favorite_16 rfl (lv_at hl 0 rfl) ?_
    refine q_get hF hK hW fl_X8_76 0 rfl rfl dX8_favorite_17 ?_
    refine q_if_le (tgt := 25) hx hb dX8_favorite_20 (by decide) hf (fun hf => ?_) (fun hf => ?_)
    · refine lv_aload_n hx hb dX8_favorite_25 rfl (lv_at hl 0 rfl) ?_
      obtain ⟨o_1, hc_1, hf⟩ := ob_bind hf
      refine q_callV hF hl.1 hK hA hZ hW mv_X8_connects ml_X8_246 (c_X8_connects l D E tx h_ h_g h_kept h_past h_path h_pose h_way h_px h_py h_free h_tips h_far h_queue h_times h_turns h_names h_named h_text h_told h_spare s_hasKept s_pasts s_pathMoves s_spot k1_13 s_faulty_13 s_queued_13 s_length s_at s_error s_tolds s_number s_g s_pose_13 s_way_13 s_px_13 s_py_13 s_free_13 s_tips_13 s_far_13 s_queue_13 o_1.1 o_1.2.1 o_1.2.2.1 o_1.2.2.2.1 o_1.2.2.2.2.1 o_1.2.2.2.2.2.1 o_1.2.2.2.2.2.2.1 o_1.2.2.2.2.2.2.2.1 o_1.2.2.2.2.2.2.2.2.1 o_1.2.2.2.2.2.2.2.2.2 hc_1) [0, 1, 2, 3, 4, 5, 6, 7, 8, 9] rfl rfl rfl rfl rfl rfl ⟨Nat.le_of_ble_eq_true rfl, Nat.le_of_ble_eq_true rfl⟩ ⟨Nat.le_of_ble_eq_true rfl, Nat.le_of_ble_eq_true rfl⟩ rfl rfl (Nat.le_of_ble_eq_true rfl) dX8_favorite_26 (fun H locs hW => ?_)
      have hW : WD D A s (w_X8_favorite E h_ h_g h_kept h_past h_path h_pose h_way h_px h_py h_free h_tips h_far h_queue h_times h_turns h_names h_named h_text h_told h_spare s_hasKept s_pasts s_pathMoves s_spot k1_13 o_1.1 o_1.2.1 s_length s_at s_error s_tolds s_number s_g o_1.2.2.1 o_1.2.2.2.1 o_1.2.2.2.2.1 o_1.2.2.2.2.2.1 o_1.2.2.2.2.2.2.1 o_1.2.2.2.2.2.2.2.1 o_1.2.2.2.2.2.2.2.2.1 o_1.2.2.2.2.2.2.2.2.2 s_times_13) H locs := hW
      refine lv_aload_n hx hb dX8_favorite_29 rfl (lv_at hl 0 rfl) ?_
      refine q_get hF hK hW fl_X8_234 0 rfl rfl dX8_favorite_30 ?_
      refine q_if_ne (tgt := 42) hx hb dX8_favorite_33 (by decide) hf (fun hf => ?_) (fun hf => ?_)
      · refine lv_aload_n hx hb dX8_favorite_42 rfl (lv_at hl 0 rfl) ?_
        obtain ⟨o_2, hc_2, hf⟩ := ob_bind hf
        refine q_callI hF hl.1 hK hA hZ hW mv_X8_counts ml_X8_249 (c_X8_counts l D E tx h_ h_g h_kept h_past h_path h_pose h_way h_px h_py h_free h_tips h_far h_queue h_times h_turns h_names h_named h_text h_told h_spare s_hasKept s_pasts s_pathMoves s_spot k1_13 o_1.1 o_1.2.1 s_length s_at s_error s_tolds s_number o_1.2.2.2.2.2.2.2.1 o_1.2.2.2.2.2.2.2.2.2 s_times_13 o_2.1 o_2.2 hc_2) [0, 7, 9, 10] rfl rfl rfl rfl rfl rfl ⟨Nat.le_of_ble_eq_true rfl, Nat.le_of_ble_eq_true rfl⟩ ⟨Nat.le_of_ble_eq_true rfl, Nat.le_of_ble_eq_true rfl⟩ rfl rfl (Nat.le_of_ble_eq_true rfl) dX8_favorite_43 (fun H locs hW => ?_)
        have hW : WD D A s (w_X8_favorite E h_ h_g h_kept h_past h_path h_pose h_way h_px h_py h_free h_tips h_far h_queue h_times h_turns h_names h_named h_text h_told h_spare s_hasKept s_pasts s_pathMoves s_spot k1_13 o_1.1 o_1.2.1 s_length s_at s_error s_tolds s_number s_g o_1.2.2.1 o_1.2.2.2.1 o_1.2.2.2.2.1 o_1.2.2.2.2.2.1 o_1.2.2.2.2.2.2.1 o_1.2.2.2.2.2.2.2.1 o_1.2.2.2.2.2.2.2.2.1 o_1.2.2.2.2.2.2.2.2.2 o_2.2) H locs := hW
        refine lv_pop hx hb dX8_favorite_46 rfl ?_
        refine lv_iconst (v := 0) hx hb dX8_favorite_47 (by decide) ?_
        refine lv_istore_n (lv' := [(2, .int 0), (0, .ref h_), (1, .int y1_13)]) hx hb dX8_favorite_48 rfl hl (by decide) rfl (fun ls hl => ?_)
        refine lv_iconst (v := 1) hx hb dX8_favorite_49 (by decide) ?_
        refine lv_istore_n (lv' := [(3, .int 1), (2, .int 0), (0, .ref h_), (1, .int y1_13)]) hx hb dX8_favorite_50 rfl hl (by decide) rfl (fun ls hl => ?_)
        have hB51 : ∀ (n : Nat) (z2_51 : Int32) (z3_51 : Int32) (ex : Int32) (H : Heap) (locs : List Loc) (ls : Array Slot), LPF (fun z => f_X8_favorite_B51 k1_13 o_1.1 o_1.2.1 s_g o_1.2.2.1 o_1.2.2.2.1 o_1.2.2.2.2.1 o_1.2.2.2.2.2.1 o_1.2.2.2.2.2.2.1 o_1.2.2.2.2.2.2.2.1 o_1.2.2.2.2.2.2.2.2.1 o_1.2.2.2.2.2.2.2.2.2 o_2.2 y1_13 z.1 z.2) n (z2_51, z3_51) = some ex → lv_has ls 4 [(0, .ref h_), (1, .int y1_13), (2, .int z2_51), (3, .int z3_51)] → WD D A s (w_X8_favorite E h_ h_g h_kept h_past h_path h_pose h_way h_px h_py h_free h_tips h_far h_queue h_times h_turns h_names h_named h_text h_told h_spare s_hasKept s_pasts s_pathMoves s_spot k1_13 o_1.1 o_1.2.1 s_length s_at s_error s_tolds s_number s_g o_1.2.2.1 o_1.2.2.2.1 o_1.2.2.2.2.1 o_1.2.2.2.2.2.1 o_1.2.2.2.2.2.2.1 o_1.2.2.2.2.2.2.2.1 o_1.2.2.2.2.2.2.2.2.1 o_1.2.2.2.2.2.2.2.2.2 o_2.2) H locs → (∀ (H : Heap) (locs : List Loc) (ls : Array Slot), lv_has ls 4 [(1, .int y1_13), (2, .int ex)] → WD D A s (w_X8_favorite E h_ h_g h_kept h_past h_path h_pose h_way h_px h_py h_free h_tips h_far h_queue h_times h_turns h_names h_named h_text h_told h_spare s_hasKept s_pasts s_pathMoves s_spot k1_13 o_1.1 o_1.2.1 s_length s_at s_error s_tolds s_number s_g o_1.2.2.1 o_1.2.2.2.1 o_1.2.2.2.2.1 o_1.2.2.2.2.2.1 o_1.2.2.2.2.2.2.1 o_1.2.2.2.2.2.2.2.1 o_1.2.2.2.2.2.2.2.2.1 o_1.2.2.2.2.2.2.2.2.2 o_2.2) H locs → W p l e (RM 8 175) s m args below meth c H locs 0 0 Q (F0 m 85 ls [])) → W p l e (RM 8 175) s m args below meth c H locs 0 0 Q (F0 m 51 ls []) := by
          intro n
          induction n with
          | zero => intro z2_51 z3_51 ex H locs ls h9; exact (ob_lp0 h9).elim
          | succ n ih =>
            intro z2_51 z3_51 ex H locs ls h9 hl hW kx0
            obtain ⟨q9, hf, h9, k9⟩ := ob_lp h9
            have hf : f_X8_favorite_B51 k1_13 o_1.1 o_1.2.1 s_g o_1.2.2.1 o_1.2.2.2.1 o_1.2.2.2.2.1 o_1.2.2.2.2.2.1 o_1.2.2.2.2.2.2.1 o_1.2.2.2.2.2.2.2.1 o_1.2.2.2.2.2.2.2.2.1 o_1.2.2.2.2.2.2.2.2.2 o_2.2 y1_13 z2_51 z3_51 = some q9 := hf
            unfold f_X8_favorite_B51 at hf
            refine lv_iload_n hx hb dX8_favorite_51 rfl (lv_at hl 3 rfl) ?_
            refine lv_sipush (v := 441) hx hb dX8_favorite_52 (by decide) ?_
            refine q_icmp_ge (tgt := 85) hx hb dX8_favorite_55 (by decide) hf (fun hf => ?_) (fun hf => ?_)
            · cases hf
              have hx9 := k9 _ rfl
              subst hx9
              exact kx0 _ _ _ (lv_sub hl [1, 2] rfl) hW
            · refine lv_aload_n hx hb dX8_favorite_58 rfl (lv_at hl 0 rfl) ?_
              refine q_get hF hK hW fl_X8_51 0 rfl rfl dX8_favorite_59 ?_
              refine lv_iload_n hx hb dX8_favorite_62 rfl (lv_at hl 3 rfl) ?_
              refine q_iald hx hb hK hW 10 0 rfl rfl dX8_favorite_63 hf (fun hf => ?_)
              refine lv_aload_n hx hb dX8_favorite_64 rfl (lv_at hl 0 rfl) ?_
              refine q_get hF hK hW fl_X8_51 0 rfl rfl dX8_favorite_65 ?_
              refine lv_iload_n hx hb dX8_favorite_68 rfl (lv_at hl 2 rfl) ?_
              refine q_iald hx hb hK hW 10 0 rfl rfl dX8_favorite_69 hf (fun hf => ?_)
              refine q_icmp_le (tgt := 77) hx hb dX8_favorite_70 (by decide) hf (fun hf => ?_) (fun hf => ?_)
              · refine lv_iload_n hx hb dX8_favorite_77 rfl (lv_at hl 2 rfl) ?_
                refine lv_istore_n (lv' := [(2, .int z2_51), (0, .ref h_), (1, .int y1_13), (3, .int z3_51)]) hx hb dX8_favorite_78 rfl hl (by decide) rfl (fun ls hl => ?_)
                obtain ⟨v_3, ev_3⟩ : ∃ y : Int32, y = z3_51 + 1 := ⟨_, rfl⟩
                replace hf := ob_let hf ev_3
                refine lv_iinc (v := v_3) (lv' := [(3, .int v_3), (2, .int z2_51), (0, .ref h_), (1, .int y1_13)]) hx hb dX8_favorite_79 hl (k := 3) rfl (by rw [ev_3]; rfl) (by decide) rfl (fun ls hl => ?_)
                refine lv_goto (tgt := 51) hx hb dX8_favorite_82 (by decide) ?_
                cases hf
                exact ih z2_51 v_3 ex _ _ _ (h9 _ rfl) (lv_sub hl [2, 3, 1, 0] rfl) hW kx0
              · refine lv_iload_n hx hb dX8_favorite_73 rfl (lv_at hl 3 rfl) ?_
                refine lv_goto (tgt := 78) hx hb dX8_favorite_74 (by decide) ?_
                refine lv_istore_n (lv' := [(2, .int z3_51), (0, .ref h_), (1, .int y1_13), (3, .int z3_51)]) hx hb dX8_favorite_78 rfl hl (by decide) rfl (fun ls hl => ?_)
                obtain ⟨v_4, ev_4⟩ : ∃ y : Int32, y = z3_51 + 1 := ⟨_, rfl⟩
                replace hf := ob_let hf ev_4
                refine lv_iinc (v := v_4) (lv' := [(3, .int v_4), (2, .int z3_51), (0, .ref h_), (1, .int y1_13)]) hx hb dX8_favorite_79 hl (k := 3) rfl (by rw [ev_4]; rfl) (by decide) rfl (fun ls hl => ?_)
                refine lv_goto (tgt := 51) hx hb dX8_favorite_82 (by decide) ?_
                cases hf
                exact ih z3_51 v_4 ex _ _ _ (h9 _ rfl) (lv_sub hl [2, 3, 1, 0] rfl) hW kx0
        obtain ⟨e_5, hc_5, hf⟩ := ob_bind hf
        refine hB51 lfuel 0 1 e_5 _ _ _ hc_5 (lv_sub hl [2, 3, 1, 0] rfl) hW ?_
        intro H locs ls hl hW
        refine lv_iload_n hx hb dX8_favorite_85 rfl (lv_at hl 0 rfl) ?_
        refine q_if_eq (tgt := 96) hx hb dX8_favorite_86 (by decide) hf (fun hf => ?_) (fun hf => ?_)
        · refine lv_iload_n hx hb dX8_favorite_96 rfl (lv_at hl 1 rfl) ?_
          refine lv_bipush (v := 21) hx hb dX8_favorite_97 (by decide) ?_
          refine lv_idiv hx hb dX8_favorite_99 (by decide) ?_
          refine lv_bipush (v := 10) hx hb dX8_favorite_100 (by decide) ?_
          refine lv_isub hx hb dX8_favorite_102 ?_
          cases hf
          exact hret dX8_favorite_103 rfl rfl hW
        · refine lv_iload_n hx hb dX8_favorite_89 rfl (lv_at hl 1 rfl) ?_
          refine lv_bipush (v := 21) hx hb dX8_favorite_90 (by decide) ?_
          refine lv_irem hx hb dX8_favorite_92 (by decide) ?_
          refine lv_goto (tgt := 100) hx hb dX8_favorite_93 (by decide) ?_
          refine lv_bipush (v := 10) hx hb dX8_favorite_100 (by decide) ?_
          refine lv_isub hx hb dX8_favorite_102 ?_
          cases hf
          exact hret dX8_favorite_103 rfl rfl hW
      · refine lv_aload_n hx hb dX8_favorite_36 rfl (lv_at hl 0 rfl) ?_
        refine lv_iconst (v := 2) hx hb dX8_favorite_37 (by decide) ?_
        obtain ⟨o_6, hc_6, hf⟩ := ob_bind hf
        refine q_callI hF hl.1 hK hA hZ hW mv_X8_fails ml_X8_86 (c_X8_fails l D E tx h_ h_g h_kept h_past h_path h_pose h_way h_px h_py h_free h_tips h_far h_queue h_times h_turns h_names h_named h_text h_told h_spare s_hasKept s_pasts s_pathMoves s_spot k1_13 o_1.1 o_1.2.1 s_length s_at s_error s_tolds s_number 2 o_6.1 o_6.2 hc_6) [0] rfl rfl rfl rfl rfl rfl ⟨Nat.le_of_ble_eq_true rfl, Nat.le_of_ble_eq_true rfl⟩ ⟨Nat.le_of_ble_eq_true rfl, Nat.le_of_ble_eq_true rfl⟩ rfl rfl (Nat.le_of_ble_eq_true rfl) dX8_favorite_38 (fun H locs hW => ?_)
        have hW : WD D A s (w_X8_favorite E h_ h_g h_kept h_past h_path h_pose h_way h_px h_py h_free h_tips h_far h_queue h_times h_turns h_names h_named h_text h_told h_spare s_hasKept s_pasts s_pathMoves s_spot o_6.2 o_1.1 o_1.2.1 s_length s_at s_error s_tolds s_number s_g o_1.2.2.1 o_1.2.2.2.1 o_1.2.2.2.2.1 o_1.2.2.2.2.2.1 o_1.2.2.2.2.2.2.1 o_1.2.2.2.2.2.2.2.1 o_1.2.2.2.2.2.2.2.2.1 o_1.2.2.2.2.2.2.2.2.2 s_times_13) H locs := hW
        cases hf
        exact hret dX8_favorite_41 rfl rfl hW
    · refine lv_iconst (v := 0) hx hb dX8_favorite_23 (by decide) ?_
      cases hf
      exact hret dX8_favorite_24 rfl rfl hW
  refine lv_aload_n hx hb dX8_favorite_0 rfl (lv_at hl 0 rfl) ?_
  refine lv_aload_n hx hb dX8_favorite_1 rfl (lv_at hl 0 rfl) ?_
  obtain ⟨o_7, hc_7, hf⟩ := ob_bind hf
  refine q_callI hF hl.1 hK hA hZ hW mv_X8_isMany ml_X8_222 (c_X8_isMany l D E tx h_ h_g h_kept h_past h_path h_pose h_way h_px h_py h_free h_tips h_far h_queue h_times h_turns h_names h_named h_text h_told h_spare s_hasKept s_pasts s_pathMoves s_spot s_thrown s_faulty s_queued s_length s_at s_error s_tolds s_number s_g o_7 hc_7) [0, 1] rfl rfl rfl rfl rfl rfl ⟨Nat.le_of_ble_eq_true rfl, Nat.le_of_ble_eq_true rfl⟩ ⟨Nat.le_of_ble_eq_true rfl, Nat.le_of_ble_eq_true rfl⟩ rfl rfl (Nat.le_of_ble_eq_true rfl) dX8_favorite_2 (fun H locs hW => ?_)
  have hW : WD D A s (w_X8_favorite E h_ h_g h_kept h_past h_path h_pose h_way h_px h_py h_free h_tips h_far h_queue h_times h_turns h_names h_named h_text h_told h_spare s_hasKept s_pasts s_pathMoves s_spot s_thrown s_faulty s_queued s_length s_at s_error s_tolds s_number s_g s_pose s_way s_px s_py s_free s_tips s_far s_queue s_times) H locs := hW
  refine q_if_eq (tgt := 12) hx hb dX8_favorite_5 (by decide) hf (fun hf => ?_) (fun hf => ?_)
  · refine lv_iconst (v := 0) hx hb dX8_favorite_12 (by decide) ?_
    exact hL13 s_thrown s_faulty s_queued s_pose s_way s_px s_py s_free s_tips s_far s_queue s_times x1 0 _ _ _ hf (lv_sub hl [0, 1] rfl) hW
  · refine lv_iconst (v := 1) hx hb dX8_favorite_8 (by decide) ?_
    refine lv_goto (tgt := 13) hx hb dX8_favorite_9 (by decide) ?_
    exact hL13 s_thrown s_faulty s_queued s_pose s_way s_px s_py s_free s_tips s_far s_queue s_times x1 1 _ _ _ hf (lv_sub hl [0, 1] rfl) hW
def w_X8_farthest (E : Nat → ClassId) (h_ h_g h_kept h_past h_path h_pose h_way h_px h_py h_free h_tips h_far h_queue h_times h_turns h_names h_named h_text h_told h_spare : Nat) (s_hasKept : Int32) (s_pasts : Int32) (s_pathMoves : Int32) (s_spot : Int32) (s_thrown : Int32) (s_faulty : Int32) (s_queued : Int32) (s_length : Int32) (s_at : Int32) (s_error : Int32) (s_tolds : Int32) (s_number : Int32) (s_g : Nat → Int32) (s_pose : Nat → Int32) (s_way : Nat → Int32) (s_px : Nat → Int32) (s_py : Nat → Int32) (s_free : Nat → Int32) (s_tips : Nat → Int32) (s_far : Nat → Int32) (s_queue : Nat → Int32) : va_W := [(h_, .inr (10, [.ref h_g, .ref h_kept, .int s_hasKept, .ref h_past, .int s_pasts, .ref h_path, .int s_pathMoves, .int s_spot, .int s_thrown, .ref h_pose, .ref h_way, .ref h_px, .ref h_py, .int s_faulty, .ref h_free, .ref h_tips, .ref h_far, .ref h_queue, .int s_queued, .ref h_times, .ref h_turns, .ref h_names, .ref h_named, .ref h_text, .int s_length, .int s_at, .int s_error, .ref h_told, .int s_tolds, .int s_number, .ref h_spare])), (h_g, .inl (E 0, 141, .inl s_g)), (h_pose, .inl (E 0, 4, .inl s_pose)), (h_way, .inl (E 0, 4, .inl s_way)), (h_px, .inl (E 0, 5, .inl s_px)), (h_py, .inl (E 0, 5, .inl s_py)), (h_free, .inl (E 1, 5000, .inl s_free)), (h_tips, .inl (E 0, 5000, .inl s_tips)), (h_far, .inl (E 0, 5000, .inl s_far)), (h_queue, .inl (E 0, 5000, .inl s_queue))]
set_option maxHeartbeats 4000000 in
set_option maxRecDepth 100000 in
theorem c_X8_farthest (l : Launch) (D : va_G) (E : Nat → ClassId) (tx : List (Nat × String)) (h_ h_g h_kept h_past h_path h_pose h_way h_px h_py h_free h_tips h_far h_queue h_times h_turns h_names h_named h_text h_told h_spare : Nat) (s_hasKept : Int32) (s_pasts : Int32) (s_pathMoves : Int32) (s_spot : Int32) (s_thrown : Int32) (s_faulty : Int32) (s_queued : Int32) (s_length : Int32) (s_at : Int32) (s_error : Int32) (s_tolds : Int32) (s_number : Int32) (s_g : Nat → Int32) (s_pose : Nat → Int32) (s_way : Nat → Int32) (s_px : Nat → Int32) (s_py : Nat → Int32) (s_free : Nat → Int32) (s_tips : Nat → Int32) (s_far : Nat → Int32) (s_queue : Nat → Int32)  (r0 : Int32) (r1 : Int32) (r2 : Int32) (r3 : Int32) (r4 : Nat → Int32) (r5 : Nat → Int32) (r6 : Nat → Int32) (r7 : Nat → Int32) (r8 : Nat → Int32) (r9 : Nat → Int32) (r10 : Nat → Int32) (r11 : Nat → Int32) (hf : f_X8_farthest s_thrown s_faulty s_queued s_g s_pose s_way s_px s_py s_free s_tips s_far s_queue = some (r0, r1, r2, r3, r4, r5, r6, r7, r8, r9, r10, r11)) : CI l yX8_farthest cX8_farthest 1 (some .int) 8 175 D E tx [.ref h_] (w_X8_farthest E h_ h_g h_kept h_past h_path h_pose h_way h_px h_py h_free h_tips h_far h_queue h_times h_turns h_names h_named h_text h_told h_spare s_hasKept s_pasts s_pathMoves s_spot s_thrown s_faulty s_queued s_length s_at s_error s_tolds s_number s_g s_pose s_way s_px s_py s_free s_tips s_far s_queue) (w_X8_farthest E h_ h_g h_kept h_past h_path h_pose h_way h_px h_py h_free h_tips h_far h_queue h_times h_turns h_names h_named h_text h_told h_spare s_hasKept s_pasts s_pathMoves s_spot r1 r2 r3 s_length s_at s_error s_tolds s_number s_g r4 r5 r6 r7 r8 r9 r10 r11) r0 := by
  refine CI_of RX8 pn_X8 rfl (Nat.le_of_ble_eq_true rfl) (fun p e s m args below meth c A Q hF hK hA hZ hW hret ls hl => ?_)
  have hx := hF.1
  have hb := hF.2.1
  have hl : lv_has ls 1 [(0, .ref h_)] := hl
  unfold f_X8_farthest at hf
  have hL13 : ∀ (s_thrown_13 : Int32) (s_faulty_13 : Int32) (s_queued_13 : Int32) (s_pose_13 : Nat → Int32) (s_way_13 : Nat → Int32) (s_px_13 : Nat → Int32) (s_py_13 : Nat → Int32) (s_free_13 : Nat → Int32) (s_tips_13 : Nat → Int32) (s_far_13 : Nat → Int32) (s_queue_13 : Nat → Int32) (k1_13 : Int32) (H : Heap) (locs : List Loc) (ls : Array Slot), f_X8_farthest_L13 s_thrown_13 s_faulty_13 s_queued_13 s_g s_pose_13 s_way_13 s_px_13 s_py_13 s_free_13 s_tips_13 s_far_13 s_queue_13 k1_13 = some (r0, r1, r2, r3, r4, r5, r6, r7, r8, r9, r10, r11) → lv_has ls 1 [(0, .ref h_)] → WD D A s (w_X8_farthest E h_ h_g h_kept h_past h_path h_pose h_way h_px h_py h_free h_tips h_far h_queue h_times h_turns h_names h_named h_text h_told h_spare s_hasKept s_pasts s_pathMoves s_spot s_thrown_13 s_faulty_13 s_queued_13 s_length s_at s_error s_tolds s_number s_g s_pose_13 s_way_13 s_px_13 s_py_13 s_free_13 s_tips_13 s_far_13 s_queue_13) H locs → W p l e (RM 8 175) s m args below meth c H locs 0 0 Q (F0 m 13 ls [.int k1_13, .ref h_]) := by
    intro s_thrown_13 s_faulty_13 s_queued_13 s_pose_13 s_way_13 s_px_13 s_py_13 s_free_13 s_tips_13 s_far_13 s_queue_13 k1_13 H locs ls hf hl hW
    unfold f_X8_farthest_L13 at hf
    refine q_put hF hK hW fl_X8_76 ft_X8 rfl 0 rfl rfl rfl (Nat.le_of_ble_eq_true rfl) dX8_farthest_13 (fun H locs hW => ?_)
    have hW : WD D A s (w_X8_farthest E h_ h_g h_kept h_past h_path h_pose h_way h_px h_py h_free h_tips h_far h_queue h_times h_turns h_names h_named h_text h_told h_spare s_hasKept s_pasts s_pathMoves s_spot k1_13 s_faulty_13 s_queued_13 s_length s_at s_error s_tolds s_number s_g s_pose_13 s_way_13 s_px_13 s_py_13 s_free_13 s_tips_13 s_far_13 s_queue_13) H locs := hW
    refine lv_aload_n hx hb dX8_farthest_16 rfl (lv_at hl 0 rfl) ?_
    refine q_get hF hK hW fl_X8_76 0 rfl rfl dX8_farthest_17 ?_
    refine q_if_le (tgt := 25) hx hb dX8_farthest_20 (by decide) hf (fun hf => ?_) (fun hf => ?_)
    · refine lv_aload_n hx hb dX8_farthest_25 rfl (lv_at hl 0 rfl) ?_
      obtain ⟨o_1, hc_1, hf⟩ := ob_bind hf
      refine q_callV hF hl.1 hK hA hZ hW mv_X8_connects ml_X8_246 (c_X8_connects l D E tx h_ h_g h_kept h_past h_path h_pose h_way h_px h_py h_free h_tips h_far h_queue h_times h_turns h_names h_named h_text h_told h_spare s_hasKept s_pasts s_pathMoves s_spot k1_13 s_faulty_13 s_queued_13 s_length s_at s_error s_tolds s_number s_g s_pose_13 s_way_13 s_px_13 s_py_13 s_free_13 s_tips_13 s_far_13 s_queue_13 o_1.1 o_1.2.1 o_1.2.2.1 o_1.2.2.2.1 o_1.2.2.2.2.1 o_1.2.2.2.2.2.1 o_1.2.2.2.2.2.2.1 o_1.2.2.2.2.2.2.2.1 o_1.2.2.2.2.2.2.2.2.1 o_1.2.2.2.2.2.2.2.2.2 hc_1) [0, 1, 2, 3, 4, 5, 6, 7, 8, 9] rfl rfl rfl rfl rfl rfl ⟨Nat.le_of_ble_eq_true rfl, Nat.le_of_ble_eq_true rfl⟩ ⟨Nat.le_of_ble_eq_true rfl, Nat.le_of_ble_eq_true rfl⟩ rfl rfl (Nat.le_of_ble_eq_true rfl) dX8_farthest_26 (fun H locs hW => ?_)
      have hW : WD D A s (w_X8_farthest E h_ h_g h_kept h_past h_path h_pose h_way h_px h_py h_free h_tips h_far h_queue h_times h_turns h_names h_named h_text h_told h_spare s_hasKept s_pasts s_pathMoves s_spot k1_13 o_1.1 o_1.2.1 s_length s_at s_error s_tolds s_number s_g o_1.2.2.1 o_1.2.2.2.1 o_1.2.2.2.2.1 o_1.2.2.2.2.2.1 o_1.2.2.2.2.2.2.1 o_1.2.2.2.2.2.2.2.1 o_1.2.2.2.2.2.2.2.2.1 o_1.2.2.2.2.2.2.2.2.2) H locs := hW
      refine lv_aload_n hx hb dX8_farthest_29 rfl (lv_at hl 0 rfl) ?_
      refine q_get hF hK hW fl_X8_234 0 rfl rfl dX8_farthest_30 ?_
      refine q_if_ne (tgt := 44) hx hb dX8_farthest_33 (by decide) hf (fun hf => ?_) (fun hf => ?_)
      · refine lv_aload_n hx hb dX8_farthest_44 rfl (lv_at hl 0 rfl) ?_
        refine q_get hF hK hW fl_X8_45 0 rfl rfl dX8_farthest_45 ?_
        refine lv_aload_n hx hb dX8_farthest_48 rfl (lv_at hl 0 rfl) ?_
        refine q_get hF hK hW fl_X8_48 0 rfl rfl dX8_farthest_49 ?_
        refine lv_aload_n hx hb dX8_farthest_52 rfl (lv_at hl 0 rfl) ?_
        refine q_get hF hK hW fl_X8_234 0 rfl rfl dX8_farthest_53 ?_
        refine lv_iconst (v := 1) hx hb dX8_farthest_56 (by decide) ?_
        refine lv_isub hx hb dX8_farthest_57 ?_
        refine q_iald hx hb hK hW 9 0 rfl rfl dX8_farthest_58 hf (fun hf => ?_)
        refine q_iald hx hb hK hW 8 0 rfl rfl dX8_farthest_59 hf (fun hf => ?_)
        cases hf
        exact hret dX8_farthest_60 rfl rfl hW
      · refine lv_aload_n hx hb dX8_farthest_36 rfl (lv_at hl 0 rfl) ?_
        refine lv_iconst (v := 2) hx hb dX8_farthest_37 (by decide) ?_
        obtain ⟨o_2, hc_2, hf⟩ := ob_bind hf
        refine q_callI hF hl.1 hK hA hZ hW mv_X8_fails ml_X8_86 (c_X8_fails l D E tx h_ h_g h_kept h_past h_path h_pose h_way h_px h_py h_free h_tips h_far h_queue h_times h_turns h_names h_named h_text h_told h_spare s_hasKept s_pasts s_pathMoves s_spot k1_13 o_1.1 o_1.2.1 s_length s_at s_error s_tolds s_number 2 o_2.1 o_2.2 hc_2) [0] rfl rfl rfl rfl rfl rfl ⟨Nat.le_of_ble_eq_true rfl, Nat.le_of_ble_eq_true rfl⟩ ⟨Nat.le_of_ble_eq_true rfl, Nat.le_of_ble_eq_true rfl⟩ rfl rfl (Nat.le_of_ble_eq_true rfl) dX8_farthest_38 (fun H locs hW => ?_)
        have hW : WD D A s (w_X8_farthest E h_ h_g h_kept h_past h_path h_pose h_way h_px h_py h_free h_tips h_far h_queue h_times h_turns h_names h_named h_text h_told h_spare s_hasKept s_pasts s_pathMoves s_spot o_2.2 o_1.1 o_1.2.1 s_length s_at s_error s_tolds s_number s_g o_1.2.2.1 o_1.2.2.2.1 o_1.2.2.2.2.1 o_1.2.2.2.2.2.1 o_1.2.2.2.2.2.2.1 o_1.2.2.2.2.2.2.2.1 o_1.2.2.2.2.2.2.2.2.1 o_1.2.2.2.2.2.2.2.2.2) H locs := hW
        refine lv_goto (tgt := 60) hx hb dX8_farthest_41 (by decide) ?_
        cases hf
        exact hret dX8_farthest_60 rfl rfl hW
    · refine lv_iconst (v := 0) hx hb dX8_farthest_23 (by decide) ?_
      cases hf
      exact hret dX8_farthest_24 rfl rfl hW
  refine lv_aload_n hx hb dX8_farthest_0 rfl (lv_at hl 0 rfl) ?_
  refine lv_aload_n hx hb dX8_farthest_1 rfl (lv_at hl 0 rfl) ?_
  obtain ⟨o_3, hc_3, hf⟩ := ob_bind hf
  refine q_callI hF hl.1 hK hA hZ hW mv_X8_isMany ml_X8_222 (c_X8_isMany l D E tx h_ h_g h_kept h_past h_path h_pose h_way h_px h_py h_free h_tips h_far h_queue h_times h_turns h_names h_named h_text h_told h_spare s_hasKept s_pasts s_pathMoves s_spot s_thrown s_faulty s_queued s_length s_at s_error s_tolds s_number s_g o_3 hc_3) [0, 1] rfl rfl rfl rfl rfl rfl ⟨Nat.le_of_ble_eq_true rfl, Nat.le_of_ble_eq_true rfl⟩ ⟨Nat.le_of_ble_eq_true rfl, Nat.le_of_ble_eq_true rfl⟩ rfl rfl (Nat.le_of_ble_eq_true rfl) dX8_farthest_2 (fun H locs hW => ?_)
  have hW : WD D A s (w_X8_farthest E h_ h_g h_kept h_past h_path h_pose h_way h_px h_py h_free h_tips h_far h_queue h_times h_turns h_names h_named h_text h_told h_spare s_hasKept s_pasts s_pathMoves s_spot s_thrown s_faulty s_queued s_length s_at s_error s_tolds s_number s_g s_pose s_way s_px s_py s_free s_tips s_far s_queue) H locs := hW
  refine q_if_eq (tgt := 12) hx hb dX8_farthest_5 (by decide) hf (fun hf => ?_) (fun hf => ?_)
  · refine lv_iconst (v := 0) hx hb dX8_farthest_12 (by decide) ?_
    exact hL13 s_thrown s_faulty s_queued s_pose s_way s_px s_py s_free s_tips s_far s_queue 0 _ _ _ hf (lv_sub hl [0] rfl) hW
  · refine lv_iconst (v := 1) hx hb dX8_farthest_8 (by decide) ?_
    refine lv_goto (tgt := 13) hx hb dX8_farthest_9 (by decide) ?_
    exact hL13 s_thrown s_faulty s_queued s_pose s_way s_px s_py s_free s_tips s_far s_queue 1 _ _ _ hf (lv_sub hl [0] rfl) hW
def w_X8_groups (E : Nat → ClassId) (h_ h_g h_kept h_past h_path h_pose h_way h_px h_py h_free h_tips h_far h_queue h_times h_turns h_names h_named h_text h_told h_spare : Nat) (s_hasKept : Int32) (s_pasts : Int32) (s_pathMoves : Int32) (s_spot : Int32) (s_thrown : Int32) (s_faulty : Int32) (s_queued : Int32) (s_length : Int32) (s_at : Int32) (s_error : Int32) (s_tolds : Int32) (s_number : Int32) (s_g : Nat → Int32) (s_pose : Nat → Int32) (s_way : Nat → Int32) (s_px : Nat → Int32) (s_py : Nat → Int32) (s_free : Nat → Int32) (s_tips : Nat → Int32) (s_far : Nat → Int32) (s_queue : Nat → Int32) : va_W := [(h_, .inr (10, [.ref h_g, .ref h_kept, .int s_hasKept, .ref h_past, .int s_pasts, .ref h_path, .int s_pathMoves, .int s_spot, .int s_thrown, .ref h_pose, .ref h_way, .ref h_px, .ref h_py, .int s_faulty, .ref h_free, .ref h_tips, .ref h_far, .ref h_queue, .int s_queued, .ref h_times, .ref h_turns, .ref h_names, .ref h_named, .ref h_text, .int s_length, .int s_at, .int s_error, .ref h_told, .int s_tolds, .int s_number, .ref h_spare])), (h_g, .inl (E 0, 141, .inl s_g)), (h_pose, .inl (E 0, 4, .inl s_pose)), (h_way, .inl (E 0, 4, .inl s_way)), (h_px, .inl (E 0, 5, .inl s_px)), (h_py, .inl (E 0, 5, .inl s_py)), (h_free, .inl (E 1, 5000, .inl s_free)), (h_tips, .inl (E 0, 5000, .inl s_tips)), (h_far, .inl (E 0, 5000, .inl s_far)), (h_queue, .inl (E 0, 5000, .inl s_queue))]
set_option maxHeartbeats 4000000 in
set_option maxRecDepth 100000 in
theorem c_X8_groups (l : Launch) (D : va_G) (E : Nat → ClassId) (tx : List (Nat × String)) (h_ h_g h_kept h_past h_path h_pose h_way h_px h_py h_free h_tips h_far h_queue h_times h_turns h_names h_named h_text h_told h_spare : Nat) (s_hasKept : Int32) (s_pasts : Int32) (s_pathMoves : Int32) (s_spot : Int32) (s_thrown : Int32) (s_faulty : Int32) (s_queued : Int32) (s_length : Int32) (s_at : Int32) (s_error : Int32) (s_tolds : Int32) (s_number : Int32) (s_g : Nat → Int32) (s_pose : Nat → Int32) (s_way : Nat → Int32) (s_px : Nat → Int32) (s_py : Nat → Int32) (s_free : Nat → Int32) (s_tips : Nat → Int32) (s_far : Nat → Int32) (s_queue : Nat → Int32)  (r0 : Int32) (r1 : Int32) (r2 : Int32) (r3 : Int32) (r4 : Nat → Int32) (r5 : Nat → Int32) (r6 : Nat → Int32) (r7 : Nat → Int32) (r8 : Nat → Int32) (r9 : Nat → Int32) (r10 : Nat → Int32) (r11 : Nat → Int32) (hf : f_X8_groups s_thrown s_faulty s_queued s_g s_pose s_way s_px s_py s_free s_tips s_far s_queue = some (r0, r1, r2, r3, r4, r5, r6, r7, r8, r9, r10, r11)) : CI l yX8_groups cX8_groups 4 (some .int) 7 155 D E tx [.ref h_] (w_X8_groups E h_ h_g h_kept h_past h_path h_pose h_way h_px h_py h_free h_tips h_far h_queue h_times h_turns h_names h_named h_text h_told h_spare s_hasKept s_pasts s_pathMoves s_spot s_thrown s_faulty s_queued s_length s_at s_error s_tolds s_number s_g s_pose s_way s_px s_py s_free s_tips s_far s_queue) (w_X8_groups E h_ h_g h_kept h_past h_path h_pose h_way h_px h_py h_free h_tips h_far h_queue h_times h_turns h_names h_named h_text h_told h_spare s_hasKept s_pasts s_pathMoves s_spot r1 r2 r3 s_length s_at s_error s_tolds s_number s_g r4 r5 r6 r7 r8 r9 r10 r11) r0 := by
  refine CI_of RX8 pn_X8 rfl (Nat.le_of_ble_eq_true rfl) (fun p e s m args below meth c A Q hF hK hA hZ hW hret ls hl => ?_)
  have hx := hF.1
  have hb := hF.2.1
  have hl : lv_has ls 4 [(0, .ref h_)] := hl
  unfold f_X8_groups at hf
  have hL13 : ∀ (s_thrown_13 : Int32) (s_faulty_13 : Int32) (s_queued_13 : Int32) (s_pose_13 : Nat → Int32) (s_way_13 : Nat → Int32) (s_px_13 : Nat → Int32) (s_py_13 : Nat → Int32) (s_free_13 : Nat → Int32) (s_tips_13 : Nat → Int32) (s_far_13 : Nat → Int32) (s_queue_13 : Nat → Int32) (k1_13 : Int32) (H : Heap) (locs : List Loc) (ls : Array Slot), f_X8_groups_L13 s_thrown_13 s_faulty_13 s_queued_13 s_g s_pose_13 s_way_13 s_px_13 s_py_13 s_free_13 s_tips_13 s_far_13 s_queue_13 k1_13 = some (r0, r1, r2, r3, r4, r5, r6, r7, r8, r9, r10, r11) → lv_has ls 4 [(0, .ref h_)] → WD D A s (w_X8_groups E h_ h_g h_kept h_past h_path h_pose h_way h_px h_py h_free h_tips h_far h_queue h_times h_turns h_names h_named h_text h_told h_spare s_hasKept s_pasts s_pathMoves s_spot s_thrown_13 s_faulty_13 s_queued_13 s_length s_at s_error s_tolds s_number s_g s_pose_13 s_way_13 s_px_13 s_py_13 s_free_13 s_tips_13 s_far_13 s_queue_13) H locs → W p l e (RM 7 155) s m args below meth c H locs 0 0 Q (F0 m 13 ls [.int k1_13, .ref h_]) := by
    intro s_thrown_13 s_faulty_13 s_queued_13 s_pose_13 s_way_13 s_px_13 s_py_13 s_free_13 s_tips_13 s_far_13 s_queue_13 k1_13 H locs ls hf hl hW
    unfold f_X8_groups_L13 at hf
    refine q_put hF hK hW fl_X8_76 ft_X8 rfl 0 rfl rfl rfl (Nat.le_of_ble_eq_true rfl) dX8_groups_13 (fun H locs hW => ?_)
    have hW : WD D A s (w_X8_groups E h_ h_g h_kept h_past h_path h_pose h_way h_px h_py h_free h_tips h_far h_queue h_times h_turns h_names h_named h_text h_told h_spare s_hasKept s_pasts s_pathMoves s_spot k1_13 s_faulty_13 s_queued_13 s_length s_at s_error s_tolds s_number s_g s_pose_13 s_way_13 s_px_13 s_py_13 s_free_13 s_tips_13 s_far_13 s_queue_13) H locs := hW
    refine lv_aload_n hx hb dX8_groups_16 rfl (lv_at hl 0 rfl) ?_
    refine q_get hF hK hW fl_X8_76 0 rfl rfl dX8_groups_17 ?_
    refine q_if_le (tgt := 25) hx hb dX8_groups_20 (by decide) hf (fun hf => ?_) (fun hf => ?_)
    · refine lv_aload_n hx hb dX8_groups_25 rfl (lv_at hl 0 rfl) ?_
      obtain ⟨o_1, hc_1, hf⟩ := ob_bind hf
      refine q_callV hF hl.1 hK hA hZ hW mv_X8_laysAll ml_X8_228 (c_X8_laysAll l D E tx h_ h_g h_kept h_past h_path h_pose h_way h_px h_py h_free h_tips h_far h_queue h_times h_turns h_names h_named h_text h_told h_spare s_hasKept s_pasts s_pathMoves s_spot k1_13 s_faulty_13 s_queued_13 s_length s_at s_error s_tolds s_number s_g s_pose_13 s_way_13 s_px_13 s_py_13 s_free_13 s_tips_13 o_1.1 o_1.2.1 o_1.2.2.1 o_1.2.2.2.1 o_1.2.2.2.2.1 o_1.2.2.2.2.2.1 o_1.2.2.2.2.2.2 hc_1) [0, 1, 2, 3, 4, 5, 6, 7] rfl rfl rfl rfl rfl rfl ⟨Nat.le_of_ble_eq_true rfl, Nat.le_of_ble_eq_true rfl⟩ ⟨Nat.le_of_ble_eq_true rfl, Nat.le_of_ble_eq_true rfl⟩ rfl rfl (Nat.le_of_ble_eq_true rfl) dX8_groups_26 (fun H locs hW => ?_)
      have hW : WD D A s (w_X8_groups E h_ h_g h_kept h_past h_path h_pose h_way h_px h_py h_free h_tips h_far h_queue h_times h_turns h_names h_named h_text h_told h_spare s_hasKept s_pasts s_pathMoves s_spot k1_13 o_1.1 s_queued_13 s_length s_at s_error s_tolds s_number s_g o_1.2.1 o_1.2.2.1 o_1.2.2.2.1 o_1.2.2.2.2.1 o_1.2.2.2.2.2.1 o_1.2.2.2.2.2.2 s_far_13 s_queue_13) H locs := hW
      refine lv_aload_n hx hb dX8_groups_29 rfl (lv_at hl 0 rfl) ?_
      obtain ⟨o_2, hc_2, hf⟩ := ob_bind hf
      refine q_callV hF hl.1 hK hA hZ hW mv_X8_forgets ml_X8_237 (c_X8_forgets l D E tx h_ h_g h_kept h_past h_path h_pose h_way h_px h_py h_free h_tips h_far h_queue h_times h_turns h_names h_named h_text h_told h_spare s_hasKept s_pasts s_pathMoves s_spot k1_13 o_1.1 s_queued_13 s_length s_at s_error s_tolds s_number s_g s_far_13 o_2.1 o_2.2 hc_2) [0, 1, 8] rfl rfl rfl rfl rfl rfl ⟨Nat.le_of_ble_eq_true rfl, Nat.le_of_ble_eq_true rfl⟩ ⟨Nat.le_of_ble_eq_true rfl, Nat.le_of_ble_eq_true rfl⟩ rfl rfl (Nat.le_of_ble_eq_true rfl) dX8_groups_30 (fun H locs hW => ?_)
      have hW : WD D A s (w_X8_groups E h_ h_g h_kept h_past h_path h_pose h_way h_px h_py h_free h_tips h_far h_queue h_times h_turns h_names h_named h_text h_told h_spare s_hasKept s_pasts s_pathMoves s_spot k1_13 o_1.1 o_2.1 s_length s_at s_error s_tolds s_number s_g o_1.2.1 o_1.2.2.1 o_1.2.2.2.1 o_1.2.2.2.2.1 o_1.2.2.2.2.2.1 o_1.2.2.2.2.2.2 o_2.2 s_queue_13) H locs := hW
      refine lv_iconst (v := 0) hx hb dX8_groups_33 (by decide) ?_
      refine lv_istore_n (lv' := [(1, .int 0), (0, .ref h_)]) hx hb dX8_groups_34 rfl hl (by decide) rfl (fun ls hl => ?_)
      refine lv_iconst (v := 0) hx hb dX8_groups_35 (by decide) ?_
      refine lv_istore_n (lv' := [(2, .int 0), (1, .int 0), (0, .ref h_)]) hx hb dX8_groups_36 rfl hl (by decide) rfl (fun ls hl => ?_)
      have hB37 : ∀ (n : Nat) (s_queued_37 : Int32) (s_far_37 : Nat → Int32) (s_queue_37 : Nat → Int32) (z1_37 : Int32) (z2_37 : Int32) (ex : Int32 × (Nat → Int32) × (Nat → Int32) × Int32) (H : Heap) (locs : List Loc) (ls : Array Slot), LPF (fun z => f_X8_groups_B37 k1_13 o_1.1 z.1 s_g o_1.2.1 o_1.2.2.1 o_1.2.2.2.1 o_1.2.2.2.2.1 o_1.2.2.2.2.2.1 o_1.2.2.2.2.2.2 z.2.1 z.2.2.1 z.2.2.2.1 z.2.2.2.2) n (s_queued_37, s_far_37, s_queue_37, z1_37, z2_37) = some ex → lv_has ls 4 [(0, .ref h_), (1, .int z1_37), (2, .int z2_37)] → WD D A s (w_X8_groups E h_ h_g h_kept h_past h_path h_pose h_way h_px h_py h_free h_tips h_far h_queue h_times h_turns h_names h_named h_text h_told h_spare s_hasKept s_pasts s_pathMoves s_spot k1_13 o_1.1 s_queued_37 s_length s_at s_error s_tolds s_number s_g o_1.2.1 o_1.2.2.1 o_1.2.2.2.1 o_1.2.2.2.2.1 o_1.2.2.2.2.2.1 o_1.2.2.2.2.2.2 s_far_37 s_queue_37) H locs → (∀ (H : Heap) (locs : List Loc) (ls : Array Slot), lv_has ls 4 [(1, .int ex.2.2.2)] → WD D A s (w_X8_groups E h_ h_g h_kept h_past h_path h_pose h_way h_px h_py h_free h_tips h_far h_queue h_times h_turns h_names h_named h_text h_told h_spare s_hasKept s_pasts s_pathMoves s_spot k1_13 o_1.1 ex.1 s_length s_at s_error s_tolds s_number s_g o_1.2.1 o_1.2.2.1 o_1.2.2.2.1 o_1.2.2.2.2.1 o_1.2.2.2.2.2.1 o_1.2.2.2.2.2.2 ex.2.1 ex.2.2.1) H locs → W p l e (RM 7 155) s m args below meth c H locs 0 0 Q (F0 m 87 ls [])) → W p l e (RM 7 155) s m args below meth c H locs 0 0 Q (F0 m 37 ls []) := by
        intro n
        induction n with
        | zero => intro s_queued_37 s_far_37 s_queue_37 z1_37 z2_37 ex H locs ls h9; exact (ob_lp0 h9).elim
        | succ n ih =>
          intro s_queued_37 s_far_37 s_queue_37 z1_37 z2_37 ex H locs ls h9 hl hW kx0
          obtain ⟨q9, hf, h9, k9⟩ := ob_lp h9
          have hf : f_X8_groups_B37 k1_13 o_1.1 s_queued_37 s_g o_1.2.1 o_1.2.2.1 o_1.2.2.2.1 o_1.2.2.2.2.1 o_1.2.2.2.2.2.1 o_1.2.2.2.2.2.2 s_far_37 s_queue_37 z1_37 z2_37 = some q9 := hf
          unfold f_X8_groups_B37 at hf
          refine lv_iload_n hx hb dX8_groups_37 rfl (lv_at hl 2 rfl) ?_
          refine lv_aload_n hx hb dX8_groups_38 rfl (lv_at hl 0 rfl) ?_
          obtain ⟨o_3, hc_3, hf⟩ := ob_bind hf
          refine q_callI hF hl.1 hK hA hZ hW mv_X8_poses ml_X8_133 (c_X8_poses l D E tx h_ h_g h_kept h_past h_path h_pose h_way h_px h_py h_free h_tips h_far h_queue h_times h_turns h_names h_named h_text h_told h_spare s_hasKept s_pasts s_pathMoves s_spot k1_13 o_1.1 s_queued_37 s_length s_at s_error s_tolds s_number s_g o_3 hc_3) [0, 1] rfl rfl rfl rfl rfl rfl ⟨Nat.le_of_ble_eq_true rfl, Nat.le_of_ble_eq_true rfl⟩ ⟨Nat.le_of_ble_eq_true rfl, Nat.le_of_ble_eq_true rfl⟩ rfl rfl (Nat.le_of_ble_eq_true rfl) dX8_groups_39 (fun H locs hW => ?_)
          have hW : WD D A s (w_X8_groups E h_ h_g h_kept h_past h_path h_pose h_way h_px h_py h_free h_tips h_far h_queue h_times h_turns h_names h_named h_text h_told h_spare s_hasKept s_pasts s_pathMoves s_spot k1_13 o_1.1 s_queued_37 s_length s_at s_error s_tolds s_number s_g o_1.2.1 o_1.2.2.1 o_1.2.2.2.1 o_1.2.2.2.2.1 o_1.2.2.2.2.2.1 o_1.2.2.2.2.2.2 s_far_37 s_queue_37) H locs := hW
          refine q_icmp_ge (tgt := 87) hx hb dX8_groups_42 (by decide) hf (fun hf => ?_) (fun hf => ?_)
          · cases hf
            have hx9 := k9 _ rfl
            subst hx9
            exact kx0 _ _ _ (lv_sub hl [1] rfl) hW
          · refine lv_aload_n hx hb dX8_groups_45 rfl (lv_at hl 0 rfl) ?_
            refine q_get hF hK hW fl_X8_38 0 rfl rfl dX8_groups_46 ?_
            refine lv_iload_n hx hb dX8_groups_49 rfl (lv_at hl 2 rfl) ?_
            refine q_zald hx hb hK hW 6 1 rfl rfl dX8_groups_50 hf (fun hf => ?_)
            refine q_if_eq (tgt := 81) hx hb dX8_groups_51 (by decide) hf (fun hf => ?_) (fun hf => ?_)
            · obtain ⟨v_4, ev_4⟩ : ∃ y : Int32, y = z2_37 + 1 := ⟨_, rfl⟩
              replace hf := ob_let hf ev_4
              refine lv_iinc (v := v_4) (lv' := [(2, .int v_4), (0, .ref h_), (1, .int z1_37)]) hx hb dX8_groups_81 hl (k := 2) rfl (by rw [ev_4]; rfl) (by decide) rfl (fun ls hl => ?_)
              refine lv_goto (tgt := 37) hx hb dX8_groups_84 (by decide) ?_
              cases hf
              exact ih s_queued_37 s_far_37 s_queue_37 z1_37 v_4 ex _ _ _ (h9 _ rfl) (lv_sub hl [1, 2, 0] rfl) hW kx0
            · refine lv_aload_n hx hb dX8_groups_54 rfl (lv_at hl 0 rfl) ?_
              refine q_get hF hK hW fl_X8_45 0 rfl rfl dX8_groups_55 ?_
              refine lv_iload_n hx hb dX8_groups_58 rfl (lv_at hl 2 rfl) ?_
              refine q_iald hx hb hK hW 8 0 rfl rfl dX8_groups_59 hf (fun hf => ?_)
              refine q_if_ge (tgt := 81) hx hb dX8_groups_60 (by decide) hf (fun hf => ?_) (fun hf => ?_)
              · obtain ⟨v_5, ev_5⟩ : ∃ y : Int32, y = z2_37 + 1 := ⟨_, rfl⟩
                replace hf := ob_let hf ev_5
                refine lv_iinc (v := v_5) (lv' := [(2, .int v_5), (0, .ref h_), (1, .int z1_37)]) hx hb dX8_groups_81 hl (k := 2) rfl (by rw [ev_5]; rfl) (by decide) rfl (fun ls hl => ?_)
                refine lv_goto (tgt := 37) hx hb dX8_groups_84 (by decide) ?_
                cases hf
                exact ih s_queued_37 s_far_37 s_queue_37 z1_37 v_5 ex _ _ _ (h9 _ rfl) (lv_sub hl [1, 2, 0] rfl) hW kx0
              · obtain ⟨v_6, ev_6⟩ : ∃ y : Int32, y = z1_37 + 1 := ⟨_, rfl⟩
                replace hf := ob_let hf ev_6
                refine lv_iinc (v := v_6) (lv' := [(1, .int v_6), (0, .ref h_), (2, .int z2_37)]) hx hb dX8_groups_63 hl (k := 1) rfl (by rw [ev_6]; rfl) (by decide) rfl (fun ls hl => ?_)
                refine lv_aload_n hx hb dX8_groups_66 rfl (lv_at hl 1 rfl) ?_
                refine q_get hF hK hW fl_X8_234 0 rfl rfl dX8_groups_67 ?_
                refine lv_istore_n (lv' := [(3, .int s_queued_37), (1, .int v_6), (0, .ref h_), (2, .int z2_37)]) hx hb dX8_groups_70 rfl hl (by decide) rfl (fun ls hl => ?_)
                refine lv_aload_n hx hb dX8_groups_71 rfl (lv_at hl 2 rfl) ?_
                refine lv_iload_n hx hb dX8_groups_72 rfl (lv_at hl 3 rfl) ?_
                obtain ⟨o_7, hc_7, hf⟩ := ob_bind hf
                refine q_callV hF hl.1 hK hA hZ hW mv_X8_starts ml_X8_240 (c_X8_starts l D E tx h_ h_g h_kept h_past h_path h_pose h_way h_px h_py h_free h_tips h_far h_queue h_times h_turns h_names h_named h_text h_told h_spare s_hasKept s_pasts s_pathMoves s_spot k1_13 o_1.1 s_queued_37 s_length s_at s_error s_tolds s_number s_far_37 s_queue_37 z2_37 o_7.1 o_7.2.1 o_7.2.2 hc_7) [0, 8, 9] rfl rfl rfl rfl rfl rfl ⟨Nat.le_of_ble_eq_true rfl, Nat.le_of_ble_eq_true rfl⟩ ⟨Nat.le_of_ble_eq_true rfl, Nat.le_of_ble_eq_true rfl⟩ rfl rfl (Nat.le_of_ble_eq_true rfl) dX8_groups_73 (fun H locs hW => ?_)
                have hW : WD D A s (w_X8_groups E h_ h_g h_kept h_past h_path h_pose h_way h_px h_py h_free h_tips h_far h_queue h_times h_turns h_names h_named h_text h_told h_spare s_hasKept s_pasts s_pathMoves s_spot k1_13 o_1.1 o_7.1 s_length s_at s_error s_tolds s_number s_g o_1.2.1 o_1.2.2.1 o_1.2.2.2.1 o_1.2.2.2.2.1 o_1.2.2.2.2.2.1 o_1.2.2.2.2.2.2 o_7.2.1 o_7.2.2) H locs := hW
                refine lv_aload_n hx hb dX8_groups_76 rfl (lv_at hl 2 rfl) ?_
                refine lv_iload_n hx hb dX8_groups_77 rfl (lv_at hl 0 rfl) ?_
                obtain ⟨o_8, hc_8, hf⟩ := ob_bind hf
                refine q_callV hF hl.1 hK hA hZ hW mv_X8_spreads ml_X8_243 (c_X8_spreads l D E tx h_ h_g h_kept h_past h_path h_pose h_way h_px h_py h_free h_tips h_far h_queue h_times h_turns h_names h_named h_text h_told h_spare s_hasKept s_pasts s_pathMoves s_spot k1_13 o_1.1 o_7.1 s_length s_at s_error s_tolds s_number s_g o_1.2.2.2.2.2.1 o_7.2.1 o_7.2.2 s_queued_37 o_8.1 o_8.2.1 o_8.2.2 hc_8) [0, 1, 6, 8, 9] rfl rfl rfl rfl rfl rfl ⟨Nat.le_of_ble_eq_true rfl, Nat.le_of_ble_eq_true rfl⟩ ⟨Nat.le_of_ble_eq_true rfl, Nat.le_of_ble_eq_true rfl⟩ rfl rfl (Nat.le_of_ble_eq_true rfl) dX8_groups_78 (fun H locs hW => ?_)
                have hW : WD D A s (w_X8_groups E h_ h_g h_kept h_past h_path h_pose h_way h_px h_py h_free h_tips h_far h_queue h_times h_turns h_names h_named h_text h_told h_spare s_hasKept s_pasts s_pathMoves s_spot k1_13 o_1.1 o_8.1 s_length s_at s_error s_tolds s_number s_g o_1.2.1 o_1.2.2.1 o_1.2.2.2.1 o_1.2.2.2.2.1 o_1.2.2.2.2.2.1 o_1.2.2.2.2.2.2 o_8.2.1 o_8.2.2) H locs := hW
                obtain ⟨v_9, ev_9⟩ : ∃ y : Int32, y = z2_37 + 1 := ⟨_, rfl⟩
                replace hf := ob_let hf ev_9
                refine lv_iinc (v := v_9) (lv' := [(2, .int v_9), (3, .int s_queued_37), (1, .int v_6), (0, .ref h_)]) hx hb dX8_groups_81 hl (k := 3) rfl (by rw [ev_9]; rfl) (by decide) rfl (fun ls hl => ?_)
                refine lv_goto (tgt := 37) hx hb dX8_groups_84 (by decide) ?_
                cases hf
                exact ih o_8.1 o_8.2.1 o_8.2.2 v_6 v_9 ex _ _ _ (h9 _ rfl) (lv_sub hl [3, 2, 0] rfl) hW kx0
      obtain ⟨e_10, hc_10, hf⟩ := ob_bind hf
      refine hB37 lfuel o_2.1 o_2.2 s_queue_13 0 0 e_10 _ _ _ hc_10 (lv_sub hl [2, 1, 0] rfl) hW ?_
      intro H locs ls hl hW
      refine lv_iload_n hx hb dX8_groups_87 rfl (lv_at hl 0 rfl) ?_
      cases hf
      exact hret dX8_groups_88 rfl rfl hW
    · refine lv_iconst (v := 0) hx hb dX8_groups_23 (by decide) ?_
      cases hf
      exact hret dX8_groups_24 rfl rfl hW
  refine lv_aload_n hx hb dX8_groups_0 rfl (lv_at hl 0 rfl) ?_
  refine lv_aload_n hx hb dX8_groups_1 rfl (lv_at hl 0 rfl) ?_
  obtain ⟨o_11, hc_11, hf⟩ := ob_bind hf
  refine q_callI hF hl.1 hK hA hZ hW mv_X8_isMany ml_X8_222 (c_X8_isMany l D E tx h_ h_g h_kept h_past h_path h_pose h_way h_px h_py h_free h_tips h_far h_queue h_times h_turns h_names h_named h_text h_told h_spare s_hasKept s_pasts s_pathMoves s_spot s_thrown s_faulty s_queued s_length s_at s_error s_tolds s_number s_g o_11 hc_11) [0, 1] rfl rfl rfl rfl rfl rfl ⟨Nat.le_of_ble_eq_true rfl, Nat.le_of_ble_eq_true rfl⟩ ⟨Nat.le_of_ble_eq_true rfl, Nat.le_of_ble_eq_true rfl⟩ rfl rfl (Nat.le_of_ble_eq_true rfl) dX8_groups_2 (fun H locs hW => ?_)
  have hW : WD D A s (w_X8_groups E h_ h_g h_kept h_past h_path h_pose h_way h_px h_py h_free h_tips h_far h_queue h_times h_turns h_names h_named h_text h_told h_spare s_hasKept s_pasts s_pathMoves s_spot s_thrown s_faulty s_queued s_length s_at s_error s_tolds s_number s_g s_pose s_way s_px s_py s_free s_tips s_far s_queue) H locs := hW
  refine q_if_eq (tgt := 12) hx hb dX8_groups_5 (by decide) hf (fun hf => ?_) (fun hf => ?_)
  · refine lv_iconst (v := 0) hx hb dX8_groups_12 (by decide) ?_
    exact hL13 s_thrown s_faulty s_queued s_pose s_way s_px s_py s_free s_tips s_far s_queue 0 _ _ _ hf (lv_sub hl [0] rfl) hW
  · refine lv_iconst (v := 1) hx hb dX8_groups_8 (by decide) ?_
    refine lv_goto (tgt := 13) hx hb dX8_groups_9 (by decide) ?_
    exact hL13 s_thrown s_faulty s_queued s_pose s_way s_px s_py s_free s_tips s_far s_queue 1 _ _ _ hf (lv_sub hl [0] rfl) hW
def w_X8_isNearer (E : Nat → ClassId) (h_ h_g h_kept h_past h_path h_pose h_way h_px h_py h_free h_tips h_far h_queue h_times h_turns h_names h_named h_text h_told h_spare : Nat) (s_hasKept : Int32) (s_pasts : Int32) (s_pathMoves : Int32) (s_spot : Int32) (s_thrown : Int32) (s_faulty : Int32) (s_queued : Int32) (s_length : Int32) (s_at : Int32) (s_error : Int32) (s_tolds : Int32) (s_number : Int32) (s_g : Nat → Int32) (s_free : Nat → Int32) (s_far : Nat → Int32) : va_W := [(h_, .inr (10, [.ref h_g, .ref h_kept, .int s_hasKept, .ref h_past, .int s_pasts, .ref h_path, .int s_pathMoves, .int s_spot, .int s_thrown, .ref h_pose, .ref h_way, .ref h_px, .ref h_py, .int s_faulty, .ref h_free, .ref h_tips, .ref h_far, .ref h_queue, .int s_queued, .ref h_times, .ref h_turns, .ref h_names, .ref h_named, .ref h_text, .int s_length, .int s_at, .int s_error, .ref h_told, .int s_tolds, .int s_number, .ref h_spare])), (h_g, .inl (E 0, 141, .inl s_g)), (h_free, .inl (E 1, 5000, .inl s_free)), (h_far, .inl (E 0, 5000, .inl s_far))]
set_option maxHeartbeats 4000000 in
set_option maxRecDepth 100000 in
theorem c_X8_isNearer (l : Launch) (D : va_G) (E : Nat → ClassId) (tx : List (Nat × String)) (h_ h_g h_kept h_past h_path h_pose h_way h_px h_py h_free h_tips h_far h_queue h_times h_turns h_names h_named h_text h_told h_spare : Nat) (s_hasKept : Int32) (s_pasts : Int32) (s_pathMoves : Int32) (s_spot : Int32) (s_thrown : Int32) (s_faulty : Int32) (s_queued : Int32) (s_length : Int32) (s_at : Int32) (s_error : Int32) (s_tolds : Int32) (s_number : Int32) (s_g : Nat → Int32) (s_free : Nat → Int32) (s_far : Nat → Int32) (x1 : Int32) (x2 : Int32) (r0 : Int32) (hf : f_X8_isNearer s_g s_free s_far x1 x2 = some r0) : CI l yX8_isNearer cX8_isNearer 4 (some .boolean) 4 91 D E tx [.ref h_, .int x1, .int x2] (w_X8_isNearer E h_ h_g h_kept h_past h_path h_pose h_way h_px h_py h_free h_tips h_far h_queue h_times h_turns h_names h_named h_text h_told h_spare s_hasKept s_pasts s_pathMoves s_spot s_thrown s_faulty s_queued s_length s_at s_error s_tolds s_number s_g s_free s_far) (w_X8_isNearer E h_ h_g h_kept h_past h_path h_pose h_way h_px h_py h_free h_tips h_far h_queue h_times h_turns h_names h_named h_text h_told h_spare s_hasKept s_pasts s_pathMoves s_spot s_thrown s_faulty s_queued s_length s_at s_error s_tolds s_number s_g s_free s_far) r0 := by
  refine CI_of RX8 pn_X8 rfl (Nat.le_of_ble_eq_true rfl) (fun p e s m args below meth c A Q hF hK hA hZ hW hret ls hl => ?_)
  have hx := hF.1
  have hb := hF.2.1
  have hl : lv_has ls 4 [(0, .ref h_), (1, .int x1), (2, .int x2)] := hl
  unfold f_X8_isNearer at hf
  refine lv_aload_n hx hb dX8_isNearer_0 rfl (lv_at hl 0 rfl) ?_
  refine lv_iload_n hx hb dX8_isNearer_1 rfl (lv_at hl 1 rfl) ?_
  refine lv_iload_n hx hb dX8_isNearer_2 rfl (lv_at hl 2 rfl) ?_
  obtain ⟨o_1, hc_1, hf⟩ := ob_bind hf
  refine q_callI hF hl.1 hK hA hZ hW mv_X8_behind ml_X8_196 (c_X8_behind l D E tx h_ h_g h_kept h_past h_path h_pose h_way h_px h_py h_free h_tips h_far h_queue h_times h_turns h_names h_named h_text h_told h_spare s_hasKept s_pasts s_pathMoves s_spot s_thrown s_faulty s_queued s_length s_at s_error s_tolds s_number s_g x1 x2 o_1 hc_1) [0, 1] rfl rfl rfl rfl rfl rfl ⟨Nat.le_of_ble_eq_true rfl, Nat.le_of_ble_eq_true rfl⟩ ⟨Nat.le_of_ble_eq_true rfl, Nat.le_of_ble_eq_true rfl⟩ rfl rfl (Nat.le_of_ble_eq_true rfl) dX8_isNearer_3 (fun H locs hW => ?_)
  have hW : WD D A s (w_X8_isNearer E h_ h_g h_kept h_past h_path h_pose h_way h_px h_py h_free h_tips h_far h_queue h_times h_turns h_names h_named h_text h_told h_spare s_hasKept s_pasts s_pathMoves s_spot s_thrown s_faulty s_queued s_length s_at s_error s_tolds s_number s_g s_free s_far) H locs := hW
  refine lv_istore_n (lv' := [(3, .int o_1), (0, .ref h_), (1, .int x1), (2, .int x2)]) hx hb dX8_isNearer_6 rfl hl (by decide) rfl (fun ls hl => ?_)
  refine lv_iload_n hx hb dX8_isNearer_7 rfl (lv_at hl 0 rfl) ?_
  refine q_if_lt (tgt := 41) hx hb dX8_isNearer_8 (by decide) hf (fun hf => ?_) (fun hf => ?_)
  · refine lv_iconst (v := 0) hx hb dX8_isNearer_41 (by decide) ?_
    cases hf
    exact hret dX8_isNearer_42 rfl rfl hW
  · refine lv_aload_n hx hb dX8_isNearer_11 rfl (lv_at hl 1 rfl) ?_
    refine q_get hF hK hW fl_X8_38 0 rfl rfl dX8_isNearer_12 ?_
    refine lv_iload_n hx hb dX8_isNearer_15 rfl (lv_at hl 0 rfl) ?_
    refine q_zald hx hb hK hW 2 1 rfl rfl dX8_isNearer_16 hf (fun hf => ?_)
    refine q_if_eq (tgt := 41) hx hb dX8_isNearer_17 (by decide) hf (fun hf => ?_) (fun hf => ?_)
    · refine lv_iconst (v := 0) hx hb dX8_isNearer_41 (by decide) ?_
      cases hf
      exact hret dX8_isNearer_42 rfl rfl hW
    · refine lv_aload_n hx hb dX8_isNearer_20 rfl (lv_at hl 1 rfl) ?_
      refine q_get hF hK hW fl_X8_45 0 rfl rfl dX8_isNearer_21 ?_
      refine lv_iload_n hx hb dX8_isNearer_24 rfl (lv_at hl 0 rfl) ?_
      refine q_iald hx hb hK hW 3 0 rfl rfl dX8_isNearer_25 hf (fun hf => ?_)
      refine lv_aload_n hx hb dX8_isNearer_26 rfl (lv_at hl 1 rfl) ?_
      refine q_get hF hK hW fl_X8_45 0 rfl rfl dX8_isNearer_27 ?_
      refine lv_iload_n hx hb dX8_isNearer_30 rfl (lv_at hl 2 rfl) ?_
      refine q_iald hx hb hK hW 3 0 rfl rfl dX8_isNearer_31 hf (fun hf => ?_)
      refine lv_iconst (v := 1) hx hb dX8_isNearer_32 (by decide) ?_
      refine lv_isub hx hb dX8_isNearer_33 ?_
      refine q_icmp_ne (tgt := 41) hx hb dX8_isNearer_34 (by decide) hf (fun hf => ?_) (fun hf => ?_)
      · refine lv_iconst (v := 0) hx hb dX8_isNearer_41 (by decide) ?_
        cases hf
        exact hret dX8_isNearer_42 rfl rfl hW
      · refine lv_iconst (v := 1) hx hb dX8_isNearer_37 (by decide) ?_
        refine lv_goto (tgt := 42) hx hb dX8_isNearer_38 (by decide) ?_
        cases hf
        exact hret dX8_isNearer_42 rfl rfl hW
def w_X8_leads (E : Nat → ClassId) (h_ h_g h_kept h_past h_path h_pose h_way h_px h_py h_free h_tips h_far h_queue h_times h_turns h_names h_named h_text h_told h_spare : Nat) (s_hasKept : Int32) (s_pasts : Int32) (s_pathMoves : Int32) (s_spot : Int32) (s_thrown : Int32) (s_faulty : Int32) (s_queued : Int32) (s_length : Int32) (s_at : Int32) (s_error : Int32) (s_tolds : Int32) (s_number : Int32) (s_g : Nat → Int32) (s_path : Nat → Int32) (s_free : Nat → Int32) (s_far : Nat → Int32) : va_W := [(h_, .inr (10, [.ref h_g, .ref h_kept, .int s_hasKept, .ref h_past, .int s_pasts, .ref h_path, .int s_pathMoves, .int s_spot, .int s_thrown, .ref h_pose, .ref h_way, .ref h_px, .ref h_py, .int s_faulty, .ref h_free, .ref h_tips, .ref h_far, .ref h_queue, .int s_queued, .ref h_times, .ref h_turns, .ref h_names, .ref h_named, .ref h_text, .int s_length, .int s_at, .int s_error, .ref h_told, .int s_tolds, .int s_number, .ref h_spare])), (h_g, .inl (E 0, 141, .inl s_g)), (h_path, .inl (E 0, 5000, .inl s_path)), (h_free, .inl (E 1, 5000, .inl s_free)), (h_far, .inl (E 0, 5000, .inl s_far))]
set_option maxHeartbeats 4000000 in
set_option maxRecDepth 100000 in
theorem c_X8_leads (l : Launch) (D : va_G) (E : Nat → ClassId) (tx : List (Nat × String)) (h_ h_g h_kept h_past h_path h_pose h_way h_px h_py h_free h_tips h_far h_queue h_times h_turns h_names h_named h_text h_told h_spare : Nat) (s_hasKept : Int32) (s_pasts : Int32) (s_pathMoves : Int32) (s_spot : Int32) (s_thrown : Int32) (s_faulty : Int32) (s_queued : Int32) (s_length : Int32) (s_at : Int32) (s_error : Int32) (s_tolds : Int32) (s_number : Int32) (s_g : Nat → Int32) (s_path : Nat → Int32) (s_free : Nat → Int32) (s_far : Nat → Int32)  (r0 : Int32) (r1 : Int32) (r2 : Int32) (r3 : Nat → Int32) (hf : f_X8_leads s_pathMoves s_spot s_g s_path s_free s_far = some (r0, r1, r2, r3)) : CI l yX8_leads cX8_leads 3 (some .boolean) 5 114 D E tx [.ref h_] (w_X8_leads E h_ h_g h_kept h_past h_path h_pose h_way h_px h_py h_free h_tips h_far h_queue h_times h_turns h_names h_named h_text h_told h_spare s_hasKept s_pasts s_pathMoves s_spot s_thrown s_faulty s_queued s_length s_at s_error s_tolds s_number s_g s_path s_free s_far) (w_X8_leads E h_ h_g h_kept h_past h_path h_pose h_way h_px h_py h_free h_tips h_far h_queue h_times h_turns h_names h_named h_text h_told h_spare s_hasKept s_pasts r1 r2 s_thrown s_faulty s_queued s_length s_at s_error s_tolds s_number s_g r3 s_free s_far) r0 := by
  refine CI_of RX8 pn_X8 rfl (Nat.le_of_ble_eq_true rfl) (fun p e s m args below meth c A Q hF hK hA hZ hW hret ls hl => ?_)
  have hx := hF.1
  have hb := hF.2.1
  have hl : lv_has ls 3 [(0, .ref h_)] := hl
  unfold f_X8_leads at hf
  refine lv_aload_n hx hb dX8_leads_0 rfl (lv_at hl 0 rfl) ?_
  obtain ⟨o_1, hc_1, hf⟩ := ob_bind hf
  refine q_callI hF hl.1 hK hA hZ hW mv_X8_numberNow ml_X8_181 (c_X8_numberNow l D E tx h_ h_g h_kept h_past h_path h_pose h_way h_px h_py h_free h_tips h_far h_queue h_times h_turns h_names h_named h_text h_told h_spare s_hasKept s_pasts s_pathMoves s_spot s_thrown s_faulty s_queued s_length s_at s_error s_tolds s_number s_g o_1 hc_1) [0, 1] rfl rfl rfl rfl rfl rfl ⟨Nat.le_of_ble_eq_true rfl, Nat.le_of_ble_eq_true rfl⟩ ⟨Nat.le_of_ble_eq_true rfl, Nat.le_of_ble_eq_true rfl⟩ rfl rfl (Nat.le_of_ble_eq_true rfl) dX8_leads_1 (fun H locs hW => ?_)
  have hW : WD D A s (w_X8_leads E h_ h_g h_kept h_past h_path h_pose h_way h_px h_py h_free h_tips h_far h_queue h_times h_turns h_names h_named h_text h_told h_spare s_hasKept s_pasts s_pathMoves s_spot s_thrown s_faulty s_queued s_length s_at s_error s_tolds s_number s_g s_path s_free s_far) H locs := hW
  refine lv_istore_n (lv' := [(1, .int o_1), (0, .ref h_)]) hx hb dX8_leads_4 rfl hl (by decide) rfl (fun ls hl => ?_)
  refine lv_aload_n hx hb dX8_leads_5 rfl (lv_at hl 1 rfl) ?_
  refine q_get hF hK hW fl_X8_38 0 rfl rfl dX8_leads_6 ?_
  refine lv_iload_n hx hb dX8_leads_9 rfl (lv_at hl 0 rfl) ?_
  refine q_zald hx hb hK hW 3 1 rfl rfl dX8_leads_10 hf (fun hf => ?_)
  refine q_if_eq (tgt := 23) hx hb dX8_leads_11 (by decide) hf (fun hf => ?_) (fun hf => ?_)
  · refine lv_iconst (v := 0) hx hb dX8_leads_23 (by decide) ?_
    cases hf
    exact hret dX8_leads_24 rfl rfl hW
  · refine lv_aload_n hx hb dX8_leads_14 rfl (lv_at hl 1 rfl) ?_
    refine q_get hF hK hW fl_X8_45 0 rfl rfl dX8_leads_15 ?_
    refine lv_iload_n hx hb dX8_leads_18 rfl (lv_at hl 0 rfl) ?_
    refine q_iald hx hb hK hW 4 0 rfl rfl dX8_leads_19 hf (fun hf => ?_)
    refine q_if_ge (tgt := 25) hx hb dX8_leads_20 (by decide) hf (fun hf => ?_) (fun hf => ?_)
    · refine lv_aload_n hx hb dX8_leads_25 rfl (lv_at hl 1 rfl) ?_
      refine lv_iconst (v := 0) hx hb dX8_leads_26 (by decide) ?_
      refine q_put hF hK hW fl_X8_22 ft_X8 rfl 0 rfl rfl rfl (Nat.le_of_ble_eq_true rfl) dX8_leads_27 (fun H locs hW => ?_)
      have hW : WD D A s (w_X8_leads E h_ h_g h_kept h_past h_path h_pose h_way h_px h_py h_free h_tips h_far h_queue h_times h_turns h_names h_named h_text h_told h_spare s_hasKept s_pasts 0 s_spot s_thrown s_faulty s_queued s_length s_at s_error s_tolds s_number s_g s_path s_free s_far) H locs := hW
      refine lv_aload_n hx hb dX8_leads_30 rfl (lv_at hl 1 rfl) ?_
      refine lv_iconst (v := 0) hx hb dX8_leads_31 (by decide) ?_
      refine q_put hF hK hW fl_X8_252 ft_X8 rfl 0 rfl rfl rfl (Nat.le_of_ble_eq_true rfl) dX8_leads_32 (fun H locs hW => ?_)
      have hW : WD D A s (w_X8_leads E h_ h_g h_kept h_past h_path h_pose h_way h_px h_py h_free h_tips h_far h_queue h_times h_turns h_names h_named h_text h_told h_spare s_hasKept s_pasts 0 0 s_thrown s_faulty s_queued s_length s_at s_error s_tolds s_number s_g s_path s_free s_far) H locs := hW
      have hB35 : ∀ (n : Nat) (s_pathMoves_35 : Int32) (s_path_35 : Nat → Int32) (z1_35 : Int32) (ex : Int32 × (Nat → Int32)) (H : Heap) (locs : List Loc) (ls : Array Slot), LPF (fun z => f_X8_leads_B35 z.1 0 s_g z.2.1 s_free s_far z.2.2) n (s_pathMoves_35, s_path_35, z1_35) = some ex → lv_has ls 3 [(0, .ref h_), (1, .int z1_35)] → WD D A s (w_X8_leads E h_ h_g h_kept h_past h_path h_pose h_way h_px h_py h_free h_tips h_far h_queue h_times h_turns h_names h_named h_text h_told h_spare s_hasKept s_pasts s_pathMoves_35 0 s_thrown s_faulty s_queued s_length s_at s_error s_tolds s_number s_g s_path_35 s_free s_far) H locs → (∀ (H : Heap) (locs : List Loc) (ls : Array Slot), lv_has ls 3 [] → WD D A s (w_X8_leads E h_ h_g h_kept h_past h_path h_pose h_way h_px h_py h_free h_tips h_far h_queue h_times h_turns h_names h_named h_text h_told h_spare s_hasKept s_pasts ex.1 0 s_thrown s_faulty s_queued s_length s_at s_error s_tolds s_number s_g ex.2 s_free s_far) H locs → W p l e (RM 5 114) s m args below meth c H locs 0 0 Q (F0 m 91 ls [])) → W p l e (RM 5 114) s m args below meth c H locs 0 0 Q (F0 m 35 ls []) := by
        intro n
        induction n with
        | zero => intro s_pathMoves_35 s_path_35 z1_35 ex H locs ls h9; exact (ob_lp0 h9).elim
        | succ n ih =>
          intro s_pathMoves_35 s_path_35 z1_35 ex H locs ls h9 hl hW kx0
          obtain ⟨q9, hf, h9, k9⟩ := ob_lp h9
          have hf : f_X8_leads_B35 s_pathMoves_35 0 s_g s_path_35 s_free s_far z1_35 = some q9 := hf
          unfold f_X8_leads_B35 at hf
          refine lv_aload_n hx hb dX8_leads_35 rfl (lv_at hl 0 rfl) ?_
          refine q_get hF hK hW fl_X8_45 0 rfl rfl dX8_leads_36 ?_
          refine lv_iload_n hx hb dX8_leads_39 rfl (lv_at hl 1 rfl) ?_
          refine q_iald hx hb hK hW 4 0 rfl rfl dX8_leads_40 hf (fun hf => ?_)
          refine q_if_le (tgt := 91) hx hb dX8_leads_41 (by decide) hf (fun hf => ?_) (fun hf => ?_)
          · cases hf
            have hx9 := k9 _ rfl
            subst hx9
            exact kx0 _ _ _ (lv_sub hl [] rfl) hW
          · refine lv_iconst (v := 0) hx hb dX8_leads_44 (by decide) ?_
            refine lv_istore_n (lv' := [(2, .int 0), (0, .ref h_), (1, .int z1_35)]) hx hb dX8_leads_45 rfl hl (by decide) rfl (fun ls hl => ?_)
            have hB46 : ∀ (n : Nat) (z2_46 : Int32) (ex : Int32) (H : Heap) (locs : List Loc) (ls : Array Slot), LPF (fun z => f_X8_leads_B46 s_pathMoves_35 0 s_g s_path_35 s_free s_far z1_35 z) n z2_46 = some ex → lv_has ls 3 [(0, .ref h_), (1, .int z1_35), (2, .int z2_46)] → WD D A s (w_X8_leads E h_ h_g h_kept h_past h_path h_pose h_way h_px h_py h_free h_tips h_far h_queue h_times h_turns h_names h_named h_text h_told h_spare s_hasKept s_pasts s_pathMoves_35 0 s_thrown s_faulty s_queued s_length s_at s_error s_tolds s_number s_g s_path_35 s_free s_far) H locs → (∀ (H : Heap) (locs : List Loc) (ls : Array Slot), lv_has ls 3 [(0, .ref h_), (1, .int z1_35), (2, .int ex)] → WD D A s (w_X8_leads E h_ h_g h_kept h_past h_path h_pose h_way h_px h_py h_free h_tips h_far h_queue h_times h_turns h_names h_named h_text h_told h_spare s_hasKept s_pasts s_pathMoves_35 0 s_thrown s_faulty s_queued s_length s_at s_error s_tolds s_number s_g s_path_35 s_free s_far) H locs → W p l e (RM 5 114) s m args below meth c H locs 0 0 Q (F0 m 61 ls [])) → W p l e (RM 5 114) s m args below meth c H locs 0 0 Q (F0 m 46 ls []) := by
              intro n
              induction n with
              | zero => intro z2_46 ex H locs ls h9; exact (ob_lp0 h9).elim
              | succ n ih =>
                intro z2_46 ex H locs ls h9 hl hW kx0
                obtain ⟨q9, hf, h9, k9⟩ := ob_lp h9
                have hf : f_X8_leads_B46 s_pathMoves_35 0 s_g s_path_35 s_free s_far z1_35 z2_46 = some q9 := hf
                unfold f_X8_leads_B46 at hf
                refine lv_aload_n hx hb dX8_leads_46 rfl (lv_at hl 0 rfl) ?_
                refine lv_iload_n hx hb dX8_leads_47 rfl (lv_at hl 1 rfl) ?_
                refine lv_iload_n hx hb dX8_leads_48 rfl (lv_at hl 2 rfl) ?_
                obtain ⟨o_2, hc_2, hf⟩ := ob_bind hf
                refine q_callI hF hl.1 hK hA hZ hW mv_X8_isNearer ml_X8_255 (c_X8_isNearer l D E tx h_ h_g h_kept h_past h_path h_pose h_way h_px h_py h_free h_tips h_far h_queue h_times h_turns h_names h_named h_text h_told h_spare s_hasKept s_pasts s_pathMoves_35 0 s_thrown s_faulty s_queued s_length s_at s_error s_tolds s_number s_g s_free s_far z1_35 z2_46 o_2 hc_2) [0, 1, 3, 4] rfl rfl rfl rfl rfl rfl ⟨Nat.le_of_ble_eq_true rfl, Nat.le_of_ble_eq_true rfl⟩ ⟨Nat.le_of_ble_eq_true rfl, Nat.le_of_ble_eq_true rfl⟩ rfl rfl (Nat.le_of_ble_eq_true rfl) dX8_leads_49 (fun H locs hW => ?_)
                have hW : WD D A s (w_X8_leads E h_ h_g h_kept h_past h_path h_pose h_way h_px h_py h_free h_tips h_far h_queue h_times h_turns h_names h_named h_text h_told h_spare s_hasKept s_pasts s_pathMoves_35 0 s_thrown s_faulty s_queued s_length s_at s_error s_tolds s_number s_g s_path_35 s_free s_far) H locs := hW
                refine q_if_ne (tgt := 61) hx hb dX8_leads_52 (by decide) hf (fun hf => ?_) (fun hf => ?_)
                · cases hf
                  have hx9 := k9 _ rfl
                  subst hx9
                  exact kx0 _ _ _ (lv_sub hl [0, 1, 2] rfl) hW
                · obtain ⟨v_3, ev_3⟩ : ∃ y : Int32, y = z2_46 + 1 := ⟨_, rfl⟩
                  replace hf := ob_let hf ev_3
                  refine lv_iinc (v := v_3) (lv' := [(2, .int v_3), (0, .ref h_), (1, .int z1_35)]) hx hb dX8_leads_55 hl (k := 2) rfl (by rw [ev_3]; rfl) (by decide) rfl (fun ls hl => ?_)
                  refine lv_goto (tgt := 46) hx hb dX8_leads_58 (by decide) ?_
                  cases hf
                  exact ih v_3 ex _ _ _ (h9 _ rfl) (lv_sub hl [1, 2, 0] rfl) hW kx0
            obtain ⟨e_4, hc_4, hf⟩ := ob_bind hf
            refine hB46 lfuel 0 e_4 _ _ _ hc_4 (lv_sub hl [1, 2, 0] rfl) hW ?_
            intro H locs ls hl hW
            refine lv_aload_n hx hb dX8_leads_61 rfl (lv_at hl 0 rfl) ?_
            refine q_get hF hK hW fl_X8_19 0 rfl rfl dX8_leads_62 ?_
            refine lv_aload_n hx hb dX8_leads_65 rfl (lv_at hl 0 rfl) ?_
            refine q_get hF hK hW fl_X8_22 0 rfl rfl dX8_leads_66 ?_
            refine lv_iload_n hx hb dX8_leads_69 rfl (lv_at hl 2 rfl) ?_
            refine q_iast hx hb hK hW 2 0 rfl rfl dX8_leads_70 hf (fun a_5 hf H locs hW => ?_)
            have hW : WD D A s (w_X8_leads E h_ h_g h_kept h_past h_path h_pose h_way h_px h_py h_free h_tips h_far h_queue h_times h_turns h_names h_named h_text h_told h_spare s_hasKept s_pasts s_pathMoves_35 0 s_thrown s_faulty s_queued s_length s_at s_error s_tolds s_number s_g a_5 s_free s_far) H locs := hW
            refine lv_aload_n hx hb dX8_leads_71 rfl (lv_at hl 0 rfl) ?_
            refine lv_dup hx hb dX8_leads_72 rfl ?_
            refine q_get hF hK hW fl_X8_22 0 rfl rfl dX8_leads_73 ?_
            refine lv_iconst (v := 1) hx hb dX8_leads_76 (by decide) ?_
            refine lv_iadd hx hb dX8_leads_77 ?_
            refine lv_topi (fun v_6 ev_6 => ?_)
            replace hf := ob_let hf ev_6
            refine q_put hF hK hW fl_X8_22 ft_X8 rfl 0 rfl rfl rfl (Nat.le_of_ble_eq_true rfl) dX8_leads_78 (fun H locs hW => ?_)
            have hW : WD D A s (w_X8_leads E h_ h_g h_kept h_past h_path h_pose h_way h_px h_py h_free h_tips h_far h_queue h_times h_turns h_names h_named h_text h_told h_spare s_hasKept s_pasts v_6 0 s_thrown s_faulty s_queued s_length s_at s_error s_tolds s_number s_g a_5 s_free s_far) H locs := hW
            refine lv_aload_n hx hb dX8_leads_81 rfl (lv_at hl 0 rfl) ?_
            refine lv_iload_n hx hb dX8_leads_82 rfl (lv_at hl 1 rfl) ?_
            refine lv_iload_n hx hb dX8_leads_83 rfl (lv_at hl 2 rfl) ?_
            obtain ⟨o_7, hc_7, hf⟩ := ob_bind hf
            refine q_callI hF hl.1 hK hA hZ hW mv_X8_behind ml_X8_196 (c_X8_behind l D E tx h_ h_g h_kept h_past h_path h_pose h_way h_px h_py h_free h_tips h_far h_queue h_times h_turns h_names h_named h_text h_told h_spare s_hasKept s_pasts v_6 0 s_thrown s_faulty s_queued s_length s_at s_error s_tolds s_number s_g z1_35 e_4 o_7 hc_7) [0, 1] rfl rfl rfl rfl rfl rfl ⟨Nat.le_of_ble_eq_true rfl, Nat.le_of_ble_eq_true rfl⟩ ⟨Nat.le_of_ble_eq_true rfl, Nat.le_of_ble_eq_true rfl⟩ rfl rfl (Nat.le_of_ble_eq_true rfl) dX8_leads_84 (fun H locs hW => ?_)
            have hW : WD D A s (w_X8_leads E h_ h_g h_kept h_past h_path h_pose h_way h_px h_py h_free h_tips h_far h_queue h_times h_turns h_names h_named h_text h_told h_spare s_hasKept s_pasts v_6 0 s_thrown s_faulty s_queued s_length s_at s_error s_tolds s_number s_g a_5 s_free s_far) H locs := hW
            refine lv_istore_n (lv' := [(1, .int o_7), (0, .ref h_), (2, .int e_4)]) hx hb dX8_leads_87 rfl hl (by decide) rfl (fun ls hl => ?_)
            refine lv_goto (tgt := 35) hx hb dX8_leads_88 (by decide) ?_
            cases hf
            exact ih v_6 a_5 o_7 ex _ _ _ (h9 _ rfl) (lv_sub hl [1, 0] rfl) hW kx0
      obtain ⟨e_8, hc_8, hf⟩ := ob_bind hf
      refine hB35 lfuel 0 s_path o_1 e_8 _ _ _ hc_8 (lv_sub hl [1, 0] rfl) hW ?_
      intro H locs ls hl hW
      refine lv_iconst (v := 1) hx hb dX8_leads_91 (by decide) ?_
      cases hf
      exact hret dX8_leads_92 rfl rfl hW
    · refine lv_iconst (v := 0) hx hb dX8_leads_23 (by decide) ?_
      cases hf
      exact hret dX8_leads_24 rfl rfl hW
def w_X8_toPose (E : Nat → ClassId) (h_ h_g h_kept h_past h_path h_pose h_way h_px h_py h_free h_tips h_far h_queue h_times h_turns h_names h_named h_text h_told h_spare : Nat) (s_hasKept : Int32) (s_pasts : Int32) (s_pathMoves : Int32) (s_spot : Int32) (s_thrown : Int32) (s_faulty : Int32) (s_queued : Int32) (s_length : Int32) (s_at : Int32) (s_error : Int32) (s_tolds : Int32) (s_number : Int32) (s_g : Nat → Int32) (s_pose : Nat → Int32) (s_way : Nat → Int32) (s_px : Nat → Int32) (s_py : Nat → Int32) (s_free : Nat → Int32) (s_tips : Nat → Int32) (s_far : Nat → Int32) (s_queue : Nat → Int32) : va_W := [(h_, .inr (10, [.ref h_g, .ref h_kept, .int s_hasKept, .ref h_past, .int s_pasts, .ref h_path, .int s_pathMoves, .int s_spot, .int s_thrown, .ref h_pose, .ref h_way, .ref h_px, .ref h_py, .int s_faulty, .ref h_free, .ref h_tips, .ref h_far, .ref h_queue, .int s_queued, .ref h_times, .ref h_turns, .ref h_names, .ref h_named, .ref h_text, .int s_length, .int s_at, .int s_error, .ref h_told, .int s_tolds, .int s_number, .ref h_spare])), (h_g, .inl (E 0, 141, .inl s_g)), (h_pose, .inl (E 0, 4, .inl s_pose)), (h_way, .inl (E 0, 4, .inl s_way)), (h_px, .inl (E 0, 5, .inl s_px)), (h_py, .inl (E 0, 5, .inl s_py)), (h_free, .inl (E 1, 5000, .inl s_free)), (h_tips, .inl (E 0, 5000, .inl s_tips)), (h_far, .inl (E 0, 5000, .inl s_far)), (h_queue, .inl (E 0, 5000, .inl s_queue))]
set_option maxHeartbeats 4000000 in
set_option maxRecDepth 100000 in
theorem c_X8_toPose (l : Launch) (D : va_G) (E : Nat → ClassId) (tx : List (Nat × String)) (h_ h_g h_kept h_past h_path h_pose h_way h_px h_py h_free h_tips h_far h_queue h_times h_turns h_names h_named h_text h_told h_spare : Nat) (s_hasKept : Int32) (s_pasts : Int32) (s_pathMoves : Int32) (s_spot : Int32) (s_thrown : Int32) (s_faulty : Int32) (s_queued : Int32) (s_length : Int32) (s_at : Int32) (s_error : Int32) (s_tolds : Int32) (s_number : Int32) (s_g : Nat → Int32) (s_pose : Nat → Int32) (s_way : Nat → Int32) (s_px : Nat → Int32) (s_py : Nat → Int32) (s_free : Nat → Int32) (s_tips : Nat → Int32) (s_far : Nat → Int32) (s_queue : Nat → Int32) (x1 : Int32) (r0 : Int32) (r1 : Int32) (r2 : Nat → Int32) (r3 : Nat → Int32) (r4 : Nat → Int32) (r5 : Nat → Int32) (r6 : Nat → Int32) (r7 : Nat → Int32) (r8 : Nat → Int32) (r9 : Nat → Int32) (hf : f_X8_toPose s_faulty s_queued s_g s_pose s_way s_px s_py s_free s_tips s_far s_queue x1 = some (r0, r1, r2, r3, r4, r5, r6, r7, r8, r9)) : CV l yX8_toPose cX8_toPose 2 7 155 D E tx [.ref h_, .int x1] (w_X8_toPose E h_ h_g h_kept h_past h_path h_pose h_way h_px h_py h_free h_tips h_far h_queue h_times h_turns h_names h_named h_text h_told h_spare s_hasKept s_pasts s_pathMoves s_spot s_thrown s_faulty s_queued s_length s_at s_error s_tolds s_number s_g s_pose s_way s_px s_py s_free s_tips s_far s_queue) (w_X8_toPose E h_ h_g h_kept h_past h_path h_pose h_way h_px h_py h_free h_tips h_far h_queue h_times h_turns h_names h_named h_text h_told h_spare s_hasKept s_pasts s_pathMoves s_spot s_thrown r0 r1 s_length s_at s_error s_tolds s_number s_g r2 r3 r4 r5 r6 r7 r8 r9) := by
  refine CV_of RX8 pn_X8 rfl (Nat.le_of_ble_eq_true rfl) (fun p e s m args below meth c A Q hF hK hA hZ hW hret ls hl => ?_)
  have hx := hF.1
  have hb := hF.2.1
  have hl : lv_has ls 2 [(0, .ref h_), (1, .int x1)] := hl
  unfold f_X8_toPose at hf
  refine lv_aload_n hx hb dX8_toPose_0 rfl (lv_at hl 0 rfl) ?_
  obtain ⟨o_1, hc_1, hf⟩ := ob_bind hf
  refine q_callV hF hl.1 hK hA hZ hW mv_X8_laysAll ml_X8_228 (c_X8_laysAll l D E tx h_ h_g h_kept h_past h_path h_pose h_way h_px h_py h_free h_tips h_far h_queue h_times h_turns h_names h_named h_text h_told h_spare s_hasKept s_pasts s_pathMoves s_spot s_thrown s_faulty s_queued s_length s_at s_error s_tolds s_number s_g s_pose s_way s_px s_py s_free s_tips o_1.1 o_1.2.1 o_1.2.2.1 o_1.2.2.2.1 o_1.2.2.2.2.1 o_1.2.2.2.2.2.1 o_1.2.2.2.2.2.2 hc_1) [0, 1, 2, 3, 4, 5, 6, 7] rfl rfl rfl rfl rfl rfl ⟨Nat.le_of_ble_eq_true rfl, Nat.le_of_ble_eq_true rfl⟩ ⟨Nat.le_of_ble_eq_true rfl, Nat.le_of_ble_eq_true rfl⟩ rfl rfl (Nat.le_of_ble_eq_true rfl) dX8_toPose_1 (fun H locs hW => ?_)
  have hW : WD D A s (w_X8_toPose E h_ h_g h_kept h_past h_path h_pose h_way h_px h_py h_free h_tips h_far h_queue h_times h_turns h_names h_named h_text h_told h_spare s_hasKept s_pasts s_pathMoves s_spot s_thrown o_1.1 s_queued s_length s_at s_error s_tolds s_number s_g o_1.2.1 o_1.2.2.1 o_1.2.2.2.1 o_1.2.2.2.2.1 o_1.2.2.2.2.2.1 o_1.2.2.2.2.2.2 s_far s_queue) H locs := hW
  refine lv_aload_n hx hb dX8_toPose_4 rfl (lv_at hl 0 rfl) ?_
  obtain ⟨o_2, hc_2, hf⟩ := ob_bind hf
  refine q_callV hF hl.1 hK hA hZ hW mv_X8_forgets ml_X8_237 (c_X8_forgets l D E tx h_ h_g h_kept h_past h_path h_pose h_way h_px h_py h_free h_tips h_far h_queue h_times h_turns h_names h_named h_text h_told h_spare s_hasKept s_pasts s_pathMoves s_spot s_thrown o_1.1 s_queued s_length s_at s_error s_tolds s_number s_g s_far o_2.1 o_2.2 hc_2) [0, 1, 8] rfl rfl rfl rfl rfl rfl ⟨Nat.le_of_ble_eq_true rfl, Nat.le_of_ble_eq_true rfl⟩ ⟨Nat.le_of_ble_eq_true rfl, Nat.le_of_ble_eq_true rfl⟩ rfl rfl (Nat.le_of_ble_eq_true rfl) dX8_toPose_5 (fun H locs hW => ?_)
  have hW : WD D A s (w_X8_toPose E h_ h_g h_kept h_past h_path h_pose h_way h_px h_py h_free h_tips h_far h_queue h_times h_turns h_names h_named h_text h_told h_spare s_hasKept s_pasts s_pathMoves s_spot s_thrown o_1.1 o_2.1 s_length s_at s_error s_tolds s_number s_g o_1.2.1 o_1.2.2.1 o_1.2.2.2.1 o_1.2.2.2.2.1 o_1.2.2.2.2.2.1 o_1.2.2.2.2.2.2 o_2.2 s_queue) H locs := hW
  refine lv_aload_n hx hb dX8_toPose_8 rfl (lv_at hl 0 rfl) ?_
  refine q_get hF hK hW fl_X8_38 0 rfl rfl dX8_toPose_9 ?_
  refine lv_iload_n hx hb dX8_toPose_12 rfl (lv_at hl 1 rfl) ?_
  refine q_zald hx hb hK hW 6 1 rfl rfl dX8_toPose_13 hf (fun hf => ?_)
  refine q_if_eq (tgt := 27) hx hb dX8_toPose_14 (by decide) hf (fun hf => ?_) (fun hf => ?_)
  · cases hf
    exact hret dX8_toPose_27 hW
  · refine lv_aload_n hx hb dX8_toPose_17 rfl (lv_at hl 0 rfl) ?_
    refine lv_iload_n hx hb dX8_toPose_18 rfl (lv_at hl 1 rfl) ?_
    obtain ⟨o_3, hc_3, hf⟩ := ob_bind hf
    refine q_callV hF hl.1 hK hA hZ hW mv_X8_starts ml_X8_240 (c_X8_starts l D E tx h_ h_g h_kept h_past h_path h_pose h_way h_px h_py h_free h_tips h_far h_queue h_times h_turns h_names h_named h_text h_told h_spare s_hasKept s_pasts s_pathMoves s_spot s_thrown o_1.1 o_2.1 s_length s_at s_error s_tolds s_number o_2.2 s_queue x1 o_3.1 o_3.2.1 o_3.2.2 hc_3) [0, 8, 9] rfl rfl rfl rfl rfl rfl ⟨Nat.le_of_ble_eq_true rfl, Nat.le_of_ble_eq_true rfl⟩ ⟨Nat.le_of_ble_eq_true rfl, Nat.le_of_ble_eq_true rfl⟩ rfl rfl (Nat.le_of_ble_eq_true rfl) dX8_toPose_19 (fun H locs hW => ?_)
    have hW : WD D A s (w_X8_toPose E h_ h_g h_kept h_past h_path h_pose h_way h_px h_py h_free h_tips h_far h_queue h_times h_turns h_names h_named h_text h_told h_spare s_hasKept s_pasts s_pathMoves s_spot s_thrown o_1.1 o_3.1 s_length s_at s_error s_tolds s_number s_g o_1.2.1 o_1.2.2.1 o_1.2.2.2.1 o_1.2.2.2.2.1 o_1.2.2.2.2.2.1 o_1.2.2.2.2.2.2 o_3.2.1 o_3.2.2) H locs := hW
    refine lv_aload_n hx hb dX8_toPose_22 rfl (lv_at hl 0 rfl) ?_
    refine lv_iconst (v := 0) hx hb dX8_toPose_23 (by decide) ?_
    obtain ⟨o_4, hc_4, hf⟩ := ob_bind hf
    refine q_callV hF hl.1 hK hA hZ hW mv_X8_spreads ml_X8_243 (c_X8_spreads l D E tx h_ h_g h_kept h_past h_path h_pose h_way h_px h_py h_free h_tips h_far h_queue h_times h_turns h_names h_named h_text h_told h_spare s_hasKept s_pasts s_pathMoves s_spot s_thrown o_1.1 o_3.1 s_length s_at s_error s_tolds s_number s_g o_1.2.2.2.2.2.1 o_3.2.1 o_3.2.2 0 o_4.1 o_4.2.1 o_4.2.2 hc_4) [0, 1, 6, 8, 9] rfl rfl rfl rfl rfl rfl ⟨Nat.le_of_ble_eq_true rfl, Nat.le_of_ble_eq_true rfl⟩ ⟨Nat.le_of_ble_eq_true rfl, Nat.le_of_ble_eq_true rfl⟩ rfl rfl (Nat.le_of_ble_eq_true rfl) dX8_toPose_24 (fun H locs hW => ?_)
    have hW : WD D A s (w_X8_toPose E h_ h_g h_kept h_past h_path h_pose h_way h_px h_py h_free h_tips h_far h_queue h_times h_turns h_names h_named h_text h_told h_spare s_hasKept s_pasts s_pathMoves s_spot s_thrown o_1.1 o_4.1 s_length s_at s_error s_tolds s_number s_g o_1.2.1 o_1.2.2.1 o_1.2.2.2.1 o_1.2.2.2.2.1 o_1.2.2.2.2.2.1 o_1.2.2.2.2.2.2 o_4.2.1 o_4.2.2) H locs := hW
    cases hf
    exact hret dX8_toPose_27 hW
def w_X8_toCell (E : Nat → ClassId) (h_ h_g h_kept h_past h_path h_pose h_way h_px h_py h_free h_tips h_far h_queue h_times h_turns h_names h_named h_text h_told h_spare : Nat) (s_hasKept : Int32) (s_pasts : Int32) (s_pathMoves : Int32) (s_spot : Int32) (s_thrown : Int32) (s_faulty : Int32) (s_queued : Int32) (s_length : Int32) (s_at : Int32) (s_error : Int32) (s_tolds : Int32) (s_number : Int32) (s_g : Nat → Int32) (s_pose : Nat → Int32) (s_way : Nat → Int32) (s_px : Nat → Int32) (s_py : Nat → Int32) (s_free : Nat → Int32) (s_tips : Nat → Int32) (s_far : Nat → Int32) (s_queue : Nat → Int32) : va_W := [(h_, .inr (10, [.ref h_g, .ref h_kept, .int s_hasKept, .ref h_past, .int s_pasts, .ref h_path, .int s_pathMoves, .int s_spot, .int s_thrown, .ref h_pose, .ref h_way, .ref h_px, .ref h_py, .int s_faulty, .ref h_free, .ref h_tips, .ref h_far, .ref h_queue, .int s_queued, .ref h_times, .ref h_turns, .ref h_names, .ref h_named, .ref h_text, .int s_length, .int s_at, .int s_error, .ref h_told, .int s_tolds, .int s_number, .ref h_spare])), (h_g, .inl (E 0, 141, .inl s_g)), (h_pose, .inl (E 0, 4, .inl s_pose)), (h_way, .inl (E 0, 4, .inl s_way)), (h_px, .inl (E 0, 5, .inl s_px)), (h_py, .inl (E 0, 5, .inl s_py)), (h_free, .inl (E 1, 5000, .inl s_free)), (h_tips, .inl (E 0, 5000, .inl s_tips)), (h_far, .inl (E 0, 5000, .inl s_far)), (h_queue, .inl (E 0, 5000, .inl s_queue))]
set_option maxHeartbeats 4000000 in
set_option maxRecDepth 100000 in
theorem c_X8_toCell (l : Launch) (D : va_G) (E : Nat → ClassId) (tx : List (Nat × String)) (h_ h_g h_kept h_past h_path h_pose h_way h_px h_py h_free h_tips h_far h_queue h_times h_turns h_names h_named h_text h_told h_spare : Nat) (s_hasKept : Int32) (s_pasts : Int32) (s_pathMoves : Int32) (s_spot : Int32) (s_thrown : Int32) (s_faulty : Int32) (s_queued : Int32) (s_length : Int32) (s_at : Int32) (s_error : Int32) (s_tolds : Int32) (s_number : Int32) (s_g : Nat → Int32) (s_pose : Nat → Int32) (s_way : Nat → Int32) (s_px : Nat → Int32) (s_py : Nat → Int32) (s_free : Nat → Int32) (s_tips : Nat → Int32) (s_far : Nat → Int32) (s_queue : Nat → Int32) (x1 : Int32) (r0 : Int32) (r1 : Int32) (r2 : Nat → Int32) (r3 : Nat → Int32) (r4 : Nat → Int32) (r5 : Nat → Int32) (r6 : Nat → Int32) (r7 : Nat → Int32) (r8 : Nat → Int32) (r9 : Nat → Int32) (hf : f_X8_toCell s_faulty s_queued s_g s_pose s_way s_px s_py s_free s_tips s_far s_queue x1 = some (r0, r1, r2, r3, r4, r5, r6, r7, r8, r9)) : CV l yX8_toCell cX8_toCell 3 7 155 D E tx [.ref h_, .int x1] (w_X8_toCell E h_ h_g h_kept h_past h_path h_pose h_way h_px h_py h_free h_tips h_far h_queue h_times h_turns h_names h_named h_text h_told h_spare s_hasKept s_pasts s_pathMoves s_spot s_thrown s_faulty s_queued s_length s_at s_error s_tolds s_number s_g s_pose s_way s_px s_py s_free s_tips s_far s_queue) (w_X8_toCell E h_ h_g h_kept h_past h_path h_pose h_way h_px h_py h_free h_tips h_far h_queue h_times h_turns h_names h_named h_text h_told h_spare s_hasKept s_pasts s_pathMoves s_spot s_thrown r0 r1 s_length s_at s_error s_tolds s_number s_g r2 r3 r4 r5 r6 r7 r8 r9) := by
  refine CV_of RX8 pn_X8 rfl (Nat.le_of_ble_eq_true rfl) (fun p e s m args below meth c A Q hF hK hA hZ hW hret ls hl => ?_)
  have hx := hF.1
  have hb := hF.2.1
  have hl : lv_has ls 3 [(0, .ref h_), (1, .int x1)] := hl
  unfold f_X8_toCell at hf
  refine lv_aload_n hx hb dX8_toCell_0 rfl (lv_at hl 0 rfl) ?_
  obtain ⟨o_1, hc_1, hf⟩ := ob_bind hf
  refine q_callV hF hl.1 hK hA hZ hW mv_X8_laysAll ml_X8_228 (c_X8_laysAll l D E tx h_ h_g h_kept h_past h_path h_pose h_way h_px h_py h_free h_tips h_far h_queue h_times h_turns h_names h_named h_text h_told h_spare s_hasKept s_pasts s_pathMoves s_spot s_thrown s_faulty s_queued s_length s_at s_error s_tolds s_number s_g s_pose s_way s_px s_py s_free s_tips o_1.1 o_1.2.1 o_1.2.2.1 o_1.2.2.2.1 o_1.2.2.2.2.1 o_1.2.2.2.2.2.1 o_1.2.2.2.2.2.2 hc_1) [0, 1, 2, 3, 4, 5, 6, 7] rfl rfl rfl rfl rfl rfl ⟨Nat.le_of_ble_eq_true rfl, Nat.le_of_ble_eq_true rfl⟩ ⟨Nat.le_of_ble_eq_true rfl, Nat.le_of_ble_eq_true rfl⟩ rfl rfl (Nat.le_of_ble_eq_true rfl) dX8_toCell_1 (fun H locs hW => ?_)
  have hW : WD D A s (w_X8_toCell E h_ h_g h_kept h_past h_path h_pose h_way h_px h_py h_free h_tips h_far h_queue h_times h_turns h_names h_named h_text h_told h_spare s_hasKept s_pasts s_pathMoves s_spot s_thrown o_1.1 s_queued s_length s_at s_error s_tolds s_number s_g o_1.2.1 o_1.2.2.1 o_1.2.2.2.1 o_1.2.2.2.2.1 o_1.2.2.2.2.2.1 o_1.2.2.2.2.2.2 s_far s_queue) H locs := hW
  refine lv_aload_n hx hb dX8_toCell_4 rfl (lv_at hl 0 rfl) ?_
  obtain ⟨o_2, hc_2, hf⟩ := ob_bind hf
  refine q_callV hF hl.1 hK hA hZ hW mv_X8_forgets ml_X8_237 (c_X8_forgets l D E tx h_ h_g h_kept h_past h_path h_pose h_way h_px h_py h_free h_tips h_far h_queue h_times h_turns h_names h_named h_text h_told h_spare s_hasKept s_pasts s_pathMoves s_spot s_thrown o_1.1 s_queued s_length s_at s_error s_tolds s_number s_g s_far o_2.1 o_2.2 hc_2) [0, 1, 8] rfl rfl rfl rfl rfl rfl ⟨Nat.le_of_ble_eq_true rfl, Nat.le_of_ble_eq_true rfl⟩ ⟨Nat.le_of_ble_eq_true rfl, Nat.le_of_ble_eq_true rfl⟩ rfl rfl (Nat.le_of_ble_eq_true rfl) dX8_toCell_5 (fun H locs hW => ?_)
  have hW : WD D A s (w_X8_toCell E h_ h_g h_kept h_past h_path h_pose h_way h_px h_py h_free h_tips h_far h_queue h_times h_turns h_names h_named h_text h_told h_spare s_hasKept s_pasts s_pathMoves s_spot s_thrown o_1.1 o_2.1 s_length s_at s_error s_tolds s_number s_g o_1.2.1 o_1.2.2.1 o_1.2.2.2.1 o_1.2.2.2.2.1 o_1.2.2.2.2.2.1 o_1.2.2.2.2.2.2 o_2.2 s_queue) H locs := hW
  refine lv_iconst (v := 0) hx hb dX8_toCell_8 (by decide) ?_
  refine lv_istore_n (lv' := [(2, .int 0), (0, .ref h_), (1, .int x1)]) hx hb dX8_toCell_9 rfl hl (by decide) rfl (fun ls hl => ?_)
  have hB10 : ∀ (n : Nat) (s_queued_10 : Int32) (s_far_10 : Nat → Int32) (s_queue_10 : Nat → Int32) (z2_10 : Int32) (ex : Int32 × (Nat → Int32) × (Nat → Int32)) (H : Heap) (locs : List Loc) (ls : Array Slot), LPF (fun z => f_X8_toCell_B10 o_1.1 z.1 s_g o_1.2.1 o_1.2.2.1 o_1.2.2.2.1 o_1.2.2.2.2.1 o_1.2.2.2.2.2.1 o_1.2.2.2.2.2.2 z.2.1 z.2.2.1 x1 z.2.2.2) n (s_queued_10, s_far_10, s_queue_10, z2_10) = some ex → lv_has ls 3 [(0, .ref h_), (1, .int x1), (2, .int z2_10)] → WD D A s (w_X8_toCell E h_ h_g h_kept h_past h_path h_pose h_way h_px h_py h_free h_tips h_far h_queue h_times h_turns h_names h_named h_text h_told h_spare s_hasKept s_pasts s_pathMoves s_spot s_thrown o_1.1 s_queued_10 s_length s_at s_error s_tolds s_number s_g o_1.2.1 o_1.2.2.1 o_1.2.2.2.1 o_1.2.2.2.2.1 o_1.2.2.2.2.2.1 o_1.2.2.2.2.2.2 s_far_10 s_queue_10) H locs → (∀ (H : Heap) (locs : List Loc) (ls : Array Slot), lv_has ls 3 [(0, .ref h_)] → WD D A s (w_X8_toCell E h_ h_g h_kept h_past h_path h_pose h_way h_px h_py h_free h_tips h_far h_queue h_times h_turns h_names h_named h_text h_told h_spare s_hasKept s_pasts s_pathMoves s_spot s_thrown o_1.1 ex.1 s_length s_at s_error s_tolds s_number s_g o_1.2.1 o_1.2.2.1 o_1.2.2.2.1 o_1.2.2.2.2.1 o_1.2.2.2.2.2.1 o_1.2.2.2.2.2.2 ex.2.1 ex.2.2) H locs → W p l e (RM 7 155) s m args below meth c H locs 0 0 Q (F0 m 48 ls [])) → W p l e (RM 7 155) s m args below meth c H locs 0 0 Q (F0 m 10 ls []) := by
    intro n
    induction n with
    | zero => intro s_queued_10 s_far_10 s_queue_10 z2_10 ex H locs ls h9; exact (ob_lp0 h9).elim
    | succ n ih =>
      intro s_queued_10 s_far_10 s_queue_10 z2_10 ex H locs ls h9 hl hW kx0
      obtain ⟨q9, hf, h9, k9⟩ := ob_lp h9
      have hf : f_X8_toCell_B10 o_1.1 s_queued_10 s_g o_1.2.1 o_1.2.2.1 o_1.2.2.2.1 o_1.2.2.2.2.1 o_1.2.2.2.2.2.1 o_1.2.2.2.2.2.2 s_far_10 s_queue_10 x1 z2_10 = some q9 := hf
      unfold f_X8_toCell_B10 at hf
      refine lv_iload_n hx hb dX8_toCell_10 rfl (lv_at hl 2 rfl) ?_
      refine lv_aload_n hx hb dX8_toCell_11 rfl (lv_at hl 0 rfl) ?_
      obtain ⟨o_3, hc_3, hf⟩ := ob_bind hf
      refine q_callI hF hl.1 hK hA hZ hW mv_X8_poses ml_X8_133 (c_X8_poses l D E tx h_ h_g h_kept h_past h_path h_pose h_way h_px h_py h_free h_tips h_far h_queue h_times h_turns h_names h_named h_text h_told h_spare s_hasKept s_pasts s_pathMoves s_spot s_thrown o_1.1 s_queued_10 s_length s_at s_error s_tolds s_number s_g o_3 hc_3) [0, 1] rfl rfl rfl rfl rfl rfl ⟨Nat.le_of_ble_eq_true rfl, Nat.le_of_ble_eq_true rfl⟩ ⟨Nat.le_of_ble_eq_true rfl, Nat.le_of_ble_eq_true rfl⟩ rfl rfl (Nat.le_of_ble_eq_true rfl) dX8_toCell_12 (fun H locs hW => ?_)
      have hW : WD D A s (w_X8_toCell E h_ h_g h_kept h_past h_path h_pose h_way h_px h_py h_free h_tips h_far h_queue h_times h_turns h_names h_named h_text h_told h_spare s_hasKept s_pasts s_pathMoves s_spot s_thrown o_1.1 s_queued_10 s_length s_at s_error s_tolds s_number s_g o_1.2.1 o_1.2.2.1 o_1.2.2.2.1 o_1.2.2.2.2.1 o_1.2.2.2.2.2.1 o_1.2.2.2.2.2.2 s_far_10 s_queue_10) H locs := hW
      refine q_icmp_ge (tgt := 48) hx hb dX8_toCell_15 (by decide) hf (fun hf => ?_) (fun hf => ?_)
      · cases hf
        have hx9 := k9 _ rfl
        subst hx9
        exact kx0 _ _ _ (lv_sub hl [0] rfl) hW
      · refine lv_aload_n hx hb dX8_toCell_18 rfl (lv_at hl 0 rfl) ?_
        refine q_get hF hK hW fl_X8_38 0 rfl rfl dX8_toCell_19 ?_
        refine lv_iload_n hx hb dX8_toCell_22 rfl (lv_at hl 2 rfl) ?_
        refine q_zald hx hb hK hW 6 1 rfl rfl dX8_toCell_23 hf (fun hf => ?_)
        refine q_if_eq (tgt := 42) hx hb dX8_toCell_24 (by decide) hf (fun hf => ?_) (fun hf => ?_)
        · obtain ⟨v_4, ev_4⟩ : ∃ y : Int32, y = z2_10 + 1 := ⟨_, rfl⟩
          replace hf := ob_let hf ev_4
          refine lv_iinc (v := v_4) (lv' := [(2, .int v_4), (0, .ref h_), (1, .int x1)]) hx hb dX8_toCell_42 hl (k := 2) rfl (by rw [ev_4]; rfl) (by decide) rfl (fun ls hl => ?_)
          refine lv_goto (tgt := 10) hx hb dX8_toCell_45 (by decide) ?_
          cases hf
          exact ih s_queued_10 s_far_10 s_queue_10 v_4 ex _ _ _ (h9 _ rfl) (lv_sub hl [1, 2, 0] rfl) hW kx0
        · refine lv_aload_n hx hb dX8_toCell_27 rfl (lv_at hl 0 rfl) ?_
          refine q_get hF hK hW fl_X8_42 0 rfl rfl dX8_toCell_28 ?_
          refine lv_iload_n hx hb dX8_toCell_31 rfl (lv_at hl 2 rfl) ?_
          refine q_iald hx hb hK hW 7 0 rfl rfl dX8_toCell_32 hf (fun hf => ?_)
          refine lv_iload_n hx hb dX8_toCell_33 rfl (lv_at hl 1 rfl) ?_
          refine q_icmp_ne (tgt := 42) hx hb dX8_toCell_34 (by decide) hf (fun hf => ?_) (fun hf => ?_)
          · obtain ⟨v_5, ev_5⟩ : ∃ y : Int32, y = z2_10 + 1 := ⟨_, rfl⟩
            replace hf := ob_let hf ev_5
            refine lv_iinc (v := v_5) (lv' := [(2, .int v_5), (0, .ref h_), (1, .int x1)]) hx hb dX8_toCell_42 hl (k := 2) rfl (by rw [ev_5]; rfl) (by decide) rfl (fun ls hl => ?_)
            refine lv_goto (tgt := 10) hx hb dX8_toCell_45 (by decide) ?_
            cases hf
            exact ih s_queued_10 s_far_10 s_queue_10 v_5 ex _ _ _ (h9 _ rfl) (lv_sub hl [1, 2, 0] rfl) hW kx0
          · refine lv_aload_n hx hb dX8_toCell_37 rfl (lv_at hl 0 rfl) ?_
            refine lv_iload_n hx hb dX8_toCell_38 rfl (lv_at hl 2 rfl) ?_
            obtain ⟨o_6, hc_6, hf⟩ := ob_bind hf
            refine q_callV hF hl.1 hK hA hZ hW mv_X8_starts ml_X8_240 (c_X8_starts l D E tx h_ h_g h_kept h_past h_path h_pose h_way h_px h_py h_free h_tips h_far h_queue h_times h_turns h_names h_named h_text h_told h_spare s_hasKept s_pasts s_pathMoves s_spot s_thrown o_1.1 s_queued_10 s_length s_at s_error s_tolds s_number s_far_10 s_queue_10 z2_10 o_6.1 o_6.2.1 o_6.2.2 hc_6) [0, 8, 9] rfl rfl rfl rfl rfl rfl ⟨Nat.le_of_ble_eq_true rfl, Nat.le_of_ble_eq_true rfl⟩ ⟨Nat.le_of_ble_eq_true rfl, Nat.le_of_ble_eq_true rfl⟩ rfl rfl (Nat.le_of_ble_eq_true rfl) dX8_toCell_39 (fun H locs hW => ?_)
            have hW : WD D A s (w_X8_toCell E h_ h_g h_kept h_past h_path h_pose h_way h_px h_py h_free h_tips h_far h_queue h_times h_turns h_names h_named h_text h_told h_spare s_hasKept s_pasts s_pathMoves s_spot s_thrown o_1.1 o_6.1 s_length s_at s_error s_tolds s_number s_g o_1.2.1 o_1.2.2.1 o_1.2.2.2.1 o_1.2.2.2.2.1 o_1.2.2.2.2.2.1 o_1.2.2.2.2.2.2 o_6.2.1 o_6.2.2) H locs := hW
            obtain ⟨v_7, ev_7⟩ : ∃ y : Int32, y = z2_10 + 1 := ⟨_, rfl⟩
            replace hf := ob_let hf ev_7
            refine lv_iinc (v := v_7) (lv' := [(2, .int v_7), (0, .ref h_), (1, .int x1)]) hx hb dX8_toCell_42 hl (k := 2) rfl (by rw [ev_7]; rfl) (by decide) rfl (fun ls hl => ?_)
            refine lv_goto (tgt := 10) hx hb dX8_toCell_45 (by decide) ?_
            cases hf
            exact ih o_6.1 o_6.2.1 o_6.2.2 v_7 ex _ _ _ (h9 _ rfl) (lv_sub hl [1, 2, 0] rfl) hW kx0
  obtain ⟨e_8, hc_8, hf⟩ := ob_bind hf
  refine hB10 lfuel o_2.1 o_2.2 s_queue 0 e_8 _ _ _ hc_8 (lv_sub hl [1, 2, 0] rfl) hW ?_
  intro H locs ls hl hW
  refine lv_aload_n hx hb dX8_toCell_48 rfl (lv_at hl 0 rfl) ?_
  refine lv_iconst (v := 0) hx hb dX8_toCell_49 (by decide) ?_
  obtain ⟨o_9, hc_9, hf⟩ := ob_bind hf
  refine q_callV hF hl.1 hK hA hZ hW mv_X8_spreads ml_X8_243 (c_X8_spreads l D E tx h_ h_g h_kept h_past h_path h_pose h_way h_px h_py h_free h_tips h_far h_queue h_times h_turns h_names h_named h_text h_told h_spare s_hasKept s_pasts s_pathMoves s_spot s_thrown o_1.1 e_8.1 s_length s_at s_error s_tolds s_number s_g o_1.2.2.2.2.2.1 e_8.2.1 e_8.2.2 0 o_9.1 o_9.2.1 o_9.2.2 hc_9) [0, 1, 6, 8, 9] rfl rfl rfl rfl rfl rfl ⟨Nat.le_of_ble_eq_true rfl, Nat.le_of_ble_eq_true rfl⟩ ⟨Nat.le_of_ble_eq_true rfl, Nat.le_of_ble_eq_true rfl⟩ rfl rfl (Nat.le_of_ble_eq_true rfl) dX8_toCell_50 (fun H locs hW => ?_)
  have hW : WD D A s (w_X8_toCell E h_ h_g h_kept h_past h_path h_pose h_way h_px h_py h_free h_tips h_far h_queue h_times h_turns h_names h_named h_text h_told h_spare s_hasKept s_pasts s_pathMoves s_spot s_thrown o_1.1 o_9.1 s_length s_at s_error s_tolds s_number s_g o_1.2.1 o_1.2.2.1 o_1.2.2.2.1 o_1.2.2.2.2.1 o_1.2.2.2.2.2.1 o_1.2.2.2.2.2.2 o_9.2.1 o_9.2.2) H locs := hW
  cases hf
  exact hret dX8_toCell_53 hW
def w_X8_planToPose (E : Nat → ClassId) (h_ h_g h_kept h_past h_path h_pose h_way h_px h_py h_free h_tips h_far h_queue h_times h_turns h_names h_named h_text h_told h_spare : Nat) (s_hasKept : Int32) (s_pasts : Int32) (s_pathMoves : Int32) (s_spot : Int32) (s_thrown : Int32) (s_faulty : Int32) (s_queued : Int32) (s_length : Int32) (s_at : Int32) (s_error : Int32) (s_tolds : Int32) (s_number : Int32) (s_g : Nat → Int32) (s_path : Nat → Int32) (s_pose : Nat → Int32) (s_way : Nat → Int32) (s_px : Nat → Int32) (s_py : Nat → Int32) (s_free : Nat → Int32) (s_tips : Nat → Int32) (s_far : Nat → Int32) (s_queue : Nat → Int32) : va_W := [(h_, .inr (10, [.ref h_g, .ref h_kept, .int s_hasKept, .ref h_past, .int s_pasts, .ref h_path, .int s_pathMoves, .int s_spot, .int s_thrown, .ref h_pose, .ref h_way, .ref h_px, .ref h_py, .int s_faulty, .ref h_free, .ref h_tips, .ref h_far, .ref h_queue, .int s_queued, .ref h_times, .ref h_turns, .ref h_names, .ref h_named, .ref h_text, .int s_length, .int s_at, .int s_error, .ref h_told, .int s_tolds, .int s_number, .ref h_spare])), (h_g, .inl (E 0, 141, .inl s_g)), (h_path, .inl (E 0, 5000, .inl s_path)), (h_pose, .inl (E 0, 4, .inl s_pose)), (h_way, .inl (E 0, 4, .inl s_way)), (h_px, .inl (E 0, 5, .inl s_px)), (h_py, .inl (E 0, 5, .inl s_py)), (h_free, .inl (E 1, 5000, .inl s_free)), (h_tips, .inl (E 0, 5000, .inl s_tips)), (h_far, .inl (E 0, 5000, .inl s_far)), (h_queue, .inl (E 0, 5000, .inl s_queue))]
set_option maxHeartbeats 4000000 in
set_option maxRecDepth 100000 in
theorem c_X8_planToPose (l : Launch) (D : va_G) (E : Nat → ClassId) (tx : List (Nat × String)) (h_ h_g h_kept h_past h_path h_pose h_way h_px h_py h_free h_tips h_far h_queue h_times h_turns h_names h_named h_text h_told h_spare : Nat) (s_hasKept : Int32) (s_pasts : Int32) (s_pathMoves : Int32) (s_spot : Int32) (s_thrown : Int32) (s_faulty : Int32) (s_queued : Int32) (s_length : Int32) (s_at : Int32) (s_error : Int32) (s_tolds : Int32) (s_number : Int32) (s_g : Nat → Int32) (s_path : Nat → Int32) (s_pose : Nat → Int32) (s_way : Nat → Int32) (s_px : Nat → Int32) (s_py : Nat → Int32) (s_free : Nat → Int32) (s_tips : Nat → Int32) (s_far : Nat → Int32) (s_queue : Nat → Int32) (x1 : Int32) (r0 : Int32) (r1 : Int32) (r2 : Int32) (r3 : Int32) (r4 : Int32) (r5 : Int32) (r6 : Nat → Int32) (r7 : Nat → Int32) (r8 : Nat → Int32) (r9 : Nat → Int32) (r10 : Nat → Int32) (r11 : Nat → Int32) (r12 : Nat → Int32) (r13 : Nat → Int32) (r14 : Nat → Int32) (hf : f_X8_planToPose s_pathMoves s_spot s_thrown s_faulty s_queued s_g s_path s_pose s_way s_px s_py s_free s_tips s_far s_queue x1 = some (r0, r1, r2, r3, r4, r5, r6, r7, r8, r9, r10, r11, r12, r13, r14)) : CI l yX8_planToPose cX8_planToPose 2 (some .int) 8 176 D E tx [.ref h_, .int x1] (w_X8_planToPose E h_ h_g h_kept h_past h_path h_pose h_way h_px h_py h_free h_tips h_far h_queue h_times h_turns h_names h_named h_text h_told h_spare s_hasKept s_pasts s_pathMoves s_spot s_thrown s_faulty s_queued s_length s_at s_error s_tolds s_number s_g s_path s_pose s_way s_px s_py s_free s_tips s_far s_queue) (w_X8_planToPose E h_ h_g h_kept h_past h_path h_pose h_way h_px h_py h_free h_tips h_far h_queue h_times h_turns h_names h_named h_text h_told h_spare s_hasKept s_pasts r1 r2 r3 r4 r5 s_length s_at s_error s_tolds s_number s_g r6 r7 r8 r9 r10 r11 r12 r13 r14) r0 := by
  refine CI_of RX8 pn_X8 rfl (Nat.le_of_ble_eq_true rfl) (fun p e s m args below meth c A Q hF hK hA hZ hW hret ls hl => ?_)
  have hx := hF.1
  have hb := hF.2.1
  have hl : lv_has ls 2 [(0, .ref h_), (1, .int x1)] := hl
  unfold f_X8_planToPose at hf
  have hL25 : ∀ (s_pathMoves_25 : Int32) (s_spot_25 : Int32) (s_thrown_25 : Int32) (s_faulty_25 : Int32) (s_queued_25 : Int32) (s_path_25 : Nat → Int32) (s_pose_25 : Nat → Int32) (s_way_25 : Nat → Int32) (s_px_25 : Nat → Int32) (s_py_25 : Nat → Int32) (s_free_25 : Nat → Int32) (s_tips_25 : Nat → Int32) (s_far_25 : Nat → Int32) (s_queue_25 : Nat → Int32) (y1_25 : Int32) (k1_25 : Int32) (H : Heap) (locs : List Loc) (ls : Array Slot), f_X8_planToPose_L25 s_pathMoves_25 s_spot_25 s_thrown_25 s_faulty_25 s_queued_25 s_g s_path_25 s_pose_25 s_way_25 s_px_25 s_py_25 s_free_25 s_tips_25 s_far_25 s_queue_25 y1_25 k1_25 = some (r0, r1, r2, r3, r4, r5, r6, r7, r8, r9, r10, r11, r12, r13, r14) → lv_has ls 2 [(0, .ref h_), (1, .int y1_25)] → WD D A s (w_X8_planToPose E h_ h_g h_kept h_past h_path h_pose h_way h_px h_py h_free h_tips h_far h_queue h_times h_turns h_names h_named h_text h_told h_spare s_hasKept s_pasts s_pathMoves_25 s_spot_25 s_thrown_25 s_faulty_25 s_queued_25 s_length s_at s_error s_tolds s_number s_g s_path_25 s_pose_25 s_way_25 s_px_25 s_py_25 s_free_25 s_tips_25 s_far_25 s_queue_25) H locs → W p l e (RM 8 176) s m args below meth c H locs 0 0 Q (F0 m 25 ls [.int k1_25, .ref h_]) := by
    intro s_pathMoves_25 s_spot_25 s_thrown_25 s_faulty_25 s_queued_25 s_path_25 s_pose_25 s_way_25 s_px_25 s_py_25 s_free_25 s_tips_25 s_far_25 s_queue_25 y1_25 k1_25 H locs ls hf hl hW
    unfold f_X8_planToPose_L25 at hf
    refine q_put hF hK hW fl_X8_76 ft_X8 rfl 0 rfl rfl rfl (Nat.le_of_ble_eq_true rfl) dX8_planToPose_25 (fun H locs hW => ?_)
    have hW : WD D A s (w_X8_planToPose E h_ h_g h_kept h_past h_path h_pose h_way h_px h_py h_free h_tips h_far h_queue h_times h_turns h_names h_named h_text h_told h_spare s_hasKept s_pasts s_pathMoves_25 s_spot_25 k1_25 s_faulty_25 s_queued_25 s_length s_at s_error s_tolds s_number s_g s_path_25 s_pose_25 s_way_25 s_px_25 s_py_25 s_free_25 s_tips_25 s_far_25 s_queue_25) H locs := hW
    refine lv_aload_n hx hb dX8_planToPose_28 rfl (lv_at hl 0 rfl) ?_
    refine q_get hF hK hW fl_X8_76 0 rfl rfl dX8_planToPose_29 ?_
    refine q_if_le (tgt := 37) hx hb dX8_planToPose_32 (by decide) hf (fun hf => ?_) (fun hf => ?_)
    · refine lv_aload_n hx hb dX8_planToPose_37 rfl (lv_at hl 0 rfl) ?_
      refine lv_iload_n hx hb dX8_planToPose_38 rfl (lv_at hl 1 rfl) ?_
      obtain ⟨o_1, hc_1, hf⟩ := ob_bind hf
      refine q_callV hF hl.1 hK hA hZ hW mv_X8_toPose ml_X8_258 (c_X8_toPose l D E tx h_ h_g h_kept h_past h_path h_pose h_way h_px h_py h_free h_tips h_far h_queue h_times h_turns h_names h_named h_text h_told h_spare s_hasKept s_pasts s_pathMoves_25 s_spot_25 k1_25 s_faulty_25 s_queued_25 s_length s_at s_error s_tolds s_number s_g s_pose_25 s_way_25 s_px_25 s_py_25 s_free_25 s_tips_25 s_far_25 s_queue_25 y1_25 o_1.1 o_1.2.1 o_1.2.2.1 o_1.2.2.2.1 o_1.2.2.2.2.1 o_1.2.2.2.2.2.1 o_1.2.2.2.2.2.2.1 o_1.2.2.2.2.2.2.2.1 o_1.2.2.2.2.2.2.2.2.1 o_1.2.2.2.2.2.2.2.2.2 hc_1) [0, 1, 3, 4, 5, 6, 7, 8, 9, 10] rfl rfl rfl rfl rfl rfl ⟨Nat.le_of_ble_eq_true rfl, Nat.le_of_ble_eq_true rfl⟩ ⟨Nat.le_of_ble_eq_true rfl, Nat.le_of_ble_eq_true rfl⟩ rfl rfl (Nat.le_of_ble_eq_true rfl) dX8_planToPose_39 (fun H locs hW => ?_)
      have hW : WD D A s (w_X8_planToPose E h_ h_g h_kept h_past h_path h_pose h_way h_px h_py h_free h_tips h_far h_queue h_times h_turns h_names h_named h_text h_told h_spare s_hasKept s_pasts s_pathMoves_25 s_spot_25 k1_25 o_1.1 o_1.2.1 s_length s_at s_error s_tolds s_number s_g s_path_25 o_1.2.2.1 o_1.2.2.2.1 o_1.2.2.2.2.1 o_1.2.2.2.2.2.1 o_1.2.2.2.2.2.2.1 o_1.2.2.2.2.2.2.2.1 o_1.2.2.2.2.2.2.2.2.1 o_1.2.2.2.2.2.2.2.2.2) H locs := hW
      refine lv_aload_n hx hb dX8_planToPose_42 rfl (lv_at hl 0 rfl) ?_
      obtain ⟨o_2, hc_2, hf⟩ := ob_bind hf
      refine q_callI hF hl.1 hK hA hZ hW mv_X8_leads ml_X8_261 (c_X8_leads l D E tx h_ h_g h_kept h_past h_path h_pose h_way h_px h_py h_free h_tips h_far h_queue h_times h_turns h_names h_named h_text h_told h_spare s_hasKept s_pasts s_pathMoves_25 s_spot_25 k1_25 o_1.1 o_1.2.1 s_length s_at s_error s_tolds s_number s_g s_path_25 o_1.2.2.2.2.2.2.1 o_1.2.2.2.2.2.2.2.2.1 o_2.1 o_2.2.1 o_2.2.2.1 o_2.2.2.2 hc_2) [0, 1, 2, 7, 9] rfl rfl rfl rfl rfl rfl ⟨Nat.le_of_ble_eq_true rfl, Nat.le_of_ble_eq_true rfl⟩ ⟨Nat.le_of_ble_eq_true rfl, Nat.le_of_ble_eq_true rfl⟩ rfl rfl (Nat.le_of_ble_eq_true rfl) dX8_planToPose_43 (fun H locs hW => ?_)
      have hW : WD D A s (w_X8_planToPose E h_ h_g h_kept h_past h_path h_pose h_way h_px h_py h_free h_tips h_far h_queue h_times h_turns h_names h_named h_text h_told h_spare s_hasKept s_pasts o_2.2.1 o_2.2.2.1 k1_25 o_1.1 o_1.2.1 s_length s_at s_error s_tolds s_number s_g o_2.2.2.2 o_1.2.2.1 o_1.2.2.2.1 o_1.2.2.2.2.1 o_1.2.2.2.2.2.1 o_1.2.2.2.2.2.2.1 o_1.2.2.2.2.2.2.2.1 o_1.2.2.2.2.2.2.2.2.1 o_1.2.2.2.2.2.2.2.2.2) H locs := hW
      refine q_if_eq (tgt := 56) hx hb dX8_planToPose_46 (by decide) hf (fun hf => ?_) (fun hf => ?_)
      · refine lv_aload_n hx hb dX8_planToPose_56 rfl (lv_at hl 0 rfl) ?_
        refine lv_iconst (v := 3) hx hb dX8_planToPose_57 (by decide) ?_
        obtain ⟨o_3, hc_3, hf⟩ := ob_bind hf
        refine q_callI hF hl.1 hK hA hZ hW mv_X8_fails ml_X8_86 (c_X8_fails l D E tx h_ h_g h_kept h_past h_path h_pose h_way h_px h_py h_free h_tips h_far h_queue h_times h_turns h_names h_named h_text h_told h_spare s_hasKept s_pasts o_2.2.1 o_2.2.2.1 k1_25 o_1.1 o_1.2.1 s_length s_at s_error s_tolds s_number 3 o_3.1 o_3.2 hc_3) [0] rfl rfl rfl rfl rfl rfl ⟨Nat.le_of_ble_eq_true rfl, Nat.le_of_ble_eq_true rfl⟩ ⟨Nat.le_of_ble_eq_true rfl, Nat.le_of_ble_eq_true rfl⟩ rfl rfl (Nat.le_of_ble_eq_true rfl) dX8_planToPose_58 (fun H locs hW => ?_)
        have hW : WD D A s (w_X8_planToPose E h_ h_g h_kept h_past h_path h_pose h_way h_px h_py h_free h_tips h_far h_queue h_times h_turns h_names h_named h_text h_told h_spare s_hasKept s_pasts o_2.2.1 o_2.2.2.1 o_3.2 o_1.1 o_1.2.1 s_length s_at s_error s_tolds s_number s_g o_2.2.2.2 o_1.2.2.1 o_1.2.2.2.1 o_1.2.2.2.2.1 o_1.2.2.2.2.2.1 o_1.2.2.2.2.2.2.1 o_1.2.2.2.2.2.2.2.1 o_1.2.2.2.2.2.2.2.2.1 o_1.2.2.2.2.2.2.2.2.2) H locs := hW
        cases hf
        exact hret dX8_planToPose_61 rfl rfl hW
      · refine lv_aload_n hx hb dX8_planToPose_49 rfl (lv_at hl 0 rfl) ?_
        refine q_get hF hK hW fl_X8_22 0 rfl rfl dX8_planToPose_50 ?_
        refine lv_goto (tgt := 61) hx hb dX8_planToPose_53 (by decide) ?_
        cases hf
        exact hret dX8_planToPose_61 rfl rfl hW
    · refine lv_iconst (v := 0) hx hb dX8_planToPose_35 (by decide) ?_
      cases hf
      exact hret dX8_planToPose_36 rfl rfl hW
  refine lv_aload_n hx hb dX8_planToPose_0 rfl (lv_at hl 0 rfl) ?_
  refine lv_aload_n hx hb dX8_planToPose_1 rfl (lv_at hl 0 rfl) ?_
  refine lv_iload_n hx hb dX8_planToPose_2 rfl (lv_at hl 1 rfl) ?_
  obtain ⟨o_4, hc_4, hf⟩ := ob_bind hf
  refine q_callI hF hl.1 hK hA hZ hW mv_X8_isPose ml_X8_231 (c_X8_isPose l D E tx h_ h_g h_kept h_past h_path h_pose h_way h_px h_py h_free h_tips h_far h_queue h_times h_turns h_names h_named h_text h_told h_spare s_hasKept s_pasts s_pathMoves s_spot s_thrown s_faulty s_queued s_length s_at s_error s_tolds s_number s_g x1 o_4 hc_4) [0, 1] rfl rfl rfl rfl rfl rfl ⟨Nat.le_of_ble_eq_true rfl, Nat.le_of_ble_eq_true rfl⟩ ⟨Nat.le_of_ble_eq_true rfl, Nat.le_of_ble_eq_true rfl⟩ rfl rfl (Nat.le_of_ble_eq_true rfl) dX8_planToPose_3 (fun H locs hW => ?_)
  have hW : WD D A s (w_X8_planToPose E h_ h_g h_kept h_past h_path h_pose h_way h_px h_py h_free h_tips h_far h_queue h_times h_turns h_names h_named h_text h_told h_spare s_hasKept s_pasts s_pathMoves s_spot s_thrown s_faulty s_queued s_length s_at s_error s_tolds s_number s_g s_path s_pose s_way s_px s_py s_free s_tips s_far s_queue) H locs := hW
  refine q_if_eq (tgt := 24) hx hb dX8_planToPose_6 (by decide) hf (fun hf => ?_) (fun hf => ?_)
  · refine lv_iconst (v := 1) hx hb dX8_planToPose_24 (by decide) ?_
    exact hL25 s_pathMoves s_spot s_thrown s_faulty s_queued s_path s_pose s_way s_px s_py s_free s_tips s_far s_queue x1 1 _ _ _ hf (lv_sub hl [0, 1] rfl) hW
  · refine lv_aload_n hx hb dX8_planToPose_9 rfl (lv_at hl 0 rfl) ?_
    obtain ⟨o_5, hc_5, hf⟩ := ob_bind hf
    refine q_callI hF hl.1 hK hA hZ hW mv_X8_isMany ml_X8_222 (c_X8_isMany l D E tx h_ h_g h_kept h_past h_path h_pose h_way h_px h_py h_free h_tips h_far h_queue h_times h_turns h_names h_named h_text h_told h_spare s_hasKept s_pasts s_pathMoves s_spot s_thrown s_faulty s_queued s_length s_at s_error s_tolds s_number s_g o_5 hc_5) [0, 1] rfl rfl rfl rfl rfl rfl ⟨Nat.le_of_ble_eq_true rfl, Nat.le_of_ble_eq_true rfl⟩ ⟨Nat.le_of_ble_eq_true rfl, Nat.le_of_ble_eq_true rfl⟩ rfl rfl (Nat.le_of_ble_eq_true rfl) dX8_planToPose_10 (fun H locs hW => ?_)
    have hW : WD D A s (w_X8_planToPose E h_ h_g h_kept h_past h_path h_pose h_way h_px h_py h_free h_tips h_far h_queue h_times h_turns h_names h_named h_text h_told h_spare s_hasKept s_pasts s_pathMoves s_spot s_thrown s_faulty s_queued s_length s_at s_error s_tolds s_number s_g s_path s_pose s_way s_px s_py s_free s_tips s_far s_queue) H locs := hW
    refine q_if_eq (tgt := 20) hx hb dX8_planToPose_13 (by decide) hf (fun hf => ?_) (fun hf => ?_)
    · refine lv_iconst (v := 0) hx hb dX8_planToPose_20 (by decide) ?_
      refine lv_goto (tgt := 25) hx hb dX8_planToPose_21 (by decide) ?_
      exact hL25 s_pathMoves s_spot s_thrown s_faulty s_queued s_path s_pose s_way s_px s_py s_free s_tips s_far s_queue x1 0 _ _ _ hf (lv_sub hl [0, 1] rfl) hW
    · refine lv_iconst (v := 2) hx hb dX8_planToPose_16 (by decide) ?_
      refine lv_goto (tgt := 25) hx hb dX8_planToPose_17 (by decide) ?_
      exact hL25 s_pathMoves s_spot s_thrown s_faulty s_queued s_path s_pose s_way s_px s_py s_free s_tips s_far s_queue x1 2 _ _ _ hf (lv_sub hl [0, 1] rfl) hW
def w_X8_planToCell (E : Nat → ClassId) (h_ h_g h_kept h_past h_path h_pose h_way h_px h_py h_free h_tips h_far h_queue h_times h_turns h_names h_named h_text h_told h_spare : Nat) (s_hasKept : Int32) (s_pasts : Int32) (s_pathMoves : Int32) (s_spot : Int32) (s_thrown : Int32) (s_faulty : Int32) (s_queued : Int32) (s_length : Int32) (s_at : Int32) (s_error : Int32) (s_tolds : Int32) (s_number : Int32) (s_g : Nat → Int32) (s_path : Nat → Int32) (s_pose : Nat → Int32) (s_way : Nat → Int32) (s_px : Nat → Int32) (s_py : Nat → Int32) (s_free : Nat → Int32) (s_tips : Nat → Int32) (s_far : Nat → Int32) (s_queue : Nat → Int32) : va_W := [(h_, .inr (10, [.ref h_g, .ref h_kept, .int s_hasKept, .ref h_past, .int s_pasts, .ref h_path, .int s_pathMoves, .int s_spot, .int s_thrown, .ref h_pose, .ref h_way, .ref h_px, .ref h_py, .int s_faulty, .ref h_free, .ref h_tips, .ref h_far, .ref h_queue, .int s_queued, .ref h_times, .ref h_turns, .ref h_names, .ref h_named, .ref h_text, .int s_length, .int s_at, .int s_error, .ref h_told, .int s_tolds, .int s_number, .ref h_spare])), (h_g, .inl (E 0, 141, .inl s_g)), (h_path, .inl (E 0, 5000, .inl s_path)), (h_pose, .inl (E 0, 4, .inl s_pose)), (h_way, .inl (E 0, 4, .inl s_way)), (h_px, .inl (E 0, 5, .inl s_px)), (h_py, .inl (E 0, 5, .inl s_py)), (h_free, .inl (E 1, 5000, .inl s_free)), (h_tips, .inl (E 0, 5000, .inl s_tips)), (h_far, .inl (E 0, 5000, .inl s_far)), (h_queue, .inl (E 0, 5000, .inl s_queue))]
set_option maxHeartbeats 4000000 in
set_option maxRecDepth 100000 in
theorem c_X8_planToCell (l : Launch) (D : va_G) (E : Nat → ClassId) (tx : List (Nat × String)) (h_ h_g h_kept h_past h_path h_pose h_way h_px h_py h_free h_tips h_far h_queue h_times h_turns h_names h_named h_text h_told h_spare : Nat) (s_hasKept : Int32) (s_pasts : Int32) (s_pathMoves : Int32) (s_spot : Int32) (s_thrown : Int32) (s_faulty : Int32) (s_queued : Int32) (s_length : Int32) (s_at : Int32) (s_error : Int32) (s_tolds : Int32) (s_number : Int32) (s_g : Nat → Int32) (s_path : Nat → Int32) (s_pose : Nat → Int32) (s_way : Nat → Int32) (s_px : Nat → Int32) (s_py : Nat → Int32) (s_free : Nat → Int32) (s_tips : Nat → Int32) (s_far : Nat → Int32) (s_queue : Nat → Int32) (x1 : Int32) (x2 : Int32) (r0 : Int32) (r1 : Int32) (r2 : Int32) (r3 : Int32) (r4 : Int32) (r5 : Int32) (r6 : Nat → Int32) (r7 : Nat → Int32) (r8 : Nat → Int32) (r9 : Nat → Int32) (r10 : Nat → Int32) (r11 : Nat → Int32) (r12 : Nat → Int32) (r13 : Nat → Int32) (r14 : Nat → Int32) (hf : f_X8_planToCell s_pathMoves s_spot s_thrown s_faulty s_queued s_g s_path s_pose s_way s_px s_py s_free s_tips s_far s_queue x1 x2 = some (r0, r1, r2, r3, r4, r5, r6, r7, r8, r9, r10, r11, r12, r13, r14)) : CI l yX8_planToCell cX8_planToCell 3 (some .int) 8 177 D E tx [.ref h_, .int x1, .int x2] (w_X8_planToCell E h_ h_g h_kept h_past h_path h_pose h_way h_px h_py h_free h_tips h_far h_queue h_times h_turns h_names h_named h_text h_told h_spare s_hasKept s_pasts s_pathMoves s_spot s_thrown s_faulty s_queued s_length s_at s_error s_tolds s_number s_g s_path s_pose s_way s_px s_py s_free s_tips s_far s_queue) (w_X8_planToCell E h_ h_g h_kept h_past h_path h_pose h_way h_px h_py h_free h_tips h_far h_queue h_times h_turns h_names h_named h_text h_told h_spare s_hasKept s_pasts r1 r2 r3 r4 r5 s_length s_at s_error s_tolds s_number s_g r6 r7 r8 r9 r10 r11 r12 r13 r14) r0 := by
  refine CI_of RX8 pn_X8 rfl (Nat.le_of_ble_eq_true rfl) (fun p e s m args below meth c A Q hF hK hA hZ hW hret ls hl => ?_)
  have hx := hF.1
  have hb := hF.2.1
  have hl : lv_has ls 3 [(0, .ref h_), (1, .int x1), (2, .int x2)] := hl
  unfold f_X8_planToCell at hf
  have hL25 : ∀ (s_pathMoves_25 : Int32) (s_spot_25 : Int32) (s_thrown_25 : Int32) (s_faulty_25 : Int32) (s_queued_25 : Int32) (s_path_25 : Nat → Int32) (s_pose_25 : Nat → Int32) (s_way_25 : Nat → Int32) (s_px_25 : Nat → Int32) (s_py_25 : Nat → Int32) (s_free_25 : Nat → Int32) (s_tips_25 : Nat → Int32) (s_far_25 : Nat → Int32) (s_queue_25 : Nat → Int32) (y1_25 : Int32) (y2_25 : Int32) (k1_25 : Int32) (H : Heap) (locs : List Loc) (ls : Array Slot), f_X8_planToCell_L25 s_pathMoves_25 s_spot_25 s_thrown_25 s_faulty_25 s_queued_25 s_g s_path_25 s_pose_25 s_way_25 s_px_25 s_py_25 s_free_25 s_tips_25 s_far_25 s_queue_25 y1_25 y2_25 k1_25 = some (r0, r1, r2, r3, r4, r5, r6, r7, r8, r9, r10, r11, r12, r13, r14) → lv_has ls 3 [(0, .ref h_), (1, .int y1_25), (2, .int y2_25)] → WD D A s (w_X8_planToCell E h_ h_g h_kept h_past h_path h_pose h_way h_px h_py h_free h_tips h_far h_queue h_times h_turns h_names h_named h_text h_told h_spare s_hasKept s_pasts s_pathMoves_25 s_spot_25 s_thrown_25 s_faulty_25 s_queued_25 s_length s_at s_error s_tolds s_number s_g s_path_25 s_pose_25 s_way_25 s_px_25 s_py_25 s_free_25 s_tips_25 s_far_25 s_queue_25) H locs → W p l e (RM 8 177) s m args below meth c H locs 0 0 Q (F0 m 25 ls [.int k1_25, .ref h_]) := by
    intro s_pathMoves_25 s_spot_25 s_thrown_25 s_faulty_25 s_queued_25 s_path_25 s_pose_25 s_way_25 s_px_25 s_py_25 s_free_25 s_tips_25 s_far_25 s_queue_25 y1_25 y2_25 k1_25 H locs ls hf hl hW
    unfold f_X8_planToCell_L25 at hf
    refine q_put hF hK hW fl_X8_76 ft_X8 rfl 0 rfl rfl rfl (Nat.le_of_ble_eq_true rfl) dX8_planToCell_25 (fun H locs hW => ?_)
    have hW : WD D A s (w_X8_planToCell E h_ h_g h_kept h_past h_path h_pose h_way h_px h_py h_free h_tips h_far h_queue h_times h_turns h_names h_named h_text h_told h_spare s_hasKept s_pasts s_pathMoves_25 s_spot_25 k1_25 s_faulty_25 s_queued_25 s_length s_at s_error s_tolds s_number s_g s_path_25 s_pose_25 s_way_25 s_px_25 s_py_25 s_free_25 s_tips_25 s_far_25 s_queue_25) H locs := hW
    refine lv_aload_n hx hb dX8_planToCell_28 rfl (lv_at hl 0 rfl) ?_
    refine q_get hF hK hW fl_X8_76 0 rfl rfl dX8_planToCell_29 ?_
    refine q_if_le (tgt := 37) hx hb dX8_planToCell_32 (by decide) hf (fun hf => ?_) (fun hf => ?_)
    · refine lv_aload_n hx hb dX8_planToCell_37 rfl (lv_at hl 0 rfl) ?_
      refine lv_iload_n hx hb dX8_planToCell_38 rfl (lv_at hl 1 rfl) ?_
      refine lv_iload_n hx hb dX8_planToCell_39 rfl (lv_at hl 2 rfl) ?_
      obtain ⟨o_1, hc_1, hf⟩ := ob_bind hf
      refine q_callSI hF hl.1 hK hA hZ hW ms_X8_cellOf ml_X8_219 (c_X8_cellOf l D E tx y1_25 y2_25 o_1 hc_1) [] rfl rfl rfl ⟨Nat.le_of_ble_eq_true rfl, Nat.le_of_ble_eq_true rfl⟩ ⟨Nat.le_of_ble_eq_true rfl, Nat.le_of_ble_eq_true rfl⟩ rfl rfl (Nat.le_of_ble_eq_true rfl) dX8_planToCell_40 (fun H locs hW => ?_)
      have hW : WD D A s (w_X8_planToCell E h_ h_g h_kept h_past h_path h_pose h_way h_px h_py h_free h_tips h_far h_queue h_times h_turns h_names h_named h_text h_told h_spare s_hasKept s_pasts s_pathMoves_25 s_spot_25 k1_25 s_faulty_25 s_queued_25 s_length s_at s_error s_tolds s_number s_g s_path_25 s_pose_25 s_way_25 s_px_25 s_py_25 s_free_25 s_tips_25 s_far_25 s_queue_25) H locs := hW
      obtain ⟨o_2, hc_2, hf⟩ := ob_bind hf
      refine q_callV hF hl.1 hK hA hZ hW mv_X8_toCell ml_X8_264 (c_X8_toCell l D E tx h_ h_g h_kept h_past h_path h_pose h_way h_px h_py h_free h_tips h_far h_queue h_times h_turns h_names h_named h_text h_told h_spare s_hasKept s_pasts s_pathMoves_25 s_spot_25 k1_25 s_faulty_25 s_queued_25 s_length s_at s_error s_tolds s_number s_g s_pose_25 s_way_25 s_px_25 s_py_25 s_free_25 s_tips_25 s_far_25 s_queue_25 o_1 o_2.1 o_2.2.1 o_2.2.2.1 o_2.2.2.2.1 o_2.2.2.2.2.1 o_2.2.2.2.2.2.1 o_2.2.2.2.2.2.2.1 o_2.2.2.2.2.2.2.2.1 o_2.2.2.2.2.2.2.2.2.1 o_2.2.2.2.2.2.2.2.2.2 hc_2) [0, 1, 3, 4, 5, 6, 7, 8, 9, 10] rfl rfl rfl rfl rfl rfl ⟨Nat.le_of_ble_eq_true rfl, Nat.le_of_ble_eq_true rfl⟩ ⟨Nat.le_of_ble_eq_true rfl, Nat.le_of_ble_eq_true rfl⟩ rfl rfl (Nat.le_of_ble_eq_true rfl) dX8_planToCell_43 (fun H locs hW => ?_)
      have hW : WD D A s (w_X8_planToCell E h_ h_g h_kept h_past h_path h_pose h_way h_px h_py h_free h_tips h_far h_queue h_times h_turns h_names h_named h_text h_told h_spare s_hasKept s_pasts s_pathMoves_25 s_spot_25 k1_25 o_2.1 o_2.2.1 s_length s_at s_error s_tolds s_number s_g s_path_25 o_2.2.2.1 o_2.2.2.2.1 o_2.2.2.2.2.1 o_2.2.2.2.2.2.1 o_2.2.2.2.2.2.2.1 o_2.2.2.2.2.2.2.2.1 o_2.2.2.2.2.2.2.2.2.1 o_2.2.2.2.2.2.2.2.2.2) H locs := hW
      refine lv_aload_n hx hb dX8_planToCell_46 rfl (lv_at hl 0 rfl) ?_
      obtain ⟨o_3, hc_3, hf⟩ := ob_bind hf
      refine q_callI hF hl.1 hK hA hZ hW mv_X8_leads ml_X8_261 (c_X8_leads l D E tx h_ h_g h_kept h_past h_path h_pose h_way h_px h_py h_free h_tips h_far h_queue h_times h_turns h_names h_named h_text h_told h_spare s_hasKept s_pasts s_pathMoves_25 s_spot_25 k1_25 o_2.1 o_2.2.1 s_length s_at s_error s_tolds s_number s_g s_path_25 o_2.2.2.2.2.2.2.1 o_2.2.2.2.2.2.2.2.2.1 o_3.1 o_3.2.1 o_3.2.2.1 o_3.2.2.2 hc_3) [0, 1, 2, 7, 9] rfl rfl rfl rfl rfl rfl ⟨Nat.le_of_ble_eq_true rfl, Nat.le_of_ble_eq_true rfl⟩ ⟨Nat.le_of_ble_eq_true rfl, Nat.le_of_ble_eq_true rfl⟩ rfl rfl (Nat.le_of_ble_eq_true rfl) dX8_planToCell_47 (fun H locs hW => ?_)
      have hW : WD D A s (w_X8_planToCell E h_ h_g h_kept h_past h_path h_pose h_way h_px h_py h_free h_tips h_far h_queue h_times h_turns h_names h_named h_text h_told h_spare s_hasKept s_pasts o_3.2.1 o_3.2.2.1 k1_25 o_2.1 o_2.2.1 s_length s_at s_error s_tolds s_number s_g o_3.2.2.2 o_2.2.2.1 o_2.2.2.2.1 o_2.2.2.2.2.1 o_2.2.2.2.2.2.1 o_2.2.2.2.2.2.2.1 o_2.2.2.2.2.2.2.2.1 o_2.2.2.2.2.2.2.2.2.1 o_2.2.2.2.2.2.2.2.2.2) H locs := hW
      refine q_if_eq (tgt := 60) hx hb dX8_planToCell_50 (by decide) hf (fun hf => ?_) (fun hf => ?_)
      · refine lv_aload_n hx hb dX8_planToCell_60 rfl (lv_at hl 0 rfl) ?_
        refine lv_iconst (v := 3) hx hb dX8_planToCell_61 (by decide) ?_
        obtain ⟨o_4, hc_4, hf⟩ := ob_bind hf
        refine q_callI hF hl.1 hK hA hZ hW mv_X8_fails ml_X8_86 (c_X8_fails l D E tx h_ h_g h_kept h_past h_path h_pose h_way h_px h_py h_free h_tips h_far h_queue h_times h_turns h_names h_named h_text h_told h_spare s_hasKept s_pasts o_3.2.1 o_3.2.2.1 k1_25 o_2.1 o_2.2.1 s_length s_at s_error s_tolds s_number 3 o_4.1 o_4.2 hc_4) [0] rfl rfl rfl rfl rfl rfl ⟨Nat.le_of_ble_eq_true rfl, Nat.le_of_ble_eq_true rfl⟩ ⟨Nat.le_of_ble_eq_true rfl, Nat.le_of_ble_eq_true rfl⟩ rfl rfl (Nat.le_of_ble_eq_true rfl) dX8_planToCell_62 (fun H locs hW => ?_)
        have hW : WD D A s (w_X8_planToCell E h_ h_g h_kept h_past h_path h_pose h_way h_px h_py h_free h_tips h_far h_queue h_times h_turns h_names h_named h_text h_told h_spare s_hasKept s_pasts o_3.2.1 o_3.2.2.1 o_4.2 o_2.1 o_2.2.1 s_length s_at s_error s_tolds s_number s_g o_3.2.2.2 o_2.2.2.1 o_2.2.2.2.1 o_2.2.2.2.2.1 o_2.2.2.2.2.2.1 o_2.2.2.2.2.2.2.1 o_2.2.2.2.2.2.2.2.1 o_2.2.2.2.2.2.2.2.2.1 o_2.2.2.2.2.2.2.2.2.2) H locs := hW
        cases hf
        exact hret dX8_planToCell_65 rfl rfl hW
      · refine lv_aload_n hx hb dX8_planToCell_53 rfl (lv_at hl 0 rfl) ?_
        refine q_get hF hK hW fl_X8_22 0 rfl rfl dX8_planToCell_54 ?_
        refine lv_goto (tgt := 65) hx hb dX8_planToCell_57 (by decide) ?_
        cases hf
        exact hret dX8_planToCell_65 rfl rfl hW
    · refine lv_iconst (v := 0) hx hb dX8_planToCell_35 (by decide) ?_
      cases hf
      exact hret dX8_planToCell_36 rfl rfl hW
  refine lv_aload_n hx hb dX8_planToCell_0 rfl (lv_at hl 0 rfl) ?_
  refine lv_iload_n hx hb dX8_planToCell_1 rfl (lv_at hl 1 rfl) ?_
  refine lv_iload_n hx hb dX8_planToCell_2 rfl (lv_at hl 2 rfl) ?_
  obtain ⟨o_5, hc_5, hf⟩ := ob_bind hf
  refine q_callSI hF hl.1 hK hA hZ hW ms_X8_isCell ml_X8_109 (c_X8_isCell l D E tx x1 x2 o_5 hc_5) [] rfl rfl rfl ⟨Nat.le_of_ble_eq_true rfl, Nat.le_of_ble_eq_true rfl⟩ ⟨Nat.le_of_ble_eq_true rfl, Nat.le_of_ble_eq_true rfl⟩ rfl rfl (Nat.le_of_ble_eq_true rfl) dX8_planToCell_3 (fun H locs hW => ?_)
  have hW : WD D A s (w_X8_planToCell E h_ h_g h_kept h_past h_path h_pose h_way h_px h_py h_free h_tips h_far h_queue h_times h_turns h_names h_named h_text h_told h_spare s_hasKept s_pasts s_pathMoves s_spot s_thrown s_faulty s_queued s_length s_at s_error s_tolds s_number s_g s_path s_pose s_way s_px s_py s_free s_tips s_far s_queue) H locs := hW
  refine q_if_eq (tgt := 24) hx hb dX8_planToCell_6 (by decide) hf (fun hf => ?_) (fun hf => ?_)
  · refine lv_iconst (v := 1) hx hb dX8_planToCell_24 (by decide) ?_
    exact hL25 s_pathMoves s_spot s_thrown s_faulty s_queued s_path s_pose s_way s_px s_py s_free s_tips s_far s_queue x1 x2 1 _ _ _ hf (lv_sub hl [0, 1, 2] rfl) hW
  · refine lv_aload_n hx hb dX8_planToCell_9 rfl (lv_at hl 0 rfl) ?_
    obtain ⟨o_6, hc_6, hf⟩ := ob_bind hf
    refine q_callI hF hl.1 hK hA hZ hW mv_X8_isMany ml_X8_222 (c_X8_isMany l D E tx h_ h_g h_kept h_past h_path h_pose h_way h_px h_py h_free h_tips h_far h_queue h_times h_turns h_names h_named h_text h_told h_spare s_hasKept s_pasts s_pathMoves s_spot s_thrown s_faulty s_queued s_length s_at s_error s_tolds s_number s_g o_6 hc_6) [0, 1] rfl rfl rfl rfl rfl rfl ⟨Nat.le_of_ble_eq_true rfl, Nat.le_of_ble_eq_true rfl⟩ ⟨Nat.le_of_ble_eq_true rfl, Nat.le_of_ble_eq_true rfl⟩ rfl rfl (Nat.le_of_ble_eq_true rfl) dX8_planToCell_10 (fun H locs hW => ?_)
    have hW : WD D A s (w_X8_planToCell E h_ h_g h_kept h_past h_path h_pose h_way h_px h_py h_free h_tips h_far h_queue h_times h_turns h_names h_named h_text h_told h_spare s_hasKept s_pasts s_pathMoves s_spot s_thrown s_faulty s_queued s_length s_at s_error s_tolds s_number s_g s_path s_pose s_way s_px s_py s_free s_tips s_far s_queue) H locs := hW
    refine q_if_eq (tgt := 20) hx hb dX8_planToCell_13 (by decide) hf (fun hf => ?_) (fun hf => ?_)
    · refine lv_iconst (v := 0) hx hb dX8_planToCell_20 (by decide) ?_
      refine lv_goto (tgt := 25) hx hb dX8_planToCell_21 (by decide) ?_
      exact hL25 s_pathMoves s_spot s_thrown s_faulty s_queued s_path s_pose s_way s_px s_py s_free s_tips s_far s_queue x1 x2 0 _ _ _ hf (lv_sub hl [0, 1, 2] rfl) hW
    · refine lv_iconst (v := 2) hx hb dX8_planToCell_16 (by decide) ?_
      refine lv_goto (tgt := 25) hx hb dX8_planToCell_17 (by decide) ?_
      exact hL25 s_pathMoves s_spot s_thrown s_faulty s_queued s_path s_pose s_way s_px s_py s_free s_tips s_far s_queue x1 x2 2 _ _ _ hf (lv_sub hl [0, 1, 2] rfl) hW
def w_X8_turnsBy (E : Nat → ClassId) (h_ h_g h_kept h_past h_path h_pose h_way h_px h_py h_free h_tips h_far h_queue h_times h_turns h_names h_named h_text h_told h_spare : Nat) (s_hasKept : Int32) (s_pasts : Int32) (s_pathMoves : Int32) (s_spot : Int32) (s_thrown : Int32) (s_faulty : Int32) (s_queued : Int32) (s_length : Int32) (s_at : Int32) (s_error : Int32) (s_tolds : Int32) (s_number : Int32) (s_g : Nat → Int32) (s_turns : Nat → Int32) : va_W := [(h_, .inr (10, [.ref h_g, .ref h_kept, .int s_hasKept, .ref h_past, .int s_pasts, .ref h_path, .int s_pathMoves, .int s_spot, .int s_thrown, .ref h_pose, .ref h_way, .ref h_px, .ref h_py, .int s_faulty, .ref h_free, .ref h_tips, .ref h_far, .ref h_queue, .int s_queued, .ref h_times, .ref h_turns, .ref h_names, .ref h_named, .ref h_text, .int s_length, .int s_at, .int s_error, .ref h_told, .int s_tolds, .int s_number, .ref h_spare])), (h_g, .inl (E 0, 141, .inl s_g)), (h_turns, .inl (E 0, 45000, .inl s_turns))]
set_option maxHeartbeats 4000000 in
set_option maxRecDepth 100000 in
theorem c_X8_turnsBy (l : Launch) (D : va_G) (E : Nat → ClassId) (tx : List (Nat × String)) (h_ h_g h_kept h_past h_path h_pose h_way h_px h_py h_free h_tips h_far h_queue h_times h_turns h_names h_named h_text h_told h_spare : Nat) (s_hasKept : Int32) (s_pasts : Int32) (s_pathMoves : Int32) (s_spot : Int32) (s_thrown : Int32) (s_faulty : Int32) (s_queued : Int32) (s_length : Int32) (s_at : Int32) (s_error : Int32) (s_tolds : Int32) (s_number : Int32) (s_g : Nat → Int32) (s_turns : Nat → Int32) (x1 : Int32) (x2 : Int32) (x3 : Int32) (r0 : Int32) (hf : f_X8_turnsBy s_g s_turns x1 x2 x3 = some r0) : CI l yX8_turnsBy cX8_turnsBy 4 (some .int) 4 91 D E tx [.ref h_, .int x1, .int x2, .int x3] (w_X8_turnsBy E h_ h_g h_kept h_past h_path h_pose h_way h_px h_py h_free h_tips h_far h_queue h_times h_turns h_names h_named h_text h_told h_spare s_hasKept s_pasts s_pathMoves s_spot s_thrown s_faulty s_queued s_length s_at s_error s_tolds s_number s_g s_turns) (w_X8_turnsBy E h_ h_g h_kept h_past h_path h_pose h_way h_px h_py h_free h_tips h_far h_queue h_times h_turns h_names h_named h_text h_told h_spare s_hasKept s_pasts s_pathMoves s_spot s_thrown s_faulty s_queued s_length s_at s_error s_tolds s_number s_g s_turns) r0 := by
  refine CI_of RX8 pn_X8 rfl (Nat.le_of_ble_eq_true rfl) (fun p e s m args below meth c A Q hF hK hA hZ hW hret ls hl => ?_)
  have hx := hF.1
  have hb := hF.2.1
  have hl : lv_has ls 4 [(0, .ref h_), (1, .int x1), (2, .int x2), (3, .int x3)] := hl
  unfold f_X8_turnsBy at hf
  have hL16 : ∀ (y1_16 : Int32) (y3_16 : Int32) (k0_16 : Int32) (H : Heap) (locs : List Loc) (ls : Array Slot), f_X8_turnsBy_L16 s_g s_turns y1_16 y3_16 k0_16 = some r0 → lv_has ls 4 [(0, .ref h_), (1, .int y1_16), (3, .int y3_16)] → WD D A s (w_X8_turnsBy E h_ h_g h_kept h_past h_path h_pose h_way h_px h_py h_free h_tips h_far h_queue h_times h_turns h_names h_named h_text h_told h_spare s_hasKept s_pasts s_pathMoves s_spot s_thrown s_faulty s_queued s_length s_at s_error s_tolds s_number s_g s_turns) H locs → W p l e (RM 4 91) s m args below meth c H locs 0 0 Q (F0 m 16 ls [.int k0_16]) := by
    intro y1_16 y3_16 k0_16 H locs ls hf hl hW
    unfold f_X8_turnsBy_L16 at hf
    refine lv_aload_n hx hb dX8_turnsBy_16 rfl (lv_at hl 0 rfl) ?_
    refine q_get hF hK hW fl_X8_55 0 rfl rfl dX8_turnsBy_17 ?_
    refine lv_bipush (v := 9) hx hb dX8_turnsBy_20 (by decide) ?_
    refine lv_aload_n hx hb dX8_turnsBy_22 rfl (lv_at hl 0 rfl) ?_
    refine lv_iload_n hx hb dX8_turnsBy_23 rfl (lv_at hl 1 rfl) ?_
    refine lv_iload_n hx hb dX8_turnsBy_24 rfl (lv_at hl 2 rfl) ?_
    obtain ⟨o_1, hc_1, hf⟩ := ob_bind hf
    refine q_callI hF hl.1 hK hA hZ hW mv_X8_behind ml_X8_196 (c_X8_behind l D E tx h_ h_g h_kept h_past h_path h_pose h_way h_px h_py h_free h_tips h_far h_queue h_times h_turns h_names h_named h_text h_told h_spare s_hasKept s_pasts s_pathMoves s_spot s_thrown s_faulty s_queued s_length s_at s_error s_tolds s_number s_g y1_16 y3_16 o_1 hc_1) [0, 1] rfl rfl rfl rfl rfl rfl ⟨Nat.le_of_ble_eq_true rfl, Nat.le_of_ble_eq_true rfl⟩ ⟨Nat.le_of_ble_eq_true rfl, Nat.le_of_ble_eq_true rfl⟩ rfl rfl (Nat.le_of_ble_eq_true rfl) dX8_turnsBy_25 (fun H locs hW => ?_)
    have hW : WD D A s (w_X8_turnsBy E h_ h_g h_kept h_past h_path h_pose h_way h_px h_py h_free h_tips h_far h_queue h_times h_turns h_names h_named h_text h_told h_spare s_hasKept s_pasts s_pathMoves s_spot s_thrown s_faulty s_queued s_length s_at s_error s_tolds s_number s_g s_turns) H locs := hW
    refine lv_imul hx hb dX8_turnsBy_28 ?_
    refine lv_iload_n hx hb dX8_turnsBy_29 rfl (lv_at hl 2 rfl) ?_
    refine lv_iadd hx hb dX8_turnsBy_30 ?_
    refine q_iald hx hb hK hW 2 0 rfl rfl dX8_turnsBy_31 hf (fun hf => ?_)
    refine lv_iadd hx hb dX8_turnsBy_32 ?_
    cases hf
    exact hret dX8_turnsBy_33 rfl rfl hW
  refine lv_iload_n hx hb dX8_turnsBy_0 rfl (lv_at hl 2 rfl) ?_
  refine lv_bipush (v := 8) hx hb dX8_turnsBy_1 (by decide) ?_
  refine q_icmp_eq (tgt := 11) hx hb dX8_turnsBy_3 (by decide) hf (fun hf => ?_) (fun hf => ?_)
  · refine lv_iconst (v := 0) hx hb dX8_turnsBy_11 (by decide) ?_
    refine lv_goto (tgt := 16) hx hb dX8_turnsBy_12 (by decide) ?_
    exact hL16 x1 x3 0 _ _ _ hf (lv_sub hl [0, 1, 3] rfl) hW
  · refine lv_iload_n hx hb dX8_turnsBy_6 rfl (lv_at hl 2 rfl) ?_
    refine lv_iload_n hx hb dX8_turnsBy_7 rfl (lv_at hl 3 rfl) ?_
    refine q_icmp_ne (tgt := 15) hx hb dX8_turnsBy_8 (by decide) hf (fun hf => ?_) (fun hf => ?_)
    · refine lv_iconst (v := 1) hx hb dX8_turnsBy_15 (by decide) ?_
      exact hL16 x1 x3 1 _ _ _ hf (lv_sub hl [0, 1, 3] rfl) hW
    · refine lv_iconst (v := 0) hx hb dX8_turnsBy_11 (by decide) ?_
      refine lv_goto (tgt := 16) hx hb dX8_turnsBy_12 (by decide) ?_
      exact hL16 x1 x3 0 _ _ _ hf (lv_sub hl [0, 1, 3] rfl) hW
def w_X8_leastTurns (E : Nat → ClassId) (h_ h_g h_kept h_past h_path h_pose h_way h_px h_py h_free h_tips h_far h_queue h_times h_turns h_names h_named h_text h_told h_spare : Nat) (s_hasKept : Int32) (s_pasts : Int32) (s_pathMoves : Int32) (s_spot : Int32) (s_thrown : Int32) (s_faulty : Int32) (s_queued : Int32) (s_length : Int32) (s_at : Int32) (s_error : Int32) (s_tolds : Int32) (s_number : Int32) (s_g : Nat → Int32) (s_free : Nat → Int32) (s_far : Nat → Int32) (s_turns : Nat → Int32) : va_W := [(h_, .inr (10, [.ref h_g, .ref h_kept, .int s_hasKept, .ref h_past, .int s_pasts, .ref h_path, .int s_pathMoves, .int s_spot, .int s_thrown, .ref h_pose, .ref h_way, .ref h_px, .ref h_py, .int s_faulty, .ref h_free, .ref h_tips, .ref h_far, .ref h_queue, .int s_queued, .ref h_times, .ref h_turns, .ref h_names, .ref h_named, .ref h_text, .int s_length, .int s_at, .int s_error, .ref h_told, .int s_tolds, .int s_number, .ref h_spare])), (h_g, .inl (E 0, 141, .inl s_g)), (h_free, .inl (E 1, 5000, .inl s_free)), (h_far, .inl (E 0, 5000, .inl s_far)), (h_turns, .inl (E 0, 45000, .inl s_turns))]
set_option maxHeartbeats 4000000 in
set_option maxRecDepth 100000 in
theorem c_X8_leastTurns (l : Launch) (D : va_G) (E : Nat → ClassId) (tx : List (Nat × String)) (h_ h_g h_kept h_past h_path h_pose h_way h_px h_py h_free h_tips h_far h_queue h_times h_turns h_names h_named h_text h_told h_spare : Nat) (s_hasKept : Int32) (s_pasts : Int32) (s_pathMoves : Int32) (s_spot : Int32) (s_thrown : Int32) (s_faulty : Int32) (s_queued : Int32) (s_length : Int32) (s_at : Int32) (s_error : Int32) (s_tolds : Int32) (s_number : Int32) (s_g : Nat → Int32) (s_free : Nat → Int32) (s_far : Nat → Int32) (s_turns : Nat → Int32) (x1 : Int32) (x2 : Int32) (r0 : Int32) (hf : f_X8_leastTurns s_g s_free s_far s_turns x1 x2 = some r0) : CI l yX8_leastTurns cX8_leastTurns 5 (some .int) 5 114 D E tx [.ref h_, .int x1, .int x2] (w_X8_leastTurns E h_ h_g h_kept h_past h_path h_pose h_way h_px h_py h_free h_tips h_far h_queue h_times h_turns h_names h_named h_text h_told h_spare s_hasKept s_pasts s_pathMoves s_spot s_thrown s_faulty s_queued s_length s_at s_error s_tolds s_number s_g s_free s_far s_turns) (w_X8_leastTurns E h_ h_g h_kept h_past h_path h_pose h_way h_px h_py h_free h_tips h_far h_queue h_times h_turns h_names h_named h_text h_told h_spare s_hasKept s_pasts s_pathMoves s_spot s_thrown s_faulty s_queued s_length s_at s_error s_tolds s_number s_g s_free s_far s_turns) r0 := by
  refine CI_of RX8 pn_X8 rfl (Nat.le_of_ble_eq_true rfl) (fun p e s m args below meth c A Q hF hK hA hZ hW hret ls hl => ?_)
  have hx := hF.1
  have hb := hF.2.1
  have hl : lv_has ls 5 [(0, .ref h_), (1, .int x1), (2, .int x2)] := hl
  unfold f_X8_leastTurns at hf
  refine lv_iconst (v := (-1)) hx hb dX8_leastTurns_0 (by decide) ?_
  refine lv_istore_n (lv' := [(3, .int ((-1))), (0, .ref h_), (1, .int x1), (2, .int x2)]) hx hb dX8_leastTurns_1 rfl hl (by decide) rfl (fun ls hl => ?_)
  refine lv_iconst (v := 0) hx hb dX8_leastTurns_2 (by decide) ?_
  refine lv_istore (lv' := [(4, .int 0), (3, .int ((-1))), (0, .ref h_), (1, .int x1), (2, .int x2)]) hx hb dX8_leastTurns_3 hl (by decide) rfl (fun ls hl => ?_)
  have hB5 : ∀ (n : Nat) (z3_5 : Int32) (z4_5 : Int32) (ex : Int32) (H : Heap) (locs : List Loc) (ls : Array Slot), LPF (fun z => f_X8_leastTurns_B5 s_g s_free s_far s_turns x1 x2 z.1 z.2) n (z3_5, z4_5) = some ex → lv_has ls 5 [(0, .ref h_), (1, .int x1), (2, .int x2), (3, .int z3_5), (4, .int z4_5)] → WD D A s (w_X8_leastTurns E h_ h_g h_kept h_past h_path h_pose h_way h_px h_py h_free h_tips h_far h_queue h_times h_turns h_names h_named h_text h_told h_spare s_hasKept s_pasts s_pathMoves s_spot s_thrown s_faulty s_queued s_length s_at s_error s_tolds s_number s_g s_free s_far s_turns) H locs → (∀ (H : Heap) (locs : List Loc) (ls : Array Slot), lv_has ls 5 [(3, .int ex)] → WD D A s (w_X8_leastTurns E h_ h_g h_kept h_past h_path h_pose h_way h_px h_py h_free h_tips h_far h_queue h_times h_turns h_names h_named h_text h_told h_spare s_hasKept s_pasts s_pathMoves s_spot s_thrown s_faulty s_queued s_length s_at s_error s_tolds s_number s_g s_free s_far s_turns) H locs → W p l e (RM 5 114) s m args below meth c H locs 0 0 Q (F0 m 59 ls [])) → W p l e (RM 5 114) s m args below meth c H locs 0 0 Q (F0 m 5 ls []) := by
    intro n
    induction n with
    | zero => intro z3_5 z4_5 ex H locs ls h9; exact (ob_lp0 h9).elim
    | succ n ih =>
      intro z3_5 z4_5 ex H locs ls h9 hl hW kx0
      obtain ⟨q9, hf, h9, k9⟩ := ob_lp h9
      have hf : f_X8_leastTurns_B5 s_g s_free s_far s_turns x1 x2 z3_5 z4_5 = some q9 := hf
      unfold f_X8_leastTurns_B5 at hf
      have hL44 : ∀ (y4_44 : Int32) (H : Heap) (locs : List Loc) (ls : Array Slot), f_X8_leastTurns_L44 s_g s_free s_far s_turns x1 x2 y4_44 = some q9 → lv_has ls 5 [(0, .ref h_), (1, .int x1), (2, .int x2), (4, .int y4_44)] → WD D A s (w_X8_leastTurns E h_ h_g h_kept h_past h_path h_pose h_way h_px h_py h_free h_tips h_far h_queue h_times h_turns h_names h_named h_text h_told h_spare s_hasKept s_pasts s_pathMoves s_spot s_thrown s_faulty s_queued s_length s_at s_error s_tolds s_number s_g s_free s_far s_turns) H locs → W p l e (RM 5 114) s m args below meth c H locs 0 0 Q (F0 m 44 ls []) := by
        intro y4_44 H locs ls hf hl hW
        unfold f_X8_leastTurns_L44 at hf
        refine lv_aload_n hx hb dX8_leastTurns_44 rfl (lv_at hl 0 rfl) ?_
        refine lv_iload_n hx hb dX8_leastTurns_45 rfl (lv_at hl 1 rfl) ?_
        refine lv_iload_n hx hb dX8_leastTurns_46 rfl (lv_at hl 2 rfl) ?_
        refine lv_iload hx hb dX8_leastTurns_47 (lv_at hl 3 rfl) ?_
        obtain ⟨o_1, hc_1, hf⟩ := ob_bind hf
        refine q_callI hF hl.1 hK hA hZ hW mv_X8_turnsBy ml_X8_267 (c_X8_turnsBy l D E tx h_ h_g h_kept h_past h_path h_pose h_way h_px h_py h_free h_tips h_far h_queue h_times h_turns h_names h_named h_text h_told h_spare s_hasKept s_pasts s_pathMoves s_spot s_thrown s_faulty s_queued s_length s_at s_error s_tolds s_number s_g s_turns x1 x2 y4_44 o_1 hc_1) [0, 1, 4] rfl rfl rfl rfl rfl rfl ⟨Nat.le_of_ble_eq_true rfl, Nat.le_of_ble_eq_true rfl⟩ ⟨Nat.le_of_ble_eq_true rfl, Nat.le_of_ble_eq_true rfl⟩ rfl rfl (Nat.le_of_ble_eq_true rfl) dX8_leastTurns_49 (fun H locs hW => ?_)
        have hW : WD D A s (w_X8_leastTurns E h_ h_g h_kept h_past h_path h_pose h_way h_px h_py h_free h_tips h_far h_queue h_times h_turns h_names h_named h_text h_told h_spare s_hasKept s_pasts s_pathMoves s_spot s_thrown s_faulty s_queued s_length s_at s_error s_tolds s_number s_g s_free s_far s_turns) H locs := hW
        refine lv_istore_n (lv' := [(3, .int o_1), (0, .ref h_), (1, .int x1), (2, .int x2), (4, .int y4_44)]) hx hb dX8_leastTurns_52 rfl hl (by decide) rfl (fun ls hl => ?_)
        obtain ⟨v_2, ev_2⟩ : ∃ y : Int32, y = y4_44 + 1 := ⟨_, rfl⟩
        replace hf := ob_let hf ev_2
        refine lv_iinc (v := v_2) (lv' := [(4, .int v_2), (3, .int o_1), (0, .ref h_), (1, .int x1), (2, .int x2)]) hx hb dX8_leastTurns_53 hl (k := 4) rfl (by rw [ev_2]; rfl) (by decide) rfl (fun ls hl => ?_)
        refine lv_goto (tgt := 5) hx hb dX8_leastTurns_56 (by decide) ?_
        cases hf
        exact ih o_1 v_2 ex _ _ _ (h9 _ rfl) (lv_sub hl [2, 3, 4, 1, 0] rfl) hW kx0
      refine lv_iload hx hb dX8_leastTurns_5 (lv_at hl 4 rfl) ?_
      refine lv_iconst (v := 2) hx hb dX8_leastTurns_7 (by decide) ?_
      refine lv_aload_n hx hb dX8_leastTurns_8 rfl (lv_at hl 0 rfl) ?_
      refine q_get hF hK hW fl_X8_7 0 rfl rfl dX8_leastTurns_9 ?_
      refine lv_iconst (v := 0) hx hb dX8_leastTurns_12 (by decide) ?_
      refine q_iald hx hb hK hW 1 0 rfl rfl dX8_leastTurns_13 hf (fun hf => ?_)
      refine lv_imul hx hb dX8_leastTurns_14 ?_
      refine q_icmp_ge (tgt := 59) hx hb dX8_leastTurns_15 (by decide) hf (fun hf => ?_) (fun hf => ?_)
      · cases hf
        have hx9 := k9 _ rfl
        subst hx9
        exact kx0 _ _ _ (lv_sub hl [3] rfl) hW
      · refine lv_aload_n hx hb dX8_leastTurns_18 rfl (lv_at hl 0 rfl) ?_
        refine lv_iload_n hx hb dX8_leastTurns_19 rfl (lv_at hl 1 rfl) ?_
        refine lv_iload hx hb dX8_leastTurns_20 (lv_at hl 4 rfl) ?_
        obtain ⟨o_3, hc_3, hf⟩ := ob_bind hf
        refine q_callI hF hl.1 hK hA hZ hW mv_X8_isNearer ml_X8_255 (c_X8_isNearer l D E tx h_ h_g h_kept h_past h_path h_pose h_way h_px h_py h_free h_tips h_far h_queue h_times h_turns h_names h_named h_text h_told h_spare s_hasKept s_pasts s_pathMoves s_spot s_thrown s_faulty s_queued s_length s_at s_error s_tolds s_number s_g s_free s_far x1 z4_5 o_3 hc_3) [0, 1, 2, 3] rfl rfl rfl rfl rfl rfl ⟨Nat.le_of_ble_eq_true rfl, Nat.le_of_ble_eq_true rfl⟩ ⟨Nat.le_of_ble_eq_true rfl, Nat.le_of_ble_eq_true rfl⟩ rfl rfl (Nat.le_of_ble_eq_true rfl) dX8_leastTurns_22 (fun H locs hW => ?_)
        have hW : WD D A s (w_X8_leastTurns E h_ h_g h_kept h_past h_path h_pose h_way h_px h_py h_free h_tips h_far h_queue h_times h_turns h_names h_named h_text h_told h_spare s_hasKept s_pasts s_pathMoves s_spot s_thrown s_faulty s_queued s_length s_at s_error s_tolds s_number s_g s_free s_far s_turns) H locs := hW
        refine q_if_eq (tgt := 53) hx hb dX8_leastTurns_25 (by decide) hf (fun hf => ?_) (fun hf => ?_)
        · obtain ⟨v_4, ev_4⟩ : ∃ y : Int32, y = z4_5 + 1 := ⟨_, rfl⟩
          replace hf := ob_let hf ev_4
          refine lv_iinc (v := v_4) (lv' := [(4, .int v_4), (0, .ref h_), (1, .int x1), (2, .int x2), (3, .int z3_5)]) hx hb dX8_leastTurns_53 hl (k := 4) rfl (by rw [ev_4]; rfl) (by decide) rfl (fun ls hl => ?_)
          refine lv_goto (tgt := 5) hx hb dX8_leastTurns_56 (by decide) ?_
          cases hf
          exact ih z3_5 v_4 ex _ _ _ (h9 _ rfl) (lv_sub hl [1, 2, 3, 4, 0] rfl) hW kx0
        · refine lv_iload_n hx hb dX8_leastTurns_28 rfl (lv_at hl 3 rfl) ?_
          refine q_if_lt (tgt := 44) hx hb dX8_leastTurns_29 (by decide) hf (fun hf => ?_) (fun hf => ?_)
          · exact hL44 z4_5 _ _ _ hf (lv_sub hl [0, 1, 2, 4] rfl) hW
          · refine lv_aload_n hx hb dX8_leastTurns_32 rfl (lv_at hl 0 rfl) ?_
            refine lv_iload_n hx hb dX8_leastTurns_33 rfl (lv_at hl 1 rfl) ?_
            refine lv_iload_n hx hb dX8_leastTurns_34 rfl (lv_at hl 2 rfl) ?_
            refine lv_iload hx hb dX8_leastTurns_35 (lv_at hl 4 rfl) ?_
            obtain ⟨o_5, hc_5, hf⟩ := ob_bind hf
            refine q_callI hF hl.1 hK hA hZ hW mv_X8_turnsBy ml_X8_267 (c_X8_turnsBy l D E tx h_ h_g h_kept h_past h_path h_pose h_way h_px h_py h_free h_tips h_far h_queue h_times h_turns h_names h_named h_text h_told h_spare s_hasKept s_pasts s_pathMoves s_spot s_thrown s_faulty s_queued s_length s_at s_error s_tolds s_number s_g s_turns x1 x2 z4_5 o_5 hc_5) [0, 1, 4] rfl rfl rfl rfl rfl rfl ⟨Nat.le_of_ble_eq_true rfl, Nat.le_of_ble_eq_true rfl⟩ ⟨Nat.le_of_ble_eq_true rfl, Nat.le_of_ble_eq_true rfl⟩ rfl rfl (Nat.le_of_ble_eq_true rfl) dX8_leastTurns_37 (fun H locs hW => ?_)
            have hW : WD D A s (w_X8_leastTurns E h_ h_g h_kept h_past h_path h_pose h_way h_px h_py h_free h_tips h_far h_queue h_times h_turns h_names h_named h_text h_told h_spare s_hasKept s_pasts s_pathMoves s_spot s_thrown s_faulty s_queued s_length s_at s_error s_tolds s_number s_g s_free s_far s_turns) H locs := hW
            refine lv_iload_n hx hb dX8_leastTurns_40 rfl (lv_at hl 3 rfl) ?_
            refine q_icmp_ge (tgt := 53) hx hb dX8_leastTurns_41 (by decide) hf (fun hf => ?_) (fun hf => ?_)
            · obtain ⟨v_6, ev_6⟩ : ∃ y : Int32, y = z4_5 + 1 := ⟨_, rfl⟩
              replace hf := ob_let hf ev_6
              refine lv_iinc (v := v_6) (lv' := [(4, .int v_6), (0, .ref h_), (1, .int x1), (2, .int x2), (3, .int z3_5)]) hx hb dX8_leastTurns_53 hl (k := 4) rfl (by rw [ev_6]; rfl) (by decide) rfl (fun ls hl => ?_)
              refine lv_goto (tgt := 5) hx hb dX8_leastTurns_56 (by decide) ?_
              cases hf
              exact ih z3_5 v_6 ex _ _ _ (h9 _ rfl) (lv_sub hl [1, 2, 3, 4, 0] rfl) hW kx0
            · exact hL44 z4_5 _ _ _ hf (lv_sub hl [0, 1, 2, 4] rfl) hW
  obtain ⟨e_7, hc_7, hf⟩ := ob_bind hf
  refine hB5 lfuel ((-1)) 0 e_7 _ _ _ hc_7 (lv_sub hl [2, 3, 4, 1, 0] rfl) hW ?_
  intro H locs ls hl hW
  refine lv_iload_n hx hb dX8_leastTurns_59 rfl (lv_at hl 0 rfl) ?_
  refine q_if_ge (tgt := 67) hx hb dX8_leastTurns_60 (by decide) hf (fun hf => ?_) (fun hf => ?_)
  · refine lv_iload_n hx hb dX8_leastTurns_67 rfl (lv_at hl 0 rfl) ?_
    cases hf
    exact hret dX8_leastTurns_68 rfl rfl hW
  · refine lv_iconst (v := 0) hx hb dX8_leastTurns_63 (by decide) ?_
    refine lv_goto (tgt := 68) hx hb dX8_leastTurns_64 (by decide) ?_
    cases hf
    exact hret dX8_leastTurns_68 rfl rfl hW
def w_X8_changesOf (E : Nat → ClassId) (h_ h_g h_kept h_past h_path h_pose h_way h_px h_py h_free h_tips h_far h_queue h_times h_turns h_names h_named h_text h_told h_spare : Nat) (s_hasKept : Int32) (s_pasts : Int32) (s_pathMoves : Int32) (s_spot : Int32) (s_thrown : Int32) (s_faulty : Int32) (s_queued : Int32) (s_length : Int32) (s_at : Int32) (s_error : Int32) (s_tolds : Int32) (s_number : Int32) (s_path : Nat → Int32) : va_W := [(h_, .inr (10, [.ref h_g, .ref h_kept, .int s_hasKept, .ref h_past, .int s_pasts, .ref h_path, .int s_pathMoves, .int s_spot, .int s_thrown, .ref h_pose, .ref h_way, .ref h_px, .ref h_py, .int s_faulty, .ref h_free, .ref h_tips, .ref h_far, .ref h_queue, .int s_queued, .ref h_times, .ref h_turns, .ref h_names, .ref h_named, .ref h_text, .int s_length, .int s_at, .int s_error, .ref h_told, .int s_tolds, .int s_number, .ref h_spare])), (h_path, .inl (E 0, 5000, .inl s_path))]
set_option maxHeartbeats 4000000 in
set_option maxRecDepth 100000 in
theorem c_X8_changesOf (l : Launch) (D : va_G) (E : Nat → ClassId) (tx : List (Nat × String)) (h_ h_g h_kept h_past h_path h_pose h_way h_px h_py h_free h_tips h_far h_queue h_times h_turns h_names h_named h_text h_told h_spare : Nat) (s_hasKept : Int32) (s_pasts : Int32) (s_pathMoves : Int32) (s_spot : Int32) (s_thrown : Int32) (s_faulty : Int32) (s_queued : Int32) (s_length : Int32) (s_at : Int32) (s_error : Int32) (s_tolds : Int32) (s_number : Int32) (s_path : Nat → Int32)  (r0 : Int32) (hf : f_X8_changesOf s_pathMoves s_path = some r0) : CI l yX8_changesOf cX8_changesOf 3 (some .int) 0 0 D E tx [.ref h_] (w_X8_changesOf E h_ h_g h_kept h_past h_path h_pose h_way h_px h_py h_free h_tips h_far h_queue h_times h_turns h_names h_named h_text h_told h_spare s_hasKept s_pasts s_pathMoves s_spot s_thrown s_faulty s_queued s_length s_at s_error s_tolds s_number s_path) (w_X8_changesOf E h_ h_g h_kept h_past h_path h_pose h_way h_px h_py h_free h_tips h_far h_queue h_times h_turns h_names h_named h_text h_told h_spare s_hasKept s_pasts s_pathMoves s_spot s_thrown s_faulty s_queued s_length s_at s_error s_tolds s_number s_path) r0 := by
  refine CI_of RX8 pn_X8 rfl (Nat.le_of_ble_eq_true rfl) (fun p e s m args below meth c A Q hF hK hA hZ hW hret ls hl => ?_)
  have hx := hF.1
  have hb := hF.2.1
  have hl : lv_has ls 3 [(0, .ref h_)] := hl
  unfold f_X8_changesOf at hf
  refine lv_iconst (v := 0) hx hb dX8_changesOf_0 (by decide) ?_
  refine lv_istore_n (lv' := [(1, .int 0), (0, .ref h_)]) hx hb dX8_changesOf_1 rfl hl (by decide) rfl (fun ls hl => ?_)
  refine lv_iconst (v := 1) hx hb dX8_changesOf_2 (by decide) ?_
  refine lv_istore_n (lv' := [(2, .int 1), (1, .int 0), (0, .ref h_)]) hx hb dX8_changesOf_3 rfl hl (by decide) rfl (fun ls hl => ?_)
  have hB4 : ∀ (n : Nat) (z1_4 : Int32) (z2_4 : Int32) (ex : Int32) (H : Heap) (locs : List Loc) (ls : Array Slot), LPF (fun z => f_X8_changesOf_B4 s_pathMoves s_path z.1 z.2) n (z1_4, z2_4) = some ex → lv_has ls 3 [(0, .ref h_), (1, .int z1_4), (2, .int z2_4)] → WD D A s (w_X8_changesOf E h_ h_g h_kept h_past h_path h_pose h_way h_px h_py h_free h_tips h_far h_queue h_times h_turns h_names h_named h_text h_told h_spare s_hasKept s_pasts s_pathMoves s_spot s_thrown s_faulty s_queued s_length s_at s_error s_tolds s_number s_path) H locs → (∀ (H : Heap) (locs : List Loc) (ls : Array Slot), lv_has ls 3 [(1, .int ex)] → WD D A s (w_X8_changesOf E h_ h_g h_kept h_past h_path h_pose h_way h_px h_py h_free h_tips h_far h_queue h_times h_turns h_names h_named h_text h_told h_spare s_hasKept s_pasts s_pathMoves s_spot s_thrown s_faulty s_queued s_length s_at s_error s_tolds s_number s_path) H locs → W p l e (RM 0 0) s m args below meth c H locs 0 0 Q (F0 m 43 ls [])) → W p l e (RM 0 0) s m args below meth c H locs 0 0 Q (F0 m 4 ls []) := by
    intro n
    induction n with
    | zero => intro z1_4 z2_4 ex H locs ls h9; exact (ob_lp0 h9).elim
    | succ n ih =>
      intro z1_4 z2_4 ex H locs ls h9 hl hW kx0
      obtain ⟨q9, hf, h9, k9⟩ := ob_lp h9
      have hf : f_X8_changesOf_B4 s_pathMoves s_path z1_4 z2_4 = some q9 := hf
      unfold f_X8_changesOf_B4 at hf
      refine lv_iload_n hx hb dX8_changesOf_4 rfl (lv_at hl 2 rfl) ?_
      refine lv_aload_n hx hb dX8_changesOf_5 rfl (lv_at hl 0 rfl) ?_
      refine q_get hF hK hW fl_X8_22 0 rfl rfl dX8_changesOf_6 ?_
      refine q_icmp_ge (tgt := 43) hx hb dX8_changesOf_9 (by decide) hf (fun hf => ?_) (fun hf => ?_)
      · cases hf
        have hx9 := k9 _ rfl
        subst hx9
        exact kx0 _ _ _ (lv_sub hl [1] rfl) hW
      · refine lv_iload_n hx hb dX8_changesOf_12 rfl (lv_at hl 1 rfl) ?_
        refine lv_aload_n hx hb dX8_changesOf_13 rfl (lv_at hl 0 rfl) ?_
        refine q_get hF hK hW fl_X8_19 0 rfl rfl dX8_changesOf_14 ?_
        refine lv_iload_n hx hb dX8_changesOf_17 rfl (lv_at hl 2 rfl) ?_
        refine q_iald hx hb hK hW 1 0 rfl rfl dX8_changesOf_18 hf (fun hf => ?_)
        refine lv_aload_n hx hb dX8_changesOf_19 rfl (lv_at hl 0 rfl) ?_
        refine q_get hF hK hW fl_X8_19 0 rfl rfl dX8_changesOf_20 ?_
        refine lv_iload_n hx hb dX8_changesOf_23 rfl (lv_at hl 2 rfl) ?_
        refine lv_iconst (v := 1) hx hb dX8_changesOf_24 (by decide) ?_
        refine lv_isub hx hb dX8_changesOf_25 ?_
        refine q_iald hx hb hK hW 1 0 rfl rfl dX8_changesOf_26 hf (fun hf => ?_)
        refine q_icmp_ne (tgt := 34) hx hb dX8_changesOf_27 (by decide) hf (fun hf => ?_) (fun hf => ?_)
        · refine lv_iconst (v := 1) hx hb dX8_changesOf_34 (by decide) ?_
          refine lv_iadd hx hb dX8_changesOf_35 ?_
          refine lv_topi (fun v_1 ev_1 => ?_)
          replace hf := ob_let hf ev_1
          refine lv_istore_n (lv' := [(1, .int v_1), (0, .ref h_), (2, .int z2_4)]) hx hb dX8_changesOf_36 rfl hl (by decide) rfl (fun ls hl => ?_)
          obtain ⟨v_2, ev_2⟩ : ∃ y : Int32, y = z2_4 + 1 := ⟨_, rfl⟩
          replace hf := ob_let hf ev_2
          refine lv_iinc (v := v_2) (lv' := [(2, .int v_2), (1, .int v_1), (0, .ref h_)]) hx hb dX8_changesOf_37 hl (k := 2) rfl (by rw [ev_2]; rfl) (by decide) rfl (fun ls hl => ?_)
          refine lv_goto (tgt := 4) hx hb dX8_changesOf_40 (by decide) ?_
          cases hf
          exact ih v_1 v_2 ex _ _ _ (h9 _ rfl) (lv_sub hl [2, 1, 0] rfl) hW kx0
        · refine lv_iconst (v := 0) hx hb dX8_changesOf_30 (by decide) ?_
          refine lv_goto (tgt := 35) hx hb dX8_changesOf_31 (by decide) ?_
          refine lv_iadd hx hb dX8_changesOf_35 ?_
          refine lv_topi (fun v_3 ev_3 => ?_)
          replace hf := ob_let hf ev_3
          refine lv_istore_n (lv' := [(1, .int v_3), (0, .ref h_), (2, .int z2_4)]) hx hb dX8_changesOf_36 rfl hl (by decide) rfl (fun ls hl => ?_)
          obtain ⟨v_4, ev_4⟩ : ∃ y : Int32, y = z2_4 + 1 := ⟨_, rfl⟩
          replace hf := ob_let hf ev_4
          refine lv_iinc (v := v_4) (lv' := [(2, .int v_4), (1, .int v_3), (0, .ref h_)]) hx hb dX8_changesOf_37 hl (k := 2) rfl (by rw [ev_4]; rfl) (by decide) rfl (fun ls hl => ?_)
          refine lv_goto (tgt := 4) hx hb dX8_changesOf_40 (by decide) ?_
          cases hf
          exact ih v_3 v_4 ex _ _ _ (h9 _ rfl) (lv_sub hl [2, 1, 0] rfl) hW kx0
  obtain ⟨e_5, hc_5, hf⟩ := ob_bind hf
  refine hB4 lfuel 0 1 e_5 _ _ _ hc_5 (lv_sub hl [2, 1, 0] rfl) hW ?_
  intro H locs ls hl hW
  refine lv_iload_n hx hb dX8_changesOf_43 rfl (lv_at hl 0 rfl) ?_
  cases hf
  exact hret dX8_changesOf_44 rfl rfl hW
def w_X8_planSmooth (E : Nat → ClassId) (h_ h_g h_kept h_past h_path h_pose h_way h_px h_py h_free h_tips h_far h_queue h_times h_turns h_names h_named h_text h_told h_spare : Nat) (s_hasKept : Int32) (s_pasts : Int32) (s_pathMoves : Int32) (s_spot : Int32) (s_thrown : Int32) (s_faulty : Int32) (s_queued : Int32) (s_length : Int32) (s_at : Int32) (s_error : Int32) (s_tolds : Int32) (s_number : Int32) (s_g : Nat → Int32) (s_path : Nat → Int32) (s_pose : Nat → Int32) (s_way : Nat → Int32) (s_px : Nat → Int32) (s_py : Nat → Int32) (s_free : Nat → Int32) (s_tips : Nat → Int32) (s_far : Nat → Int32) (s_queue : Nat → Int32) (s_turns : Nat → Int32) : va_W := [(h_, .inr (10, [.ref h_g, .ref h_kept, .int s_hasKept, .ref h_past, .int s_pasts, .ref h_path, .int s_pathMoves, .int s_spot, .int s_thrown, .ref h_pose, .ref h_way, .ref h_px, .ref h_py, .int s_faulty, .ref h_free, .ref h_tips, .ref h_far, .ref h_queue, .int s_queued, .ref h_times, .ref h_turns, .ref h_names, .ref h_named, .ref h_text, .int s_length, .int s_at, .int s_error, .ref h_told, .int s_tolds, .int s_number, .ref h_spare])), (h_g, .inl (E 0, 141, .inl s_g)), (h_path, .inl (E 0, 5000, .inl s_path)), (h_pose, .inl (E 0, 4, .inl s_pose)), (h_way, .inl (E 0, 4, .inl s_way)), (h_px, .inl (E 0, 5, .inl s_px)), (h_py, .inl (E 0, 5, .inl s_py)), (h_free, .inl (E 1, 5000, .inl s_free)), (h_tips, .inl (E 0, 5000, .inl s_tips)), (h_far, .inl (E 0, 5000, .inl s_far)), (h_queue, .inl (E 0, 5000, .inl s_queue)), (h_turns, .inl (E 0, 45000, .inl s_turns))]
set_option maxHeartbeats 4000000 in
set_option maxRecDepth 100000 in
theorem c_X8_planSmooth (l : Launch) (D : va_G) (E : Nat → ClassId) (tx : List (Nat × String)) (h_ h_g h_kept h_past h_path h_pose h_way h_px h_py h_free h_tips h_far h_queue h_times h_turns h_names h_named h_text h_told h_spare : Nat) (s_hasKept : Int32) (s_pasts : Int32) (s_pathMoves : Int32) (s_spot : Int32) (s_thrown : Int32) (s_faulty : Int32) (s_queued : Int32) (s_length : Int32) (s_at : Int32) (s_error : Int32) (s_tolds : Int32) (s_number : Int32) (s_g : Nat → Int32) (s_path : Nat → Int32) (s_pose : Nat → Int32) (s_way : Nat → Int32) (s_px : Nat → Int32) (s_py : Nat → Int32) (s_free : Nat → Int32) (s_tips : Nat → Int32) (s_far : Nat → Int32) (s_queue : Nat → Int32) (s_turns : Nat → Int32) (x1 : Int32) (x2 : Int32) (r0 : Int32) (r1 : Int32) (r2 : Int32) (r3 : Int32) (r4 : Int32) (r5 : Int32) (r6 : Nat → Int32) (r7 : Nat → Int32) (r8 : Nat → Int32) (r9 : Nat → Int32) (r10 : Nat → Int32) (r11 : Nat → Int32) (r12 : Nat → Int32) (r13 : Nat → Int32) (r14 : Nat → Int32) (r15 : Nat → Int32) (hf : f_X8_planSmooth s_pathMoves s_spot s_thrown s_faulty s_queued s_g s_path s_pose s_way s_px s_py s_free s_tips s_far s_queue s_turns x1 x2 = some (r0, r1, r2, r3, r4, r5, r6, r7, r8, r9, r10, r11, r12, r13, r14, r15)) : CI l yX8_planSmooth cX8_planSmooth 7 (some .int) 8 177 D E tx [.ref h_, .int x1, .int x2] (w_X8_planSmooth E h_ h_g h_kept h_past h_path h_pose h_way h_px h_py h_free h_tips h_far h_queue h_times h_turns h_names h_named h_text h_told h_spare s_hasKept s_pasts s_pathMoves s_spot s_thrown s_faulty s_queued s_length s_at s_error s_tolds s_number s_g s_path s_pose s_way s_px s_py s_free s_tips s_far s_queue s_turns) (w_X8_planSmooth E h_ h_g h_kept h_past h_path h_pose h_way h_px h_py h_free h_tips h_far h_queue h_times h_turns h_names h_named h_text h_told h_spare s_hasKept s_pasts r1 r2 r3 r4 r5 s_length s_at s_error s_tolds s_number s_g r6 r7 r8 r9 r10 r11 r12 r13 r14 r15) r0 := by
  refine CI_of RX8 pn_X8 rfl (Nat.le_of_ble_eq_true rfl) (fun p e s m args below meth c A Q hF hK hA hZ hW hret ls hl => ?_)
  have hx := hF.1
  have hb := hF.2.1
  have hl : lv_has ls 7 [(0, .ref h_), (1, .int x1), (2, .int x2)] := hl
  unfold f_X8_planSmooth at hf
  have hL25 : ∀ (s_pathMoves_25 : Int32) (s_spot_25 : Int32) (s_thrown_25 : Int32) (s_faulty_25 : Int32) (s_queued_25 : Int32) (s_path_25 : Nat → Int32) (s_pose_25 : Nat → Int32) (s_way_25 : Nat → Int32) (s_px_25 : Nat → Int32) (s_py_25 : Nat → Int32) (s_free_25 : Nat → Int32) (s_tips_25 : Nat → Int32) (s_far_25 : Nat → Int32) (s_queue_25 : Nat → Int32) (s_turns_25 : Nat → Int32) (y1_25 : Int32) (y2_25 : Int32) (k1_25 : Int32) (H : Heap) (locs : List Loc) (ls : Array Slot), f_X8_planSmooth_L25 s_pathMoves_25 s_spot_25 s_thrown_25 s_faulty_25 s_queued_25 s_g s_path_25 s_pose_25 s_way_25 s_px_25 s_py_25 s_free_25 s_tips_25 s_far_25 s_queue_25 s_turns_25 y1_25 y2_25 k1_25 = some (r0, r1, r2, r3, r4, r5, r6, r7, r8, r9, r10, r11, r12, r13, r14, r15) → lv_has ls 7 [(0, .ref h_), (1, .int y1_25), (2, .int y2_25)] → WD D A s (w_X8_planSmooth E h_ h_g h_kept h_past h_path h_pose h_way h_px h_py h_free h_tips h_far h_queue h_times h_turns h_names h_named h_text h_told h_spare s_hasKept s_pasts s_pathMoves_25 s_spot_25 s_thrown_25 s_faulty_25 s_queued_25 s_length s_at s_error s_tolds s_number s_g s_path_25 s_pose_25 s_way_25 s_px_25 s_py_25 s_free_25 s_tips_25 s_far_25 s_queue_25 s_turns_25) H locs → W p l e (RM 8 177) s m args below meth c H locs 0 0 Q (F0 m 25 ls [.int k1_25, .ref h_]) := by
    intro s_pathMoves_25 s_spot_25 s_thrown_25 s_faulty_25 s_queued_25 s_path_25 s_pose_25 s_way_25 s_px_25 s_py_25 s_free_25 s_tips_25 s_far_25 s_queue_25 s_turns_25 y1_25 y2_25 k1_25 H locs ls hf hl hW
    unfold f_X8_planSmooth_L25 at hf
    refine q_put hF hK hW fl_X8_76 ft_X8 rfl 0 rfl rfl rfl (Nat.le_of_ble_eq_true rfl) dX8_planSmooth_25 (fun H locs hW => ?_)
    have hW : WD D A s (w_X8_planSmooth E h_ h_g h_kept h_past h_path h_pose h_way h_px h_py h_free h_tips h_far h_queue h_times h_turns h_names h_named h_text h_told h_spare s_hasKept s_pasts s_pathMoves_25 s_spot_25 k1_25 s_faulty_25 s_queued_25 s_length s_at s_error s_tolds s_number s_g s_path_25 s_pose_25 s_way_25 s_px_25 s_py_25 s_free_25 s_tips_25 s_far_25 s_queue_25 s_turns_25) H locs := hW
    refine lv_aload_n hx hb dX8_planSmooth_28 rfl (lv_at hl 0 rfl) ?_
    refine q_get hF hK hW fl_X8_76 0 rfl rfl dX8_planSmooth_29 ?_
    refine q_if_le (tgt := 37) hx hb dX8_planSmooth_32 (by decide) hf (fun hf => ?_) (fun hf => ?_)
    · refine lv_aload_n hx hb dX8_planSmooth_37 rfl (lv_at hl 0 rfl) ?_
      refine lv_iload_n hx hb dX8_planSmooth_38 rfl (lv_at hl 1 rfl) ?_
      refine lv_iload_n hx hb dX8_planSmooth_39 rfl (lv_at hl 2 rfl) ?_
      obtain ⟨o_1, hc_1, hf⟩ := ob_bind hf
      refine q_callSI hF hl.1 hK hA hZ hW ms_X8_cellOf ml_X8_219 (c_X8_cellOf l D E tx y1_25 y2_25 o_1 hc_1) [] rfl rfl rfl ⟨Nat.le_of_ble_eq_true rfl, Nat.le_of_ble_eq_true rfl⟩ ⟨Nat.le_of_ble_eq_true rfl, Nat.le_of_ble_eq_true rfl⟩ rfl rfl (Nat.le_of_ble_eq_true rfl) dX8_planSmooth_40 (fun H locs hW => ?_)
      have hW : WD D A s (w_X8_planSmooth E h_ h_g h_kept h_past h_path h_pose h_way h_px h_py h_free h_tips h_far h_queue h_times h_turns h_names h_named h_text h_told h_spare s_hasKept s_pasts s_pathMoves_25 s_spot_25 k1_25 s_faulty_25 s_queued_25 s_length s_at s_error s_tolds s_number s_g s_path_25 s_pose_25 s_way_25 s_px_25 s_py_25 s_free_25 s_tips_25 s_far_25 s_queue_25 s_turns_25) H locs := hW
      obtain ⟨o_2, hc_2, hf⟩ := ob_bind hf
      refine q_callV hF hl.1 hK hA hZ hW mv_X8_toCell ml_X8_264 (c_X8_toCell l D E tx h_ h_g h_kept h_past h_path h_pose h_way h_px h_py h_free h_tips h_far h_queue h_times h_turns h_names h_named h_text h_told h_spare s_hasKept s_pasts s_pathMoves_25 s_spot_25 k1_25 s_faulty_25 s_queued_25 s_length s_at s_error s_tolds s_number s_g s_pose_25 s_way_25 s_px_25 s_py_25 s_free_25 s_tips_25 s_far_25 s_queue_25 o_1 o_2.1 o_2.2.1 o_2.2.2.1 o_2.2.2.2.1 o_2.2.2.2.2.1 o_2.2.2.2.2.2.1 o_2.2.2.2.2.2.2.1 o_2.2.2.2.2.2.2.2.1 o_2.2.2.2.2.2.2.2.2.1 o_2.2.2.2.2.2.2.2.2.2 hc_2) [0, 1, 3, 4, 5, 6, 7, 8, 9, 10] rfl rfl rfl rfl rfl rfl ⟨Nat.le_of_ble_eq_true rfl, Nat.le_of_ble_eq_true rfl⟩ ⟨Nat.le_of_ble_eq_true rfl, Nat.le_of_ble_eq_true rfl⟩ rfl rfl (Nat.le_of_ble_eq_true rfl) dX8_planSmooth_43 (fun H locs hW => ?_)
      have hW : WD D A s (w_X8_planSmooth E h_ h_g h_kept h_past h_path h_pose h_way h_px h_py h_free h_tips h_far h_queue h_times h_turns h_names h_named h_text h_told h_spare s_hasKept s_pasts s_pathMoves_25 s_spot_25 k1_25 o_2.1 o_2.2.1 s_length s_at s_error s_tolds s_number s_g s_path_25 o_2.2.2.1 o_2.2.2.2.1 o_2.2.2.2.2.1 o_2.2.2.2.2.2.1 o_2.2.2.2.2.2.2.1 o_2.2.2.2.2.2.2.2.1 o_2.2.2.2.2.2.2.2.2.1 o_2.2.2.2.2.2.2.2.2.2 s_turns_25) H locs := hW
      refine lv_iconst (v := 0) hx hb dX8_planSmooth_46 (by decide) ?_
      refine lv_istore_n (lv' := [(3, .int 0), (0, .ref h_), (1, .int y1_25), (2, .int y2_25)]) hx hb dX8_planSmooth_47 rfl hl (by decide) rfl (fun ls hl => ?_)
      have hB48 : ∀ (n : Nat) (s_turns_48 : Nat → Int32) (z3_48 : Int32) (ex : (Nat → Int32)) (H : Heap) (locs : List Loc) (ls : Array Slot), LPF (fun z => f_X8_planSmooth_B48 s_pathMoves_25 s_spot_25 k1_25 o_2.1 o_2.2.1 s_g s_path_25 o_2.2.2.1 o_2.2.2.2.1 o_2.2.2.2.2.1 o_2.2.2.2.2.2.1 o_2.2.2.2.2.2.2.1 o_2.2.2.2.2.2.2.2.1 o_2.2.2.2.2.2.2.2.2.1 o_2.2.2.2.2.2.2.2.2.2 z.1 z.2) n (s_turns_48, z3_48) = some ex → lv_has ls 7 [(0, .ref h_), (3, .int z3_48)] → WD D A s (w_X8_planSmooth E h_ h_g h_kept h_past h_path h_pose h_way h_px h_py h_free h_tips h_far h_queue h_times h_turns h_names h_named h_text h_told h_spare s_hasKept s_pasts s_pathMoves_25 s_spot_25 k1_25 o_2.1 o_2.2.1 s_length s_at s_error s_tolds s_number s_g s_path_25 o_2.2.2.1 o_2.2.2.2.1 o_2.2.2.2.2.1 o_2.2.2.2.2.2.1 o_2.2.2.2.2.2.2.1 o_2.2.2.2.2.2.2.2.1 o_2.2.2.2.2.2.2.2.2.1 o_2.2.2.2.2.2.2.2.2.2 s_turns_48) H locs → (∀ (H : Heap) (locs : List Loc) (ls : Array Slot), lv_has ls 7 [(0, .ref h_)] → WD D A s (w_X8_planSmooth E h_ h_g h_kept h_past h_path h_pose h_way h_px h_py h_free h_tips h_far h_queue h_times h_turns h_names h_named h_text h_told h_spare s_hasKept s_pasts s_pathMoves_25 s_spot_25 k1_25 o_2.1 o_2.2.1 s_length s_at s_error s_tolds s_number s_g s_path_25 o_2.2.2.1 o_2.2.2.2.1 o_2.2.2.2.2.1 o_2.2.2.2.2.2.1 o_2.2.2.2.2.2.2.1 o_2.2.2.2.2.2.2.2.1 o_2.2.2.2.2.2.2.2.2.1 o_2.2.2.2.2.2.2.2.2.2 ex) H locs → W p l e (RM 8 177) s m args below meth c H locs 0 0 Q (F0 m 125 ls [])) → W p l e (RM 8 177) s m args below meth c H locs 0 0 Q (F0 m 48 ls []) := by
        intro n
        induction n with
        | zero => intro s_turns_48 z3_48 ex H locs ls h9; exact (ob_lp0 h9).elim
        | succ n ih =>
          intro s_turns_48 z3_48 ex H locs ls h9 hl hW kx0
          obtain ⟨q9, hf, h9, k9⟩ := ob_lp h9
          have hf : f_X8_planSmooth_B48 s_pathMoves_25 s_spot_25 k1_25 o_2.1 o_2.2.1 s_g s_path_25 o_2.2.2.1 o_2.2.2.2.1 o_2.2.2.2.2.1 o_2.2.2.2.2.2.1 o_2.2.2.2.2.2.2.1 o_2.2.2.2.2.2.2.2.1 o_2.2.2.2.2.2.2.2.2.1 o_2.2.2.2.2.2.2.2.2.2 s_turns_48 z3_48 = some q9 := hf
          unfold f_X8_planSmooth_B48 at hf
          refine lv_iload_n hx hb dX8_planSmooth_48 rfl (lv_at hl 1 rfl) ?_
          refine lv_aload_n hx hb dX8_planSmooth_49 rfl (lv_at hl 0 rfl) ?_
          refine q_get hF hK hW fl_X8_234 0 rfl rfl dX8_planSmooth_50 ?_
          refine q_icmp_ge (tgt := 125) hx hb dX8_planSmooth_53 (by decide) hf (fun hf => ?_) (fun hf => ?_)
          · cases hf
            have hx9 := k9 _ rfl
            subst hx9
            exact kx0 _ _ _ (lv_sub hl [0] rfl) hW
          · refine lv_iconst (v := 0) hx hb dX8_planSmooth_56 (by decide) ?_
            refine lv_istore (lv' := [(4, .int 0), (0, .ref h_), (3, .int z3_48)]) hx hb dX8_planSmooth_57 hl (by decide) rfl (fun ls hl => ?_)
            have hB59 : ∀ (n : Nat) (s_turns_59 : Nat → Int32) (z4_59 : Int32) (ex : (Nat → Int32)) (H : Heap) (locs : List Loc) (ls : Array Slot), LPF (fun z => f_X8_planSmooth_B59 s_pathMoves_25 s_spot_25 k1_25 o_2.1 o_2.2.1 s_g s_path_25 o_2.2.2.1 o_2.2.2.2.1 o_2.2.2.2.2.1 o_2.2.2.2.2.2.1 o_2.2.2.2.2.2.2.1 o_2.2.2.2.2.2.2.2.1 o_2.2.2.2.2.2.2.2.2.1 o_2.2.2.2.2.2.2.2.2.2 z.1 z3_48 z.2) n (s_turns_59, z4_59) = some ex → lv_has ls 7 [(0, .ref h_), (3, .int z3_48), (4, .int z4_59)] → WD D A s (w_X8_planSmooth E h_ h_g h_kept h_past h_path h_pose h_way h_px h_py h_free h_tips h_far h_queue h_times h_turns h_names h_named h_text h_told h_spare s_hasKept s_pasts s_pathMoves_25 s_spot_25 k1_25 o_2.1 o_2.2.1 s_length s_at s_error s_tolds s_number s_g s_path_25 o_2.2.2.1 o_2.2.2.2.1 o_2.2.2.2.2.1 o_2.2.2.2.2.2.1 o_2.2.2.2.2.2.2.1 o_2.2.2.2.2.2.2.2.1 o_2.2.2.2.2.2.2.2.2.1 o_2.2.2.2.2.2.2.2.2.2 s_turns_59) H locs → (∀ (H : Heap) (locs : List Loc) (ls : Array Slot), lv_has ls 7 [(0, .ref h_), (3, .int z3_48)] → WD D A s (w_X8_planSmooth E h_ h_g h_kept h_past h_path h_pose h_way h_px h_py h_free h_tips h_far h_queue h_times h_turns h_names h_named h_text h_told h_spare s_hasKept s_pasts s_pathMoves_25 s_spot_25 k1_25 o_2.1 o_2.2.1 s_length s_at s_error s_tolds s_number s_g s_path_25 o_2.2.2.1 o_2.2.2.2.1 o_2.2.2.2.2.1 o_2.2.2.2.2.2.1 o_2.2.2.2.2.2.2.1 o_2.2.2.2.2.2.2.2.1 o_2.2.2.2.2.2.2.2.2.1 o_2.2.2.2.2.2.2.2.2.2 ex) H locs → W p l e (RM 8 177) s m args below meth c H locs 0 0 Q (F0 m 119 ls [])) → W p l e (RM 8 177) s m args below meth c H locs 0 0 Q (F0 m 59 ls []) := by
              intro n
              induction n with
              | zero => intro s_turns_59 z4_59 ex H locs ls h9; exact (ob_lp0 h9).elim
              | succ n ih =>
                intro s_turns_59 z4_59 ex H locs ls h9 hl hW kx0
                obtain ⟨q9, hf, h9, k9⟩ := ob_lp h9
                have hf : f_X8_planSmooth_B59 s_pathMoves_25 s_spot_25 k1_25 o_2.1 o_2.2.1 s_g s_path_25 o_2.2.2.1 o_2.2.2.2.1 o_2.2.2.2.2.1 o_2.2.2.2.2.2.1 o_2.2.2.2.2.2.2.1 o_2.2.2.2.2.2.2.2.1 o_2.2.2.2.2.2.2.2.2.1 o_2.2.2.2.2.2.2.2.2.2 s_turns_59 z3_48 z4_59 = some q9 := hf
                unfold f_X8_planSmooth_B59 at hf
                have hL112 : ∀ (s_turns_112 : Nat → Int32) (y4_112 : Int32) (k1_112 : Int32) (k2_112 : Int32) (H : Heap) (locs : List Loc) (ls : Array Slot), f_X8_planSmooth_L112 s_pathMoves_25 s_spot_25 k1_25 o_2.1 o_2.2.1 s_g s_path_25 o_2.2.2.1 o_2.2.2.2.1 o_2.2.2.2.2.1 o_2.2.2.2.2.2.1 o_2.2.2.2.2.2.2.1 o_2.2.2.2.2.2.2.2.1 o_2.2.2.2.2.2.2.2.2.1 o_2.2.2.2.2.2.2.2.2.2 s_turns_112 z3_48 y4_112 k1_112 k2_112 = some q9 → lv_has ls 7 [(0, .ref h_), (3, .int z3_48), (4, .int y4_112)] → WD D A s (w_X8_planSmooth E h_ h_g h_kept h_past h_path h_pose h_way h_px h_py h_free h_tips h_far h_queue h_times h_turns h_names h_named h_text h_told h_spare s_hasKept s_pasts s_pathMoves_25 s_spot_25 k1_25 o_2.1 o_2.2.1 s_length s_at s_error s_tolds s_number s_g s_path_25 o_2.2.2.1 o_2.2.2.2.1 o_2.2.2.2.2.1 o_2.2.2.2.2.2.1 o_2.2.2.2.2.2.2.1 o_2.2.2.2.2.2.2.2.1 o_2.2.2.2.2.2.2.2.2.1 o_2.2.2.2.2.2.2.2.2.2 s_turns_112) H locs → W p l e (RM 8 177) s m args below meth c H locs 0 0 Q (F0 m 112 ls [.int k2_112, .int k1_112, .ref h_turns]) := by
                  intro s_turns_112 y4_112 k1_112 k2_112 H locs ls hf hl hW
                  unfold f_X8_planSmooth_L112 at hf
                  refine q_iast hx hb hK hW 11 0 rfl rfl dX8_planSmooth_112 hf (fun a_3 hf H locs hW => ?_)
                  have hW : WD D A s (w_X8_planSmooth E h_ h_g h_kept h_past h_path h_pose h_way h_px h_py h_free h_tips h_far h_queue h_times h_turns h_names h_named h_text h_told h_spare s_hasKept s_pasts s_pathMoves_25 s_spot_25 k1_25 o_2.1 o_2.2.1 s_length s_at s_error s_tolds s_number s_g s_path_25 o_2.2.2.1 o_2.2.2.2.1 o_2.2.2.2.2.1 o_2.2.2.2.2.2.1 o_2.2.2.2.2.2.2.1 o_2.2.2.2.2.2.2.2.1 o_2.2.2.2.2.2.2.2.2.1 o_2.2.2.2.2.2.2.2.2.2 a_3) H locs := hW
                  obtain ⟨v_4, ev_4⟩ : ∃ y : Int32, y = y4_112 + 1 := ⟨_, rfl⟩
                  replace hf := ob_let hf ev_4
                  refine lv_iinc (v := v_4) (lv' := [(4, .int v_4), (0, .ref h_), (3, .int z3_48)]) hx hb dX8_planSmooth_113 hl (k := 2) rfl (by rw [ev_4]; rfl) (by decide) rfl (fun ls hl => ?_)
                  refine lv_goto (tgt := 59) hx hb dX8_planSmooth_116 (by decide) ?_
                  cases hf
                  exact ih a_3 v_4 ex _ _ _ (h9 _ rfl) (lv_sub hl [1, 2, 0] rfl) hW kx0
                refine lv_iload hx hb dX8_planSmooth_59 (lv_at hl 2 rfl) ?_
                refine lv_bipush (v := 9) hx hb dX8_planSmooth_61 (by decide) ?_
                refine q_icmp_ge (tgt := 119) hx hb dX8_planSmooth_63 (by decide) hf (fun hf => ?_) (fun hf => ?_)
                · cases hf
                  have hx9 := k9 _ rfl
                  subst hx9
                  exact kx0 _ _ _ (lv_sub hl [0, 1] rfl) hW
                · refine lv_aload_n hx hb dX8_planSmooth_66 rfl (lv_at hl 0 rfl) ?_
                  refine q_get hF hK hW fl_X8_55 0 rfl rfl dX8_planSmooth_67 ?_
                  refine lv_bipush (v := 9) hx hb dX8_planSmooth_70 (by decide) ?_
                  refine lv_aload_n hx hb dX8_planSmooth_72 rfl (lv_at hl 0 rfl) ?_
                  refine q_get hF hK hW fl_X8_48 0 rfl rfl dX8_planSmooth_73 ?_
                  refine lv_iload_n hx hb dX8_planSmooth_76 rfl (lv_at hl 1 rfl) ?_
                  refine q_iald hx hb hK hW 10 0 rfl rfl dX8_planSmooth_77 hf (fun hf => ?_)
                  refine lv_imul hx hb dX8_planSmooth_78 ?_
                  refine lv_iload hx hb dX8_planSmooth_79 (lv_at hl 2 rfl) ?_
                  refine lv_iadd hx hb dX8_planSmooth_81 ?_
                  refine lv_aload_n hx hb dX8_planSmooth_82 rfl (lv_at hl 0 rfl) ?_
                  refine q_get hF hK hW fl_X8_45 0 rfl rfl dX8_planSmooth_83 ?_
                  refine lv_aload_n hx hb dX8_planSmooth_86 rfl (lv_at hl 0 rfl) ?_
                  refine q_get hF hK hW fl_X8_48 0 rfl rfl dX8_planSmooth_87 ?_
                  refine lv_iload_n hx hb dX8_planSmooth_90 rfl (lv_at hl 1 rfl) ?_
                  refine q_iald hx hb hK hW 10 0 rfl rfl dX8_planSmooth_91 hf (fun hf => ?_)
                  refine q_iald hx hb hK hW 9 0 rfl rfl dX8_planSmooth_92 hf (fun hf => ?_)
                  refine q_if_ne (tgt := 100) hx hb dX8_planSmooth_93 (by decide) hf (fun hf => ?_) (fun hf => ?_)
                  · refine lv_aload_n hx hb dX8_planSmooth_100 rfl (lv_at hl 0 rfl) ?_
                    refine lv_aload_n hx hb dX8_planSmooth_101 rfl (lv_at hl 0 rfl) ?_
                    refine q_get hF hK hW fl_X8_48 0 rfl rfl dX8_planSmooth_102 ?_
                    refine lv_iload_n hx hb dX8_planSmooth_105 rfl (lv_at hl 1 rfl) ?_
                    refine q_iald hx hb hK hW 10 0 rfl rfl dX8_planSmooth_106 hf (fun hf => ?_)
                    refine lv_iload hx hb dX8_planSmooth_107 (lv_at hl 2 rfl) ?_
                    obtain ⟨o_5, hc_5, hf⟩ := ob_bind hf
                    refine q_callI hF hl.1 hK hA hZ hW mv_X8_leastTurns ml_X8_270 (c_X8_leastTurns l D E tx h_ h_g h_kept h_past h_path h_pose h_way h_px h_py h_free h_tips h_far h_queue h_times h_turns h_names h_named h_text h_told h_spare s_hasKept s_pasts s_pathMoves_25 s_spot_25 k1_25 o_2.1 o_2.2.1 s_length s_at s_error s_tolds s_number s_g o_2.2.2.2.2.2.2.1 o_2.2.2.2.2.2.2.2.2.1 s_turns_59 (o_2.2.2.2.2.2.2.2.2.2 z3_48.toNatClampNeg) z4_59 o_5 hc_5) [0, 1, 7, 9, 11] rfl rfl rfl rfl rfl rfl ⟨Nat.le_of_ble_eq_true rfl, Nat.le_of_ble_eq_true rfl⟩ ⟨Nat.le_of_ble_eq_true rfl, Nat.le_of_ble_eq_true rfl⟩ rfl rfl (Nat.le_of_ble_eq_true rfl) dX8_planSmooth_109 (fun H locs hW => ?_)
                    have hW : WD D A s (w_X8_planSmooth E h_ h_g h_kept h_past h_path h_pose h_way h_px h_py h_free h_tips h_far h_queue h_times h_turns h_names h_named h_text h_told h_spare s_hasKept s_pasts s_pathMoves_25 s_spot_25 k1_25 o_2.1 o_2.2.1 s_length s_at s_error s_tolds s_number s_g s_path_25 o_2.2.2.1 o_2.2.2.2.1 o_2.2.2.2.2.1 o_2.2.2.2.2.2.1 o_2.2.2.2.2.2.2.1 o_2.2.2.2.2.2.2.2.1 o_2.2.2.2.2.2.2.2.2.1 o_2.2.2.2.2.2.2.2.2.2 s_turns_59) H locs := hW
                    exact hL112 s_turns_59 z4_59 ((9 * (o_2.2.2.2.2.2.2.2.2.2 z3_48.toNatClampNeg)) + z4_59) o_5 _ _ _ hf (lv_sub hl [0, 1, 2] rfl) hW
                  · refine lv_iconst (v := 0) hx hb dX8_planSmooth_96 (by decide) ?_
                    refine lv_goto (tgt := 112) hx hb dX8_planSmooth_97 (by decide) ?_
                    exact hL112 s_turns_59 z4_59 ((9 * (o_2.2.2.2.2.2.2.2.2.2 z3_48.toNatClampNeg)) + z4_59) 0 _ _ _ hf (lv_sub hl [0, 1, 2] rfl) hW
            obtain ⟨e_6, hc_6, hf⟩ := ob_bind hf
            refine hB59 lfuel s_turns_48 0 e_6 _ _ _ hc_6 (lv_sub hl [1, 2, 0] rfl) hW ?_
            intro H locs ls hl hW
            obtain ⟨v_7, ev_7⟩ : ∃ y : Int32, y = z3_48 + 1 := ⟨_, rfl⟩
            replace hf := ob_let hf ev_7
            refine lv_iinc (v := v_7) (lv' := [(3, .int v_7), (0, .ref h_)]) hx hb dX8_planSmooth_119 hl (k := 1) rfl (by rw [ev_7]; rfl) (by decide) rfl (fun ls hl => ?_)
            refine lv_goto (tgt := 48) hx hb dX8_planSmooth_122 (by decide) ?_
            cases hf
            exact ih e_6 v_7 ex _ _ _ (h9 _ rfl) (lv_sub hl [1, 0] rfl) hW kx0
      obtain ⟨e_8, hc_8, hf⟩ := ob_bind hf
      refine hB48 lfuel s_turns_25 0 e_8 _ _ _ hc_8 (lv_sub hl [1, 0] rfl) hW ?_
      intro H locs ls hl hW
      refine lv_aload_n hx hb dX8_planSmooth_125 rfl (lv_at hl 0 rfl) ?_
      obtain ⟨o_9, hc_9, hf⟩ := ob_bind hf
      refine q_callI hF hl.1 hK hA hZ hW mv_X8_leads ml_X8_261 (c_X8_leads l D E tx h_ h_g h_kept h_past h_path h_pose h_way h_px h_py h_free h_tips h_far h_queue h_times h_turns h_names h_named h_text h_told h_spare s_hasKept s_pasts s_pathMoves_25 s_spot_25 k1_25 o_2.1 o_2.2.1 s_length s_at s_error s_tolds s_number s_g s_path_25 o_2.2.2.2.2.2.2.1 o_2.2.2.2.2.2.2.2.2.1 o_9.1 o_9.2.1 o_9.2.2.1 o_9.2.2.2 hc_9) [0, 1, 2, 7, 9] rfl rfl rfl rfl rfl rfl ⟨Nat.le_of_ble_eq_true rfl, Nat.le_of_ble_eq_true rfl⟩ ⟨Nat.le_of_ble_eq_true rfl, Nat.le_of_ble_eq_true rfl⟩ rfl rfl (Nat.le_of_ble_eq_true rfl) dX8_planSmooth_126 (fun H locs hW => ?_)
      have hW : WD D A s (w_X8_planSmooth E h_ h_g h_kept h_past h_path h_pose h_way h_px h_py h_free h_tips h_far h_queue h_times h_turns h_names h_named h_text h_told h_spare s_hasKept s_pasts o_9.2.1 o_9.2.2.1 k1_25 o_2.1 o_2.2.1 s_length s_at s_error s_tolds s_number s_g o_9.2.2.2 o_2.2.2.1 o_2.2.2.2.1 o_2.2.2.2.2.1 o_2.2.2.2.2.2.1 o_2.2.2.2.2.2.2.1 o_2.2.2.2.2.2.2.2.1 o_2.2.2.2.2.2.2.2.2.1 o_2.2.2.2.2.2.2.2.2.2 e_8) H locs := hW
      refine q_if_ne (tgt := 138) hx hb dX8_planSmooth_129 (by decide) hf (fun hf => ?_) (fun hf => ?_)
      · refine lv_aload_n hx hb dX8_planSmooth_138 rfl (lv_at hl 0 rfl) ?_
        obtain ⟨o_10, hc_10, hf⟩ := ob_bind hf
        refine q_callI hF hl.1 hK hA hZ hW mv_X8_numberNow ml_X8_181 (c_X8_numberNow l D E tx h_ h_g h_kept h_past h_path h_pose h_way h_px h_py h_free h_tips h_far h_queue h_times h_turns h_names h_named h_text h_told h_spare s_hasKept s_pasts o_9.2.1 o_9.2.2.1 k1_25 o_2.1 o_2.2.1 s_length s_at s_error s_tolds s_number s_g o_10 hc_10) [0, 1] rfl rfl rfl rfl rfl rfl ⟨Nat.le_of_ble_eq_true rfl, Nat.le_of_ble_eq_true rfl⟩ ⟨Nat.le_of_ble_eq_true rfl, Nat.le_of_ble_eq_true rfl⟩ rfl rfl (Nat.le_of_ble_eq_true rfl) dX8_planSmooth_139 (fun H locs hW => ?_)
        have hW : WD D A s (w_X8_planSmooth E h_ h_g h_kept h_past h_path h_pose h_way h_px h_py h_free h_tips h_far h_queue h_times h_turns h_names h_named h_text h_told h_spare s_hasKept s_pasts o_9.2.1 o_9.2.2.1 k1_25 o_2.1 o_2.2.1 s_length s_at s_error s_tolds s_number s_g o_9.2.2.2 o_2.2.2.1 o_2.2.2.2.1 o_2.2.2.2.2.1 o_2.2.2.2.2.2.1 o_2.2.2.2.2.2.2.1 o_2.2.2.2.2.2.2.2.1 o_2.2.2.2.2.2.2.2.2.1 o_2.2.2.2.2.2.2.2.2.2 e_8) H locs := hW
        refine lv_istore_n (lv' := [(3, .int o_10), (0, .ref h_)]) hx hb dX8_planSmooth_142 rfl hl (by decide) rfl (fun ls hl => ?_)
        refine lv_bipush (v := 8) hx hb dX8_planSmooth_143 (by decide) ?_
        refine lv_istore (lv' := [(4, .int 8), (3, .int o_10), (0, .ref h_)]) hx hb dX8_planSmooth_145 hl (by decide) rfl (fun ls hl => ?_)
        refine lv_iconst (v := 0) hx hb dX8_planSmooth_147 (by decide) ?_
        refine lv_istore (lv' := [(5, .int 0), (4, .int 8), (3, .int o_10), (0, .ref h_)]) hx hb dX8_planSmooth_148 hl (by decide) rfl (fun ls hl => ?_)
        have hB150 : ∀ (n : Nat) (s_path_150 : Nat → Int32) (z3_150 : Int32) (z4_150 : Int32) (z5_150 : Int32) (ex : (Nat → Int32)) (H : Heap) (locs : List Loc) (ls : Array Slot), LPF (fun z => f_X8_planSmooth_B150 o_9.2.1 o_9.2.2.1 k1_25 o_2.1 o_2.2.1 s_g z.1 o_2.2.2.1 o_2.2.2.2.1 o_2.2.2.2.2.1 o_2.2.2.2.2.2.1 o_2.2.2.2.2.2.2.1 o_2.2.2.2.2.2.2.2.1 o_2.2.2.2.2.2.2.2.2.1 o_2.2.2.2.2.2.2.2.2.2 e_8 z.2.1 z.2.2.1 z.2.2.2) n (s_path_150, z3_150, z4_150, z5_150) = some ex → lv_has ls 7 [(0, .ref h_), (3, .int z3_150), (4, .int z4_150), (5, .int z5_150)] → WD D A s (w_X8_planSmooth E h_ h_g h_kept h_past h_path h_pose h_way h_px h_py h_free h_tips h_far h_queue h_times h_turns h_names h_named h_text h_told h_spare s_hasKept s_pasts o_9.2.1 o_9.2.2.1 k1_25 o_2.1 o_2.2.1 s_length s_at s_error s_tolds s_number s_g s_path_150 o_2.2.2.1 o_2.2.2.2.1 o_2.2.2.2.2.1 o_2.2.2.2.2.2.1 o_2.2.2.2.2.2.2.1 o_2.2.2.2.2.2.2.2.1 o_2.2.2.2.2.2.2.2.2.1 o_2.2.2.2.2.2.2.2.2.2 e_8) H locs → (∀ (H : Heap) (locs : List Loc) (ls : Array Slot), lv_has ls 7 [(0, .ref h_)] → WD D A s (w_X8_planSmooth E h_ h_g h_kept h_past h_path h_pose h_way h_px h_py h_free h_tips h_far h_queue h_times h_turns h_names h_named h_text h_told h_spare s_hasKept s_pasts o_9.2.1 o_9.2.2.1 k1_25 o_2.1 o_2.2.1 s_length s_at s_error s_tolds s_number s_g ex o_2.2.2.1 o_2.2.2.2.1 o_2.2.2.2.2.1 o_2.2.2.2.2.2.1 o_2.2.2.2.2.2.2.1 o_2.2.2.2.2.2.2.2.1 o_2.2.2.2.2.2.2.2.2.1 o_2.2.2.2.2.2.2.2.2.2 e_8) H locs → W p l e (RM 8 177) s m args below meth c H locs 0 0 Q (F0 m 224 ls [])) → W p l e (RM 8 177) s m args below meth c H locs 0 0 Q (F0 m 150 ls []) := by
          intro n
          induction n with
          | zero => intro s_path_150 z3_150 z4_150 z5_150 ex H locs ls h9; exact (ob_lp0 h9).elim
          | succ n ih =>
            intro s_path_150 z3_150 z4_150 z5_150 ex H locs ls h9 hl hW kx0
            obtain ⟨q9, hf, h9, k9⟩ := ob_lp h9
            have hf : f_X8_planSmooth_B150 o_9.2.1 o_9.2.2.1 k1_25 o_2.1 o_2.2.1 s_g s_path_150 o_2.2.2.1 o_2.2.2.2.1 o_2.2.2.2.2.1 o_2.2.2.2.2.2.1 o_2.2.2.2.2.2.2.1 o_2.2.2.2.2.2.2.2.1 o_2.2.2.2.2.2.2.2.2.1 o_2.2.2.2.2.2.2.2.2.2 e_8 z3_150 z4_150 z5_150 = some q9 := hf
            unfold f_X8_planSmooth_B150 at hf
            refine lv_iload hx hb dX8_planSmooth_150 (lv_at hl 3 rfl) ?_
            refine lv_aload_n hx hb dX8_planSmooth_152 rfl (lv_at hl 0 rfl) ?_
            refine q_get hF hK hW fl_X8_22 0 rfl rfl dX8_planSmooth_153 ?_
            refine q_icmp_ge (tgt := 224) hx hb dX8_planSmooth_156 (by decide) hf (fun hf => ?_) (fun hf => ?_)
            · cases hf
              have hx9 := k9 _ rfl
              subst hx9
              exact kx0 _ _ _ (lv_sub hl [0] rfl) hW
            · refine lv_iconst (v := 0) hx hb dX8_planSmooth_159 (by decide) ?_
              refine lv_istore (lv' := [(6, .int 0), (0, .ref h_), (3, .int z3_150), (4, .int z4_150), (5, .int z5_150)]) hx hb dX8_planSmooth_160 hl (by decide) rfl (fun ls hl => ?_)
              have hB162 : ∀ (n : Nat) (z6_162 : Int32) (ex : Int32) (H : Heap) (locs : List Loc) (ls : Array Slot), LPF (fun z => f_X8_planSmooth_B162 o_9.2.1 o_9.2.2.1 k1_25 o_2.1 o_2.2.1 s_g s_path_150 o_2.2.2.1 o_2.2.2.2.1 o_2.2.2.2.2.1 o_2.2.2.2.2.2.1 o_2.2.2.2.2.2.2.1 o_2.2.2.2.2.2.2.2.1 o_2.2.2.2.2.2.2.2.2.1 o_2.2.2.2.2.2.2.2.2.2 e_8 z3_150 z4_150 z5_150 z) n z6_162 = some ex → lv_has ls 7 [(0, .ref h_), (3, .int z3_150), (4, .int z4_150), (5, .int z5_150), (6, .int z6_162)] → WD D A s (w_X8_planSmooth E h_ h_g h_kept h_past h_path h_pose h_way h_px h_py h_free h_tips h_far h_queue h_times h_turns h_names h_named h_text h_told h_spare s_hasKept s_pasts o_9.2.1 o_9.2.2.1 k1_25 o_2.1 o_2.2.1 s_length s_at s_error s_tolds s_number s_g s_path_150 o_2.2.2.1 o_2.2.2.2.1 o_2.2.2.2.2.1 o_2.2.2.2.2.2.1 o_2.2.2.2.2.2.2.1 o_2.2.2.2.2.2.2.2.1 o_2.2.2.2.2.2.2.2.2.1 o_2.2.2.2.2.2.2.2.2.2 e_8) H locs → (∀ (H : Heap) (locs : List Loc) (ls : Array Slot), lv_has ls 7 [(0, .ref h_), (3, .int z3_150), (5, .int z5_150), (6, .int ex)] → WD D A s (w_X8_planSmooth E h_ h_g h_kept h_past h_path h_pose h_way h_px h_py h_free h_tips h_far h_queue h_times h_turns h_names h_named h_text h_told h_spare s_hasKept s_pasts o_9.2.1 o_9.2.2.1 k1_25 o_2.1 o_2.2.1 s_length s_at s_error s_tolds s_number s_g s_path_150 o_2.2.2.1 o_2.2.2.2.1 o_2.2.2.2.2.1 o_2.2.2.2.2.2.1 o_2.2.2.2.2.2.2.1 o_2.2.2.2.2.2.2.2.1 o_2.2.2.2.2.2.2.2.2.1 o_2.2.2.2.2.2.2.2.2.2 e_8) H locs → W p l e (RM 8 177) s m args below meth c H locs 0 0 Q (F0 m 197 ls [])) → W p l e (RM 8 177) s m args below meth c H locs 0 0 Q (F0 m 162 ls []) := by
                intro n
                induction n with
                | zero => intro z6_162 ex H locs ls h9; exact (ob_lp0 h9).elim
                | succ n ih =>
                  intro z6_162 ex H locs ls h9 hl hW kx0
                  obtain ⟨q9, hf, h9, k9⟩ := ob_lp h9
                  have hf : f_X8_planSmooth_B162 o_9.2.1 o_9.2.2.1 k1_25 o_2.1 o_2.2.1 s_g s_path_150 o_2.2.2.1 o_2.2.2.2.1 o_2.2.2.2.2.1 o_2.2.2.2.2.2.1 o_2.2.2.2.2.2.2.1 o_2.2.2.2.2.2.2.2.1 o_2.2.2.2.2.2.2.2.2.1 o_2.2.2.2.2.2.2.2.2.2 e_8 z3_150 z4_150 z5_150 z6_162 = some q9 := hf
                  unfold f_X8_planSmooth_B162 at hf
                  refine lv_aload_n hx hb dX8_planSmooth_162 rfl (lv_at hl 0 rfl) ?_
                  refine lv_iload_n hx hb dX8_planSmooth_163 rfl (lv_at hl 1 rfl) ?_
                  refine lv_iload hx hb dX8_planSmooth_164 (lv_at hl 4 rfl) ?_
                  obtain ⟨o_11, hc_11, hf⟩ := ob_bind hf
                  refine q_callI hF hl.1 hK hA hZ hW mv_X8_isNearer ml_X8_255 (c_X8_isNearer l D E tx h_ h_g h_kept h_past h_path h_pose h_way h_px h_py h_free h_tips h_far h_queue h_times h_turns h_names h_named h_text h_told h_spare s_hasKept s_pasts o_9.2.1 o_9.2.2.1 k1_25 o_2.1 o_2.2.1 s_length s_at s_error s_tolds s_number s_g o_2.2.2.2.2.2.2.1 o_2.2.2.2.2.2.2.2.2.1 z3_150 z6_162 o_11 hc_11) [0, 1, 7, 9] rfl rfl rfl rfl rfl rfl ⟨Nat.le_of_ble_eq_true rfl, Nat.le_of_ble_eq_true rfl⟩ ⟨Nat.le_of_ble_eq_true rfl, Nat.le_of_ble_eq_true rfl⟩ rfl rfl (Nat.le_of_ble_eq_true rfl) dX8_planSmooth_166 (fun H locs hW => ?_)
                  have hW : WD D A s (w_X8_planSmooth E h_ h_g h_kept h_past h_path h_pose h_way h_px h_py h_free h_tips h_far h_queue h_times h_turns h_names h_named h_text h_told h_spare s_hasKept s_pasts o_9.2.1 o_9.2.2.1 k1_25 o_2.1 o_2.2.1 s_length s_at s_error s_tolds s_number s_g s_path_150 o_2.2.2.1 o_2.2.2.2.1 o_2.2.2.2.2.1 o_2.2.2.2.2.2.1 o_2.2.2.2.2.2.2.1 o_2.2.2.2.2.2.2.2.1 o_2.2.2.2.2.2.2.2.2.1 o_2.2.2.2.2.2.2.2.2.2 e_8) H locs := hW
                  refine q_if_eq (tgt := 191) hx hb dX8_planSmooth_169 (by decide) hf (fun hf => ?_) (fun hf => ?_)
                  · obtain ⟨v_12, ev_12⟩ : ∃ y : Int32, y = z6_162 + 1 := ⟨_, rfl⟩
                    replace hf := ob_let hf ev_12
                    refine lv_iinc (v := v_12) (lv' := [(6, .int v_12), (0, .ref h_), (3, .int z3_150), (4, .int z4_150), (5, .int z5_150)]) hx hb dX8_planSmooth_191 hl (k := 4) rfl (by rw [ev_12]; rfl) (by decide) rfl (fun ls hl => ?_)
                    refine lv_goto (tgt := 162) hx hb dX8_planSmooth_194 (by decide) ?_
                    cases hf
                    exact ih v_12 ex _ _ _ (h9 _ rfl) (lv_sub hl [1, 2, 3, 4, 0] rfl) hW kx0
                  · refine lv_aload_n hx hb dX8_planSmooth_172 rfl (lv_at hl 0 rfl) ?_
                    refine lv_iload_n hx hb dX8_planSmooth_173 rfl (lv_at hl 1 rfl) ?_
                    refine lv_iload hx hb dX8_planSmooth_174 (lv_at hl 2 rfl) ?_
                    refine lv_iload hx hb dX8_planSmooth_176 (lv_at hl 4 rfl) ?_
                    obtain ⟨o_13, hc_13, hf⟩ := ob_bind hf
                    refine q_callI hF hl.1 hK hA hZ hW mv_X8_turnsBy ml_X8_267 (c_X8_turnsBy l D E tx h_ h_g h_kept h_past h_path h_pose h_way h_px h_py h_free h_tips h_far h_queue h_times h_turns h_names h_named h_text h_told h_spare s_hasKept s_pasts o_9.2.1 o_9.2.2.1 k1_25 o_2.1 o_2.2.1 s_length s_at s_error s_tolds s_number s_g e_8 z3_150 z4_150 z6_162 o_13 hc_13) [0, 1, 11] rfl rfl rfl rfl rfl rfl ⟨Nat.le_of_ble_eq_true rfl, Nat.le_of_ble_eq_true rfl⟩ ⟨Nat.le_of_ble_eq_true rfl, Nat.le_of_ble_eq_true rfl⟩ rfl rfl (Nat.le_of_ble_eq_true rfl) dX8_planSmooth_178 (fun H locs hW => ?_)
                    have hW : WD D A s (w_X8_planSmooth E h_ h_g h_kept h_past h_path h_pose h_way h_px h_py h_free h_tips h_far h_queue h_times h_turns h_names h_named h_text h_told h_spare s_hasKept s_pasts o_9.2.1 o_9.2.2.1 k1_25 o_2.1 o_2.2.1 s_length s_at s_error s_tolds s_number s_g s_path_150 o_2.2.2.1 o_2.2.2.2.1 o_2.2.2.2.2.1 o_2.2.2.2.2.2.1 o_2.2.2.2.2.2.2.1 o_2.2.2.2.2.2.2.2.1 o_2.2.2.2.2.2.2.2.2.1 o_2.2.2.2.2.2.2.2.2.2 e_8) H locs := hW
                    refine lv_aload_n hx hb dX8_planSmooth_181 rfl (lv_at hl 0 rfl) ?_
                    refine lv_iload_n hx hb dX8_planSmooth_182 rfl (lv_at hl 1 rfl) ?_
                    refine lv_iload hx hb dX8_planSmooth_183 (lv_at hl 2 rfl) ?_
                    obtain ⟨o_14, hc_14, hf⟩ := ob_bind hf
                    refine q_callI hF hl.1 hK hA hZ hW mv_X8_leastTurns ml_X8_270 (c_X8_leastTurns l D E tx h_ h_g h_kept h_past h_path h_pose h_way h_px h_py h_free h_tips h_far h_queue h_times h_turns h_names h_named h_text h_told h_spare s_hasKept s_pasts o_9.2.1 o_9.2.2.1 k1_25 o_2.1 o_2.2.1 s_length s_at s_error s_tolds s_number s_g o_2.2.2.2.2.2.2.1 o_2.2.2.2.2.2.2.2.2.1 e_8 z3_150 z4_150 o_14 hc_14) [0, 1, 7, 9, 11] rfl rfl rfl rfl rfl rfl ⟨Nat.le_of_ble_eq_true rfl, Nat.le_of_ble_eq_true rfl⟩ ⟨Nat.le_of_ble_eq_true rfl, Nat.le_of_ble_eq_true rfl⟩ rfl rfl (Nat.le_of_ble_eq_true rfl) dX8_planSmooth_185 (fun H locs hW => ?_)
                    have hW : WD D A s (w_X8_planSmooth E h_ h_g h_kept h_past h_path h_pose h_way h_px h_py h_free h_tips h_far h_queue h_times h_turns h_names h_named h_text h_told h_spare s_hasKept s_pasts o_9.2.1 o_9.2.2.1 k1_25 o_2.1 o_2.2.1 s_length s_at s_error s_tolds s_number s_g s_path_150 o_2.2.2.1 o_2.2.2.2.1 o_2.2.2.2.2.1 o_2.2.2.2.2.2.1 o_2.2.2.2.2.2.2.1 o_2.2.2.2.2.2.2.2.1 o_2.2.2.2.2.2.2.2.2.1 o_2.2.2.2.2.2.2.2.2.2 e_8) H locs := hW
                    refine q_icmp_eq (tgt := 197) hx hb dX8_planSmooth_188 (by decide) hf (fun hf => ?_) (fun hf => ?_)
                    · cases hf
                      have hx9 := k9 _ rfl
                      subst hx9
                      exact kx0 _ _ _ (lv_sub hl [0, 1, 3, 4] rfl) hW
                    · obtain ⟨v_15, ev_15⟩ : ∃ y : Int32, y = z6_162 + 1 := ⟨_, rfl⟩
                      replace hf := ob_let hf ev_15
                      refine lv_iinc (v := v_15) (lv' := [(6, .int v_15), (0, .ref h_), (3, .int z3_150), (4, .int z4_150), (5, .int z5_150)]) hx hb dX8_planSmooth_191 hl (k := 4) rfl (by rw [ev_15]; rfl) (by decide) rfl (fun ls hl => ?_)
                      refine lv_goto (tgt := 162) hx hb dX8_planSmooth_194 (by decide) ?_
                      cases hf
                      exact ih v_15 ex _ _ _ (h9 _ rfl) (lv_sub hl [1, 2, 3, 4, 0] rfl) hW kx0
              obtain ⟨e_16, hc_16, hf⟩ := ob_bind hf
              refine hB162 lfuel 0 e_16 _ _ _ hc_16 (lv_sub hl [1, 2, 3, 4, 0] rfl) hW ?_
              intro H locs ls hl hW
              refine lv_aload_n hx hb dX8_planSmooth_197 rfl (lv_at hl 0 rfl) ?_
              refine q_get hF hK hW fl_X8_19 0 rfl rfl dX8_planSmooth_198 ?_
              refine lv_iload hx hb dX8_planSmooth_201 (lv_at hl 2 rfl) ?_
              refine lv_iload hx hb dX8_planSmooth_203 (lv_at hl 3 rfl) ?_
              refine q_iast hx hb hK hW 2 0 rfl rfl dX8_planSmooth_205 hf (fun a_17 hf H locs hW => ?_)
              have hW : WD D A s (w_X8_planSmooth E h_ h_g h_kept h_past h_path h_pose h_way h_px h_py h_free h_tips h_far h_queue h_times h_turns h_names h_named h_text h_told h_spare s_hasKept s_pasts o_9.2.1 o_9.2.2.1 k1_25 o_2.1 o_2.2.1 s_length s_at s_error s_tolds s_number s_g a_17 o_2.2.2.1 o_2.2.2.2.1 o_2.2.2.2.2.1 o_2.2.2.2.2.2.1 o_2.2.2.2.2.2.2.1 o_2.2.2.2.2.2.2.2.1 o_2.2.2.2.2.2.2.2.2.1 o_2.2.2.2.2.2.2.2.2.2 e_8) H locs := hW
              refine lv_aload_n hx hb dX8_planSmooth_206 rfl (lv_at hl 0 rfl) ?_
              refine lv_iload_n hx hb dX8_planSmooth_207 rfl (lv_at hl 1 rfl) ?_
              refine lv_iload hx hb dX8_planSmooth_208 (lv_at hl 3 rfl) ?_
              obtain ⟨o_18, hc_18, hf⟩ := ob_bind hf
              refine q_callI hF hl.1 hK hA hZ hW mv_X8_behind ml_X8_196 (c_X8_behind l D E tx h_ h_g h_kept h_past h_path h_pose h_way h_px h_py h_free h_tips h_far h_queue h_times h_turns h_names h_named h_text h_told h_spare s_hasKept s_pasts o_9.2.1 o_9.2.2.1 k1_25 o_2.1 o_2.2.1 s_length s_at s_error s_tolds s_number s_g z3_150 e_16 o_18 hc_18) [0, 1] rfl rfl rfl rfl rfl rfl ⟨Nat.le_of_ble_eq_true rfl, Nat.le_of_ble_eq_true rfl⟩ ⟨Nat.le_of_ble_eq_true rfl, Nat.le_of_ble_eq_true rfl⟩ rfl rfl (Nat.le_of_ble_eq_true rfl) dX8_planSmooth_210 (fun H locs hW => ?_)
              have hW : WD D A s (w_X8_planSmooth E h_ h_g h_kept h_past h_path h_pose h_way h_px h_py h_free h_tips h_far h_queue h_times h_turns h_names h_named h_text h_told h_spare s_hasKept s_pasts o_9.2.1 o_9.2.2.1 k1_25 o_2.1 o_2.2.1 s_length s_at s_error s_tolds s_number s_g a_17 o_2.2.2.1 o_2.2.2.2.1 o_2.2.2.2.2.1 o_2.2.2.2.2.2.1 o_2.2.2.2.2.2.2.1 o_2.2.2.2.2.2.2.2.1 o_2.2.2.2.2.2.2.2.2.1 o_2.2.2.2.2.2.2.2.2.2 e_8) H locs := hW
              refine lv_istore_n (lv' := [(3, .int o_18), (0, .ref h_), (5, .int z5_150), (6, .int e_16)]) hx hb dX8_planSmooth_213 rfl hl (by decide) rfl (fun ls hl => ?_)
              refine lv_iload hx hb dX8_planSmooth_214 (lv_at hl 3 rfl) ?_
              refine lv_istore (lv' := [(4, .int e_16), (3, .int o_18), (0, .ref h_), (5, .int z5_150), (6, .int e_16)]) hx hb dX8_planSmooth_216 hl (by decide) rfl (fun ls hl => ?_)
              obtain ⟨v_19, ev_19⟩ : ∃ y : Int32, y = z5_150 + 1 := ⟨_, rfl⟩
              replace hf := ob_let hf ev_19
              refine lv_iinc (v := v_19) (lv' := [(5, .int v_19), (4, .int e_16), (3, .int o_18), (0, .ref h_), (6, .int e_16)]) hx hb dX8_planSmooth_218 hl (k := 3) rfl (by rw [ev_19]; rfl) (by decide) rfl (fun ls hl => ?_)
              refine lv_goto (tgt := 150) hx hb dX8_planSmooth_221 (by decide) ?_
              cases hf
              exact ih a_17 o_18 e_16 v_19 ex _ _ _ (h9 _ rfl) (lv_sub hl [3, 2, 1, 0] rfl) hW kx0
        obtain ⟨e_20, hc_20, hf⟩ := ob_bind hf
        refine hB150 lfuel o_9.2.2.2 o_10 8 0 e_20 _ _ _ hc_20 (lv_sub hl [3, 2, 1, 0] rfl) hW ?_
        intro H locs ls hl hW
        refine lv_aload_n hx hb dX8_planSmooth_224 rfl (lv_at hl 0 rfl) ?_
        obtain ⟨o_21, hc_21, hf⟩ := ob_bind hf
        refine q_callI hF hl.1 hK hA hZ hW mv_X8_changesOf ml_X8_273 (c_X8_changesOf l D E tx h_ h_g h_kept h_past h_path h_pose h_way h_px h_py h_free h_tips h_far h_queue h_times h_turns h_names h_named h_text h_told h_spare s_hasKept s_pasts o_9.2.1 o_9.2.2.1 k1_25 o_2.1 o_2.2.1 s_length s_at s_error s_tolds s_number e_20 o_21 hc_21) [0, 2] rfl rfl rfl rfl rfl rfl ⟨Nat.le_of_ble_eq_true rfl, Nat.le_of_ble_eq_true rfl⟩ ⟨Nat.le_of_ble_eq_true rfl, Nat.le_of_ble_eq_true rfl⟩ rfl rfl (Nat.le_of_ble_eq_true rfl) dX8_planSmooth_225 (fun H locs hW => ?_)
        have hW : WD D A s (w_X8_planSmooth E h_ h_g h_kept h_past h_path h_pose h_way h_px h_py h_free h_tips h_far h_queue h_times h_turns h_names h_named h_text h_told h_spare s_hasKept s_pasts o_9.2.1 o_9.2.2.1 k1_25 o_2.1 o_2.2.1 s_length s_at s_error s_tolds s_number s_g e_20 o_2.2.2.1 o_2.2.2.2.1 o_2.2.2.2.2.1 o_2.2.2.2.2.2.1 o_2.2.2.2.2.2.2.1 o_2.2.2.2.2.2.2.2.1 o_2.2.2.2.2.2.2.2.2.1 o_2.2.2.2.2.2.2.2.2.2 e_8) H locs := hW
        cases hf
        exact hret dX8_planSmooth_228 rfl rfl hW
      · refine lv_aload_n hx hb dX8_planSmooth_132 rfl (lv_at hl 0 rfl) ?_
        refine lv_iconst (v := 3) hx hb dX8_planSmooth_133 (by decide) ?_
        obtain ⟨o_22, hc_22, hf⟩ := ob_bind hf
        refine q_callI hF hl.1 hK hA hZ hW mv_X8_fails ml_X8_86 (c_X8_fails l D E tx h_ h_g h_kept h_past h_path h_pose h_way h_px h_py h_free h_tips h_far h_queue h_times h_turns h_names h_named h_text h_told h_spare s_hasKept s_pasts o_9.2.1 o_9.2.2.1 k1_25 o_2.1 o_2.2.1 s_length s_at s_error s_tolds s_number 3 o_22.1 o_22.2 hc_22) [0] rfl rfl rfl rfl rfl rfl ⟨Nat.le_of_ble_eq_true rfl, Nat.le_of_ble_eq_true rfl⟩ ⟨Nat.le_of_ble_eq_true rfl, Nat.le_of_ble_eq_true rfl⟩ rfl rfl (Nat.le_of_ble_eq_true rfl) dX8_planSmooth_134 (fun H locs hW => ?_)
        have hW : WD D A s (w_X8_planSmooth E h_ h_g h_kept h_past h_path h_pose h_way h_px h_py h_free h_tips h_far h_queue h_times h_turns h_names h_named h_text h_told h_spare s_hasKept s_pasts o_9.2.1 o_9.2.2.1 o_22.2 o_2.1 o_2.2.1 s_length s_at s_error s_tolds s_number s_g o_9.2.2.2 o_2.2.2.1 o_2.2.2.2.1 o_2.2.2.2.2.1 o_2.2.2.2.2.2.1 o_2.2.2.2.2.2.2.1 o_2.2.2.2.2.2.2.2.1 o_2.2.2.2.2.2.2.2.2.1 o_2.2.2.2.2.2.2.2.2.2 e_8) H locs := hW
        cases hf
        exact hret dX8_planSmooth_137 rfl rfl hW
    · refine lv_iconst (v := 0) hx hb dX8_planSmooth_35 (by decide) ?_
      cases hf
      exact hret dX8_planSmooth_36 rfl rfl hW
  refine lv_aload_n hx hb dX8_planSmooth_0 rfl (lv_at hl 0 rfl) ?_
  refine lv_iload_n hx hb dX8_planSmooth_1 rfl (lv_at hl 1 rfl) ?_
  refine lv_iload_n hx hb dX8_planSmooth_2 rfl (lv_at hl 2 rfl) ?_
  obtain ⟨o_23, hc_23, hf⟩ := ob_bind hf
  refine q_callSI hF hl.1 hK hA hZ hW ms_X8_isCell ml_X8_109 (c_X8_isCell l D E tx x1 x2 o_23 hc_23) [] rfl rfl rfl ⟨Nat.le_of_ble_eq_true rfl, Nat.le_of_ble_eq_true rfl⟩ ⟨Nat.le_of_ble_eq_true rfl, Nat.le_of_ble_eq_true rfl⟩ rfl rfl (Nat.le_of_ble_eq_true rfl) dX8_planSmooth_3 (fun H locs hW => ?_)
  have hW : WD D A s (w_X8_planSmooth E h_ h_g h_kept h_past h_path h_pose h_way h_px h_py h_free h_tips h_far h_queue h_times h_turns h_names h_named h_text h_told h_spare s_hasKept s_pasts s_pathMoves s_spot s_thrown s_faulty s_queued s_length s_at s_error s_tolds s_number s_g s_path s_pose s_way s_px s_py s_free s_tips s_far s_queue s_turns) H locs := hW
  refine q_if_eq (tgt := 24) hx hb dX8_planSmooth_6 (by decide) hf (fun hf => ?_) (fun hf => ?_)
  · refine lv_iconst (v := 1) hx hb dX8_planSmooth_24 (by decide) ?_
    exact hL25 s_pathMoves s_spot s_thrown s_faulty s_queued s_path s_pose s_way s_px s_py s_free s_tips s_far s_queue s_turns x1 x2 1 _ _ _ hf (lv_sub hl [0, 1, 2] rfl) hW
  · refine lv_aload_n hx hb dX8_planSmooth_9 rfl (lv_at hl 0 rfl) ?_
    obtain ⟨o_24, hc_24, hf⟩ := ob_bind hf
    refine q_callI hF hl.1 hK hA hZ hW mv_X8_isMany ml_X8_222 (c_X8_isMany l D E tx h_ h_g h_kept h_past h_path h_pose h_way h_px h_py h_free h_tips h_far h_queue h_times h_turns h_names h_named h_text h_told h_spare s_hasKept s_pasts s_pathMoves s_spot s_thrown s_faulty s_queued s_length s_at s_error s_tolds s_number s_g o_24 hc_24) [0, 1] rfl rfl rfl rfl rfl rfl ⟨Nat.le_of_ble_eq_true rfl, Nat.le_of_ble_eq_true rfl⟩ ⟨Nat.le_of_ble_eq_true rfl, Nat.le_of_ble_eq_true rfl⟩ rfl rfl (Nat.le_of_ble_eq_true rfl) dX8_planSmooth_10 (fun H locs hW => ?_)
    have hW : WD D A s (w_X8_planSmooth E h_ h_g h_kept h_past h_path h_pose h_way h_px h_py h_free h_tips h_far h_queue h_times h_turns h_names h_named h_text h_told h_spare s_hasKept s_pasts s_pathMoves s_spot s_thrown s_faulty s_queued s_length s_at s_error s_tolds s_number s_g s_path s_pose s_way s_px s_py s_free s_tips s_far s_queue s_turns) H locs := hW
    refine q_if_eq (tgt := 20) hx hb dX8_planSmooth_13 (by decide) hf (fun hf => ?_) (fun hf => ?_)
    · refine lv_iconst (v := 0) hx hb dX8_planSmooth_20 (by decide) ?_
      refine lv_goto (tgt := 25) hx hb dX8_planSmooth_21 (by decide) ?_
      exact hL25 s_pathMoves s_spot s_thrown s_faulty s_queued s_path s_pose s_way s_px s_py s_free s_tips s_far s_queue s_turns x1 x2 0 _ _ _ hf (lv_sub hl [0, 1, 2] rfl) hW
    · refine lv_iconst (v := 2) hx hb dX8_planSmooth_16 (by decide) ?_
      refine lv_goto (tgt := 25) hx hb dX8_planSmooth_17 (by decide) ?_
      exact hL25 s_pathMoves s_spot s_thrown s_faulty s_queued s_path s_pose s_way s_px s_py s_free s_tips s_far s_queue s_turns x1 x2 2 _ _ _ hf (lv_sub hl [0, 1, 2] rfl) hW
