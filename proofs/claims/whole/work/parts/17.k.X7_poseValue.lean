def f_X7_poseValue_L31 (s_now_links_31 : Int32) (s_now_lower_31 : Nat → Int32) (s_now_upper_31 : Nat → Int32) (s_trial_31 : Nat → Int32) : Option (Nat × Int32 × (Nat → Int32)) := some ((3, 0, s_trial_31))
def f_X7_poseValue (s_now_links : Int32) (s_now_lower : Nat → Int32) (s_now_upper : Nat → Int32) (s_trial : Nat → Int32) (x1 : Int32) (x2 : Int32) : Option (Nat × Int32 × (Nat → Int32)) := if x1 < 0 then (f_X7_poseValue_L31 s_now_links s_now_lower s_now_upper s_trial) else ((f_X4_poses s_now_links s_now_lower s_now_upper).bind fun o_1 => if o_1 ≤ x1 then (f_X7_poseValue_L31 s_now_links s_now_lower s_now_upper s_trial) else ((f_X4_hasLink s_now_links x2).bind fun o_2 => if o_2 = 0 then (f_X7_poseValue_L31 s_now_links s_now_lower s_now_upper s_trial) else (if x2 < 4 then ((f_X4_readPose s_now_links s_now_lower s_now_upper s_trial x1).bind fun o_3 => GD x2 4 <| some ((0, o_3 x2.toNatClampNeg, o_3))) else (f_X7_poseValue_L31 s_now_links s_now_lower s_now_upper s_trial))))
def w_X7_poseValue (E : Nat → ClassId) (h_ h_now h_saved h_draft h_history h_walk h_space h_route h_bookmarks h_input h_trial h_tally h_now_length h_now_lower h_now_upper h_now_value h_now_obstacleX h_now_obstacleY h_now_blocked : Nat) (s_hasSaved : Int32) (s_keptError : Int32) (s_now_links : Int32) (s_now_obstacles : Int32) (s_now_lower : Nat → Int32) (s_now_upper : Nat → Int32) (s_trial : Nat → Int32) : va_W := [(h_, .inr (9, [.ref h_now, .ref h_saved, .ref h_draft, .ref h_history, .ref h_walk, .ref h_space, .ref h_route, .ref h_bookmarks, .ref h_input, .ref h_trial, .ref h_tally, .int s_hasSaved, .int s_keptError])), (h_now, .inr (6, [.int s_now_links, .ref h_now_length, .ref h_now_lower, .ref h_now_upper, .ref h_now_value, .int s_now_obstacles, .ref h_now_obstacleX, .ref h_now_obstacleY, .ref h_now_blocked])), (h_now_lower, .inl (E 0, 4, .inl s_now_lower)), (h_now_upper, .inl (E 0, 4, .inl s_now_upper)), (h_trial, .inl (E 0, 4, .inl s_trial))]
set_option maxHeartbeats 4000000 in
set_option maxRecDepth 100000 in
theorem c_X7_poseValue (l : Launch) (hlt : l.stackTraces = false) (D : va_G) (E : Nat → ClassId) (h_ h_now h_saved h_draft h_history h_walk h_space h_route h_bookmarks h_input h_trial h_tally h_now_length h_now_lower h_now_upper h_now_value h_now_obstacleX h_now_obstacleY h_now_blocked : Nat) (s_hasSaved : Int32) (s_keptError : Int32) (s_now_links : Int32) (s_now_obstacles : Int32) (s_now_lower : Nat → Int32) (s_now_upper : Nat → Int32) (s_trial : Nat → Int32) (x1 : Int32) (x2 : Int32) (o : Nat × Int32 × (Nat → Int32)) (hf : f_X7_poseValue s_now_links s_now_lower s_now_upper s_trial x1 x2 = some o) : XI l yX7_poseValue cX7_poseValue 3 (some .int) 6 110 1 6 D E TXL [.ref h_, .int x1, .int x2] (w_X7_poseValue E h_ h_now h_saved h_draft h_history h_walk h_space h_route h_bookmarks h_input h_trial h_tally h_now_length h_now_lower h_now_upper h_now_value h_now_obstacleX h_now_obstacleY h_now_blocked s_hasSaved s_keptError s_now_links s_now_obstacles s_now_lower s_now_upper s_trial) (w_X7_poseValue E h_ h_now h_saved h_draft h_history h_walk h_space h_route h_bookmarks h_input h_trial h_tally h_now_length h_now_lower h_now_upper h_now_value h_now_obstacleX h_now_obstacleY h_now_blocked s_hasSaved s_keptError s_now_links s_now_obstacles s_now_lower s_now_upper o.2.2) o.1 o.2.1 := by
  refine XI_of RX7 hlt (Nat.le_of_ble_eq_true rfl) pn_X7 rfl (Nat.le_of_ble_eq_true rfl) (fun p e s m args below meth c A Q hF hK hA hZ hW hret hthru hthr hthrw ls hl => ?_)
  have hx := hF.1
  have hb := hF.2.1
  have hl : lv_has ls 3 [(0, .ref h_), (1, .int x1), (2, .int x2)] := hl
  unfold f_X7_poseValue at hf
  have hL31 : ∀ (s_trial_31 : Nat → Int32) (H : Heap) (locs : List Loc) (ls : Array Slot), f_X7_poseValue_L31 s_now_links s_now_lower s_now_upper s_trial_31 = some o → lv_has ls 3 [] → WD D A s (w_X7_poseValue E h_ h_now h_saved h_draft h_history h_walk h_space h_route h_bookmarks h_input h_trial h_tally h_now_length h_now_lower h_now_upper h_now_value h_now_obstacleX h_now_obstacleY h_now_blocked s_hasSaved s_keptError s_now_links s_now_obstacles s_now_lower s_now_upper s_trial_31) H locs → W p l e (RX_ 6 110 1 6) s m args below meth c H locs 0 0 Q (F0 m 31 ls []) := by
    intro s_trial_31 H locs ls hf hl hW
    unfold f_X7_poseValue_L31 at hf
    cases hf
    exact hthrw rfl th_3 (List.mem_of_getElem? (i := 18) rfl) (Nat.succ_ne_zero _) (Nat.le_of_ble_eq_true rfl) (Nat.le_of_ble_eq_true rfl) hl.1 (Nat.le_of_ble_eq_true rfl) hW dX7_poseValue_31 dX7_poseValue_34 dX7_poseValue_35 dX7_poseValue_38 dX7_poseValue_41
  refine lv_iload_n hx hb dX7_poseValue_0 rfl (lv_at hl 1 rfl) ?_
  refine q_if_lt (tgt := 31) hx hb dX7_poseValue_1 (by decide) hf (fun hf => ?_) (fun hf => ?_)
  · exact hL31 s_trial _ _ _ hf (lv_sub hl [] rfl) hW
  · refine lv_iload_n hx hb dX7_poseValue_4 rfl (lv_at hl 1 rfl) ?_
    refine lv_aload_n hx hb dX7_poseValue_5 rfl (lv_at hl 0 rfl) ?_
    refine q_get hF hK hW fl_X7_12 0 rfl rfl dX7_poseValue_6 ?_
    obtain ⟨o_1, hc_1, hf⟩ := ob_bind hf
    refine q_callI hF hl.1 hK hA hZ hW mv_X4_poses ml_X7_163 (c_X4_poses l D E TXL h_now h_now_length h_now_lower h_now_upper h_now_value h_now_obstacleX h_now_obstacleY h_now_blocked s_now_links s_now_obstacles s_now_lower s_now_upper o_1 hc_1) [1, 2, 3] rfl rfl rfl rfl rfl rfl ⟨Nat.le_of_ble_eq_true rfl, Nat.le_of_ble_eq_true rfl⟩ ⟨Nat.le_of_ble_eq_true rfl, Nat.le_of_ble_eq_true rfl⟩ rfl rfl (Nat.le_of_ble_eq_true rfl) dX7_poseValue_9 (fun H locs hW => ?_)
    have hW : WD D A s (w_X7_poseValue E h_ h_now h_saved h_draft h_history h_walk h_space h_route h_bookmarks h_input h_trial h_tally h_now_length h_now_lower h_now_upper h_now_value h_now_obstacleX h_now_obstacleY h_now_blocked s_hasSaved s_keptError s_now_links s_now_obstacles s_now_lower s_now_upper s_trial) H locs := hW
    refine q_icmp_ge (tgt := 31) hx hb dX7_poseValue_12 (by decide) hf (fun hf => ?_) (fun hf => ?_)
    · exact hL31 s_trial _ _ _ hf (lv_sub hl [] rfl) hW
    · refine lv_aload_n hx hb dX7_poseValue_15 rfl (lv_at hl 0 rfl) ?_
      refine q_get hF hK hW fl_X7_12 0 rfl rfl dX7_poseValue_16 ?_
      refine lv_iload_n hx hb dX7_poseValue_19 rfl (lv_at hl 2 rfl) ?_
      obtain ⟨o_2, hc_2, hf⟩ := ob_bind hf
      refine q_callI hF hl.1 hK hA hZ hW mv_X4_hasLink ml_X7_119 (c_X4_hasLink l D E TXL h_now h_now_length h_now_lower h_now_upper h_now_value h_now_obstacleX h_now_obstacleY h_now_blocked s_now_links s_now_obstacles x2 o_2 hc_2) [1] rfl rfl rfl rfl rfl rfl ⟨Nat.le_of_ble_eq_true rfl, Nat.le_of_ble_eq_true rfl⟩ ⟨Nat.le_of_ble_eq_true rfl, Nat.le_of_ble_eq_true rfl⟩ rfl rfl (Nat.le_of_ble_eq_true rfl) dX7_poseValue_20 (fun H locs hW => ?_)
      have hW : WD D A s (w_X7_poseValue E h_ h_now h_saved h_draft h_history h_walk h_space h_route h_bookmarks h_input h_trial h_tally h_now_length h_now_lower h_now_upper h_now_value h_now_obstacleX h_now_obstacleY h_now_blocked s_hasSaved s_keptError s_now_links s_now_obstacles s_now_lower s_now_upper s_trial) H locs := hW
      refine q_if_eq (tgt := 31) hx hb dX7_poseValue_23 (by decide) hf (fun hf => ?_) (fun hf => ?_)
      · exact hL31 s_trial _ _ _ hf (lv_sub hl [] rfl) hW
      · refine lv_iload_n hx hb dX7_poseValue_26 rfl (lv_at hl 2 rfl) ?_
        refine lv_iconst (v := 4) hx hb dX7_poseValue_27 (by decide) ?_
        refine q_icmp_lt (tgt := 42) hx hb dX7_poseValue_28 (by decide) hf (fun hf => ?_) (fun hf => ?_)
        · refine lv_aload_n hx hb dX7_poseValue_42 rfl (lv_at hl 0 rfl) ?_
          refine q_get hF hK hW fl_X7_12 0 rfl rfl dX7_poseValue_43 ?_
          refine lv_iload_n hx hb dX7_poseValue_46 rfl (lv_at hl 1 rfl) ?_
          refine lv_aload_n hx hb dX7_poseValue_47 rfl (lv_at hl 0 rfl) ?_
          refine q_get hF hK hW fl_X7_64 0 rfl rfl dX7_poseValue_48 ?_
          obtain ⟨o_3, hc_3, hf⟩ := ob_bind hf
          refine q_callV hF hl.1 hK hA hZ hW mv_X4_readPose ml_X7_289 (c_X4_readPose l D E TXL h_now h_now_length h_now_lower h_now_upper h_now_value h_now_obstacleX h_now_obstacleY h_now_blocked h_trial s_now_links s_now_obstacles s_now_lower s_now_upper s_trial x1 o_3 hc_3) [1, 2, 3, 4] rfl rfl rfl rfl rfl rfl ⟨Nat.le_of_ble_eq_true rfl, Nat.le_of_ble_eq_true rfl⟩ ⟨Nat.le_of_ble_eq_true rfl, Nat.le_of_ble_eq_true rfl⟩ rfl rfl (Nat.le_of_ble_eq_true rfl) dX7_poseValue_51 (fun H locs hW => ?_)
          have hW : WD D A s (w_X7_poseValue E h_ h_now h_saved h_draft h_history h_walk h_space h_route h_bookmarks h_input h_trial h_tally h_now_length h_now_lower h_now_upper h_now_value h_now_obstacleX h_now_obstacleY h_now_blocked s_hasSaved s_keptError s_now_links s_now_obstacles s_now_lower s_now_upper o_3) H locs := hW
          refine lv_aload_n hx hb dX7_poseValue_54 rfl (lv_at hl 0 rfl) ?_
          refine q_get hF hK hW fl_X7_64 0 rfl rfl dX7_poseValue_55 ?_
          refine lv_iload_n hx hb dX7_poseValue_58 rfl (lv_at hl 2 rfl) ?_
          refine q_iald hx hb hK hW 4 0 rfl rfl dX7_poseValue_59 hf (fun hf => ?_)
          cases hf
          exact hret dX7_poseValue_60 rfl rfl rfl (Nat.le_of_ble_eq_true rfl) (Nat.le_of_ble_eq_true rfl) hW
        · exact hL31 s_trial _ _ _ hf (lv_sub hl [] rfl) hW
