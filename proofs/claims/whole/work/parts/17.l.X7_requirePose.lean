def f_X7_requirePose_L15 (s_now_links_15 : Int32) (s_now_lower_15 : Nat → Int32) (s_now_upper_15 : Nat → Int32) : Option (Nat) := some 3
def f_X7_requirePose (s_now_links : Int32) (s_now_lower : Nat → Int32) (s_now_upper : Nat → Int32) (x1 : Int32) : Option (Nat) := if x1 < 0 then (f_X7_requirePose_L15 s_now_links s_now_lower s_now_upper) else ((f_X4_poses s_now_links s_now_lower s_now_upper).bind fun o_1 => if x1 < o_1 then (some 0) else (f_X7_requirePose_L15 s_now_links s_now_lower s_now_upper))
def w_X7_requirePose (E : Nat → ClassId) (h_ h_now h_saved h_draft h_history h_walk h_space h_route h_bookmarks h_input h_trial h_tally h_now_length h_now_lower h_now_upper h_now_value h_now_obstacleX h_now_obstacleY h_now_blocked : Nat) (s_hasSaved : Int32) (s_keptError : Int32) (s_now_links : Int32) (s_now_obstacles : Int32) (s_now_lower : Nat → Int32) (s_now_upper : Nat → Int32) : va_W := [(h_, .inr (9, [.ref h_now, .ref h_saved, .ref h_draft, .ref h_history, .ref h_walk, .ref h_space, .ref h_route, .ref h_bookmarks, .ref h_input, .ref h_trial, .ref h_tally, .int s_hasSaved, .int s_keptError])), (h_now, .inr (6, [.int s_now_links, .ref h_now_length, .ref h_now_lower, .ref h_now_upper, .ref h_now_value, .int s_now_obstacles, .ref h_now_obstacleX, .ref h_now_obstacleY, .ref h_now_blocked])), (h_now_lower, .inl (E 0, 4, .inl s_now_lower)), (h_now_upper, .inl (E 0, 4, .inl s_now_upper))]
set_option maxHeartbeats 4000000 in
set_option maxRecDepth 100000 in
theorem c_X7_requirePose (l : Launch) (hlt : l.stackTraces = false) (D : va_G) (E : Nat → ClassId) (h_ h_now h_saved h_draft h_history h_walk h_space h_route h_bookmarks h_input h_trial h_tally h_now_length h_now_lower h_now_upper h_now_value h_now_obstacleX h_now_obstacleY h_now_blocked : Nat) (s_hasSaved : Int32) (s_keptError : Int32) (s_now_links : Int32) (s_now_obstacles : Int32) (s_now_lower : Nat → Int32) (s_now_upper : Nat → Int32) (x1 : Int32) (o : Nat) (hf : f_X7_requirePose s_now_links s_now_lower s_now_upper x1 = some o) : XV l yX7_requirePose cX7_requirePose 2 6 107 1 6 D E TXL [.ref h_, .int x1] (w_X7_requirePose E h_ h_now h_saved h_draft h_history h_walk h_space h_route h_bookmarks h_input h_trial h_tally h_now_length h_now_lower h_now_upper h_now_value h_now_obstacleX h_now_obstacleY h_now_blocked s_hasSaved s_keptError s_now_links s_now_obstacles s_now_lower s_now_upper) (w_X7_requirePose E h_ h_now h_saved h_draft h_history h_walk h_space h_route h_bookmarks h_input h_trial h_tally h_now_length h_now_lower h_now_upper h_now_value h_now_obstacleX h_now_obstacleY h_now_blocked s_hasSaved s_keptError s_now_links s_now_obstacles s_now_lower s_now_upper) o := by
  refine XV_of RX7 hlt (Nat.le_of_ble_eq_true rfl) pn_X7 rfl (Nat.le_of_ble_eq_true rfl) (fun p e s m args below meth c A Q hF hK hA hZ hW hret hthru hthr hthrw ls hl => ?_)
  have hx := hF.1
  have hb := hF.2.1
  have hl : lv_has ls 2 [(0, .ref h_), (1, .int x1)] := hl
  unfold f_X7_requirePose at hf
  have hL15 : ∀  (H : Heap) (locs : List Loc) (ls : Array Slot), f_X7_requirePose_L15 s_now_links s_now_lower s_now_upper = some o → lv_has ls 2 [] → WD D A s (w_X7_requirePose E h_ h_now h_saved h_draft h_history h_walk h_space h_route h_bookmarks h_input h_trial h_tally h_now_length h_now_lower h_now_upper h_now_value h_now_obstacleX h_now_obstacleY h_now_blocked s_hasSaved s_keptError s_now_links s_now_obstacles s_now_lower s_now_upper) H locs → W p l e (RX_ 6 107 1 6) s m args below meth c H locs 0 0 Q (F0 m 15 ls []) := by
    intro  H locs ls hf hl hW
    unfold f_X7_requirePose_L15 at hf
    cases hf
    exact hthrw rfl th_3 (List.mem_of_getElem? (i := 19) rfl) (Nat.succ_ne_zero _) (Nat.le_of_ble_eq_true rfl) (Nat.le_of_ble_eq_true rfl) hl.1 (Nat.le_of_ble_eq_true rfl) hW dX7_requirePose_15 dX7_requirePose_18 dX7_requirePose_19 dX7_requirePose_22 dX7_requirePose_25
  refine lv_iload_n hx hb dX7_requirePose_0 rfl (lv_at hl 1 rfl) ?_
  refine q_if_lt (tgt := 15) hx hb dX7_requirePose_1 (by decide) hf (fun hf => ?_) (fun hf => ?_)
  · exact hL15  _ _ _ hf (lv_sub hl [] rfl) hW
  · refine lv_iload_n hx hb dX7_requirePose_4 rfl (lv_at hl 1 rfl) ?_
    refine lv_aload_n hx hb dX7_requirePose_5 rfl (lv_at hl 0 rfl) ?_
    refine q_get hF hK hW fl_X7_12 0 rfl rfl dX7_requirePose_6 ?_
    obtain ⟨o_1, hc_1, hf⟩ := ob_bind hf
    refine q_callI hF hl.1 hK hA hZ hW mv_X4_poses ml_X7_163 (c_X4_poses l D E TXL h_now h_now_length h_now_lower h_now_upper h_now_value h_now_obstacleX h_now_obstacleY h_now_blocked s_now_links s_now_obstacles s_now_lower s_now_upper o_1 hc_1) [1, 2, 3] rfl rfl rfl rfl rfl rfl ⟨Nat.le_of_ble_eq_true rfl, Nat.le_of_ble_eq_true rfl⟩ ⟨Nat.le_of_ble_eq_true rfl, Nat.le_of_ble_eq_true rfl⟩ rfl rfl (Nat.le_of_ble_eq_true rfl) dX7_requirePose_9 (fun H locs hW => ?_)
    have hW : WD D A s (w_X7_requirePose E h_ h_now h_saved h_draft h_history h_walk h_space h_route h_bookmarks h_input h_trial h_tally h_now_length h_now_lower h_now_upper h_now_value h_now_obstacleX h_now_obstacleY h_now_blocked s_hasSaved s_keptError s_now_links s_now_obstacles s_now_lower s_now_upper) H locs := hW
    refine q_icmp_lt (tgt := 26) hx hb dX7_requirePose_12 (by decide) hf (fun hf => ?_) (fun hf => ?_)
    · cases hf
      exact hret dX7_requirePose_26 rfl (Nat.le_of_ble_eq_true rfl) (Nat.le_of_ble_eq_true rfl) hW
    · exact hL15  _ _ _ hf (lv_sub hl [] rfl) hW
