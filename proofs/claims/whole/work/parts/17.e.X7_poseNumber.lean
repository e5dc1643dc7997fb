def f_X7_poseNumber (s_now_links : Int32) (s_now_lower : Nat → Int32) (s_now_upper : Nat → Int32) (s_now_value : Nat → Int32)  : Option (Int32) := (f_X4_numberOf_own s_now_links s_now_lower s_now_upper s_now_value).bind fun o_1 => some o_1
def w_X7_poseNumber (E : Nat → ClassId) (h_ h_now h_saved h_draft h_history h_walk h_space h_route h_bookmarks h_input h_trial h_tally h_now_length h_now_lower h_now_upper h_now_value h_now_obstacleX h_now_obstacleY h_now_blocked : Nat) (s_hasSaved : Int32) (s_keptError : Int32) (s_now_links : Int32) (s_now_obstacles : Int32) (s_now_lower : Nat → Int32) (s_now_upper : Nat → Int32) (s_now_value : Nat → Int32) : va_W := [(h_, .inr (9, [.ref h_now, .ref h_saved, .ref h_draft, .ref h_history, .ref h_walk, .ref h_space, .ref h_route, .ref h_bookmarks, .ref h_input, .ref h_trial, .ref h_tally, .int s_hasSaved, .int s_keptError])), (h_now, .inr (6, [.int s_now_links, .ref h_now_length, .ref h_now_lower, .ref h_now_upper, .ref h_now_value, .int s_now_obstacles, .ref h_now_obstacleX, .ref h_now_obstacleY, .ref h_now_blocked])), (h_now_lower, .inl (E 0, 4, .inl s_now_lower)), (h_now_upper, .inl (E 0, 4, .inl s_now_upper)), (h_now_value, .inl (E 0, 4, .inl s_now_value))]
set_option maxHeartbeats 4000000 in
set_option maxRecDepth 100000 in
theorem c_X7_poseNumber (l : Launch) (D : va_G) (E : Nat → ClassId) (tx : List (Nat × String)) (h_ h_now h_saved h_draft h_history h_walk h_space h_route h_bookmarks h_input h_trial h_tally h_now_length h_now_lower h_now_upper h_now_value h_now_obstacleX h_now_obstacleY h_now_blocked : Nat) (s_hasSaved : Int32) (s_keptError : Int32) (s_now_links : Int32) (s_now_obstacles : Int32) (s_now_lower : Nat → Int32) (s_now_upper : Nat → Int32) (s_now_value : Nat → Int32)  (o : Int32) (hf : f_X7_poseNumber s_now_links s_now_lower s_now_upper s_now_value = some o) : CI l yX7_poseNumber cX7_poseNumber 1 (some .int) 3 108 D E tx [.ref h_] (w_X7_poseNumber E h_ h_now h_saved h_draft h_history h_walk h_space h_route h_bookmarks h_input h_trial h_tally h_now_length h_now_lower h_now_upper h_now_value h_now_obstacleX h_now_obstacleY h_now_blocked s_hasSaved s_keptError s_now_links s_now_obstacles s_now_lower s_now_upper s_now_value) (w_X7_poseNumber E h_ h_now h_saved h_draft h_history h_walk h_space h_route h_bookmarks h_input h_trial h_tally h_now_length h_now_lower h_now_upper h_now_value h_now_obstacleX h_now_obstacleY h_now_blocked s_hasSaved s_keptError s_now_links s_now_obstacles s_now_lower s_now_upper s_now_value) o := by
  refine CI_of RX7 pn_X7 rfl (Nat.le_of_ble_eq_true rfl) (fun p e s m args below meth c A Q hF hK hA hZ hW hret ls hl => ?_)
  have hx := hF.1
  have hb := hF.2.1
  have hl : lv_has ls 1 [(0, .ref h_)] := hl
  unfold f_X7_poseNumber at hf
  refine lv_aload_n hx hb dX7_poseNumber_0 rfl (lv_at hl 0 rfl) ?_
  refine q_get hF hK hW fl_X7_12 0 rfl rfl dX7_poseNumber_1 ?_
  refine lv_aload_n hx hb dX7_poseNumber_4 rfl (lv_at hl 0 rfl) ?_
  refine q_get hF hK hW fl_X7_12 0 rfl rfl dX7_poseNumber_5 ?_
  refine q_get hF hK hW fl_X7_172 1 rfl rfl dX7_poseNumber_8 ?_
  obtain ⟨o_1, hc_1, hf⟩ := ob_bind hf
  refine q_callI hF hl.1 hK hA hZ hW mv_X4_numberOf ml_X7_264 (c_X4_numberOf_own l D E tx h_now h_now_length h_now_lower h_now_upper h_now_value h_now_obstacleX h_now_obstacleY h_now_blocked s_now_links s_now_obstacles s_now_lower s_now_upper s_now_value o_1 hc_1) [1, 2, 3, 4] rfl rfl rfl rfl rfl rfl ⟨Nat.le_of_ble_eq_true rfl, Nat.le_of_ble_eq_true rfl⟩ ⟨Nat.le_of_ble_eq_true rfl, Nat.le_of_ble_eq_true rfl⟩ rfl rfl (Nat.le_of_ble_eq_true rfl) dX7_poseNumber_11 (fun H locs hW => ?_)
  have hW : WD D A s (w_X7_poseNumber E h_ h_now h_saved h_draft h_history h_walk h_space h_route h_bookmarks h_input h_trial h_tally h_now_length h_now_lower h_now_upper h_now_value h_now_obstacleX h_now_obstacleY h_now_blocked s_hasSaved s_keptError s_now_links s_now_obstacles s_now_lower s_now_upper s_now_value) H locs := hW
  cases hf
  exact hret dX7_poseNumber_14 rfl rfl hW
