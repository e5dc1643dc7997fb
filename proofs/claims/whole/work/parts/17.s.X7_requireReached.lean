def f_X7_requireReached (s_space_reached : Int32)  : Option (Nat) := if 0 < s_space_reached then (some 0) else (some 4)
def w_X7_requireReached (E : Nat → ClassId) (h_ h_now h_saved h_draft h_history h_walk h_space h_route h_bookmarks h_input h_trial h_tally h_space_span h_space_stride h_space_tip h_space_distance h_space_found h_space_changes h_space_walk h_space_values : Nat) (s_hasSaved : Int32) (s_keptError : Int32) (s_space_known : Int32) (s_space_poses : Int32) (s_space_links : Int32) (s_space_reached : Int32) : va_W := [(h_, .inr (9, [.ref h_now, .ref h_saved, .ref h_draft, .ref h_history, .ref h_walk, .ref h_space, .ref h_route, .ref h_bookmarks, .ref h_input, .ref h_trial, .ref h_tally, .int s_hasSaved, .int s_keptError])), (h_space, .inr (7, [.int s_space_known, .int s_space_poses, .int s_space_links, .ref h_space_span, .ref h_space_stride, .ref h_space_tip, .ref h_space_distance, .ref h_space_found, .int s_space_reached, .ref h_space_changes, .ref h_space_walk, .ref h_space_values]))]
set_option maxHeartbeats 4000000 in
set_option maxRecDepth 100000 in
theorem c_X7_requireReached (l : Launch) (hlt : l.stackTraces = false) (D : va_G) (E : Nat → ClassId) (h_ h_now h_saved h_draft h_history h_walk h_space h_route h_bookmarks h_input h_trial h_tally h_space_span h_space_stride h_space_tip h_space_distance h_space_found h_space_changes h_space_walk h_space_values : Nat) (s_hasSaved : Int32) (s_keptError : Int32) (s_space_known : Int32) (s_space_poses : Int32) (s_space_links : Int32) (s_space_reached : Int32)  (o : Nat) (hf : f_X7_requireReached s_space_reached = some o) : XV l yX7_requireReached cX7_requireReached 1 6 96 1 6 D E TXL [.ref h_] (w_X7_requireReached E h_ h_now h_saved h_draft h_history h_walk h_space h_route h_bookmarks h_input h_trial h_tally h_space_span h_space_stride h_space_tip h_space_distance h_space_found h_space_changes h_space_walk h_space_values s_hasSaved s_keptError s_space_known s_space_poses s_space_links s_space_reached) (w_X7_requireReached E h_ h_now h_saved h_draft h_history h_walk h_space h_route h_bookmarks h_input h_trial h_tally h_space_span h_space_stride h_space_tip h_space_distance h_space_found h_space_changes h_space_walk h_space_values s_hasSaved s_keptError s_space_known s_space_poses s_space_links s_space_reached) o := by
  refine XV_of RX7 hlt (Nat.le_of_ble_eq_true rfl) pn_X7 rfl (Nat.le_of_ble_eq_true rfl) (fun p e s m args below meth c A Q hF hK hA hZ hW hret hthru hthr hthrw ls hl => ?_)
  have hx := hF.1
  have hb := hF.2.1
  have hl : lv_has ls 1 [(0, .ref h_)] := hl
  unfold f_X7_requireReached at hf
  refine lv_aload_n hx hb dX7_requireReached_0 rfl (lv_at hl 0 rfl) ?_
  refine q_get hF hK hW fl_X7_39 0 rfl rfl dX7_requireReached_1 ?_
  refine q_get hF hK hW fl_X7_306 1 rfl rfl dX7_requireReached_4 ?_
  refine q_if_gt (tgt := 21) hx hb dX7_requireReached_7 (by decide) hf (fun hf => ?_) (fun hf => ?_)
  · cases hf
    exact hret dX7_requireReached_21 rfl (Nat.le_of_ble_eq_true rfl) (Nat.le_of_ble_eq_true rfl) hW
  · cases hf
    exact hthrw rfl th_4 (List.mem_of_getElem? (i := 20) rfl) (Nat.succ_ne_zero _) (Nat.le_of_ble_eq_true rfl) (Nat.le_of_ble_eq_true rfl) hl.1 (Nat.le_of_ble_eq_true rfl) hW dX7_requireReached_10 dX7_requireReached_13 dX7_requireReached_14 dX7_requireReached_17 dX7_requireReached_20
