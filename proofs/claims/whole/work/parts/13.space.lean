def w_X5_isPose (E : Nat → ClassId) (h_ h_span h_stride h_tip h_distance h_found h_changes h_walk h_values : Nat) (s_known : Int32) (s_poses : Int32) (s_links : Int32) (s_reached : Int32) : va_W := [(h_, .inr (7, [.int s_known, .int s_poses, .int s_links, .ref h_span, .ref h_stride, .ref h_tip, .ref h_distance, .ref h_found, .int s_reached, .ref h_changes, .ref h_walk, .ref h_values]))]
set_option maxHeartbeats 4000000 in
set_option maxRecDepth 100000 in
theorem c_X5_isPose (l : Launch) (D : va_G) (E : Nat → ClassId) (tx : List (Nat × String)) (h_ h_span h_stride h_tip h_distance h_found h_changes h_walk h_values : Nat) (s_known : Int32) (s_poses : Int32) (s_links : Int32) (s_reached : Int32) (x1 : Int32) (r0 : Int32) (hf : f_X5_isPose s_poses x1 = some r0) : CI l yX5_isPose cX5_isPose 2 (some .boolean) 0 0 D E tx [.ref h_, .int x1] (w_X5_isPose E h_ h_span h_stride h_tip h_distance h_found h_changes h_walk h_values s_known s_poses s_links s_reached) (w_X5_isPose E h_ h_span h_stride h_tip h_distance h_found h_changes h_walk h_values s_known s_poses s_links s_reached) r0 := by
  refine CI_of RX5 pn_X5 rfl (Nat.le_of_ble_eq_true rfl) (fun p e s m args below meth c A Q hF hK hA hZ hW hret ls hl => ?_)
  have hx := hF.1
  have hb := hF.2.1
  have hl : lv_has ls 2 [(0, .ref h_), (1, .int x1)] := hl
  unfold f_X5_isPose at hf
  refine lv_iload_n hx hb dX5_isPose_0 rfl (lv_at hl 1 rfl) ?_
  refine q_if_lt (tgt := 23) hx hb dX5_isPose_1 (by decide) hf (fun hf => ?_) (fun hf => ?_)
  · refine lv_iconst (v := 0) hx hb dX5_isPose_23 (by decide) ?_
    cases hf
    exact hret dX5_isPose_24 rfl rfl hW
  · refine lv_iload_n hx hb dX5_isPose_4 rfl (lv_at hl 1 rfl) ?_
    refine lv_aload_n hx hb dX5_isPose_5 rfl (lv_at hl 0 rfl) ?_
    refine q_get hF hK hW fl_X5_15 0 rfl rfl dX5_isPose_6 ?_
    refine q_icmp_ge (tgt := 23) hx hb dX5_isPose_9 (by decide) hf (fun hf => ?_) (fun hf => ?_)
    · refine lv_iconst (v := 0) hx hb dX5_isPose_23 (by decide) ?_
      cases hf
      exact hret dX5_isPose_24 rfl rfl hW
    · refine lv_iload_n hx hb dX5_isPose_12 rfl (lv_at hl 1 rfl) ?_
      refine lv_sipush (v := 5000) hx hb dX5_isPose_13 (by decide) ?_
      refine q_icmp_ge (tgt := 23) hx hb dX5_isPose_16 (by decide) hf (fun hf => ?_) (fun hf => ?_)
      · refine lv_iconst (v := 0) hx hb dX5_isPose_23 (by decide) ?_
        cases hf
        exact hret dX5_isPose_24 rfl rfl hW
      · refine lv_iconst (v := 1) hx hb dX5_isPose_19 (by decide) ?_
        refine lv_goto (tgt := 24) hx hb dX5_isPose_20 (by decide) ?_
        cases hf
        exact hret dX5_isPose_24 rfl rfl hW
def w_X5_tipOf (E : Nat → ClassId) (h_ h_span h_stride h_tip h_distance h_found h_changes h_walk h_values : Nat) (s_known : Int32) (s_poses : Int32) (s_links : Int32) (s_reached : Int32) (s_tip : Nat → Int32) : va_W := [(h_, .inr (7, [.int s_known, .int s_poses, .int s_links, .ref h_span, .ref h_stride, .ref h_tip, .ref h_distance, .ref h_found, .int s_reached, .ref h_changes, .ref h_walk, .ref h_values])), (h_tip, .inl (E 0, 5000, .inl s_tip))]
set_option maxHeartbeats 4000000 in
set_option maxRecDepth 100000 in
theorem c_X5_tipOf (l : Launch) (D : va_G) (E : Nat → ClassId) (tx : List (Nat × String)) (h_ h_span h_stride h_tip h_distance h_found h_changes h_walk h_values : Nat) (s_known : Int32) (s_poses : Int32) (s_links : Int32) (s_reached : Int32) (s_tip : Nat → Int32) (x1 : Int32) (r0 : Int32) (hf : f_X5_tipOf s_poses s_tip x1 = some r0) : CI l yX5_tipOf cX5_tipOf 2 (some .int) 1 21 D E tx [.ref h_, .int x1] (w_X5_tipOf E h_ h_span h_stride h_tip h_distance h_found h_changes h_walk h_values s_known s_poses s_links s_reached s_tip) (w_X5_tipOf E h_ h_span h_stride h_tip h_distance h_found h_changes h_walk h_values s_known s_poses s_links s_reached s_tip) r0 := by
  refine CI_of RX5 pn_X5 rfl (Nat.le_of_ble_eq_true rfl) (fun p e s m args below meth c A Q hF hK hA hZ hW hret ls hl => ?_)
  have hx := hF.1
  have hb := hF.2.1
  have hl : lv_has ls 2 [(0, .ref h_), (1, .int x1)] := hl
  unfold f_X5_tipOf at hf
  refine lv_aload_n hx hb dX5_tipOf_0 rfl (lv_at hl 0 rfl) ?_
  refine lv_iload_n hx hb dX5_tipOf_1 rfl (lv_at hl 1 rfl) ?_
  obtain ⟨o_1, hc_1, hf⟩ := ob_bind hf
  refine q_callI hF hl.1 hK hA hZ hW mv_X5_isPose ml_X5_90 (c_X5_isPose l D E tx h_ h_span h_stride h_tip h_distance h_found h_changes h_walk h_values s_known s_poses s_links s_reached x1 o_1 hc_1) [0] rfl rfl rfl rfl rfl rfl ⟨Nat.le_of_ble_eq_true rfl, Nat.le_of_ble_eq_true rfl⟩ ⟨Nat.le_of_ble_eq_true rfl, Nat.le_of_ble_eq_true rfl⟩ rfl rfl (Nat.le_of_ble_eq_true rfl) dX5_tipOf_2 (fun H locs hW => ?_)
  have hW : WD D A s (w_X5_tipOf E h_ h_span h_stride h_tip h_distance h_found h_changes h_walk h_values s_known s_poses s_links s_reached s_tip) H locs := hW
  refine q_if_eq (tgt := 17) hx hb dX5_tipOf_5 (by decide) hf (fun hf => ?_) (fun hf => ?_)
  · refine lv_iconst (v := (-1)) hx hb dX5_tipOf_17 (by decide) ?_
    cases hf
    exact hret dX5_tipOf_18 rfl rfl hW
  · refine lv_aload_n hx hb dX5_tipOf_8 rfl (lv_at hl 0 rfl) ?_
    refine q_get hF hK hW fl_X5_29 0 rfl rfl dX5_tipOf_9 ?_
    refine lv_iload_n hx hb dX5_tipOf_12 rfl (lv_at hl 1 rfl) ?_
    refine q_iald hx hb hK hW 1 0 rfl rfl dX5_tipOf_13 hf (fun hf => ?_)
    refine lv_goto (tgt := 18) hx hb dX5_tipOf_14 (by decide) ?_
    cases hf
    exact hret dX5_tipOf_18 rfl rfl hW
def w_X5_isFree (E : Nat → ClassId) (h_ h_span h_stride h_tip h_distance h_found h_changes h_walk h_values : Nat) (s_known : Int32) (s_poses : Int32) (s_links : Int32) (s_reached : Int32) (s_tip : Nat → Int32) : va_W := [(h_, .inr (7, [.int s_known, .int s_poses, .int s_links, .ref h_span, .ref h_stride, .ref h_tip, .ref h_distance, .ref h_found, .int s_reached, .ref h_changes, .ref h_walk, .ref h_values])), (h_tip, .inl (E 0, 5000, .inl s_tip))]
set_option maxHeartbeats 4000000 in
set_option maxRecDepth 100000 in
theorem c_X5_isFree (l : Launch) (D : va_G) (E : Nat → ClassId) (tx : List (Nat × String)) (h_ h_span h_stride h_tip h_distance h_found h_changes h_walk h_values : Nat) (s_known : Int32) (s_poses : Int32) (s_links : Int32) (s_reached : Int32) (s_tip : Nat → Int32) (x1 : Int32) (r0 : Int32) (hf : f_X5_isFree s_poses s_tip x1 = some r0) : CI l yX5_isFree cX5_isFree 2 (some .boolean) 2 42 D E tx [.ref h_, .int x1] (w_X5_isFree E h_ h_span h_stride h_tip h_distance h_found h_changes h_walk h_values s_known s_poses s_links s_reached s_tip) (w_X5_isFree E h_ h_span h_stride h_tip h_distance h_found h_changes h_walk h_values s_known s_poses s_links s_reached s_tip) r0 := by
  refine CI_of RX5 pn_X5 rfl (Nat.le_of_ble_eq_true rfl) (fun p e s m args below meth c A Q hF hK hA hZ hW hret ls hl => ?_)
  have hx := hF.1
  have hb := hF.2.1
  have hl : lv_has ls 2 [(0, .ref h_), (1, .int x1)] := hl
  unfold f_X5_isFree at hf
  refine lv_aload_n hx hb dX5_isFree_0 rfl (lv_at hl 0 rfl) ?_
  refine lv_iload_n hx hb dX5_isFree_1 rfl (lv_at hl 1 rfl) ?_
  obtain ⟨o_1, hc_1, hf⟩ := ob_bind hf
  refine q_callI hF hl.1 hK hA hZ hW mv_X5_tipOf ml_X5_94 (c_X5_tipOf l D E tx h_ h_span h_stride h_tip h_distance h_found h_changes h_walk h_values s_known s_poses s_links s_reached s_tip x1 o_1 hc_1) [0, 1] rfl rfl rfl rfl rfl rfl ⟨Nat.le_of_ble_eq_true rfl, Nat.le_of_ble_eq_true rfl⟩ ⟨Nat.le_of_ble_eq_true rfl, Nat.le_of_ble_eq_true rfl⟩ rfl rfl (Nat.le_of_ble_eq_true rfl) dX5_isFree_2 (fun H locs hW => ?_)
  have hW : WD D A s (w_X5_isFree E h_ h_span h_stride h_tip h_distance h_found h_changes h_walk h_values s_known s_poses s_links s_reached s_tip) H locs := hW
  refine q_if_lt (tgt := 12) hx hb dX5_isFree_5 (by decide) hf (fun hf => ?_) (fun hf => ?_)
  · refine lv_iconst (v := 0) hx hb dX5_isFree_12 (by decide) ?_
    cases hf
    exact hret dX5_isFree_13 rfl rfl hW
  · refine lv_iconst (v := 1) hx hb dX5_isFree_8 (by decide) ?_
    refine lv_goto (tgt := 13) hx hb dX5_isFree_9 (by decide) ?_
    cases hf
    exact hret dX5_isFree_13 rfl rfl hW
def w_X5_distanceOf (E : Nat → ClassId) (h_ h_span h_stride h_tip h_distance h_found h_changes h_walk h_values : Nat) (s_known : Int32) (s_poses : Int32) (s_links : Int32) (s_reached : Int32) (s_distance : Nat → Int32) : va_W := [(h_, .inr (7, [.int s_known, .int s_poses, .int s_links, .ref h_span, .ref h_stride, .ref h_tip, .ref h_distance, .ref h_found, .int s_reached, .ref h_changes, .ref h_walk, .ref h_values])), (h_distance, .inl (E 0, 5000, .inl s_distance))]
set_option maxHeartbeats 4000000 in
set_option maxRecDepth 100000 in
theorem c_X5_distanceOf (l : Launch) (D : va_G) (E : Nat → ClassId) (tx : List (Nat × String)) (h_ h_span h_stride h_tip h_distance h_found h_changes h_walk h_values : Nat) (s_known : Int32) (s_poses : Int32) (s_links : Int32) (s_reached : Int32) (s_distance : Nat → Int32) (x1 : Int32) (r0 : Int32) (hf : f_X5_distanceOf s_poses s_distance x1 = some r0) : CI l yX5_distanceOf cX5_distanceOf 2 (some .int) 1 21 D E tx [.ref h_, .int x1] (w_X5_distanceOf E h_ h_span h_stride h_tip h_distance h_found h_changes h_walk h_values s_known s_poses s_links s_reached s_distance) (w_X5_distanceOf E h_ h_span h_stride h_tip h_distance h_found h_changes h_walk h_values s_known s_poses s_links s_reached s_distance) r0 := by
  refine CI_of RX5 pn_X5 rfl (Nat.le_of_ble_eq_true rfl) (fun p e s m args below meth c A Q hF hK hA hZ hW hret ls hl => ?_)
  have hx := hF.1
  have hb := hF.2.1
  have hl : lv_has ls 2 [(0, .ref h_), (1, .int x1)] := hl
  unfold f_X5_distanceOf at hf
  refine lv_aload_n hx hb dX5_distanceOf_0 rfl (lv_at hl 0 rfl) ?_
  refine lv_iload_n hx hb dX5_distanceOf_1 rfl (lv_at hl 1 rfl) ?_
  obtain ⟨o_1, hc_1, hf⟩ := ob_bind hf
  refine q_callI hF hl.1 hK hA hZ hW mv_X5_isPose ml_X5_90 (c_X5_isPose l D E tx h_ h_span h_stride h_tip h_distance h_found h_changes h_walk h_values s_known s_poses s_links s_reached x1 o_1 hc_1) [0] rfl rfl rfl rfl rfl rfl ⟨Nat.le_of_ble_eq_true rfl, Nat.le_of_ble_eq_true rfl⟩ ⟨Nat.le_of_ble_eq_true rfl, Nat.le_of_ble_eq_true rfl⟩ rfl rfl (Nat.le_of_ble_eq_true rfl) dX5_distanceOf_2 (fun H locs hW => ?_)
  have hW : WD D A s (w_X5_distanceOf E h_ h_span h_stride h_tip h_distance h_found h_changes h_walk h_values s_known s_poses s_links s_reached s_distance) H locs := hW
  refine q_if_eq (tgt := 17) hx hb dX5_distanceOf_5 (by decide) hf (fun hf => ?_) (fun hf => ?_)
  · refine lv_iconst (v := (-1)) hx hb dX5_distanceOf_17 (by decide) ?_
    cases hf
    exact hret dX5_distanceOf_18 rfl rfl hW
  · refine lv_aload_n hx hb dX5_distanceOf_8 rfl (lv_at hl 0 rfl) ?_
    refine q_get hF hK hW fl_X5_32 0 rfl rfl dX5_distanceOf_9 ?_
    refine lv_iload_n hx hb dX5_distanceOf_12 rfl (lv_at hl 1 rfl) ?_
    refine q_iald hx hb hK hW 1 0 rfl rfl dX5_distanceOf_13 hf (fun hf => ?_)
    refine lv_goto (tgt := 18) hx hb dX5_distanceOf_14 (by decide) ?_
    cases hf
    exact hret dX5_distanceOf_18 rfl rfl hW
def w_X5_reachedPose (E : Nat → ClassId) (h_ h_span h_stride h_tip h_distance h_found h_changes h_walk h_values : Nat) (s_known : Int32) (s_poses : Int32) (s_links : Int32) (s_reached : Int32) (s_found : Nat → Int32) : va_W := [(h_, .inr (7, [.int s_known, .int s_poses, .int s_links, .ref h_span, .ref h_stride, .ref h_tip, .ref h_distance, .ref h_found, .int s_reached, .ref h_changes, .ref h_walk, .ref h_values])), (h_found, .inl (E 0, 5000, .inl s_found))]
set_option maxHeartbeats 4000000 in
set_option maxRecDepth 100000 in
theorem c_X5_reachedPose (l : Launch) (D : va_G) (E : Nat → ClassId) (tx : List (Nat × String)) (h_ h_span h_stride h_tip h_distance h_found h_changes h_walk h_values : Nat) (s_known : Int32) (s_poses : Int32) (s_links : Int32) (s_reached : Int32) (s_found : Nat → Int32) (x1 : Int32) (r0 : Int32) (hf : f_X5_reachedPose s_reached s_found x1 = some r0) : CI l yX5_reachedPose cX5_reachedPose 2 (some .int) 0 0 D E tx [.ref h_, .int x1] (w_X5_reachedPose E h_ h_span h_stride h_tip h_distance h_found h_changes h_walk h_values s_known s_poses s_links s_reached s_found) (w_X5_reachedPose E h_ h_span h_stride h_tip h_distance h_found h_changes h_walk h_values s_known s_poses s_links s_reached s_found) r0 := by
  refine CI_of RX5 pn_X5 rfl (Nat.le_of_ble_eq_true rfl) (fun p e s m args below meth c A Q hF hK hA hZ hW hret ls hl => ?_)
  have hx := hF.1
  have hb := hF.2.1
  have hl : lv_has ls 2 [(0, .ref h_), (1, .int x1)] := hl
  unfold f_X5_reachedPose at hf
  refine lv_iload_n hx hb dX5_reachedPose_0 rfl (lv_at hl 1 rfl) ?_
  refine q_if_lt (tgt := 28) hx hb dX5_reachedPose_1 (by decide) hf (fun hf => ?_) (fun hf => ?_)
  · refine lv_iconst (v := (-1)) hx hb dX5_reachedPose_28 (by decide) ?_
    cases hf
    exact hret dX5_reachedPose_29 rfl rfl hW
  · refine lv_iload_n hx hb dX5_reachedPose_4 rfl (lv_at hl 1 rfl) ?_
    refine lv_aload_n hx hb dX5_reachedPose_5 rfl (lv_at hl 0 rfl) ?_
    refine q_get hF hK hW fl_X5_38 0 rfl rfl dX5_reachedPose_6 ?_
    refine q_icmp_ge (tgt := 28) hx hb dX5_reachedPose_9 (by decide) hf (fun hf => ?_) (fun hf => ?_)
    · refine lv_iconst (v := (-1)) hx hb dX5_reachedPose_28 (by decide) ?_
      cases hf
      exact hret dX5_reachedPose_29 rfl rfl hW
    · refine lv_iload_n hx hb dX5_reachedPose_12 rfl (lv_at hl 1 rfl) ?_
      refine lv_sipush (v := 5000) hx hb dX5_reachedPose_13 (by decide) ?_
      refine q_icmp_ge (tgt := 28) hx hb dX5_reachedPose_16 (by decide) hf (fun hf => ?_) (fun hf => ?_)
      · refine lv_iconst (v := (-1)) hx hb dX5_reachedPose_28 (by decide) ?_
        cases hf
        exact hret dX5_reachedPose_29 rfl rfl hW
      · refine lv_aload_n hx hb dX5_reachedPose_19 rfl (lv_at hl 0 rfl) ?_
        refine q_get hF hK hW fl_X5_35 0 rfl rfl dX5_reachedPose_20 ?_
        refine lv_iload_n hx hb dX5_reachedPose_23 rfl (lv_at hl 1 rfl) ?_
        refine q_iald hx hb hK hW 1 0 rfl rfl dX5_reachedPose_24 hf (fun hf => ?_)
        refine lv_goto (tgt := 29) hx hb dX5_reachedPose_25 (by decide) ?_
        cases hf
        exact hret dX5_reachedPose_29 rfl rfl hW
def w_X5_after (E : Nat → ClassId) (h_ h_span h_stride h_tip h_distance h_found h_changes h_walk h_values : Nat) (s_known : Int32) (s_poses : Int32) (s_links : Int32) (s_reached : Int32) (s_span : Nat → Int32) (s_stride : Nat → Int32) (s_tip : Nat → Int32) : va_W := [(h_, .inr (7, [.int s_known, .int s_poses, .int s_links, .ref h_span, .ref h_stride, .ref h_tip, .ref h_distance, .ref h_found, .int s_reached, .ref h_changes, .ref h_walk, .ref h_values])), (h_span, .inl (E 0, 4, .inl s_span)), (h_stride, .inl (E 0, 4, .inl s_stride)), (h_tip, .inl (E 0, 5000, .inl s_tip))]
set_option maxHeartbeats 4000000 in
set_option maxRecDepth 100000 in
theorem c_X5_after (l : Launch) (D : va_G) (E : Nat → ClassId) (tx : List (Nat × String)) (h_ h_span h_stride h_tip h_distance h_found h_changes h_walk h_values : Nat) (s_known : Int32) (s_poses : Int32) (s_links : Int32) (s_reached : Int32) (s_span : Nat → Int32) (s_stride : Nat → Int32) (s_tip : Nat → Int32) (x1 : Int32) (x2 : Int32) (r0 : Int32) (hf : f_X5_after s_poses s_links s_span s_stride s_tip x1 x2 = some r0) : CI l yX5_after cX5_after 6 (some .int) 1 21 D E tx [.ref h_, .int x1, .int x2] (w_X5_after E h_ h_span h_stride h_tip h_distance h_found h_changes h_walk h_values s_known s_poses s_links s_reached s_span s_stride s_tip) (w_X5_after E h_ h_span h_stride h_tip h_distance h_found h_changes h_walk h_values s_known s_poses s_links s_reached s_span s_stride s_tip) r0 := by
  refine CI_of RX5 pn_X5 rfl (Nat.le_of_ble_eq_true rfl) (fun p e s m args below meth c A Q hF hK hA hZ hW hret ls hl => ?_)
  have hx := hF.1
  have hb := hF.2.1
  have hl : lv_has ls 6 [(0, .ref h_), (1, .int x1), (2, .int x2)] := hl
  unfold f_X5_after at hf
  refine lv_iload_n hx hb dX5_after_0 rfl (lv_at hl 2 rfl) ?_
  obtain ⟨o_1, hc_1, hf⟩ := ob_bind hf
  refine q_callNI hF hl.1 hK hA hZ hW ms_X7_jointOf nw_X5_97 (c_X7_jointOf l D E tx x2 o_1 hc_1) [] rfl rfl rfl ⟨Nat.le_of_ble_eq_true rfl, Nat.le_of_ble_eq_true rfl⟩ ⟨Nat.le_of_ble_eq_true rfl, Nat.le_of_ble_eq_true rfl⟩ rfl rfl (Nat.le_of_ble_eq_true rfl) dX5_after_1 (fun H locs hW => ?_)
  have hW : WD D A s (w_X5_after E h_ h_span h_stride h_tip h_distance h_found h_changes h_walk h_values s_known s_poses s_links s_reached s_span s_stride s_tip) H locs := hW
  refine lv_istore_n (lv' := [(3, .int o_1), (0, .ref h_), (1, .int x1), (2, .int x2)]) hx hb dX5_after_4 rfl hl (by decide) rfl (fun ls hl => ?_)
  refine lv_aload_n hx hb dX5_after_5 rfl (lv_at hl 1 rfl) ?_
  refine lv_iload_n hx hb dX5_after_6 rfl (lv_at hl 2 rfl) ?_
  obtain ⟨o_2, hc_2, hf⟩ := ob_bind hf
  refine q_callI hF hl.1 hK hA hZ hW mv_X5_isPose ml_X5_90 (c_X5_isPose l D E tx h_ h_span h_stride h_tip h_distance h_found h_changes h_walk h_values s_known s_poses s_links s_reached x1 o_2 hc_2) [0] rfl rfl rfl rfl rfl rfl ⟨Nat.le_of_ble_eq_true rfl, Nat.le_of_ble_eq_true rfl⟩ ⟨Nat.le_of_ble_eq_true rfl, Nat.le_of_ble_eq_true rfl⟩ rfl rfl (Nat.le_of_ble_eq_true rfl) dX5_after_7 (fun H locs hW => ?_)
  have hW : WD D A s (w_X5_after E h_ h_span h_stride h_tip h_distance h_found h_changes h_walk h_values s_known s_poses s_links s_reached s_span s_stride s_tip) H locs := hW
  refine q_if_eq (tgt := 48) hx hb dX5_after_10 (by decide) hf (fun hf => ?_) (fun hf => ?_)
  · refine lv_iconst (v := (-1)) hx hb dX5_after_48 (by decide) ?_
    cases hf
    exact hret dX5_after_49 rfl rfl hW
  · refine lv_iload_n hx hb dX5_after_13 rfl (lv_at hl 0 rfl) ?_
    refine q_if_lt (tgt := 48) hx hb dX5_after_14 (by decide) hf (fun hf => ?_) (fun hf => ?_)
    · refine lv_iconst (v := (-1)) hx hb dX5_after_48 (by decide) ?_
      cases hf
      exact hret dX5_after_49 rfl rfl hW
    · refine lv_iload_n hx hb dX5_after_17 rfl (lv_at hl 0 rfl) ?_
      refine lv_aload_n hx hb dX5_after_18 rfl (lv_at hl 1 rfl) ?_
      refine q_get hF hK hW fl_X5_19 0 rfl rfl dX5_after_19 ?_
      refine q_icmp_ge (tgt := 48) hx hb dX5_after_22 (by decide) hf (fun hf => ?_) (fun hf => ?_)
      · refine lv_iconst (v := (-1)) hx hb dX5_after_48 (by decide) ?_
        cases hf
        exact hret dX5_after_49 rfl rfl hW
      · refine lv_iload_n hx hb dX5_after_25 rfl (lv_at hl 0 rfl) ?_
        refine lv_iconst (v := 4) hx hb dX5_after_26 (by decide) ?_
        refine q_icmp_ge (tgt := 48) hx hb dX5_after_27 (by decide) hf (fun hf => ?_) (fun hf => ?_)
        · refine lv_iconst (v := (-1)) hx hb dX5_after_48 (by decide) ?_
          cases hf
          exact hret dX5_after_49 rfl rfl hW
        · refine lv_aload_n hx hb dX5_after_30 rfl (lv_at hl 1 rfl) ?_
          refine q_get hF hK hW fl_X5_26 0 rfl rfl dX5_after_31 ?_
          refine lv_iload_n hx hb dX5_after_34 rfl (lv_at hl 0 rfl) ?_
          refine q_iald hx hb hK hW 2 0 rfl rfl dX5_after_35 hf (fun hf => ?_)
          refine q_if_le (tgt := 48) hx hb dX5_after_36 (by decide) hf (fun hf => ?_) (fun hf => ?_)
          · refine lv_iconst (v := (-1)) hx hb dX5_after_48 (by decide) ?_
            cases hf
            exact hret dX5_after_49 rfl rfl hW
          · refine lv_aload_n hx hb dX5_after_39 rfl (lv_at hl 1 rfl) ?_
            refine q_get hF hK hW fl_X5_22 0 rfl rfl dX5_after_40 ?_
            refine lv_iload_n hx hb dX5_after_43 rfl (lv_at hl 0 rfl) ?_
            refine q_iald hx hb hK hW 1 0 rfl rfl dX5_after_44 hf (fun hf => ?_)
            refine q_if_gt (tgt := 50) hx hb dX5_after_45 (by decide) hf (fun hf => ?_) (fun hf => ?_)
            · refine lv_iload_n hx hb dX5_after_50 rfl (lv_at hl 2 rfl) ?_
              refine lv_aload_n hx hb dX5_after_51 rfl (lv_at hl 1 rfl) ?_
              refine q_get hF hK hW fl_X5_26 0 rfl rfl dX5_after_52 ?_
              refine lv_iload_n hx hb dX5_after_55 rfl (lv_at hl 0 rfl) ?_
              refine q_iald hx hb hK hW 2 0 rfl rfl dX5_after_56 hf (fun hf => ?_)
              refine lv_idiv hx hb dX5_after_57 (ob_gn hf).1 ?_
              replace hf := (ob_gn hf).2
              refine lv_aload_n hx hb dX5_after_58 rfl (lv_at hl 1 rfl) ?_
              refine q_get hF hK hW fl_X5_22 0 rfl rfl dX5_after_59 ?_
              refine lv_iload_n hx hb dX5_after_62 rfl (lv_at hl 0 rfl) ?_
              refine q_iald hx hb hK hW 1 0 rfl rfl dX5_after_63 hf (fun hf => ?_)
              refine lv_irem hx hb dX5_after_64 (ob_gn hf).1 ?_
              replace hf := (ob_gn hf).2
              refine lv_iload_n hx hb dX5_after_65 rfl (lv_at hl 3 rfl) ?_
              obtain ⟨o_3, hc_3, hf⟩ := ob_bind hf
              refine q_callNI hF hl.1 hK hA hZ hW ms_X7_turnOf nw_X5_100 (c_X7_turnOf l D E tx x2 o_3 hc_3) [] rfl rfl rfl ⟨Nat.le_of_ble_eq_true rfl, Nat.le_of_ble_eq_true rfl⟩ ⟨Nat.le_of_ble_eq_true rfl, Nat.le_of_ble_eq_true rfl⟩ rfl rfl (Nat.le_of_ble_eq_true rfl) dX5_after_66 (fun H locs hW => ?_)
              have hW : WD D A s (w_X5_after E h_ h_span h_stride h_tip h_distance h_found h_changes h_walk h_values s_known s_poses s_links s_reached s_span s_stride s_tip) H locs := hW
              refine lv_iadd hx hb dX5_after_69 ?_
              refine lv_topi (fun v_4 ev_4 => ?_)
              replace hf := ob_let hf ev_4
              refine lv_istore (lv' := [(4, .int v_4), (3, .int o_1), (0, .ref h_), (1, .int x1), (2, .int x2)]) hx hb dX5_after_70 hl (by decide) rfl (fun ls hl => ?_)
              refine lv_iload hx hb dX5_after_72 (lv_at hl 0 rfl) ?_
              refine q_if_lt (tgt := 88) hx hb dX5_after_74 (by decide) hf (fun hf => ?_) (fun hf => ?_)
              · refine lv_iconst (v := (-1)) hx hb dX5_after_88 (by decide) ?_
                cases hf
                exact hret dX5_after_89 rfl rfl hW
              · refine lv_iload hx hb dX5_after_77 (lv_at hl 0 rfl) ?_
                refine lv_aload_n hx hb dX5_after_79 rfl (lv_at hl 2 rfl) ?_
                refine q_get hF hK hW fl_X5_22 0 rfl rfl dX5_after_80 ?_
                refine lv_iload_n hx hb dX5_after_83 rfl (lv_at hl 1 rfl) ?_
                refine q_iald hx hb hK hW 1 0 rfl rfl dX5_after_84 hf (fun hf => ?_)
                refine q_icmp_lt (tgt := 90) hx hb dX5_after_85 (by decide) hf (fun hf => ?_) (fun hf => ?_)
                · refine lv_iload_n hx hb dX5_after_90 rfl (lv_at hl 3 rfl) ?_
                  refine lv_iload_n hx hb dX5_after_91 rfl (lv_at hl 4 rfl) ?_
                  obtain ⟨o_5, hc_5, hf⟩ := ob_bind hf
                  refine q_callNI hF hl.1 hK hA hZ hW ms_X7_turnOf nw_X5_100 (c_X7_turnOf l D E tx x2 o_5 hc_5) [] rfl rfl rfl ⟨Nat.le_of_ble_eq_true rfl, Nat.le_of_ble_eq_true rfl⟩ ⟨Nat.le_of_ble_eq_true rfl, Nat.le_of_ble_eq_true rfl⟩ rfl rfl (Nat.le_of_ble_eq_true rfl) dX5_after_92 (fun H locs hW => ?_)
                  have hW : WD D A s (w_X5_after E h_ h_span h_stride h_tip h_distance h_found h_changes h_walk h_values s_known s_poses s_links s_reached s_span s_stride s_tip) H locs := hW
                  refine lv_aload_n hx hb dX5_after_95 rfl (lv_at hl 2 rfl) ?_
                  refine q_get hF hK hW fl_X5_26 0 rfl rfl dX5_after_96 ?_
                  refine lv_iload_n hx hb dX5_after_99 rfl (lv_at hl 1 rfl) ?_
                  refine q_iald hx hb hK hW 2 0 rfl rfl dX5_after_100 hf (fun hf => ?_)
                  refine lv_imul hx hb dX5_after_101 ?_
                  refine lv_iadd hx hb dX5_after_102 ?_
                  refine lv_topi (fun v_6 ev_6 => ?_)
                  replace hf := ob_let hf ev_6
                  refine lv_istore (lv' := [(5, .int v_6), (4, .int v_4), (3, .int o_1), (0, .ref h_), (1, .int x1), (2, .int x2)]) hx hb dX5_after_103 hl (by decide) rfl (fun ls hl => ?_)
                  refine lv_aload_n hx hb dX5_after_105 rfl (lv_at hl 3 rfl) ?_
                  refine lv_iload hx hb dX5_after_106 (lv_at hl 0 rfl) ?_
                  obtain ⟨o_7, hc_7, hf⟩ := ob_bind hf
                  refine q_callI hF hl.1 hK hA hZ hW mv_X5_isPose ml_X5_90 (c_X5_isPose l D E tx h_ h_span h_stride h_tip h_distance h_found h_changes h_walk h_values s_known s_poses s_links s_reached v_6 o_7 hc_7) [0] rfl rfl rfl rfl rfl rfl ⟨Nat.le_of_ble_eq_true rfl, Nat.le_of_ble_eq_true rfl⟩ ⟨Nat.le_of_ble_eq_true rfl, Nat.le_of_ble_eq_true rfl⟩ rfl rfl (Nat.le_of_ble_eq_true rfl) dX5_after_108 (fun H locs hW => ?_)
                  have hW : WD D A s (w_X5_after E h_ h_span h_stride h_tip h_distance h_found h_changes h_walk h_values s_known s_poses s_links s_reached s_span s_stride s_tip) H locs := hW
                  refine q_if_eq (tgt := 129) hx hb dX5_after_111 (by decide) hf (fun hf => ?_) (fun hf => ?_)
                  · refine lv_iconst (v := (-1)) hx hb dX5_after_129 (by decide) ?_
                    cases hf
                    exact hret dX5_after_130 rfl rfl hW
                  · refine lv_aload_n hx hb dX5_after_114 rfl (lv_at hl 3 rfl) ?_
                    refine q_get hF hK hW fl_X5_29 0 rfl rfl dX5_after_115 ?_
                    refine lv_iload hx hb dX5_after_118 (lv_at hl 0 rfl) ?_
                    refine q_iald hx hb hK hW 3 0 rfl rfl dX5_after_120 hf (fun hf => ?_)
                    refine q_if_lt (tgt := 129) hx hb dX5_after_121 (by decide) hf (fun hf => ?_) (fun hf => ?_)
                    · refine lv_iconst (v := (-1)) hx hb dX5_after_129 (by decide) ?_
                      cases hf
                      exact hret dX5_after_130 rfl rfl hW
                    · refine lv_iload hx hb dX5_after_124 (lv_at hl 0 rfl) ?_
                      refine lv_goto (tgt := 130) hx hb dX5_after_126 (by decide) ?_
                      cases hf
                      exact hret dX5_after_130 rfl rfl hW
                · refine lv_iconst (v := (-1)) hx hb dX5_after_88 (by decide) ?_
                  cases hf
                  exact hret dX5_after_89 rfl rfl hW
            · refine lv_iconst (v := (-1)) hx hb dX5_after_48 (by decide) ?_
              cases hf
              exact hret dX5_after_49 rfl rfl hW
def w_X5_movesFrom (E : Nat → ClassId) (h_ h_span h_stride h_tip h_distance h_found h_changes h_walk h_values : Nat) (s_known : Int32) (s_poses : Int32) (s_links : Int32) (s_reached : Int32) (s_span : Nat → Int32) (s_stride : Nat → Int32) (s_tip : Nat → Int32) : va_W := [(h_, .inr (7, [.int s_known, .int s_poses, .int s_links, .ref h_span, .ref h_stride, .ref h_tip, .ref h_distance, .ref h_found, .int s_reached, .ref h_changes, .ref h_walk, .ref h_values])), (h_span, .inl (E 0, 4, .inl s_span)), (h_stride, .inl (E 0, 4, .inl s_stride)), (h_tip, .inl (E 0, 5000, .inl s_tip))]
set_option maxHeartbeats 4000000 in
set_option maxRecDepth 100000 in
theorem c_X5_movesFrom (l : Launch) (D : va_G) (E : Nat → ClassId) (tx : List (Nat × String)) (h_ h_span h_stride h_tip h_distance h_found h_changes h_walk h_values : Nat) (s_known : Int32) (s_poses : Int32) (s_links : Int32) (s_reached : Int32) (s_span : Nat → Int32) (s_stride : Nat → Int32) (s_tip : Nat → Int32) (x1 : Int32) (r0 : Int32) (hf : f_X5_movesFrom s_poses s_links s_span s_stride s_tip x1 = some r0) : CI l yX5_movesFrom cX5_movesFrom 4 (some .int) 2 46 D E tx [.ref h_, .int x1] (w_X5_movesFrom E h_ h_span h_stride h_tip h_distance h_found h_changes h_walk h_values s_known s_poses s_links s_reached s_span s_stride s_tip) (w_X5_movesFrom E h_ h_span h_stride h_tip h_distance h_found h_changes h_walk h_values s_known s_poses s_links s_reached s_span s_stride s_tip) r0 := by
  refine CI_of RX5 pn_X5 rfl (Nat.le_of_ble_eq_true rfl) (fun p e s m args below meth c A Q hF hK hA hZ hW hret ls hl => ?_)
  have hx := hF.1
  have hb := hF.2.1
  have hl : lv_has ls 4 [(0, .ref h_), (1, .int x1)] := hl
  unfold f_X5_movesFrom at hf
  refine lv_iconst (v := 0) hx hb dX5_movesFrom_0 (by decide) ?_
  refine lv_istore_n (lv' := [(2, .int 0), (0, .ref h_), (1, .int x1)]) hx hb dX5_movesFrom_1 rfl hl (by decide) rfl (fun ls hl => ?_)
  refine lv_iconst (v := 0) hx hb dX5_movesFrom_2 (by decide) ?_
  refine lv_istore_n (lv' := [(3, .int 0), (2, .int 0), (0, .ref h_), (1, .int x1)]) hx hb dX5_movesFrom_3 rfl hl (by decide) rfl (fun ls hl => ?_)
  have hB4 : ∀ (n : Nat) (z2_4 : Int32) (z3_4 : Int32) (ex : Int32) (H : Heap) (locs : List Loc) (ls : Array Slot), LPF (fun z => f_X5_movesFrom_B4 s_poses s_links s_span s_stride s_tip x1 z.1 z.2) n (z2_4, z3_4) = some ex → lv_has ls 4 [(0, .ref h_), (1, .int x1), (2, .int z2_4), (3, .int z3_4)] → WD D A s (w_X5_movesFrom E h_ h_span h_stride h_tip h_distance h_found h_changes h_walk h_values s_known s_poses s_links s_reached s_span s_stride s_tip) H locs → (∀ (H : Heap) (locs : List Loc) (ls : Array Slot), lv_has ls 4 [(2, .int ex)] → WD D A s (w_X5_movesFrom E h_ h_span h_stride h_tip h_distance h_found h_changes h_walk h_values s_known s_poses s_links s_reached s_span s_stride s_tip) H locs → W p l e (RM 2 46) s m args below meth c H locs 0 0 Q (F0 m 28 ls [])) → W p l e (RM 2 46) s m args below meth c H locs 0 0 Q (F0 m 4 ls []) := by
    intro n
    induction n with
    | zero => intro z2_4 z3_4 ex H locs ls h9; exact (ob_lp0 h9).elim
    | succ n ih =>
      intro z2_4 z3_4 ex H locs ls h9 hl hW kx0
      obtain ⟨q9, hf, h9, k9⟩ := ob_lp h9
      have hf : f_X5_movesFrom_B4 s_poses s_links s_span s_stride s_tip x1 z2_4 z3_4 = some q9 := hf
      unfold f_X5_movesFrom_B4 at hf
      refine lv_iload_n hx hb dX5_movesFrom_4 rfl (lv_at hl 3 rfl) ?_
      refine lv_bipush (v := 8) hx hb dX5_movesFrom_5 (by decide) ?_
      refine q_icmp_ge (tgt := 28) hx hb dX5_movesFrom_7 (by decide) hf (fun hf => ?_) (fun hf => ?_)
      · cases hf
        have hx9 := k9 _ rfl
        subst hx9
        exact kx0 _ _ _ (lv_sub hl [2] rfl) hW
      · refine lv_aload_n hx hb dX5_movesFrom_10 rfl (lv_at hl 0 rfl) ?_
        refine lv_iload_n hx hb dX5_movesFrom_11 rfl (lv_at hl 1 rfl) ?_
        refine lv_iload_n hx hb dX5_movesFrom_12 rfl (lv_at hl 3 rfl) ?_
        obtain ⟨o_1, hc_1, hf⟩ := ob_bind hf
        refine q_callI hF hl.1 hK hA hZ hW mv_X5_after ml_X5_103 (c_X5_after l D E tx h_ h_span h_stride h_tip h_distance h_found h_changes h_walk h_values s_known s_poses s_links s_reached s_span s_stride s_tip x1 z3_4 o_1 hc_1) [0, 1, 2, 3] rfl rfl rfl rfl rfl rfl ⟨Nat.le_of_ble_eq_true rfl, Nat.le_of_ble_eq_true rfl⟩ ⟨Nat.le_of_ble_eq_true rfl, Nat.le_of_ble_eq_true rfl⟩ rfl rfl (Nat.le_of_ble_eq_true rfl) dX5_movesFrom_13 (fun H locs hW => ?_)
        have hW : WD D A s (w_X5_movesFrom E h_ h_span h_stride h_tip h_distance h_found h_changes h_walk h_values s_known s_poses s_links s_reached s_span s_stride s_tip) H locs := hW
        refine q_if_lt (tgt := 22) hx hb dX5_movesFrom_16 (by decide) hf (fun hf => ?_) (fun hf => ?_)
        · obtain ⟨v_2, ev_2⟩ : ∃ y : Int32, y = z3_4 + 1 := ⟨_, rfl⟩
          replace hf := ob_let hf ev_2
          refine lv_iinc (v := v_2) (lv' := [(3, .int v_2), (0, .ref h_), (1, .int x1), (2, .int z2_4)]) hx hb dX5_movesFrom_22 hl (k := 3) rfl (by rw [ev_2]; rfl) (by decide) rfl (fun ls hl => ?_)
          refine lv_goto (tgt := 4) hx hb dX5_movesFrom_25 (by decide) ?_
          cases hf
          exact ih z2_4 v_2 ex _ _ _ (h9 _ rfl) (lv_sub hl [1, 2, 3, 0] rfl) hW kx0
        · obtain ⟨v_3, ev_3⟩ : ∃ y : Int32, y = z2_4 + 1 := ⟨_, rfl⟩
          replace hf := ob_let hf ev_3
          refine lv_iinc (v := v_3) (lv' := [(2, .int v_3), (0, .ref h_), (1, .int x1), (3, .int z3_4)]) hx hb dX5_movesFrom_19 hl (k := 2) rfl (by rw [ev_3]; rfl) (by decide) rfl (fun ls hl => ?_)
          obtain ⟨v_4, ev_4⟩ : ∃ y : Int32, y = z3_4 + 1 := ⟨_, rfl⟩
          replace hf := ob_let hf ev_4
          refine lv_iinc (v := v_4) (lv' := [(3, .int v_4), (2, .int v_3), (0, .ref h_), (1, .int x1)]) hx hb dX5_movesFrom_22 hl (k := 3) rfl (by rw [ev_4]; rfl) (by decide) rfl (fun ls hl => ?_)
          refine lv_goto (tgt := 4) hx hb dX5_movesFrom_25 (by decide) ?_
          cases hf
          exact ih v_3 v_4 ex _ _ _ (h9 _ rfl) (lv_sub hl [2, 3, 1, 0] rfl) hW kx0
  obtain ⟨e_5, hc_5, hf⟩ := ob_bind hf
  refine hB4 lfuel 0 0 e_5 _ _ _ hc_5 (lv_sub hl [2, 3, 1, 0] rfl) hW ?_
  intro H locs ls hl hW
  refine lv_iload_n hx hb dX5_movesFrom_28 rfl (lv_at hl 0 rfl) ?_
  cases hf
  exact hret dX5_movesFrom_29 rfl rfl hW
def w_X5_beginSearch (E : Nat → ClassId) (h_ h_span h_stride h_tip h_distance h_found h_changes h_walk h_values : Nat) (s_known : Int32) (s_poses : Int32) (s_links : Int32) (s_reached : Int32) (s_distance : Nat → Int32) : va_W := [(h_, .inr (7, [.int s_known, .int s_poses, .int s_links, .ref h_span, .ref h_stride, .ref h_tip, .ref h_distance, .ref h_found, .int s_reached, .ref h_changes, .ref h_walk, .ref h_values])), (h_distance, .inl (E 0, 5000, .inl s_distance))]
set_option maxHeartbeats 4000000 in
set_option maxRecDepth 100000 in
theorem c_X5_beginSearch (l : Launch) (D : va_G) (E : Nat → ClassId) (tx : List (Nat × String)) (h_ h_span h_stride h_tip h_distance h_found h_changes h_walk h_values : Nat) (s_known : Int32) (s_poses : Int32) (s_links : Int32) (s_reached : Int32) (s_distance : Nat → Int32)  (r0 : Int32) (r1 : Nat → Int32) (hf : f_X5_beginSearch s_reached s_distance = some (r0, r1)) : CV l yX5_beginSearch cX5_beginSearch 1 1 23 D E tx [.ref h_] (w_X5_beginSearch E h_ h_span h_stride h_tip h_distance h_found h_changes h_walk h_values s_known s_poses s_links s_reached s_distance) (w_X5_beginSearch E h_ h_span h_stride h_tip h_distance h_found h_changes h_walk h_values s_known s_poses s_links r0 r1) := by
  refine CV_of RX5 pn_X5 rfl (Nat.le_of_ble_eq_true rfl) (fun p e s m args below meth c A Q hF hK hA hZ hW hret ls hl => ?_)
  have hx := hF.1
  have hb := hF.2.1
  have hl : lv_has ls 1 [(0, .ref h_)] := hl
  unfold f_X5_beginSearch at hf
  refine lv_aload_n hx hb dX5_beginSearch_0 rfl (lv_at hl 0 rfl) ?_
  refine q_get hF hK hW fl_X5_32 0 rfl rfl dX5_beginSearch_1 ?_
  refine lv_iconst (v := (-1)) hx hb dX5_beginSearch_4 (by decide) ?_
  obtain ⟨o_1, hc_1, hf⟩ := ob_bind hf
  refine q_callSV hF hl.1 hK hA hZ hW ms_J7_fill_53178 ml_X5_106 (c_J7_fill_53178_5000 l D E tx h_distance s_distance ((-1)) o_1 hc_1) [1] rfl rfl rfl ⟨Nat.le_of_ble_eq_true rfl, Nat.le_of_ble_eq_true rfl⟩ ⟨Nat.le_of_ble_eq_true rfl, Nat.le_of_ble_eq_true rfl⟩ rfl rfl (Nat.le_of_ble_eq_true rfl) dX5_beginSearch_5 (fun H locs hW => ?_)
  have hW : WD D A s (w_X5_beginSearch E h_ h_span h_stride h_tip h_distance h_found h_changes h_walk h_values s_known s_poses s_links s_reached o_1) H locs := hW
  refine lv_aload_n hx hb dX5_beginSearch_8 rfl (lv_at hl 0 rfl) ?_
  refine lv_iconst (v := 0) hx hb dX5_beginSearch_9 (by decide) ?_
  refine q_put hF hK hW fl_X5_38 ft_X5 rfl 0 rfl rfl rfl (Nat.le_of_ble_eq_true rfl) dX5_beginSearch_10 (fun H locs hW => ?_)
  have hW : WD D A s (w_X5_beginSearch E h_ h_span h_stride h_tip h_distance h_found h_changes h_walk h_values s_known s_poses s_links 0 o_1) H locs := hW
  cases hf
  exact hret dX5_beginSearch_13 hW
def w_X5_reach (E : Nat → ClassId) (h_ h_span h_stride h_tip h_distance h_found h_changes h_walk h_values : Nat) (s_known : Int32) (s_poses : Int32) (s_links : Int32) (s_reached : Int32) (s_tip : Nat → Int32) (s_distance : Nat → Int32) (s_found : Nat → Int32) : va_W := [(h_, .inr (7, [.int s_known, .int s_poses, .int s_links, .ref h_span, .ref h_stride, .ref h_tip, .ref h_distance, .ref h_found, .int s_reached, .ref h_changes, .ref h_walk, .ref h_values])), (h_tip, .inl (E 0, 5000, .inl s_tip)), (h_distance, .inl (E 0, 5000, .inl s_distance)), (h_found, .inl (E 0, 5000, .inl s_found))]
set_option maxHeartbeats 4000000 in
set_option maxRecDepth 100000 in
theorem c_X5_reach (l : Launch) (D : va_G) (E : Nat → ClassId) (tx : List (Nat × String)) (h_ h_span h_stride h_tip h_distance h_found h_changes h_walk h_values : Nat) (s_known : Int32) (s_poses : Int32) (s_links : Int32) (s_reached : Int32) (s_tip : Nat → Int32) (s_distance : Nat → Int32) (s_found : Nat → Int32) (x1 : Int32) (x2 : Int32) (r0 : Int32) (r1 : Nat → Int32) (r2 : Nat → Int32) (hf : f_X5_reach s_poses s_reached s_tip s_distance s_found x1 x2 = some (r0, r1, r2)) : CV l yX5_reach cX5_reach 3 1 21 D E tx [.ref h_, .int x1, .int x2] (w_X5_reach E h_ h_span h_stride h_tip h_distance h_found h_changes h_walk h_values s_known s_poses s_links s_reached s_tip s_distance s_found) (w_X5_reach E h_ h_span h_stride h_tip h_distance h_found h_changes h_walk h_values s_known s_poses s_links r0 s_tip r1 r2) := by
  refine CV_of RX5 pn_X5 rfl (Nat.le_of_ble_eq_true rfl) (fun p e s m args below meth c A Q hF hK hA hZ hW hret ls hl => ?_)
  have hx := hF.1
  have hb := hF.2.1
  have hl : lv_has ls 3 [(0, .ref h_), (1, .int x1), (2, .int x2)] := hl
  unfold f_X5_reach at hf
  refine lv_aload_n hx hb dX5_reach_0 rfl (lv_at hl 0 rfl) ?_
  refine lv_iload_n hx hb dX5_reach_1 rfl (lv_at hl 1 rfl) ?_
  obtain ⟨o_1, hc_1, hf⟩ := ob_bind hf
  refine q_callI hF hl.1 hK hA hZ hW mv_X5_isPose ml_X5_90 (c_X5_isPose l D E tx h_ h_span h_stride h_tip h_distance h_found h_changes h_walk h_values s_known s_poses s_links s_reached x1 o_1 hc_1) [0] rfl rfl rfl rfl rfl rfl ⟨Nat.le_of_ble_eq_true rfl, Nat.le_of_ble_eq_true rfl⟩ ⟨Nat.le_of_ble_eq_true rfl, Nat.le_of_ble_eq_true rfl⟩ rfl rfl (Nat.le_of_ble_eq_true rfl) dX5_reach_2 (fun H locs hW => ?_)
  have hW : WD D A s (w_X5_reach E h_ h_span h_stride h_tip h_distance h_found h_changes h_walk h_values s_known s_poses s_links s_reached s_tip s_distance s_found) H locs := hW
  refine q_if_eq (tgt := 70) hx hb dX5_reach_5 (by decide) hf (fun hf => ?_) (fun hf => ?_)
  · cases hf
    exact hret dX5_reach_70 hW
  · refine lv_aload_n hx hb dX5_reach_8 rfl (lv_at hl 0 rfl) ?_
    refine q_get hF hK hW fl_X5_29 0 rfl rfl dX5_reach_9 ?_
    refine lv_iload_n hx hb dX5_reach_12 rfl (lv_at hl 1 rfl) ?_
    refine q_iald hx hb hK hW 1 0 rfl rfl dX5_reach_13 hf (fun hf => ?_)
    refine q_if_lt (tgt := 70) hx hb dX5_reach_14 (by decide) hf (fun hf => ?_) (fun hf => ?_)
    · cases hf
      exact hret dX5_reach_70 hW
    · refine lv_aload_n hx hb dX5_reach_17 rfl (lv_at hl 0 rfl) ?_
      refine q_get hF hK hW fl_X5_32 0 rfl rfl dX5_reach_18 ?_
      refine lv_iload_n hx hb dX5_reach_21 rfl (lv_at hl 1 rfl) ?_
      refine q_iald hx hb hK hW 2 0 rfl rfl dX5_reach_22 hf (fun hf => ?_)
      refine q_if_ge (tgt := 70) hx hb dX5_reach_23 (by decide) hf (fun hf => ?_) (fun hf => ?_)
      · cases hf
        exact hret dX5_reach_70 hW
      · refine lv_aload_n hx hb dX5_reach_26 rfl (lv_at hl 0 rfl) ?_
        refine q_get hF hK hW fl_X5_38 0 rfl rfl dX5_reach_27 ?_
        refine q_if_lt (tgt := 70) hx hb dX5_reach_30 (by decide) hf (fun hf => ?_) (fun hf => ?_)
        · cases hf
          exact hret dX5_reach_70 hW
        · refine lv_aload_n hx hb dX5_reach_33 rfl (lv_at hl 0 rfl) ?_
          refine q_get hF hK hW fl_X5_38 0 rfl rfl dX5_reach_34 ?_
          refine lv_sipush (v := 5000) hx hb dX5_reach_37 (by decide) ?_
          refine q_icmp_ge (tgt := 70) hx hb dX5_reach_40 (by decide) hf (fun hf => ?_) (fun hf => ?_)
          · cases hf
            exact hret dX5_reach_70 hW
          · refine lv_aload_n hx hb dX5_reach_43 rfl (lv_at hl 0 rfl) ?_
            refine q_get hF hK hW fl_X5_32 0 rfl rfl dX5_reach_44 ?_
            refine lv_iload_n hx hb dX5_reach_47 rfl (lv_at hl 1 rfl) ?_
            refine lv_iload_n hx hb dX5_reach_48 rfl (lv_at hl 2 rfl) ?_
            refine q_iast hx hb hK hW 2 0 rfl rfl dX5_reach_49 hf (fun a_2 hf H locs hW => ?_)
            have hW : WD D A s (w_X5_reach E h_ h_span h_stride h_tip h_distance h_found h_changes h_walk h_values s_known s_poses s_links s_reached s_tip a_2 s_found) H locs := hW
            refine lv_aload_n hx hb dX5_reach_50 rfl (lv_at hl 0 rfl) ?_
            refine q_get hF hK hW fl_X5_35 0 rfl rfl dX5_reach_51 ?_
            refine lv_aload_n hx hb dX5_reach_54 rfl (lv_at hl 0 rfl) ?_
            refine q_get hF hK hW fl_X5_38 0 rfl rfl dX5_reach_55 ?_
            refine lv_iload_n hx hb dX5_reach_58 rfl (lv_at hl 1 rfl) ?_
            refine q_iast hx hb hK hW 3 0 rfl rfl dX5_reach_59 hf (fun a_3 hf H locs hW => ?_)
            have hW : WD D A s (w_X5_reach E h_ h_span h_stride h_tip h_distance h_found h_changes h_walk h_values s_known s_poses s_links s_reached s_tip a_2 a_3) H locs := hW
            refine lv_aload_n hx hb dX5_reach_60 rfl (lv_at hl 0 rfl) ?_
            refine lv_dup hx hb dX5_reach_61 rfl ?_
            refine q_get hF hK hW fl_X5_38 0 rfl rfl dX5_reach_62 ?_
            refine lv_iconst (v := 1) hx hb dX5_reach_65 (by decide) ?_
            refine lv_iadd hx hb dX5_reach_66 ?_
            refine lv_topi (fun v_4 ev_4 => ?_)
            replace hf := ob_let hf ev_4
            refine q_put hF hK hW fl_X5_38 ft_X5 rfl 0 rfl rfl rfl (Nat.le_of_ble_eq_true rfl) dX5_reach_67 (fun H locs hW => ?_)
            have hW : WD D A s (w_X5_reach E h_ h_span h_stride h_tip h_distance h_found h_changes h_walk h_values s_known s_poses s_links v_4 s_tip a_2 a_3) H locs := hW
            cases hf
            exact hret dX5_reach_70 hW
def w_X5_spread (E : Nat → ClassId) (h_ h_span h_stride h_tip h_distance h_found h_changes h_walk h_values : Nat) (s_known : Int32) (s_poses : Int32) (s_links : Int32) (s_reached : Int32) (s_span : Nat → Int32) (s_stride : Nat → Int32) (s_tip : Nat → Int32) (s_distance : Nat → Int32) (s_found : Nat → Int32) : va_W := [(h_, .inr (7, [.int s_known, .int s_poses, .int s_links, .ref h_span, .ref h_stride, .ref h_tip, .ref h_distance, .ref h_found, .int s_reached, .ref h_changes, .ref h_walk, .ref h_values])), (h_span, .inl (E 0, 4, .inl s_span)), (h_stride, .inl (E 0, 4, .inl s_stride)), (h_tip, .inl (E 0, 5000, .inl s_tip)), (h_distance, .inl (E 0, 5000, .inl s_distance)), (h_found, .inl (E 0, 5000, .inl s_found))]
set_option maxHeartbeats 4000000 in
set_option maxRecDepth 100000 in
theorem c_X5_spread (l : Launch) (D : va_G) (E : Nat → ClassId) (tx : List (Nat × String)) (h_ h_span h_stride h_tip h_distance h_found h_changes h_walk h_values : Nat) (s_known : Int32) (s_poses : Int32) (s_links : Int32) (s_reached : Int32) (s_span : Nat → Int32) (s_stride : Nat → Int32) (s_tip : Nat → Int32) (s_distance : Nat → Int32) (s_found : Nat → Int32) (x1 : Int32) (r0 : Int32) (r1 : Nat → Int32) (r2 : Nat → Int32) (hf : f_X5_spread s_poses s_links s_reached s_span s_stride s_tip s_distance s_found x1 = some (r0, r1, r2)) : CV l yX5_spread cX5_spread 5 2 64 D E tx [.ref h_, .int x1] (w_X5_spread E h_ h_span h_stride h_tip h_distance h_found h_changes h_walk h_values s_known s_poses s_links s_reached s_span s_stride s_tip s_distance s_found) (w_X5_spread E h_ h_span h_stride h_tip h_distance h_found h_changes h_walk h_values s_known s_poses s_links r0 s_span s_stride s_tip r1 r2) := by
  refine CV_of RX5 pn_X5 rfl (Nat.le_of_ble_eq_true rfl) (fun p e s m args below meth c A Q hF hK hA hZ hW hret ls hl => ?_)
  have hx := hF.1
  have hb := hF.2.1
  have hl : lv_has ls 5 [(0, .ref h_), (1, .int x1)] := hl
  unfold f_X5_spread at hf
  refine lv_iload_n hx hb dX5_spread_0 rfl (lv_at hl 1 rfl) ?_
  refine lv_iconst (v := 0) hx hb dX5_spread_1 (by decide) ?_
  refine q_max hF hl.1 ml_X5_112 ⟨Nat.le_of_ble_eq_true rfl, Nat.le_of_ble_eq_true rfl⟩ ⟨Nat.le_of_ble_eq_true rfl, Nat.le_of_ble_eq_true rfl⟩ dX5_spread_2 ?_
  refine lv_topi (fun v_1 ev_1 => ?_)
  replace hf := ob_let hf ev_1
  refine lv_istore_n (lv' := [(2, .int v_1), (0, .ref h_), (1, .int x1)]) hx hb dX5_spread_5 rfl hl (by decide) rfl (fun ls hl => ?_)
  have hB6 : ∀ (n : Nat) (s_reached_6 : Int32) (s_distance_6 : Nat → Int32) (s_found_6 : Nat → Int32) (z2_6 : Int32) (ex : Int32 × (Nat → Int32) × (Nat → Int32)) (H : Heap) (locs : List Loc) (ls : Array Slot), LPF (fun z => f_X5_spread_B6 s_poses s_links z.1 s_span s_stride s_tip z.2.1 z.2.2.1 z.2.2.2) n (s_reached_6, s_distance_6, s_found_6, z2_6) = some ex → lv_has ls 5 [(0, .ref h_), (2, .int z2_6)] → WD D A s (w_X5_spread E h_ h_span h_stride h_tip h_distance h_found h_changes h_walk h_values s_known s_poses s_links s_reached_6 s_span s_stride s_tip s_distance_6 s_found_6) H locs → (∀ (H : Heap) (locs : List Loc) (ls : Array Slot), lv_has ls 5 [] → WD D A s (w_X5_spread E h_ h_span h_stride h_tip h_distance h_found h_changes h_walk h_values s_known s_poses s_links ex.1 s_span s_stride s_tip ex.2.1 ex.2.2) H locs → W p l e (RM 2 64) s m args below meth c H locs 0 0 Q (F0 m 68 ls [])) → W p l e (RM 2 64) s m args below meth c H locs 0 0 Q (F0 m 6 ls []) := by
    intro n
    induction n with
    | zero => intro s_reached_6 s_distance_6 s_found_6 z2_6 ex H locs ls h9; exact (ob_lp0 h9).elim
    | succ n ih =>
      intro s_reached_6 s_distance_6 s_found_6 z2_6 ex H locs ls h9 hl hW kx0
      obtain ⟨q9, hf, h9, k9⟩ := ob_lp h9
      have hf : f_X5_spread_B6 s_poses s_links s_reached_6 s_span s_stride s_tip s_distance_6 s_found_6 z2_6 = some q9 := hf
      unfold f_X5_spread_B6 at hf
      refine lv_iload_n hx hb dX5_spread_6 rfl (lv_at hl 1 rfl) ?_
      refine lv_aload_n hx hb dX5_spread_7 rfl (lv_at hl 0 rfl) ?_
      refine q_get hF hK hW fl_X5_38 0 rfl rfl dX5_spread_8 ?_
      refine q_icmp_ge (tgt := 68) hx hb dX5_spread_11 (by decide) hf (fun hf => ?_) (fun hf => ?_)
      · cases hf
        have hx9 := k9 _ rfl
        subst hx9
        exact kx0 _ _ _ (lv_sub hl [] rfl) hW
      · refine lv_iload_n hx hb dX5_spread_14 rfl (lv_at hl 1 rfl) ?_
        refine lv_sipush (v := 5000) hx hb dX5_spread_15 (by decide) ?_
        refine q_icmp_ge (tgt := 68) hx hb dX5_spread_18 (by decide) hf (fun hf => ?_) (fun hf => ?_)
        · cases hf
          have hx9 := k9 _ rfl
          subst hx9
          exact kx0 _ _ _ (lv_sub hl [] rfl) hW
        · refine lv_aload_n hx hb dX5_spread_21 rfl (lv_at hl 0 rfl) ?_
          refine q_get hF hK hW fl_X5_35 0 rfl rfl dX5_spread_22 ?_
          refine lv_iload_n hx hb dX5_spread_25 rfl (lv_at hl 1 rfl) ?_
          refine q_iald hx hb hK hW 5 0 rfl rfl dX5_spread_26 hf (fun hf => ?_)
          refine lv_topi (fun v_2 ev_2 => ?_)
          replace hf := ob_let hf ev_2
          refine lv_istore_n (lv' := [(3, .int v_2), (0, .ref h_), (2, .int z2_6)]) hx hb dX5_spread_27 rfl hl (by decide) rfl (fun ls hl => ?_)
          refine lv_iconst (v := 0) hx hb dX5_spread_28 (by decide) ?_
          refine lv_istore (lv' := [(4, .int 0), (3, .int v_2), (0, .ref h_), (2, .int z2_6)]) hx hb dX5_spread_29 hl (by decide) rfl (fun ls hl => ?_)
          have hB31 : ∀ (n : Nat) (s_reached_31 : Int32) (s_distance_31 : Nat → Int32) (s_found_31 : Nat → Int32) (z4_31 : Int32) (ex : Int32 × (Nat → Int32) × (Nat → Int32)) (H : Heap) (locs : List Loc) (ls : Array Slot), LPF (fun z => f_X5_spread_B31 s_poses s_links z.1 s_span s_stride s_tip z.2.1 z.2.2.1 z2_6 v_2 z.2.2.2) n (s_reached_31, s_distance_31, s_found_31, z4_31) = some ex → lv_has ls 5 [(0, .ref h_), (2, .int z2_6), (3, .int v_2), (4, .int z4_31)] → WD D A s (w_X5_spread E h_ h_span h_stride h_tip h_distance h_found h_changes h_walk h_values s_known s_poses s_links s_reached_31 s_span s_stride s_tip s_distance_31 s_found_31) H locs → (∀ (H : Heap) (locs : List Loc) (ls : Array Slot), lv_has ls 5 [(0, .ref h_), (2, .int z2_6)] → WD D A s (w_X5_spread E h_ h_span h_stride h_tip h_distance h_found h_changes h_walk h_values s_known s_poses s_links ex.1 s_span s_stride s_tip ex.2.1 ex.2.2) H locs → W p l e (RM 2 64) s m args below meth c H locs 0 0 Q (F0 m 62 ls [])) → W p l e (RM 2 64) s m args below meth c H locs 0 0 Q (F0 m 31 ls []) := by
            intro n
            induction n with
            | zero => intro s_reached_31 s_distance_31 s_found_31 z4_31 ex H locs ls h9; exact (ob_lp0 h9).elim
            | succ n ih =>
              intro s_reached_31 s_distance_31 s_found_31 z4_31 ex H locs ls h9 hl hW kx0
              obtain ⟨q9, hf, h9, k9⟩ := ob_lp h9
              have hf : f_X5_spread_B31 s_poses s_links s_reached_31 s_span s_stride s_tip s_distance_31 s_found_31 z2_6 v_2 z4_31 = some q9 := hf
              unfold f_X5_spread_B31 at hf
              refine lv_iload hx hb dX5_spread_31 (lv_at hl 3 rfl) ?_
              refine lv_bipush (v := 8) hx hb dX5_spread_33 (by decide) ?_
              refine q_icmp_ge (tgt := 62) hx hb dX5_spread_35 (by decide) hf (fun hf => ?_) (fun hf => ?_)
              · cases hf
                have hx9 := k9 _ rfl
                subst hx9
                exact kx0 _ _ _ (lv_sub hl [0, 1] rfl) hW
              · refine lv_aload_n hx hb dX5_spread_38 rfl (lv_at hl 0 rfl) ?_
                refine lv_aload_n hx hb dX5_spread_39 rfl (lv_at hl 0 rfl) ?_
                refine lv_iload_n hx hb dX5_spread_40 rfl (lv_at hl 2 rfl) ?_
                refine lv_iload hx hb dX5_spread_41 (lv_at hl 3 rfl) ?_
                obtain ⟨o_3, hc_3, hf⟩ := ob_bind hf
                refine q_callI hF hl.1 hK hA hZ hW mv_X5_after ml_X5_103 (c_X5_after l D E tx h_ h_span h_stride h_tip h_distance h_found h_changes h_walk h_values s_known s_poses s_links s_reached_31 s_span s_stride s_tip v_2 z4_31 o_3 hc_3) [0, 1, 2, 3] rfl rfl rfl rfl rfl rfl ⟨Nat.le_of_ble_eq_true rfl, Nat.le_of_ble_eq_true rfl⟩ ⟨Nat.le_of_ble_eq_true rfl, Nat.le_of_ble_eq_true rfl⟩ rfl rfl (Nat.le_of_ble_eq_true rfl) dX5_spread_43 (fun H locs hW => ?_)
                have hW : WD D A s (w_X5_spread E h_ h_span h_stride h_tip h_distance h_found h_changes h_walk h_values s_known s_poses s_links s_reached_31 s_span s_stride s_tip s_distance_31 s_found_31) H locs := hW
                refine lv_aload_n hx hb dX5_spread_46 rfl (lv_at hl 0 rfl) ?_
                refine lv_iload_n hx hb dX5_spread_47 rfl (lv_at hl 2 rfl) ?_
                obtain ⟨o_4, hc_4, hf⟩ := ob_bind hf
                refine q_callI hF hl.1 hK hA hZ hW mv_X5_distanceOf ml_X5_115 (c_X5_distanceOf l D E tx h_ h_span h_stride h_tip h_distance h_found h_changes h_walk h_values s_known s_poses s_links s_reached_31 s_distance_31 v_2 o_4 hc_4) [0, 4] rfl rfl rfl rfl rfl rfl ⟨Nat.le_of_ble_eq_true rfl, Nat.le_of_ble_eq_true rfl⟩ ⟨Nat.le_of_ble_eq_true rfl, Nat.le_of_ble_eq_true rfl⟩ rfl rfl (Nat.le_of_ble_eq_true rfl) dX5_spread_48 (fun H locs hW => ?_)
                have hW : WD D A s (w_X5_spread E h_ h_span h_stride h_tip h_distance h_found h_changes h_walk h_values s_known s_poses s_links s_reached_31 s_span s_stride s_tip s_distance_31 s_found_31) H locs := hW
                refine lv_iconst (v := 1) hx hb dX5_spread_51 (by decide) ?_
                refine lv_iadd hx hb dX5_spread_52 ?_
                obtain ⟨o_5, hc_5, hf⟩ := ob_bind hf
                refine q_callV hF hl.1 hK hA hZ hW mv_X5_reach ml_X5_118 (c_X5_reach l D E tx h_ h_span h_stride h_tip h_distance h_found h_changes h_walk h_values s_known s_poses s_links s_reached_31 s_tip s_distance_31 s_found_31 o_3 (o_4 + 1) o_5.1 o_5.2.1 o_5.2.2 hc_5) [0, 3, 4, 5] rfl rfl rfl rfl rfl rfl ⟨Nat.le_of_ble_eq_true rfl, Nat.le_of_ble_eq_true rfl⟩ ⟨Nat.le_of_ble_eq_true rfl, Nat.le_of_ble_eq_true rfl⟩ rfl rfl (Nat.le_of_ble_eq_true rfl) dX5_spread_53 (fun H locs hW => ?_)
                have hW : WD D A s (w_X5_spread E h_ h_span h_stride h_tip h_distance h_found h_changes h_walk h_values s_known s_poses s_links o_5.1 s_span s_stride s_tip o_5.2.1 o_5.2.2) H locs := hW
                obtain ⟨v_6, ev_6⟩ : ∃ y : Int32, y = z4_31 + 1 := ⟨_, rfl⟩
                replace hf := ob_let hf ev_6
                refine lv_iinc (v := v_6) (lv' := [(4, .int v_6), (0, .ref h_), (2, .int z2_6), (3, .int v_2)]) hx hb dX5_spread_56 hl (k := 3) rfl (by rw [ev_6]; rfl) (by decide) rfl (fun ls hl => ?_)
                refine lv_goto (tgt := 31) hx hb dX5_spread_59 (by decide) ?_
                cases hf
                exact ih o_5.1 o_5.2.1 o_5.2.2 v_6 ex _ _ _ (h9 _ rfl) (lv_sub hl [1, 2, 3, 0] rfl) hW kx0
          obtain ⟨e_7, hc_7, hf⟩ := ob_bind hf
          refine hB31 lfuel s_reached_6 s_distance_6 s_found_6 0 e_7 _ _ _ hc_7 (lv_sub hl [2, 3, 1, 0] rfl) hW ?_
          intro H locs ls hl hW
          obtain ⟨v_8, ev_8⟩ : ∃ y : Int32, y = z2_6 + 1 := ⟨_, rfl⟩
          replace hf := ob_let hf ev_8
          refine lv_iinc (v := v_8) (lv' := [(2, .int v_8), (0, .ref h_)]) hx hb dX5_spread_62 hl (k := 1) rfl (by rw [ev_8]; rfl) (by decide) rfl (fun ls hl => ?_)
          refine lv_goto (tgt := 6) hx hb dX5_spread_65 (by decide) ?_
          cases hf
          exact ih e_7.1 e_7.2.1 e_7.2.2 v_8 ex _ _ _ (h9 _ rfl) (lv_sub hl [1, 0] rfl) hW kx0
  obtain ⟨e_9, hc_9, hf⟩ := ob_bind hf
  refine hB6 lfuel s_reached s_distance s_found v_1 e_9 _ _ _ hc_9 (lv_sub hl [1, 0] rfl) hW ?_
  intro H locs ls hl hW
  cases hf
  exact hret dX5_spread_68 hW
def w_X5_nearer (E : Nat → ClassId) (h_ h_span h_stride h_tip h_distance h_found h_changes h_walk h_values : Nat) (s_known : Int32) (s_poses : Int32) (s_links : Int32) (s_reached : Int32) (s_span : Nat → Int32) (s_stride : Nat → Int32) (s_tip : Nat → Int32) (s_distance : Nat → Int32) : va_W := [(h_, .inr (7, [.int s_known, .int s_poses, .int s_links, .ref h_span, .ref h_stride, .ref h_tip, .ref h_distance, .ref h_found, .int s_reached, .ref h_changes, .ref h_walk, .ref h_values])), (h_span, .inl (E 0, 4, .inl s_span)), (h_stride, .inl (E 0, 4, .inl s_stride)), (h_tip, .inl (E 0, 5000, .inl s_tip)), (h_distance, .inl (E 0, 5000, .inl s_distance))]
set_option maxHeartbeats 4000000 in
set_option maxRecDepth 100000 in
theorem c_X5_nearer (l : Launch) (D : va_G) (E : Nat → ClassId) (tx : List (Nat × String)) (h_ h_span h_stride h_tip h_distance h_found h_changes h_walk h_values : Nat) (s_known : Int32) (s_poses : Int32) (s_links : Int32) (s_reached : Int32) (s_span : Nat → Int32) (s_stride : Nat → Int32) (s_tip : Nat → Int32) (s_distance : Nat → Int32) (x1 : Int32) (x2 : Int32) (r0 : Int32) (hf : f_X5_nearer s_poses s_links s_span s_stride s_tip s_distance x1 x2 = some r0) : CI l yX5_nearer cX5_nearer 4 (some .int) 2 46 D E tx [.ref h_, .int x1, .int x2] (w_X5_nearer E h_ h_span h_stride h_tip h_distance h_found h_changes h_walk h_values s_known s_poses s_links s_reached s_span s_stride s_tip s_distance) (w_X5_nearer E h_ h_span h_stride h_tip h_distance h_found h_changes h_walk h_values s_known s_poses s_links s_reached s_span s_stride s_tip s_distance) r0 := by
  refine CI_of RX5 pn_X5 rfl (Nat.le_of_ble_eq_true rfl) (fun p e s m args below meth c A Q hF hK hA hZ hW hret ls hl => ?_)
  have hx := hF.1
  have hb := hF.2.1
  have hl : lv_has ls 4 [(0, .ref h_), (1, .int x1), (2, .int x2)] := hl
  unfold f_X5_nearer at hf
  refine lv_aload_n hx hb dX5_nearer_0 rfl (lv_at hl 0 rfl) ?_
  refine lv_iload_n hx hb dX5_nearer_1 rfl (lv_at hl 1 rfl) ?_
  refine lv_iload_n hx hb dX5_nearer_2 rfl (lv_at hl 2 rfl) ?_
  obtain ⟨o_1, hc_1, hf⟩ := ob_bind hf
  refine q_callI hF hl.1 hK hA hZ hW mv_X5_after ml_X5_103 (c_X5_after l D E tx h_ h_span h_stride h_tip h_distance h_found h_changes h_walk h_values s_known s_poses s_links s_reached s_span s_stride s_tip x1 x2 o_1 hc_1) [0, 1, 2, 3] rfl rfl rfl rfl rfl rfl ⟨Nat.le_of_ble_eq_true rfl, Nat.le_of_ble_eq_true rfl⟩ ⟨Nat.le_of_ble_eq_true rfl, Nat.le_of_ble_eq_true rfl⟩ rfl rfl (Nat.le_of_ble_eq_true rfl) dX5_nearer_3 (fun H locs hW => ?_)
  have hW : WD D A s (w_X5_nearer E h_ h_span h_stride h_tip h_distance h_found h_changes h_walk h_values s_known s_poses s_links s_reached s_span s_stride s_tip s_distance) H locs := hW
  refine lv_istore_n (lv' := [(3, .int o_1), (0, .ref h_), (1, .int x1), (2, .int x2)]) hx hb dX5_nearer_6 rfl hl (by decide) rfl (fun ls hl => ?_)
  refine lv_iload_n hx hb dX5_nearer_7 rfl (lv_at hl 0 rfl) ?_
  refine q_if_lt (tgt := 30) hx hb dX5_nearer_8 (by decide) hf (fun hf => ?_) (fun hf => ?_)
  · refine lv_iconst (v := (-1)) hx hb dX5_nearer_30 (by decide) ?_
    cases hf
    exact hret dX5_nearer_31 rfl rfl hW
  · refine lv_aload_n hx hb dX5_nearer_11 rfl (lv_at hl 1 rfl) ?_
    refine lv_iload_n hx hb dX5_nearer_12 rfl (lv_at hl 0 rfl) ?_
    obtain ⟨o_2, hc_2, hf⟩ := ob_bind hf
    refine q_callI hF hl.1 hK hA hZ hW mv_X5_distanceOf ml_X5_115 (c_X5_distanceOf l D E tx h_ h_span h_stride h_tip h_distance h_found h_changes h_walk h_values s_known s_poses s_links s_reached s_distance o_1 o_2 hc_2) [0, 4] rfl rfl rfl rfl rfl rfl ⟨Nat.le_of_ble_eq_true rfl, Nat.le_of_ble_eq_true rfl⟩ ⟨Nat.le_of_ble_eq_true rfl, Nat.le_of_ble_eq_true rfl⟩ rfl rfl (Nat.le_of_ble_eq_true rfl) dX5_nearer_13 (fun H locs hW => ?_)
    have hW : WD D A s (w_X5_nearer E h_ h_span h_stride h_tip h_distance h_found h_changes h_walk h_values s_known s_poses s_links s_reached s_span s_stride s_tip s_distance) H locs := hW
    refine lv_aload_n hx hb dX5_nearer_16 rfl (lv_at hl 1 rfl) ?_
    refine lv_iload_n hx hb dX5_nearer_17 rfl (lv_at hl 2 rfl) ?_
    obtain ⟨o_3, hc_3, hf⟩ := ob_bind hf
    refine q_callI hF hl.1 hK hA hZ hW mv_X5_distanceOf ml_X5_115 (c_X5_distanceOf l D E tx h_ h_span h_stride h_tip h_distance h_found h_changes h_walk h_values s_known s_poses s_links s_reached s_distance x1 o_3 hc_3) [0, 4] rfl rfl rfl rfl rfl rfl ⟨Nat.le_of_ble_eq_true rfl, Nat.le_of_ble_eq_true rfl⟩ ⟨Nat.le_of_ble_eq_true rfl, Nat.le_of_ble_eq_true rfl⟩ rfl rfl (Nat.le_of_ble_eq_true rfl) dX5_nearer_18 (fun H locs hW => ?_)
    have hW : WD D A s (w_X5_nearer E h_ h_span h_stride h_tip h_distance h_found h_changes h_walk h_values s_known s_poses s_links s_reached s_span s_stride s_tip s_distance) H locs := hW
    refine lv_iconst (v := 1) hx hb dX5_nearer_21 (by decide) ?_
    refine lv_isub hx hb dX5_nearer_22 ?_
    refine q_icmp_ne (tgt := 30) hx hb dX5_nearer_23 (by decide) hf (fun hf => ?_) (fun hf => ?_)
    · refine lv_iconst (v := (-1)) hx hb dX5_nearer_30 (by decide) ?_
      cases hf
      exact hret dX5_nearer_31 rfl rfl hW
    · refine lv_iload_n hx hb dX5_nearer_26 rfl (lv_at hl 0 rfl) ?_
      refine lv_goto (tgt := 31) hx hb dX5_nearer_27 (by decide) ?_
      cases hf
      exact hret dX5_nearer_31 rfl rfl hW
def w_X5_descend (E : Nat → ClassId) (h_ h_span h_stride h_tip h_distance h_found h_changes h_walk h_values h_p1 h_p1_steps : Nat) (s_known : Int32) (s_poses : Int32) (s_links : Int32) (s_reached : Int32) (s_span : Nat → Int32) (s_stride : Nat → Int32) (s_tip : Nat → Int32) (s_distance : Nat → Int32) (s_p1_planned : Int32) (s_p1_start : Int32) (s_p1_size : Int32) (s_p1_position : Int32) (s_p1_steps : Nat → Int32) : va_W := [(h_, .inr (7, [.int s_known, .int s_poses, .int s_links, .ref h_span, .ref h_stride, .ref h_tip, .ref h_distance, .ref h_found, .int s_reached, .ref h_changes, .ref h_walk, .ref h_values])), (h_span, .inl (E 0, 4, .inl s_span)), (h_stride, .inl (E 0, 4, .inl s_stride)), (h_tip, .inl (E 0, 5000, .inl s_tip)), (h_distance, .inl (E 0, 5000, .inl s_distance)), (h_p1, .inr (5, [.int s_p1_planned, .int s_p1_start, .int s_p1_size, .int s_p1_position, .ref h_p1_steps])), (h_p1_steps, .inl (E 0, 5000, .inl s_p1_steps))]
set_option maxHeartbeats 4000000 in
set_option maxRecDepth 100000 in
theorem c_X5_descend (l : Launch) (D : va_G) (E : Nat → ClassId) (tx : List (Nat × String)) (h_ h_span h_stride h_tip h_distance h_found h_changes h_walk h_values h_p1 h_p1_steps : Nat) (s_known : Int32) (s_poses : Int32) (s_links : Int32) (s_reached : Int32) (s_span : Nat → Int32) (s_stride : Nat → Int32) (s_tip : Nat → Int32) (s_distance : Nat → Int32) (s_p1_planned : Int32) (s_p1_start : Int32) (s_p1_size : Int32) (s_p1_position : Int32) (s_p1_steps : Nat → Int32)  (r0 : Int32) (r1 : Nat → Int32) (hf : f_X5_descend s_poses s_links s_span s_stride s_tip s_distance s_p1_start s_p1_size s_p1_steps = some (r0, r1)) : CV l yX5_descend cX5_descend 5 3 69 D E tx [.ref h_, .ref h_p1] (w_X5_descend E h_ h_span h_stride h_tip h_distance h_found h_changes h_walk h_values h_p1 h_p1_steps s_known s_poses s_links s_reached s_span s_stride s_tip s_distance s_p1_planned s_p1_start s_p1_size s_p1_position s_p1_steps) (w_X5_descend E h_ h_span h_stride h_tip h_distance h_found h_changes h_walk h_values h_p1 h_p1_steps s_known s_poses s_links s_reached s_span s_stride s_tip s_distance s_p1_planned s_p1_start r0 s_p1_position r1) := by
  refine CV_of RX5 pn_X5 rfl (Nat.le_of_ble_eq_true rfl) (fun p e s m args below meth c A Q hF hK hA hZ hW hret ls hl => ?_)
  have hx := hF.1
  have hb := hF.2.1
  have hl : lv_has ls 5 [(0, .ref h_), (1, .ref h_p1)] := hl
  unfold f_X5_descend at hf
  refine lv_aload_n hx hb dX5_descend_0 rfl (lv_at hl 1 rfl) ?_
  refine q_get hF hK hW fl_X5_122 5 rfl rfl dX5_descend_1 ?_
  refine lv_istore_n (lv' := [(2, .int s_p1_start), (0, .ref h_), (1, .ref h_p1)]) hx hb dX5_descend_4 rfl hl (by decide) rfl (fun ls hl => ?_)
  refine lv_aload_n hx hb dX5_descend_5 rfl (lv_at hl 1 rfl) ?_
  refine lv_iload_n hx hb dX5_descend_6 rfl (lv_at hl 0 rfl) ?_
  obtain ⟨o_1, hc_1, hf⟩ := ob_bind hf
  refine q_callI hF hl.1 hK hA hZ hW mv_X5_distanceOf ml_X5_115 (c_X5_distanceOf l D E tx h_ h_span h_stride h_tip h_distance h_found h_changes h_walk h_values s_known s_poses s_links s_reached s_distance s_p1_start o_1 hc_1) [0, 4] rfl rfl rfl rfl rfl rfl ⟨Nat.le_of_ble_eq_true rfl, Nat.le_of_ble_eq_true rfl⟩ ⟨Nat.le_of_ble_eq_true rfl, Nat.le_of_ble_eq_true rfl⟩ rfl rfl (Nat.le_of_ble_eq_true rfl) dX5_descend_7 (fun H locs hW => ?_)
  have hW : WD D A s (w_X5_descend E h_ h_span h_stride h_tip h_distance h_found h_changes h_walk h_values h_p1 h_p1_steps s_known s_poses s_links s_reached s_span s_stride s_tip s_distance s_p1_planned s_p1_start s_p1_size s_p1_position s_p1_steps) H locs := hW
  refine lv_istore_n (lv' := [(3, .int o_1), (2, .int s_p1_start), (0, .ref h_), (1, .ref h_p1)]) hx hb dX5_descend_10 rfl hl (by decide) rfl (fun ls hl => ?_)
  have hB11 : ∀ (n : Nat) (s_p1_size_11 : Int32) (s_p1_steps_11 : Nat → Int32) (z2_11 : Int32) (z3_11 : Int32) (ex : Int32 × (Nat → Int32)) (H : Heap) (locs : List Loc) (ls : Array Slot), LPF (fun z => f_X5_descend_B11 s_poses s_links s_span s_stride s_tip s_distance s_p1_start z.1 z.2.1 z.2.2.1 z.2.2.2) n (s_p1_size_11, s_p1_steps_11, z2_11, z3_11) = some ex → lv_has ls 5 [(0, .ref h_), (1, .ref h_p1), (2, .int z2_11), (3, .int z3_11)] → WD D A s (w_X5_descend E h_ h_span h_stride h_tip h_distance h_found h_changes h_walk h_values h_p1 h_p1_steps s_known s_poses s_links s_reached s_span s_stride s_tip s_distance s_p1_planned s_p1_start s_p1_size_11 s_p1_position s_p1_steps_11) H locs → (∀ (H : Heap) (locs : List Loc) (ls : Array Slot), lv_has ls 5 [] → WD D A s (w_X5_descend E h_ h_span h_stride h_tip h_distance h_found h_changes h_walk h_values h_p1 h_p1_steps s_known s_poses s_links s_reached s_span s_stride s_tip s_distance s_p1_planned s_p1_start ex.1 s_p1_position ex.2) H locs → W p l e (RM 3 69) s m args below meth c H locs 0 0 Q (F0 m 61 ls [])) → W p l e (RM 3 69) s m args below meth c H locs 0 0 Q (F0 m 11 ls []) := by
    intro n
    induction n with
    | zero => intro s_p1_size_11 s_p1_steps_11 z2_11 z3_11 ex H locs ls h9; exact (ob_lp0 h9).elim
    | succ n ih =>
      intro s_p1_size_11 s_p1_steps_11 z2_11 z3_11 ex H locs ls h9 hl hW kx0
      obtain ⟨q9, hf, h9, k9⟩ := ob_lp h9
      have hf : f_X5_descend_B11 s_poses s_links s_span s_stride s_tip s_distance s_p1_start s_p1_size_11 s_p1_steps_11 z2_11 z3_11 = some q9 := hf
      unfold f_X5_descend_B11 at hf
      refine lv_iload_n hx hb dX5_descend_11 rfl (lv_at hl 3 rfl) ?_
      refine q_if_le (tgt := 61) hx hb dX5_descend_12 (by decide) hf (fun hf => ?_) (fun hf => ?_)
      · cases hf
        have hx9 := k9 _ rfl
        subst hx9
        exact kx0 _ _ _ (lv_sub hl [] rfl) hW
      · refine lv_iconst (v := 0) hx hb dX5_descend_15 (by decide) ?_
        refine lv_istore (lv' := [(4, .int 0), (0, .ref h_), (1, .ref h_p1), (2, .int z2_11), (3, .int z3_11)]) hx hb dX5_descend_16 hl (by decide) rfl (fun ls hl => ?_)
        have hB18 : ∀ (n : Nat) (z4_18 : Int32) (ex : Int32) (H : Heap) (locs : List Loc) (ls : Array Slot), LPF (fun z => f_X5_descend_B18 s_poses s_links s_span s_stride s_tip s_distance s_p1_start s_p1_size_11 s_p1_steps_11 z2_11 z3_11 z) n z4_18 = some ex → lv_has ls 5 [(0, .ref h_), (1, .ref h_p1), (2, .int z2_11), (3, .int z3_11), (4, .int z4_18)] → WD D A s (w_X5_descend E h_ h_span h_stride h_tip h_distance h_found h_changes h_walk h_values h_p1 h_p1_steps s_known s_poses s_links s_reached s_span s_stride s_tip s_distance s_p1_planned s_p1_start s_p1_size_11 s_p1_position s_p1_steps_11) H locs → (∀ (H : Heap) (locs : List Loc) (ls : Array Slot), lv_has ls 5 [(0, .ref h_), (1, .ref h_p1), (2, .int z2_11), (3, .int z3_11), (4, .int ex)] → WD D A s (w_X5_descend E h_ h_span h_stride h_tip h_distance h_found h_changes h_walk h_values h_p1 h_p1_steps s_known s_poses s_links s_reached s_span s_stride s_tip s_distance s_p1_planned s_p1_start s_p1_size_11 s_p1_position s_p1_steps_11) H locs → W p l e (RM 3 69) s m args below meth c H locs 0 0 Q (F0 m 41 ls [])) → W p l e (RM 3 69) s m args below meth c H locs 0 0 Q (F0 m 18 ls []) := by
          intro n
          induction n with
          | zero => intro z4_18 ex H locs ls h9; exact (ob_lp0 h9).elim
          | succ n ih =>
            intro z4_18 ex H locs ls h9 hl hW kx0
            obtain ⟨q9, hf, h9, k9⟩ := ob_lp h9
            have hf : f_X5_descend_B18 s_poses s_links s_span s_stride s_tip s_distance s_p1_start s_p1_size_11 s_p1_steps_11 z2_11 z3_11 z4_18 = some q9 := hf
            unfold f_X5_descend_B18 at hf
            refine lv_iload hx hb dX5_descend_18 (lv_at hl 4 rfl) ?_
            refine lv_bipush (v := 7) hx hb dX5_descend_20 (by decide) ?_
            refine q_icmp_ge (tgt := 41) hx hb dX5_descend_22 (by decide) hf (fun hf => ?_) (fun hf => ?_)
            · cases hf
              have hx9 := k9 _ rfl
              subst hx9
              exact kx0 _ _ _ (lv_sub hl [0, 1, 2, 3, 4] rfl) hW
            · refine lv_aload_n hx hb dX5_descend_25 rfl (lv_at hl 0 rfl) ?_
              refine lv_iload_n hx hb dX5_descend_26 rfl (lv_at hl 2 rfl) ?_
              refine lv_iload hx hb dX5_descend_27 (lv_at hl 4 rfl) ?_
              obtain ⟨o_2, hc_2, hf⟩ := ob_bind hf
              refine q_callI hF hl.1 hK hA hZ hW mv_X5_nearer ml_X5_127 (c_X5_nearer l D E tx h_ h_span h_stride h_tip h_distance h_found h_changes h_walk h_values s_known s_poses s_links s_reached s_span s_stride s_tip s_distance z2_11 z4_18 o_2 hc_2) [0, 1, 2, 3, 4] rfl rfl rfl rfl rfl rfl ⟨Nat.le_of_ble_eq_true rfl, Nat.le_of_ble_eq_true rfl⟩ ⟨Nat.le_of_ble_eq_true rfl, Nat.le_of_ble_eq_true rfl⟩ rfl rfl (Nat.le_of_ble_eq_true rfl) dX5_descend_29 (fun H locs hW => ?_)
              have hW : WD D A s (w_X5_descend E h_ h_span h_stride h_tip h_distance h_found h_changes h_walk h_values h_p1 h_p1_steps s_known s_poses s_links s_reached s_span s_stride s_tip s_distance s_p1_planned s_p1_start s_p1_size_11 s_p1_position s_p1_steps_11) H locs := hW
              refine q_if_ge (tgt := 41) hx hb dX5_descend_32 (by decide) hf (fun hf => ?_) (fun hf => ?_)
              · cases hf
                have hx9 := k9 _ rfl
                subst hx9
                exact kx0 _ _ _ (lv_sub hl [0, 1, 2, 3, 4] rfl) hW
              · obtain ⟨v_3, ev_3⟩ : ∃ y : Int32, y = z4_18 + 1 := ⟨_, rfl⟩
                replace hf := ob_let hf ev_3
                refine lv_iinc (v := v_3) (lv' := [(4, .int v_3), (0, .ref h_), (1, .ref h_p1), (2, .int z2_11), (3, .int z3_11)]) hx hb dX5_descend_35 hl (k := 4) rfl (by rw [ev_3]; rfl) (by decide) rfl (fun ls hl => ?_)
                refine lv_goto (tgt := 18) hx hb dX5_descend_38 (by decide) ?_
                cases hf
                exact ih v_3 ex _ _ _ (h9 _ rfl) (lv_sub hl [1, 2, 3, 4, 0] rfl) hW kx0
        obtain ⟨e_4, hc_4, hf⟩ := ob_bind hf
        refine hB18 lfuel 0 e_4 _ _ _ hc_4 (lv_sub hl [1, 2, 3, 4, 0] rfl) hW ?_
        intro H locs ls hl hW
        refine lv_aload_n hx hb dX5_descend_41 rfl (lv_at hl 1 rfl) ?_
        refine lv_iload hx hb dX5_descend_42 (lv_at hl 4 rfl) ?_
        obtain ⟨o_5, hc_5, hf⟩ := ob_bind hf
        refine q_callV hF hl.1 hK hA hZ hW mv_X3_add ml_X5_130 (c_X3_add l D E tx h_p1 h_p1_steps s_p1_planned s_p1_start s_p1_size_11 s_p1_position s_p1_steps_11 e_4 o_5.1 o_5.2 hc_5) [5, 6] rfl rfl rfl rfl rfl rfl ⟨Nat.le_of_ble_eq_true rfl, Nat.le_of_ble_eq_true rfl⟩ ⟨Nat.le_of_ble_eq_true rfl, Nat.le_of_ble_eq_true rfl⟩ rfl rfl (Nat.le_of_ble_eq_true rfl) dX5_descend_44 (fun H locs hW => ?_)
        have hW : WD D A s (w_X5_descend E h_ h_span h_stride h_tip h_distance h_found h_changes h_walk h_values h_p1 h_p1_steps s_known s_poses s_links s_reached s_span s_stride s_tip s_distance s_p1_planned s_p1_start o_5.1 s_p1_position o_5.2) H locs := hW
        refine lv_aload_n hx hb dX5_descend_47 rfl (lv_at hl 0 rfl) ?_
        refine lv_iload_n hx hb dX5_descend_48 rfl (lv_at hl 2 rfl) ?_
        refine lv_iload hx hb dX5_descend_49 (lv_at hl 4 rfl) ?_
        obtain ⟨o_6, hc_6, hf⟩ := ob_bind hf
        refine q_callI hF hl.1 hK hA hZ hW mv_X5_nearer ml_X5_127 (c_X5_nearer l D E tx h_ h_span h_stride h_tip h_distance h_found h_changes h_walk h_values s_known s_poses s_links s_reached s_span s_stride s_tip s_distance z2_11 e_4 o_6 hc_6) [0, 1, 2, 3, 4] rfl rfl rfl rfl rfl rfl ⟨Nat.le_of_ble_eq_true rfl, Nat.le_of_ble_eq_true rfl⟩ ⟨Nat.le_of_ble_eq_true rfl, Nat.le_of_ble_eq_true rfl⟩ rfl rfl (Nat.le_of_ble_eq_true rfl) dX5_descend_51 (fun H locs hW => ?_)
        have hW : WD D A s (w_X5_descend E h_ h_span h_stride h_tip h_distance h_found h_changes h_walk h_values h_p1 h_p1_steps s_known s_poses s_links s_reached s_span s_stride s_tip s_distance s_p1_planned s_p1_start o_5.1 s_p1_position o_5.2) H locs := hW
        refine lv_istore_n (lv' := [(2, .int o_6), (0, .ref h_), (1, .ref h_p1), (3, .int z3_11), (4, .int e_4)]) hx hb dX5_descend_54 rfl hl (by decide) rfl (fun ls hl => ?_)
        obtain ⟨v_7, ev_7⟩ : ∃ y : Int32, y = z3_11 + (-1) := ⟨_, rfl⟩
        replace hf := ob_let hf ev_7
        refine lv_iinc (v := v_7) (lv' := [(3, .int v_7), (2, .int o_6), (0, .ref h_), (1, .ref h_p1), (4, .int e_4)]) hx hb dX5_descend_55 hl (k := 3) rfl (by rw [ev_7]; rfl) (by decide) rfl (fun ls hl => ?_)
        refine lv_goto (tgt := 11) hx hb dX5_descend_58 (by decide) ?_
        cases hf
        exact ih o_5.1 o_5.2 o_6 v_7 ex _ _ _ (h9 _ rfl) (lv_sub hl [2, 3, 1, 0] rfl) hW kx0
  obtain ⟨e_8, hc_8, hf⟩ := ob_bind hf
  refine hB11 lfuel s_p1_size s_p1_steps s_p1_start o_1 e_8 _ _ _ hc_8 (lv_sub hl [2, 3, 1, 0] rfl) hW ?_
  intro H locs ls hl hW
  cases hf
  exact hret dX5_descend_61 hW
def w_X5_weightBehind (E : Nat → ClassId) (h_ h_span h_stride h_tip h_distance h_found h_changes h_walk h_values : Nat) (s_known : Int32) (s_poses : Int32) (s_links : Int32) (s_reached : Int32) (s_changes : Nat → Int32) : va_W := [(h_, .inr (7, [.int s_known, .int s_poses, .int s_links, .ref h_span, .ref h_stride, .ref h_tip, .ref h_distance, .ref h_found, .int s_reached, .ref h_changes, .ref h_walk, .ref h_values])), (h_changes, .inl (E 0, 40000, .inl s_changes))]
set_option maxHeartbeats 4000000 in
set_option maxRecDepth 100000 in
theorem c_X5_weightBehind (l : Launch) (D : va_G) (E : Nat → ClassId) (tx : List (Nat × String)) (h_ h_span h_stride h_tip h_distance h_found h_changes h_walk h_values : Nat) (s_known : Int32) (s_poses : Int32) (s_links : Int32) (s_reached : Int32) (s_changes : Nat → Int32) (x1 : Int32) (x2 : Int32) (x3 : Int32) (r0 : Int32) (hf : f_X5_weightBehind s_poses s_changes x1 x2 x3 = some r0) : CI l yX5_weightBehind cX5_weightBehind 4 (some .int) 1 21 D E tx [.ref h_, .int x1, .int x2, .int x3] (w_X5_weightBehind E h_ h_span h_stride h_tip h_distance h_found h_changes h_walk h_values s_known s_poses s_links s_reached s_changes) (w_X5_weightBehind E h_ h_span h_stride h_tip h_distance h_found h_changes h_walk h_values s_known s_poses s_links s_reached s_changes) r0 := by
  refine CI_of RX5 pn_X5 rfl (Nat.le_of_ble_eq_true rfl) (fun p e s m args below meth c A Q hF hK hA hZ hW hret ls hl => ?_)
  have hx := hF.1
  have hb := hF.2.1
  have hl : lv_has ls 4 [(0, .ref h_), (1, .int x1), (2, .int x2), (3, .int x3)] := hl
  unfold f_X5_weightBehind at hf
  refine lv_aload_n hx hb dX5_weightBehind_0 rfl (lv_at hl 0 rfl) ?_
  refine lv_iload_n hx hb dX5_weightBehind_1 rfl (lv_at hl 1 rfl) ?_
  obtain ⟨o_1, hc_1, hf⟩ := ob_bind hf
  refine q_callI hF hl.1 hK hA hZ hW mv_X5_isPose ml_X5_90 (c_X5_isPose l D E tx h_ h_span h_stride h_tip h_distance h_found h_changes h_walk h_values s_known s_poses s_links s_reached x1 o_1 hc_1) [0] rfl rfl rfl rfl rfl rfl ⟨Nat.le_of_ble_eq_true rfl, Nat.le_of_ble_eq_true rfl⟩ ⟨Nat.le_of_ble_eq_true rfl, Nat.le_of_ble_eq_true rfl⟩ rfl rfl (Nat.le_of_ble_eq_true rfl) dX5_weightBehind_2 (fun H locs hW => ?_)
  have hW : WD D A s (w_X5_weightBehind E h_ h_span h_stride h_tip h_distance h_found h_changes h_walk h_values s_known s_poses s_links s_reached s_changes) H locs := hW
  refine q_if_eq (tgt := 18) hx hb dX5_weightBehind_5 (by decide) hf (fun hf => ?_) (fun hf => ?_)
  · refine lv_ldc (v := 1000000) hx hb hF.2.2.2.1 (hF.2.2.2.2 _ lc_X5_137) dX5_weightBehind_18 ?_
    cases hf
    exact hret dX5_weightBehind_20 rfl rfl hW
  · refine lv_iload_n hx hb dX5_weightBehind_8 rfl (lv_at hl 2 rfl) ?_
    refine q_if_lt (tgt := 18) hx hb dX5_weightBehind_9 (by decide) hf (fun hf => ?_) (fun hf => ?_)
    · refine lv_ldc (v := 1000000) hx hb hF.2.2.2.1 (hF.2.2.2.2 _ lc_X5_137) dX5_weightBehind_18 ?_
      cases hf
      exact hret dX5_weightBehind_20 rfl rfl hW
    · refine lv_iload_n hx hb dX5_weightBehind_12 rfl (lv_at hl 2 rfl) ?_
      refine lv_bipush (v := 8) hx hb dX5_weightBehind_13 (by decide) ?_
      refine q_icmp_lt (tgt := 21) hx hb dX5_weightBehind_15 (by decide) hf (fun hf => ?_) (fun hf => ?_)
      · refine lv_aload_n hx hb dX5_weightBehind_21 rfl (lv_at hl 0 rfl) ?_
        refine q_get hF hK hW fl_X5_42 0 rfl rfl dX5_weightBehind_22 ?_
        refine lv_iload_n hx hb dX5_weightBehind_25 rfl (lv_at hl 1 rfl) ?_
        refine lv_bipush (v := 8) hx hb dX5_weightBehind_26 (by decide) ?_
        refine lv_imul hx hb dX5_weightBehind_28 ?_
        refine lv_iload_n hx hb dX5_weightBehind_29 rfl (lv_at hl 2 rfl) ?_
        refine lv_iadd hx hb dX5_weightBehind_30 ?_
        refine q_iald hx hb hK hW 1 0 rfl rfl dX5_weightBehind_31 hf (fun hf => ?_)
        refine lv_iload_n hx hb dX5_weightBehind_32 rfl (lv_at hl 2 rfl) ?_
        refine lv_iload_n hx hb dX5_weightBehind_33 rfl (lv_at hl 3 rfl) ?_
        refine q_icmp_ne (tgt := 41) hx hb dX5_weightBehind_34 (by decide) hf (fun hf => ?_) (fun hf => ?_)
        · refine lv_iconst (v := 1) hx hb dX5_weightBehind_41 (by decide) ?_
          refine lv_iadd hx hb dX5_weightBehind_42 ?_
          cases hf
          exact hret dX5_weightBehind_43 rfl rfl hW
        · refine lv_iconst (v := 0) hx hb dX5_weightBehind_37 (by decide) ?_
          refine lv_goto (tgt := 42) hx hb dX5_weightBehind_38 (by decide) ?_
          refine lv_iadd hx hb dX5_weightBehind_42 ?_
          cases hf
          exact hret dX5_weightBehind_43 rfl rfl hW
      · refine lv_ldc (v := 1000000) hx hb hF.2.2.2.1 (hF.2.2.2.2 _ lc_X5_137) dX5_weightBehind_18 ?_
        cases hf
        exact hret dX5_weightBehind_20 rfl rfl hW
def w_X5_smoothest (E : Nat → ClassId) (h_ h_span h_stride h_tip h_distance h_found h_changes h_walk h_values : Nat) (s_known : Int32) (s_poses : Int32) (s_links : Int32) (s_reached : Int32) (s_changes : Nat → Int32) : va_W := [(h_, .inr (7, [.int s_known, .int s_poses, .int s_links, .ref h_span, .ref h_stride, .ref h_tip, .ref h_distance, .ref h_found, .int s_reached, .ref h_changes, .ref h_walk, .ref h_values])), (h_changes, .inl (E 0, 40000, .inl s_changes))]
set_option maxHeartbeats 4000000 in
set_option maxRecDepth 100000 in
theorem c_X5_smoothest (l : Launch) (D : va_G) (E : Nat → ClassId) (tx : List (Nat × String)) (h_ h_span h_stride h_tip h_distance h_found h_changes h_walk h_values : Nat) (s_known : Int32) (s_poses : Int32) (s_links : Int32) (s_reached : Int32) (s_changes : Nat → Int32) (x1 : Int32) (x2 : Int32) (r0 : Int32) (hf : f_X5_smoothest s_poses s_changes x1 x2 = some r0) : CI l yX5_smoothest cX5_smoothest 5 (some .int) 2 44 D E tx [.ref h_, .int x1, .int x2] (w_X5_smoothest E h_ h_span h_stride h_tip h_distance h_found h_changes h_walk h_values s_known s_poses s_links s_reached s_changes) (w_X5_smoothest E h_ h_span h_stride h_tip h_distance h_found h_changes h_walk h_values s_known s_poses s_links s_reached s_changes) r0 := by
  refine CI_of RX5 pn_X5 rfl (Nat.le_of_ble_eq_true rfl) (fun p e s m args below meth c A Q hF hK hA hZ hW hret ls hl => ?_)
  have hx := hF.1
  have hb := hF.2.1
  have hl : lv_has ls 5 [(0, .ref h_), (1, .int x1), (2, .int x2)] := hl
  unfold f_X5_smoothest at hf
  refine lv_iconst (v := 0) hx hb dX5_smoothest_0 (by decide) ?_
  refine lv_istore_n (lv' := [(3, .int 0), (0, .ref h_), (1, .int x1), (2, .int x2)]) hx hb dX5_smoothest_1 rfl hl (by decide) rfl (fun ls hl => ?_)
  refine lv_iconst (v := 1) hx hb dX5_smoothest_2 (by decide) ?_
  refine lv_istore (lv' := [(4, .int 1), (3, .int 0), (0, .ref h_), (1, .int x1), (2, .int x2)]) hx hb dX5_smoothest_3 hl (by decide) rfl (fun ls hl => ?_)
  have hB5 : ∀ (n : Nat) (z3_5 : Int32) (z4_5 : Int32) (ex : Int32) (H : Heap) (locs : List Loc) (ls : Array Slot), LPF (fun z => f_X5_smoothest_B5 s_poses s_changes x1 x2 z.1 z.2) n (z3_5, z4_5) = some ex → lv_has ls 5 [(0, .ref h_), (1, .int x1), (2, .int x2), (3, .int z3_5), (4, .int z4_5)] → WD D A s (w_X5_smoothest E h_ h_span h_stride h_tip h_distance h_found h_changes h_walk h_values s_known s_poses s_links s_reached s_changes) H locs → (∀ (H : Heap) (locs : List Loc) (ls : Array Slot), lv_has ls 5 [(3, .int ex)] → WD D A s (w_X5_smoothest E h_ h_span h_stride h_tip h_distance h_found h_changes h_walk h_values s_known s_poses s_links s_reached s_changes) H locs → W p l e (RM 2 44) s m args below meth c H locs 0 0 Q (F0 m 39 ls [])) → W p l e (RM 2 44) s m args below meth c H locs 0 0 Q (F0 m 5 ls []) := by
    intro n
    induction n with
    | zero => intro z3_5 z4_5 ex H locs ls h9; exact (ob_lp0 h9).elim
    | succ n ih =>
      intro z3_5 z4_5 ex H locs ls h9 hl hW kx0
      obtain ⟨q9, hf, h9, k9⟩ := ob_lp h9
      have hf : f_X5_smoothest_B5 s_poses s_changes x1 x2 z3_5 z4_5 = some q9 := hf
      unfold f_X5_smoothest_B5 at hf
      refine lv_iload hx hb dX5_smoothest_5 (lv_at hl 4 rfl) ?_
      refine lv_bipush (v := 8) hx hb dX5_smoothest_7 (by decide) ?_
      refine q_icmp_ge (tgt := 39) hx hb dX5_smoothest_9 (by decide) hf (fun hf => ?_) (fun hf => ?_)
      · cases hf
        have hx9 := k9 _ rfl
        subst hx9
        exact kx0 _ _ _ (lv_sub hl [3] rfl) hW
      · refine lv_aload_n hx hb dX5_smoothest_12 rfl (lv_at hl 0 rfl) ?_
        refine lv_iload_n hx hb dX5_smoothest_13 rfl (lv_at hl 1 rfl) ?_
        refine lv_iload hx hb dX5_smoothest_14 (lv_at hl 4 rfl) ?_
        refine lv_iload_n hx hb dX5_smoothest_16 rfl (lv_at hl 2 rfl) ?_
        obtain ⟨o_1, hc_1, hf⟩ := ob_bind hf
        refine q_callI hF hl.1 hK hA hZ hW mv_X5_weightBehind ml_X5_141 (c_X5_weightBehind l D E tx h_ h_span h_stride h_tip h_distance h_found h_changes h_walk h_values s_known s_poses s_links s_reached s_changes x1 z4_5 x2 o_1 hc_1) [0, 1] rfl rfl rfl rfl rfl rfl ⟨Nat.le_of_ble_eq_true rfl, Nat.le_of_ble_eq_true rfl⟩ ⟨Nat.le_of_ble_eq_true rfl, Nat.le_of_ble_eq_true rfl⟩ rfl rfl (Nat.le_of_ble_eq_true rfl) dX5_smoothest_17 (fun H locs hW => ?_)
        have hW : WD D A s (w_X5_smoothest E h_ h_span h_stride h_tip h_distance h_found h_changes h_walk h_values s_known s_poses s_links s_reached s_changes) H locs := hW
        refine lv_aload_n hx hb dX5_smoothest_20 rfl (lv_at hl 0 rfl) ?_
        refine lv_iload_n hx hb dX5_smoothest_21 rfl (lv_at hl 1 rfl) ?_
        refine lv_iload_n hx hb dX5_smoothest_22 rfl (lv_at hl 3 rfl) ?_
        refine lv_iload_n hx hb dX5_smoothest_23 rfl (lv_at hl 2 rfl) ?_
        obtain ⟨o_2, hc_2, hf⟩ := ob_bind hf
        refine q_callI hF hl.1 hK hA hZ hW mv_X5_weightBehind ml_X5_141 (c_X5_weightBehind l D E tx h_ h_span h_stride h_tip h_distance h_found h_changes h_walk h_values s_known s_poses s_links s_reached s_changes x1 z3_5 x2 o_2 hc_2) [0, 1] rfl rfl rfl rfl rfl rfl ⟨Nat.le_of_ble_eq_true rfl, Nat.le_of_ble_eq_true rfl⟩ ⟨Nat.le_of_ble_eq_true rfl, Nat.le_of_ble_eq_true rfl⟩ rfl rfl (Nat.le_of_ble_eq_true rfl) dX5_smoothest_24 (fun H locs hW => ?_)
        have hW : WD D A s (w_X5_smoothest E h_ h_span h_stride h_tip h_distance h_found h_changes h_walk h_values s_known s_poses s_links s_reached s_changes) H locs := hW
        refine q_icmp_ge (tgt := 33) hx hb dX5_smoothest_27 (by decide) hf (fun hf => ?_) (fun hf => ?_)
        · obtain ⟨v_3, ev_3⟩ : ∃ y : Int32, y = z4_5 + 1 := ⟨_, rfl⟩
          replace hf := ob_let hf ev_3
          refine lv_iinc (v := v_3) (lv' := [(4, .int v_3), (0, .ref h_), (1, .int x1), (2, .int x2), (3, .int z3_5)]) hx hb dX5_smoothest_33 hl (k := 4) rfl (by rw [ev_3]; rfl) (by decide) rfl (fun ls hl => ?_)
          refine lv_goto (tgt := 5) hx hb dX5_smoothest_36 (by decide) ?_
          cases hf
          exact ih z3_5 v_3 ex _ _ _ (h9 _ rfl) (lv_sub hl [1, 2, 3, 4, 0] rfl) hW kx0
        · refine lv_iload hx hb dX5_smoothest_30 (lv_at hl 4 rfl) ?_
          refine lv_istore_n (lv' := [(3, .int z4_5), (0, .ref h_), (1, .int x1), (2, .int x2), (4, .int z4_5)]) hx hb dX5_smoothest_32 rfl hl (by decide) rfl (fun ls hl => ?_)
          obtain ⟨v_4, ev_4⟩ : ∃ y : Int32, y = z4_5 + 1 := ⟨_, rfl⟩
          replace hf := ob_let hf ev_4
          refine lv_iinc (v := v_4) (lv' := [(4, .int v_4), (3, .int z4_5), (0, .ref h_), (1, .int x1), (2, .int x2)]) hx hb dX5_smoothest_33 hl (k := 4) rfl (by rw [ev_4]; rfl) (by decide) rfl (fun ls hl => ?_)
          refine lv_goto (tgt := 5) hx hb dX5_smoothest_36 (by decide) ?_
          cases hf
          exact ih z4_5 v_4 ex _ _ _ (h9 _ rfl) (lv_sub hl [2, 3, 4, 1, 0] rfl) hW kx0
  obtain ⟨e_5, hc_5, hf⟩ := ob_bind hf
  refine hB5 lfuel 0 1 e_5 _ _ _ hc_5 (lv_sub hl [2, 3, 4, 1, 0] rfl) hW ?_
  intro H locs ls hl hW
  refine lv_iload_n hx hb dX5_smoothest_39 rfl (lv_at hl 0 rfl) ?_
  cases hf
  exact hret dX5_smoothest_40 rfl rfl hW
def w_X5_weight (E : Nat → ClassId) (h_ h_span h_stride h_tip h_distance h_found h_changes h_walk h_values : Nat) (s_known : Int32) (s_poses : Int32) (s_links : Int32) (s_reached : Int32) (s_span : Nat → Int32) (s_stride : Nat → Int32) (s_tip : Nat → Int32) (s_distance : Nat → Int32) (s_changes : Nat → Int32) : va_W := [(h_, .inr (7, [.int s_known, .int s_poses, .int s_links, .ref h_span, .ref h_stride, .ref h_tip, .ref h_distance, .ref h_found, .int s_reached, .ref h_changes, .ref h_walk, .ref h_values])), (h_span, .inl (E 0, 4, .inl s_span)), (h_stride, .inl (E 0, 4, .inl s_stride)), (h_tip, .inl (E 0, 5000, .inl s_tip)), (h_distance, .inl (E 0, 5000, .inl s_distance)), (h_changes, .inl (E 0, 40000, .inl s_changes))]
set_option maxHeartbeats 4000000 in
set_option maxRecDepth 100000 in
theorem c_X5_weight (l : Launch) (D : va_G) (E : Nat → ClassId) (tx : List (Nat × String)) (h_ h_span h_stride h_tip h_distance h_found h_changes h_walk h_values : Nat) (s_known : Int32) (s_poses : Int32) (s_links : Int32) (s_reached : Int32) (s_span : Nat → Int32) (s_stride : Nat → Int32) (s_tip : Nat → Int32) (s_distance : Nat → Int32) (s_changes : Nat → Int32) (x1 : Int32) (x2 : Int32) (r0 : Int32) (hf : f_X5_weight s_poses s_links s_span s_stride s_tip s_distance s_changes x1 x2 = some r0) : CI l yX5_weight cX5_weight 4 (some .int) 3 69 D E tx [.ref h_, .int x1, .int x2] (w_X5_weight E h_ h_span h_stride h_tip h_distance h_found h_changes h_walk h_values s_known s_poses s_links s_reached s_span s_stride s_tip s_distance s_changes) (w_X5_weight E h_ h_span h_stride h_tip h_distance h_found h_changes h_walk h_values s_known s_poses s_links s_reached s_span s_stride s_tip s_distance s_changes) r0 := by
  refine CI_of RX5 pn_X5 rfl (Nat.le_of_ble_eq_true rfl) (fun p e s m args below meth c A Q hF hK hA hZ hW hret ls hl => ?_)
  have hx := hF.1
  have hb := hF.2.1
  have hl : lv_has ls 4 [(0, .ref h_), (1, .int x1), (2, .int x2)] := hl
  unfold f_X5_weight at hf
  refine lv_aload_n hx hb dX5_weight_0 rfl (lv_at hl 0 rfl) ?_
  refine lv_iload_n hx hb dX5_weight_1 rfl (lv_at hl 1 rfl) ?_
  refine lv_iload_n hx hb dX5_weight_2 rfl (lv_at hl 2 rfl) ?_
  obtain ⟨o_1, hc_1, hf⟩ := ob_bind hf
  refine q_callI hF hl.1 hK hA hZ hW mv_X5_nearer ml_X5_127 (c_X5_nearer l D E tx h_ h_span h_stride h_tip h_distance h_found h_changes h_walk h_values s_known s_poses s_links s_reached s_span s_stride s_tip s_distance x1 x2 o_1 hc_1) [0, 1, 2, 3, 4] rfl rfl rfl rfl rfl rfl ⟨Nat.le_of_ble_eq_true rfl, Nat.le_of_ble_eq_true rfl⟩ ⟨Nat.le_of_ble_eq_true rfl, Nat.le_of_ble_eq_true rfl⟩ rfl rfl (Nat.le_of_ble_eq_true rfl) dX5_weight_3 (fun H locs hW => ?_)
  have hW : WD D A s (w_X5_weight E h_ h_span h_stride h_tip h_distance h_found h_changes h_walk h_values s_known s_poses s_links s_reached s_span s_stride s_tip s_distance s_changes) H locs := hW
  refine lv_istore_n (lv' := [(3, .int o_1), (0, .ref h_), (1, .int x1), (2, .int x2)]) hx hb dX5_weight_6 rfl hl (by decide) rfl (fun ls hl => ?_)
  refine lv_iload_n hx hb dX5_weight_7 rfl (lv_at hl 0 rfl) ?_
  refine q_if_ge (tgt := 14) hx hb dX5_weight_8 (by decide) hf (fun hf => ?_) (fun hf => ?_)
  · refine lv_aload_n hx hb dX5_weight_14 rfl (lv_at hl 1 rfl) ?_
    refine lv_iload_n hx hb dX5_weight_15 rfl (lv_at hl 0 rfl) ?_
    obtain ⟨o_2, hc_2, hf⟩ := ob_bind hf
    refine q_callI hF hl.1 hK hA hZ hW mv_X5_distanceOf ml_X5_115 (c_X5_distanceOf l D E tx h_ h_span h_stride h_tip h_distance h_found h_changes h_walk h_values s_known s_poses s_links s_reached s_distance o_1 o_2 hc_2) [0, 4] rfl rfl rfl rfl rfl rfl ⟨Nat.le_of_ble_eq_true rfl, Nat.le_of_ble_eq_true rfl⟩ ⟨Nat.le_of_ble_eq_true rfl, Nat.le_of_ble_eq_true rfl⟩ rfl rfl (Nat.le_of_ble_eq_true rfl) dX5_weight_16 (fun H locs hW => ?_)
    have hW : WD D A s (w_X5_weight E h_ h_span h_stride h_tip h_distance h_found h_changes h_walk h_values s_known s_poses s_links s_reached s_span s_stride s_tip s_distance s_changes) H locs := hW
    refine q_if_ne (tgt := 26) hx hb dX5_weight_19 (by decide) hf (fun hf => ?_) (fun hf => ?_)
    · refine lv_aload_n hx hb dX5_weight_26 rfl (lv_at hl 1 rfl) ?_
      refine lv_iload_n hx hb dX5_weight_27 rfl (lv_at hl 0 rfl) ?_
      refine lv_aload_n hx hb dX5_weight_28 rfl (lv_at hl 1 rfl) ?_
      refine lv_iload_n hx hb dX5_weight_29 rfl (lv_at hl 0 rfl) ?_
      refine lv_iload_n hx hb dX5_weight_30 rfl (lv_at hl 3 rfl) ?_
      obtain ⟨o_3, hc_3, hf⟩ := ob_bind hf
      refine q_callI hF hl.1 hK hA hZ hW mv_X5_smoothest ml_X5_138 (c_X5_smoothest l D E tx h_ h_span h_stride h_tip h_distance h_found h_changes h_walk h_values s_known s_poses s_links s_reached s_changes o_1 x2 o_3 hc_3) [0, 5] rfl rfl rfl rfl rfl rfl ⟨Nat.le_of_ble_eq_true rfl, Nat.le_of_ble_eq_true rfl⟩ ⟨Nat.le_of_ble_eq_true rfl, Nat.le_of_ble_eq_true rfl⟩ rfl rfl (Nat.le_of_ble_eq_true rfl) dX5_weight_31 (fun H locs hW => ?_)
      have hW : WD D A s (w_X5_weight E h_ h_span h_stride h_tip h_distance h_found h_changes h_walk h_values s_known s_poses s_links s_reached s_span s_stride s_tip s_distance s_changes) H locs := hW
      refine lv_iload_n hx hb dX5_weight_34 rfl (lv_at hl 3 rfl) ?_
      obtain ⟨o_4, hc_4, hf⟩ := ob_bind hf
      refine q_callI hF hl.1 hK hA hZ hW mv_X5_weightBehind ml_X5_141 (c_X5_weightBehind l D E tx h_ h_span h_stride h_tip h_distance h_found h_changes h_walk h_values s_known s_poses s_links s_reached s_changes o_1 o_3 x2 o_4 hc_4) [0, 5] rfl rfl rfl rfl rfl rfl ⟨Nat.le_of_ble_eq_true rfl, Nat.le_of_ble_eq_true rfl⟩ ⟨Nat.le_of_ble_eq_true rfl, Nat.le_of_ble_eq_true rfl⟩ rfl rfl (Nat.le_of_ble_eq_true rfl) dX5_weight_35 (fun H locs hW => ?_)
      have hW : WD D A s (w_X5_weight E h_ h_span h_stride h_tip h_distance h_found h_changes h_walk h_values s_known s_poses s_links s_reached s_span s_stride s_tip s_distance s_changes) H locs := hW
      cases hf
      exact hret dX5_weight_38 rfl rfl hW
    · refine lv_iconst (v := 0) hx hb dX5_weight_22 (by decide) ?_
      refine lv_goto (tgt := 38) hx hb dX5_weight_23 (by decide) ?_
      cases hf
      exact hret dX5_weight_38 rfl rfl hW
  · refine lv_ldc (v := 1000000) hx hb hF.2.2.2.1 (hF.2.2.2.2 _ lc_X5_137) dX5_weight_11 ?_
    cases hf
    exact hret dX5_weight_13 rfl rfl hW
def w_X5_weighChanges (E : Nat → ClassId) (h_ h_span h_stride h_tip h_distance h_found h_changes h_walk h_values : Nat) (s_known : Int32) (s_poses : Int32) (s_links : Int32) (s_reached : Int32) (s_span : Nat → Int32) (s_stride : Nat → Int32) (s_tip : Nat → Int32) (s_distance : Nat → Int32) (s_found : Nat → Int32) (s_changes : Nat → Int32) : va_W := [(h_, .inr (7, [.int s_known, .int s_poses, .int s_links, .ref h_span, .ref h_stride, .ref h_tip, .ref h_distance, .ref h_found, .int s_reached, .ref h_changes, .ref h_walk, .ref h_values])), (h_span, .inl (E 0, 4, .inl s_span)), (h_stride, .inl (E 0, 4, .inl s_stride)), (h_tip, .inl (E 0, 5000, .inl s_tip)), (h_distance, .inl (E 0, 5000, .inl s_distance)), (h_found, .inl (E 0, 5000, .inl s_found)), (h_changes, .inl (E 0, 40000, .inl s_changes))]
set_option maxHeartbeats 4000000 in
set_option maxRecDepth 100000 in
theorem c_X5_weighChanges (l : Launch) (D : va_G) (E : Nat → ClassId) (tx : List (Nat × String)) (h_ h_span h_stride h_tip h_distance h_found h_changes h_walk h_values : Nat) (s_known : Int32) (s_poses : Int32) (s_links : Int32) (s_reached : Int32) (s_span : Nat → Int32) (s_stride : Nat → Int32) (s_tip : Nat → Int32) (s_distance : Nat → Int32) (s_found : Nat → Int32) (s_changes : Nat → Int32)  (r0 : Nat → Int32) (hf : f_X5_weighChanges s_poses s_links s_reached s_span s_stride s_tip s_distance s_found s_changes = some r0) : CV l yX5_weighChanges cX5_weighChanges 4 4 92 D E tx [.ref h_] (w_X5_weighChanges E h_ h_span h_stride h_tip h_distance h_found h_changes h_walk h_values s_known s_poses s_links s_reached s_span s_stride s_tip s_distance s_found s_changes) (w_X5_weighChanges E h_ h_span h_stride h_tip h_distance h_found h_changes h_walk h_values s_known s_poses s_links s_reached s_span s_stride s_tip s_distance s_found r0) := by
  refine CV_of RX5 pn_X5 rfl (Nat.le_of_ble_eq_true rfl) (fun p e s m args below meth c A Q hF hK hA hZ hW hret ls hl => ?_)
  have hx := hF.1
  have hb := hF.2.1
  have hl : lv_has ls 4 [(0, .ref h_)] := hl
  unfold f_X5_weighChanges at hf
  refine lv_iconst (v := 0) hx hb dX5_weighChanges_0 (by decide) ?_
  refine lv_istore_n (lv' := [(1, .int 0), (0, .ref h_)]) hx hb dX5_weighChanges_1 rfl hl (by decide) rfl (fun ls hl => ?_)
  have hB2 : ∀ (n : Nat) (s_changes_2 : Nat → Int32) (z1_2 : Int32) (ex : (Nat → Int32)) (H : Heap) (locs : List Loc) (ls : Array Slot), LPF (fun z => f_X5_weighChanges_B2 s_poses s_links s_reached s_span s_stride s_tip s_distance s_found z.1 z.2) n (s_changes_2, z1_2) = some ex → lv_has ls 4 [(0, .ref h_), (1, .int z1_2)] → WD D A s (w_X5_weighChanges E h_ h_span h_stride h_tip h_distance h_found h_changes h_walk h_values s_known s_poses s_links s_reached s_span s_stride s_tip s_distance s_found s_changes_2) H locs → (∀ (H : Heap) (locs : List Loc) (ls : Array Slot), lv_has ls 4 [] → WD D A s (w_X5_weighChanges E h_ h_span h_stride h_tip h_distance h_found h_changes h_walk h_values s_known s_poses s_links s_reached s_span s_stride s_tip s_distance s_found ex) H locs → W p l e (RM 4 92) s m args below meth c H locs 0 0 Q (F0 m 69 ls [])) → W p l e (RM 4 92) s m args below meth c H locs 0 0 Q (F0 m 2 ls []) := by
    intro n
    induction n with
    | zero => intro s_changes_2 z1_2 ex H locs ls h9; exact (ob_lp0 h9).elim
    | succ n ih =>
      intro s_changes_2 z1_2 ex H locs ls h9 hl hW kx0
      obtain ⟨q9, hf, h9, k9⟩ := ob_lp h9
      have hf : f_X5_weighChanges_B2 s_poses s_links s_reached s_span s_stride s_tip s_distance s_found s_changes_2 z1_2 = some q9 := hf
      unfold f_X5_weighChanges_B2 at hf
      refine lv_iload_n hx hb dX5_weighChanges_2 rfl (lv_at hl 1 rfl) ?_
      refine lv_aload_n hx hb dX5_weighChanges_3 rfl (lv_at hl 0 rfl) ?_
      refine q_get hF hK hW fl_X5_38 0 rfl rfl dX5_weighChanges_4 ?_
      refine q_icmp_ge (tgt := 69) hx hb dX5_weighChanges_7 (by decide) hf (fun hf => ?_) (fun hf => ?_)
      · cases hf
        have hx9 := k9 _ rfl
        subst hx9
        exact kx0 _ _ _ (lv_sub hl [] rfl) hW
      · refine lv_iload_n hx hb dX5_weighChanges_10 rfl (lv_at hl 1 rfl) ?_
        refine lv_sipush (v := 5000) hx hb dX5_weighChanges_11 (by decide) ?_
        refine q_icmp_ge (tgt := 69) hx hb dX5_weighChanges_14 (by decide) hf (fun hf => ?_) (fun hf => ?_)
        · cases hf
          have hx9 := k9 _ rfl
          subst hx9
          exact kx0 _ _ _ (lv_sub hl [] rfl) hW
        · refine lv_aload_n hx hb dX5_weighChanges_17 rfl (lv_at hl 0 rfl) ?_
          refine q_get hF hK hW fl_X5_35 0 rfl rfl dX5_weighChanges_18 ?_
          refine lv_iload_n hx hb dX5_weighChanges_21 rfl (lv_at hl 1 rfl) ?_
          refine q_iald hx hb hK hW 5 0 rfl rfl dX5_weighChanges_22 hf (fun hf => ?_)
          refine lv_topi (fun v_1 ev_1 => ?_)
          replace hf := ob_let hf ev_1
          refine lv_istore_n (lv' := [(2, .int v_1), (0, .ref h_), (1, .int z1_2)]) hx hb dX5_weighChanges_23 rfl hl (by decide) rfl (fun ls hl => ?_)
          refine lv_iconst (v := 0) hx hb dX5_weighChanges_24 (by decide) ?_
          refine lv_istore_n (lv' := [(3, .int 0), (2, .int v_1), (0, .ref h_), (1, .int z1_2)]) hx hb dX5_weighChanges_25 rfl hl (by decide) rfl (fun ls hl => ?_)
          have hB26 : ∀ (n : Nat) (s_changes_26 : Nat → Int32) (z3_26 : Int32) (ex : (Nat → Int32)) (H : Heap) (locs : List Loc) (ls : Array Slot), LPF (fun z => f_X5_weighChanges_B26 s_poses s_links s_reached s_span s_stride s_tip s_distance s_found z.1 z1_2 v_1 z.2) n (s_changes_26, z3_26) = some ex → lv_has ls 4 [(0, .ref h_), (1, .int z1_2), (2, .int v_1), (3, .int z3_26)] → WD D A s (w_X5_weighChanges E h_ h_span h_stride h_tip h_distance h_found h_changes h_walk h_values s_known s_poses s_links s_reached s_span s_stride s_tip s_distance s_found s_changes_26) H locs → (∀ (H : Heap) (locs : List Loc) (ls : Array Slot), lv_has ls 4 [(0, .ref h_), (1, .int z1_2)] → WD D A s (w_X5_weighChanges E h_ h_span h_stride h_tip h_distance h_found h_changes h_walk h_values s_known s_poses s_links s_reached s_span s_stride s_tip s_distance s_found ex) H locs → W p l e (RM 4 92) s m args below meth c H locs 0 0 Q (F0 m 63 ls [])) → W p l e (RM 4 92) s m args below meth c H locs 0 0 Q (F0 m 26 ls []) := by
            intro n
            induction n with
            | zero => intro s_changes_26 z3_26 ex H locs ls h9; exact (ob_lp0 h9).elim
            | succ n ih =>
              intro s_changes_26 z3_26 ex H locs ls h9 hl hW kx0
              obtain ⟨q9, hf, h9, k9⟩ := ob_lp h9
              have hf : f_X5_weighChanges_B26 s_poses s_links s_reached s_span s_stride s_tip s_distance s_found s_changes_26 z1_2 v_1 z3_26 = some q9 := hf
              unfold f_X5_weighChanges_B26 at hf
              refine lv_iload_n hx hb dX5_weighChanges_26 rfl (lv_at hl 3 rfl) ?_
              refine lv_bipush (v := 8) hx hb dX5_weighChanges_27 (by decide) ?_
              refine q_icmp_ge (tgt := 63) hx hb dX5_weighChanges_29 (by decide) hf (fun hf => ?_) (fun hf => ?_)
              · cases hf
                have hx9 := k9 _ rfl
                subst hx9
                exact kx0 _ _ _ (lv_sub hl [0, 1] rfl) hW
              · refine lv_aload_n hx hb dX5_weighChanges_32 rfl (lv_at hl 0 rfl) ?_
                refine lv_iload_n hx hb dX5_weighChanges_33 rfl (lv_at hl 2 rfl) ?_
                obtain ⟨o_2, hc_2, hf⟩ := ob_bind hf
                refine q_callI hF hl.1 hK hA hZ hW mv_X5_isPose ml_X5_90 (c_X5_isPose l D E tx h_ h_span h_stride h_tip h_distance h_found h_changes h_walk h_values s_known s_poses s_links s_reached v_1 o_2 hc_2) [0] rfl rfl rfl rfl rfl rfl ⟨Nat.le_of_ble_eq_true rfl, Nat.le_of_ble_eq_true rfl⟩ ⟨Nat.le_of_ble_eq_true rfl, Nat.le_of_ble_eq_true rfl⟩ rfl rfl (Nat.le_of_ble_eq_true rfl) dX5_weighChanges_34 (fun H locs hW => ?_)
                have hW : WD D A s (w_X5_weighChanges E h_ h_span h_stride h_tip h_distance h_found h_changes h_walk h_values s_known s_poses s_links s_reached s_span s_stride s_tip s_distance s_found s_changes_26) H locs := hW
                refine q_if_eq (tgt := 63) hx hb dX5_weighChanges_37 (by decide) hf (fun hf => ?_) (fun hf => ?_)
                · cases hf
                  have hx9 := k9 _ rfl
                  subst hx9
                  exact kx0 _ _ _ (lv_sub hl [0, 1] rfl) hW
                · refine lv_aload_n hx hb dX5_weighChanges_40 rfl (lv_at hl 0 rfl) ?_
                  refine q_get hF hK hW fl_X5_42 0 rfl rfl dX5_weighChanges_41 ?_
                  refine lv_iload_n hx hb dX5_weighChanges_44 rfl (lv_at hl 2 rfl) ?_
                  refine lv_bipush (v := 8) hx hb dX5_weighChanges_45 (by decide) ?_
                  refine lv_imul hx hb dX5_weighChanges_47 ?_
                  refine lv_iload_n hx hb dX5_weighChanges_48 rfl (lv_at hl 3 rfl) ?_
                  refine lv_iadd hx hb dX5_weighChanges_49 ?_
                  refine lv_aload_n hx hb dX5_weighChanges_50 rfl (lv_at hl 0 rfl) ?_
                  refine lv_iload_n hx hb dX5_weighChanges_51 rfl (lv_at hl 2 rfl) ?_
                  refine lv_iload_n hx hb dX5_weighChanges_52 rfl (lv_at hl 3 rfl) ?_
                  obtain ⟨o_3, hc_3, hf⟩ := ob_bind hf
                  refine q_callI hF hl.1 hK hA hZ hW mv_X5_weight ml_X5_134 (c_X5_weight l D E tx h_ h_span h_stride h_tip h_distance h_found h_changes h_walk h_values s_known s_poses s_links s_reached s_span s_stride s_tip s_distance s_changes_26 v_1 z3_26 o_3 hc_3) [0, 1, 2, 3, 4, 6] rfl rfl rfl rfl rfl rfl ⟨Nat.le_of_ble_eq_true rfl, Nat.le_of_ble_eq_true rfl⟩ ⟨Nat.le_of_ble_eq_true rfl, Nat.le_of_ble_eq_true rfl⟩ rfl rfl (Nat.le_of_ble_eq_true rfl) dX5_weighChanges_53 (fun H locs hW => ?_)
                  have hW : WD D A s (w_X5_weighChanges E h_ h_span h_stride h_tip h_distance h_found h_changes h_walk h_values s_known s_poses s_links s_reached s_span s_stride s_tip s_distance s_found s_changes_26) H locs := hW
                  refine q_iast hx hb hK hW 6 0 rfl rfl dX5_weighChanges_56 hf (fun a_4 hf H locs hW => ?_)
                  have hW : WD D A s (w_X5_weighChanges E h_ h_span h_stride h_tip h_distance h_found h_changes h_walk h_values s_known s_poses s_links s_reached s_span s_stride s_tip s_distance s_found a_4) H locs := hW
                  obtain ⟨v_5, ev_5⟩ : ∃ y : Int32, y = z3_26 + 1 := ⟨_, rfl⟩
                  replace hf := ob_let hf ev_5
                  refine lv_iinc (v := v_5) (lv' := [(3, .int v_5), (0, .ref h_), (1, .int z1_2), (2, .int v_1)]) hx hb dX5_weighChanges_57 hl (k := 3) rfl (by rw [ev_5]; rfl) (by decide) rfl (fun ls hl => ?_)
                  refine lv_goto (tgt := 26) hx hb dX5_weighChanges_60 (by decide) ?_
                  cases hf
                  exact ih a_4 v_5 ex _ _ _ (h9 _ rfl) (lv_sub hl [1, 2, 3, 0] rfl) hW kx0
          obtain ⟨e_6, hc_6, hf⟩ := ob_bind hf
          refine hB26 lfuel s_changes_2 0 e_6 _ _ _ hc_6 (lv_sub hl [2, 3, 1, 0] rfl) hW ?_
          intro H locs ls hl hW
          obtain ⟨v_7, ev_7⟩ : ∃ y : Int32, y = z1_2 + 1 := ⟨_, rfl⟩
          replace hf := ob_let hf ev_7
          refine lv_iinc (v := v_7) (lv' := [(1, .int v_7), (0, .ref h_)]) hx hb dX5_weighChanges_63 hl (k := 1) rfl (by rw [ev_7]; rfl) (by decide) rfl (fun ls hl => ?_)
          refine lv_goto (tgt := 2) hx hb dX5_weighChanges_66 (by decide) ?_
          cases hf
          exact ih e_6 v_7 ex _ _ _ (h9 _ rfl) (lv_sub hl [1, 0] rfl) hW kx0
  obtain ⟨e_8, hc_8, hf⟩ := ob_bind hf
  refine hB2 lfuel s_changes 0 e_8 _ _ _ hc_8 (lv_sub hl [1, 0] rfl) hW ?_
  intro H locs ls hl hW
  cases hf
  exact hret dX5_weighChanges_69 hW
def w_X5_descendSmoothly (E : Nat → ClassId) (h_ h_span h_stride h_tip h_distance h_found h_changes h_walk h_values h_p1 h_p1_steps : Nat) (s_known : Int32) (s_poses : Int32) (s_links : Int32) (s_reached : Int32) (s_span : Nat → Int32) (s_stride : Nat → Int32) (s_tip : Nat → Int32) (s_distance : Nat → Int32) (s_changes : Nat → Int32) (s_p1_planned : Int32) (s_p1_start : Int32) (s_p1_size : Int32) (s_p1_position : Int32) (s_p1_steps : Nat → Int32) : va_W := [(h_, .inr (7, [.int s_known, .int s_poses, .int s_links, .ref h_span, .ref h_stride, .ref h_tip, .ref h_distance, .ref h_found, .int s_reached, .ref h_changes, .ref h_walk, .ref h_values])), (h_span, .inl (E 0, 4, .inl s_span)), (h_stride, .inl (E 0, 4, .inl s_stride)), (h_tip, .inl (E 0, 5000, .inl s_tip)), (h_distance, .inl (E 0, 5000, .inl s_distance)), (h_changes, .inl (E 0, 40000, .inl s_changes)), (h_p1, .inr (5, [.int s_p1_planned, .int s_p1_start, .int s_p1_size, .int s_p1_position, .ref h_p1_steps])), (h_p1_steps, .inl (E 0, 5000, .inl s_p1_steps))]
set_option maxHeartbeats 4000000 in
set_option maxRecDepth 100000 in
theorem c_X5_descendSmoothly (l : Launch) (D : va_G) (E : Nat → ClassId) (tx : List (Nat × String)) (h_ h_span h_stride h_tip h_distance h_found h_changes h_walk h_values h_p1 h_p1_steps : Nat) (s_known : Int32) (s_poses : Int32) (s_links : Int32) (s_reached : Int32) (s_span : Nat → Int32) (s_stride : Nat → Int32) (s_tip : Nat → Int32) (s_distance : Nat → Int32) (s_changes : Nat → Int32) (s_p1_planned : Int32) (s_p1_start : Int32) (s_p1_size : Int32) (s_p1_position : Int32) (s_p1_steps : Nat → Int32)  (r0 : Int32) (r1 : Nat → Int32) (hf : f_X5_descendSmoothly s_poses s_links s_span s_stride s_tip s_distance s_changes s_p1_start s_p1_size s_p1_steps = some (r0, r1)) : CV l yX5_descendSmoothly cX5_descendSmoothly 5 3 69 D E tx [.ref h_, .ref h_p1] (w_X5_descendSmoothly E h_ h_span h_stride h_tip h_distance h_found h_changes h_walk h_values h_p1 h_p1_steps s_known s_poses s_links s_reached s_span s_stride s_tip s_distance s_changes s_p1_planned s_p1_start s_p1_size s_p1_position s_p1_steps) (w_X5_descendSmoothly E h_ h_span h_stride h_tip h_distance h_found h_changes h_walk h_values h_p1 h_p1_steps s_known s_poses s_links s_reached s_span s_stride s_tip s_distance s_changes s_p1_planned s_p1_start r0 s_p1_position r1) := by
  refine CV_of RX5 pn_X5 rfl (Nat.le_of_ble_eq_true rfl) (fun p e s m args below meth c A Q hF hK hA hZ hW hret ls hl => ?_)
  have hx := hF.1
  have hb := hF.2.1
  have hl : lv_has ls 5 [(0, .ref h_), (1, .ref h_p1)] := hl
  unfold f_X5_descendSmoothly at hf
  refine lv_aload_n hx hb dX5_descendSmoothly_0 rfl (lv_at hl 1 rfl) ?_
  refine q_get hF hK hW fl_X5_122 6 rfl rfl dX5_descendSmoothly_1 ?_
  refine lv_istore_n (lv' := [(2, .int s_p1_start), (0, .ref h_), (1, .ref h_p1)]) hx hb dX5_descendSmoothly_4 rfl hl (by decide) rfl (fun ls hl => ?_)
  refine lv_iconst (v := (-1)) hx hb dX5_descendSmoothly_5 (by decide) ?_
  refine lv_istore_n (lv' := [(3, .int ((-1))), (2, .int s_p1_start), (0, .ref h_), (1, .ref h_p1)]) hx hb dX5_descendSmoothly_6 rfl hl (by decide) rfl (fun ls hl => ?_)
  refine lv_aload_n hx hb dX5_descendSmoothly_7 rfl (lv_at hl 2 rfl) ?_
  refine lv_iload_n hx hb dX5_descendSmoothly_8 rfl (lv_at hl 1 rfl) ?_
  obtain ⟨o_1, hc_1, hf⟩ := ob_bind hf
  refine q_callI hF hl.1 hK hA hZ hW mv_X5_distanceOf ml_X5_115 (c_X5_distanceOf l D E tx h_ h_span h_stride h_tip h_distance h_found h_changes h_walk h_values s_known s_poses s_links s_reached s_distance s_p1_start o_1 hc_1) [0, 4] rfl rfl rfl rfl rfl rfl ⟨Nat.le_of_ble_eq_true rfl, Nat.le_of_ble_eq_true rfl⟩ ⟨Nat.le_of_ble_eq_true rfl, Nat.le_of_ble_eq_true rfl⟩ rfl rfl (Nat.le_of_ble_eq_true rfl) dX5_descendSmoothly_9 (fun H locs hW => ?_)
  have hW : WD D A s (w_X5_descendSmoothly E h_ h_span h_stride h_tip h_distance h_found h_changes h_walk h_values h_p1 h_p1_steps s_known s_poses s_links s_reached s_span s_stride s_tip s_distance s_changes s_p1_planned s_p1_start s_p1_size s_p1_position s_p1_steps) H locs := hW
  refine lv_istore (lv' := [(4, .int o_1), (3, .int ((-1))), (2, .int s_p1_start), (0, .ref h_), (1, .ref h_p1)]) hx hb dX5_descendSmoothly_12 hl (by decide) rfl (fun ls hl => ?_)
  have hB14 : ∀ (n : Nat) (s_p1_size_14 : Int32) (s_p1_steps_14 : Nat → Int32) (z2_14 : Int32) (z3_14 : Int32) (z4_14 : Int32) (ex : Int32 × (Nat → Int32)) (H : Heap) (locs : List Loc) (ls : Array Slot), LPF (fun z => f_X5_descendSmoothly_B14 s_poses s_links s_span s_stride s_tip s_distance s_changes s_p1_start z.1 z.2.1 z.2.2.1 z.2.2.2.1 z.2.2.2.2) n (s_p1_size_14, s_p1_steps_14, z2_14, z3_14, z4_14) = some ex → lv_has ls 5 [(0, .ref h_), (1, .ref h_p1), (2, .int z2_14), (3, .int z3_14), (4, .int z4_14)] → WD D A s (w_X5_descendSmoothly E h_ h_span h_stride h_tip h_distance h_found h_changes h_walk h_values h_p1 h_p1_steps s_known s_poses s_links s_reached s_span s_stride s_tip s_distance s_changes s_p1_planned s_p1_start s_p1_size_14 s_p1_position s_p1_steps_14) H locs → (∀ (H : Heap) (locs : List Loc) (ls : Array Slot), lv_has ls 5 [] → WD D A s (w_X5_descendSmoothly E h_ h_span h_stride h_tip h_distance h_found h_changes h_walk h_values h_p1 h_p1_steps s_known s_poses s_links s_reached s_span s_stride s_tip s_distance s_changes s_p1_planned s_p1_start ex.1 s_p1_position ex.2) H locs → W p l e (RM 3 69) s m args below meth c H locs 0 0 Q (F0 m 44 ls [])) → W p l e (RM 3 69) s m args below meth c H locs 0 0 Q (F0 m 14 ls []) := by
    intro n
    induction n with
    | zero => intro s_p1_size_14 s_p1_steps_14 z2_14 z3_14 z4_14 ex H locs ls h9; exact (ob_lp0 h9).elim
    | succ n ih =>
      intro s_p1_size_14 s_p1_steps_14 z2_14 z3_14 z4_14 ex H locs ls h9 hl hW kx0
      obtain ⟨q9, hf, h9, k9⟩ := ob_lp h9
      have hf : f_X5_descendSmoothly_B14 s_poses s_links s_span s_stride s_tip s_distance s_changes s_p1_start s_p1_size_14 s_p1_steps_14 z2_14 z3_14 z4_14 = some q9 := hf
      unfold f_X5_descendSmoothly_B14 at hf
      refine lv_iload hx hb dX5_descendSmoothly_14 (lv_at hl 4 rfl) ?_
      refine q_if_le (tgt := 44) hx hb dX5_descendSmoothly_16 (by decide) hf (fun hf => ?_) (fun hf => ?_)
      · cases hf
        have hx9 := k9 _ rfl
        subst hx9
        exact kx0 _ _ _ (lv_sub hl [] rfl) hW
      · refine lv_aload_n hx hb dX5_descendSmoothly_19 rfl (lv_at hl 0 rfl) ?_
        refine lv_iload_n hx hb dX5_descendSmoothly_20 rfl (lv_at hl 2 rfl) ?_
        refine lv_iload_n hx hb dX5_descendSmoothly_21 rfl (lv_at hl 3 rfl) ?_
        obtain ⟨o_2, hc_2, hf⟩ := ob_bind hf
        refine q_callI hF hl.1 hK hA hZ hW mv_X5_smoothest ml_X5_138 (c_X5_smoothest l D E tx h_ h_span h_stride h_tip h_distance h_found h_changes h_walk h_values s_known s_poses s_links s_reached s_changes z2_14 z3_14 o_2 hc_2) [0, 5] rfl rfl rfl rfl rfl rfl ⟨Nat.le_of_ble_eq_true rfl, Nat.le_of_ble_eq_true rfl⟩ ⟨Nat.le_of_ble_eq_true rfl, Nat.le_of_ble_eq_true rfl⟩ rfl rfl (Nat.le_of_ble_eq_true rfl) dX5_descendSmoothly_22 (fun H locs hW => ?_)
        have hW : WD D A s (w_X5_descendSmoothly E h_ h_span h_stride h_tip h_distance h_found h_changes h_walk h_values h_p1 h_p1_steps s_known s_poses s_links s_reached s_span s_stride s_tip s_distance s_changes s_p1_planned s_p1_start s_p1_size_14 s_p1_position s_p1_steps_14) H locs := hW
        refine lv_istore_n (lv' := [(3, .int o_2), (0, .ref h_), (1, .ref h_p1), (2, .int z2_14), (4, .int z4_14)]) hx hb dX5_descendSmoothly_25 rfl hl (by decide) rfl (fun ls hl => ?_)
        refine lv_aload_n hx hb dX5_descendSmoothly_26 rfl (lv_at hl 2 rfl) ?_
        refine lv_iload_n hx hb dX5_descendSmoothly_27 rfl (lv_at hl 0 rfl) ?_
        obtain ⟨o_3, hc_3, hf⟩ := ob_bind hf
        refine q_callV hF hl.1 hK hA hZ hW mv_X3_add ml_X5_130 (c_X3_add l D E tx h_p1 h_p1_steps s_p1_planned s_p1_start s_p1_size_14 s_p1_position s_p1_steps_14 o_2 o_3.1 o_3.2 hc_3) [6, 7] rfl rfl rfl rfl rfl rfl ⟨Nat.le_of_ble_eq_true rfl, Nat.le_of_ble_eq_true rfl⟩ ⟨Nat.le_of_ble_eq_true rfl, Nat.le_of_ble_eq_true rfl⟩ rfl rfl (Nat.le_of_ble_eq_true rfl) dX5_descendSmoothly_28 (fun H locs hW => ?_)
        have hW : WD D A s (w_X5_descendSmoothly E h_ h_span h_stride h_tip h_distance h_found h_changes h_walk h_values h_p1 h_p1_steps s_known s_poses s_links s_reached s_span s_stride s_tip s_distance s_changes s_p1_planned s_p1_start o_3.1 s_p1_position o_3.2) H locs := hW
        refine lv_aload_n hx hb dX5_descendSmoothly_31 rfl (lv_at hl 1 rfl) ?_
        refine lv_iload_n hx hb dX5_descendSmoothly_32 rfl (lv_at hl 3 rfl) ?_
        refine lv_iload_n hx hb dX5_descendSmoothly_33 rfl (lv_at hl 0 rfl) ?_
        obtain ⟨o_4, hc_4, hf⟩ := ob_bind hf
        refine q_callI hF hl.1 hK hA hZ hW mv_X5_nearer ml_X5_127 (c_X5_nearer l D E tx h_ h_span h_stride h_tip h_distance h_found h_changes h_walk h_values s_known s_poses s_links s_reached s_span s_stride s_tip s_distance z2_14 o_2 o_4 hc_4) [0, 1, 2, 3, 4] rfl rfl rfl rfl rfl rfl ⟨Nat.le_of_ble_eq_true rfl, Nat.le_of_ble_eq_true rfl⟩ ⟨Nat.le_of_ble_eq_true rfl, Nat.le_of_ble_eq_true rfl⟩ rfl rfl (Nat.le_of_ble_eq_true rfl) dX5_descendSmoothly_34 (fun H locs hW => ?_)
        have hW : WD D A s (w_X5_descendSmoothly E h_ h_span h_stride h_tip h_distance h_found h_changes h_walk h_values h_p1 h_p1_steps s_known s_poses s_links s_reached s_span s_stride s_tip s_distance s_changes s_p1_planned s_p1_start o_3.1 s_p1_position o_3.2) H locs := hW
        refine lv_istore_n (lv' := [(2, .int o_4), (3, .int o_2), (0, .ref h_), (1, .ref h_p1), (4, .int z4_14)]) hx hb dX5_descendSmoothly_37 rfl hl (by decide) rfl (fun ls hl => ?_)
        obtain ⟨v_5, ev_5⟩ : ∃ y : Int32, y = z4_14 + (-1) := ⟨_, rfl⟩
        replace hf := ob_let hf ev_5
        refine lv_iinc (v := v_5) (lv' := [(4, .int v_5), (2, .int o_4), (3, .int o_2), (0, .ref h_), (1, .ref h_p1)]) hx hb dX5_descendSmoothly_38 hl (k := 4) rfl (by rw [ev_5]; rfl) (by decide) rfl (fun ls hl => ?_)
        refine lv_goto (tgt := 14) hx hb dX5_descendSmoothly_41 (by decide) ?_
        cases hf
        exact ih o_3.1 o_3.2 o_4 o_2 v_5 ex _ _ _ (h9 _ rfl) (lv_sub hl [3, 4, 1, 2, 0] rfl) hW kx0
  obtain ⟨e_6, hc_6, hf⟩ := ob_bind hf
  refine hB14 lfuel s_p1_size s_p1_steps s_p1_start ((-1)) o_1 e_6 _ _ _ hc_6 (lv_sub hl [3, 4, 2, 1, 0] rfl) hW ?_
  intro H locs ls hl hW
  cases hf
  exact hret dX5_descendSmoothly_44 hW
def w_X5_survey (E : Nat → ClassId) (h_ h_span h_stride h_tip h_distance h_found h_changes h_walk h_values h_walk_beginX h_walk_beginY h_walk_direction h_walk_trodden h_p1 h_p1_length h_p1_lower h_p1_upper h_p1_value h_p1_obstacleX h_p1_obstacleY h_p1_blocked : Nat) (s_known : Int32) (s_poses : Int32) (s_links : Int32) (s_reached : Int32) (s_span : Nat → Int32) (s_stride : Nat → Int32) (s_tip : Nat → Int32) (s_walk_firstFault : Int32) (s_walk_firstLink : Int32) (s_walk_tipX : Int32) (s_walk_tipY : Int32) (s_walk_beginX : Nat → Int32) (s_walk_beginY : Nat → Int32) (s_walk_direction : Nat → Int32) (s_walk_trodden : Nat → Int32) (s_values : Nat → Int32) (s_p1_links : Int32) (s_p1_obstacles : Int32) (s_p1_length : Nat → Int32) (s_p1_lower : Nat → Int32) (s_p1_upper : Nat → Int32) (s_p1_blocked : Nat → Int32) : va_W := [(h_, .inr (7, [.int s_known, .int s_poses, .int s_links, .ref h_span, .ref h_stride, .ref h_tip, .ref h_distance, .ref h_found, .int s_reached, .ref h_changes, .ref h_walk, .ref h_values])), (h_span, .inl (E 0, 4, .inl s_span)), (h_stride, .inl (E 0, 4, .inl s_stride)), (h_tip, .inl (E 0, 5000, .inl s_tip)), (h_walk, .inr (8, [.int s_walk_firstFault, .int s_walk_firstLink, .int s_walk_tipX, .int s_walk_tipY, .ref h_walk_beginX, .ref h_walk_beginY, .ref h_walk_direction, .ref h_walk_trodden])), (h_walk_beginX, .inl (E 0, 4, .inl s_walk_beginX)), (h_walk_beginY, .inl (E 0, 4, .inl s_walk_beginY)), (h_walk_direction, .inl (E 0, 4, .inl s_walk_direction)), (h_walk_trodden, .inl (E 0, 21, .inl s_walk_trodden)), (h_values, .inl (E 0, 4, .inl s_values)), (h_p1, .inr (6, [.int s_p1_links, .ref h_p1_length, .ref h_p1_lower, .ref h_p1_upper, .ref h_p1_value, .int s_p1_obstacles, .ref h_p1_obstacleX, .ref h_p1_obstacleY, .ref h_p1_blocked])), (h_p1_length, .inl (E 0, 4, .inl s_p1_length)), (h_p1_lower, .inl (E 0, 4, .inl s_p1_lower)), (h_p1_upper, .inl (E 0, 4, .inl s_p1_upper)), (h_p1_blocked, .inl (E 0, 21, .inl s_p1_blocked))]
set_option maxHeartbeats 4000000 in
set_option maxRecDepth 100000 in
theorem c_X5_survey (l : Launch) (D : va_G) (E : Nat → ClassId) (tx : List (Nat × String)) (h_ h_span h_stride h_tip h_distance h_found h_changes h_walk h_values h_walk_beginX h_walk_beginY h_walk_direction h_walk_trodden h_p1 h_p1_length h_p1_lower h_p1_upper h_p1_value h_p1_obstacleX h_p1_obstacleY h_p1_blocked : Nat) (s_known : Int32) (s_poses : Int32) (s_links : Int32) (s_reached : Int32) (s_span : Nat → Int32) (s_stride : Nat → Int32) (s_tip : Nat → Int32) (s_walk_firstFault : Int32) (s_walk_firstLink : Int32) (s_walk_tipX : Int32) (s_walk_tipY : Int32) (s_walk_beginX : Nat → Int32) (s_walk_beginY : Nat → Int32) (s_walk_direction : Nat → Int32) (s_walk_trodden : Nat → Int32) (s_values : Nat → Int32) (s_p1_links : Int32) (s_p1_obstacles : Int32) (s_p1_length : Nat → Int32) (s_p1_lower : Nat → Int32) (s_p1_upper : Nat → Int32) (s_p1_blocked : Nat → Int32)  (r0 : Int32) (r1 : Int32) (r2 : Int32) (r3 : Nat → Int32) (r4 : Nat → Int32) (r5 : Nat → Int32) (r6 : Int32) (r7 : Int32) (r8 : Int32) (r9 : Int32) (r10 : Nat → Int32) (r11 : Nat → Int32) (r12 : Nat → Int32) (r13 : Nat → Int32) (r14 : Nat → Int32) (hf : f_X5_survey s_known s_poses s_links s_span s_stride s_tip s_walk_firstFault s_walk_firstLink s_walk_tipX s_walk_tipY s_walk_beginX s_walk_beginY s_walk_direction s_walk_trodden s_values s_p1_links s_p1_length s_p1_lower s_p1_upper s_p1_blocked = some (r0, r1, r2, r3, r4, r5, r6, r7, r8, r9, r10, r11, r12, r13, r14)) : CV l yX5_survey cX5_survey 4 3 110 D E tx [.ref h_, .ref h_p1] (w_X5_survey E h_ h_span h_stride h_tip h_distance h_found h_changes h_walk h_values h_walk_beginX h_walk_beginY h_walk_direction h_walk_trodden h_p1 h_p1_length h_p1_lower h_p1_upper h_p1_value h_p1_obstacleX h_p1_obstacleY h_p1_blocked s_known s_poses s_links s_reached s_span s_stride s_tip s_walk_firstFault s_walk_firstLink s_walk_tipX s_walk_tipY s_walk_beginX s_walk_beginY s_walk_direction s_walk_trodden s_values s_p1_links s_p1_obstacles s_p1_length s_p1_lower s_p1_upper s_p1_blocked) (w_X5_survey E h_ h_span h_stride h_tip h_distance h_found h_changes h_walk h_values h_walk_beginX h_walk_beginY h_walk_direction h_walk_trodden h_p1 h_p1_length h_p1_lower h_p1_upper h_p1_value h_p1_obstacleX h_p1_obstacleY h_p1_blocked r0 r1 r2 s_reached r3 r4 r5 r6 r7 r8 r9 r10 r11 r12 r13 r14 s_p1_links s_p1_obstacles s_p1_length s_p1_lower s_p1_upper s_p1_blocked) := by
  refine CV_of RX5 pn_X5 rfl (Nat.le_of_ble_eq_true rfl) (fun p e s m args below meth c A Q hF hK hA hZ hW hret ls hl => ?_)
  have hx := hF.1
  have hb := hF.2.1
  have hl : lv_has ls 4 [(0, .ref h_), (1, .ref h_p1)] := hl
  unfold f_X5_survey at hf
  refine lv_aload_n hx hb dX5_survey_0 rfl (lv_at hl 0 rfl) ?_
  refine q_get hF hK hW fl_X5_9 0 rfl rfl dX5_survey_1 ?_
  refine q_if_eq (tgt := 8) hx hb dX5_survey_4 (by decide) hf (fun hf => ?_) (fun hf => ?_)
  · refine lv_aload_n hx hb dX5_survey_8 rfl (lv_at hl 0 rfl) ?_
    refine lv_aload_n hx hb dX5_survey_9 rfl (lv_at hl 1 rfl) ?_
    refine q_get hF hK hW fl_X5_55 10 rfl rfl dX5_survey_10 ?_
    refine lv_iconst (v := 4) hx hb dX5_survey_13 (by decide) ?_
    refine q_min hF hl.1 ml_X5_58 ⟨Nat.le_of_ble_eq_true rfl, Nat.le_of_ble_eq_true rfl⟩ ⟨Nat.le_of_ble_eq_true rfl, Nat.le_of_ble_eq_true rfl⟩ dX5_survey_14 ?_
    refine lv_topi (fun v_1 ev_1 => ?_)
    replace hf := ob_let hf ev_1
    refine q_put hF hK hW fl_X5_19 ft_X5 rfl 0 rfl rfl rfl (Nat.le_of_ble_eq_true rfl) dX5_survey_17 (fun H locs hW => ?_)
    have hW : WD D A s (w_X5_survey E h_ h_span h_stride h_tip h_distance h_found h_changes h_walk h_values h_walk_beginX h_walk_beginY h_walk_direction h_walk_trodden h_p1 h_p1_length h_p1_lower h_p1_upper h_p1_value h_p1_obstacleX h_p1_obstacleY h_p1_blocked s_known s_poses v_1 s_reached s_span s_stride s_tip s_walk_firstFault s_walk_firstLink s_walk_tipX s_walk_tipY s_walk_beginX s_walk_beginY s_walk_direction s_walk_trodden s_values s_p1_links s_p1_obstacles s_p1_length s_p1_lower s_p1_upper s_p1_blocked) H locs := hW
    refine lv_aload_n hx hb dX5_survey_20 rfl (lv_at hl 0 rfl) ?_
    refine lv_aload_n hx hb dX5_survey_21 rfl (lv_at hl 1 rfl) ?_
    obtain ⟨o_2, hc_2, hf⟩ := ob_bind hf
    refine q_callI hF hl.1 hK hA hZ hW mv_X4_poses ml_X5_64 (c_X4_poses l D E tx h_p1 h_p1_length h_p1_lower h_p1_upper h_p1_value h_p1_obstacleX h_p1_obstacleY h_p1_blocked s_p1_links s_p1_obstacles s_p1_lower s_p1_upper o_2 hc_2) [10, 12, 13] rfl rfl rfl rfl rfl rfl ⟨Nat.le_of_ble_eq_true rfl, Nat.le_of_ble_eq_true rfl⟩ ⟨Nat.le_of_ble_eq_true rfl, Nat.le_of_ble_eq_true rfl⟩ rfl rfl (Nat.le_of_ble_eq_true rfl) dX5_survey_22 (fun H locs hW => ?_)
    have hW : WD D A s (w_X5_survey E h_ h_span h_stride h_tip h_distance h_found h_changes h_walk h_values h_walk_beginX h_walk_beginY h_walk_direction h_walk_trodden h_p1 h_p1_length h_p1_lower h_p1_upper h_p1_value h_p1_obstacleX h_p1_obstacleY h_p1_blocked s_known s_poses v_1 s_reached s_span s_stride s_tip s_walk_firstFault s_walk_firstLink s_walk_tipX s_walk_tipY s_walk_beginX s_walk_beginY s_walk_direction s_walk_trodden s_values s_p1_links s_p1_obstacles s_p1_length s_p1_lower s_p1_upper s_p1_blocked) H locs := hW
    refine lv_sipush (v := 5000) hx hb dX5_survey_25 (by decide) ?_
    refine q_min hF hl.1 ml_X5_58 ⟨Nat.le_of_ble_eq_true rfl, Nat.le_of_ble_eq_true rfl⟩ ⟨Nat.le_of_ble_eq_true rfl, Nat.le_of_ble_eq_true rfl⟩ dX5_survey_28 ?_
    refine lv_topi (fun v_3 ev_3 => ?_)
    replace hf := ob_let hf ev_3
    refine q_put hF hK hW fl_X5_15 ft_X5 rfl 0 rfl rfl rfl (Nat.le_of_ble_eq_true rfl) dX5_survey_31 (fun H locs hW => ?_)
    have hW : WD D A s (w_X5_survey E h_ h_span h_stride h_tip h_distance h_found h_changes h_walk h_values h_walk_beginX h_walk_beginY h_walk_direction h_walk_trodden h_p1 h_p1_length h_p1_lower h_p1_upper h_p1_value h_p1_obstacleX h_p1_obstacleY h_p1_blocked s_known v_3 v_1 s_reached s_span s_stride s_tip s_walk_firstFault s_walk_firstLink s_walk_tipX s_walk_tipY s_walk_beginX s_walk_beginY s_walk_direction s_walk_trodden s_values s_p1_links s_p1_obstacles s_p1_length s_p1_lower s_p1_upper s_p1_blocked) H locs := hW
    refine lv_iconst (v := 1) hx hb dX5_survey_34 (by decide) ?_
    refine lv_istore_n (lv' := [(2, .int 1), (0, .ref h_), (1, .ref h_p1)]) hx hb dX5_survey_35 rfl hl (by decide) rfl (fun ls hl => ?_)
    refine lv_aload_n hx hb dX5_survey_36 rfl (lv_at hl 1 rfl) ?_
    refine q_get hF hK hW fl_X5_19 0 rfl rfl dX5_survey_37 ?_
    refine lv_iconst (v := 1) hx hb dX5_survey_40 (by decide) ?_
    refine lv_isub hx hb dX5_survey_41 ?_
    refine lv_topi (fun v_4 ev_4 => ?_)
    replace hf := ob_let hf ev_4
    refine lv_istore_n (lv' := [(3, .int v_4), (2, .int 1), (0, .ref h_), (1, .ref h_p1)]) hx hb dX5_survey_42 rfl hl (by decide) rfl (fun ls hl => ?_)
    have hB43 : ∀ (n : Nat) (s_span_43 : Nat → Int32) (s_stride_43 : Nat → Int32) (z2_43 : Int32) (z3_43 : Int32) (ex : (Nat → Int32) × (Nat → Int32)) (H : Heap) (locs : List Loc) (ls : Array Slot), LPF (fun z => f_X5_survey_B43 s_known v_3 v_1 z.1 z.2.1 s_tip s_walk_firstFault s_walk_firstLink s_walk_tipX s_walk_tipY s_walk_beginX s_walk_beginY s_walk_direction s_walk_trodden s_values s_p1_links s_p1_length s_p1_lower s_p1_upper s_p1_blocked z.2.2.1 z.2.2.2) n (s_span_43, s_stride_43, z2_43, z3_43) = some ex → lv_has ls 4 [(0, .ref h_), (1, .ref h_p1), (2, .int z2_43), (3, .int z3_43)] → WD D A s (w_X5_survey E h_ h_span h_stride h_tip h_distance h_found h_changes h_walk h_values h_walk_beginX h_walk_beginY h_walk_direction h_walk_trodden h_p1 h_p1_length h_p1_lower h_p1_upper h_p1_value h_p1_obstacleX h_p1_obstacleY h_p1_blocked s_known v_3 v_1 s_reached s_span_43 s_stride_43 s_tip s_walk_firstFault s_walk_firstLink s_walk_tipX s_walk_tipY s_walk_beginX s_walk_beginY s_walk_direction s_walk_trodden s_values s_p1_links s_p1_obstacles s_p1_length s_p1_lower s_p1_upper s_p1_blocked) H locs → (∀ (H : Heap) (locs : List Loc) (ls : Array Slot), lv_has ls 4 [(0, .ref h_), (1, .ref h_p1)] → WD D A s (w_X5_survey E h_ h_span h_stride h_tip h_distance h_found h_changes h_walk h_values h_walk_beginX h_walk_beginY h_walk_direction h_walk_trodden h_p1 h_p1_length h_p1_lower h_p1_upper h_p1_value h_p1_obstacleX h_p1_obstacleY h_p1_blocked s_known v_3 v_1 s_reached ex.1 ex.2 s_tip s_walk_firstFault s_walk_firstLink s_walk_tipX s_walk_tipY s_walk_beginX s_walk_beginY s_walk_direction s_walk_trodden s_values s_p1_links s_p1_obstacles s_p1_length s_p1_lower s_p1_upper s_p1_blocked) H locs → W p l e (RM 3 110) s m args below meth c H locs 0 0 Q (F0 m 79 ls [])) → W p l e (RM 3 110) s m args below meth c H locs 0 0 Q (F0 m 43 ls []) := by
      intro n
      induction n with
      | zero => intro s_span_43 s_stride_43 z2_43 z3_43 ex H locs ls h9; exact (ob_lp0 h9).elim
      | succ n ih =>
        intro s_span_43 s_stride_43 z2_43 z3_43 ex H locs ls h9 hl hW kx0
        obtain ⟨q9, hf, h9, k9⟩ := ob_lp h9
        have hf : f_X5_survey_B43 s_known v_3 v_1 s_span_43 s_stride_43 s_tip s_walk_firstFault s_walk_firstLink s_walk_tipX s_walk_tipY s_walk_beginX s_walk_beginY s_walk_direction s_walk_trodden s_values s_p1_links s_p1_length s_p1_lower s_p1_upper s_p1_blocked z2_43 z3_43 = some q9 := hf
        unfold f_X5_survey_B43 at hf
        refine lv_iload_n hx hb dX5_survey_43 rfl (lv_at hl 3 rfl) ?_
        refine q_if_lt (tgt := 79) hx hb dX5_survey_44 (by decide) hf (fun hf => ?_) (fun hf => ?_)
        · cases hf
          have hx9 := k9 _ rfl
          subst hx9
          exact kx0 _ _ _ (lv_sub hl [0, 1] rfl) hW
        · refine lv_aload_n hx hb dX5_survey_47 rfl (lv_at hl 0 rfl) ?_
          refine q_get hF hK hW fl_X5_22 0 rfl rfl dX5_survey_48 ?_
          refine lv_iload_n hx hb dX5_survey_51 rfl (lv_at hl 3 rfl) ?_
          refine lv_aload_n hx hb dX5_survey_52 rfl (lv_at hl 1 rfl) ?_
          refine lv_iload_n hx hb dX5_survey_53 rfl (lv_at hl 3 rfl) ?_
          obtain ⟨o_5, hc_5, hf⟩ := ob_bind hf
          refine q_callI hF hl.1 hK hA hZ hW mv_X4_span ml_X5_67 (c_X4_span l D E tx h_p1 h_p1_length h_p1_lower h_p1_upper h_p1_value h_p1_obstacleX h_p1_obstacleY h_p1_blocked s_p1_links s_p1_obstacles s_p1_lower s_p1_upper z3_43 o_5 hc_5) [10, 12, 13] rfl rfl rfl rfl rfl rfl ⟨Nat.le_of_ble_eq_true rfl, Nat.le_of_ble_eq_true rfl⟩ ⟨Nat.le_of_ble_eq_true rfl, Nat.le_of_ble_eq_true rfl⟩ rfl rfl (Nat.le_of_ble_eq_true rfl) dX5_survey_54 (fun H locs hW => ?_)
          have hW : WD D A s (w_X5_survey E h_ h_span h_stride h_tip h_distance h_found h_changes h_walk h_values h_walk_beginX h_walk_beginY h_walk_direction h_walk_trodden h_p1 h_p1_length h_p1_lower h_p1_upper h_p1_value h_p1_obstacleX h_p1_obstacleY h_p1_blocked s_known v_3 v_1 s_reached s_span_43 s_stride_43 s_tip s_walk_firstFault s_walk_firstLink s_walk_tipX s_walk_tipY s_walk_beginX s_walk_beginY s_walk_direction s_walk_trodden s_values s_p1_links s_p1_obstacles s_p1_length s_p1_lower s_p1_upper s_p1_blocked) H locs := hW
          refine q_iast hx hb hK hW 1 0 rfl rfl dX5_survey_57 hf (fun a_6 hf H locs hW => ?_)
          have hW : WD D A s (w_X5_survey E h_ h_span h_stride h_tip h_distance h_found h_changes h_walk h_values h_walk_beginX h_walk_beginY h_walk_direction h_walk_trodden h_p1 h_p1_length h_p1_lower h_p1_upper h_p1_value h_p1_obstacleX h_p1_obstacleY h_p1_blocked s_known v_3 v_1 s_reached a_6 s_stride_43 s_tip s_walk_firstFault s_walk_firstLink s_walk_tipX s_walk_tipY s_walk_beginX s_walk_beginY s_walk_direction s_walk_trodden s_values s_p1_links s_p1_obstacles s_p1_length s_p1_lower s_p1_upper s_p1_blocked) H locs := hW
          refine lv_aload_n hx hb dX5_survey_58 rfl (lv_at hl 0 rfl) ?_
          refine q_get hF hK hW fl_X5_26 0 rfl rfl dX5_survey_59 ?_
          refine lv_iload_n hx hb dX5_survey_62 rfl (lv_at hl 3 rfl) ?_
          refine lv_iload_n hx hb dX5_survey_63 rfl (lv_at hl 2 rfl) ?_
          refine q_iast hx hb hK hW 2 0 rfl rfl dX5_survey_64 hf (fun a_7 hf H locs hW => ?_)
          have hW : WD D A s (w_X5_survey E h_ h_span h_stride h_tip h_distance h_found h_changes h_walk h_values h_walk_beginX h_walk_beginY h_walk_direction h_walk_trodden h_p1 h_p1_length h_p1_lower h_p1_upper h_p1_value h_p1_obstacleX h_p1_obstacleY h_p1_blocked s_known v_3 v_1 s_reached a_6 a_7 s_tip s_walk_firstFault s_walk_firstLink s_walk_tipX s_walk_tipY s_walk_beginX s_walk_beginY s_walk_direction s_walk_trodden s_values s_p1_links s_p1_obstacles s_p1_length s_p1_lower s_p1_upper s_p1_blocked) H locs := hW
          refine lv_iload_n hx hb dX5_survey_65 rfl (lv_at hl 2 rfl) ?_
          refine lv_aload_n hx hb dX5_survey_66 rfl (lv_at hl 1 rfl) ?_
          refine lv_iload_n hx hb dX5_survey_67 rfl (lv_at hl 3 rfl) ?_
          obtain ⟨o_8, hc_8, hf⟩ := ob_bind hf
          refine q_callI hF hl.1 hK hA hZ hW mv_X4_span ml_X5_67 (c_X4_span l D E tx h_p1 h_p1_length h_p1_lower h_p1_upper h_p1_value h_p1_obstacleX h_p1_obstacleY h_p1_blocked s_p1_links s_p1_obstacles s_p1_lower s_p1_upper z3_43 o_8 hc_8) [10, 12, 13] rfl rfl rfl rfl rfl rfl ⟨Nat.le_of_ble_eq_true rfl, Nat.le_of_ble_eq_true rfl⟩ ⟨Nat.le_of_ble_eq_true rfl, Nat.le_of_ble_eq_true rfl⟩ rfl rfl (Nat.le_of_ble_eq_true rfl) dX5_survey_68 (fun H locs hW => ?_)
          have hW : WD D A s (w_X5_survey E h_ h_span h_stride h_tip h_distance h_found h_changes h_walk h_values h_walk_beginX h_walk_beginY h_walk_direction h_walk_trodden h_p1 h_p1_length h_p1_lower h_p1_upper h_p1_value h_p1_obstacleX h_p1_obstacleY h_p1_blocked s_known v_3 v_1 s_reached a_6 a_7 s_tip s_walk_firstFault s_walk_firstLink s_walk_tipX s_walk_tipY s_walk_beginX s_walk_beginY s_walk_direction s_walk_trodden s_values s_p1_links s_p1_obstacles s_p1_length s_p1_lower s_p1_upper s_p1_blocked) H locs := hW
          refine lv_imul hx hb dX5_survey_71 ?_
          refine lv_topi (fun v_9 ev_9 => ?_)
          replace hf := ob_let hf ev_9
          refine lv_istore_n (lv' := [(2, .int v_9), (0, .ref h_), (1, .ref h_p1), (3, .int z3_43)]) hx hb dX5_survey_72 rfl hl (by decide) rfl (fun ls hl => ?_)
          obtain ⟨v_10, ev_10⟩ : ∃ y : Int32, y = z3_43 + (-1) := ⟨_, rfl⟩
          replace hf := ob_let hf ev_10
          refine lv_iinc (v := v_10) (lv' := [(3, .int v_10), (2, .int v_9), (0, .ref h_), (1, .ref h_p1)]) hx hb dX5_survey_73 hl (k := 3) rfl (by rw [ev_10]; rfl) (by decide) rfl (fun ls hl => ?_)
          refine lv_goto (tgt := 43) hx hb dX5_survey_76 (by decide) ?_
          cases hf
          exact ih a_6 a_7 v_9 v_10 ex _ _ _ (h9 _ rfl) (lv_sub hl [2, 3, 1, 0] rfl) hW kx0
    obtain ⟨e_11, hc_11, hf⟩ := ob_bind hf
    refine hB43 lfuel s_span s_stride 1 v_4 e_11 _ _ _ hc_11 (lv_sub hl [2, 3, 1, 0] rfl) hW ?_
    intro H locs ls hl hW
    refine lv_iconst (v := 0) hx hb dX5_survey_79 (by decide) ?_
    refine lv_istore_n (lv' := [(3, .int 0), (0, .ref h_), (1, .ref h_p1)]) hx hb dX5_survey_80 rfl hl (by decide) rfl (fun ls hl => ?_)
    have hB81 : ∀ (n : Nat) (s_tip_81 : Nat → Int32) (s_walk_firstFault_81 : Int32) (s_walk_firstLink_81 : Int32) (s_walk_tipX_81 : Int32) (s_walk_tipY_81 : Int32) (s_walk_beginX_81 : Nat → Int32) (s_walk_beginY_81 : Nat → Int32) (s_walk_direction_81 : Nat → Int32) (s_walk_trodden_81 : Nat → Int32) (s_values_81 : Nat → Int32) (z3_81 : Int32) (ex : (Nat → Int32) × Int32 × Int32 × Int32 × Int32 × (Nat → Int32) × (Nat → Int32) × (Nat → Int32) × (Nat → Int32) × (Nat → Int32)) (H : Heap) (locs : List Loc) (ls : Array Slot), LPF (fun z => f_X5_survey_B81 s_known v_3 v_1 e_11.1 e_11.2 z.1 z.2.1 z.2.2.1 z.2.2.2.1 z.2.2.2.2.1 z.2.2.2.2.2.1 z.2.2.2.2.2.2.1 z.2.2.2.2.2.2.2.1 z.2.2.2.2.2.2.2.2.1 z.2.2.2.2.2.2.2.2.2.1 s_p1_links s_p1_length s_p1_lower s_p1_upper s_p1_blocked z.2.2.2.2.2.2.2.2.2.2) n (s_tip_81, s_walk_firstFault_81, s_walk_firstLink_81, s_walk_tipX_81, s_walk_tipY_81, s_walk_beginX_81, s_walk_beginY_81, s_walk_direction_81, s_walk_trodden_81, s_values_81, z3_81) = some ex → lv_has ls 4 [(0, .ref h_), (1, .ref h_p1), (3, .int z3_81)] → WD D A s (w_X5_survey E h_ h_span h_stride h_tip h_distance h_found h_changes h_walk h_values h_walk_beginX h_walk_beginY h_walk_direction h_walk_trodden h_p1 h_p1_length h_p1_lower h_p1_upper h_p1_value h_p1_obstacleX h_p1_obstacleY h_p1_blocked s_known v_3 v_1 s_reached e_11.1 e_11.2 s_tip_81 s_walk_firstFault_81 s_walk_firstLink_81 s_walk_tipX_81 s_walk_tipY_81 s_walk_beginX_81 s_walk_beginY_81 s_walk_direction_81 s_walk_trodden_81 s_values_81 s_p1_links s_p1_obstacles s_p1_length s_p1_lower s_p1_upper s_p1_blocked) H locs → (∀ (H : Heap) (locs : List Loc) (ls : Array Slot), lv_has ls 4 [(0, .ref h_)] → WD D A s (w_X5_survey E h_ h_span h_stride h_tip h_distance h_found h_changes h_walk h_values h_walk_beginX h_walk_beginY h_walk_direction h_walk_trodden h_p1 h_p1_length h_p1_lower h_p1_upper h_p1_value h_p1_obstacleX h_p1_obstacleY h_p1_blocked s_known v_3 v_1 s_reached e_11.1 e_11.2 ex.1 ex.2.1 ex.2.2.1 ex.2.2.2.1 ex.2.2.2.2.1 ex.2.2.2.2.2.1 ex.2.2.2.2.2.2.1 ex.2.2.2.2.2.2.2.1 ex.2.2.2.2.2.2.2.2.1 ex.2.2.2.2.2.2.2.2.2 s_p1_links s_p1_obstacles s_p1_length s_p1_lower s_p1_upper s_p1_blocked) H locs → W p l e (RM 3 110) s m args below meth c H locs 0 0 Q (F0 m 153 ls [])) → W p l e (RM 3 110) s m args below meth c H locs 0 0 Q (F0 m 81 ls []) := by
      intro n
      induction n with
      | zero => intro s_tip_81 s_walk_firstFault_81 s_walk_firstLink_81 s_walk_tipX_81 s_walk_tipY_81 s_walk_beginX_81 s_walk_beginY_81 s_walk_direction_81 s_walk_trodden_81 s_values_81 z3_81 ex H locs ls h9; exact (ob_lp0 h9).elim
      | succ n ih =>
        intro s_tip_81 s_walk_firstFault_81 s_walk_firstLink_81 s_walk_tipX_81 s_walk_tipY_81 s_walk_beginX_81 s_walk_beginY_81 s_walk_direction_81 s_walk_trodden_81 s_values_81 z3_81 ex H locs ls h9 hl hW kx0
        obtain ⟨q9, hf, h9, k9⟩ := ob_lp h9
        have hf : f_X5_survey_B81 s_known v_3 v_1 e_11.1 e_11.2 s_tip_81 s_walk_firstFault_81 s_walk_firstLink_81 s_walk_tipX_81 s_walk_tipY_81 s_walk_beginX_81 s_walk_beginY_81 s_walk_direction_81 s_walk_trodden_81 s_values_81 s_p1_links s_p1_length s_p1_lower s_p1_upper s_p1_blocked z3_81 = some q9 := hf
        unfold f_X5_survey_B81 at hf
        have hL146 : ∀ (s_tip_146 : Nat → Int32) (s_walk_firstFault_146 : Int32) (s_walk_firstLink_146 : Int32) (s_walk_tipX_146 : Int32) (s_walk_tipY_146 : Int32) (s_walk_beginX_146 : Nat → Int32) (s_walk_beginY_146 : Nat → Int32) (s_walk_direction_146 : Nat → Int32) (s_walk_trodden_146 : Nat → Int32) (s_values_146 : Nat → Int32) (y3_146 : Int32) (k1_146 : Int32) (k2_146 : Int32) (H : Heap) (locs : List Loc) (ls : Array Slot), f_X5_survey_L146 s_known v_3 v_1 e_11.1 e_11.2 s_tip_146 s_walk_firstFault_146 s_walk_firstLink_146 s_walk_tipX_146 s_walk_tipY_146 s_walk_beginX_146 s_walk_beginY_146 s_walk_direction_146 s_walk_trodden_146 s_values_146 s_p1_links s_p1_length s_p1_lower s_p1_upper s_p1_blocked y3_146 k1_146 k2_146 = some q9 → lv_has ls 4 [(0, .ref h_), (1, .ref h_p1), (3, .int y3_146)] → WD D A s (w_X5_survey E h_ h_span h_stride h_tip h_distance h_found h_changes h_walk h_values h_walk_beginX h_walk_beginY h_walk_direction h_walk_trodden h_p1 h_p1_length h_p1_lower h_p1_upper h_p1_value h_p1_obstacleX h_p1_obstacleY h_p1_blocked s_known v_3 v_1 s_reached e_11.1 e_11.2 s_tip_146 s_walk_firstFault_146 s_walk_firstLink_146 s_walk_tipX_146 s_walk_tipY_146 s_walk_beginX_146 s_walk_beginY_146 s_walk_direction_146 s_walk_trodden_146 s_values_146 s_p1_links s_p1_obstacles s_p1_length s_p1_lower s_p1_upper s_p1_blocked) H locs → W p l e (RM 3 110) s m args below meth c H locs 0 0 Q (F0 m 146 ls [.int k2_146, .int k1_146, .ref h_tip]) := by
          intro s_tip_146 s_walk_firstFault_146 s_walk_firstLink_146 s_walk_tipX_146 s_walk_tipY_146 s_walk_beginX_146 s_walk_beginY_146 s_walk_direction_146 s_walk_trodden_146 s_values_146 y3_146 k1_146 k2_146 H locs ls hf hl hW
          unfold f_X5_survey_L146 at hf
          refine q_iast hx hb hK hW 3 0 rfl rfl dX5_survey_146 hf (fun a_12 hf H locs hW => ?_)
          have hW : WD D A s (w_X5_survey E h_ h_span h_stride h_tip h_distance h_found h_changes h_walk h_values h_walk_beginX h_walk_beginY h_walk_direction h_walk_trodden h_p1 h_p1_length h_p1_lower h_p1_upper h_p1_value h_p1_obstacleX h_p1_obstacleY h_p1_blocked s_known v_3 v_1 s_reached e_11.1 e_11.2 a_12 s_walk_firstFault_146 s_walk_firstLink_146 s_walk_tipX_146 s_walk_tipY_146 s_walk_beginX_146 s_walk_beginY_146 s_walk_direction_146 s_walk_trodden_146 s_values_146 s_p1_links s_p1_obstacles s_p1_length s_p1_lower s_p1_upper s_p1_blocked) H locs := hW
          obtain ⟨v_13, ev_13⟩ : ∃ y : Int32, y = y3_146 + 1 := ⟨_, rfl⟩
          replace hf := ob_let hf ev_13
          refine lv_iinc (v := v_13) (lv' := [(3, .int v_13), (0, .ref h_), (1, .ref h_p1)]) hx hb dX5_survey_147 hl (k := 2) rfl (by rw [ev_13]; rfl) (by decide) rfl (fun ls hl => ?_)
          refine lv_goto (tgt := 81) hx hb dX5_survey_150 (by decide) ?_
          cases hf
          exact ih a_12 s_walk_firstFault_146 s_walk_firstLink_146 s_walk_tipX_146 s_walk_tipY_146 s_walk_beginX_146 s_walk_beginY_146 s_walk_direction_146 s_walk_trodden_146 s_values_146 v_13 ex _ _ _ (h9 _ rfl) (lv_sub hl [1, 2, 0] rfl) hW kx0
        refine lv_iload_n hx hb dX5_survey_81 rfl (lv_at hl 2 rfl) ?_
        refine lv_aload_n hx hb dX5_survey_82 rfl (lv_at hl 0 rfl) ?_
        refine q_get hF hK hW fl_X5_15 0 rfl rfl dX5_survey_83 ?_
        refine q_icmp_ge (tgt := 153) hx hb dX5_survey_86 (by decide) hf (fun hf => ?_) (fun hf => ?_)
        · cases hf
          have hx9 := k9 _ rfl
          subst hx9
          exact kx0 _ _ _ (lv_sub hl [0] rfl) hW
        · refine lv_aload_n hx hb dX5_survey_89 rfl (lv_at hl 1 rfl) ?_
          refine lv_iload_n hx hb dX5_survey_90 rfl (lv_at hl 2 rfl) ?_
          refine lv_aload_n hx hb dX5_survey_91 rfl (lv_at hl 0 rfl) ?_
          refine q_get hF hK hW fl_X5_52 0 rfl rfl dX5_survey_92 ?_
          obtain ⟨o_14, hc_14, hf⟩ := ob_bind hf
          refine q_callV hF hl.1 hK hA hZ hW mv_X4_readPose ml_X5_70 (c_X4_readPose l D E tx h_p1 h_p1_length h_p1_lower h_p1_upper h_p1_value h_p1_obstacleX h_p1_obstacleY h_p1_blocked h_values s_p1_links s_p1_obstacles s_p1_lower s_p1_upper s_values_81 z3_81 o_14 hc_14) [10, 12, 13, 9] rfl rfl rfl rfl rfl rfl ⟨Nat.le_of_ble_eq_true rfl, Nat.le_of_ble_eq_true rfl⟩ ⟨Nat.le_of_ble_eq_true rfl, Nat.le_of_ble_eq_true rfl⟩ rfl rfl (Nat.le_of_ble_eq_true rfl) dX5_survey_95 (fun H locs hW => ?_)
          have hW : WD D A s (w_X5_survey E h_ h_span h_stride h_tip h_distance h_found h_changes h_walk h_values h_walk_beginX h_walk_beginY h_walk_direction h_walk_trodden h_p1 h_p1_length h_p1_lower h_p1_upper h_p1_value h_p1_obstacleX h_p1_obstacleY h_p1_blocked s_known v_3 v_1 s_reached e_11.1 e_11.2 s_tip_81 s_walk_firstFault_81 s_walk_firstLink_81 s_walk_tipX_81 s_walk_tipY_81 s_walk_beginX_81 s_walk_beginY_81 s_walk_direction_81 s_walk_trodden_81 o_14 s_p1_links s_p1_obstacles s_p1_length s_p1_lower s_p1_upper s_p1_blocked) H locs := hW
          refine lv_aload_n hx hb dX5_survey_98 rfl (lv_at hl 0 rfl) ?_
          refine q_get hF hK hW fl_X5_48 0 rfl rfl dX5_survey_99 ?_
          refine lv_aload_n hx hb dX5_survey_102 rfl (lv_at hl 1 rfl) ?_
          refine lv_aload_n hx hb dX5_survey_103 rfl (lv_at hl 0 rfl) ?_
          refine q_get hF hK hW fl_X5_52 0 rfl rfl dX5_survey_104 ?_
          obtain ⟨o_15, hc_15, hf⟩ := ob_bind hf
          refine q_callV hF hl.1 hK hA hZ hW mv_X6_along ml_X5_74 (c_X6_along_row l D E tx h_walk h_walk_beginX h_walk_beginY h_walk_direction h_walk_trodden h_p1 h_p1_length h_p1_lower h_p1_upper h_p1_value h_p1_obstacleX h_p1_obstacleY h_p1_blocked h_values s_walk_firstFault_81 s_walk_firstLink_81 s_walk_tipX_81 s_walk_tipY_81 s_walk_beginX_81 s_walk_beginY_81 s_walk_direction_81 s_walk_trodden_81 s_p1_links s_p1_obstacles s_p1_length s_p1_blocked o_14 o_15.1 o_15.2.1 o_15.2.2.1 o_15.2.2.2.1 o_15.2.2.2.2.1 o_15.2.2.2.2.2.1 o_15.2.2.2.2.2.2.1 o_15.2.2.2.2.2.2.2 hc_15) [4, 5, 6, 7, 8, 10, 11, 14, 9] rfl rfl rfl rfl rfl rfl ⟨Nat.le_of_ble_eq_true rfl, Nat.le_of_ble_eq_true rfl⟩ ⟨Nat.le_of_ble_eq_true rfl, Nat.le_of_ble_eq_true rfl⟩ rfl rfl (Nat.le_of_ble_eq_true rfl) dX5_survey_107 (fun H locs hW => ?_)
          have hW : WD D A s (w_X5_survey E h_ h_span h_stride h_tip h_distance h_found h_changes h_walk h_values h_walk_beginX h_walk_beginY h_walk_direction h_walk_trodden h_p1 h_p1_length h_p1_lower h_p1_upper h_p1_value h_p1_obstacleX h_p1_obstacleY h_p1_blocked s_known v_3 v_1 s_reached e_11.1 e_11.2 s_tip_81 o_15.1 o_15.2.1 o_15.2.2.1 o_15.2.2.2.1 o_15.2.2.2.2.1 o_15.2.2.2.2.2.1 o_15.2.2.2.2.2.2.1 o_15.2.2.2.2.2.2.2 o_14 s_p1_links s_p1_obstacles s_p1_length s_p1_lower s_p1_upper s_p1_blocked) H locs := hW
          refine lv_aload_n hx hb dX5_survey_110 rfl (lv_at hl 0 rfl) ?_
          refine q_get hF hK hW fl_X5_29 0 rfl rfl dX5_survey_111 ?_
          refine lv_iload_n hx hb dX5_survey_114 rfl (lv_at hl 2 rfl) ?_
          refine lv_aload_n hx hb dX5_survey_115 rfl (lv_at hl 0 rfl) ?_
          refine q_get hF hK hW fl_X5_48 0 rfl rfl dX5_survey_116 ?_
          refine q_get hF hK hW fl_X5_78 4 rfl rfl dX5_survey_119 ?_
          refine q_if_ne (tgt := 145) hx hb dX5_survey_122 (by decide) hf (fun hf => ?_) (fun hf => ?_)
          · refine lv_iconst (v := (-1)) hx hb dX5_survey_145 (by decide) ?_
            exact hL146 s_tip_81 o_15.1 o_15.2.1 o_15.2.2.1 o_15.2.2.2.1 o_15.2.2.2.2.1 o_15.2.2.2.2.2.1 o_15.2.2.2.2.2.2.1 o_15.2.2.2.2.2.2.2 o_14 z3_81 z3_81 ((-1)) _ _ _ hf (lv_sub hl [0, 1, 2] rfl) hW
          · refine lv_aload_n hx hb dX5_survey_125 rfl (lv_at hl 0 rfl) ?_
            refine q_get hF hK hW fl_X5_48 0 rfl rfl dX5_survey_126 ?_
            refine q_get hF hK hW fl_X5_81 4 rfl rfl dX5_survey_129 ?_
            refine lv_aload_n hx hb dX5_survey_132 rfl (lv_at hl 0 rfl) ?_
            refine q_get hF hK hW fl_X5_48 0 rfl rfl dX5_survey_133 ?_
            refine q_get hF hK hW fl_X5_84 4 rfl rfl dX5_survey_136 ?_
            obtain ⟨o_16, hc_16, hf⟩ := ob_bind hf
            refine q_callNI hF hl.1 hK hA hZ hW ms_X7_cellNumber nw_X5_87 (c_X7_cellNumber l D E tx o_15.2.2.1 o_15.2.2.2.1 o_16 hc_16) [] rfl rfl rfl ⟨Nat.le_of_ble_eq_true rfl, Nat.le_of_ble_eq_true rfl⟩ ⟨Nat.le_of_ble_eq_true rfl, Nat.le_of_ble_eq_true rfl⟩ rfl rfl (Nat.le_of_ble_eq_true rfl) dX5_survey_139 (fun H locs hW => ?_)
            have hW : WD D A s (w_X5_survey E h_ h_span h_stride h_tip h_distance h_found h_changes h_walk h_values h_walk_beginX h_walk_beginY h_walk_direction h_walk_trodden h_p1 h_p1_length h_p1_lower h_p1_upper h_p1_value h_p1_obstacleX h_p1_obstacleY h_p1_blocked s_known v_3 v_1 s_reached e_11.1 e_11.2 s_tip_81 o_15.1 o_15.2.1 o_15.2.2.1 o_15.2.2.2.1 o_15.2.2.2.2.1 o_15.2.2.2.2.2.1 o_15.2.2.2.2.2.2.1 o_15.2.2.2.2.2.2.2 o_14 s_p1_links s_p1_obstacles s_p1_length s_p1_lower s_p1_upper s_p1_blocked) H locs := hW
            refine lv_goto (tgt := 146) hx hb dX5_survey_142 (by decide) ?_
            exact hL146 s_tip_81 o_15.1 o_15.2.1 o_15.2.2.1 o_15.2.2.2.1 o_15.2.2.2.2.1 o_15.2.2.2.2.2.1 o_15.2.2.2.2.2.2.1 o_15.2.2.2.2.2.2.2 o_14 z3_81 z3_81 o_16 _ _ _ hf (lv_sub hl [0, 1, 2] rfl) hW
    obtain ⟨e_17, hc_17, hf⟩ := ob_bind hf
    refine hB81 lfuel s_tip s_walk_firstFault s_walk_firstLink s_walk_tipX s_walk_tipY s_walk_beginX s_walk_beginY s_walk_direction s_walk_trodden s_values 0 e_17 _ _ _ hc_17 (lv_sub hl [1, 2, 0] rfl) hW ?_
    intro H locs ls hl hW
    refine lv_aload_n hx hb dX5_survey_153 rfl (lv_at hl 0 rfl) ?_
    refine lv_iconst (v := 1) hx hb dX5_survey_154 (by decide) ?_
    refine q_put hF hK hW fl_X5_9 ft_X5 rfl 0 rfl rfl (by decide) (Nat.le_of_ble_eq_true rfl) dX5_survey_155 (fun H locs hW => ?_)
    have hW : WD D A s (w_X5_survey E h_ h_span h_stride h_tip h_distance h_found h_changes h_walk h_values h_walk_beginX h_walk_beginY h_walk_direction h_walk_trodden h_p1 h_p1_length h_p1_lower h_p1_upper h_p1_value h_p1_obstacleX h_p1_obstacleY h_p1_blocked 1 v_3 v_1 s_reached e_11.1 e_11.2 e_17.1 e_17.2.1 e_17.2.2.1 e_17.2.2.2.1 e_17.2.2.2.2.1 e_17.2.2.2.2.2.1 e_17.2.2.2.2.2.2.1 e_17.2.2.2.2.2.2.2.1 e_17.2.2.2.2.2.2.2.2.1 e_17.2.2.2.2.2.2.2.2.2 s_p1_links s_p1_obstacles s_p1_length s_p1_lower s_p1_upper s_p1_blocked) H locs := hW
    cases hf
    exact hret dX5_survey_158 hW
  · cases hf
    exact hret dX5_survey_7 hW
