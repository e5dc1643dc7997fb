def f_X7_tallyTips_B10 (s_space_poses_10 : Int32) (s_space_reached_10 : Int32) (s_space_tip_10 : Nat → Int32) (s_space_found_10 : Nat → Int32) (s_tally_10 : Nat → Int32) (z1_10 : Int32) : Option (((Nat → Int32) × Int32) ⊕ ((Nat → Int32))) := if s_space_reached_10 ≤ z1_10 then (some (.inr s_tally_10)) else ((f_X5_reachedPose s_space_reached_10 s_space_found_10 z1_10).bind fun o_2 => (f_X5_tipOf s_space_poses_10 s_space_tip_10 o_2).bind fun o_3 => (f_X7_isCellNumber o_3).bind fun o_4 => if o_4 = 0 then (LET (z1_10 + 1 : Int32) fun v_5 => some (.inl ((s_tally_10, v_5)))) else (GD o_3 441 <| GD o_3 441 <| LET (upd s_tally_10 o_3.toNatClampNeg ((s_tally_10 o_3.toNatClampNeg) + 1)) fun a_6 => LET (z1_10 + 1 : Int32) fun v_7 => some (.inl ((a_6, v_7)))))
def f_X7_tallyTips (s_space_poses : Int32) (s_space_reached : Int32) (s_space_tip : Nat → Int32) (s_space_found : Nat → Int32) (s_tally : Nat → Int32)  : Option ((Nat → Int32)) := (f_J7_fill_53178_441 s_tally 0).bind fun o_1 => (LPF (fun z => f_X7_tallyTips_B10 s_space_poses s_space_reached s_space_tip s_space_found z.1 z.2) lfuel (o_1, 0)).bind fun e_8 => some e_8
def w_X7_tallyTips (E : Nat → ClassId) (h_ h_now h_saved h_draft h_history h_walk h_space h_route h_bookmarks h_input h_trial h_tally h_space_span h_space_stride h_space_tip h_space_distance h_space_found h_space_changes h_space_walk h_space_values : Nat) (s_hasSaved : Int32) (s_keptError : Int32) (s_space_known : Int32) (s_space_poses : Int32) (s_space_links : Int32) (s_space_reached : Int32) (s_space_tip : Nat → Int32) (s_space_found : Nat → Int32) (s_tally : Nat → Int32) : va_W := [(h_, .inr (9, [.ref h_now, .ref h_saved, .ref h_draft, .ref h_history, .ref h_walk, .ref h_space, .ref h_route, .ref h_bookmarks, .ref h_input, .ref h_trial, .ref h_tally, .int s_hasSaved, .int s_keptError])), (h_space, .inr (7, [.int s_space_known, .int s_space_poses, .int s_space_links, .ref h_space_span, .ref h_space_stride, .ref h_space_tip, .ref h_space_distance, .ref h_space_found, .int s_space_reached, .ref h_space_changes, .ref h_space_walk, .ref h_space_values])), (h_space_tip, .inl (E 0, 5000, .inl s_space_tip)), (h_space_found, .inl (E 0, 5000, .inl s_space_found)), (h_tally, .inl (E 0, 441, .inl s_tally))]
set_option maxHeartbeats 4000000 in
set_option maxRecDepth 100000 in
theorem c_X7_tallyTips (l : Launch) (D : va_G) (E : Nat → ClassId) (tx : List (Nat × String)) (h_ h_now h_saved h_draft h_history h_walk h_space h_route h_bookmarks h_input h_trial h_tally h_space_span h_space_stride h_space_tip h_space_distance h_space_found h_space_changes h_space_walk h_space_values : Nat) (s_hasSaved : Int32) (s_keptError : Int32) (s_space_known : Int32) (s_space_poses : Int32) (s_space_links : Int32) (s_space_reached : Int32) (s_space_tip : Nat → Int32) (s_space_found : Nat → Int32) (s_tally : Nat → Int32)  (o : (Nat → Int32)) (hf : f_X7_tallyTips s_space_poses s_space_reached s_space_tip s_space_found s_tally = some o) : CV l yX7_tallyTips cX7_tallyTips 3 2 42 D E tx [.ref h_] (w_X7_tallyTips E h_ h_now h_saved h_draft h_history h_walk h_space h_route h_bookmarks h_input h_trial h_tally h_space_span h_space_stride h_space_tip h_space_distance h_space_found h_space_changes h_space_walk h_space_values s_hasSaved s_keptError s_space_known s_space_poses s_space_links s_space_reached s_space_tip s_space_found s_tally) (w_X7_tallyTips E h_ h_now h_saved h_draft h_history h_walk h_space h_route h_bookmarks h_input h_trial h_tally h_space_span h_space_stride h_space_tip h_space_distance h_space_found h_space_changes h_space_walk h_space_values s_hasSaved s_keptError s_space_known s_space_poses s_space_links s_space_reached s_space_tip s_space_found o) := by
  refine CV_of RX7 pn_X7 rfl (Nat.le_of_ble_eq_true rfl) (fun p e s m args below meth c A Q hF hK hA hZ hW hret ls hl => ?_)
  have hx := hF.1
  have hb := hF.2.1
  have hl : lv_has ls 3 [(0, .ref h_)] := hl
  unfold f_X7_tallyTips at hf
  refine lv_aload_n hx hb dX7_tallyTips_0 rfl (lv_at hl 0 rfl) ?_
  refine q_get hF hK hW fl_X7_68 0 rfl rfl dX7_tallyTips_1 ?_
  refine lv_iconst (v := 0) hx hb dX7_tallyTips_4 (by decide) ?_
  obtain ⟨o_1, hc_1, hf⟩ := ob_bind hf
  refine q_callSV hF hl.1 hK hA hZ hW ms_J7_fill_53178 ml_X7_391 (c_J7_fill_53178_441 l D E tx h_tally s_tally 0 o_1 hc_1) [4] rfl rfl rfl ⟨Nat.le_of_ble_eq_true rfl, Nat.le_of_ble_eq_true rfl⟩ ⟨Nat.le_of_ble_eq_true rfl, Nat.le_of_ble_eq_true rfl⟩ rfl rfl (Nat.le_of_ble_eq_true rfl) dX7_tallyTips_5 (fun H locs hW => ?_)
  have hW : WD D A s (w_X7_tallyTips E h_ h_now h_saved h_draft h_history h_walk h_space h_route h_bookmarks h_input h_trial h_tally h_space_span h_space_stride h_space_tip h_space_distance h_space_found h_space_changes h_space_walk h_space_values s_hasSaved s_keptError s_space_known s_space_poses s_space_links s_space_reached s_space_tip s_space_found o_1) H locs := hW
  refine lv_iconst (v := 0) hx hb dX7_tallyTips_8 (by decide) ?_
  refine lv_istore_n (lv' := [(1, .int 0), (0, .ref h_)]) hx hb dX7_tallyTips_9 rfl hl (by decide) rfl (fun ls hl => ?_)
  have hB10 : ∀ (n : Nat) (s_tally_10 : Nat → Int32) (z1_10 : Int32) (ex : (Nat → Int32)) (H : Heap) (locs : List Loc) (ls : Array Slot), LPF (fun z => f_X7_tallyTips_B10 s_space_poses s_space_reached s_space_tip s_space_found z.1 z.2) n (s_tally_10, z1_10) = some ex → lv_has ls 3 [(0, .ref h_), (1, .int z1_10)] → WD D A s (w_X7_tallyTips E h_ h_now h_saved h_draft h_history h_walk h_space h_route h_bookmarks h_input h_trial h_tally h_space_span h_space_stride h_space_tip h_space_distance h_space_found h_space_changes h_space_walk h_space_values s_hasSaved s_keptError s_space_known s_space_poses s_space_links s_space_reached s_space_tip s_space_found s_tally_10) H locs → (∀ (H : Heap) (locs : List Loc) (ls : Array Slot), lv_has ls 3 [] → WD D A s (w_X7_tallyTips E h_ h_now h_saved h_draft h_history h_walk h_space h_route h_bookmarks h_input h_trial h_tally h_space_span h_space_stride h_space_tip h_space_distance h_space_found h_space_changes h_space_walk h_space_values s_hasSaved s_keptError s_space_known s_space_poses s_space_links s_space_reached s_space_tip s_space_found ex) H locs → W p l e (RM 2 42) s m args below meth c H locs 0 0 Q (F0 m 60 ls [])) → W p l e (RM 2 42) s m args below meth c H locs 0 0 Q (F0 m 10 ls []) := by
    intro n
    induction n with
    | zero => intro s_tally_10 z1_10 ex H locs ls h9; exact (ob_lp0 h9).elim
    | succ n ih =>
      intro s_tally_10 z1_10 ex H locs ls h9 hl hW kx0
      obtain ⟨q9, hf, h9, k9⟩ := ob_lp h9
      have hf : f_X7_tallyTips_B10 s_space_poses s_space_reached s_space_tip s_space_found s_tally_10 z1_10 = some q9 := hf
      unfold f_X7_tallyTips_B10 at hf
      refine lv_iload_n hx hb dX7_tallyTips_10 rfl (lv_at hl 1 rfl) ?_
      refine lv_aload_n hx hb dX7_tallyTips_11 rfl (lv_at hl 0 rfl) ?_
      refine q_get hF hK hW fl_X7_39 0 rfl rfl dX7_tallyTips_12 ?_
      refine q_get hF hK hW fl_X7_306 1 rfl rfl dX7_tallyTips_15 ?_
      refine q_icmp_ge (tgt := 60) hx hb dX7_tallyTips_18 (by decide) hf (fun hf => ?_) (fun hf => ?_)
      · cases hf
        have hx9 := k9 _ rfl
        subst hx9
        exact kx0 _ _ _ (lv_sub hl [] rfl) hW
      · refine lv_aload_n hx hb dX7_tallyTips_21 rfl (lv_at hl 0 rfl) ?_
        refine q_get hF hK hW fl_X7_39 0 rfl rfl dX7_tallyTips_22 ?_
        refine lv_aload_n hx hb dX7_tallyTips_25 rfl (lv_at hl 0 rfl) ?_
        refine q_get hF hK hW fl_X7_39 0 rfl rfl dX7_tallyTips_26 ?_
        refine lv_iload_n hx hb dX7_tallyTips_29 rfl (lv_at hl 1 rfl) ?_
        obtain ⟨o_2, hc_2, hf⟩ := ob_bind hf
        refine q_callI hF hl.1 hK hA hZ hW mv_X5_reachedPose ml_X7_319 (c_X5_reachedPose l D E tx h_space h_space_span h_space_stride h_space_tip h_space_distance h_space_found h_space_changes h_space_walk h_space_values s_space_known s_space_poses s_space_links s_space_reached s_space_found z1_10 o_2 hc_2) [1, 3] rfl rfl rfl rfl rfl rfl ⟨Nat.le_of_ble_eq_true rfl, Nat.le_of_ble_eq_true rfl⟩ ⟨Nat.le_of_ble_eq_true rfl, Nat.le_of_ble_eq_true rfl⟩ rfl rfl (Nat.le_of_ble_eq_true rfl) dX7_tallyTips_30 (fun H locs hW => ?_)
        have hW : WD D A s (w_X7_tallyTips E h_ h_now h_saved h_draft h_history h_walk h_space h_route h_bookmarks h_input h_trial h_tally h_space_span h_space_stride h_space_tip h_space_distance h_space_found h_space_changes h_space_walk h_space_values s_hasSaved s_keptError s_space_known s_space_poses s_space_links s_space_reached s_space_tip s_space_found s_tally_10) H locs := hW
        obtain ⟨o_3, hc_3, hf⟩ := ob_bind hf
        refine q_callI hF hl.1 hK hA hZ hW mv_X5_tipOf ml_X7_297 (c_X5_tipOf l D E tx h_space h_space_span h_space_stride h_space_tip h_space_distance h_space_found h_space_changes h_space_walk h_space_values s_space_known s_space_poses s_space_links s_space_reached s_space_tip o_2 o_3 hc_3) [1, 2] rfl rfl rfl rfl rfl rfl ⟨Nat.le_of_ble_eq_true rfl, Nat.le_of_ble_eq_true rfl⟩ ⟨Nat.le_of_ble_eq_true rfl, Nat.le_of_ble_eq_true rfl⟩ rfl rfl (Nat.le_of_ble_eq_true rfl) dX7_tallyTips_33 (fun H locs hW => ?_)
        have hW : WD D A s (w_X7_tallyTips E h_ h_now h_saved h_draft h_history h_walk h_space h_route h_bookmarks h_input h_trial h_tally h_space_span h_space_stride h_space_tip h_space_distance h_space_found h_space_changes h_space_walk h_space_values s_hasSaved s_keptError s_space_known s_space_poses s_space_links s_space_reached s_space_tip s_space_found s_tally_10) H locs := hW
        refine lv_istore_n (lv' := [(2, .int o_3), (0, .ref h_), (1, .int z1_10)]) hx hb dX7_tallyTips_36 rfl hl (by decide) rfl (fun ls hl => ?_)
        refine lv_iload_n hx hb dX7_tallyTips_37 rfl (lv_at hl 0 rfl) ?_
        obtain ⟨o_4, hc_4, hf⟩ := ob_bind hf
        refine q_callSI hF hl.1 hK hA hZ hW ms_X7_isCellNumber ml_X7_400 (c_X7_isCellNumber l D E tx o_3 o_4 hc_4) [] rfl rfl rfl ⟨Nat.le_of_ble_eq_true rfl, Nat.le_of_ble_eq_true rfl⟩ ⟨Nat.le_of_ble_eq_true rfl, Nat.le_of_ble_eq_true rfl⟩ rfl rfl (Nat.le_of_ble_eq_true rfl) dX7_tallyTips_38 (fun H locs hW => ?_)
        have hW : WD D A s (w_X7_tallyTips E h_ h_now h_saved h_draft h_history h_walk h_space h_route h_bookmarks h_input h_trial h_tally h_space_span h_space_stride h_space_tip h_space_distance h_space_found h_space_changes h_space_walk h_space_values s_hasSaved s_keptError s_space_known s_space_poses s_space_links s_space_reached s_space_tip s_space_found s_tally_10) H locs := hW
        refine q_if_eq (tgt := 54) hx hb dX7_tallyTips_41 (by decide) hf (fun hf => ?_) (fun hf => ?_)
        · obtain ⟨v_5, ev_5⟩ : ∃ y : Int32, y = z1_10 + 1 := ⟨_, rfl⟩
          replace hf := ob_let hf ev_5
          refine lv_iinc (v := v_5) (lv' := [(1, .int v_5), (2, .int o_3), (0, .ref h_)]) hx hb dX7_tallyTips_54 hl (k := 2) rfl (by rw [ev_5]; rfl) (by decide) rfl (fun ls hl => ?_)
          refine lv_goto (tgt := 10) hx hb dX7_tallyTips_57 (by decide) ?_
          cases hf
          exact ih s_tally_10 v_5 ex _ _ _ (h9 _ rfl) (lv_sub hl [2, 0] rfl) hW kx0
        · refine lv_aload_n hx hb dX7_tallyTips_44 rfl (lv_at hl 1 rfl) ?_
          refine q_get hF hK hW fl_X7_68 0 rfl rfl dX7_tallyTips_45 ?_
          refine lv_iload_n hx hb dX7_tallyTips_48 rfl (lv_at hl 0 rfl) ?_
          refine lv_dup2_11 hx hb dX7_tallyTips_49 rfl rfl ?_
          refine q_iald hx hb hK hW 4 0 rfl rfl dX7_tallyTips_50 hf (fun hf => ?_)
          refine lv_iconst (v := 1) hx hb dX7_tallyTips_51 (by decide) ?_
          refine lv_iadd hx hb dX7_tallyTips_52 ?_
          refine q_iast hx hb hK hW 4 0 rfl rfl dX7_tallyTips_53 hf (fun a_6 hf H locs hW => ?_)
          have hW : WD D A s (w_X7_tallyTips E h_ h_now h_saved h_draft h_history h_walk h_space h_route h_bookmarks h_input h_trial h_tally h_space_span h_space_stride h_space_tip h_space_distance h_space_found h_space_changes h_space_walk h_space_values s_hasSaved s_keptError s_space_known s_space_poses s_space_links s_space_reached s_space_tip s_space_found a_6) H locs := hW
          obtain ⟨v_7, ev_7⟩ : ∃ y : Int32, y = z1_10 + 1 := ⟨_, rfl⟩
          replace hf := ob_let hf ev_7
          refine lv_iinc (v := v_7) (lv' := [(1, .int v_7), (2, .int o_3), (0, .ref h_)]) hx hb dX7_tallyTips_54 hl (k := 2) rfl (by rw [ev_7]; rfl) (by decide) rfl (fun ls hl => ?_)
          refine lv_goto (tgt := 10) hx hb dX7_tallyTips_57 (by decide) ?_
          cases hf
          exact ih a_6 v_7 ex _ _ _ (h9 _ rfl) (lv_sub hl [2, 0] rfl) hW kx0
  obtain ⟨e_8, hc_8, hf⟩ := ob_bind hf
  refine hB10 lfuel o_1 0 e_8 _ _ _ hc_8 (lv_sub hl [1, 0] rfl) hW ?_
  intro H locs ls hl hW
  cases hf
  exact hret dX7_tallyTips_60 hW
