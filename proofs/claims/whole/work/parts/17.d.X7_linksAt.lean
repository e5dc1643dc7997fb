def f_X7_linksAt_B49 (s_now_links_49 : Int32) (s_now_length_49 : Nat → Int32) (s_now_value_49 : Nat → Int32) (s_now_blocked_49 : Nat → Int32) (s_walk_firstFault_49 : Int32) (s_walk_firstLink_49 : Int32) (s_walk_tipX_49 : Int32) (s_walk_tipY_49 : Int32) (s_walk_beginX_49 : Nat → Int32) (s_walk_beginY_49 : Nat → Int32) (s_walk_direction_49 : Nat → Int32) (s_walk_trodden_49 : Nat → Int32) (z1_49 : Int32) (z2_49 : Int32) (z3_49 : Int32) (z4_49 : Int32) (z5_49 : Int32) : Option ((Int32 × Int32) ⊕ (Int32)) := GD z4_49 4 <| if (s_now_length_49 z4_49.toNatClampNeg) < z5_49 then (some (.inr z3_49)) else ((f_X6_cellX s_walk_beginX_49 s_walk_direction_49 z4_49 z5_49).bind fun o_3 => if o_3 = z1_49 then ((f_X6_cellY s_walk_beginY_49 s_walk_direction_49 z4_49 z5_49).bind fun o_5 => if o_5 = z2_49 then (LET (z3_49 ||| (1 <<< (z4_49 &&& 31)) : Int32) fun v_7 => LET (z5_49 + 1 : Int32) fun v_8 => some (.inl ((v_7, v_8)))) else (LET (z5_49 + 1 : Int32) fun v_6 => some (.inl ((z3_49, v_6))))) else (LET (z5_49 + 1 : Int32) fun v_4 => some (.inl ((z3_49, v_4)))))
def f_X7_linksAt_B28 (s_now_links_28 : Int32) (s_now_length_28 : Nat → Int32) (s_now_value_28 : Nat → Int32) (s_now_blocked_28 : Nat → Int32) (s_walk_firstFault_28 : Int32) (s_walk_firstLink_28 : Int32) (s_walk_tipX_28 : Int32) (s_walk_tipY_28 : Int32) (s_walk_beginX_28 : Nat → Int32) (s_walk_beginY_28 : Nat → Int32) (s_walk_direction_28 : Nat → Int32) (s_walk_trodden_28 : Nat → Int32) (z1_28 : Int32) (z2_28 : Int32) (z3_28 : Int32) (z4_28 : Int32) : Option ((Int32 × Int32) ⊕ (Int32)) := if s_now_links_28 ≤ z4_28 then (some (.inr z3_28)) else (if 4 ≤ z4_28 then (some (.inr z3_28)) else ((LPF (fun z => f_X7_linksAt_B49 s_now_links_28 s_now_length_28 s_now_value_28 s_now_blocked_28 s_walk_firstFault_28 s_walk_firstLink_28 s_walk_tipX_28 s_walk_tipY_28 s_walk_beginX_28 s_walk_beginY_28 s_walk_direction_28 s_walk_trodden_28 z1_28 z2_28 z.1 z4_28 z.2) lfuel (z3_28, 0)).bind fun e_9 => LET (z4_28 + 1 : Int32) fun v_10 => some (.inl ((e_9, v_10)))))
def f_X7_linksAt (s_now_links : Int32) (s_now_length : Nat → Int32) (s_now_value : Nat → Int32) (s_now_blocked : Nat → Int32) (s_walk_firstFault : Int32) (s_walk_firstLink : Int32) (s_walk_tipX : Int32) (s_walk_tipY : Int32) (s_walk_beginX : Nat → Int32) (s_walk_beginY : Nat → Int32) (s_walk_direction : Nat → Int32) (s_walk_trodden : Nat → Int32) (x1 : Int32) (x2 : Int32) : Option (Nat × Int32 × Int32 × Int32 × Int32 × Int32 × (Nat → Int32) × (Nat → Int32) × (Nat → Int32) × (Nat → Int32)) := (f_X7_requireCell x1 x2).bind fun o_1 => if o_1 = 0 then ((f_X6_along_own s_walk_firstFault s_walk_firstLink s_walk_tipX s_walk_tipY s_walk_beginX s_walk_beginY s_walk_direction s_walk_trodden s_now_links s_now_length s_now_value s_now_blocked).bind fun o_2 => (LPF (fun z => f_X7_linksAt_B28 s_now_links s_now_length s_now_value s_now_blocked o_2.1 o_2.2.1 o_2.2.2.1 o_2.2.2.2.1 o_2.2.2.2.2.1 o_2.2.2.2.2.2.1 o_2.2.2.2.2.2.2.1 o_2.2.2.2.2.2.2.2 x1 x2 z.1 z.2) lfuel (0, 0)).bind fun e_11 => some ((0, e_11, o_2.1, o_2.2.1, o_2.2.2.1, o_2.2.2.2.1, o_2.2.2.2.2.1, o_2.2.2.2.2.2.1, o_2.2.2.2.2.2.2.1, o_2.2.2.2.2.2.2.2))) else (some ((o_1, 0, s_walk_firstFault, s_walk_firstLink, s_walk_tipX, s_walk_tipY, s_walk_beginX, s_walk_beginY, s_walk_direction, s_walk_trodden)))
def w_X7_linksAt (E : Nat → ClassId) (h_ h_now h_saved h_draft h_history h_walk h_space h_route h_bookmarks h_input h_trial h_tally h_now_length h_now_lower h_now_upper h_now_value h_now_obstacleX h_now_obstacleY h_now_blocked h_walk_beginX h_walk_beginY h_walk_direction h_walk_trodden : Nat) (s_hasSaved : Int32) (s_keptError : Int32) (s_now_links : Int32) (s_now_obstacles : Int32) (s_now_length : Nat → Int32) (s_now_value : Nat → Int32) (s_now_blocked : Nat → Int32) (s_walk_firstFault : Int32) (s_walk_firstLink : Int32) (s_walk_tipX : Int32) (s_walk_tipY : Int32) (s_walk_beginX : Nat → Int32) (s_walk_beginY : Nat → Int32) (s_walk_direction : Nat → Int32) (s_walk_trodden : Nat → Int32) : va_W := [(h_, .inr (9, [.ref h_now, .ref h_saved, .ref h_draft, .ref h_history, .ref h_walk, .ref h_space, .ref h_route, .ref h_bookmarks, .ref h_input, .ref h_trial, .ref h_tally, .int s_hasSaved, .int s_keptError])), (h_now, .inr (6, [.int s_now_links, .ref h_now_length, .ref h_now_lower, .ref h_now_upper, .ref h_now_value, .int s_now_obstacles, .ref h_now_obstacleX, .ref h_now_obstacleY, .ref h_now_blocked])), (h_now_length, .inl (E 0, 4, .inl s_now_length)), (h_now_value, .inl (E 0, 4, .inl s_now_value)), (h_now_blocked, .inl (E 0, 21, .inl s_now_blocked)), (h_walk, .inr (8, [.int s_walk_firstFault, .int s_walk_firstLink, .int s_walk_tipX, .int s_walk_tipY, .ref h_walk_beginX, .ref h_walk_beginY, .ref h_walk_direction, .ref h_walk_trodden])), (h_walk_beginX, .inl (E 0, 4, .inl s_walk_beginX)), (h_walk_beginY, .inl (E 0, 4, .inl s_walk_beginY)), (h_walk_direction, .inl (E 0, 4, .inl s_walk_direction)), (h_walk_trodden, .inl (E 0, 21, .inl s_walk_trodden))]
set_option maxHeartbeats 4000000 in
set_option maxRecDepth 100000 in
theorem c_X7_linksAt (l : Launch) (hlt : l.stackTraces = false) (D : va_G) (E : Nat → ClassId) (h_ h_now h_saved h_draft h_history h_walk h_space h_route h_bookmarks h_input h_trial h_tally h_now_length h_now_lower h_now_upper h_now_value h_now_obstacleX h_now_obstacleY h_now_blocked h_walk_beginX h_walk_beginY h_walk_direction h_walk_trodden : Nat) (s_hasSaved : Int32) (s_keptError : Int32) (s_now_links : Int32) (s_now_obstacles : Int32) (s_now_length : Nat → Int32) (s_now_value : Nat → Int32) (s_now_blocked : Nat → Int32) (s_walk_firstFault : Int32) (s_walk_firstLink : Int32) (s_walk_tipX : Int32) (s_walk_tipY : Int32) (s_walk_beginX : Nat → Int32) (s_walk_beginY : Nat → Int32) (s_walk_direction : Nat → Int32) (s_walk_trodden : Nat → Int32) (x1 : Int32) (x2 : Int32) (o : Nat × Int32 × Int32 × Int32 × Int32 × Int32 × (Nat → Int32) × (Nat → Int32) × (Nat → Int32) × (Nat → Int32)) (hf : f_X7_linksAt s_now_links s_now_length s_now_value s_now_blocked s_walk_firstFault s_walk_firstLink s_walk_tipX s_walk_tipY s_walk_beginX s_walk_beginY s_walk_direction s_walk_trodden x1 x2 = some o) : XI l yX7_linksAt cX7_linksAt 6 (some .int) 7 117 1 6 D E TXL [.ref h_, .int x1, .int x2] (w_X7_linksAt E h_ h_now h_saved h_draft h_history h_walk h_space h_route h_bookmarks h_input h_trial h_tally h_now_length h_now_lower h_now_upper h_now_value h_now_obstacleX h_now_obstacleY h_now_blocked h_walk_beginX h_walk_beginY h_walk_direction h_walk_trodden s_hasSaved s_keptError s_now_links s_now_obstacles s_now_length s_now_value s_now_blocked s_walk_firstFault s_walk_firstLink s_walk_tipX s_walk_tipY s_walk_beginX s_walk_beginY s_walk_direction s_walk_trodden) (w_X7_linksAt E h_ h_now h_saved h_draft h_history h_walk h_space h_route h_bookmarks h_input h_trial h_tally h_now_length h_now_lower h_now_upper h_now_value h_now_obstacleX h_now_obstacleY h_now_blocked h_walk_beginX h_walk_beginY h_walk_direction h_walk_trodden s_hasSaved s_keptError s_now_links s_now_obstacles s_now_length s_now_value s_now_blocked o.2.2.1 o.2.2.2.1 o.2.2.2.2.1 o.2.2.2.2.2.1 o.2.2.2.2.2.2.1 o.2.2.2.2.2.2.2.1 o.2.2.2.2.2.2.2.2.1 o.2.2.2.2.2.2.2.2.2) o.1 o.2.1 := by
  refine XI_of RX7 hlt (Nat.le_of_ble_eq_true rfl) pn_X7 rfl (Nat.le_of_ble_eq_true rfl) (fun p e s m args below meth c A Q hF hK hA hZ hW hret hthru hthr hthrw ls hl => ?_)
  have hx := hF.1
  have hb := hF.2.1
  have hl : lv_has ls 6 [(0, .ref h_), (1, .int x1), (2, .int x2)] := hl
  unfold f_X7_linksAt at hf
  refine lv_iload_n hx hb dX7_linksAt_0 rfl (lv_at hl 1 rfl) ?_
  refine lv_iload_n hx hb dX7_linksAt_1 rfl (lv_at hl 2 rfl) ?_
  obtain ⟨o_1, hc_1, hf⟩ := ob_bind hf
  refine q_xSV hF hl.1 hK hA hZ hW ms_X7_requireCell ml_X7_137 (c_X7_requireCell l hlt D E x1 x2 o_1 hc_1) [] rfl rfl rfl ⟨Nat.le_of_ble_eq_true rfl, Nat.le_of_ble_eq_true rfl⟩ ⟨Nat.le_of_ble_eq_true rfl, Nat.le_of_ble_eq_true rfl⟩ rfl rfl (Nat.le_of_ble_eq_true rfl) dX7_linksAt_2 (fun hk ce q9 H locs hW g1 g2 g3 => ?_) (fun hk H locs hW => ?_)
  · have hW : WD D A s (w_X7_linksAt E h_ h_now h_saved h_draft h_history h_walk h_space h_route h_bookmarks h_input h_trial h_tally h_now_length h_now_lower h_now_upper h_now_value h_now_obstacleX h_now_obstacleY h_now_blocked h_walk_beginX h_walk_beginY h_walk_direction h_walk_trodden s_hasSaved s_keptError s_now_links s_now_obstacles s_now_length s_now_value s_now_blocked s_walk_firstFault s_walk_firstLink s_walk_tipX s_walk_tipY s_walk_beginX s_walk_beginY s_walk_direction s_walk_trodden) H locs := hW
    rw [if_neg hk] at hf
    cases hf
    exact hthru rfl hk (Nat.le_of_ble_eq_true rfl) (Nat.le_of_ble_eq_true rfl) hW g1 g2 g3
  · have hW : WD D A s (w_X7_linksAt E h_ h_now h_saved h_draft h_history h_walk h_space h_route h_bookmarks h_input h_trial h_tally h_now_length h_now_lower h_now_upper h_now_value h_now_obstacleX h_now_obstacleY h_now_blocked h_walk_beginX h_walk_beginY h_walk_direction h_walk_trodden s_hasSaved s_keptError s_now_links s_now_obstacles s_now_length s_now_value s_now_blocked s_walk_firstFault s_walk_firstLink s_walk_tipX s_walk_tipY s_walk_beginX s_walk_beginY s_walk_direction s_walk_trodden) H locs := hW
    rw [if_pos hk] at hf
    refine lv_aload_n hx hb dX7_linksAt_5 rfl (lv_at hl 0 rfl) ?_
    refine q_get hF hK hW fl_X7_32 0 rfl rfl dX7_linksAt_6 ?_
    refine lv_aload_n hx hb dX7_linksAt_9 rfl (lv_at hl 0 rfl) ?_
    refine q_get hF hK hW fl_X7_12 0 rfl rfl dX7_linksAt_10 ?_
    refine lv_aload_n hx hb dX7_linksAt_13 rfl (lv_at hl 0 rfl) ?_
    refine q_get hF hK hW fl_X7_12 0 rfl rfl dX7_linksAt_14 ?_
    refine q_get hF hK hW fl_X7_172 1 rfl rfl dX7_linksAt_17 ?_
    obtain ⟨o_2, hc_2, hf⟩ := ob_bind hf
    refine q_callV hF hl.1 hK hA hZ hW mv_X6_along ml_X7_175 (c_X6_along_own l D E TXL h_walk h_walk_beginX h_walk_beginY h_walk_direction h_walk_trodden h_now h_now_length h_now_lower h_now_upper h_now_value h_now_obstacleX h_now_obstacleY h_now_blocked s_walk_firstFault s_walk_firstLink s_walk_tipX s_walk_tipY s_walk_beginX s_walk_beginY s_walk_direction s_walk_trodden s_now_links s_now_obstacles s_now_length s_now_value s_now_blocked o_2 hc_2) [5, 6, 7, 8, 9, 1, 2, 3, 4] rfl rfl rfl rfl rfl rfl ⟨Nat.le_of_ble_eq_true rfl, Nat.le_of_ble_eq_true rfl⟩ ⟨Nat.le_of_ble_eq_true rfl, Nat.le_of_ble_eq_true rfl⟩ rfl rfl (Nat.le_of_ble_eq_true rfl) dX7_linksAt_20 (fun H locs hW => ?_)
    have hW : WD D A s (w_X7_linksAt E h_ h_now h_saved h_draft h_history h_walk h_space h_route h_bookmarks h_input h_trial h_tally h_now_length h_now_lower h_now_upper h_now_value h_now_obstacleX h_now_obstacleY h_now_blocked h_walk_beginX h_walk_beginY h_walk_direction h_walk_trodden s_hasSaved s_keptError s_now_links s_now_obstacles s_now_length s_now_value s_now_blocked o_2.1 o_2.2.1 o_2.2.2.1 o_2.2.2.2.1 o_2.2.2.2.2.1 o_2.2.2.2.2.2.1 o_2.2.2.2.2.2.2.1 o_2.2.2.2.2.2.2.2) H locs := hW
    refine lv_iconst (v := 0) hx hb dX7_linksAt_23 (by decide) ?_
    refine lv_istore_n (lv' := [(3, .int 0), (0, .ref h_), (1, .int x1), (2, .int x2)]) hx hb dX7_linksAt_24 rfl hl (by decide) rfl (fun ls hl => ?_)
    refine lv_iconst (v := 0) hx hb dX7_linksAt_25 (by decide) ?_
    refine lv_istore (lv' := [(4, .int 0), (3, .int 0), (0, .ref h_), (1, .int x1), (2, .int x2)]) hx hb dX7_linksAt_26 hl (by decide) rfl (fun ls hl => ?_)
    have hB28 : ∀ (n : Nat) (z3_28 : Int32) (z4_28 : Int32) (ex : Int32) (H : Heap) (locs : List Loc) (ls : Array Slot), LPF (fun z => f_X7_linksAt_B28 s_now_links s_now_length s_now_value s_now_blocked o_2.1 o_2.2.1 o_2.2.2.1 o_2.2.2.2.1 o_2.2.2.2.2.1 o_2.2.2.2.2.2.1 o_2.2.2.2.2.2.2.1 o_2.2.2.2.2.2.2.2 x1 x2 z.1 z.2) n (z3_28, z4_28) = some ex → lv_has ls 6 [(0, .ref h_), (1, .int x1), (2, .int x2), (3, .int z3_28), (4, .int z4_28)] → WD D A s (w_X7_linksAt E h_ h_now h_saved h_draft h_history h_walk h_space h_route h_bookmarks h_input h_trial h_tally h_now_length h_now_lower h_now_upper h_now_value h_now_obstacleX h_now_obstacleY h_now_blocked h_walk_beginX h_walk_beginY h_walk_direction h_walk_trodden s_hasSaved s_keptError s_now_links s_now_obstacles s_now_length s_now_value s_now_blocked o_2.1 o_2.2.1 o_2.2.2.1 o_2.2.2.2.1 o_2.2.2.2.2.1 o_2.2.2.2.2.2.1 o_2.2.2.2.2.2.2.1 o_2.2.2.2.2.2.2.2) H locs → (∀ (H : Heap) (locs : List Loc) (ls : Array Slot), lv_has ls 6 [(3, .int ex)] → WD D A s (w_X7_linksAt E h_ h_now h_saved h_draft h_history h_walk h_space h_route h_bookmarks h_input h_trial h_tally h_now_length h_now_lower h_now_upper h_now_value h_now_obstacleX h_now_obstacleY h_now_blocked h_walk_beginX h_walk_beginY h_walk_direction h_walk_trodden s_hasSaved s_keptError s_now_links s_now_obstacles s_now_length s_now_value s_now_blocked o_2.1 o_2.2.1 o_2.2.2.1 o_2.2.2.2.1 o_2.2.2.2.2.1 o_2.2.2.2.2.2.1 o_2.2.2.2.2.2.2.1 o_2.2.2.2.2.2.2.2) H locs → W p l e (RX_ 7 117 1 6) s m args below meth c H locs 1 6 Q (F0 m 113 ls [])) → W p l e (RX_ 7 117 1 6) s m args below meth c H locs 1 6 Q (F0 m 28 ls []) := by
      intro n
      induction n with
      | zero => intro z3_28 z4_28 ex H locs ls h9; exact (ob_lp0 h9).elim
      | succ n ih =>
        intro z3_28 z4_28 ex H locs ls h9 hl hW kx0
        obtain ⟨q9, hf, h9, k9⟩ := ob_lp h9
        have hf : f_X7_linksAt_B28 s_now_links s_now_length s_now_value s_now_blocked o_2.1 o_2.2.1 o_2.2.2.1 o_2.2.2.2.1 o_2.2.2.2.2.1 o_2.2.2.2.2.2.1 o_2.2.2.2.2.2.2.1 o_2.2.2.2.2.2.2.2 x1 x2 z3_28 z4_28 = some q9 := hf
        unfold f_X7_linksAt_B28 at hf
        refine lv_iload hx hb dX7_linksAt_28 (lv_at hl 4 rfl) ?_
        refine lv_aload_n hx hb dX7_linksAt_30 rfl (lv_at hl 0 rfl) ?_
        refine q_get hF hK hW fl_X7_12 0 rfl rfl dX7_linksAt_31 ?_
        refine q_get hF hK hW fl_X7_79 1 rfl rfl dX7_linksAt_34 ?_
        refine q_icmp_ge (tgt := 113) hx hb dX7_linksAt_37 (by decide) hf (fun hf => ?_) (fun hf => ?_)
        · cases hf
          have hx9 := k9 _ rfl
          subst hx9
          exact kx0 _ _ _ (lv_sub hl [3] rfl) hW
        · refine lv_iload hx hb dX7_linksAt_40 (lv_at hl 4 rfl) ?_
          refine lv_iconst (v := 4) hx hb dX7_linksAt_42 (by decide) ?_
          refine q_icmp_ge (tgt := 113) hx hb dX7_linksAt_43 (by decide) hf (fun hf => ?_) (fun hf => ?_)
          · cases hf
            have hx9 := k9 _ rfl
            subst hx9
            exact kx0 _ _ _ (lv_sub hl [3] rfl) hW
          · refine lv_iconst (v := 0) hx hb dX7_linksAt_46 (by decide) ?_
            refine lv_istore (lv' := [(5, .int 0), (0, .ref h_), (1, .int x1), (2, .int x2), (3, .int z3_28), (4, .int z4_28)]) hx hb dX7_linksAt_47 hl (by decide) rfl (fun ls hl => ?_)
            have hB49 : ∀ (n : Nat) (z3_49 : Int32) (z5_49 : Int32) (ex : Int32) (H : Heap) (locs : List Loc) (ls : Array Slot), LPF (fun z => f_X7_linksAt_B49 s_now_links s_now_length s_now_value s_now_blocked o_2.1 o_2.2.1 o_2.2.2.1 o_2.2.2.2.1 o_2.2.2.2.2.1 o_2.2.2.2.2.2.1 o_2.2.2.2.2.2.2.1 o_2.2.2.2.2.2.2.2 x1 x2 z.1 z4_28 z.2) n (z3_49, z5_49) = some ex → lv_has ls 6 [(0, .ref h_), (1, .int x1), (2, .int x2), (3, .int z3_49), (4, .int z4_28), (5, .int z5_49)] → WD D A s (w_X7_linksAt E h_ h_now h_saved h_draft h_history h_walk h_space h_route h_bookmarks h_input h_trial h_tally h_now_length h_now_lower h_now_upper h_now_value h_now_obstacleX h_now_obstacleY h_now_blocked h_walk_beginX h_walk_beginY h_walk_direction h_walk_trodden s_hasSaved s_keptError s_now_links s_now_obstacles s_now_length s_now_value s_now_blocked o_2.1 o_2.2.1 o_2.2.2.1 o_2.2.2.2.1 o_2.2.2.2.2.1 o_2.2.2.2.2.2.1 o_2.2.2.2.2.2.2.1 o_2.2.2.2.2.2.2.2) H locs → (∀ (H : Heap) (locs : List Loc) (ls : Array Slot), lv_has ls 6 [(0, .ref h_), (1, .int x1), (2, .int x2), (3, .int ex), (4, .int z4_28)] → WD D A s (w_X7_linksAt E h_ h_now h_saved h_draft h_history h_walk h_space h_route h_bookmarks h_input h_trial h_tally h_now_length h_now_lower h_now_upper h_now_value h_now_obstacleX h_now_obstacleY h_now_blocked h_walk_beginX h_walk_beginY h_walk_direction h_walk_trodden s_hasSaved s_keptError s_now_links s_now_obstacles s_now_length s_now_value s_now_blocked o_2.1 o_2.2.1 o_2.2.2.1 o_2.2.2.2.1 o_2.2.2.2.2.1 o_2.2.2.2.2.2.1 o_2.2.2.2.2.2.2.1 o_2.2.2.2.2.2.2.2) H locs → W p l e (RX_ 7 117 1 6) s m args below meth c H locs 1 6 Q (F0 m 107 ls [])) → W p l e (RX_ 7 117 1 6) s m args below meth c H locs 1 6 Q (F0 m 49 ls []) := by
              intro n
              induction n with
              | zero => intro z3_49 z5_49 ex H locs ls h9; exact (ob_lp0 h9).elim
              | succ n ih =>
                intro z3_49 z5_49 ex H locs ls h9 hl hW kx0
                obtain ⟨q9, hf, h9, k9⟩ := ob_lp h9
                have hf : f_X7_linksAt_B49 s_now_links s_now_length s_now_value s_now_blocked o_2.1 o_2.2.1 o_2.2.2.1 o_2.2.2.2.1 o_2.2.2.2.2.1 o_2.2.2.2.2.2.1 o_2.2.2.2.2.2.2.1 o_2.2.2.2.2.2.2.2 x1 x2 z3_49 z4_28 z5_49 = some q9 := hf
                unfold f_X7_linksAt_B49 at hf
                refine lv_iload hx hb dX7_linksAt_49 (lv_at hl 5 rfl) ?_
                refine lv_aload_n hx hb dX7_linksAt_51 rfl (lv_at hl 0 rfl) ?_
                refine q_get hF hK hW fl_X7_12 0 rfl rfl dX7_linksAt_52 ?_
                refine q_get hF hK hW fl_X7_185 1 rfl rfl dX7_linksAt_55 ?_
                refine lv_iload hx hb dX7_linksAt_58 (lv_at hl 4 rfl) ?_
                refine q_iald hx hb hK hW 2 0 rfl rfl dX7_linksAt_60 hf (fun hf => ?_)
                refine q_icmp_gt (tgt := 107) hx hb dX7_linksAt_61 (by decide) hf (fun hf => ?_) (fun hf => ?_)
                · cases hf
                  have hx9 := k9 _ rfl
                  subst hx9
                  exact kx0 _ _ _ (lv_sub hl [0, 1, 2, 3, 4] rfl) hW
                · refine lv_aload_n hx hb dX7_linksAt_64 rfl (lv_at hl 0 rfl) ?_
                  refine q_get hF hK hW fl_X7_32 0 rfl rfl dX7_linksAt_65 ?_
                  refine lv_iload hx hb dX7_linksAt_68 (lv_at hl 4 rfl) ?_
                  refine lv_iload hx hb dX7_linksAt_70 (lv_at hl 5 rfl) ?_
                  obtain ⟨o_3, hc_3, hf⟩ := ob_bind hf
                  refine q_callI hF hl.1 hK hA hZ hW mv_X6_cellX ml_X7_258 (c_X6_cellX l D E TXL h_walk h_walk_beginX h_walk_beginY h_walk_direction h_walk_trodden o_2.1 o_2.2.1 o_2.2.2.1 o_2.2.2.2.1 o_2.2.2.2.2.1 o_2.2.2.2.2.2.2.1 z4_28 z5_49 o_3 hc_3) [5, 6, 8] rfl rfl rfl rfl rfl rfl ⟨Nat.le_of_ble_eq_true rfl, Nat.le_of_ble_eq_true rfl⟩ ⟨Nat.le_of_ble_eq_true rfl, Nat.le_of_ble_eq_true rfl⟩ rfl rfl (Nat.le_of_ble_eq_true rfl) dX7_linksAt_72 (fun H locs hW => ?_)
                  have hW : WD D A s (w_X7_linksAt E h_ h_now h_saved h_draft h_history h_walk h_space h_route h_bookmarks h_input h_trial h_tally h_now_length h_now_lower h_now_upper h_now_value h_now_obstacleX h_now_obstacleY h_now_blocked h_walk_beginX h_walk_beginY h_walk_direction h_walk_trodden s_hasSaved s_keptError s_now_links s_now_obstacles s_now_length s_now_value s_now_blocked o_2.1 o_2.2.1 o_2.2.2.1 o_2.2.2.2.1 o_2.2.2.2.2.1 o_2.2.2.2.2.2.1 o_2.2.2.2.2.2.2.1 o_2.2.2.2.2.2.2.2) H locs := hW
                  refine lv_iload_n hx hb dX7_linksAt_75 rfl (lv_at hl 1 rfl) ?_
                  refine q_icmp_ne (tgt := 101) hx hb dX7_linksAt_76 (by decide) hf (fun hf => ?_) (fun hf => ?_)
                  · obtain ⟨v_4, ev_4⟩ : ∃ y : Int32, y = z5_49 + 1 := ⟨_, rfl⟩
                    replace hf := ob_let hf ev_4
                    refine lv_iinc (v := v_4) (lv' := [(5, .int v_4), (0, .ref h_), (1, .int x1), (2, .int x2), (3, .int z3_49), (4, .int z4_28)]) hx hb dX7_linksAt_101 hl (k := 5) rfl (by rw [ev_4]; rfl) (by decide) rfl (fun ls hl => ?_)
                    refine lv_goto (tgt := 49) hx hb dX7_linksAt_104 (by decide) ?_
                    cases hf
                    exact ih z3_49 v_4 ex _ _ _ (h9 _ rfl) (lv_sub hl [1, 2, 3, 4, 5, 0] rfl) hW kx0
                  · refine lv_aload_n hx hb dX7_linksAt_79 rfl (lv_at hl 0 rfl) ?_
                    refine q_get hF hK hW fl_X7_32 0 rfl rfl dX7_linksAt_80 ?_
                    refine lv_iload hx hb dX7_linksAt_83 (lv_at hl 4 rfl) ?_
                    refine lv_iload hx hb dX7_linksAt_85 (lv_at hl 5 rfl) ?_
                    obtain ⟨o_5, hc_5, hf⟩ := ob_bind hf
                    refine q_callI hF hl.1 hK hA hZ hW mv_X6_cellY ml_X7_261 (c_X6_cellY l D E TXL h_walk h_walk_beginX h_walk_beginY h_walk_direction h_walk_trodden o_2.1 o_2.2.1 o_2.2.2.1 o_2.2.2.2.1 o_2.2.2.2.2.2.1 o_2.2.2.2.2.2.2.1 z4_28 z5_49 o_5 hc_5) [5, 7, 8] rfl rfl rfl rfl rfl rfl ⟨Nat.le_of_ble_eq_true rfl, Nat.le_of_ble_eq_true rfl⟩ ⟨Nat.le_of_ble_eq_true rfl, Nat.le_of_ble_eq_true rfl⟩ rfl rfl (Nat.le_of_ble_eq_true rfl) dX7_linksAt_87 (fun H locs hW => ?_)
                    have hW : WD D A s (w_X7_linksAt E h_ h_now h_saved h_draft h_history h_walk h_space h_route h_bookmarks h_input h_trial h_tally h_now_length h_now_lower h_now_upper h_now_value h_now_obstacleX h_now_obstacleY h_now_blocked h_walk_beginX h_walk_beginY h_walk_direction h_walk_trodden s_hasSaved s_keptError s_now_links s_now_obstacles s_now_length s_now_value s_now_blocked o_2.1 o_2.2.1 o_2.2.2.1 o_2.2.2.2.1 o_2.2.2.2.2.1 o_2.2.2.2.2.2.1 o_2.2.2.2.2.2.2.1 o_2.2.2.2.2.2.2.2) H locs := hW
                    refine lv_iload_n hx hb dX7_linksAt_90 rfl (lv_at hl 2 rfl) ?_
                    refine q_icmp_ne (tgt := 101) hx hb dX7_linksAt_91 (by decide) hf (fun hf => ?_) (fun hf => ?_)
                    · obtain ⟨v_6, ev_6⟩ : ∃ y : Int32, y = z5_49 + 1 := ⟨_, rfl⟩
                      replace hf := ob_let hf ev_6
                      refine lv_iinc (v := v_6) (lv' := [(5, .int v_6), (0, .ref h_), (1, .int x1), (2, .int x2), (3, .int z3_49), (4, .int z4_28)]) hx hb dX7_linksAt_101 hl (k := 5) rfl (by rw [ev_6]; rfl) (by decide) rfl (fun ls hl => ?_)
                      refine lv_goto (tgt := 49) hx hb dX7_linksAt_104 (by decide) ?_
                      cases hf
                      exact ih z3_49 v_6 ex _ _ _ (h9 _ rfl) (lv_sub hl [1, 2, 3, 4, 5, 0] rfl) hW kx0
                    · refine lv_iload_n hx hb dX7_linksAt_94 rfl (lv_at hl 3 rfl) ?_
                      refine lv_iconst (v := 1) hx hb dX7_linksAt_95 (by decide) ?_
                      refine lv_iload hx hb dX7_linksAt_96 (lv_at hl 4 rfl) ?_
                      refine lv_ishl hx hb dX7_linksAt_98 ?_
                      refine lv_ior hx hb dX7_linksAt_99 ?_
                      refine lv_topi (fun v_7 ev_7 => ?_)
                      replace hf := ob_let hf ev_7
                      refine lv_istore_n (lv' := [(3, .int v_7), (0, .ref h_), (1, .int x1), (2, .int x2), (4, .int z4_28), (5, .int z5_49)]) hx hb dX7_linksAt_100 rfl hl (by decide) rfl (fun ls hl => ?_)
                      obtain ⟨v_8, ev_8⟩ : ∃ y : Int32, y = z5_49 + 1 := ⟨_, rfl⟩
                      replace hf := ob_let hf ev_8
                      refine lv_iinc (v := v_8) (lv' := [(5, .int v_8), (3, .int v_7), (0, .ref h_), (1, .int x1), (2, .int x2), (4, .int z4_28)]) hx hb dX7_linksAt_101 hl (k := 5) rfl (by rw [ev_8]; rfl) (by decide) rfl (fun ls hl => ?_)
                      refine lv_goto (tgt := 49) hx hb dX7_linksAt_104 (by decide) ?_
                      cases hf
                      exact ih v_7 v_8 ex _ _ _ (h9 _ rfl) (lv_sub hl [2, 3, 4, 1, 5, 0] rfl) hW kx0
            obtain ⟨e_9, hc_9, hf⟩ := ob_bind hf
            refine hB49 lfuel z3_28 0 e_9 _ _ _ hc_9 (lv_sub hl [1, 2, 3, 4, 5, 0] rfl) hW ?_
            intro H locs ls hl hW
            obtain ⟨v_10, ev_10⟩ : ∃ y : Int32, y = z4_28 + 1 := ⟨_, rfl⟩
            replace hf := ob_let hf ev_10
            refine lv_iinc (v := v_10) (lv' := [(4, .int v_10), (0, .ref h_), (1, .int x1), (2, .int x2), (3, .int e_9)]) hx hb dX7_linksAt_107 hl (k := 4) rfl (by rw [ev_10]; rfl) (by decide) rfl (fun ls hl => ?_)
            refine lv_goto (tgt := 28) hx hb dX7_linksAt_110 (by decide) ?_
            cases hf
            exact ih e_9 v_10 ex _ _ _ (h9 _ rfl) (lv_sub hl [1, 2, 3, 4, 0] rfl) hW kx0
    obtain ⟨e_11, hc_11, hf⟩ := ob_bind hf
    refine hB28 lfuel 0 0 e_11 _ _ _ hc_11 (lv_sub hl [2, 3, 4, 1, 0] rfl) hW ?_
    intro H locs ls hl hW
    refine lv_iload_n hx hb dX7_linksAt_113 rfl (lv_at hl 0 rfl) ?_
    cases hf
    exact hret dX7_linksAt_114 rfl rfl rfl (Nat.le_of_ble_eq_true rfl) (Nat.le_of_ble_eq_true rfl) hW
