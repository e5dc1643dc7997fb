def f_X7_distanceToObstacles_B7 (s_now_obstacles_7 : Int32) (s_now_obstacleX_7 : Nat → Int32) (s_now_obstacleY_7 : Nat → Int32) (z1_7 : Int32) (z2_7 : Int32) (z3_7 : Int32) (z4_7 : Int32) : Option ((Int32 × Int32) ⊕ (Int32)) := if s_now_obstacles_7 ≤ z4_7 then (some (.inr z3_7)) else (if 60 ≤ z4_7 then (some (.inr z3_7)) else (GD z4_7 60 <| GD z4_7 60 <| (f_X7_distance z1_7 z2_7 (s_now_obstacleX_7 z4_7.toNatClampNeg) (s_now_obstacleY_7 z4_7.toNatClampNeg)).bind fun o_1 => LET (imin z3_7 o_1 : Int32) fun v_2 => LET (z4_7 + 1 : Int32) fun v_3 => some (.inl ((v_2, v_3)))))
def f_X7_distanceToObstacles (s_now_obstacles : Int32) (s_now_obstacleX : Nat → Int32) (s_now_obstacleY : Nat → Int32) (x1 : Int32) (x2 : Int32) : Option (Int32) := (LPF (fun z => f_X7_distanceToObstacles_B7 s_now_obstacles s_now_obstacleX s_now_obstacleY x1 x2 z.1 z.2) lfuel (2147483647, 0)).bind fun e_4 => some e_4
def w_X7_distanceToObstacles (E : Nat → ClassId) (h_ h_now h_saved h_draft h_history h_walk h_space h_route h_bookmarks h_input h_trial h_tally h_now_length h_now_lower h_now_upper h_now_value h_now_obstacleX h_now_obstacleY h_now_blocked : Nat) (s_hasSaved : Int32) (s_keptError : Int32) (s_now_links : Int32) (s_now_obstacles : Int32) (s_now_obstacleX : Nat → Int32) (s_now_obstacleY : Nat → Int32) : va_W := [(h_, .inr (9, [.ref h_now, .ref h_saved, .ref h_draft, .ref h_history, .ref h_walk, .ref h_space, .ref h_route, .ref h_bookmarks, .ref h_input, .ref h_trial, .ref h_tally, .int s_hasSaved, .int s_keptError])), (h_now, .inr (6, [.int s_now_links, .ref h_now_length, .ref h_now_lower, .ref h_now_upper, .ref h_now_value, .int s_now_obstacles, .ref h_now_obstacleX, .ref h_now_obstacleY, .ref h_now_blocked])), (h_now_obstacleX, .inl (E 0, 60, .inl s_now_obstacleX)), (h_now_obstacleY, .inl (E 0, 60, .inl s_now_obstacleY))]
set_option maxHeartbeats 4000000 in
set_option maxRecDepth 100000 in
theorem c_X7_distanceToObstacles (l : Launch) (D : va_G) (E : Nat → ClassId) (tx : List (Nat × String)) (h_ h_now h_saved h_draft h_history h_walk h_space h_route h_bookmarks h_input h_trial h_tally h_now_length h_now_lower h_now_upper h_now_value h_now_obstacleX h_now_obstacleY h_now_blocked : Nat) (s_hasSaved : Int32) (s_keptError : Int32) (s_now_links : Int32) (s_now_obstacles : Int32) (s_now_obstacleX : Nat → Int32) (s_now_obstacleY : Nat → Int32) (x1 : Int32) (x2 : Int32) (o : Int32) (hf : f_X7_distanceToObstacles s_now_obstacles s_now_obstacleX s_now_obstacleY x1 x2 = some o) : CI l yX7_distanceToObstacles cX7_distanceToObstacles 5 (some .int) 2 87 D E tx [.ref h_, .int x1, .int x2] (w_X7_distanceToObstacles E h_ h_now h_saved h_draft h_history h_walk h_space h_route h_bookmarks h_input h_trial h_tally h_now_length h_now_lower h_now_upper h_now_value h_now_obstacleX h_now_obstacleY h_now_blocked s_hasSaved s_keptError s_now_links s_now_obstacles s_now_obstacleX s_now_obstacleY) (w_X7_distanceToObstacles E h_ h_now h_saved h_draft h_history h_walk h_space h_route h_bookmarks h_input h_trial h_tally h_now_length h_now_lower h_now_upper h_now_value h_now_obstacleX h_now_obstacleY h_now_blocked s_hasSaved s_keptError s_now_links s_now_obstacles s_now_obstacleX s_now_obstacleY) o := by
  refine CI_of RX7 pn_X7 rfl (Nat.le_of_ble_eq_true rfl) (fun p e s m args below meth c A Q hF hK hA hZ hW hret ls hl => ?_)
  have hx := hF.1
  have hb := hF.2.1
  have hl : lv_has ls 5 [(0, .ref h_), (1, .int x1), (2, .int x2)] := hl
  unfold f_X7_distanceToObstacles at hf
  refine lv_ldcw (v := 2147483647) hx hb hF.2.2.2.1 (hF.2.2.2.2 _ lc_X7_494) dX7_distanceToObstacles_0 ?_
  refine lv_istore_n (lv' := [(3, .int 2147483647), (0, .ref h_), (1, .int x1), (2, .int x2)]) hx hb dX7_distanceToObstacles_3 rfl hl (by decide) rfl (fun ls hl => ?_)
  refine lv_iconst (v := 0) hx hb dX7_distanceToObstacles_4 (by decide) ?_
  refine lv_istore (lv' := [(4, .int 0), (3, .int 2147483647), (0, .ref h_), (1, .int x1), (2, .int x2)]) hx hb dX7_distanceToObstacles_5 hl (by decide) rfl (fun ls hl => ?_)
  have hB7 : ∀ (n : Nat) (z3_7 : Int32) (z4_7 : Int32) (ex : Int32) (H : Heap) (locs : List Loc) (ls : Array Slot), LPF (fun z => f_X7_distanceToObstacles_B7 s_now_obstacles s_now_obstacleX s_now_obstacleY x1 x2 z.1 z.2) n (z3_7, z4_7) = some ex → lv_has ls 5 [(0, .ref h_), (1, .int x1), (2, .int x2), (3, .int z3_7), (4, .int z4_7)] → WD D A s (w_X7_distanceToObstacles E h_ h_now h_saved h_draft h_history h_walk h_space h_route h_bookmarks h_input h_trial h_tally h_now_length h_now_lower h_now_upper h_now_value h_now_obstacleX h_now_obstacleY h_now_blocked s_hasSaved s_keptError s_now_links s_now_obstacles s_now_obstacleX s_now_obstacleY) H locs → (∀ (H : Heap) (locs : List Loc) (ls : Array Slot), lv_has ls 5 [(3, .int ex)] → WD D A s (w_X7_distanceToObstacles E h_ h_now h_saved h_draft h_history h_walk h_space h_route h_bookmarks h_input h_trial h_tally h_now_length h_now_lower h_now_upper h_now_value h_now_obstacleX h_now_obstacleY h_now_blocked s_hasSaved s_keptError s_now_links s_now_obstacles s_now_obstacleX s_now_obstacleY) H locs → W p l e (RM 2 87) s m args below meth c H locs 0 0 Q (F0 m 62 ls [])) → W p l e (RM 2 87) s m args below meth c H locs 0 0 Q (F0 m 7 ls []) := by
    intro n
    induction n with
    | zero => intro z3_7 z4_7 ex H locs ls h9; exact (ob_lp0 h9).elim
    | succ n ih =>
      intro z3_7 z4_7 ex H locs ls h9 hl hW kx0
      obtain ⟨q9, hf, h9, k9⟩ := ob_lp h9
      have hf : f_X7_distanceToObstacles_B7 s_now_obstacles s_now_obstacleX s_now_obstacleY x1 x2 z3_7 z4_7 = some q9 := hf
      unfold f_X7_distanceToObstacles_B7 at hf
      refine lv_iload hx hb dX7_distanceToObstacles_7 (lv_at hl 4 rfl) ?_
      refine lv_aload_n hx hb dX7_distanceToObstacles_9 rfl (lv_at hl 0 rfl) ?_
      refine q_get hF hK hW fl_X7_12 0 rfl rfl dX7_distanceToObstacles_10 ?_
      refine q_get hF hK hW fl_X7_143 1 rfl rfl dX7_distanceToObstacles_13 ?_
      refine q_icmp_ge (tgt := 62) hx hb dX7_distanceToObstacles_16 (by decide) hf (fun hf => ?_) (fun hf => ?_)
      · cases hf
        have hx9 := k9 _ rfl
        subst hx9
        exact kx0 _ _ _ (lv_sub hl [3] rfl) hW
      · refine lv_iload hx hb dX7_distanceToObstacles_19 (lv_at hl 4 rfl) ?_
        refine lv_bipush (v := 60) hx hb dX7_distanceToObstacles_21 (by decide) ?_
        refine q_icmp_ge (tgt := 62) hx hb dX7_distanceToObstacles_23 (by decide) hf (fun hf => ?_) (fun hf => ?_)
        · cases hf
          have hx9 := k9 _ rfl
          subst hx9
          exact kx0 _ _ _ (lv_sub hl [3] rfl) hW
        · refine lv_iload_n hx hb dX7_distanceToObstacles_26 rfl (lv_at hl 3 rfl) ?_
          refine lv_iload_n hx hb dX7_distanceToObstacles_27 rfl (lv_at hl 1 rfl) ?_
          refine lv_iload_n hx hb dX7_distanceToObstacles_28 rfl (lv_at hl 2 rfl) ?_
          refine lv_aload_n hx hb dX7_distanceToObstacles_29 rfl (lv_at hl 0 rfl) ?_
          refine q_get hF hK hW fl_X7_12 0 rfl rfl dX7_distanceToObstacles_30 ?_
          refine q_get hF hK hW fl_X7_210 1 rfl rfl dX7_distanceToObstacles_33 ?_
          refine lv_iload hx hb dX7_distanceToObstacles_36 (lv_at hl 4 rfl) ?_
          refine q_iald hx hb hK hW 2 0 rfl rfl dX7_distanceToObstacles_38 hf (fun hf => ?_)
          refine lv_aload_n hx hb dX7_distanceToObstacles_39 rfl (lv_at hl 0 rfl) ?_
          refine q_get hF hK hW fl_X7_12 0 rfl rfl dX7_distanceToObstacles_40 ?_
          refine q_get hF hK hW fl_X7_207 1 rfl rfl dX7_distanceToObstacles_43 ?_
          refine lv_iload hx hb dX7_distanceToObstacles_46 (lv_at hl 4 rfl) ?_
          refine q_iald hx hb hK hW 3 0 rfl rfl dX7_distanceToObstacles_48 hf (fun hf => ?_)
          obtain ⟨o_1, hc_1, hf⟩ := ob_bind hf
          refine q_callSI hF hl.1 hK hA hZ hW ms_X7_distance ml_X7_367 (c_X7_distance l D E tx x1 x2 (s_now_obstacleX z4_7.toNatClampNeg) (s_now_obstacleY z4_7.toNatClampNeg) o_1 hc_1) [] rfl rfl rfl ⟨Nat.le_of_ble_eq_true rfl, Nat.le_of_ble_eq_true rfl⟩ ⟨Nat.le_of_ble_eq_true rfl, Nat.le_of_ble_eq_true rfl⟩ rfl rfl (Nat.le_of_ble_eq_true rfl) dX7_distanceToObstacles_49 (fun H locs hW => ?_)
          have hW : WD D A s (w_X7_distanceToObstacles E h_ h_now h_saved h_draft h_history h_walk h_space h_route h_bookmarks h_input h_trial h_tally h_now_length h_now_lower h_now_upper h_now_value h_now_obstacleX h_now_obstacleY h_now_blocked s_hasSaved s_keptError s_now_links s_now_obstacles s_now_obstacleX s_now_obstacleY) H locs := hW
          refine q_min hF hl.1 ml_X7_273 ⟨Nat.le_of_ble_eq_true rfl, Nat.le_of_ble_eq_true rfl⟩ ⟨Nat.le_of_ble_eq_true rfl, Nat.le_of_ble_eq_true rfl⟩ dX7_distanceToObstacles_52 ?_
          refine lv_topi (fun v_2 ev_2 => ?_)
          replace hf := ob_let hf ev_2
          refine lv_istore_n (lv' := [(3, .int v_2), (0, .ref h_), (1, .int x1), (2, .int x2), (4, .int z4_7)]) hx hb dX7_distanceToObstacles_55 rfl hl (by decide) rfl (fun ls hl => ?_)
          obtain ⟨v_3, ev_3⟩ : ∃ y : Int32, y = z4_7 + 1 := ⟨_, rfl⟩
          replace hf := ob_let hf ev_3
          refine lv_iinc (v := v_3) (lv' := [(4, .int v_3), (3, .int v_2), (0, .ref h_), (1, .int x1), (2, .int x2)]) hx hb dX7_distanceToObstacles_56 hl (k := 4) rfl (by rw [ev_3]; rfl) (by decide) rfl (fun ls hl => ?_)
          refine lv_goto (tgt := 7) hx hb dX7_distanceToObstacles_59 (by decide) ?_
          cases hf
          exact ih v_2 v_3 ex _ _ _ (h9 _ rfl) (lv_sub hl [2, 3, 4, 1, 0] rfl) hW kx0
  obtain ⟨e_4, hc_4, hf⟩ := ob_bind hf
  refine hB7 lfuel 2147483647 0 e_4 _ _ _ hc_4 (lv_sub hl [2, 3, 4, 1, 0] rfl) hW ?_
  intro H locs ls hl hW
  refine lv_iload_n hx hb dX7_distanceToObstacles_62 rfl (lv_at hl 0 rfl) ?_
  cases hf
  exact hret dX7_distanceToObstacles_63 rfl rfl hW
