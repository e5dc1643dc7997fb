def f_X7_winding_B4 (s_now_links_4 : Int32) (s_now_value_4 : Nat → Int32) (z1_4 : Int32) (z2_4 : Int32) : Option ((Int32 × Int32) ⊕ (Int32)) := if s_now_links_4 ≤ z2_4 then (some (.inr z1_4)) else (if 4 ≤ z2_4 then (some (.inr z1_4)) else (GD z2_4 4 <| LET (z1_4 + (s_now_value_4 z2_4.toNatClampNeg) : Int32) fun v_1 => LET (z2_4 + 1 : Int32) fun v_2 => some (.inl ((v_1, v_2)))))
def f_X7_winding (s_now_links : Int32) (s_now_value : Nat → Int32)  : Option (Int32) := (LPF (fun z => f_X7_winding_B4 s_now_links s_now_value z.1 z.2) lfuel (0, 0)).bind fun e_3 => (f_J9_floorDiv_7cf53 e_3 8).bind fun o_4 => some o_4
def w_X7_winding (E : Nat → ClassId) (h_ h_now h_saved h_draft h_history h_walk h_space h_route h_bookmarks h_input h_trial h_tally h_now_length h_now_lower h_now_upper h_now_value h_now_obstacleX h_now_obstacleY h_now_blocked : Nat) (s_hasSaved : Int32) (s_keptError : Int32) (s_now_links : Int32) (s_now_obstacles : Int32) (s_now_value : Nat → Int32) : va_W := [(h_, .inr (9, [.ref h_now, .ref h_saved, .ref h_draft, .ref h_history, .ref h_walk, .ref h_space, .ref h_route, .ref h_bookmarks, .ref h_input, .ref h_trial, .ref h_tally, .int s_hasSaved, .int s_keptError])), (h_now, .inr (6, [.int s_now_links, .ref h_now_length, .ref h_now_lower, .ref h_now_upper, .ref h_now_value, .int s_now_obstacles, .ref h_now_obstacleX, .ref h_now_obstacleY, .ref h_now_blocked])), (h_now_value, .inl (E 0, 4, .inl s_now_value))]
set_option maxHeartbeats 4000000 in
set_option maxRecDepth 100000 in
theorem c_X7_winding (l : Launch) (D : va_G) (E : Nat → ClassId) (tx : List (Nat × String)) (h_ h_now h_saved h_draft h_history h_walk h_space h_route h_bookmarks h_input h_trial h_tally h_now_length h_now_lower h_now_upper h_now_value h_now_obstacleX h_now_obstacleY h_now_blocked : Nat) (s_hasSaved : Int32) (s_keptError : Int32) (s_now_links : Int32) (s_now_obstacles : Int32) (s_now_value : Nat → Int32)  (o : Int32) (hf : f_X7_winding s_now_links s_now_value = some o) : CI l yX7_winding cX7_winding 3 (some .int) 1 22 D E tx [.ref h_] (w_X7_winding E h_ h_now h_saved h_draft h_history h_walk h_space h_route h_bookmarks h_input h_trial h_tally h_now_length h_now_lower h_now_upper h_now_value h_now_obstacleX h_now_obstacleY h_now_blocked s_hasSaved s_keptError s_now_links s_now_obstacles s_now_value) (w_X7_winding E h_ h_now h_saved h_draft h_history h_walk h_space h_route h_bookmarks h_input h_trial h_tally h_now_length h_now_lower h_now_upper h_now_value h_now_obstacleX h_now_obstacleY h_now_blocked s_hasSaved s_keptError s_now_links s_now_obstacles s_now_value) o := by
  refine CI_of RX7 pn_X7 rfl (Nat.le_of_ble_eq_true rfl) (fun p e s m args below meth c A Q hF hK hA hZ hW hret ls hl => ?_)
  have hx := hF.1
  have hb := hF.2.1
  have hl : lv_has ls 3 [(0, .ref h_)] := hl
  unfold f_X7_winding at hf
  refine lv_iconst (v := 0) hx hb dX7_winding_0 (by decide) ?_
  refine lv_istore_n (lv' := [(1, .int 0), (0, .ref h_)]) hx hb dX7_winding_1 rfl hl (by decide) rfl (fun ls hl => ?_)
  refine lv_iconst (v := 0) hx hb dX7_winding_2 (by decide) ?_
  refine lv_istore_n (lv' := [(2, .int 0), (1, .int 0), (0, .ref h_)]) hx hb dX7_winding_3 rfl hl (by decide) rfl (fun ls hl => ?_)
  have hB4 : ∀ (n : Nat) (z1_4 : Int32) (z2_4 : Int32) (ex : Int32) (H : Heap) (locs : List Loc) (ls : Array Slot), LPF (fun z => f_X7_winding_B4 s_now_links s_now_value z.1 z.2) n (z1_4, z2_4) = some ex → lv_has ls 3 [(0, .ref h_), (1, .int z1_4), (2, .int z2_4)] → WD D A s (w_X7_winding E h_ h_now h_saved h_draft h_history h_walk h_space h_route h_bookmarks h_input h_trial h_tally h_now_length h_now_lower h_now_upper h_now_value h_now_obstacleX h_now_obstacleY h_now_blocked s_hasSaved s_keptError s_now_links s_now_obstacles s_now_value) H locs → (∀ (H : Heap) (locs : List Loc) (ls : Array Slot), lv_has ls 3 [(1, .int ex)] → WD D A s (w_X7_winding E h_ h_now h_saved h_draft h_history h_walk h_space h_route h_bookmarks h_input h_trial h_tally h_now_length h_now_lower h_now_upper h_now_value h_now_obstacleX h_now_obstacleY h_now_blocked s_hasSaved s_keptError s_now_links s_now_obstacles s_now_value) H locs → W p l e (RM 1 22) s m args below meth c H locs 0 0 Q (F0 m 38 ls [])) → W p l e (RM 1 22) s m args below meth c H locs 0 0 Q (F0 m 4 ls []) := by
    intro n
    induction n with
    | zero => intro z1_4 z2_4 ex H locs ls h9; exact (ob_lp0 h9).elim
    | succ n ih =>
      intro z1_4 z2_4 ex H locs ls h9 hl hW kx0
      obtain ⟨q9, hf, h9, k9⟩ := ob_lp h9
      have hf : f_X7_winding_B4 s_now_links s_now_value z1_4 z2_4 = some q9 := hf
      unfold f_X7_winding_B4 at hf
      refine lv_iload_n hx hb dX7_winding_4 rfl (lv_at hl 2 rfl) ?_
      refine lv_aload_n hx hb dX7_winding_5 rfl (lv_at hl 0 rfl) ?_
      refine q_get hF hK hW fl_X7_12 0 rfl rfl dX7_winding_6 ?_
      refine q_get hF hK hW fl_X7_79 1 rfl rfl dX7_winding_9 ?_
      refine q_icmp_ge (tgt := 38) hx hb dX7_winding_12 (by decide) hf (fun hf => ?_) (fun hf => ?_)
      · cases hf
        have hx9 := k9 _ rfl
        subst hx9
        exact kx0 _ _ _ (lv_sub hl [1] rfl) hW
      · refine lv_iload_n hx hb dX7_winding_15 rfl (lv_at hl 2 rfl) ?_
        refine lv_iconst (v := 4) hx hb dX7_winding_16 (by decide) ?_
        refine q_icmp_ge (tgt := 38) hx hb dX7_winding_17 (by decide) hf (fun hf => ?_) (fun hf => ?_)
        · cases hf
          have hx9 := k9 _ rfl
          subst hx9
          exact kx0 _ _ _ (lv_sub hl [1] rfl) hW
        · refine lv_iload_n hx hb dX7_winding_20 rfl (lv_at hl 1 rfl) ?_
          refine lv_aload_n hx hb dX7_winding_21 rfl (lv_at hl 0 rfl) ?_
          refine q_get hF hK hW fl_X7_12 0 rfl rfl dX7_winding_22 ?_
          refine q_get hF hK hW fl_X7_172 1 rfl rfl dX7_winding_25 ?_
          refine lv_iload_n hx hb dX7_winding_28 rfl (lv_at hl 2 rfl) ?_
          refine q_iald hx hb hK hW 2 0 rfl rfl dX7_winding_29 hf (fun hf => ?_)
          refine lv_iadd hx hb dX7_winding_30 ?_
          refine lv_topi (fun v_1 ev_1 => ?_)
          replace hf := ob_let hf ev_1
          refine lv_istore_n (lv' := [(1, .int v_1), (0, .ref h_), (2, .int z2_4)]) hx hb dX7_winding_31 rfl hl (by decide) rfl (fun ls hl => ?_)
          obtain ⟨v_2, ev_2⟩ : ∃ y : Int32, y = z2_4 + 1 := ⟨_, rfl⟩
          replace hf := ob_let hf ev_2
          refine lv_iinc (v := v_2) (lv' := [(2, .int v_2), (1, .int v_1), (0, .ref h_)]) hx hb dX7_winding_32 hl (k := 2) rfl (by rw [ev_2]; rfl) (by decide) rfl (fun ls hl => ?_)
          refine lv_goto (tgt := 4) hx hb dX7_winding_35 (by decide) ?_
          cases hf
          exact ih v_1 v_2 ex _ _ _ (h9 _ rfl) (lv_sub hl [2, 1, 0] rfl) hW kx0
  obtain ⟨e_3, hc_3, hf⟩ := ob_bind hf
  refine hB4 lfuel 0 0 e_3 _ _ _ hc_3 (lv_sub hl [2, 1, 0] rfl) hW ?_
  intro H locs ls hl hW
  refine lv_iload_n hx hb dX7_winding_38 rfl (lv_at hl 0 rfl) ?_
  refine lv_bipush (v := 8) hx hb dX7_winding_39 (by decide) ?_
  obtain ⟨o_4, hc_4, hf⟩ := ob_bind hf
  refine q_callSI hF hl.1 hK hA hZ hW ms_J9_floorDiv_7cf53 ml_X7_276 (c_J9_floorDiv_7cf53 l D E tx e_3 8 o_4 hc_4) [] rfl rfl rfl ⟨Nat.le_of_ble_eq_true rfl, Nat.le_of_ble_eq_true rfl⟩ ⟨Nat.le_of_ble_eq_true rfl, Nat.le_of_ble_eq_true rfl⟩ rfl rfl (Nat.le_of_ble_eq_true rfl) dX7_winding_41 (fun H locs hW => ?_)
  have hW : WD D A s (w_X7_winding E h_ h_now h_saved h_draft h_history h_walk h_space h_route h_bookmarks h_input h_trial h_tally h_now_length h_now_lower h_now_upper h_now_value h_now_obstacleX h_now_obstacleY h_now_blocked s_hasSaved s_keptError s_now_links s_now_obstacles s_now_value) H locs := hW
  cases hf
  exact hret dX7_winding_44 rfl rfl hW
