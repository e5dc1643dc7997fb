def w_X3_begin (E : Nat → ClassId) (h_ h_steps : Nat) (s_planned : Int32) (s_start : Int32) (s_size : Int32) (s_position : Int32) : va_W := [(h_, .inr (5, [.int s_planned, .int s_start, .int s_size, .int s_position, .ref h_steps]))]
set_option maxHeartbeats 4000000 in
set_option maxRecDepth 100000 in
theorem c_X3_begin (l : Launch) (D : va_G) (E : Nat → ClassId) (tx : List (Nat × String)) (h_ h_steps : Nat) (s_planned : Int32) (s_start : Int32) (s_size : Int32) (s_position : Int32) (x1 : Int32) (r0 : Int32) (r1 : Int32) (r2 : Int32) (r3 : Int32) (hf : f_X3_begin s_planned s_start s_size s_position x1 = some (r0, r1, r2, r3)) : CV l yX3_begin cX3_begin 2 0 0 D E tx [.ref h_, .int x1] (w_X3_begin E h_ h_steps s_planned s_start s_size s_position) (w_X3_begin E h_ h_steps r0 r1 r2 r3) := by
  refine CV_of RX3 pn_X3 rfl (Nat.le_of_ble_eq_true rfl) (fun p e s m args below meth c A Q hF hK hA hZ hW hret ls hl => ?_)
  have hx := hF.1
  have hb := hF.2.1
  have hl : lv_has ls 2 [(0, .ref h_), (1, .int x1)] := hl
  unfold f_X3_begin at hf
  refine lv_aload_n hx hb dX3_begin_0 rfl (lv_at hl 0 rfl) ?_
  refine lv_iconst (v := 1) hx hb dX3_begin_1 (by decide) ?_
  refine q_put hF hK hW fl_X3_9 ft_X3 rfl 0 rfl rfl (by decide) (Nat.le_of_ble_eq_true rfl) dX3_begin_2 (fun H locs hW => ?_)
  have hW : WD D A s (w_X3_begin E h_ h_steps 1 s_start s_size s_position) H locs := hW
  refine lv_aload_n hx hb dX3_begin_5 rfl (lv_at hl 0 rfl) ?_
  refine lv_iload_n hx hb dX3_begin_6 rfl (lv_at hl 1 rfl) ?_
  refine q_put hF hK hW fl_X3_15 ft_X3 rfl 0 rfl rfl rfl (Nat.le_of_ble_eq_true rfl) dX3_begin_7 (fun H locs hW => ?_)
  have hW : WD D A s (w_X3_begin E h_ h_steps 1 x1 s_size s_position) H locs := hW
  refine lv_aload_n hx hb dX3_begin_10 rfl (lv_at hl 0 rfl) ?_
  refine lv_iconst (v := 0) hx hb dX3_begin_11 (by decide) ?_
  refine q_put hF hK hW fl_X3_19 ft_X3 rfl 0 rfl rfl rfl (Nat.le_of_ble_eq_true rfl) dX3_begin_12 (fun H locs hW => ?_)
  have hW : WD D A s (w_X3_begin E h_ h_steps 1 x1 0 s_position) H locs := hW
  refine lv_aload_n hx hb dX3_begin_15 rfl (lv_at hl 0 rfl) ?_
  refine lv_iconst (v := 0) hx hb dX3_begin_16 (by decide) ?_
  refine q_put hF hK hW fl_X3_22 ft_X3 rfl 0 rfl rfl rfl (Nat.le_of_ble_eq_true rfl) dX3_begin_17 (fun H locs hW => ?_)
  have hW : WD D A s (w_X3_begin E h_ h_steps 1 x1 0 0) H locs := hW
  cases hf
  exact hret dX3_begin_20 hW
def w_X3_add (E : Nat → ClassId) (h_ h_steps : Nat) (s_planned : Int32) (s_start : Int32) (s_size : Int32) (s_position : Int32) (s_steps : Nat → Int32) : va_W := [(h_, .inr (5, [.int s_planned, .int s_start, .int s_size, .int s_position, .ref h_steps])), (h_steps, .inl (E 0, 5000, .inl s_steps))]
set_option maxHeartbeats 4000000 in
set_option maxRecDepth 100000 in
theorem c_X3_add (l : Launch) (D : va_G) (E : Nat → ClassId) (tx : List (Nat × String)) (h_ h_steps : Nat) (s_planned : Int32) (s_start : Int32) (s_size : Int32) (s_position : Int32) (s_steps : Nat → Int32) (x1 : Int32) (r0 : Int32) (r1 : Nat → Int32) (hf : f_X3_add s_size s_steps x1 = some (r0, r1)) : CV l yX3_add cX3_add 2 0 0 D E tx [.ref h_, .int x1] (w_X3_add E h_ h_steps s_planned s_start s_size s_position s_steps) (w_X3_add E h_ h_steps s_planned s_start r0 s_position r1) := by
  refine CV_of RX3 pn_X3 rfl (Nat.le_of_ble_eq_true rfl) (fun p e s m args below meth c A Q hF hK hA hZ hW hret ls hl => ?_)
  have hx := hF.1
  have hb := hF.2.1
  have hl : lv_has ls 2 [(0, .ref h_), (1, .int x1)] := hl
  unfold f_X3_add at hf
  refine lv_aload_n hx hb dX3_add_0 rfl (lv_at hl 0 rfl) ?_
  refine q_get hF hK hW fl_X3_19 0 rfl rfl dX3_add_1 ?_
  refine q_if_lt (tgt := 37) hx hb dX3_add_4 (by decide) hf (fun hf => ?_) (fun hf => ?_)
  · cases hf
    exact hret dX3_add_37 hW
  · refine lv_aload_n hx hb dX3_add_7 rfl (lv_at hl 0 rfl) ?_
    refine q_get hF hK hW fl_X3_19 0 rfl rfl dX3_add_8 ?_
    refine lv_sipush (v := 5000) hx hb dX3_add_11 (by decide) ?_
    refine q_icmp_ge (tgt := 37) hx hb dX3_add_14 (by decide) hf (fun hf => ?_) (fun hf => ?_)
    · cases hf
      exact hret dX3_add_37 hW
    · refine lv_aload_n hx hb dX3_add_17 rfl (lv_at hl 0 rfl) ?_
      refine q_get hF hK hW fl_X3_25 0 rfl rfl dX3_add_18 ?_
      refine lv_aload_n hx hb dX3_add_21 rfl (lv_at hl 0 rfl) ?_
      refine q_get hF hK hW fl_X3_19 0 rfl rfl dX3_add_22 ?_
      refine lv_iload_n hx hb dX3_add_25 rfl (lv_at hl 1 rfl) ?_
      refine q_iast hx hb hK hW 1 0 rfl rfl dX3_add_26 hf (fun a_1 hf H locs hW => ?_)
      have hW : WD D A s (w_X3_add E h_ h_steps s_planned s_start s_size s_position a_1) H locs := hW
      refine lv_aload_n hx hb dX3_add_27 rfl (lv_at hl 0 rfl) ?_
      refine lv_dup hx hb dX3_add_28 rfl ?_
      refine q_get hF hK hW fl_X3_19 0 rfl rfl dX3_add_29 ?_
      refine lv_iconst (v := 1) hx hb dX3_add_32 (by decide) ?_
      refine lv_iadd hx hb dX3_add_33 ?_
      refine lv_topi (fun v_2 ev_2 => ?_)
      replace hf := ob_let hf ev_2
      refine q_put hF hK hW fl_X3_19 ft_X3 rfl 0 rfl rfl rfl (Nat.le_of_ble_eq_true rfl) dX3_add_34 (fun H locs hW => ?_)
      have hW : WD D A s (w_X3_add E h_ h_steps s_planned s_start v_2 s_position a_1) H locs := hW
      cases hf
      exact hret dX3_add_37 hW
def w_X3_stepAt (E : Nat → ClassId) (h_ h_steps : Nat) (s_planned : Int32) (s_start : Int32) (s_size : Int32) (s_position : Int32) (s_steps : Nat → Int32) : va_W := [(h_, .inr (5, [.int s_planned, .int s_start, .int s_size, .int s_position, .ref h_steps])), (h_steps, .inl (E 0, 5000, .inl s_steps))]
set_option maxHeartbeats 4000000 in
set_option maxRecDepth 100000 in
theorem c_X3_stepAt (l : Launch) (D : va_G) (E : Nat → ClassId) (tx : List (Nat × String)) (h_ h_steps : Nat) (s_planned : Int32) (s_start : Int32) (s_size : Int32) (s_position : Int32) (s_steps : Nat → Int32) (x1 : Int32) (r0 : Int32) (hf : f_X3_stepAt s_size s_steps x1 = some r0) : CI l yX3_stepAt cX3_stepAt 2 (some .int) 0 0 D E tx [.ref h_, .int x1] (w_X3_stepAt E h_ h_steps s_planned s_start s_size s_position s_steps) (w_X3_stepAt E h_ h_steps s_planned s_start s_size s_position s_steps) r0 := by
  refine CI_of RX3 pn_X3 rfl (Nat.le_of_ble_eq_true rfl) (fun p e s m args below meth c A Q hF hK hA hZ hW hret ls hl => ?_)
  have hx := hF.1
  have hb := hF.2.1
  have hl : lv_has ls 2 [(0, .ref h_), (1, .int x1)] := hl
  unfold f_X3_stepAt at hf
  refine lv_iload_n hx hb dX3_stepAt_0 rfl (lv_at hl 1 rfl) ?_
  refine q_if_lt (tgt := 28) hx hb dX3_stepAt_1 (by decide) hf (fun hf => ?_) (fun hf => ?_)
  · refine lv_iconst (v := (-1)) hx hb dX3_stepAt_28 (by decide) ?_
    cases hf
    exact hret dX3_stepAt_29 rfl rfl hW
  · refine lv_iload_n hx hb dX3_stepAt_4 rfl (lv_at hl 1 rfl) ?_
    refine lv_aload_n hx hb dX3_stepAt_5 rfl (lv_at hl 0 rfl) ?_
    refine q_get hF hK hW fl_X3_19 0 rfl rfl dX3_stepAt_6 ?_
    refine q_icmp_ge (tgt := 28) hx hb dX3_stepAt_9 (by decide) hf (fun hf => ?_) (fun hf => ?_)
    · refine lv_iconst (v := (-1)) hx hb dX3_stepAt_28 (by decide) ?_
      cases hf
      exact hret dX3_stepAt_29 rfl rfl hW
    · refine lv_iload_n hx hb dX3_stepAt_12 rfl (lv_at hl 1 rfl) ?_
      refine lv_sipush (v := 5000) hx hb dX3_stepAt_13 (by decide) ?_
      refine q_icmp_ge (tgt := 28) hx hb dX3_stepAt_16 (by decide) hf (fun hf => ?_) (fun hf => ?_)
      · refine lv_iconst (v := (-1)) hx hb dX3_stepAt_28 (by decide) ?_
        cases hf
        exact hret dX3_stepAt_29 rfl rfl hW
      · refine lv_aload_n hx hb dX3_stepAt_19 rfl (lv_at hl 0 rfl) ?_
        refine q_get hF hK hW fl_X3_25 0 rfl rfl dX3_stepAt_20 ?_
        refine lv_iload_n hx hb dX3_stepAt_23 rfl (lv_at hl 1 rfl) ?_
        refine q_iald hx hb hK hW 1 0 rfl rfl dX3_stepAt_24 hf (fun hf => ?_)
        refine lv_goto (tgt := 29) hx hb dX3_stepAt_25 (by decide) ?_
        cases hf
        exact hret dX3_stepAt_29 rfl rfl hW
def w_X3_changes (E : Nat → ClassId) (h_ h_steps : Nat) (s_planned : Int32) (s_start : Int32) (s_size : Int32) (s_position : Int32) (s_steps : Nat → Int32) : va_W := [(h_, .inr (5, [.int s_planned, .int s_start, .int s_size, .int s_position, .ref h_steps])), (h_steps, .inl (E 0, 5000, .inl s_steps))]
set_option maxHeartbeats 4000000 in
set_option maxRecDepth 100000 in
theorem c_X3_changes (l : Launch) (D : va_G) (E : Nat → ClassId) (tx : List (Nat × String)) (h_ h_steps : Nat) (s_planned : Int32) (s_start : Int32) (s_size : Int32) (s_position : Int32) (s_steps : Nat → Int32)  (r0 : Int32) (hf : f_X3_changes s_size s_steps = some r0) : CI l yX3_changes cX3_changes 3 (some .int) 1 21 D E tx [.ref h_] (w_X3_changes E h_ h_steps s_planned s_start s_size s_position s_steps) (w_X3_changes E h_ h_steps s_planned s_start s_size s_position s_steps) r0 := by
  refine CI_of RX3 pn_X3 rfl (Nat.le_of_ble_eq_true rfl) (fun p e s m args below meth c A Q hF hK hA hZ hW hret ls hl => ?_)
  have hx := hF.1
  have hb := hF.2.1
  have hl : lv_has ls 3 [(0, .ref h_)] := hl
  unfold f_X3_changes at hf
  refine lv_iconst (v := 0) hx hb dX3_changes_0 (by decide) ?_
  refine lv_istore_n (lv' := [(1, .int 0), (0, .ref h_)]) hx hb dX3_changes_1 rfl hl (by decide) rfl (fun ls hl => ?_)
  refine lv_iconst (v := 1) hx hb dX3_changes_2 (by decide) ?_
  refine lv_istore_n (lv' := [(2, .int 1), (1, .int 0), (0, .ref h_)]) hx hb dX3_changes_3 rfl hl (by decide) rfl (fun ls hl => ?_)
  have hB4 : ∀ (n : Nat) (z1_4 : Int32) (z2_4 : Int32) (ex : Int32) (H : Heap) (locs : List Loc) (ls : Array Slot), LPF (fun z => f_X3_changes_B4 s_size s_steps z.1 z.2) n (z1_4, z2_4) = some ex → lv_has ls 3 [(0, .ref h_), (1, .int z1_4), (2, .int z2_4)] → WD D A s (w_X3_changes E h_ h_steps s_planned s_start s_size s_position s_steps) H locs → (∀ (H : Heap) (locs : List Loc) (ls : Array Slot), lv_has ls 3 [(1, .int ex)] → WD D A s (w_X3_changes E h_ h_steps s_planned s_start s_size s_position s_steps) H locs → W p l e (RM 1 21) s m args below meth c H locs 0 0 Q (F0 m 36 ls [])) → W p l e (RM 1 21) s m args below meth c H locs 0 0 Q (F0 m 4 ls []) := by
    intro n
    induction n with
    | zero => intro z1_4 z2_4 ex H locs ls h9; exact (ob_lp0 h9).elim
    | succ n ih =>
      intro z1_4 z2_4 ex H locs ls h9 hl hW kx0
      obtain ⟨q9, hf, h9, k9⟩ := ob_lp h9
      have hf : f_X3_changes_B4 s_size s_steps z1_4 z2_4 = some q9 := hf
      unfold f_X3_changes_B4 at hf
      refine lv_iload_n hx hb dX3_changes_4 rfl (lv_at hl 2 rfl) ?_
      refine lv_aload_n hx hb dX3_changes_5 rfl (lv_at hl 0 rfl) ?_
      refine q_get hF hK hW fl_X3_19 0 rfl rfl dX3_changes_6 ?_
      refine q_icmp_ge (tgt := 36) hx hb dX3_changes_9 (by decide) hf (fun hf => ?_) (fun hf => ?_)
      · cases hf
        have hx9 := k9 _ rfl
        subst hx9
        exact kx0 _ _ _ (lv_sub hl [1] rfl) hW
      · refine lv_aload_n hx hb dX3_changes_12 rfl (lv_at hl 0 rfl) ?_
        refine lv_iload_n hx hb dX3_changes_13 rfl (lv_at hl 2 rfl) ?_
        obtain ⟨o_1, hc_1, hf⟩ := ob_bind hf
        refine q_callI hF hl.1 hK hA hZ hW mv_X3_stepAt ml_X3_29 (c_X3_stepAt l D E tx h_ h_steps s_planned s_start s_size s_position s_steps z2_4 o_1 hc_1) [0, 1] rfl rfl rfl rfl rfl rfl ⟨Nat.le_of_ble_eq_true rfl, Nat.le_of_ble_eq_true rfl⟩ ⟨Nat.le_of_ble_eq_true rfl, Nat.le_of_ble_eq_true rfl⟩ rfl rfl (Nat.le_of_ble_eq_true rfl) dX3_changes_14 (fun H locs hW => ?_)
        have hW : WD D A s (w_X3_changes E h_ h_steps s_planned s_start s_size s_position s_steps) H locs := hW
        refine lv_aload_n hx hb dX3_changes_17 rfl (lv_at hl 0 rfl) ?_
        refine lv_iload_n hx hb dX3_changes_18 rfl (lv_at hl 2 rfl) ?_
        refine lv_iconst (v := 1) hx hb dX3_changes_19 (by decide) ?_
        refine lv_isub hx hb dX3_changes_20 ?_
        obtain ⟨o_2, hc_2, hf⟩ := ob_bind hf
        refine q_callI hF hl.1 hK hA hZ hW mv_X3_stepAt ml_X3_29 (c_X3_stepAt l D E tx h_ h_steps s_planned s_start s_size s_position s_steps (z2_4 - 1) o_2 hc_2) [0, 1] rfl rfl rfl rfl rfl rfl ⟨Nat.le_of_ble_eq_true rfl, Nat.le_of_ble_eq_true rfl⟩ ⟨Nat.le_of_ble_eq_true rfl, Nat.le_of_ble_eq_true rfl⟩ rfl rfl (Nat.le_of_ble_eq_true rfl) dX3_changes_21 (fun H locs hW => ?_)
        have hW : WD D A s (w_X3_changes E h_ h_steps s_planned s_start s_size s_position s_steps) H locs := hW
        refine q_icmp_eq (tgt := 30) hx hb dX3_changes_24 (by decide) hf (fun hf => ?_) (fun hf => ?_)
        · obtain ⟨v_3, ev_3⟩ : ∃ y : Int32, y = z2_4 + 1 := ⟨_, rfl⟩
          replace hf := ob_let hf ev_3
          refine lv_iinc (v := v_3) (lv' := [(2, .int v_3), (0, .ref h_), (1, .int z1_4)]) hx hb dX3_changes_30 hl (k := 2) rfl (by rw [ev_3]; rfl) (by decide) rfl (fun ls hl => ?_)
          refine lv_goto (tgt := 4) hx hb dX3_changes_33 (by decide) ?_
          cases hf
          exact ih z1_4 v_3 ex _ _ _ (h9 _ rfl) (lv_sub hl [1, 2, 0] rfl) hW kx0
        · obtain ⟨v_4, ev_4⟩ : ∃ y : Int32, y = z1_4 + 1 := ⟨_, rfl⟩
          replace hf := ob_let hf ev_4
          refine lv_iinc (v := v_4) (lv' := [(1, .int v_4), (0, .ref h_), (2, .int z2_4)]) hx hb dX3_changes_27 hl (k := 1) rfl (by rw [ev_4]; rfl) (by decide) rfl (fun ls hl => ?_)
          obtain ⟨v_5, ev_5⟩ : ∃ y : Int32, y = z2_4 + 1 := ⟨_, rfl⟩
          replace hf := ob_let hf ev_5
          refine lv_iinc (v := v_5) (lv' := [(2, .int v_5), (1, .int v_4), (0, .ref h_)]) hx hb dX3_changes_30 hl (k := 2) rfl (by rw [ev_5]; rfl) (by decide) rfl (fun ls hl => ?_)
          refine lv_goto (tgt := 4) hx hb dX3_changes_33 (by decide) ?_
          cases hf
          exact ih v_4 v_5 ex _ _ _ (h9 _ rfl) (lv_sub hl [2, 1, 0] rfl) hW kx0
  obtain ⟨e_6, hc_6, hf⟩ := ob_bind hf
  refine hB4 lfuel 0 1 e_6 _ _ _ hc_6 (lv_sub hl [2, 1, 0] rfl) hW ?_
  intro H locs ls hl hW
  refine lv_iload_n hx hb dX3_changes_36 rfl (lv_at hl 0 rfl) ?_
  cases hf
  exact hret dX3_changes_37 rfl rfl hW
def w_X6_note (E : Nat → ClassId) (h_ h_beginX h_beginY h_direction h_trodden : Nat) (s_firstFault : Int32) (s_firstLink : Int32) (s_tipX : Int32) (s_tipY : Int32) : va_W := [(h_, .inr (8, [.int s_firstFault, .int s_firstLink, .int s_tipX, .int s_tipY, .ref h_beginX, .ref h_beginY, .ref h_direction, .ref h_trodden]))]
set_option maxHeartbeats 4000000 in
set_option maxRecDepth 100000 in
theorem c_X6_note (l : Launch) (D : va_G) (E : Nat → ClassId) (tx : List (Nat × String)) (h_ h_beginX h_beginY h_direction h_trodden : Nat) (s_firstFault : Int32) (s_firstLink : Int32) (s_tipX : Int32) (s_tipY : Int32) (x1 : Int32) (x2 : Int32) (r0 : Int32) (r1 : Int32) (hf : f_X6_note s_firstFault s_firstLink x1 x2 = some (r0, r1)) : CV l yX6_note cX6_note 3 0 0 D E tx [.ref h_, .int x1, .int x2] (w_X6_note E h_ h_beginX h_beginY h_direction h_trodden s_firstFault s_firstLink s_tipX s_tipY) (w_X6_note E h_ h_beginX h_beginY h_direction h_trodden r0 r1 s_tipX s_tipY) := by
  refine CV_of RX6 pn_X6 rfl (Nat.le_of_ble_eq_true rfl) (fun p e s m args below meth c A Q hF hK hA hZ hW hret ls hl => ?_)
  have hx := hF.1
  have hb := hF.2.1
  have hl : lv_has ls 3 [(0, .ref h_), (1, .int x1), (2, .int x2)] := hl
  unfold f_X6_note at hf
  have hL15 : ∀ (s_firstFault_15 : Int32) (s_firstLink_15 : Int32) (y1_15 : Int32) (y2_15 : Int32) (H : Heap) (locs : List Loc) (ls : Array Slot), f_X6_note_L15 s_firstFault_15 s_firstLink_15 y1_15 y2_15 = some (r0, r1) → lv_has ls 3 [(0, .ref h_), (1, .int y1_15), (2, .int y2_15)] → WD D A s (w_X6_note E h_ h_beginX h_beginY h_direction h_trodden s_firstFault_15 s_firstLink_15 s_tipX s_tipY) H locs → W p l e (RM 0 0) s m args below meth c H locs 0 0 Q (F0 m 15 ls []) := by
    intro s_firstFault_15 s_firstLink_15 y1_15 y2_15 H locs ls hf hl hW
    unfold f_X6_note_L15 at hf
    refine lv_aload_n hx hb dX6_note_15 rfl (lv_at hl 0 rfl) ?_
    refine lv_iload_n hx hb dX6_note_16 rfl (lv_at hl 1 rfl) ?_
    refine q_put hF hK hW fl_X6_9 ft_X6 rfl 0 rfl rfl rfl (Nat.le_of_ble_eq_true rfl) dX6_note_17 (fun H locs hW => ?_)
    have hW : WD D A s (w_X6_note E h_ h_beginX h_beginY h_direction h_trodden y1_15 s_firstLink_15 s_tipX s_tipY) H locs := hW
    refine lv_aload_n hx hb dX6_note_20 rfl (lv_at hl 0 rfl) ?_
    refine lv_iload_n hx hb dX6_note_21 rfl (lv_at hl 2 rfl) ?_
    refine q_put hF hK hW fl_X6_15 ft_X6 rfl 0 rfl rfl rfl (Nat.le_of_ble_eq_true rfl) dX6_note_22 (fun H locs hW => ?_)
    have hW : WD D A s (w_X6_note E h_ h_beginX h_beginY h_direction h_trodden y1_15 y2_15 s_tipX s_tipY) H locs := hW
    cases hf
    exact hret dX6_note_25 hW
  refine lv_aload_n hx hb dX6_note_0 rfl (lv_at hl 0 rfl) ?_
  refine q_get hF hK hW fl_X6_9 0 rfl rfl dX6_note_1 ?_
  refine q_if_eq (tgt := 15) hx hb dX6_note_4 (by decide) hf (fun hf => ?_) (fun hf => ?_)
  · exact hL15 s_firstFault s_firstLink x1 x2 _ _ _ hf (lv_sub hl [0, 1, 2] rfl) hW
  · refine lv_iload_n hx hb dX6_note_7 rfl (lv_at hl 1 rfl) ?_
    refine lv_aload_n hx hb dX6_note_8 rfl (lv_at hl 0 rfl) ?_
    refine q_get hF hK hW fl_X6_9 0 rfl rfl dX6_note_9 ?_
    refine q_icmp_ge (tgt := 25) hx hb dX6_note_12 (by decide) hf (fun hf => ?_) (fun hf => ?_)
    · cases hf
      exact hret dX6_note_25 hW
    · exact hL15 s_firstFault s_firstLink x1 x2 _ _ _ hf (lv_sub hl [0, 1, 2] rfl) hW
def w_X6_cellX (E : Nat → ClassId) (h_ h_beginX h_beginY h_direction h_trodden : Nat) (s_firstFault : Int32) (s_firstLink : Int32) (s_tipX : Int32) (s_tipY : Int32) (s_beginX : Nat → Int32) (s_direction : Nat → Int32) : va_W := [(h_, .inr (8, [.int s_firstFault, .int s_firstLink, .int s_tipX, .int s_tipY, .ref h_beginX, .ref h_beginY, .ref h_direction, .ref h_trodden])), (h_beginX, .inl (E 0, 4, .inl s_beginX)), (h_direction, .inl (E 0, 4, .inl s_direction))]
set_option maxHeartbeats 4000000 in
set_option maxRecDepth 100000 in
theorem c_X6_cellX (l : Launch) (D : va_G) (E : Nat → ClassId) (tx : List (Nat × String)) (h_ h_beginX h_beginY h_direction h_trodden : Nat) (s_firstFault : Int32) (s_firstLink : Int32) (s_tipX : Int32) (s_tipY : Int32) (s_beginX : Nat → Int32) (s_direction : Nat → Int32) (x1 : Int32) (x2 : Int32) (r0 : Int32) (hf : f_X6_cellX s_beginX s_direction x1 x2 = some r0) : CI l yX6_cellX cX6_cellX 3 (some .int) 0 0 D E tx [.ref h_, .int x1, .int x2] (w_X6_cellX E h_ h_beginX h_beginY h_direction h_trodden s_firstFault s_firstLink s_tipX s_tipY s_beginX s_direction) (w_X6_cellX E h_ h_beginX h_beginY h_direction h_trodden s_firstFault s_firstLink s_tipX s_tipY s_beginX s_direction) r0 := by
  refine CI_of RX6 pn_X6 rfl (Nat.le_of_ble_eq_true rfl) (fun p e s m args below meth c A Q hF hK hA hZ hW hret ls hl => ?_)
  have hx := hF.1
  have hb := hF.2.1
  have hl : lv_has ls 3 [(0, .ref h_), (1, .int x1), (2, .int x2)] := hl
  unfold f_X6_cellX at hf
  refine lv_iload_n hx hb dX6_cellX_0 rfl (lv_at hl 1 rfl) ?_
  refine q_if_lt (tgt := 34) hx hb dX6_cellX_1 (by decide) hf (fun hf => ?_) (fun hf => ?_)
  · refine lv_iconst (v := 0) hx hb dX6_cellX_34 (by decide) ?_
    cases hf
    exact hret dX6_cellX_35 rfl rfl hW
  · refine lv_iload_n hx hb dX6_cellX_4 rfl (lv_at hl 1 rfl) ?_
    refine lv_iconst (v := 4) hx hb dX6_cellX_5 (by decide) ?_
    refine q_icmp_ge (tgt := 34) hx hb dX6_cellX_6 (by decide) hf (fun hf => ?_) (fun hf => ?_)
    · refine lv_iconst (v := 0) hx hb dX6_cellX_34 (by decide) ?_
      cases hf
      exact hret dX6_cellX_35 rfl rfl hW
    · refine lv_aload_n hx hb dX6_cellX_9 rfl (lv_at hl 0 rfl) ?_
      refine q_get hF hK hW fl_X6_24 0 rfl rfl dX6_cellX_10 ?_
      refine lv_iload_n hx hb dX6_cellX_13 rfl (lv_at hl 1 rfl) ?_
      refine q_iald hx hb hK hW 1 0 rfl rfl dX6_cellX_14 hf (fun hf => ?_)
      refine lv_iload_n hx hb dX6_cellX_15 rfl (lv_at hl 2 rfl) ?_
      refine q_gets hF hW hZ.1 hZ nw_X6_51 dX6_cellX_16 (fun STEP_X_1 _ hSTEP_X_1 => ?_)
      refine lv_aload_n hx hb dX6_cellX_19 rfl (lv_at hl 0 rfl) ?_
      refine q_get hF hK hW fl_X6_31 0 rfl rfl dX6_cellX_20 ?_
      refine lv_iload_n hx hb dX6_cellX_23 rfl (lv_at hl 1 rfl) ?_
      refine q_iald hx hb hK hW 2 0 rfl rfl dX6_cellX_24 hf (fun hf => ?_)
      refine lv_bipush (v := 7) hx hb dX6_cellX_25 (by decide) ?_
      refine lv_iand hx hb dX6_cellX_27 ?_
      refine q_sald hx hb hK hSTEP_X_1 dX6_cellX_28 hf (fun hf => ?_)
      refine lv_imul hx hb dX6_cellX_29 ?_
      refine lv_iadd hx hb dX6_cellX_30 ?_
      refine lv_goto (tgt := 35) hx hb dX6_cellX_31 (by decide) ?_
      cases hf
      exact hret dX6_cellX_35 rfl rfl hW
def w_X6_cellY (E : Nat → ClassId) (h_ h_beginX h_beginY h_direction h_trodden : Nat) (s_firstFault : Int32) (s_firstLink : Int32) (s_tipX : Int32) (s_tipY : Int32) (s_beginY : Nat → Int32) (s_direction : Nat → Int32) : va_W := [(h_, .inr (8, [.int s_firstFault, .int s_firstLink, .int s_tipX, .int s_tipY, .ref h_beginX, .ref h_beginY, .ref h_direction, .ref h_trodden])), (h_beginY, .inl (E 0, 4, .inl s_beginY)), (h_direction, .inl (E 0, 4, .inl s_direction))]
set_option maxHeartbeats 4000000 in
set_option maxRecDepth 100000 in
theorem c_X6_cellY (l : Launch) (D : va_G) (E : Nat → ClassId) (tx : List (Nat × String)) (h_ h_beginX h_beginY h_direction h_trodden : Nat) (s_firstFault : Int32) (s_firstLink : Int32) (s_tipX : Int32) (s_tipY : Int32) (s_beginY : Nat → Int32) (s_direction : Nat → Int32) (x1 : Int32) (x2 : Int32) (r0 : Int32) (hf : f_X6_cellY s_beginY s_direction x1 x2 = some r0) : CI l yX6_cellY cX6_cellY 3 (some .int) 0 0 D E tx [.ref h_, .int x1, .int x2] (w_X6_cellY E h_ h_beginX h_beginY h_direction h_trodden s_firstFault s_firstLink s_tipX s_tipY s_beginY s_direction) (w_X6_cellY E h_ h_beginX h_beginY h_direction h_trodden s_firstFault s_firstLink s_tipX s_tipY s_beginY s_direction) r0 := by
  refine CI_of RX6 pn_X6 rfl (Nat.le_of_ble_eq_true rfl) (fun p e s m args below meth c A Q hF hK hA hZ hW hret ls hl => ?_)
  have hx := hF.1
  have hb := hF.2.1
  have hl : lv_has ls 3 [(0, .ref h_), (1, .int x1), (2, .int x2)] := hl
  unfold f_X6_cellY at hf
  refine lv_iload_n hx hb dX6_cellY_0 rfl (lv_at hl 1 rfl) ?_
  refine q_if_lt (tgt := 34) hx hb dX6_cellY_1 (by decide) hf (fun hf => ?_) (fun hf => ?_)
  · refine lv_iconst (v := 0) hx hb dX6_cellY_34 (by decide) ?_
    cases hf
    exact hret dX6_cellY_35 rfl rfl hW
  · refine lv_iload_n hx hb dX6_cellY_4 rfl (lv_at hl 1 rfl) ?_
    refine lv_iconst (v := 4) hx hb dX6_cellY_5 (by decide) ?_
    refine q_icmp_ge (tgt := 34) hx hb dX6_cellY_6 (by decide) hf (fun hf => ?_) (fun hf => ?_)
    · refine lv_iconst (v := 0) hx hb dX6_cellY_34 (by decide) ?_
      cases hf
      exact hret dX6_cellY_35 rfl rfl hW
    · refine lv_aload_n hx hb dX6_cellY_9 rfl (lv_at hl 0 rfl) ?_
      refine q_get hF hK hW fl_X6_28 0 rfl rfl dX6_cellY_10 ?_
      refine lv_iload_n hx hb dX6_cellY_13 rfl (lv_at hl 1 rfl) ?_
      refine q_iald hx hb hK hW 1 0 rfl rfl dX6_cellY_14 hf (fun hf => ?_)
      refine lv_iload_n hx hb dX6_cellY_15 rfl (lv_at hl 2 rfl) ?_
      refine q_gets hF hW hZ.2.1 hZ nw_X6_54 dX6_cellY_16 (fun STEP_Y_1 _ hSTEP_Y_1 => ?_)
      refine lv_aload_n hx hb dX6_cellY_19 rfl (lv_at hl 0 rfl) ?_
      refine q_get hF hK hW fl_X6_31 0 rfl rfl dX6_cellY_20 ?_
      refine lv_iload_n hx hb dX6_cellY_23 rfl (lv_at hl 1 rfl) ?_
      refine q_iald hx hb hK hW 2 0 rfl rfl dX6_cellY_24 hf (fun hf => ?_)
      refine lv_bipush (v := 7) hx hb dX6_cellY_25 (by decide) ?_
      refine lv_iand hx hb dX6_cellY_27 ?_
      refine q_sald hx hb hK hSTEP_Y_1 dX6_cellY_28 hf (fun hf => ?_)
      refine lv_imul hx hb dX6_cellY_29 ?_
      refine lv_iadd hx hb dX6_cellY_30 ?_
      refine lv_goto (tgt := 35) hx hb dX6_cellY_31 (by decide) ?_
      cases hf
      exact hret dX6_cellY_35 rfl rfl hW
def w_X6_enterCell (E : Nat → ClassId) (h_ h_beginX h_beginY h_direction h_trodden h_p1 h_p1_length h_p1_lower h_p1_upper h_p1_value h_p1_obstacleX h_p1_obstacleY h_p1_blocked : Nat) (s_firstFault : Int32) (s_firstLink : Int32) (s_tipX : Int32) (s_tipY : Int32) (s_trodden : Nat → Int32) (s_p1_links : Int32) (s_p1_obstacles : Int32) (s_p1_blocked : Nat → Int32) : va_W := [(h_, .inr (8, [.int s_firstFault, .int s_firstLink, .int s_tipX, .int s_tipY, .ref h_beginX, .ref h_beginY, .ref h_direction, .ref h_trodden])), (h_trodden, .inl (E 0, 21, .inl s_trodden)), (h_p1, .inr (6, [.int s_p1_links, .ref h_p1_length, .ref h_p1_lower, .ref h_p1_upper, .ref h_p1_value, .int s_p1_obstacles, .ref h_p1_obstacleX, .ref h_p1_obstacleY, .ref h_p1_blocked])), (h_p1_blocked, .inl (E 0, 21, .inl s_p1_blocked))]
set_option maxHeartbeats 4000000 in
set_option maxRecDepth 100000 in
theorem c_X6_enterCell (l : Launch) (D : va_G) (E : Nat → ClassId) (tx : List (Nat × String)) (h_ h_beginX h_beginY h_direction h_trodden h_p1 h_p1_length h_p1_lower h_p1_upper h_p1_value h_p1_obstacleX h_p1_obstacleY h_p1_blocked : Nat) (s_firstFault : Int32) (s_firstLink : Int32) (s_tipX : Int32) (s_tipY : Int32) (s_trodden : Nat → Int32) (s_p1_links : Int32) (s_p1_obstacles : Int32) (s_p1_blocked : Nat → Int32) (x2 : Int32) (r0 : Int32) (r1 : Int32) (r2 : Nat → Int32) (hf : f_X6_enterCell s_firstFault s_firstLink s_tipX s_tipY s_trodden s_p1_blocked x2 = some (r0, r1, r2)) : CV l yX6_enterCell cX6_enterCell 5 1 22 D E tx [.ref h_, .ref h_p1, .int x2] (w_X6_enterCell E h_ h_beginX h_beginY h_direction h_trodden h_p1 h_p1_length h_p1_lower h_p1_upper h_p1_value h_p1_obstacleX h_p1_obstacleY h_p1_blocked s_firstFault s_firstLink s_tipX s_tipY s_trodden s_p1_links s_p1_obstacles s_p1_blocked) (w_X6_enterCell E h_ h_beginX h_beginY h_direction h_trodden h_p1 h_p1_length h_p1_lower h_p1_upper h_p1_value h_p1_obstacleX h_p1_obstacleY h_p1_blocked r0 r1 s_tipX s_tipY r2 s_p1_links s_p1_obstacles s_p1_blocked) := by
  refine CV_of RX6 pn_X6 rfl (Nat.le_of_ble_eq_true rfl) (fun p e s m args below meth c A Q hF hK hA hZ hW hret ls hl => ?_)
  have hx := hF.1
  have hb := hF.2.1
  have hl : lv_has ls 5 [(0, .ref h_), (1, .ref h_p1), (2, .int x2)] := hl
  unfold f_X6_enterCell at hf
  have hL79 : ∀ (s_firstFault_79 : Int32) (s_firstLink_79 : Int32) (s_trodden_79 : Nat → Int32) (y3_79 : Int32) (y4_79 : Int32) (H : Heap) (locs : List Loc) (ls : Array Slot), f_X6_enterCell_L79 s_firstFault_79 s_firstLink_79 s_tipX s_tipY s_trodden_79 s_p1_blocked y3_79 y4_79 = some (r0, r1, r2) → lv_has ls 5 [(0, .ref h_), (3, .int y3_79), (4, .int y4_79)] → WD D A s (w_X6_enterCell E h_ h_beginX h_beginY h_direction h_trodden h_p1 h_p1_length h_p1_lower h_p1_upper h_p1_value h_p1_obstacleX h_p1_obstacleY h_p1_blocked s_firstFault_79 s_firstLink_79 s_tipX s_tipY s_trodden_79 s_p1_links s_p1_obstacles s_p1_blocked) H locs → W p l e (RM 1 22) s m args below meth c H locs 0 0 Q (F0 m 79 ls []) := by
    intro s_firstFault_79 s_firstLink_79 s_trodden_79 y3_79 y4_79 H locs ls hf hl hW
    unfold f_X6_enterCell_L79 at hf
    refine lv_aload_n hx hb dX6_enterCell_79 rfl (lv_at hl 0 rfl) ?_
    refine q_get hF hK hW fl_X6_34 0 rfl rfl dX6_enterCell_80 ?_
    refine lv_iload_n hx hb dX6_enterCell_83 rfl (lv_at hl 1 rfl) ?_
    refine lv_dup2_11 hx hb dX6_enterCell_84 rfl rfl ?_
    refine q_iald hx hb hK hW 1 0 rfl rfl dX6_enterCell_85 hf (fun hf => ?_)
    refine lv_iload hx hb dX6_enterCell_86 (lv_at hl 2 rfl) ?_
    refine lv_ior hx hb dX6_enterCell_88 ?_
    refine q_iast hx hb hK hW 1 0 rfl rfl dX6_enterCell_89 hf (fun a_1 hf H locs hW => ?_)
    have hW : WD D A s (w_X6_enterCell E h_ h_beginX h_beginY h_direction h_trodden h_p1 h_p1_length h_p1_lower h_p1_upper h_p1_value h_p1_obstacleX h_p1_obstacleY h_p1_blocked s_firstFault_79 s_firstLink_79 s_tipX s_tipY a_1 s_p1_links s_p1_obstacles s_p1_blocked) H locs := hW
    cases hf
    exact hret dX6_enterCell_90 hW
  refine lv_aload_n hx hb dX6_enterCell_0 rfl (lv_at hl 0 rfl) ?_
  refine q_get hF hK hW fl_X6_18 0 rfl rfl dX6_enterCell_1 ?_
  refine lv_aload_n hx hb dX6_enterCell_4 rfl (lv_at hl 0 rfl) ?_
  refine q_get hF hK hW fl_X6_21 0 rfl rfl dX6_enterCell_5 ?_
  obtain ⟨o_2, hc_2, hf⟩ := ob_bind hf
  refine q_callNI hF hl.1 hK hA hZ hW ms_X7_isInside nw_X6_61 (c_X7_isInside l D E tx s_tipX s_tipY o_2 hc_2) [] rfl rfl rfl ⟨Nat.le_of_ble_eq_true rfl, Nat.le_of_ble_eq_true rfl⟩ ⟨Nat.le_of_ble_eq_true rfl, Nat.le_of_ble_eq_true rfl⟩ rfl rfl (Nat.le_of_ble_eq_true rfl) dX6_enterCell_8 (fun H locs hW => ?_)
  have hW : WD D A s (w_X6_enterCell E h_ h_beginX h_beginY h_direction h_trodden h_p1 h_p1_length h_p1_lower h_p1_upper h_p1_value h_p1_obstacleX h_p1_obstacleY h_p1_blocked s_firstFault s_firstLink s_tipX s_tipY s_trodden s_p1_links s_p1_obstacles s_p1_blocked) H locs := hW
  refine q_if_ne (tgt := 21) hx hb dX6_enterCell_11 (by decide) hf (fun hf => ?_) (fun hf => ?_)
  · refine lv_aload_n hx hb dX6_enterCell_21 rfl (lv_at hl 0 rfl) ?_
    refine q_get hF hK hW fl_X6_21 0 rfl rfl dX6_enterCell_22 ?_
    refine lv_bipush (v := 10) hx hb dX6_enterCell_25 (by decide) ?_
    refine lv_iadd hx hb dX6_enterCell_27 ?_
    refine lv_topi (fun v_3 ev_3 => ?_)
    replace hf := ob_let hf ev_3
    refine lv_istore_n (lv' := [(3, .int v_3), (0, .ref h_), (1, .ref h_p1), (2, .int x2)]) hx hb dX6_enterCell_28 rfl hl (by decide) rfl (fun ls hl => ?_)
    refine lv_iconst (v := 1) hx hb dX6_enterCell_29 (by decide) ?_
    refine lv_aload_n hx hb dX6_enterCell_30 rfl (lv_at hl 1 rfl) ?_
    refine q_get hF hK hW fl_X6_18 0 rfl rfl dX6_enterCell_31 ?_
    refine lv_bipush (v := 10) hx hb dX6_enterCell_34 (by decide) ?_
    refine lv_iadd hx hb dX6_enterCell_36 ?_
    refine lv_ishl hx hb dX6_enterCell_37 ?_
    refine lv_topi (fun v_4 ev_4 => ?_)
    replace hf := ob_let hf ev_4
    refine lv_istore (lv' := [(4, .int v_4), (3, .int v_3), (0, .ref h_), (1, .ref h_p1), (2, .int x2)]) hx hb dX6_enterCell_38 hl (by decide) rfl (fun ls hl => ?_)
    refine lv_aload_n hx hb dX6_enterCell_40 rfl (lv_at hl 3 rfl) ?_
    refine q_get hF hK hW fl_X6_69 2 rfl rfl dX6_enterCell_41 ?_
    refine lv_iload_n hx hb dX6_enterCell_44 rfl (lv_at hl 1 rfl) ?_
    refine q_iald hx hb hK hW 3 0 rfl rfl dX6_enterCell_45 hf (fun hf => ?_)
    refine lv_iload hx hb dX6_enterCell_46 (lv_at hl 0 rfl) ?_
    refine lv_iand hx hb dX6_enterCell_48 ?_
    refine q_if_eq (tgt := 61) hx hb dX6_enterCell_49 (by decide) hf (fun hf => ?_) (fun hf => ?_)
    · refine lv_aload_n hx hb dX6_enterCell_61 rfl (lv_at hl 2 rfl) ?_
      refine q_get hF hK hW fl_X6_34 0 rfl rfl dX6_enterCell_62 ?_
      refine lv_iload_n hx hb dX6_enterCell_65 rfl (lv_at hl 1 rfl) ?_
      refine q_iald hx hb hK hW 1 0 rfl rfl dX6_enterCell_66 hf (fun hf => ?_)
      refine lv_iload hx hb dX6_enterCell_67 (lv_at hl 0 rfl) ?_
      refine lv_iand hx hb dX6_enterCell_69 ?_
      refine q_if_eq (tgt := 79) hx hb dX6_enterCell_70 (by decide) hf (fun hf => ?_) (fun hf => ?_)
      · exact hL79 s_firstFault s_firstLink s_trodden v_3 v_4 _ _ _ hf (lv_sub hl [2, 1, 0] rfl) hW
      · refine lv_aload_n hx hb dX6_enterCell_73 rfl (lv_at hl 2 rfl) ?_
        refine lv_iconst (v := 3) hx hb dX6_enterCell_74 (by decide) ?_
        refine lv_iload_n hx hb dX6_enterCell_75 rfl (lv_at hl 4 rfl) ?_
        obtain ⟨o_5, hc_5, hf⟩ := ob_bind hf
        refine q_callV hF hl.1 hK hA hZ hW mv_X6_note ml_X6_65 (c_X6_note l D E tx h_ h_beginX h_beginY h_direction h_trodden s_firstFault s_firstLink s_tipX s_tipY 3 x2 o_5.1 o_5.2 hc_5) [0] rfl rfl rfl rfl rfl rfl ⟨Nat.le_of_ble_eq_true rfl, Nat.le_of_ble_eq_true rfl⟩ ⟨Nat.le_of_ble_eq_true rfl, Nat.le_of_ble_eq_true rfl⟩ rfl rfl (Nat.le_of_ble_eq_true rfl) dX6_enterCell_76 (fun H locs hW => ?_)
        have hW : WD D A s (w_X6_enterCell E h_ h_beginX h_beginY h_direction h_trodden h_p1 h_p1_length h_p1_lower h_p1_upper h_p1_value h_p1_obstacleX h_p1_obstacleY h_p1_blocked o_5.1 o_5.2 s_tipX s_tipY s_trodden s_p1_links s_p1_obstacles s_p1_blocked) H locs := hW
        exact hL79 o_5.1 o_5.2 s_trodden v_3 v_4 _ _ _ hf (lv_sub hl [2, 1, 0] rfl) hW
    · refine lv_aload_n hx hb dX6_enterCell_52 rfl (lv_at hl 2 rfl) ?_
      refine lv_iconst (v := 2) hx hb dX6_enterCell_53 (by decide) ?_
      refine lv_iload_n hx hb dX6_enterCell_54 rfl (lv_at hl 4 rfl) ?_
      obtain ⟨o_6, hc_6, hf⟩ := ob_bind hf
      refine q_callV hF hl.1 hK hA hZ hW mv_X6_note ml_X6_65 (c_X6_note l D E tx h_ h_beginX h_beginY h_direction h_trodden s_firstFault s_firstLink s_tipX s_tipY 2 x2 o_6.1 o_6.2 hc_6) [0] rfl rfl rfl rfl rfl rfl ⟨Nat.le_of_ble_eq_true rfl, Nat.le_of_ble_eq_true rfl⟩ ⟨Nat.le_of_ble_eq_true rfl, Nat.le_of_ble_eq_true rfl⟩ rfl rfl (Nat.le_of_ble_eq_true rfl) dX6_enterCell_55 (fun H locs hW => ?_)
      have hW : WD D A s (w_X6_enterCell E h_ h_beginX h_beginY h_direction h_trodden h_p1 h_p1_length h_p1_lower h_p1_upper h_p1_value h_p1_obstacleX h_p1_obstacleY h_p1_blocked o_6.1 o_6.2 s_tipX s_tipY s_trodden s_p1_links s_p1_obstacles s_p1_blocked) H locs := hW
      refine lv_goto (tgt := 79) hx hb dX6_enterCell_58 (by decide) ?_
      exact hL79 o_6.1 o_6.2 s_trodden v_3 v_4 _ _ _ hf (lv_sub hl [2, 1, 0] rfl) hW
  · refine lv_aload_n hx hb dX6_enterCell_14 rfl (lv_at hl 0 rfl) ?_
    refine lv_iconst (v := 1) hx hb dX6_enterCell_15 (by decide) ?_
    refine lv_iload_n hx hb dX6_enterCell_16 rfl (lv_at hl 2 rfl) ?_
    obtain ⟨o_7, hc_7, hf⟩ := ob_bind hf
    refine q_callV hF hl.1 hK hA hZ hW mv_X6_note ml_X6_65 (c_X6_note l D E tx h_ h_beginX h_beginY h_direction h_trodden s_firstFault s_firstLink s_tipX s_tipY 1 x2 o_7.1 o_7.2 hc_7) [0] rfl rfl rfl rfl rfl rfl ⟨Nat.le_of_ble_eq_true rfl, Nat.le_of_ble_eq_true rfl⟩ ⟨Nat.le_of_ble_eq_true rfl, Nat.le_of_ble_eq_true rfl⟩ rfl rfl (Nat.le_of_ble_eq_true rfl) dX6_enterCell_17 (fun H locs hW => ?_)
    have hW : WD D A s (w_X6_enterCell E h_ h_beginX h_beginY h_direction h_trodden h_p1 h_p1_length h_p1_lower h_p1_upper h_p1_value h_p1_obstacleX h_p1_obstacleY h_p1_blocked o_7.1 o_7.2 s_tipX s_tipY s_trodden s_p1_links s_p1_obstacles s_p1_blocked) H locs := hW
    cases hf
    exact hret dX6_enterCell_20 hW
def w_X6_along_own (E : Nat → ClassId) (h_ h_beginX h_beginY h_direction h_trodden h_p1 h_p1_length h_p1_lower h_p1_upper h_p1_value h_p1_obstacleX h_p1_obstacleY h_p1_blocked : Nat) (s_firstFault : Int32) (s_firstLink : Int32) (s_tipX : Int32) (s_tipY : Int32) (s_beginX : Nat → Int32) (s_beginY : Nat → Int32) (s_direction : Nat → Int32) (s_trodden : Nat → Int32) (s_p1_links : Int32) (s_p1_obstacles : Int32) (s_p1_length : Nat → Int32) (s_p1_value : Nat → Int32) (s_p1_blocked : Nat → Int32) : va_W := [(h_, .inr (8, [.int s_firstFault, .int s_firstLink, .int s_tipX, .int s_tipY, .ref h_beginX, .ref h_beginY, .ref h_direction, .ref h_trodden])), (h_beginX, .inl (E 0, 4, .inl s_beginX)), (h_beginY, .inl (E 0, 4, .inl s_beginY)), (h_direction, .inl (E 0, 4, .inl s_direction)), (h_trodden, .inl (E 0, 21, .inl s_trodden)), (h_p1, .inr (6, [.int s_p1_links, .ref h_p1_length, .ref h_p1_lower, .ref h_p1_upper, .ref h_p1_value, .int s_p1_obstacles, .ref h_p1_obstacleX, .ref h_p1_obstacleY, .ref h_p1_blocked])), (h_p1_length, .inl (E 0, 4, .inl s_p1_length)), (h_p1_value, .inl (E 0, 4, .inl s_p1_value)), (h_p1_blocked, .inl (E 0, 21, .inl s_p1_blocked))]
set_option maxHeartbeats 4000000 in
set_option maxRecDepth 100000 in
theorem c_X6_along_own (l : Launch) (D : va_G) (E : Nat → ClassId) (tx : List (Nat × String)) (h_ h_beginX h_beginY h_direction h_trodden h_p1 h_p1_length h_p1_lower h_p1_upper h_p1_value h_p1_obstacleX h_p1_obstacleY h_p1_blocked : Nat) (s_firstFault : Int32) (s_firstLink : Int32) (s_tipX : Int32) (s_tipY : Int32) (s_beginX : Nat → Int32) (s_beginY : Nat → Int32) (s_direction : Nat → Int32) (s_trodden : Nat → Int32) (s_p1_links : Int32) (s_p1_obstacles : Int32) (s_p1_length : Nat → Int32) (s_p1_value : Nat → Int32) (s_p1_blocked : Nat → Int32)  (r0 : Int32) (r1 : Int32) (r2 : Int32) (r3 : Int32) (r4 : Nat → Int32) (r5 : Nat → Int32) (r6 : Nat → Int32) (r7 : Nat → Int32) (hf : f_X6_along_own s_firstFault s_firstLink s_tipX s_tipY s_beginX s_beginY s_direction s_trodden s_p1_links s_p1_length s_p1_value s_p1_blocked = some (r0, r1, r2, r3, r4, r5, r6, r7)) : CV l yX6_along cX6_along 6 2 46 D E tx [.ref h_, .ref h_p1, .ref h_p1_value] (w_X6_along_own E h_ h_beginX h_beginY h_direction h_trodden h_p1 h_p1_length h_p1_lower h_p1_upper h_p1_value h_p1_obstacleX h_p1_obstacleY h_p1_blocked s_firstFault s_firstLink s_tipX s_tipY s_beginX s_beginY s_direction s_trodden s_p1_links s_p1_obstacles s_p1_length s_p1_value s_p1_blocked) (w_X6_along_own E h_ h_beginX h_beginY h_direction h_trodden h_p1 h_p1_length h_p1_lower h_p1_upper h_p1_value h_p1_obstacleX h_p1_obstacleY h_p1_blocked r0 r1 r2 r3 r4 r5 r6 r7 s_p1_links s_p1_obstacles s_p1_length s_p1_value s_p1_blocked) := by
  refine CV_of RX6 pn_X6 rfl (Nat.le_of_ble_eq_true rfl) (fun p e s m args below meth c A Q hF hK hA hZ hW hret ls hl => ?_)
  have hx := hF.1
  have hb := hF.2.1
  have hl : lv_has ls 6 [(0, .ref h_), (1, .ref h_p1), (2, .ref h_p1_value)] := hl
  unfold f_X6_along_own at hf
  refine lv_aload_n hx hb dX6_along_0 rfl (lv_at hl 0 rfl) ?_
  refine lv_iconst (v := 0) hx hb dX6_along_1 (by decide) ?_
  refine q_put hF hK hW fl_X6_9 ft_X6 rfl 0 rfl rfl rfl (Nat.le_of_ble_eq_true rfl) dX6_along_2 (fun H locs hW => ?_)
  have hW : WD D A s (w_X6_along_own E h_ h_beginX h_beginY h_direction h_trodden h_p1 h_p1_length h_p1_lower h_p1_upper h_p1_value h_p1_obstacleX h_p1_obstacleY h_p1_blocked 0 s_firstLink s_tipX s_tipY s_beginX s_beginY s_direction s_trodden s_p1_links s_p1_obstacles s_p1_length s_p1_value s_p1_blocked) H locs := hW
  refine lv_aload_n hx hb dX6_along_5 rfl (lv_at hl 0 rfl) ?_
  refine lv_iconst (v := 0) hx hb dX6_along_6 (by decide) ?_
  refine q_put hF hK hW fl_X6_15 ft_X6 rfl 0 rfl rfl rfl (Nat.le_of_ble_eq_true rfl) dX6_along_7 (fun H locs hW => ?_)
  have hW : WD D A s (w_X6_along_own E h_ h_beginX h_beginY h_direction h_trodden h_p1 h_p1_length h_p1_lower h_p1_upper h_p1_value h_p1_obstacleX h_p1_obstacleY h_p1_blocked 0 0 s_tipX s_tipY s_beginX s_beginY s_direction s_trodden s_p1_links s_p1_obstacles s_p1_length s_p1_value s_p1_blocked) H locs := hW
  refine lv_aload_n hx hb dX6_along_10 rfl (lv_at hl 0 rfl) ?_
  refine lv_iconst (v := 0) hx hb dX6_along_11 (by decide) ?_
  refine q_put hF hK hW fl_X6_18 ft_X6 rfl 0 rfl rfl rfl (Nat.le_of_ble_eq_true rfl) dX6_along_12 (fun H locs hW => ?_)
  have hW : WD D A s (w_X6_along_own E h_ h_beginX h_beginY h_direction h_trodden h_p1 h_p1_length h_p1_lower h_p1_upper h_p1_value h_p1_obstacleX h_p1_obstacleY h_p1_blocked 0 0 0 s_tipY s_beginX s_beginY s_direction s_trodden s_p1_links s_p1_obstacles s_p1_length s_p1_value s_p1_blocked) H locs := hW
  refine lv_aload_n hx hb dX6_along_15 rfl (lv_at hl 0 rfl) ?_
  refine lv_iconst (v := 0) hx hb dX6_along_16 (by decide) ?_
  refine q_put hF hK hW fl_X6_21 ft_X6 rfl 0 rfl rfl rfl (Nat.le_of_ble_eq_true rfl) dX6_along_17 (fun H locs hW => ?_)
  have hW : WD D A s (w_X6_along_own E h_ h_beginX h_beginY h_direction h_trodden h_p1 h_p1_length h_p1_lower h_p1_upper h_p1_value h_p1_obstacleX h_p1_obstacleY h_p1_blocked 0 0 0 0 s_beginX s_beginY s_direction s_trodden s_p1_links s_p1_obstacles s_p1_length s_p1_value s_p1_blocked) H locs := hW
  refine lv_aload_n hx hb dX6_along_20 rfl (lv_at hl 0 rfl) ?_
  refine q_get hF hK hW fl_X6_34 0 rfl rfl dX6_along_21 ?_
  refine lv_iconst (v := 0) hx hb dX6_along_24 (by decide) ?_
  obtain ⟨o_1, hc_1, hf⟩ := ob_bind hf
  refine q_callSV hF hl.1 hK hA hZ hW ms_J7_fill_53178 ml_X6_37 (c_J7_fill_53178_21 l D E tx h_trodden s_trodden 0 o_1 hc_1) [4] rfl rfl rfl ⟨Nat.le_of_ble_eq_true rfl, Nat.le_of_ble_eq_true rfl⟩ ⟨Nat.le_of_ble_eq_true rfl, Nat.le_of_ble_eq_true rfl⟩ rfl rfl (Nat.le_of_ble_eq_true rfl) dX6_along_25 (fun H locs hW => ?_)
  have hW : WD D A s (w_X6_along_own E h_ h_beginX h_beginY h_direction h_trodden h_p1 h_p1_length h_p1_lower h_p1_upper h_p1_value h_p1_obstacleX h_p1_obstacleY h_p1_blocked 0 0 0 0 s_beginX s_beginY s_direction o_1 s_p1_links s_p1_obstacles s_p1_length s_p1_value s_p1_blocked) H locs := hW
  refine lv_aload_n hx hb dX6_along_28 rfl (lv_at hl 0 rfl) ?_
  refine q_get hF hK hW fl_X6_34 0 rfl rfl dX6_along_29 ?_
  refine lv_bipush (v := 10) hx hb dX6_along_32 (by decide) ?_
  refine lv_sipush (v := 1024) hx hb dX6_along_34 (by decide) ?_
  refine q_iast hx hb hK hW 4 0 rfl rfl dX6_along_37 hf (fun a_2 hf H locs hW => ?_)
  have hW : WD D A s (w_X6_along_own E h_ h_beginX h_beginY h_direction h_trodden h_p1 h_p1_length h_p1_lower h_p1_upper h_p1_value h_p1_obstacleX h_p1_obstacleY h_p1_blocked 0 0 0 0 s_beginX s_beginY s_direction a_2 s_p1_links s_p1_obstacles s_p1_length s_p1_value s_p1_blocked) H locs := hW
  refine lv_iconst (v := 0) hx hb dX6_along_38 (by decide) ?_
  refine lv_istore_n (lv' := [(3, .int 0), (0, .ref h_), (1, .ref h_p1), (2, .ref h_p1_value)]) hx hb dX6_along_39 rfl hl (by decide) rfl (fun ls hl => ?_)
  refine lv_iconst (v := 0) hx hb dX6_along_40 (by decide) ?_
  refine lv_istore (lv' := [(4, .int 0), (3, .int 0), (0, .ref h_), (1, .ref h_p1), (2, .ref h_p1_value)]) hx hb dX6_along_41 hl (by decide) rfl (fun ls hl => ?_)
  have hB43 : ∀ (n : Nat) (s_firstFault_43 : Int32) (s_firstLink_43 : Int32) (s_tipX_43 : Int32) (s_tipY_43 : Int32) (s_beginX_43 : Nat → Int32) (s_beginY_43 : Nat → Int32) (s_direction_43 : Nat → Int32) (s_trodden_43 : Nat → Int32) (z3_43 : Int32) (z4_43 : Int32) (ex : Int32 × Int32 × Int32 × Int32 × (Nat → Int32) × (Nat → Int32) × (Nat → Int32) × (Nat → Int32)) (H : Heap) (locs : List Loc) (ls : Array Slot), LPF (fun z => f_X6_along_own_B43 z.1 z.2.1 z.2.2.1 z.2.2.2.1 z.2.2.2.2.1 z.2.2.2.2.2.1 z.2.2.2.2.2.2.1 z.2.2.2.2.2.2.2.1 s_p1_links s_p1_length s_p1_value s_p1_blocked z.2.2.2.2.2.2.2.2.1 z.2.2.2.2.2.2.2.2.2) n (s_firstFault_43, s_firstLink_43, s_tipX_43, s_tipY_43, s_beginX_43, s_beginY_43, s_direction_43, s_trodden_43, z3_43, z4_43) = some ex → lv_has ls 6 [(0, .ref h_), (1, .ref h_p1), (2, .ref h_p1_value), (3, .int z3_43), (4, .int z4_43)] → WD D A s (w_X6_along_own E h_ h_beginX h_beginY h_direction h_trodden h_p1 h_p1_length h_p1_lower h_p1_upper h_p1_value h_p1_obstacleX h_p1_obstacleY h_p1_blocked s_firstFault_43 s_firstLink_43 s_tipX_43 s_tipY_43 s_beginX_43 s_beginY_43 s_direction_43 s_trodden_43 s_p1_links s_p1_obstacles s_p1_length s_p1_value s_p1_blocked) H locs → (∀ (H : Heap) (locs : List Loc) (ls : Array Slot), lv_has ls 6 [] → WD D A s (w_X6_along_own E h_ h_beginX h_beginY h_direction h_trodden h_p1 h_p1_length h_p1_lower h_p1_upper h_p1_value h_p1_obstacleX h_p1_obstacleY h_p1_blocked ex.1 ex.2.1 ex.2.2.1 ex.2.2.2.1 ex.2.2.2.2.1 ex.2.2.2.2.2.1 ex.2.2.2.2.2.2.1 ex.2.2.2.2.2.2.2 s_p1_links s_p1_obstacles s_p1_length s_p1_value s_p1_blocked) H locs → W p l e (RM 2 46) s m args below meth c H locs 0 0 Q (F0 m 167 ls [])) → W p l e (RM 2 46) s m args below meth c H locs 0 0 Q (F0 m 43 ls []) := by
    intro n
    induction n with
    | zero => intro s_firstFault_43 s_firstLink_43 s_tipX_43 s_tipY_43 s_beginX_43 s_beginY_43 s_direction_43 s_trodden_43 z3_43 z4_43 ex H locs ls h9; exact (ob_lp0 h9).elim
    | succ n ih =>
      intro s_firstFault_43 s_firstLink_43 s_tipX_43 s_tipY_43 s_beginX_43 s_beginY_43 s_direction_43 s_trodden_43 z3_43 z4_43 ex H locs ls h9 hl hW kx0
      obtain ⟨q9, hf, h9, k9⟩ := ob_lp h9
      have hf : f_X6_along_own_B43 s_firstFault_43 s_firstLink_43 s_tipX_43 s_tipY_43 s_beginX_43 s_beginY_43 s_direction_43 s_trodden_43 s_p1_links s_p1_length s_p1_value s_p1_blocked z3_43 z4_43 = some q9 := hf
      unfold f_X6_along_own_B43 at hf
      refine lv_iload hx hb dX6_along_43 (lv_at hl 4 rfl) ?_
      refine lv_aload_n hx hb dX6_along_45 rfl (lv_at hl 1 rfl) ?_
      refine q_get hF hK hW fl_X6_43 5 rfl rfl dX6_along_46 ?_
      refine q_icmp_ge (tgt := 167) hx hb dX6_along_49 (by decide) hf (fun hf => ?_) (fun hf => ?_)
      · cases hf
        have hx9 := k9 _ rfl
        subst hx9
        exact kx0 _ _ _ (lv_sub hl [] rfl) hW
      · refine lv_iload hx hb dX6_along_52 (lv_at hl 4 rfl) ?_
        refine lv_iconst (v := 4) hx hb dX6_along_54 (by decide) ?_
        refine q_icmp_ge (tgt := 167) hx hb dX6_along_55 (by decide) hf (fun hf => ?_) (fun hf => ?_)
        · cases hf
          have hx9 := k9 _ rfl
          subst hx9
          exact kx0 _ _ _ (lv_sub hl [] rfl) hW
        · refine lv_iload hx hb dX6_along_58 (lv_at hl 4 rfl) ?_
          refine lv_aload_n hx hb dX6_along_60 rfl (lv_at hl 2 rfl) ?_
          refine q_alen (v := 4) hx hb hK hW 7 0 rfl rfl rfl dX6_along_61 ?_
          refine q_icmp_ge (tgt := 167) hx hb dX6_along_62 (by decide) hf (fun hf => ?_) (fun hf => ?_)
          · cases hf
            have hx9 := k9 _ rfl
            subst hx9
            exact kx0 _ _ _ (lv_sub hl [] rfl) hW
          · refine lv_iload_n hx hb dX6_along_65 rfl (lv_at hl 3 rfl) ?_
            refine lv_aload_n hx hb dX6_along_66 rfl (lv_at hl 2 rfl) ?_
            refine lv_iload hx hb dX6_along_67 (lv_at hl 4 rfl) ?_
            refine q_iald hx hb hK hW 7 0 rfl rfl dX6_along_69 hf (fun hf => ?_)
            refine lv_iadd hx hb dX6_along_70 ?_
            refine lv_bipush (v := 7) hx hb dX6_along_71 (by decide) ?_
            refine lv_iand hx hb dX6_along_73 ?_
            refine lv_topi (fun v_3 ev_3 => ?_)
            replace hf := ob_let hf ev_3
            refine lv_istore_n (lv' := [(3, .int v_3), (0, .ref h_), (1, .ref h_p1), (2, .ref h_p1_value), (4, .int z4_43)]) hx hb dX6_along_74 rfl hl (by decide) rfl (fun ls hl => ?_)
            refine lv_aload_n hx hb dX6_along_75 rfl (lv_at hl 1 rfl) ?_
            refine q_get hF hK hW fl_X6_31 0 rfl rfl dX6_along_76 ?_
            refine lv_iload hx hb dX6_along_79 (lv_at hl 4 rfl) ?_
            refine lv_iload_n hx hb dX6_along_81 rfl (lv_at hl 0 rfl) ?_
            refine q_iast hx hb hK hW 3 0 rfl rfl dX6_along_82 hf (fun a_4 hf H locs hW => ?_)
            have hW : WD D A s (w_X6_along_own E h_ h_beginX h_beginY h_direction h_trodden h_p1 h_p1_length h_p1_lower h_p1_upper h_p1_value h_p1_obstacleX h_p1_obstacleY h_p1_blocked s_firstFault_43 s_firstLink_43 s_tipX_43 s_tipY_43 s_beginX_43 s_beginY_43 a_4 s_trodden_43 s_p1_links s_p1_obstacles s_p1_length s_p1_value s_p1_blocked) H locs := hW
            refine lv_aload_n hx hb dX6_along_83 rfl (lv_at hl 1 rfl) ?_
            refine q_get hF hK hW fl_X6_24 0 rfl rfl dX6_along_84 ?_
            refine lv_iload hx hb dX6_along_87 (lv_at hl 4 rfl) ?_
            refine lv_aload_n hx hb dX6_along_89 rfl (lv_at hl 1 rfl) ?_
            refine q_get hF hK hW fl_X6_18 0 rfl rfl dX6_along_90 ?_
            refine q_iast hx hb hK hW 1 0 rfl rfl dX6_along_93 hf (fun a_5 hf H locs hW => ?_)
            have hW : WD D A s (w_X6_along_own E h_ h_beginX h_beginY h_direction h_trodden h_p1 h_p1_length h_p1_lower h_p1_upper h_p1_value h_p1_obstacleX h_p1_obstacleY h_p1_blocked s_firstFault_43 s_firstLink_43 s_tipX_43 s_tipY_43 a_5 s_beginY_43 a_4 s_trodden_43 s_p1_links s_p1_obstacles s_p1_length s_p1_value s_p1_blocked) H locs := hW
            refine lv_aload_n hx hb dX6_along_94 rfl (lv_at hl 1 rfl) ?_
            refine q_get hF hK hW fl_X6_28 0 rfl rfl dX6_along_95 ?_
            refine lv_iload hx hb dX6_along_98 (lv_at hl 4 rfl) ?_
            refine lv_aload_n hx hb dX6_along_100 rfl (lv_at hl 1 rfl) ?_
            refine q_get hF hK hW fl_X6_21 0 rfl rfl dX6_along_101 ?_
            refine q_iast hx hb hK hW 2 0 rfl rfl dX6_along_104 hf (fun a_6 hf H locs hW => ?_)
            have hW : WD D A s (w_X6_along_own E h_ h_beginX h_beginY h_direction h_trodden h_p1 h_p1_length h_p1_lower h_p1_upper h_p1_value h_p1_obstacleX h_p1_obstacleY h_p1_blocked s_firstFault_43 s_firstLink_43 s_tipX_43 s_tipY_43 a_5 a_6 a_4 s_trodden_43 s_p1_links s_p1_obstacles s_p1_length s_p1_value s_p1_blocked) H locs := hW
            refine lv_iconst (v := 0) hx hb dX6_along_105 (by decide) ?_
            refine lv_istore (lv' := [(5, .int 0), (3, .int v_3), (0, .ref h_), (1, .ref h_p1), (2, .ref h_p1_value), (4, .int z4_43)]) hx hb dX6_along_106 hl (by decide) rfl (fun ls hl => ?_)
            have hB108 : ∀ (n : Nat) (s_firstFault_108 : Int32) (s_firstLink_108 : Int32) (s_tipX_108 : Int32) (s_tipY_108 : Int32) (s_trodden_108 : Nat → Int32) (z5_108 : Int32) (ex : Int32 × Int32 × Int32 × Int32 × (Nat → Int32)) (H : Heap) (locs : List Loc) (ls : Array Slot), LPF (fun z => f_X6_along_own_B108 z.1 z.2.1 z.2.2.1 z.2.2.2.1 a_5 a_6 a_4 z.2.2.2.2.1 s_p1_links s_p1_length s_p1_value s_p1_blocked v_3 z4_43 z.2.2.2.2.2) n (s_firstFault_108, s_firstLink_108, s_tipX_108, s_tipY_108, s_trodden_108, z5_108) = some ex → lv_has ls 6 [(0, .ref h_), (1, .ref h_p1), (2, .ref h_p1_value), (3, .int v_3), (4, .int z4_43), (5, .int z5_108)] → WD D A s (w_X6_along_own E h_ h_beginX h_beginY h_direction h_trodden h_p1 h_p1_length h_p1_lower h_p1_upper h_p1_value h_p1_obstacleX h_p1_obstacleY h_p1_blocked s_firstFault_108 s_firstLink_108 s_tipX_108 s_tipY_108 a_5 a_6 a_4 s_trodden_108 s_p1_links s_p1_obstacles s_p1_length s_p1_value s_p1_blocked) H locs → (∀ (H : Heap) (locs : List Loc) (ls : Array Slot), lv_has ls 6 [(0, .ref h_), (1, .ref h_p1), (2, .ref h_p1_value), (3, .int v_3), (4, .int z4_43)] → WD D A s (w_X6_along_own E h_ h_beginX h_beginY h_direction h_trodden h_p1 h_p1_length h_p1_lower h_p1_upper h_p1_value h_p1_obstacleX h_p1_obstacleY h_p1_blocked ex.1 ex.2.1 ex.2.2.1 ex.2.2.2.1 a_5 a_6 a_4 ex.2.2.2.2 s_p1_links s_p1_obstacles s_p1_length s_p1_value s_p1_blocked) H locs → W p l e (RM 2 46) s m args below meth c H locs 0 0 Q (F0 m 161 ls [])) → W p l e (RM 2 46) s m args below meth c H locs 0 0 Q (F0 m 108 ls []) := by
              intro n
              induction n with
              | zero => intro s_firstFault_108 s_firstLink_108 s_tipX_108 s_tipY_108 s_trodden_108 z5_108 ex H locs ls h9; exact (ob_lp0 h9).elim
              | succ n ih =>
                intro s_firstFault_108 s_firstLink_108 s_tipX_108 s_tipY_108 s_trodden_108 z5_108 ex H locs ls h9 hl hW kx0
                obtain ⟨q9, hf, h9, k9⟩ := ob_lp h9
                have hf : f_X6_along_own_B108 s_firstFault_108 s_firstLink_108 s_tipX_108 s_tipY_108 a_5 a_6 a_4 s_trodden_108 s_p1_links s_p1_length s_p1_value s_p1_blocked v_3 z4_43 z5_108 = some q9 := hf
                unfold f_X6_along_own_B108 at hf
                refine lv_iload hx hb dX6_along_108 (lv_at hl 5 rfl) ?_
                refine lv_aload_n hx hb dX6_along_110 rfl (lv_at hl 1 rfl) ?_
                refine q_get hF hK hW fl_X6_48 5 rfl rfl dX6_along_111 ?_
                refine lv_iload hx hb dX6_along_114 (lv_at hl 4 rfl) ?_
                refine q_iald hx hb hK hW 6 0 rfl rfl dX6_along_116 hf (fun hf => ?_)
                refine q_icmp_ge (tgt := 161) hx hb dX6_along_117 (by decide) hf (fun hf => ?_) (fun hf => ?_)
                · cases hf
                  have hx9 := k9 _ rfl
                  subst hx9
                  exact kx0 _ _ _ (lv_sub hl [0, 1, 2, 3, 4] rfl) hW
                · refine lv_aload_n hx hb dX6_along_120 rfl (lv_at hl 0 rfl) ?_
                  refine lv_dup hx hb dX6_along_121 rfl ?_
                  refine q_get hF hK hW fl_X6_18 0 rfl rfl dX6_along_122 ?_
                  refine q_gets hF hW hZ.1 hZ nw_X6_51 dX6_along_125 (fun STEP_X_7 _ hSTEP_X_7 => ?_)
                  refine lv_iload_n hx hb dX6_along_128 rfl (lv_at hl 3 rfl) ?_
                  refine q_sald hx hb hK hSTEP_X_7 dX6_along_129 hf (fun hf => ?_)
                  refine lv_iadd hx hb dX6_along_130 ?_
                  refine lv_topi (fun v_8 ev_8 => ?_)
                  replace hf := ob_let hf ev_8
                  refine q_put hF hK hW fl_X6_18 ft_X6 rfl 0 rfl rfl rfl (Nat.le_of_ble_eq_true rfl) dX6_along_131 (fun H locs hW => ?_)
                  have hW : WD D A s (w_X6_along_own E h_ h_beginX h_beginY h_direction h_trodden h_p1 h_p1_length h_p1_lower h_p1_upper h_p1_value h_p1_obstacleX h_p1_obstacleY h_p1_blocked s_firstFault_108 s_firstLink_108 v_8 s_tipY_108 a_5 a_6 a_4 s_trodden_108 s_p1_links s_p1_obstacles s_p1_length s_p1_value s_p1_blocked) H locs := hW
                  refine lv_aload_n hx hb dX6_along_134 rfl (lv_at hl 0 rfl) ?_
                  refine lv_dup hx hb dX6_along_135 rfl ?_
                  refine q_get hF hK hW fl_X6_21 0 rfl rfl dX6_along_136 ?_
                  refine q_gets hF hW hZ.2.1 hZ nw_X6_54 dX6_along_139 (fun STEP_Y_9 _ hSTEP_Y_9 => ?_)
                  refine lv_iload_n hx hb dX6_along_142 rfl (lv_at hl 3 rfl) ?_
                  refine q_sald hx hb hK hSTEP_Y_9 dX6_along_143 hf (fun hf => ?_)
                  refine lv_iadd hx hb dX6_along_144 ?_
                  refine lv_topi (fun v_10 ev_10 => ?_)
                  replace hf := ob_let hf ev_10
                  refine q_put hF hK hW fl_X6_21 ft_X6 rfl 0 rfl rfl rfl (Nat.le_of_ble_eq_true rfl) dX6_along_145 (fun H locs hW => ?_)
                  have hW : WD D A s (w_X6_along_own E h_ h_beginX h_beginY h_direction h_trodden h_p1 h_p1_length h_p1_lower h_p1_upper h_p1_value h_p1_obstacleX h_p1_obstacleY h_p1_blocked s_firstFault_108 s_firstLink_108 v_8 v_10 a_5 a_6 a_4 s_trodden_108 s_p1_links s_p1_obstacles s_p1_length s_p1_value s_p1_blocked) H locs := hW
                  refine lv_aload_n hx hb dX6_along_148 rfl (lv_at hl 0 rfl) ?_
                  refine lv_aload_n hx hb dX6_along_149 rfl (lv_at hl 1 rfl) ?_
                  refine lv_iload hx hb dX6_along_150 (lv_at hl 4 rfl) ?_
                  obtain ⟨o_11, hc_11, hf⟩ := ob_bind hf
                  refine q_callV hF hl.1 hK hA hZ hW mv_X6_enterCell ml_X6_57 (c_X6_enterCell l D E tx h_ h_beginX h_beginY h_direction h_trodden h_p1 h_p1_length h_p1_lower h_p1_upper h_p1_value h_p1_obstacleX h_p1_obstacleY h_p1_blocked s_firstFault_108 s_firstLink_108 v_8 v_10 s_trodden_108 s_p1_links s_p1_obstacles s_p1_blocked z4_43 o_11.1 o_11.2.1 o_11.2.2 hc_11) [0, 4, 5, 8] rfl rfl rfl rfl rfl rfl ⟨Nat.le_of_ble_eq_true rfl, Nat.le_of_ble_eq_true rfl⟩ ⟨Nat.le_of_ble_eq_true rfl, Nat.le_of_ble_eq_true rfl⟩ rfl rfl (Nat.le_of_ble_eq_true rfl) dX6_along_152 (fun H locs hW => ?_)
                  have hW : WD D A s (w_X6_along_own E h_ h_beginX h_beginY h_direction h_trodden h_p1 h_p1_length h_p1_lower h_p1_upper h_p1_value h_p1_obstacleX h_p1_obstacleY h_p1_blocked o_11.1 o_11.2.1 v_8 v_10 a_5 a_6 a_4 o_11.2.2 s_p1_links s_p1_obstacles s_p1_length s_p1_value s_p1_blocked) H locs := hW
                  obtain ⟨v_12, ev_12⟩ : ∃ y : Int32, y = z5_108 + 1 := ⟨_, rfl⟩
                  replace hf := ob_let hf ev_12
                  refine lv_iinc (v := v_12) (lv' := [(5, .int v_12), (0, .ref h_), (1, .ref h_p1), (2, .ref h_p1_value), (3, .int v_3), (4, .int z4_43)]) hx hb dX6_along_155 hl (k := 5) rfl (by rw [ev_12]; rfl) (by decide) rfl (fun ls hl => ?_)
                  refine lv_goto (tgt := 108) hx hb dX6_along_158 (by decide) ?_
                  cases hf
                  exact ih o_11.1 o_11.2.1 v_8 v_10 o_11.2.2 v_12 ex _ _ _ (h9 _ rfl) (lv_sub hl [1, 2, 3, 4, 5, 0] rfl) hW kx0
            obtain ⟨e_13, hc_13, hf⟩ := ob_bind hf
            refine hB108 lfuel s_firstFault_43 s_firstLink_43 s_tipX_43 s_tipY_43 s_trodden_43 0 e_13 _ _ _ hc_13 (lv_sub hl [2, 3, 4, 1, 5, 0] rfl) hW ?_
            intro H locs ls hl hW
            obtain ⟨v_14, ev_14⟩ : ∃ y : Int32, y = z4_43 + 1 := ⟨_, rfl⟩
            replace hf := ob_let hf ev_14
            refine lv_iinc (v := v_14) (lv' := [(4, .int v_14), (0, .ref h_), (1, .ref h_p1), (2, .ref h_p1_value), (3, .int v_3)]) hx hb dX6_along_161 hl (k := 4) rfl (by rw [ev_14]; rfl) (by decide) rfl (fun ls hl => ?_)
            refine lv_goto (tgt := 43) hx hb dX6_along_164 (by decide) ?_
            cases hf
            exact ih e_13.1 e_13.2.1 e_13.2.2.1 e_13.2.2.2.1 a_5 a_6 a_4 e_13.2.2.2.2 v_3 v_14 ex _ _ _ (h9 _ rfl) (lv_sub hl [1, 2, 3, 4, 0] rfl) hW kx0
  obtain ⟨e_15, hc_15, hf⟩ := ob_bind hf
  refine hB43 lfuel 0 0 0 0 s_beginX s_beginY s_direction a_2 0 0 e_15 _ _ _ hc_15 (lv_sub hl [2, 3, 4, 1, 0] rfl) hW ?_
  intro H locs ls hl hW
  cases hf
  exact hret dX6_along_167 hW
def w_X6_along_row (E : Nat → ClassId) (h_ h_beginX h_beginY h_direction h_trodden h_p1 h_p1_length h_p1_lower h_p1_upper h_p1_value h_p1_obstacleX h_p1_obstacleY h_p1_blocked h_p2 : Nat) (s_firstFault : Int32) (s_firstLink : Int32) (s_tipX : Int32) (s_tipY : Int32) (s_beginX : Nat → Int32) (s_beginY : Nat → Int32) (s_direction : Nat → Int32) (s_trodden : Nat → Int32) (s_p1_links : Int32) (s_p1_obstacles : Int32) (s_p1_length : Nat → Int32) (s_p1_blocked : Nat → Int32) (s_p2 : Nat → Int32) : va_W := [(h_, .inr (8, [.int s_firstFault, .int s_firstLink, .int s_tipX, .int s_tipY, .ref h_beginX, .ref h_beginY, .ref h_direction, .ref h_trodden])), (h_beginX, .inl (E 0, 4, .inl s_beginX)), (h_beginY, .inl (E 0, 4, .inl s_beginY)), (h_direction, .inl (E 0, 4, .inl s_direction)), (h_trodden, .inl (E 0, 21, .inl s_trodden)), (h_p1, .inr (6, [.int s_p1_links, .ref h_p1_length, .ref h_p1_lower, .ref h_p1_upper, .ref h_p1_value, .int s_p1_obstacles, .ref h_p1_obstacleX, .ref h_p1_obstacleY, .ref h_p1_blocked])), (h_p1_length, .inl (E 0, 4, .inl s_p1_length)), (h_p1_blocked, .inl (E 0, 21, .inl s_p1_blocked)), (h_p2, .inl (E 0, 4, .inl s_p2))]
set_option maxHeartbeats 4000000 in
set_option maxRecDepth 100000 in
theorem c_X6_along_row (l : Launch) (D : va_G) (E : Nat → ClassId) (tx : List (Nat × String)) (h_ h_beginX h_beginY h_direction h_trodden h_p1 h_p1_length h_p1_lower h_p1_upper h_p1_value h_p1_obstacleX h_p1_obstacleY h_p1_blocked h_p2 : Nat) (s_firstFault : Int32) (s_firstLink : Int32) (s_tipX : Int32) (s_tipY : Int32) (s_beginX : Nat → Int32) (s_beginY : Nat → Int32) (s_direction : Nat → Int32) (s_trodden : Nat → Int32) (s_p1_links : Int32) (s_p1_obstacles : Int32) (s_p1_length : Nat → Int32) (s_p1_blocked : Nat → Int32) (s_p2 : Nat → Int32)  (r0 : Int32) (r1 : Int32) (r2 : Int32) (r3 : Int32) (r4 : Nat → Int32) (r5 : Nat → Int32) (r6 : Nat → Int32) (r7 : Nat → Int32) (hf : f_X6_along_row s_firstFault s_firstLink s_tipX s_tipY s_beginX s_beginY s_direction s_trodden s_p1_links s_p1_length s_p1_blocked s_p2 = some (r0, r1, r2, r3, r4, r5, r6, r7)) : CV l yX6_along cX6_along 6 2 46 D E tx [.ref h_, .ref h_p1, .ref h_p2] (w_X6_along_row E h_ h_beginX h_beginY h_direction h_trodden h_p1 h_p1_length h_p1_lower h_p1_upper h_p1_value h_p1_obstacleX h_p1_obstacleY h_p1_blocked h_p2 s_firstFault s_firstLink s_tipX s_tipY s_beginX s_beginY s_direction s_trodden s_p1_links s_p1_obstacles s_p1_length s_p1_blocked s_p2) (w_X6_along_row E h_ h_beginX h_beginY h_direction h_trodden h_p1 h_p1_length h_p1_lower h_p1_upper h_p1_value h_p1_obstacleX h_p1_obstacleY h_p1_blocked h_p2 r0 r1 r2 r3 r4 r5 r6 r7 s_p1_links s_p1_obstacles s_p1_length s_p1_blocked s_p2) := by
  refine CV_of RX6 pn_X6 rfl (Nat.le_of_ble_eq_true rfl) (fun p e s m args below meth c A Q hF hK hA hZ hW hret ls hl => ?_)
  have hx := hF.1
  have hb := hF.2.1
  have hl : lv_has ls 6 [(0, .ref h_), (1, .ref h_p1), (2, .ref h_p2)] := hl
  unfold f_X6_along_row at hf
  refine lv_aload_n hx hb dX6_along_0 rfl (lv_at hl 0 rfl) ?_
  refine lv_iconst (v := 0) hx hb dX6_along_1 (by decide) ?_
  refine q_put hF hK hW fl_X6_9 ft_X6 rfl 0 rfl rfl rfl (Nat.le_of_ble_eq_true rfl) dX6_along_2 (fun H locs hW => ?_)
  have hW : WD D A s (w_X6_along_row E h_ h_beginX h_beginY h_direction h_trodden h_p1 h_p1_length h_p1_lower h_p1_upper h_p1_value h_p1_obstacleX h_p1_obstacleY h_p1_blocked h_p2 0 s_firstLink s_tipX s_tipY s_beginX s_beginY s_direction s_trodden s_p1_links s_p1_obstacles s_p1_length s_p1_blocked s_p2) H locs := hW
  refine lv_aload_n hx hb dX6_along_5 rfl (lv_at hl 0 rfl) ?_
  refine lv_iconst (v := 0) hx hb dX6_along_6 (by decide) ?_
  refine q_put hF hK hW fl_X6_15 ft_X6 rfl 0 rfl rfl rfl (Nat.le_of_ble_eq_true rfl) dX6_along_7 (fun H locs hW => ?_)
  have hW : WD D A s (w_X6_along_row E h_ h_beginX h_beginY h_direction h_trodden h_p1 h_p1_length h_p1_lower h_p1_upper h_p1_value h_p1_obstacleX h_p1_obstacleY h_p1_blocked h_p2 0 0 s_tipX s_tipY s_beginX s_beginY s_direction s_trodden s_p1_links s_p1_obstacles s_p1_length s_p1_blocked s_p2) H locs := hW
  refine lv_aload_n hx hb dX6_along_10 rfl (lv_at hl 0 rfl) ?_
  refine lv_iconst (v := 0) hx hb dX6_along_11 (by decide) ?_
  refine q_put hF hK hW fl_X6_18 ft_X6 rfl 0 rfl rfl rfl (Nat.le_of_ble_eq_true rfl) dX6_along_12 (fun H locs hW => ?_)
  have hW : WD D A s (w_X6_along_row E h_ h_beginX h_beginY h_direction h_trodden h_p1 h_p1_length h_p1_lower h_p1_upper h_p1_value h_p1_obstacleX h_p1_obstacleY h_p1_blocked h_p2 0 0 0 s_tipY s_beginX s_beginY s_direction s_trodden s_p1_links s_p1_obstacles s_p1_length s_p1_blocked s_p2) H locs := hW
  refine lv_aload_n hx hb dX6_along_15 rfl (lv_at hl 0 rfl) ?_
  refine lv_iconst (v := 0) hx hb dX6_along_16 (by decide) ?_
  refine q_put hF hK hW fl_X6_21 ft_X6 rfl 0 rfl rfl rfl (Nat.le_of_ble_eq_true rfl) dX6_along_17 (fun H locs hW => ?_)
  have hW : WD D A s (w_X6_along_row E h_ h_beginX h_beginY h_direction h_trodden h_p1 h_p1_length h_p1_lower h_p1_upper h_p1_value h_p1_obstacleX h_p1_obstacleY h_p1_blocked h_p2 0 0 0 0 s_beginX s_beginY s_direction s_trodden s_p1_links s_p1_obstacles s_p1_length s_p1_blocked s_p2) H locs := hW
  refine lv_aload_n hx hb dX6_along_20 rfl (lv_at hl 0 rfl) ?_
  refine q_get hF hK hW fl_X6_34 0 rfl rfl dX6_along_21 ?_
  refine lv_iconst (v := 0) hx hb dX6_along_24 (by decide) ?_
  obtain ⟨o_1, hc_1, hf⟩ := ob_bind hf
  refine q_callSV hF hl.1 hK hA hZ hW ms_J7_fill_53178 ml_X6_37 (c_J7_fill_53178_21 l D E tx h_trodden s_trodden 0 o_1 hc_1) [4] rfl rfl rfl ⟨Nat.le_of_ble_eq_true rfl, Nat.le_of_ble_eq_true rfl⟩ ⟨Nat.le_of_ble_eq_true rfl, Nat.le_of_ble_eq_true rfl⟩ rfl rfl (Nat.le_of_ble_eq_true rfl) dX6_along_25 (fun H locs hW => ?_)
  have hW : WD D A s (w_X6_along_row E h_ h_beginX h_beginY h_direction h_trodden h_p1 h_p1_length h_p1_lower h_p1_upper h_p1_value h_p1_obstacleX h_p1_obstacleY h_p1_blocked h_p2 0 0 0 0 s_beginX s_beginY s_direction o_1 s_p1_links s_p1_obstacles s_p1_length s_p1_blocked s_p2) H locs := hW
  refine lv_aload_n hx hb dX6_along_28 rfl (lv_at hl 0 rfl) ?_
  refine q_get hF hK hW fl_X6_34 0 rfl rfl dX6_along_29 ?_
  refine lv_bipush (v := 10) hx hb dX6_along_32 (by decide) ?_
  refine lv_sipush (v := 1024) hx hb dX6_along_34 (by decide) ?_
  refine q_iast hx hb hK hW 4 0 rfl rfl dX6_along_37 hf (fun a_2 hf H locs hW => ?_)
  have hW : WD D A s (w_X6_along_row E h_ h_beginX h_beginY h_direction h_trodden h_p1 h_p1_length h_p1_lower h_p1_upper h_p1_value h_p1_obstacleX h_p1_obstacleY h_p1_blocked h_p2 0 0 0 0 s_beginX s_beginY s_direction a_2 s_p1_links s_p1_obstacles s_p1_length s_p1_blocked s_p2) H locs := hW
  refine lv_iconst (v := 0) hx hb dX6_along_38 (by decide) ?_
  refine lv_istore_n (lv' := [(3, .int 0), (0, .ref h_), (1, .ref h_p1), (2, .ref h_p2)]) hx hb dX6_along_39 rfl hl (by decide) rfl (fun ls hl => ?_)
  refine lv_iconst (v := 0) hx hb dX6_along_40 (by decide) ?_
  refine lv_istore (lv' := [(4, .int 0), (3, .int 0), (0, .ref h_), (1, .ref h_p1), (2, .ref h_p2)]) hx hb dX6_along_41 hl (by decide) rfl (fun ls hl => ?_)
  have hB43 : ∀ (n : Nat) (s_firstFault_43 : Int32) (s_firstLink_43 : Int32) (s_tipX_43 : Int32) (s_tipY_43 : Int32) (s_beginX_43 : Nat → Int32) (s_beginY_43 : Nat → Int32) (s_direction_43 : Nat → Int32) (s_trodden_43 : Nat → Int32) (z3_43 : Int32) (z4_43 : Int32) (ex : Int32 × Int32 × Int32 × Int32 × (Nat → Int32) × (Nat → Int32) × (Nat → Int32) × (Nat → Int32)) (H : Heap) (locs : List Loc) (ls : Array Slot), LPF (fun z => f_X6_along_row_B43 z.1 z.2.1 z.2.2.1 z.2.2.2.1 z.2.2.2.2.1 z.2.2.2.2.2.1 z.2.2.2.2.2.2.1 z.2.2.2.2.2.2.2.1 s_p1_links s_p1_length s_p1_blocked s_p2 z.2.2.2.2.2.2.2.2.1 z.2.2.2.2.2.2.2.2.2) n (s_firstFault_43, s_firstLink_43, s_tipX_43, s_tipY_43, s_beginX_43, s_beginY_43, s_direction_43, s_trodden_43, z3_43, z4_43) = some ex → lv_has ls 6 [(0, .ref h_), (1, .ref h_p1), (2, .ref h_p2), (3, .int z3_43), (4, .int z4_43)] → WD D A s (w_X6_along_row E h_ h_beginX h_beginY h_direction h_trodden h_p1 h_p1_length h_p1_lower h_p1_upper h_p1_value h_p1_obstacleX h_p1_obstacleY h_p1_blocked h_p2 s_firstFault_43 s_firstLink_43 s_tipX_43 s_tipY_43 s_beginX_43 s_beginY_43 s_direction_43 s_trodden_43 s_p1_links s_p1_obstacles s_p1_length s_p1_blocked s_p2) H locs → (∀ (H : Heap) (locs : List Loc) (ls : Array Slot), lv_has ls 6 [] → WD D A s (w_X6_along_row E h_ h_beginX h_beginY h_direction h_trodden h_p1 h_p1_length h_p1_lower h_p1_upper h_p1_value h_p1_obstacleX h_p1_obstacleY h_p1_blocked h_p2 ex.1 ex.2.1 ex.2.2.1 ex.2.2.2.1 ex.2.2.2.2.1 ex.2.2.2.2.2.1 ex.2.2.2.2.2.2.1 ex.2.2.2.2.2.2.2 s_p1_links s_p1_obstacles s_p1_length s_p1_blocked s_p2) H locs → W p l e (RM 2 46) s m args below meth c H locs 0 0 Q (F0 m 167 ls [])) → W p l e (RM 2 46) s m args below meth c H locs 0 0 Q (F0 m 43 ls []) := by
    intro n
    induction n with
    | zero => intro s_firstFault_43 s_firstLink_43 s_tipX_43 s_tipY_43 s_beginX_43 s_beginY_43 s_direction_43 s_trodden_43 z3_43 z4_43 ex H locs ls h9; exact (ob_lp0 h9).elim
    | succ n ih =>
      intro s_firstFault_43 s_firstLink_43 s_tipX_43 s_tipY_43 s_beginX_43 s_beginY_43 s_direction_43 s_trodden_43 z3_43 z4_43 ex H locs ls h9 hl hW kx0
      obtain ⟨q9, hf, h9, k9⟩ := ob_lp h9
      have hf : f_X6_along_row_B43 s_firstFault_43 s_firstLink_43 s_tipX_43 s_tipY_43 s_beginX_43 s_beginY_43 s_direction_43 s_trodden_43 s_p1_links s_p1_length s_p1_blocked s_p2 z3_43 z4_43 = some q9 := hf
      unfold f_X6_along_row_B43 at hf
      refine lv_iload hx hb dX6_along_43 (lv_at hl 4 rfl) ?_
      refine lv_aload_n hx hb dX6_along_45 rfl (lv_at hl 1 rfl) ?_
      refine q_get hF hK hW fl_X6_43 5 rfl rfl dX6_along_46 ?_
      refine q_icmp_ge (tgt := 167) hx hb dX6_along_49 (by decide) hf (fun hf => ?_) (fun hf => ?_)
      · cases hf
        have hx9 := k9 _ rfl
        subst hx9
        exact kx0 _ _ _ (lv_sub hl [] rfl) hW
      · refine lv_iload hx hb dX6_along_52 (lv_at hl 4 rfl) ?_
        refine lv_iconst (v := 4) hx hb dX6_along_54 (by decide) ?_
        refine q_icmp_ge (tgt := 167) hx hb dX6_along_55 (by decide) hf (fun hf => ?_) (fun hf => ?_)
        · cases hf
          have hx9 := k9 _ rfl
          subst hx9
          exact kx0 _ _ _ (lv_sub hl [] rfl) hW
        · refine lv_iload hx hb dX6_along_58 (lv_at hl 4 rfl) ?_
          refine lv_aload_n hx hb dX6_along_60 rfl (lv_at hl 2 rfl) ?_
          refine q_alen (v := 4) hx hb hK hW 8 0 rfl rfl rfl dX6_along_61 ?_
          refine q_icmp_ge (tgt := 167) hx hb dX6_along_62 (by decide) hf (fun hf => ?_) (fun hf => ?_)
          · cases hf
            have hx9 := k9 _ rfl
            subst hx9
            exact kx0 _ _ _ (lv_sub hl [] rfl) hW
          · refine lv_iload_n hx hb dX6_along_65 rfl (lv_at hl 3 rfl) ?_
            refine lv_aload_n hx hb dX6_along_66 rfl (lv_at hl 2 rfl) ?_
            refine lv_iload hx hb dX6_along_67 (lv_at hl 4 rfl) ?_
            refine q_iald hx hb hK hW 8 0 rfl rfl dX6_along_69 hf (fun hf => ?_)
            refine lv_iadd hx hb dX6_along_70 ?_
            refine lv_bipush (v := 7) hx hb dX6_along_71 (by decide) ?_
            refine lv_iand hx hb dX6_along_73 ?_
            refine lv_topi (fun v_3 ev_3 => ?_)
            replace hf := ob_let hf ev_3
            refine lv_istore_n (lv' := [(3, .int v_3), (0, .ref h_), (1, .ref h_p1), (2, .ref h_p2), (4, .int z4_43)]) hx hb dX6_along_74 rfl hl (by decide) rfl (fun ls hl => ?_)
            refine lv_aload_n hx hb dX6_along_75 rfl (lv_at hl 1 rfl) ?_
            refine q_get hF hK hW fl_X6_31 0 rfl rfl dX6_along_76 ?_
            refine lv_iload hx hb dX6_along_79 (lv_at hl 4 rfl) ?_
            refine lv_iload_n hx hb dX6_along_81 rfl (lv_at hl 0 rfl) ?_
            refine q_iast hx hb hK hW 3 0 rfl rfl dX6_along_82 hf (fun a_4 hf H locs hW => ?_)
            have hW : WD D A s (w_X6_along_row E h_ h_beginX h_beginY h_direction h_trodden h_p1 h_p1_length h_p1_lower h_p1_upper h_p1_value h_p1_obstacleX h_p1_obstacleY h_p1_blocked h_p2 s_firstFault_43 s_firstLink_43 s_tipX_43 s_tipY_43 s_beginX_43 s_beginY_43 a_4 s_trodden_43 s_p1_links s_p1_obstacles s_p1_length s_p1_blocked s_p2) H locs := hW
            refine lv_aload_n hx hb dX6_along_83 rfl (lv_at hl 1 rfl) ?_
            refine q_get hF hK hW fl_X6_24 0 rfl rfl dX6_along_84 ?_
            refine lv_iload hx hb dX6_along_87 (lv_at hl 4 rfl) ?_
            refine lv_aload_n hx hb dX6_along_89 rfl (lv_at hl 1 rfl) ?_
            refine q_get hF hK hW fl_X6_18 0 rfl rfl dX6_along_90 ?_
            refine q_iast hx hb hK hW 1 0 rfl rfl dX6_along_93 hf (fun a_5 hf H locs hW => ?_)
            have hW : WD D A s (w_X6_along_row E h_ h_beginX h_beginY h_direction h_trodden h_p1 h_p1_length h_p1_lower h_p1_upper h_p1_value h_p1_obstacleX h_p1_obstacleY h_p1_blocked h_p2 s_firstFault_43 s_firstLink_43 s_tipX_43 s_tipY_43 a_5 s_beginY_43 a_4 s_trodden_43 s_p1_links s_p1_obstacles s_p1_length s_p1_blocked s_p2) H locs := hW
            refine lv_aload_n hx hb dX6_along_94 rfl (lv_at hl 1 rfl) ?_
            refine q_get hF hK hW fl_X6_28 0 rfl rfl dX6_along_95 ?_
            refine lv_iload hx hb dX6_along_98 (lv_at hl 4 rfl) ?_
            refine lv_aload_n hx hb dX6_along_100 rfl (lv_at hl 1 rfl) ?_
            refine q_get hF hK hW fl_X6_21 0 rfl rfl dX6_along_101 ?_
            refine q_iast hx hb hK hW 2 0 rfl rfl dX6_along_104 hf (fun a_6 hf H locs hW => ?_)
            have hW : WD D A s (w_X6_along_row E h_ h_beginX h_beginY h_direction h_trodden h_p1 h_p1_length h_p1_lower h_p1_upper h_p1_value h_p1_obstacleX h_p1_obstacleY h_p1_blocked h_p2 s_firstFault_43 s_firstLink_43 s_tipX_43 s_tipY_43 a_5 a_6 a_4 s_trodden_43 s_p1_links s_p1_obstacles s_p1_length s_p1_blocked s_p2) H locs := hW
            refine lv_iconst (v := 0) hx hb dX6_along_105 (by decide) ?_
            refine lv_istore (lv' := [(5, .int 0), (3, .int v_3), (0, .ref h_), (1, .ref h_p1), (2, .ref h_p2), (4, .int z4_43)]) hx hb dX6_along_106 hl (by decide) rfl (fun ls hl => ?_)
            have hB108 : ∀ (n : Nat) (s_firstFault_108 : Int32) (s_firstLink_108 : Int32) (s_tipX_108 : Int32) (s_tipY_108 : Int32) (s_trodden_108 : Nat → Int32) (z5_108 : Int32) (ex : Int32 × Int32 × Int32 × Int32 × (Nat → Int32)) (H : Heap) (locs : List Loc) (ls : Array Slot), LPF (fun z => f_X6_along_row_B108 z.1 z.2.1 z.2.2.1 z.2.2.2.1 a_5 a_6 a_4 z.2.2.2.2.1 s_p1_links s_p1_length s_p1_blocked s_p2 v_3 z4_43 z.2.2.2.2.2) n (s_firstFault_108, s_firstLink_108, s_tipX_108, s_tipY_108, s_trodden_108, z5_108) = some ex → lv_has ls 6 [(0, .ref h_), (1, .ref h_p1), (2, .ref h_p2), (3, .int v_3), (4, .int z4_43), (5, .int z5_108)] → WD D A s (w_X6_along_row E h_ h_beginX h_beginY h_direction h_trodden h_p1 h_p1_length h_p1_lower h_p1_upper h_p1_value h_p1_obstacleX h_p1_obstacleY h_p1_blocked h_p2 s_firstFault_108 s_firstLink_108 s_tipX_108 s_tipY_108 a_5 a_6 a_4 s_trodden_108 s_p1_links s_p1_obstacles s_p1_length s_p1_blocked s_p2) H locs → (∀ (H : Heap) (locs : List Loc) (ls : Array Slot), lv_has ls 6 [(0, .ref h_), (1, .ref h_p1), (2, .ref h_p2), (3, .int v_3), (4, .int z4_43)] → WD D A s (w_X6_along_row E h_ h_beginX h_beginY h_direction h_trodden h_p1 h_p1_length h_p1_lower h_p1_upper h_p1_value h_p1_obstacleX h_p1_obstacleY h_p1_blocked h_p2 ex.1 ex.2.1 ex.2.2.1 ex.2.2.2.1 a_5 a_6 a_4 ex.2.2.2.2 s_p1_links s_p1_obstacles s_p1_length s_p1_blocked s_p2) H locs → W p l e (RM 2 46) s m args below meth c H locs 0 0 Q (F0 m 161 ls [])) → W p l e (RM 2 46) s m args below meth c H locs 0 0 Q (F0 m 108 ls []) := by
              intro n
              induction n with
              | zero => intro s_firstFault_108 s_firstLink_108 s_tipX_108 s_tipY_108 s_trodden_108 z5_108 ex H locs ls h9; exact (ob_lp0 h9).elim
              | succ n ih =>
                intro s_firstFault_108 s_firstLink_108 s_tipX_108 s_tipY_108 s_trodden_108 z5_108 ex H locs ls h9 hl hW kx0
                obtain ⟨q9, hf, h9, k9⟩ := ob_lp h9
                have hf : f_X6_along_row_B108 s_firstFault_108 s_firstLink_108 s_tipX_108 s_tipY_108 a_5 a_6 a_4 s_trodden_108 s_p1_links s_p1_length s_p1_blocked s_p2 v_3 z4_43 z5_108 = some q9 := hf
                unfold f_X6_along_row_B108 at hf
                refine lv_iload hx hb dX6_along_108 (lv_at hl 5 rfl) ?_
                refine lv_aload_n hx hb dX6_along_110 rfl (lv_at hl 1 rfl) ?_
                refine q_get hF hK hW fl_X6_48 5 rfl rfl dX6_along_111 ?_
                refine lv_iload hx hb dX6_along_114 (lv_at hl 4 rfl) ?_
                refine q_iald hx hb hK hW 6 0 rfl rfl dX6_along_116 hf (fun hf => ?_)
                refine q_icmp_ge (tgt := 161) hx hb dX6_along_117 (by decide) hf (fun hf => ?_) (fun hf => ?_)
                · cases hf
                  have hx9 := k9 _ rfl
                  subst hx9
                  exact kx0 _ _ _ (lv_sub hl [0, 1, 2, 3, 4] rfl) hW
                · refine lv_aload_n hx hb dX6_along_120 rfl (lv_at hl 0 rfl) ?_
                  refine lv_dup hx hb dX6_along_121 rfl ?_
                  refine q_get hF hK hW fl_X6_18 0 rfl rfl dX6_along_122 ?_
                  refine q_gets hF hW hZ.1 hZ nw_X6_51 dX6_along_125 (fun STEP_X_7 _ hSTEP_X_7 => ?_)
                  refine lv_iload_n hx hb dX6_along_128 rfl (lv_at hl 3 rfl) ?_
                  refine q_sald hx hb hK hSTEP_X_7 dX6_along_129 hf (fun hf => ?_)
                  refine lv_iadd hx hb dX6_along_130 ?_
                  refine lv_topi (fun v_8 ev_8 => ?_)
                  replace hf := ob_let hf ev_8
                  refine q_put hF hK hW fl_X6_18 ft_X6 rfl 0 rfl rfl rfl (Nat.le_of_ble_eq_true rfl) dX6_along_131 (fun H locs hW => ?_)
                  have hW : WD D A s (w_X6_along_row E h_ h_beginX h_beginY h_direction h_trodden h_p1 h_p1_length h_p1_lower h_p1_upper h_p1_value h_p1_obstacleX h_p1_obstacleY h_p1_blocked h_p2 s_firstFault_108 s_firstLink_108 v_8 s_tipY_108 a_5 a_6 a_4 s_trodden_108 s_p1_links s_p1_obstacles s_p1_length s_p1_blocked s_p2) H locs := hW
                  refine lv_aload_n hx hb dX6_along_134 rfl (lv_at hl 0 rfl) ?_
                  refine lv_dup hx hb dX6_along_135 rfl ?_
                  refine q_get hF hK hW fl_X6_21 0 rfl rfl dX6_along_136 ?_
                  refine q_gets hF hW hZ.2.1 hZ nw_X6_54 dX6_along_139 (fun STEP_Y_9 _ hSTEP_Y_9 => ?_)
                  refine lv_iload_n hx hb dX6_along_142 rfl (lv_at hl 3 rfl) ?_
                  refine q_sald hx hb hK hSTEP_Y_9 dX6_along_143 hf (fun hf => ?_)
                  refine lv_iadd hx hb dX6_along_144 ?_
                  refine lv_topi (fun v_10 ev_10 => ?_)
                  replace hf := ob_let hf ev_10
                  refine q_put hF hK hW fl_X6_21 ft_X6 rfl 0 rfl rfl rfl (Nat.le_of_ble_eq_true rfl) dX6_along_145 (fun H locs hW => ?_)
                  have hW : WD D A s (w_X6_along_row E h_ h_beginX h_beginY h_direction h_trodden h_p1 h_p1_length h_p1_lower h_p1_upper h_p1_value h_p1_obstacleX h_p1_obstacleY h_p1_blocked h_p2 s_firstFault_108 s_firstLink_108 v_8 v_10 a_5 a_6 a_4 s_trodden_108 s_p1_links s_p1_obstacles s_p1_length s_p1_blocked s_p2) H locs := hW
                  refine lv_aload_n hx hb dX6_along_148 rfl (lv_at hl 0 rfl) ?_
                  refine lv_aload_n hx hb dX6_along_149 rfl (lv_at hl 1 rfl) ?_
                  refine lv_iload hx hb dX6_along_150 (lv_at hl 4 rfl) ?_
                  obtain ⟨o_11, hc_11, hf⟩ := ob_bind hf
                  refine q_callV hF hl.1 hK hA hZ hW mv_X6_enterCell ml_X6_57 (c_X6_enterCell l D E tx h_ h_beginX h_beginY h_direction h_trodden h_p1 h_p1_length h_p1_lower h_p1_upper h_p1_value h_p1_obstacleX h_p1_obstacleY h_p1_blocked s_firstFault_108 s_firstLink_108 v_8 v_10 s_trodden_108 s_p1_links s_p1_obstacles s_p1_blocked z4_43 o_11.1 o_11.2.1 o_11.2.2 hc_11) [0, 4, 5, 7] rfl rfl rfl rfl rfl rfl ⟨Nat.le_of_ble_eq_true rfl, Nat.le_of_ble_eq_true rfl⟩ ⟨Nat.le_of_ble_eq_true rfl, Nat.le_of_ble_eq_true rfl⟩ rfl rfl (Nat.le_of_ble_eq_true rfl) dX6_along_152 (fun H locs hW => ?_)
                  have hW : WD D A s (w_X6_along_row E h_ h_beginX h_beginY h_direction h_trodden h_p1 h_p1_length h_p1_lower h_p1_upper h_p1_value h_p1_obstacleX h_p1_obstacleY h_p1_blocked h_p2 o_11.1 o_11.2.1 v_8 v_10 a_5 a_6 a_4 o_11.2.2 s_p1_links s_p1_obstacles s_p1_length s_p1_blocked s_p2) H locs := hW
                  obtain ⟨v_12, ev_12⟩ : ∃ y : Int32, y = z5_108 + 1 := ⟨_, rfl⟩
                  replace hf := ob_let hf ev_12
                  refine lv_iinc (v := v_12) (lv' := [(5, .int v_12), (0, .ref h_), (1, .ref h_p1), (2, .ref h_p2), (3, .int v_3), (4, .int z4_43)]) hx hb dX6_along_155 hl (k := 5) rfl (by rw [ev_12]; rfl) (by decide) rfl (fun ls hl => ?_)
                  refine lv_goto (tgt := 108) hx hb dX6_along_158 (by decide) ?_
                  cases hf
                  exact ih o_11.1 o_11.2.1 v_8 v_10 o_11.2.2 v_12 ex _ _ _ (h9 _ rfl) (lv_sub hl [1, 2, 3, 4, 5, 0] rfl) hW kx0
            obtain ⟨e_13, hc_13, hf⟩ := ob_bind hf
            refine hB108 lfuel s_firstFault_43 s_firstLink_43 s_tipX_43 s_tipY_43 s_trodden_43 0 e_13 _ _ _ hc_13 (lv_sub hl [2, 3, 4, 1, 5, 0] rfl) hW ?_
            intro H locs ls hl hW
            obtain ⟨v_14, ev_14⟩ : ∃ y : Int32, y = z4_43 + 1 := ⟨_, rfl⟩
            replace hf := ob_let hf ev_14
            refine lv_iinc (v := v_14) (lv' := [(4, .int v_14), (0, .ref h_), (1, .ref h_p1), (2, .ref h_p2), (3, .int v_3)]) hx hb dX6_along_161 hl (k := 4) rfl (by rw [ev_14]; rfl) (by decide) rfl (fun ls hl => ?_)
            refine lv_goto (tgt := 43) hx hb dX6_along_164 (by decide) ?_
            cases hf
            exact ih e_13.1 e_13.2.1 e_13.2.2.1 e_13.2.2.2.1 a_5 a_6 a_4 e_13.2.2.2.2 v_3 v_14 ex _ _ _ (h9 _ rfl) (lv_sub hl [1, 2, 3, 4, 0] rfl) hW kx0
  obtain ⟨e_15, hc_15, hf⟩ := ob_bind hf
  refine hB43 lfuel 0 0 0 0 s_beginX s_beginY s_direction a_2 0 0 e_15 _ _ _ hc_15 (lv_sub hl [2, 3, 4, 1, 0] rfl) hW ?_
  intro H locs ls hl hW
  cases hf
  exact hret dX6_along_167 hW
def w_X0_has (E : Nat → ClassId) (h_ h_used h_joints h_values : Nat) (s_names : Int32) (s_used : Nat → Int32) : va_W := [(h_, .inr (2, [.int s_names, .ref h_used, .ref h_joints, .ref h_values])), (h_used, .inl (E 1, 26, .inl s_used))]
set_option maxHeartbeats 4000000 in
set_option maxRecDepth 100000 in
theorem c_X0_has (l : Launch) (D : va_G) (E : Nat → ClassId) (tx : List (Nat × String)) (h_ h_used h_joints h_values : Nat) (s_names : Int32) (s_used : Nat → Int32) (x1 : Int32) (r0 : Int32) (hf : f_X0_has s_used x1 = some r0) : CI l yX0_has cX0_has 2 (some .boolean) 0 0 D E tx [.ref h_, .int x1] (w_X0_has E h_ h_used h_joints h_values s_names s_used) (w_X0_has E h_ h_used h_joints h_values s_names s_used) r0 := by
  refine CI_of RX0 pn_X0 rfl (Nat.le_of_ble_eq_true rfl) (fun p e s m args below meth c A Q hF hK hA hZ hW hret ls hl => ?_)
  have hx := hF.1
  have hb := hF.2.1
  have hl : lv_has ls 2 [(0, .ref h_), (1, .int x1)] := hl
  unfold f_X0_has at hf
  refine lv_iload_n hx hb dX0_has_0 rfl (lv_at hl 1 rfl) ?_
  refine q_if_lt (tgt := 23) hx hb dX0_has_1 (by decide) hf (fun hf => ?_) (fun hf => ?_)
  · refine lv_iconst (v := 0) hx hb dX0_has_23 (by decide) ?_
    cases hf
    exact hret dX0_has_24 rfl rfl hW
  · refine lv_iload_n hx hb dX0_has_4 rfl (lv_at hl 1 rfl) ?_
    refine lv_bipush (v := 26) hx hb dX0_has_5 (by decide) ?_
    refine q_icmp_ge (tgt := 23) hx hb dX0_has_7 (by decide) hf (fun hf => ?_) (fun hf => ?_)
    · refine lv_iconst (v := 0) hx hb dX0_has_23 (by decide) ?_
      cases hf
      exact hret dX0_has_24 rfl rfl hW
    · refine lv_aload_n hx hb dX0_has_10 rfl (lv_at hl 0 rfl) ?_
      refine q_get hF hK hW fl_X0_15 0 rfl rfl dX0_has_11 ?_
      refine lv_iload_n hx hb dX0_has_14 rfl (lv_at hl 1 rfl) ?_
      refine q_zald hx hb hK hW 1 1 rfl rfl dX0_has_15 hf (fun hf => ?_)
      refine q_if_eq (tgt := 23) hx hb dX0_has_16 (by decide) hf (fun hf => ?_) (fun hf => ?_)
      · refine lv_iconst (v := 0) hx hb dX0_has_23 (by decide) ?_
        cases hf
        exact hret dX0_has_24 rfl rfl hW
      · refine lv_iconst (v := 1) hx hb dX0_has_19 (by decide) ?_
        refine lv_goto (tgt := 24) hx hb dX0_has_20 (by decide) ?_
        cases hf
        exact hret dX0_has_24 rfl rfl hW
def w_X0_put (E : Nat → ClassId) (h_ h_used h_joints h_values h_p2 h_p2_length h_p2_lower h_p2_upper h_p2_value h_p2_obstacleX h_p2_obstacleY h_p2_blocked : Nat) (s_names : Int32) (s_used : Nat → Int32) (s_joints : Nat → Int32) (s_values : Nat → Int32) (s_p2_links : Int32) (s_p2_obstacles : Int32) (s_p2_value : Nat → Int32) : va_W := [(h_, .inr (2, [.int s_names, .ref h_used, .ref h_joints, .ref h_values])), (h_used, .inl (E 1, 26, .inl s_used)), (h_joints, .inl (E 0, 26, .inl s_joints)), (h_values, .inl (E 0, 104, .inl s_values)), (h_p2, .inr (6, [.int s_p2_links, .ref h_p2_length, .ref h_p2_lower, .ref h_p2_upper, .ref h_p2_value, .int s_p2_obstacles, .ref h_p2_obstacleX, .ref h_p2_obstacleY, .ref h_p2_blocked])), (h_p2_value, .inl (E 0, 4, .inl s_p2_value))]
set_option maxHeartbeats 4000000 in
set_option maxRecDepth 100000 in
theorem c_X0_put (l : Launch) (D : va_G) (E : Nat → ClassId) (tx : List (Nat × String)) (h_ h_used h_joints h_values h_p2 h_p2_length h_p2_lower h_p2_upper h_p2_value h_p2_obstacleX h_p2_obstacleY h_p2_blocked : Nat) (s_names : Int32) (s_used : Nat → Int32) (s_joints : Nat → Int32) (s_values : Nat → Int32) (s_p2_links : Int32) (s_p2_obstacles : Int32) (s_p2_value : Nat → Int32) (x1 : Int32) (r0 : Int32) (r1 : Nat → Int32) (r2 : Nat → Int32) (r3 : Nat → Int32) (hf : f_X0_put s_names s_used s_joints s_values s_p2_links s_p2_value x1 = some (r0, r1, r2, r3)) : CV l yX0_put cX0_put 3 1 64 D E tx [.ref h_, .int x1, .ref h_p2] (w_X0_put E h_ h_used h_joints h_values h_p2 h_p2_length h_p2_lower h_p2_upper h_p2_value h_p2_obstacleX h_p2_obstacleY h_p2_blocked s_names s_used s_joints s_values s_p2_links s_p2_obstacles s_p2_value) (w_X0_put E h_ h_used h_joints h_values h_p2 h_p2_length h_p2_lower h_p2_upper h_p2_value h_p2_obstacleX h_p2_obstacleY h_p2_blocked r0 r1 r2 r3 s_p2_links s_p2_obstacles s_p2_value) := by
  refine CV_of RX0 pn_X0 rfl (Nat.le_of_ble_eq_true rfl) (fun p e s m args below meth c A Q hF hK hA hZ hW hret ls hl => ?_)
  have hx := hF.1
  have hb := hF.2.1
  have hl : lv_has ls 3 [(0, .ref h_), (1, .int x1), (2, .ref h_p2)] := hl
  unfold f_X0_put at hf
  have hL37 : ∀ (s_names_37 : Int32) (s_used_37 : Nat → Int32) (s_joints_37 : Nat → Int32) (s_values_37 : Nat → Int32) (y1_37 : Int32) (H : Heap) (locs : List Loc) (ls : Array Slot), f_X0_put_L37 s_names_37 s_used_37 s_joints_37 s_values_37 s_p2_links s_p2_value y1_37 = some (r0, r1, r2, r3) → lv_has ls 3 [(0, .ref h_), (1, .int y1_37), (2, .ref h_p2)] → WD D A s (w_X0_put E h_ h_used h_joints h_values h_p2 h_p2_length h_p2_lower h_p2_upper h_p2_value h_p2_obstacleX h_p2_obstacleY h_p2_blocked s_names_37 s_used_37 s_joints_37 s_values_37 s_p2_links s_p2_obstacles s_p2_value) H locs → W p l e (RM 1 64) s m args below meth c H locs 0 0 Q (F0 m 37 ls []) := by
    intro s_names_37 s_used_37 s_joints_37 s_values_37 y1_37 H locs ls hf hl hW
    unfold f_X0_put_L37 at hf
    refine lv_aload_n hx hb dX0_put_37 rfl (lv_at hl 0 rfl) ?_
    refine q_get hF hK hW fl_X0_19 0 rfl rfl dX0_put_38 ?_
    refine lv_iload_n hx hb dX0_put_41 rfl (lv_at hl 1 rfl) ?_
    refine lv_aload_n hx hb dX0_put_42 rfl (lv_at hl 2 rfl) ?_
    refine q_get hF hK hW fl_X0_26 4 rfl rfl dX0_put_43 ?_
    refine q_iast hx hb hK hW 2 0 rfl rfl dX0_put_46 hf (fun a_1 hf H locs hW => ?_)
    have hW : WD D A s (w_X0_put E h_ h_used h_joints h_values h_p2 h_p2_length h_p2_lower h_p2_upper h_p2_value h_p2_obstacleX h_p2_obstacleY h_p2_blocked s_names_37 s_used_37 a_1 s_values_37 s_p2_links s_p2_obstacles s_p2_value) H locs := hW
    refine lv_aload_n hx hb dX0_put_47 rfl (lv_at hl 2 rfl) ?_
    refine q_get hF hK hW fl_X0_31 4 rfl rfl dX0_put_48 ?_
    refine lv_iconst (v := 0) hx hb dX0_put_51 (by decide) ?_
    refine lv_aload_n hx hb dX0_put_52 rfl (lv_at hl 0 rfl) ?_
    refine q_get hF hK hW fl_X0_23 0 rfl rfl dX0_put_53 ?_
    refine lv_iload_n hx hb dX0_put_56 rfl (lv_at hl 1 rfl) ?_
    refine lv_iconst (v := 4) hx hb dX0_put_57 (by decide) ?_
    refine lv_imul hx hb dX0_put_58 ?_
    refine lv_iconst (v := 4) hx hb dX0_put_59 (by decide) ?_
    refine q_copyi hF hl.1 hK hW ml_X0_34 5 3 rfl rfl ⟨Nat.le_of_ble_eq_true rfl, by decide +kernel⟩ dX0_put_60 hf (fun a_2 hf H locs hW => ?_)
    have hW : WD D A s (w_X0_put E h_ h_used h_joints h_values h_p2 h_p2_length h_p2_lower h_p2_upper h_p2_value h_p2_obstacleX h_p2_obstacleY h_p2_blocked s_names_37 s_used_37 a_1 a_2 s_p2_links s_p2_obstacles s_p2_value) H locs := hW
    cases hf
    exact hret dX0_put_63 hW
  refine lv_iload_n hx hb dX0_put_0 rfl (lv_at hl 1 rfl) ?_
  refine q_if_lt (tgt := 10) hx hb dX0_put_1 (by decide) hf (fun hf => ?_) (fun hf => ?_)
  · cases hf
    exact hret dX0_put_10 hW
  · refine lv_iload_n hx hb dX0_put_4 rfl (lv_at hl 1 rfl) ?_
    refine lv_bipush (v := 26) hx hb dX0_put_5 (by decide) ?_
    refine q_icmp_lt (tgt := 11) hx hb dX0_put_7 (by decide) hf (fun hf => ?_) (fun hf => ?_)
    · refine lv_aload_n hx hb dX0_put_11 rfl (lv_at hl 0 rfl) ?_
      refine q_get hF hK hW fl_X0_15 0 rfl rfl dX0_put_12 ?_
      refine lv_iload_n hx hb dX0_put_15 rfl (lv_at hl 1 rfl) ?_
      refine q_zald hx hb hK hW 1 1 rfl rfl dX0_put_16 hf (fun hf => ?_)
      refine q_if_ne (tgt := 37) hx hb dX0_put_17 (by decide) hf (fun hf => ?_) (fun hf => ?_)
      · exact hL37 s_names s_used s_joints s_values x1 _ _ _ hf (lv_sub hl [0, 1, 2] rfl) hW
      · refine lv_aload_n hx hb dX0_put_20 rfl (lv_at hl 0 rfl) ?_
        refine q_get hF hK hW fl_X0_15 0 rfl rfl dX0_put_21 ?_
        refine lv_iload_n hx hb dX0_put_24 rfl (lv_at hl 1 rfl) ?_
        refine lv_iconst (v := 1) hx hb dX0_put_25 (by decide) ?_
        refine q_zast hx hb hK hW 1 1 rfl rfl dX0_put_26 hf (fun a_3 hf H locs hW => ?_)
        have hW : WD D A s (w_X0_put E h_ h_used h_joints h_values h_p2 h_p2_length h_p2_lower h_p2_upper h_p2_value h_p2_obstacleX h_p2_obstacleY h_p2_blocked s_names a_3 s_joints s_values s_p2_links s_p2_obstacles s_p2_value) H locs := hW
        refine lv_aload_n hx hb dX0_put_27 rfl (lv_at hl 0 rfl) ?_
        refine lv_dup hx hb dX0_put_28 rfl ?_
        refine q_get hF hK hW fl_X0_9 0 rfl rfl dX0_put_29 ?_
        refine lv_iconst (v := 1) hx hb dX0_put_32 (by decide) ?_
        refine lv_iadd hx hb dX0_put_33 ?_
        refine lv_topi (fun v_4 ev_4 => ?_)
        replace hf := ob_let hf ev_4
        refine q_put hF hK hW fl_X0_9 ft_X0 rfl 0 rfl rfl rfl (Nat.le_of_ble_eq_true rfl) dX0_put_34 (fun H locs hW => ?_)
        have hW : WD D A s (w_X0_put E h_ h_used h_joints h_values h_p2 h_p2_length h_p2_lower h_p2_upper h_p2_value h_p2_obstacleX h_p2_obstacleY h_p2_blocked v_4 a_3 s_joints s_values s_p2_links s_p2_obstacles s_p2_value) H locs := hW
        exact hL37 v_4 a_3 s_joints s_values x1 _ _ _ hf (lv_sub hl [0, 1, 2] rfl) hW
    · cases hf
      exact hret dX0_put_10 hW
def w_X0_suits (E : Nat → ClassId) (h_ h_used h_joints h_values h_p2 h_p2_length h_p2_lower h_p2_upper h_p2_value h_p2_obstacleX h_p2_obstacleY h_p2_blocked : Nat) (s_names : Int32) (s_used : Nat → Int32) (s_joints : Nat → Int32) (s_values : Nat → Int32) (s_p2_links : Int32) (s_p2_obstacles : Int32) (s_p2_lower : Nat → Int32) (s_p2_upper : Nat → Int32) : va_W := [(h_, .inr (2, [.int s_names, .ref h_used, .ref h_joints, .ref h_values])), (h_used, .inl (E 1, 26, .inl s_used)), (h_joints, .inl (E 0, 26, .inl s_joints)), (h_values, .inl (E 0, 104, .inl s_values)), (h_p2, .inr (6, [.int s_p2_links, .ref h_p2_length, .ref h_p2_lower, .ref h_p2_upper, .ref h_p2_value, .int s_p2_obstacles, .ref h_p2_obstacleX, .ref h_p2_obstacleY, .ref h_p2_blocked])), (h_p2_lower, .inl (E 0, 4, .inl s_p2_lower)), (h_p2_upper, .inl (E 0, 4, .inl s_p2_upper))]
set_option maxHeartbeats 4000000 in
set_option maxRecDepth 100000 in
theorem c_X0_suits (l : Launch) (D : va_G) (E : Nat → ClassId) (tx : List (Nat × String)) (h_ h_used h_joints h_values h_p2 h_p2_length h_p2_lower h_p2_upper h_p2_value h_p2_obstacleX h_p2_obstacleY h_p2_blocked : Nat) (s_names : Int32) (s_used : Nat → Int32) (s_joints : Nat → Int32) (s_values : Nat → Int32) (s_p2_links : Int32) (s_p2_obstacles : Int32) (s_p2_lower : Nat → Int32) (s_p2_upper : Nat → Int32) (x1 : Int32) (r0 : Int32) (hf : f_X0_suits s_used s_joints s_values s_p2_links s_p2_lower s_p2_upper x1 = some r0) : CI l yX0_suits cX0_suits 4 (some .boolean) 2 43 D E tx [.ref h_, .int x1, .ref h_p2] (w_X0_suits E h_ h_used h_joints h_values h_p2 h_p2_length h_p2_lower h_p2_upper h_p2_value h_p2_obstacleX h_p2_obstacleY h_p2_blocked s_names s_used s_joints s_values s_p2_links s_p2_obstacles s_p2_lower s_p2_upper) (w_X0_suits E h_ h_used h_joints h_values h_p2 h_p2_length h_p2_lower h_p2_upper h_p2_value h_p2_obstacleX h_p2_obstacleY h_p2_blocked s_names s_used s_joints s_values s_p2_links s_p2_obstacles s_p2_lower s_p2_upper) r0 := by
  refine CI_of RX0 pn_X0 rfl (Nat.le_of_ble_eq_true rfl) (fun p e s m args below meth c A Q hF hK hA hZ hW hret ls hl => ?_)
  have hx := hF.1
  have hb := hF.2.1
  have hl : lv_has ls 4 [(0, .ref h_), (1, .int x1), (2, .ref h_p2)] := hl
  unfold f_X0_suits at hf
  refine lv_aload_n hx hb dX0_suits_0 rfl (lv_at hl 0 rfl) ?_
  refine lv_iload_n hx hb dX0_suits_1 rfl (lv_at hl 1 rfl) ?_
  obtain ⟨o_1, hc_1, hf⟩ := ob_bind hf
  refine q_callI hF hl.1 hK hA hZ hW mv_X0_has ml_X0_40 (c_X0_has l D E tx h_ h_used h_joints h_values s_names s_used x1 o_1 hc_1) [0, 1] rfl rfl rfl rfl rfl rfl ⟨Nat.le_of_ble_eq_true rfl, Nat.le_of_ble_eq_true rfl⟩ ⟨Nat.le_of_ble_eq_true rfl, Nat.le_of_ble_eq_true rfl⟩ rfl rfl (Nat.le_of_ble_eq_true rfl) dX0_suits_2 (fun H locs hW => ?_)
  have hW : WD D A s (w_X0_suits E h_ h_used h_joints h_values h_p2 h_p2_length h_p2_lower h_p2_upper h_p2_value h_p2_obstacleX h_p2_obstacleY h_p2_blocked s_names s_used s_joints s_values s_p2_links s_p2_obstacles s_p2_lower s_p2_upper) H locs := hW
  refine q_if_eq (tgt := 21) hx hb dX0_suits_5 (by decide) hf (fun hf => ?_) (fun hf => ?_)
  · refine lv_iconst (v := 0) hx hb dX0_suits_21 (by decide) ?_
    cases hf
    exact hret dX0_suits_22 rfl rfl hW
  · refine lv_aload_n hx hb dX0_suits_8 rfl (lv_at hl 0 rfl) ?_
    refine q_get hF hK hW fl_X0_19 0 rfl rfl dX0_suits_9 ?_
    refine lv_iload_n hx hb dX0_suits_12 rfl (lv_at hl 1 rfl) ?_
    refine q_iald hx hb hK hW 2 0 rfl rfl dX0_suits_13 hf (fun hf => ?_)
    refine lv_aload_n hx hb dX0_suits_14 rfl (lv_at hl 2 rfl) ?_
    refine q_get hF hK hW fl_X0_26 4 rfl rfl dX0_suits_15 ?_
    refine q_icmp_eq (tgt := 23) hx hb dX0_suits_18 (by decide) hf (fun hf => ?_) (fun hf => ?_)
    · refine lv_iconst (v := 0) hx hb dX0_suits_23 (by decide) ?_
      refine lv_istore_n (lv' := [(3, .int 0), (0, .ref h_), (1, .int x1), (2, .ref h_p2)]) hx hb dX0_suits_24 rfl hl (by decide) rfl (fun ls hl => ?_)
      have hB25 : ∀ (n : Nat) (z3_25 : Int32) (ex : (Unit) ⊕ (Unit)) (H : Heap) (locs : List Loc) (ls : Array Slot), LPF (fun z => f_X0_suits_B25 s_used s_joints s_values s_p2_links s_p2_lower s_p2_upper x1 z) n z3_25 = some ex → lv_has ls 4 [(0, .ref h_), (1, .int x1), (2, .ref h_p2), (3, .int z3_25)] → WD D A s (w_X0_suits E h_ h_used h_joints h_values h_p2 h_p2_length h_p2_lower h_p2_upper h_p2_value h_p2_obstacleX h_p2_obstacleY h_p2_blocked s_names s_used s_joints s_values s_p2_links s_p2_obstacles s_p2_lower s_p2_upper) H locs → (∀ (u9 : Unit), ex = .inl u9 → ∀ (H : Heap) (locs : List Loc) (ls : Array Slot), lv_has ls 4 [] → WD D A s (w_X0_suits E h_ h_used h_joints h_values h_p2 h_p2_length h_p2_lower h_p2_upper h_p2_value h_p2_obstacleX h_p2_obstacleY h_p2_blocked s_names s_used s_joints s_values s_p2_links s_p2_obstacles s_p2_lower s_p2_upper) H locs → W p l e (RM 2 43) s m args below meth c H locs 0 0 Q (F0 m 56 ls [])) → (∀ (u9 : Unit), ex = .inr u9 → ∀ (H : Heap) (locs : List Loc) (ls : Array Slot), lv_has ls 4 [] → WD D A s (w_X0_suits E h_ h_used h_joints h_values h_p2 h_p2_length h_p2_lower h_p2_upper h_p2_value h_p2_obstacleX h_p2_obstacleY h_p2_blocked s_names s_used s_joints s_values s_p2_links s_p2_obstacles s_p2_lower s_p2_upper) H locs → W p l e (RM 2 43) s m args below meth c H locs 0 0 Q (F0 m 64 ls [])) → W p l e (RM 2 43) s m args below meth c H locs 0 0 Q (F0 m 25 ls []) := by
        intro n
        induction n with
        | zero => intro z3_25 ex H locs ls h9; exact (ob_lp0 h9).elim
        | succ n ih =>
          intro z3_25 ex H locs ls h9 hl hW kx0 kx1
          obtain ⟨q9, hf, h9, k9⟩ := ob_lp h9
          have hf : f_X0_suits_B25 s_used s_joints s_values s_p2_links s_p2_lower s_p2_upper x1 z3_25 = some q9 := hf
          unfold f_X0_suits_B25 at hf
          refine lv_iload_n hx hb dX0_suits_25 rfl (lv_at hl 3 rfl) ?_
          refine lv_aload_n hx hb dX0_suits_26 rfl (lv_at hl 2 rfl) ?_
          refine q_get hF hK hW fl_X0_26 4 rfl rfl dX0_suits_27 ?_
          refine q_icmp_ge (tgt := 64) hx hb dX0_suits_30 (by decide) hf (fun hf => ?_) (fun hf => ?_)
          · cases hf
            exact kx1 _ (k9 _ rfl) _ _ _ (lv_sub hl [] rfl) hW
          · refine lv_iload_n hx hb dX0_suits_33 rfl (lv_at hl 3 rfl) ?_
            refine lv_iconst (v := 4) hx hb dX0_suits_34 (by decide) ?_
            refine q_icmp_ge (tgt := 64) hx hb dX0_suits_35 (by decide) hf (fun hf => ?_) (fun hf => ?_)
            · cases hf
              exact kx1 _ (k9 _ rfl) _ _ _ (lv_sub hl [] rfl) hW
            · refine lv_aload_n hx hb dX0_suits_38 rfl (lv_at hl 2 rfl) ?_
              refine lv_iload_n hx hb dX0_suits_39 rfl (lv_at hl 3 rfl) ?_
              refine lv_aload_n hx hb dX0_suits_40 rfl (lv_at hl 0 rfl) ?_
              refine q_get hF hK hW fl_X0_23 0 rfl rfl dX0_suits_41 ?_
              refine lv_iload_n hx hb dX0_suits_44 rfl (lv_at hl 1 rfl) ?_
              refine lv_iconst (v := 4) hx hb dX0_suits_45 (by decide) ?_
              refine lv_imul hx hb dX0_suits_46 ?_
              refine lv_iload_n hx hb dX0_suits_47 rfl (lv_at hl 3 rfl) ?_
              refine lv_iadd hx hb dX0_suits_48 ?_
              refine q_iald hx hb hK hW 3 0 rfl rfl dX0_suits_49 hf (fun hf => ?_)
              obtain ⟨o_2, hc_2, hf⟩ := ob_bind hf
              refine q_callI hF hl.1 hK hA hZ hW mv_X4_allows ml_X0_44 (c_X4_allows l D E tx h_p2 h_p2_length h_p2_lower h_p2_upper h_p2_value h_p2_obstacleX h_p2_obstacleY h_p2_blocked s_p2_links s_p2_obstacles s_p2_lower s_p2_upper z3_25 (s_values ((x1 * 4) + z3_25).toNatClampNeg) o_2 hc_2) [4, 5, 6] rfl rfl rfl rfl rfl rfl ⟨Nat.le_of_ble_eq_true rfl, Nat.le_of_ble_eq_true rfl⟩ ⟨Nat.le_of_ble_eq_true rfl, Nat.le_of_ble_eq_true rfl⟩ rfl rfl (Nat.le_of_ble_eq_true rfl) dX0_suits_50 (fun H locs hW => ?_)
              have hW : WD D A s (w_X0_suits E h_ h_used h_joints h_values h_p2 h_p2_length h_p2_lower h_p2_upper h_p2_value h_p2_obstacleX h_p2_obstacleY h_p2_blocked s_names s_used s_joints s_values s_p2_links s_p2_obstacles s_p2_lower s_p2_upper) H locs := hW
              refine q_if_ne (tgt := 58) hx hb dX0_suits_53 (by decide) hf (fun hf => ?_) (fun hf => ?_)
              · obtain ⟨v_3, ev_3⟩ : ∃ y : Int32, y = z3_25 + 1 := ⟨_, rfl⟩
                replace hf := ob_let hf ev_3
                refine lv_iinc (v := v_3) (lv' := [(3, .int v_3), (0, .ref h_), (1, .int x1), (2, .ref h_p2)]) hx hb dX0_suits_58 hl (k := 3) rfl (by rw [ev_3]; rfl) (by decide) rfl (fun ls hl => ?_)
                refine lv_goto (tgt := 25) hx hb dX0_suits_61 (by decide) ?_
                cases hf
                exact ih v_3 ex _ _ _ (h9 _ rfl) (lv_sub hl [1, 2, 3, 0] rfl) hW kx0 kx1
              · cases hf
                exact kx0 _ (k9 _ rfl) _ _ _ (lv_sub hl [] rfl) hW
      obtain ⟨e_4, hc_4, hf⟩ := ob_bind hf
      refine hB25 lfuel 0 e_4 _ _ _ hc_4 (lv_sub hl [1, 2, 3, 0] rfl) hW ?_ ?_
      · intro u_5 hu H locs ls hl hW
        subst hu
        dsimp only at hf
        refine lv_iconst (v := 0) hx hb dX0_suits_56 (by decide) ?_
        cases hf
        exact hret dX0_suits_57 rfl rfl hW
      · intro u_6 hu H locs ls hl hW
        subst hu
        dsimp only at hf
        refine lv_iconst (v := 1) hx hb dX0_suits_64 (by decide) ?_
        cases hf
        exact hret dX0_suits_65 rfl rfl hW
    · refine lv_iconst (v := 0) hx hb dX0_suits_21 (by decide) ?_
      cases hf
      exact hret dX0_suits_22 rfl rfl hW
def w_X0_readValues (E : Nat → ClassId) (h_ h_used h_joints h_values h_p2 : Nat) (s_names : Int32) (s_used : Nat → Int32) (s_values : Nat → Int32) (s_p2 : Nat → Int32) : va_W := [(h_, .inr (2, [.int s_names, .ref h_used, .ref h_joints, .ref h_values])), (h_used, .inl (E 1, 26, .inl s_used)), (h_values, .inl (E 0, 104, .inl s_values)), (h_p2, .inl (E 0, 4, .inl s_p2))]
set_option maxHeartbeats 4000000 in
set_option maxRecDepth 100000 in
theorem c_X0_readValues (l : Launch) (D : va_G) (E : Nat → ClassId) (tx : List (Nat × String)) (h_ h_used h_joints h_values h_p2 : Nat) (s_names : Int32) (s_used : Nat → Int32) (s_values : Nat → Int32) (s_p2 : Nat → Int32) (x1 : Int32) (r0 : Nat → Int32) (hf : f_X0_readValues s_used s_values s_p2 x1 = some r0) : CV l yX0_readValues cX0_readValues 3 1 64 D E tx [.ref h_, .int x1, .ref h_p2] (w_X0_readValues E h_ h_used h_joints h_values h_p2 s_names s_used s_values s_p2) (w_X0_readValues E h_ h_used h_joints h_values h_p2 s_names s_used s_values r0) := by
  refine CV_of RX0 pn_X0 rfl (Nat.le_of_ble_eq_true rfl) (fun p e s m args below meth c A Q hF hK hA hZ hW hret ls hl => ?_)
  have hx := hF.1
  have hb := hF.2.1
  have hl : lv_has ls 3 [(0, .ref h_), (1, .int x1), (2, .ref h_p2)] := hl
  unfold f_X0_readValues at hf
  refine lv_aload_n hx hb dX0_readValues_0 rfl (lv_at hl 0 rfl) ?_
  refine lv_iload_n hx hb dX0_readValues_1 rfl (lv_at hl 1 rfl) ?_
  obtain ⟨o_1, hc_1, hf⟩ := ob_bind hf
  refine q_callI hF hl.1 hK hA hZ hW mv_X0_has ml_X0_40 (c_X0_has l D E tx h_ h_used h_joints h_values s_names s_used x1 o_1 hc_1) [0, 1] rfl rfl rfl rfl rfl rfl ⟨Nat.le_of_ble_eq_true rfl, Nat.le_of_ble_eq_true rfl⟩ ⟨Nat.le_of_ble_eq_true rfl, Nat.le_of_ble_eq_true rfl⟩ rfl rfl (Nat.le_of_ble_eq_true rfl) dX0_readValues_2 (fun H locs hW => ?_)
  have hW : WD D A s (w_X0_readValues E h_ h_used h_joints h_values h_p2 s_names s_used s_values s_p2) H locs := hW
  refine q_if_eq (tgt := 27) hx hb dX0_readValues_5 (by decide) hf (fun hf => ?_) (fun hf => ?_)
  · cases hf
    exact hret dX0_readValues_27 hW
  · refine lv_aload_n hx hb dX0_readValues_8 rfl (lv_at hl 2 rfl) ?_
    refine q_alen (v := 4) hx hb hK hW 3 0 rfl rfl rfl dX0_readValues_9 ?_
    refine lv_iconst (v := 4) hx hb dX0_readValues_10 (by decide) ?_
    refine q_icmp_lt (tgt := 27) hx hb dX0_readValues_11 (by decide) hf (fun hf => ?_) (fun hf => ?_)
    · cases hf
      exact hret dX0_readValues_27 hW
    · refine lv_aload_n hx hb dX0_readValues_14 rfl (lv_at hl 0 rfl) ?_
      refine q_get hF hK hW fl_X0_23 0 rfl rfl dX0_readValues_15 ?_
      refine lv_iload_n hx hb dX0_readValues_18 rfl (lv_at hl 1 rfl) ?_
      refine lv_iconst (v := 4) hx hb dX0_readValues_19 (by decide) ?_
      refine lv_imul hx hb dX0_readValues_20 ?_
      refine lv_aload_n hx hb dX0_readValues_21 rfl (lv_at hl 2 rfl) ?_
      refine lv_iconst (v := 0) hx hb dX0_readValues_22 (by decide) ?_
      refine lv_iconst (v := 4) hx hb dX0_readValues_23 (by decide) ?_
      refine q_copyi hF hl.1 hK hW ml_X0_34 2 3 rfl rfl ⟨Nat.le_of_ble_eq_true rfl, by decide +kernel⟩ dX0_readValues_24 hf (fun a_2 hf H locs hW => ?_)
      have hW : WD D A s (w_X0_readValues E h_ h_used h_joints h_values h_p2 s_names s_used s_values a_2) H locs := hW
      cases hf
      exact hret dX0_readValues_27 hW
