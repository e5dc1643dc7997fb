def w_J7_fill_53178_3 (E : Nat → ClassId) (h_p1 : Nat) (s_p1 : Nat → Int32) : va_W := [(h_p1, .inl (E 0, 3, .inl s_p1))]
set_option maxHeartbeats 4000000 in
set_option maxRecDepth 100000 in
theorem c_J7_fill_53178_3 (l : Launch) (D : va_G) (E : Nat → ClassId) (tx : List (Nat × String)) (h_p1 : Nat) (s_p1 : Nat → Int32) (x1 : Int32) (r0 : Nat → Int32) (hf : f_J7_fill_53178_3 s_p1 x1 = some r0) : CV l yJ7_fill_53178 cJ7_fill_53178 4 0 0 D E tx [.ref h_p1, .int x1] (w_J7_fill_53178_3 E h_p1 s_p1) (w_J7_fill_53178_3 E h_p1 r0) := by
  refine CV_of RJ7 pn_J7 rfl (Nat.le_of_ble_eq_true rfl) (fun p e s m args below meth c A Q hF hK hA hZ hW hret ls hl => ?_)
  have hx := hF.1
  have hb := hF.2.1
  have hl : lv_has ls 4 [(0, .ref h_p1), (1, .int x1)] := hl
  unfold f_J7_fill_53178_3 at hf
  refine lv_iconst (v := 0) hx hb dJ7_fill_53178_0 (by decide) ?_
  refine lv_istore_n (lv' := [(2, .int 0), (0, .ref h_p1), (1, .int x1)]) hx hb dJ7_fill_53178_1 rfl hl (by decide) rfl (fun ls hl => ?_)
  refine lv_aload_n hx hb dJ7_fill_53178_2 rfl (lv_at hl 1 rfl) ?_
  refine q_alen (v := 3) hx hb hK hW 0 0 rfl rfl rfl dJ7_fill_53178_3 ?_
  refine lv_istore_n (lv' := [(3, .int 3), (2, .int 0), (0, .ref h_p1), (1, .int x1)]) hx hb dJ7_fill_53178_4 rfl hl (by decide) rfl (fun ls hl => ?_)
  have hB5 : ∀ (n : Nat) (s_p1_5 : Nat → Int32) (z2_5 : Int32) (ex : (Nat → Int32)) (H : Heap) (locs : List Loc) (ls : Array Slot), LPF (fun z => f_J7_fill_53178_3_B5 z.1 x1 z.2 3) n (s_p1_5, z2_5) = some ex → lv_has ls 4 [(0, .ref h_p1), (1, .int x1), (2, .int z2_5), (3, .int 3)] → WD D A s (w_J7_fill_53178_3 E h_p1 s_p1_5) H locs → (∀ (H : Heap) (locs : List Loc) (ls : Array Slot), lv_has ls 4 [] → WD D A s (w_J7_fill_53178_3 E h_p1 ex) H locs → W p l e (RM 0 0) s m args below meth c H locs 0 0 Q (F0 m 20 ls [])) → W p l e (RM 0 0) s m args below meth c H locs 0 0 Q (F0 m 5 ls []) := by
    intro n
    induction n with
    | zero => intro s_p1_5 z2_5 ex H locs ls h9; exact (ob_lp0 h9).elim
    | succ n ih =>
      intro s_p1_5 z2_5 ex H locs ls h9 hl hW kx0
      obtain ⟨q9, hf, h9, k9⟩ := ob_lp h9
      have hf : f_J7_fill_53178_3_B5 s_p1_5 x1 z2_5 3 = some q9 := hf
      unfold f_J7_fill_53178_3_B5 at hf
      refine lv_iload_n hx hb dJ7_fill_53178_5 rfl (lv_at hl 2 rfl) ?_
      refine lv_iload_n hx hb dJ7_fill_53178_6 rfl (lv_at hl 3 rfl) ?_
      refine q_icmp_ge (tgt := 20) hx hb dJ7_fill_53178_7 (by decide) hf (fun hf => ?_) (fun hf => ?_)
      · cases hf
        have hx9 := k9 _ rfl
        subst hx9
        exact kx0 _ _ _ (lv_sub hl [] rfl) hW
      · refine lv_aload_n hx hb dJ7_fill_53178_10 rfl (lv_at hl 0 rfl) ?_
        refine lv_iload_n hx hb dJ7_fill_53178_11 rfl (lv_at hl 2 rfl) ?_
        refine lv_iload_n hx hb dJ7_fill_53178_12 rfl (lv_at hl 1 rfl) ?_
        refine q_iast hx hb hK hW 0 0 rfl rfl dJ7_fill_53178_13 hf (fun a_1 hf H locs hW => ?_)
        have hW : WD D A s (w_J7_fill_53178_3 E h_p1 a_1) H locs := hW
        obtain ⟨v_2, ev_2⟩ : ∃ y : Int32, y = z2_5 + 1 := ⟨_, rfl⟩
        replace hf := ob_let hf ev_2
        refine lv_iinc (v := v_2) (lv' := [(2, .int v_2), (0, .ref h_p1), (1, .int x1), (3, .int 3)]) hx hb dJ7_fill_53178_14 hl (k := 2) rfl (by rw [ev_2]; rfl) (by decide) rfl (fun ls hl => ?_)
        refine lv_goto (tgt := 5) hx hb dJ7_fill_53178_17 (by decide) ?_
        cases hf
        exact ih a_1 v_2 ex _ _ _ (h9 _ rfl) (lv_sub hl [1, 2, 0, 3] rfl) hW kx0
  obtain ⟨e_3, hc_3, hf⟩ := ob_bind hf
  refine hB5 lfuel s_p1 0 e_3 _ _ _ hc_3 (lv_sub hl [2, 3, 1, 0] rfl) hW ?_
  intro H locs ls hl hW
  cases hf
  exact hret dJ7_fill_53178_20 hW
def w_J7_fill_53178_21 (E : Nat → ClassId) (h_p1 : Nat) (s_p1 : Nat → Int32) : va_W := [(h_p1, .inl (E 0, 21, .inl s_p1))]
set_option maxHeartbeats 4000000 in
set_option maxRecDepth 100000 in
theorem c_J7_fill_53178_21 (l : Launch) (D : va_G) (E : Nat → ClassId) (tx : List (Nat × String)) (h_p1 : Nat) (s_p1 : Nat → Int32) (x1 : Int32) (r0 : Nat → Int32) (hf : f_J7_fill_53178_21 s_p1 x1 = some r0) : CV l yJ7_fill_53178 cJ7_fill_53178 4 0 0 D E tx [.ref h_p1, .int x1] (w_J7_fill_53178_21 E h_p1 s_p1) (w_J7_fill_53178_21 E h_p1 r0) := by
  refine CV_of RJ7 pn_J7 rfl (Nat.le_of_ble_eq_true rfl) (fun p e s m args below meth c A Q hF hK hA hZ hW hret ls hl => ?_)
  have hx := hF.1
  have hb := hF.2.1
  have hl : lv_has ls 4 [(0, .ref h_p1), (1, .int x1)] := hl
  unfold f_J7_fill_53178_21 at hf
  refine lv_iconst (v := 0) hx hb dJ7_fill_53178_0 (by decide) ?_
  refine lv_istore_n (lv' := [(2, .int 0), (0, .ref h_p1), (1, .int x1)]) hx hb dJ7_fill_53178_1 rfl hl (by decide) rfl (fun ls hl => ?_)
  refine lv_aload_n hx hb dJ7_fill_53178_2 rfl (lv_at hl 1 rfl) ?_
  refine q_alen (v := 21) hx hb hK hW 0 0 rfl rfl rfl dJ7_fill_53178_3 ?_
  refine lv_istore_n (lv' := [(3, .int 21), (2, .int 0), (0, .ref h_p1), (1, .int x1)]) hx hb dJ7_fill_53178_4 rfl hl (by decide) rfl (fun ls hl => ?_)
  have hB5 : ∀ (n : Nat) (s_p1_5 : Nat → Int32) (z2_5 : Int32) (ex : (Nat → Int32)) (H : Heap) (locs : List Loc) (ls : Array Slot), LPF (fun z => f_J7_fill_53178_21_B5 z.1 x1 z.2 21) n (s_p1_5, z2_5) = some ex → lv_has ls 4 [(0, .ref h_p1), (1, .int x1), (2, .int z2_5), (3, .int 21)] → WD D A s (w_J7_fill_53178_21 E h_p1 s_p1_5) H locs → (∀ (H : Heap) (locs : List Loc) (ls : Array Slot), lv_has ls 4 [] → WD D A s (w_J7_fill_53178_21 E h_p1 ex) H locs → W p l e (RM 0 0) s m args below meth c H locs 0 0 Q (F0 m 20 ls [])) → W p l e (RM 0 0) s m args below meth c H locs 0 0 Q (F0 m 5 ls []) := by
    intro n
    induction n with
    | zero => intro s_p1_5 z2_5 ex H locs ls h9; exact (ob_lp0 h9).elim
    | succ n ih =>
      intro s_p1_5 z2_5 ex H locs ls h9 hl hW kx0
      obtain ⟨q9, hf, h9, k9⟩ := ob_lp h9
      have hf : f_J7_fill_53178_21_B5 s_p1_5 x1 z2_5 21 = some q9 := hf
      unfold f_J7_fill_53178_21_B5 at hf
      refine lv_iload_n hx hb dJ7_fill_53178_5 rfl (lv_at hl 2 rfl) ?_
      refine lv_iload_n hx hb dJ7_fill_53178_6 rfl (lv_at hl 3 rfl) ?_
      refine q_icmp_ge (tgt := 20) hx hb dJ7_fill_53178_7 (by decide) hf (fun hf => ?_) (fun hf => ?_)
      · cases hf
        have hx9 := k9 _ rfl
        subst hx9
        exact kx0 _ _ _ (lv_sub hl [] rfl) hW
      · refine lv_aload_n hx hb dJ7_fill_53178_10 rfl (lv_at hl 0 rfl) ?_
        refine lv_iload_n hx hb dJ7_fill_53178_11 rfl (lv_at hl 2 rfl) ?_
        refine lv_iload_n hx hb dJ7_fill_53178_12 rfl (lv_at hl 1 rfl) ?_
        refine q_iast hx hb hK hW 0 0 rfl rfl dJ7_fill_53178_13 hf (fun a_1 hf H locs hW => ?_)
        have hW : WD D A s (w_J7_fill_53178_21 E h_p1 a_1) H locs := hW
        obtain ⟨v_2, ev_2⟩ : ∃ y : Int32, y = z2_5 + 1 := ⟨_, rfl⟩
        replace hf := ob_let hf ev_2
        refine lv_iinc (v := v_2) (lv' := [(2, .int v_2), (0, .ref h_p1), (1, .int x1), (3, .int 21)]) hx hb dJ7_fill_53178_14 hl (k := 2) rfl (by rw [ev_2]; rfl) (by decide) rfl (fun ls hl => ?_)
        refine lv_goto (tgt := 5) hx hb dJ7_fill_53178_17 (by decide) ?_
        cases hf
        exact ih a_1 v_2 ex _ _ _ (h9 _ rfl) (lv_sub hl [1, 2, 0, 3] rfl) hW kx0
  obtain ⟨e_3, hc_3, hf⟩ := ob_bind hf
  refine hB5 lfuel s_p1 0 e_3 _ _ _ hc_3 (lv_sub hl [2, 3, 1, 0] rfl) hW ?_
  intro H locs ls hl hW
  cases hf
  exact hret dJ7_fill_53178_20 hW
def w_J7_fill_53178_441 (E : Nat → ClassId) (h_p1 : Nat) (s_p1 : Nat → Int32) : va_W := [(h_p1, .inl (E 0, 441, .inl s_p1))]
set_option maxHeartbeats 4000000 in
set_option maxRecDepth 100000 in
theorem c_J7_fill_53178_441 (l : Launch) (D : va_G) (E : Nat → ClassId) (tx : List (Nat × String)) (h_p1 : Nat) (s_p1 : Nat → Int32) (x1 : Int32) (r0 : Nat → Int32) (hf : f_J7_fill_53178_441 s_p1 x1 = some r0) : CV l yJ7_fill_53178 cJ7_fill_53178 4 0 0 D E tx [.ref h_p1, .int x1] (w_J7_fill_53178_441 E h_p1 s_p1) (w_J7_fill_53178_441 E h_p1 r0) := by
  refine CV_of RJ7 pn_J7 rfl (Nat.le_of_ble_eq_true rfl) (fun p e s m args below meth c A Q hF hK hA hZ hW hret ls hl => ?_)
  have hx := hF.1
  have hb := hF.2.1
  have hl : lv_has ls 4 [(0, .ref h_p1), (1, .int x1)] := hl
  unfold f_J7_fill_53178_441 at hf
  refine lv_iconst (v := 0) hx hb dJ7_fill_53178_0 (by decide) ?_
  refine lv_istore_n (lv' := [(2, .int 0), (0, .ref h_p1), (1, .int x1)]) hx hb dJ7_fill_53178_1 rfl hl (by decide) rfl (fun ls hl => ?_)
  refine lv_aload_n hx hb dJ7_fill_53178_2 rfl (lv_at hl 1 rfl) ?_
  refine q_alen (v := 441) hx hb hK hW 0 0 rfl rfl rfl dJ7_fill_53178_3 ?_
  refine lv_istore_n (lv' := [(3, .int 441), (2, .int 0), (0, .ref h_p1), (1, .int x1)]) hx hb dJ7_fill_53178_4 rfl hl (by decide) rfl (fun ls hl => ?_)
  have hB5 : ∀ (n : Nat) (s_p1_5 : Nat → Int32) (z2_5 : Int32) (ex : (Nat → Int32)) (H : Heap) (locs : List Loc) (ls : Array Slot), LPF (fun z => f_J7_fill_53178_441_B5 z.1 x1 z.2 441) n (s_p1_5, z2_5) = some ex → lv_has ls 4 [(0, .ref h_p1), (1, .int x1), (2, .int z2_5), (3, .int 441)] → WD D A s (w_J7_fill_53178_441 E h_p1 s_p1_5) H locs → (∀ (H : Heap) (locs : List Loc) (ls : Array Slot), lv_has ls 4 [] → WD D A s (w_J7_fill_53178_441 E h_p1 ex) H locs → W p l e (RM 0 0) s m args below meth c H locs 0 0 Q (F0 m 20 ls [])) → W p l e (RM 0 0) s m args below meth c H locs 0 0 Q (F0 m 5 ls []) := by
    intro n
    induction n with
    | zero => intro s_p1_5 z2_5 ex H locs ls h9; exact (ob_lp0 h9).elim
    | succ n ih =>
      intro s_p1_5 z2_5 ex H locs ls h9 hl hW kx0
      obtain ⟨q9, hf, h9, k9⟩ := ob_lp h9
      have hf : f_J7_fill_53178_441_B5 s_p1_5 x1 z2_5 441 = some q9 := hf
      unfold f_J7_fill_53178_441_B5 at hf
      refine lv_iload_n hx hb dJ7_fill_53178_5 rfl (lv_at hl 2 rfl) ?_
      refine lv_iload_n hx hb dJ7_fill_53178_6 rfl (lv_at hl 3 rfl) ?_
      refine q_icmp_ge (tgt := 20) hx hb dJ7_fill_53178_7 (by decide) hf (fun hf => ?_) (fun hf => ?_)
      · cases hf
        have hx9 := k9 _ rfl
        subst hx9
        exact kx0 _ _ _ (lv_sub hl [] rfl) hW
      · refine lv_aload_n hx hb dJ7_fill_53178_10 rfl (lv_at hl 0 rfl) ?_
        refine lv_iload_n hx hb dJ7_fill_53178_11 rfl (lv_at hl 2 rfl) ?_
        refine lv_iload_n hx hb dJ7_fill_53178_12 rfl (lv_at hl 1 rfl) ?_
        refine q_iast hx hb hK hW 0 0 rfl rfl dJ7_fill_53178_13 hf (fun a_1 hf H locs hW => ?_)
        have hW : WD D A s (w_J7_fill_53178_441 E h_p1 a_1) H locs := hW
        obtain ⟨v_2, ev_2⟩ : ∃ y : Int32, y = z2_5 + 1 := ⟨_, rfl⟩
        replace hf := ob_let hf ev_2
        refine lv_iinc (v := v_2) (lv' := [(2, .int v_2), (0, .ref h_p1), (1, .int x1), (3, .int 441)]) hx hb dJ7_fill_53178_14 hl (k := 2) rfl (by rw [ev_2]; rfl) (by decide) rfl (fun ls hl => ?_)
        refine lv_goto (tgt := 5) hx hb dJ7_fill_53178_17 (by decide) ?_
        cases hf
        exact ih a_1 v_2 ex _ _ _ (h9 _ rfl) (lv_sub hl [1, 2, 0, 3] rfl) hW kx0
  obtain ⟨e_3, hc_3, hf⟩ := ob_bind hf
  refine hB5 lfuel s_p1 0 e_3 _ _ _ hc_3 (lv_sub hl [2, 3, 1, 0] rfl) hW ?_
  intro H locs ls hl hW
  cases hf
  exact hret dJ7_fill_53178_20 hW
def w_J7_fill_53178_5000 (E : Nat → ClassId) (h_p1 : Nat) (s_p1 : Nat → Int32) : va_W := [(h_p1, .inl (E 0, 5000, .inl s_p1))]
set_option maxHeartbeats 4000000 in
set_option maxRecDepth 100000 in
theorem c_J7_fill_53178_5000 (l : Launch) (D : va_G) (E : Nat → ClassId) (tx : List (Nat × String)) (h_p1 : Nat) (s_p1 : Nat → Int32) (x1 : Int32) (r0 : Nat → Int32) (hf : f_J7_fill_53178_5000 s_p1 x1 = some r0) : CV l yJ7_fill_53178 cJ7_fill_53178 4 0 0 D E tx [.ref h_p1, .int x1] (w_J7_fill_53178_5000 E h_p1 s_p1) (w_J7_fill_53178_5000 E h_p1 r0) := by
  refine CV_of RJ7 pn_J7 rfl (Nat.le_of_ble_eq_true rfl) (fun p e s m args below meth c A Q hF hK hA hZ hW hret ls hl => ?_)
  have hx := hF.1
  have hb := hF.2.1
  have hl : lv_has ls 4 [(0, .ref h_p1), (1, .int x1)] := hl
  unfold f_J7_fill_53178_5000 at hf
  refine lv_iconst (v := 0) hx hb dJ7_fill_53178_0 (by decide) ?_
  refine lv_istore_n (lv' := [(2, .int 0), (0, .ref h_p1), (1, .int x1)]) hx hb dJ7_fill_53178_1 rfl hl (by decide) rfl (fun ls hl => ?_)
  refine lv_aload_n hx hb dJ7_fill_53178_2 rfl (lv_at hl 1 rfl) ?_
  refine q_alen (v := 5000) hx hb hK hW 0 0 rfl rfl rfl dJ7_fill_53178_3 ?_
  refine lv_istore_n (lv' := [(3, .int 5000), (2, .int 0), (0, .ref h_p1), (1, .int x1)]) hx hb dJ7_fill_53178_4 rfl hl (by decide) rfl (fun ls hl => ?_)
  have hB5 : ∀ (n : Nat) (s_p1_5 : Nat → Int32) (z2_5 : Int32) (ex : (Nat → Int32)) (H : Heap) (locs : List Loc) (ls : Array Slot), LPF (fun z => f_J7_fill_53178_5000_B5 z.1 x1 z.2 5000) n (s_p1_5, z2_5) = some ex → lv_has ls 4 [(0, .ref h_p1), (1, .int x1), (2, .int z2_5), (3, .int 5000)] → WD D A s (w_J7_fill_53178_5000 E h_p1 s_p1_5) H locs → (∀ (H : Heap) (locs : List Loc) (ls : Array Slot), lv_has ls 4 [] → WD D A s (w_J7_fill_53178_5000 E h_p1 ex) H locs → W p l e (RM 0 0) s m args below meth c H locs 0 0 Q (F0 m 20 ls [])) → W p l e (RM 0 0) s m args below meth c H locs 0 0 Q (F0 m 5 ls []) := by
    intro n
    induction n with
    | zero => intro s_p1_5 z2_5 ex H locs ls h9; exact (ob_lp0 h9).elim
    | succ n ih =>
      intro s_p1_5 z2_5 ex H locs ls h9 hl hW kx0
      obtain ⟨q9, hf, h9, k9⟩ := ob_lp h9
      have hf : f_J7_fill_53178_5000_B5 s_p1_5 x1 z2_5 5000 = some q9 := hf
      unfold f_J7_fill_53178_5000_B5 at hf
      refine lv_iload_n hx hb dJ7_fill_53178_5 rfl (lv_at hl 2 rfl) ?_
      refine lv_iload_n hx hb dJ7_fill_53178_6 rfl (lv_at hl 3 rfl) ?_
      refine q_icmp_ge (tgt := 20) hx hb dJ7_fill_53178_7 (by decide) hf (fun hf => ?_) (fun hf => ?_)
      · cases hf
        have hx9 := k9 _ rfl
        subst hx9
        exact kx0 _ _ _ (lv_sub hl [] rfl) hW
      · refine lv_aload_n hx hb dJ7_fill_53178_10 rfl (lv_at hl 0 rfl) ?_
        refine lv_iload_n hx hb dJ7_fill_53178_11 rfl (lv_at hl 2 rfl) ?_
        refine lv_iload_n hx hb dJ7_fill_53178_12 rfl (lv_at hl 1 rfl) ?_
        refine q_iast hx hb hK hW 0 0 rfl rfl dJ7_fill_53178_13 hf (fun a_1 hf H locs hW => ?_)
        have hW : WD D A s (w_J7_fill_53178_5000 E h_p1 a_1) H locs := hW
        obtain ⟨v_2, ev_2⟩ : ∃ y : Int32, y = z2_5 + 1 := ⟨_, rfl⟩
        replace hf := ob_let hf ev_2
        refine lv_iinc (v := v_2) (lv' := [(2, .int v_2), (0, .ref h_p1), (1, .int x1), (3, .int 5000)]) hx hb dJ7_fill_53178_14 hl (k := 2) rfl (by rw [ev_2]; rfl) (by decide) rfl (fun ls hl => ?_)
        refine lv_goto (tgt := 5) hx hb dJ7_fill_53178_17 (by decide) ?_
        cases hf
        exact ih a_1 v_2 ex _ _ _ (h9 _ rfl) (lv_sub hl [1, 2, 0, 3] rfl) hW kx0
  obtain ⟨e_3, hc_3, hf⟩ := ob_bind hf
  refine hB5 lfuel s_p1 0 e_3 _ _ _ hc_3 (lv_sub hl [2, 3, 1, 0] rfl) hW ?_
  intro H locs ls hl hW
  cases hf
  exact hret dJ7_fill_53178_20 hW
def w_X7_isInside (E : Nat → ClassId)   : va_W := []
set_option maxHeartbeats 4000000 in
set_option maxRecDepth 100000 in
theorem c_X7_isInside (l : Launch) (D : va_G) (E : Nat → ClassId) (tx : List (Nat × String))   (x0 : Int32) (x1 : Int32) (r0 : Int32) (hf : f_X7_isInside x0 x1 = some r0) : CI l yX7_isInside cX7_isInside 2 (some .boolean) 0 0 D E tx [.int x0, .int x1] (w_X7_isInside E ) (w_X7_isInside E ) r0 := by
  refine CI_of RX7 pn_X7 rfl (Nat.le_of_ble_eq_true rfl) (fun p e s m args below meth c A Q hF hK hA hZ hW hret ls hl => ?_)
  have hx := hF.1
  have hb := hF.2.1
  have hl : lv_has ls 2 [(0, .int x0), (1, .int x1)] := hl
  unfold f_X7_isInside at hf
  refine lv_iload_n hx hb dX7_isInside_0 rfl (lv_at hl 0 rfl) ?_
  refine lv_bipush (v := (-10)) hx hb dX7_isInside_1 (by decide) ?_
  refine q_icmp_lt (tgt := 28) hx hb dX7_isInside_3 (by decide) hf (fun hf => ?_) (fun hf => ?_)
  · refine lv_iconst (v := 0) hx hb dX7_isInside_28 (by decide) ?_
    cases hf
    exact hret dX7_isInside_29 rfl rfl hW
  · refine lv_iload_n hx hb dX7_isInside_6 rfl (lv_at hl 0 rfl) ?_
    refine lv_bipush (v := 10) hx hb dX7_isInside_7 (by decide) ?_
    refine q_icmp_gt (tgt := 28) hx hb dX7_isInside_9 (by decide) hf (fun hf => ?_) (fun hf => ?_)
    · refine lv_iconst (v := 0) hx hb dX7_isInside_28 (by decide) ?_
      cases hf
      exact hret dX7_isInside_29 rfl rfl hW
    · refine lv_iload_n hx hb dX7_isInside_12 rfl (lv_at hl 1 rfl) ?_
      refine lv_bipush (v := (-10)) hx hb dX7_isInside_13 (by decide) ?_
      refine q_icmp_lt (tgt := 28) hx hb dX7_isInside_15 (by decide) hf (fun hf => ?_) (fun hf => ?_)
      · refine lv_iconst (v := 0) hx hb dX7_isInside_28 (by decide) ?_
        cases hf
        exact hret dX7_isInside_29 rfl rfl hW
      · refine lv_iload_n hx hb dX7_isInside_18 rfl (lv_at hl 1 rfl) ?_
        refine lv_bipush (v := 10) hx hb dX7_isInside_19 (by decide) ?_
        refine q_icmp_gt (tgt := 28) hx hb dX7_isInside_21 (by decide) hf (fun hf => ?_) (fun hf => ?_)
        · refine lv_iconst (v := 0) hx hb dX7_isInside_28 (by decide) ?_
          cases hf
          exact hret dX7_isInside_29 rfl rfl hW
        · refine lv_iconst (v := 1) hx hb dX7_isInside_24 (by decide) ?_
          refine lv_goto (tgt := 29) hx hb dX7_isInside_25 (by decide) ?_
          cases hf
          exact hret dX7_isInside_29 rfl rfl hW
def w_X7_jointOf (E : Nat → ClassId)   : va_W := []
set_option maxHeartbeats 4000000 in
set_option maxRecDepth 100000 in
theorem c_X7_jointOf (l : Launch) (D : va_G) (E : Nat → ClassId) (tx : List (Nat × String))   (x0 : Int32) (r0 : Int32) (hf : f_X7_jointOf x0 = some r0) : CI l yX7_jointOf cX7_jointOf 1 (some .int) 0 0 D E tx [.int x0] (w_X7_jointOf E ) (w_X7_jointOf E ) r0 := by
  refine CI_of RX7 pn_X7 rfl (Nat.le_of_ble_eq_true rfl) (fun p e s m args below meth c A Q hF hK hA hZ hW hret ls hl => ?_)
  have hx := hF.1
  have hb := hF.2.1
  have hl : lv_has ls 1 [(0, .int x0)] := hl
  unfold f_X7_jointOf at hf
  refine lv_iload_n hx hb dX7_jointOf_0 rfl (lv_at hl 0 rfl) ?_
  refine lv_iconst (v := 1) hx hb dX7_jointOf_1 (by decide) ?_
  refine lv_ishr hx hb dX7_jointOf_2 ?_
  cases hf
  exact hret dX7_jointOf_3 rfl rfl hW
def w_X7_turnOf (E : Nat → ClassId)   : va_W := []
set_option maxHeartbeats 4000000 in
set_option maxRecDepth 100000 in
theorem c_X7_turnOf (l : Launch) (D : va_G) (E : Nat → ClassId) (tx : List (Nat × String))   (x0 : Int32) (r0 : Int32) (hf : f_X7_turnOf x0 = some r0) : CI l yX7_turnOf cX7_turnOf 1 (some .int) 0 0 D E tx [.int x0] (w_X7_turnOf E ) (w_X7_turnOf E ) r0 := by
  refine CI_of RX7 pn_X7 rfl (Nat.le_of_ble_eq_true rfl) (fun p e s m args below meth c A Q hF hK hA hZ hW hret ls hl => ?_)
  have hx := hF.1
  have hb := hF.2.1
  have hl : lv_has ls 1 [(0, .int x0)] := hl
  unfold f_X7_turnOf at hf
  refine lv_iload_n hx hb dX7_turnOf_0 rfl (lv_at hl 0 rfl) ?_
  refine lv_iconst (v := 1) hx hb dX7_turnOf_1 (by decide) ?_
  refine lv_iand hx hb dX7_turnOf_2 ?_
  refine q_if_ne (tgt := 10) hx hb dX7_turnOf_3 (by decide) hf (fun hf => ?_) (fun hf => ?_)
  · refine lv_iconst (v := 1) hx hb dX7_turnOf_10 (by decide) ?_
    cases hf
    exact hret dX7_turnOf_11 rfl rfl hW
  · refine lv_iconst (v := (-1)) hx hb dX7_turnOf_6 (by decide) ?_
    refine lv_goto (tgt := 11) hx hb dX7_turnOf_7 (by decide) ?_
    cases hf
    exact hret dX7_turnOf_11 rfl rfl hW
def w_X7_cellNumber (E : Nat → ClassId)   : va_W := []
set_option maxHeartbeats 4000000 in
set_option maxRecDepth 100000 in
theorem c_X7_cellNumber (l : Launch) (D : va_G) (E : Nat → ClassId) (tx : List (Nat × String))   (x0 : Int32) (x1 : Int32) (r0 : Int32) (hf : f_X7_cellNumber x0 x1 = some r0) : CI l yX7_cellNumber cX7_cellNumber 2 (some .int) 0 0 D E tx [.int x0, .int x1] (w_X7_cellNumber E ) (w_X7_cellNumber E ) r0 := by
  refine CI_of RX7 pn_X7 rfl (Nat.le_of_ble_eq_true rfl) (fun p e s m args below meth c A Q hF hK hA hZ hW hret ls hl => ?_)
  have hx := hF.1
  have hb := hF.2.1
  have hl : lv_has ls 2 [(0, .int x0), (1, .int x1)] := hl
  unfold f_X7_cellNumber at hf
  refine lv_iload_n hx hb dX7_cellNumber_0 rfl (lv_at hl 0 rfl) ?_
  refine lv_bipush (v := 10) hx hb dX7_cellNumber_1 (by decide) ?_
  refine lv_iadd hx hb dX7_cellNumber_3 ?_
  refine lv_bipush (v := 21) hx hb dX7_cellNumber_4 (by decide) ?_
  refine lv_imul hx hb dX7_cellNumber_6 ?_
  refine lv_iload_n hx hb dX7_cellNumber_7 rfl (lv_at hl 1 rfl) ?_
  refine lv_iadd hx hb dX7_cellNumber_8 ?_
  refine lv_bipush (v := 10) hx hb dX7_cellNumber_9 (by decide) ?_
  refine lv_iadd hx hb dX7_cellNumber_11 ?_
  cases hf
  exact hret dX7_cellNumber_12 rfl rfl hW
def w_X7_cellX (E : Nat → ClassId)   : va_W := []
set_option maxHeartbeats 4000000 in
set_option maxRecDepth 100000 in
theorem c_X7_cellX (l : Launch) (D : va_G) (E : Nat → ClassId) (tx : List (Nat × String))   (x0 : Int32) (r0 : Int32) (hf : f_X7_cellX x0 = some r0) : CI l yX7_cellX cX7_cellX 1 (some .int) 0 0 D E tx [.int x0] (w_X7_cellX E ) (w_X7_cellX E ) r0 := by
  refine CI_of RX7 pn_X7 rfl (Nat.le_of_ble_eq_true rfl) (fun p e s m args below meth c A Q hF hK hA hZ hW hret ls hl => ?_)
  have hx := hF.1
  have hb := hF.2.1
  have hl : lv_has ls 1 [(0, .int x0)] := hl
  unfold f_X7_cellX at hf
  refine lv_iload_n hx hb dX7_cellX_0 rfl (lv_at hl 0 rfl) ?_
  refine lv_bipush (v := 21) hx hb dX7_cellX_1 (by decide) ?_
  refine lv_idiv hx hb dX7_cellX_3 (by decide) ?_
  refine lv_bipush (v := 10) hx hb dX7_cellX_4 (by decide) ?_
  refine lv_isub hx hb dX7_cellX_6 ?_
  cases hf
  exact hret dX7_cellX_7 rfl rfl hW
def w_X7_cellY (E : Nat → ClassId)   : va_W := []
set_option maxHeartbeats 4000000 in
set_option maxRecDepth 100000 in
theorem c_X7_cellY (l : Launch) (D : va_G) (E : Nat → ClassId) (tx : List (Nat × String))   (x0 : Int32) (r0 : Int32) (hf : f_X7_cellY x0 = some r0) : CI l yX7_cellY cX7_cellY 1 (some .int) 0 0 D E tx [.int x0] (w_X7_cellY E ) (w_X7_cellY E ) r0 := by
  refine CI_of RX7 pn_X7 rfl (Nat.le_of_ble_eq_true rfl) (fun p e s m args below meth c A Q hF hK hA hZ hW hret ls hl => ?_)
  have hx := hF.1
  have hb := hF.2.1
  have hl : lv_has ls 1 [(0, .int x0)] := hl
  unfold f_X7_cellY at hf
  refine lv_iload_n hx hb dX7_cellY_0 rfl (lv_at hl 0 rfl) ?_
  refine lv_bipush (v := 21) hx hb dX7_cellY_1 (by decide) ?_
  refine lv_irem hx hb dX7_cellY_3 (by decide) ?_
  refine lv_bipush (v := 10) hx hb dX7_cellY_4 (by decide) ?_
  refine lv_isub hx hb dX7_cellY_6 ?_
  cases hf
  exact hret dX7_cellY_7 rfl rfl hW
def w_X7_distance (E : Nat → ClassId)   : va_W := []
set_option maxHeartbeats 4000000 in
set_option maxRecDepth 100000 in
theorem c_X7_distance (l : Launch) (D : va_G) (E : Nat → ClassId) (tx : List (Nat × String))   (x0 : Int32) (x1 : Int32) (x2 : Int32) (x3 : Int32) (r0 : Int32) (hf : f_X7_distance x0 x1 x2 x3 = some r0) : CI l yX7_distance cX7_distance 4 (some .int) 1 64 D E tx [.int x0, .int x1, .int x2, .int x3] (w_X7_distance E ) (w_X7_distance E ) r0 := by
  refine CI_of RX7 pn_X7 rfl (Nat.le_of_ble_eq_true rfl) (fun p e s m args below meth c A Q hF hK hA hZ hW hret ls hl => ?_)
  have hx := hF.1
  have hb := hF.2.1
  have hl : lv_has ls 4 [(0, .int x0), (1, .int x1), (2, .int x2), (3, .int x3)] := hl
  unfold f_X7_distance at hf
  refine lv_iload_n hx hb dX7_distance_0 rfl (lv_at hl 0 rfl) ?_
  refine lv_iload_n hx hb dX7_distance_1 rfl (lv_at hl 2 rfl) ?_
  refine lv_isub hx hb dX7_distance_2 ?_
  refine q_abs hF hl.1 ml_X7_500 ⟨Nat.le_of_ble_eq_true rfl, Nat.le_of_ble_eq_true rfl⟩ ⟨Nat.le_of_ble_eq_true rfl, Nat.le_of_ble_eq_true rfl⟩ dX7_distance_3 ?_
  refine lv_iload_n hx hb dX7_distance_6 rfl (lv_at hl 1 rfl) ?_
  refine lv_iload_n hx hb dX7_distance_7 rfl (lv_at hl 3 rfl) ?_
  refine lv_isub hx hb dX7_distance_8 ?_
  refine q_abs hF hl.1 ml_X7_500 ⟨Nat.le_of_ble_eq_true rfl, Nat.le_of_ble_eq_true rfl⟩ ⟨Nat.le_of_ble_eq_true rfl, Nat.le_of_ble_eq_true rfl⟩ dX7_distance_9 ?_
  refine q_max hF hl.1 ml_X7_503 ⟨Nat.le_of_ble_eq_true rfl, Nat.le_of_ble_eq_true rfl⟩ ⟨Nat.le_of_ble_eq_true rfl, Nat.le_of_ble_eq_true rfl⟩ dX7_distance_12 ?_
  cases hf
  exact hret dX7_distance_15 rfl rfl hW
def w_X7_isLimit (E : Nat → ClassId)   : va_W := []
set_option maxHeartbeats 4000000 in
set_option maxRecDepth 100000 in
theorem c_X7_isLimit (l : Launch) (D : va_G) (E : Nat → ClassId) (tx : List (Nat × String))   (x0 : Int32) (r0 : Int32) (hf : f_X7_isLimit x0 = some r0) : CI l yX7_isLimit cX7_isLimit 1 (some .boolean) 0 0 D E tx [.int x0] (w_X7_isLimit E ) (w_X7_isLimit E ) r0 := by
  refine CI_of RX7 pn_X7 rfl (Nat.le_of_ble_eq_true rfl) (fun p e s m args below meth c A Q hF hK hA hZ hW hret ls hl => ?_)
  have hx := hF.1
  have hb := hF.2.1
  have hl : lv_has ls 1 [(0, .int x0)] := hl
  unfold f_X7_isLimit at hf
  refine lv_iload_n hx hb dX7_isLimit_0 rfl (lv_at hl 0 rfl) ?_
  refine q_if_lt (tgt := 14) hx hb dX7_isLimit_1 (by decide) hf (fun hf => ?_) (fun hf => ?_)
  · refine lv_iconst (v := 0) hx hb dX7_isLimit_14 (by decide) ?_
    cases hf
    exact hret dX7_isLimit_15 rfl rfl hW
  · refine lv_iload_n hx hb dX7_isLimit_4 rfl (lv_at hl 0 rfl) ?_
    refine lv_bipush (v := 8) hx hb dX7_isLimit_5 (by decide) ?_
    refine q_icmp_gt (tgt := 14) hx hb dX7_isLimit_7 (by decide) hf (fun hf => ?_) (fun hf => ?_)
    · refine lv_iconst (v := 0) hx hb dX7_isLimit_14 (by decide) ?_
      cases hf
      exact hret dX7_isLimit_15 rfl rfl hW
    · refine lv_iconst (v := 1) hx hb dX7_isLimit_10 (by decide) ?_
      refine lv_goto (tgt := 15) hx hb dX7_isLimit_11 (by decide) ?_
      cases hf
      exact hret dX7_isLimit_15 rfl rfl hW
def w_X7_isCellNumber (E : Nat → ClassId)   : va_W := []
set_option maxHeartbeats 4000000 in
set_option maxRecDepth 100000 in
theorem c_X7_isCellNumber (l : Launch) (D : va_G) (E : Nat → ClassId) (tx : List (Nat × String))   (x0 : Int32) (r0 : Int32) (hf : f_X7_isCellNumber x0 = some r0) : CI l yX7_isCellNumber cX7_isCellNumber 1 (some .boolean) 0 0 D E tx [.int x0] (w_X7_isCellNumber E ) (w_X7_isCellNumber E ) r0 := by
  refine CI_of RX7 pn_X7 rfl (Nat.le_of_ble_eq_true rfl) (fun p e s m args below meth c A Q hF hK hA hZ hW hret ls hl => ?_)
  have hx := hF.1
  have hb := hF.2.1
  have hl : lv_has ls 1 [(0, .int x0)] := hl
  unfold f_X7_isCellNumber at hf
  refine lv_iload_n hx hb dX7_isCellNumber_0 rfl (lv_at hl 0 rfl) ?_
  refine q_if_lt (tgt := 15) hx hb dX7_isCellNumber_1 (by decide) hf (fun hf => ?_) (fun hf => ?_)
  · refine lv_iconst (v := 0) hx hb dX7_isCellNumber_15 (by decide) ?_
    cases hf
    exact hret dX7_isCellNumber_16 rfl rfl hW
  · refine lv_iload_n hx hb dX7_isCellNumber_4 rfl (lv_at hl 0 rfl) ?_
    refine lv_sipush (v := 441) hx hb dX7_isCellNumber_5 (by decide) ?_
    refine q_icmp_ge (tgt := 15) hx hb dX7_isCellNumber_8 (by decide) hf (fun hf => ?_) (fun hf => ?_)
    · refine lv_iconst (v := 0) hx hb dX7_isCellNumber_15 (by decide) ?_
      cases hf
      exact hret dX7_isCellNumber_16 rfl rfl hW
    · refine lv_iconst (v := 1) hx hb dX7_isCellNumber_11 (by decide) ?_
      refine lv_goto (tgt := 16) hx hb dX7_isCellNumber_12 (by decide) ?_
      cases hf
      exact hret dX7_isCellNumber_16 rfl rfl hW
def w_X4_empty (E : Nat → ClassId) (h_ h_length h_lower h_upper h_value h_obstacleX h_obstacleY h_blocked : Nat) (s_links : Int32) (s_obstacles : Int32) (s_blocked : Nat → Int32) : va_W := [(h_, .inr (6, [.int s_links, .ref h_length, .ref h_lower, .ref h_upper, .ref h_value, .int s_obstacles, .ref h_obstacleX, .ref h_obstacleY, .ref h_blocked])), (h_blocked, .inl (E 0, 21, .inl s_blocked))]
set_option maxHeartbeats 4000000 in
set_option maxRecDepth 100000 in
theorem c_X4_empty (l : Launch) (D : va_G) (E : Nat → ClassId) (tx : List (Nat × String)) (h_ h_length h_lower h_upper h_value h_obstacleX h_obstacleY h_blocked : Nat) (s_links : Int32) (s_obstacles : Int32) (s_blocked : Nat → Int32)  (r0 : Int32) (r1 : Int32) (r2 : Nat → Int32) (hf : f_X4_empty s_links s_obstacles s_blocked = some (r0, r1, r2)) : CV l yX4_empty cX4_empty 1 1 23 D E tx [.ref h_] (w_X4_empty E h_ h_length h_lower h_upper h_value h_obstacleX h_obstacleY h_blocked s_links s_obstacles s_blocked) (w_X4_empty E h_ h_length h_lower h_upper h_value h_obstacleX h_obstacleY h_blocked r0 r1 r2) := by
  refine CV_of RX4 pn_X4 rfl (Nat.le_of_ble_eq_true rfl) (fun p e s m args below meth c A Q hF hK hA hZ hW hret ls hl => ?_)
  have hx := hF.1
  have hb := hF.2.1
  have hl : lv_has ls 1 [(0, .ref h_)] := hl
  unfold f_X4_empty at hf
  refine lv_aload_n hx hb dX4_empty_0 rfl (lv_at hl 0 rfl) ?_
  refine lv_iconst (v := 0) hx hb dX4_empty_1 (by decide) ?_
  refine q_put hF hK hW fl_X4_9 ft_X4 rfl 0 rfl rfl rfl (Nat.le_of_ble_eq_true rfl) dX4_empty_2 (fun H locs hW => ?_)
  have hW : WD D A s (w_X4_empty E h_ h_length h_lower h_upper h_value h_obstacleX h_obstacleY h_blocked 0 s_obstacles s_blocked) H locs := hW
  refine lv_aload_n hx hb dX4_empty_5 rfl (lv_at hl 0 rfl) ?_
  refine lv_iconst (v := 0) hx hb dX4_empty_6 (by decide) ?_
  refine q_put hF hK hW fl_X4_28 ft_X4 rfl 0 rfl rfl rfl (Nat.le_of_ble_eq_true rfl) dX4_empty_7 (fun H locs hW => ?_)
  have hW : WD D A s (w_X4_empty E h_ h_length h_lower h_upper h_value h_obstacleX h_obstacleY h_blocked 0 0 s_blocked) H locs := hW
  refine lv_aload_n hx hb dX4_empty_10 rfl (lv_at hl 0 rfl) ?_
  refine q_get hF hK hW fl_X4_37 0 rfl rfl dX4_empty_11 ?_
  refine lv_iconst (v := 0) hx hb dX4_empty_14 (by decide) ?_
  obtain ⟨o_1, hc_1, hf⟩ := ob_bind hf
  refine q_callSV hF hl.1 hK hA hZ hW ms_J7_fill_53178 ml_X4_46 (c_J7_fill_53178_21 l D E tx h_blocked s_blocked 0 o_1 hc_1) [1] rfl rfl rfl ⟨Nat.le_of_ble_eq_true rfl, Nat.le_of_ble_eq_true rfl⟩ ⟨Nat.le_of_ble_eq_true rfl, Nat.le_of_ble_eq_true rfl⟩ rfl rfl (Nat.le_of_ble_eq_true rfl) dX4_empty_15 (fun H locs hW => ?_)
  have hW : WD D A s (w_X4_empty E h_ h_length h_lower h_upper h_value h_obstacleX h_obstacleY h_blocked 0 0 o_1) H locs := hW
  cases hf
  exact hret dX4_empty_18 hW
def w_X4_hasLink (E : Nat → ClassId) (h_ h_length h_lower h_upper h_value h_obstacleX h_obstacleY h_blocked : Nat) (s_links : Int32) (s_obstacles : Int32) : va_W := [(h_, .inr (6, [.int s_links, .ref h_length, .ref h_lower, .ref h_upper, .ref h_value, .int s_obstacles, .ref h_obstacleX, .ref h_obstacleY, .ref h_blocked]))]
set_option maxHeartbeats 4000000 in
set_option maxRecDepth 100000 in
theorem c_X4_hasLink (l : Launch) (D : va_G) (E : Nat → ClassId) (tx : List (Nat × String)) (h_ h_length h_lower h_upper h_value h_obstacleX h_obstacleY h_blocked : Nat) (s_links : Int32) (s_obstacles : Int32) (x1 : Int32) (r0 : Int32) (hf : f_X4_hasLink s_links x1 = some r0) : CI l yX4_hasLink cX4_hasLink 2 (some .boolean) 0 0 D E tx [.ref h_, .int x1] (w_X4_hasLink E h_ h_length h_lower h_upper h_value h_obstacleX h_obstacleY h_blocked s_links s_obstacles) (w_X4_hasLink E h_ h_length h_lower h_upper h_value h_obstacleX h_obstacleY h_blocked s_links s_obstacles) r0 := by
  refine CI_of RX4 pn_X4 rfl (Nat.le_of_ble_eq_true rfl) (fun p e s m args below meth c A Q hF hK hA hZ hW hret ls hl => ?_)
  have hx := hF.1
  have hb := hF.2.1
  have hl : lv_has ls 2 [(0, .ref h_), (1, .int x1)] := hl
  unfold f_X4_hasLink at hf
  refine lv_iload_n hx hb dX4_hasLink_0 rfl (lv_at hl 1 rfl) ?_
  refine q_if_lt (tgt := 21) hx hb dX4_hasLink_1 (by decide) hf (fun hf => ?_) (fun hf => ?_)
  · refine lv_iconst (v := 0) hx hb dX4_hasLink_21 (by decide) ?_
    cases hf
    exact hret dX4_hasLink_22 rfl rfl hW
  · refine lv_iload_n hx hb dX4_hasLink_4 rfl (lv_at hl 1 rfl) ?_
    refine lv_aload_n hx hb dX4_hasLink_5 rfl (lv_at hl 0 rfl) ?_
    refine q_get hF hK hW fl_X4_9 0 rfl rfl dX4_hasLink_6 ?_
    refine q_icmp_ge (tgt := 21) hx hb dX4_hasLink_9 (by decide) hf (fun hf => ?_) (fun hf => ?_)
    · refine lv_iconst (v := 0) hx hb dX4_hasLink_21 (by decide) ?_
      cases hf
      exact hret dX4_hasLink_22 rfl rfl hW
    · refine lv_iload_n hx hb dX4_hasLink_12 rfl (lv_at hl 1 rfl) ?_
      refine lv_iconst (v := 4) hx hb dX4_hasLink_13 (by decide) ?_
      refine q_icmp_ge (tgt := 21) hx hb dX4_hasLink_14 (by decide) hf (fun hf => ?_) (fun hf => ?_)
      · refine lv_iconst (v := 0) hx hb dX4_hasLink_21 (by decide) ?_
        cases hf
        exact hret dX4_hasLink_22 rfl rfl hW
      · refine lv_iconst (v := 1) hx hb dX4_hasLink_17 (by decide) ?_
        refine lv_goto (tgt := 22) hx hb dX4_hasLink_18 (by decide) ?_
        cases hf
        exact hret dX4_hasLink_22 rfl rfl hW
def w_X4_attach (E : Nat → ClassId) (h_ h_length h_lower h_upper h_value h_obstacleX h_obstacleY h_blocked : Nat) (s_links : Int32) (s_obstacles : Int32) (s_length : Nat → Int32) (s_lower : Nat → Int32) (s_upper : Nat → Int32) (s_value : Nat → Int32) : va_W := [(h_, .inr (6, [.int s_links, .ref h_length, .ref h_lower, .ref h_upper, .ref h_value, .int s_obstacles, .ref h_obstacleX, .ref h_obstacleY, .ref h_blocked])), (h_length, .inl (E 0, 4, .inl s_length)), (h_lower, .inl (E 0, 4, .inl s_lower)), (h_upper, .inl (E 0, 4, .inl s_upper)), (h_value, .inl (E 0, 4, .inl s_value))]
set_option maxHeartbeats 4000000 in
set_option maxRecDepth 100000 in
theorem c_X4_attach (l : Launch) (D : va_G) (E : Nat → ClassId) (tx : List (Nat × String)) (h_ h_length h_lower h_upper h_value h_obstacleX h_obstacleY h_blocked : Nat) (s_links : Int32) (s_obstacles : Int32) (s_length : Nat → Int32) (s_lower : Nat → Int32) (s_upper : Nat → Int32) (s_value : Nat → Int32) (x1 : Int32) (x2 : Int32) (x3 : Int32) (r0 : Int32) (r1 : Int32) (r2 : Nat → Int32) (r3 : Nat → Int32) (r4 : Nat → Int32) (r5 : Nat → Int32) (hf : f_X4_attach s_links s_length s_lower s_upper s_value x1 x2 x3 = some (r0, r1, r2, r3, r4, r5)) : CI l yX4_attach cX4_attach 4 (some .boolean) 0 0 D E tx [.ref h_, .int x1, .int x2, .int x3] (w_X4_attach E h_ h_length h_lower h_upper h_value h_obstacleX h_obstacleY h_blocked s_links s_obstacles s_length s_lower s_upper s_value) (w_X4_attach E h_ h_length h_lower h_upper h_value h_obstacleX h_obstacleY h_blocked r1 s_obstacles r2 r3 r4 r5) r0 := by
  refine CI_of RX4 pn_X4 rfl (Nat.le_of_ble_eq_true rfl) (fun p e s m args below meth c A Q hF hK hA hZ hW hret ls hl => ?_)
  have hx := hF.1
  have hb := hF.2.1
  have hl : lv_has ls 4 [(0, .ref h_), (1, .int x1), (2, .int x2), (3, .int x3)] := hl
  unfold f_X4_attach at hf
  refine lv_aload_n hx hb dX4_attach_0 rfl (lv_at hl 0 rfl) ?_
  refine q_get hF hK hW fl_X4_9 0 rfl rfl dX4_attach_1 ?_
  refine q_if_lt (tgt := 15) hx hb dX4_attach_4 (by decide) hf (fun hf => ?_) (fun hf => ?_)
  · refine lv_iconst (v := 0) hx hb dX4_attach_15 (by decide) ?_
    cases hf
    exact hret dX4_attach_16 rfl rfl hW
  · refine lv_aload_n hx hb dX4_attach_7 rfl (lv_at hl 0 rfl) ?_
    refine q_get hF hK hW fl_X4_9 0 rfl rfl dX4_attach_8 ?_
    refine lv_iconst (v := 4) hx hb dX4_attach_11 (by decide) ?_
    refine q_icmp_lt (tgt := 17) hx hb dX4_attach_12 (by decide) hf (fun hf => ?_) (fun hf => ?_)
    · refine lv_aload_n hx hb dX4_attach_17 rfl (lv_at hl 0 rfl) ?_
      refine q_get hF hK hW fl_X4_15 0 rfl rfl dX4_attach_18 ?_
      refine lv_aload_n hx hb dX4_attach_21 rfl (lv_at hl 0 rfl) ?_
      refine q_get hF hK hW fl_X4_9 0 rfl rfl dX4_attach_22 ?_
      refine lv_iload_n hx hb dX4_attach_25 rfl (lv_at hl 1 rfl) ?_
      refine q_iast hx hb hK hW 1 0 rfl rfl dX4_attach_26 hf (fun a_1 hf H locs hW => ?_)
      have hW : WD D A s (w_X4_attach E h_ h_length h_lower h_upper h_value h_obstacleX h_obstacleY h_blocked s_links s_obstacles a_1 s_lower s_upper s_value) H locs := hW
      refine lv_aload_n hx hb dX4_attach_27 rfl (lv_at hl 0 rfl) ?_
      refine q_get hF hK hW fl_X4_19 0 rfl rfl dX4_attach_28 ?_
      refine lv_aload_n hx hb dX4_attach_31 rfl (lv_at hl 0 rfl) ?_
      refine q_get hF hK hW fl_X4_9 0 rfl rfl dX4_attach_32 ?_
      refine lv_iload_n hx hb dX4_attach_35 rfl (lv_at hl 2 rfl) ?_
      refine lv_ineg hx hb dX4_attach_36 ?_
      refine q_iast hx hb hK hW 2 0 rfl rfl dX4_attach_37 hf (fun a_2 hf H locs hW => ?_)
      have hW : WD D A s (w_X4_attach E h_ h_length h_lower h_upper h_value h_obstacleX h_obstacleY h_blocked s_links s_obstacles a_1 a_2 s_upper s_value) H locs := hW
      refine lv_aload_n hx hb dX4_attach_38 rfl (lv_at hl 0 rfl) ?_
      refine q_get hF hK hW fl_X4_22 0 rfl rfl dX4_attach_39 ?_
      refine lv_aload_n hx hb dX4_attach_42 rfl (lv_at hl 0 rfl) ?_
      refine q_get hF hK hW fl_X4_9 0 rfl rfl dX4_attach_43 ?_
      refine lv_iload_n hx hb dX4_attach_46 rfl (lv_at hl 3 rfl) ?_
      refine q_iast hx hb hK hW 3 0 rfl rfl dX4_attach_47 hf (fun a_3 hf H locs hW => ?_)
      have hW : WD D A s (w_X4_attach E h_ h_length h_lower h_upper h_value h_obstacleX h_obstacleY h_blocked s_links s_obstacles a_1 a_2 a_3 s_value) H locs := hW
      refine lv_aload_n hx hb dX4_attach_48 rfl (lv_at hl 0 rfl) ?_
      refine q_get hF hK hW fl_X4_25 0 rfl rfl dX4_attach_49 ?_
      refine lv_aload_n hx hb dX4_attach_52 rfl (lv_at hl 0 rfl) ?_
      refine q_get hF hK hW fl_X4_9 0 rfl rfl dX4_attach_53 ?_
      refine lv_iconst (v := 0) hx hb dX4_attach_56 (by decide) ?_
      refine q_iast hx hb hK hW 4 0 rfl rfl dX4_attach_57 hf (fun a_4 hf H locs hW => ?_)
      have hW : WD D A s (w_X4_attach E h_ h_length h_lower h_upper h_value h_obstacleX h_obstacleY h_blocked s_links s_obstacles a_1 a_2 a_3 a_4) H locs := hW
      refine lv_aload_n hx hb dX4_attach_58 rfl (lv_at hl 0 rfl) ?_
      refine lv_dup hx hb dX4_attach_59 rfl ?_
      refine q_get hF hK hW fl_X4_9 0 rfl rfl dX4_attach_60 ?_
      refine lv_iconst (v := 1) hx hb dX4_attach_63 (by decide) ?_
      refine lv_iadd hx hb dX4_attach_64 ?_
      refine lv_topi (fun v_5 ev_5 => ?_)
      replace hf := ob_let hf ev_5
      refine q_put hF hK hW fl_X4_9 ft_X4 rfl 0 rfl rfl rfl (Nat.le_of_ble_eq_true rfl) dX4_attach_65 (fun H locs hW => ?_)
      have hW : WD D A s (w_X4_attach E h_ h_length h_lower h_upper h_value h_obstacleX h_obstacleY h_blocked v_5 s_obstacles a_1 a_2 a_3 a_4) H locs := hW
      refine lv_iconst (v := 1) hx hb dX4_attach_68 (by decide) ?_
      cases hf
      exact hret dX4_attach_69 rfl rfl hW
    · refine lv_iconst (v := 0) hx hb dX4_attach_15 (by decide) ?_
      cases hf
      exact hret dX4_attach_16 rfl rfl hW
def w_X4_detach (E : Nat → ClassId) (h_ h_length h_lower h_upper h_value h_obstacleX h_obstacleY h_blocked : Nat) (s_links : Int32) (s_obstacles : Int32) : va_W := [(h_, .inr (6, [.int s_links, .ref h_length, .ref h_lower, .ref h_upper, .ref h_value, .int s_obstacles, .ref h_obstacleX, .ref h_obstacleY, .ref h_blocked]))]
set_option maxHeartbeats 4000000 in
set_option maxRecDepth 100000 in
theorem c_X4_detach (l : Launch) (D : va_G) (E : Nat → ClassId) (tx : List (Nat × String)) (h_ h_length h_lower h_upper h_value h_obstacleX h_obstacleY h_blocked : Nat) (s_links : Int32) (s_obstacles : Int32)  (r0 : Int32) (hf : f_X4_detach s_links = some r0) : CV l yX4_detach cX4_detach 1 0 0 D E tx [.ref h_] (w_X4_detach E h_ h_length h_lower h_upper h_value h_obstacleX h_obstacleY h_blocked s_links s_obstacles) (w_X4_detach E h_ h_length h_lower h_upper h_value h_obstacleX h_obstacleY h_blocked r0 s_obstacles) := by
  refine CV_of RX4 pn_X4 rfl (Nat.le_of_ble_eq_true rfl) (fun p e s m args below meth c A Q hF hK hA hZ hW hret ls hl => ?_)
  have hx := hF.1
  have hb := hF.2.1
  have hl : lv_has ls 1 [(0, .ref h_)] := hl
  unfold f_X4_detach at hf
  refine lv_aload_n hx hb dX4_detach_0 rfl (lv_at hl 0 rfl) ?_
  refine q_get hF hK hW fl_X4_9 0 rfl rfl dX4_detach_1 ?_
  refine q_if_le (tgt := 17) hx hb dX4_detach_4 (by decide) hf (fun hf => ?_) (fun hf => ?_)
  · cases hf
    exact hret dX4_detach_17 hW
  · refine lv_aload_n hx hb dX4_detach_7 rfl (lv_at hl 0 rfl) ?_
    refine lv_dup hx hb dX4_detach_8 rfl ?_
    refine q_get hF hK hW fl_X4_9 0 rfl rfl dX4_detach_9 ?_
    refine lv_iconst (v := 1) hx hb dX4_detach_12 (by decide) ?_
    refine lv_isub hx hb dX4_detach_13 ?_
    refine lv_topi (fun v_1 ev_1 => ?_)
    replace hf := ob_let hf ev_1
    refine q_put hF hK hW fl_X4_9 ft_X4 rfl 0 rfl rfl rfl (Nat.le_of_ble_eq_true rfl) dX4_detach_14 (fun H locs hW => ?_)
    have hW : WD D A s (w_X4_detach E h_ h_length h_lower h_upper h_value h_obstacleX h_obstacleY h_blocked v_1 s_obstacles) H locs := hW
    cases hf
    exact hret dX4_detach_17 hW
def w_X4_limit (E : Nat → ClassId) (h_ h_length h_lower h_upper h_value h_obstacleX h_obstacleY h_blocked : Nat) (s_links : Int32) (s_obstacles : Int32) (s_lower : Nat → Int32) (s_upper : Nat → Int32) (s_value : Nat → Int32) : va_W := [(h_, .inr (6, [.int s_links, .ref h_length, .ref h_lower, .ref h_upper, .ref h_value, .int s_obstacles, .ref h_obstacleX, .ref h_obstacleY, .ref h_blocked])), (h_lower, .inl (E 0, 4, .inl s_lower)), (h_upper, .inl (E 0, 4, .inl s_upper)), (h_value, .inl (E 0, 4, .inl s_value))]
set_option maxHeartbeats 4000000 in
set_option maxRecDepth 100000 in
theorem c_X4_limit (l : Launch) (D : va_G) (E : Nat → ClassId) (tx : List (Nat × String)) (h_ h_length h_lower h_upper h_value h_obstacleX h_obstacleY h_blocked : Nat) (s_links : Int32) (s_obstacles : Int32) (s_lower : Nat → Int32) (s_upper : Nat → Int32) (s_value : Nat → Int32) (x1 : Int32) (x2 : Int32) (x3 : Int32) (r0 : Nat → Int32) (r1 : Nat → Int32) (r2 : Nat → Int32) (hf : f_X4_limit s_links s_lower s_upper s_value x1 x2 x3 = some (r0, r1, r2)) : CV l yX4_limit cX4_limit 4 1 64 D E tx [.ref h_, .int x1, .int x2, .int x3] (w_X4_limit E h_ h_length h_lower h_upper h_value h_obstacleX h_obstacleY h_blocked s_links s_obstacles s_lower s_upper s_value) (w_X4_limit E h_ h_length h_lower h_upper h_value h_obstacleX h_obstacleY h_blocked s_links s_obstacles r0 r1 r2) := by
  refine CV_of RX4 pn_X4 rfl (Nat.le_of_ble_eq_true rfl) (fun p e s m args below meth c A Q hF hK hA hZ hW hret ls hl => ?_)
  have hx := hF.1
  have hb := hF.2.1
  have hl : lv_has ls 4 [(0, .ref h_), (1, .int x1), (2, .int x2), (3, .int x3)] := hl
  unfold f_X4_limit at hf
  refine lv_aload_n hx hb dX4_limit_0 rfl (lv_at hl 0 rfl) ?_
  refine lv_iload_n hx hb dX4_limit_1 rfl (lv_at hl 1 rfl) ?_
  obtain ⟨o_1, hc_1, hf⟩ := ob_bind hf
  refine q_callI hF hl.1 hK hA hZ hW mv_X4_hasLink ml_X4_52 (c_X4_hasLink l D E tx h_ h_length h_lower h_upper h_value h_obstacleX h_obstacleY h_blocked s_links s_obstacles x1 o_1 hc_1) [0] rfl rfl rfl rfl rfl rfl ⟨Nat.le_of_ble_eq_true rfl, Nat.le_of_ble_eq_true rfl⟩ ⟨Nat.le_of_ble_eq_true rfl, Nat.le_of_ble_eq_true rfl⟩ rfl rfl (Nat.le_of_ble_eq_true rfl) dX4_limit_2 (fun H locs hW => ?_)
  have hW : WD D A s (w_X4_limit E h_ h_length h_lower h_upper h_value h_obstacleX h_obstacleY h_blocked s_links s_obstacles s_lower s_upper s_value) H locs := hW
  refine q_if_eq (tgt := 13) hx hb dX4_limit_5 (by decide) hf (fun hf => ?_) (fun hf => ?_)
  · cases hf
    exact hret dX4_limit_13 hW
  · refine lv_iload_n hx hb dX4_limit_8 rfl (lv_at hl 1 rfl) ?_
    refine lv_iconst (v := 4) hx hb dX4_limit_9 (by decide) ?_
    refine q_icmp_lt (tgt := 14) hx hb dX4_limit_10 (by decide) hf (fun hf => ?_) (fun hf => ?_)
    · refine lv_aload_n hx hb dX4_limit_14 rfl (lv_at hl 0 rfl) ?_
      refine q_get hF hK hW fl_X4_19 0 rfl rfl dX4_limit_15 ?_
      refine lv_iload_n hx hb dX4_limit_18 rfl (lv_at hl 1 rfl) ?_
      refine lv_iload_n hx hb dX4_limit_19 rfl (lv_at hl 2 rfl) ?_
      refine lv_ineg hx hb dX4_limit_20 ?_
      refine q_iast hx hb hK hW 1 0 rfl rfl dX4_limit_21 hf (fun a_2 hf H locs hW => ?_)
      have hW : WD D A s (w_X4_limit E h_ h_length h_lower h_upper h_value h_obstacleX h_obstacleY h_blocked s_links s_obstacles a_2 s_upper s_value) H locs := hW
      refine lv_aload_n hx hb dX4_limit_22 rfl (lv_at hl 0 rfl) ?_
      refine q_get hF hK hW fl_X4_22 0 rfl rfl dX4_limit_23 ?_
      refine lv_iload_n hx hb dX4_limit_26 rfl (lv_at hl 1 rfl) ?_
      refine lv_iload_n hx hb dX4_limit_27 rfl (lv_at hl 3 rfl) ?_
      refine q_iast hx hb hK hW 2 0 rfl rfl dX4_limit_28 hf (fun a_3 hf H locs hW => ?_)
      have hW : WD D A s (w_X4_limit E h_ h_length h_lower h_upper h_value h_obstacleX h_obstacleY h_blocked s_links s_obstacles a_2 a_3 s_value) H locs := hW
      refine lv_aload_n hx hb dX4_limit_29 rfl (lv_at hl 0 rfl) ?_
      refine q_get hF hK hW fl_X4_25 0 rfl rfl dX4_limit_30 ?_
      refine lv_iload_n hx hb dX4_limit_33 rfl (lv_at hl 1 rfl) ?_
      refine lv_iload_n hx hb dX4_limit_34 rfl (lv_at hl 2 rfl) ?_
      refine lv_ineg hx hb dX4_limit_35 ?_
      refine lv_iload_n hx hb dX4_limit_36 rfl (lv_at hl 3 rfl) ?_
      refine lv_aload_n hx hb dX4_limit_37 rfl (lv_at hl 0 rfl) ?_
      refine q_get hF hK hW fl_X4_25 0 rfl rfl dX4_limit_38 ?_
      refine lv_iload_n hx hb dX4_limit_41 rfl (lv_at hl 1 rfl) ?_
      refine q_iald hx hb hK hW 3 0 rfl rfl dX4_limit_42 hf (fun hf => ?_)
      refine q_min hF hl.1 ml_X4_56 ⟨Nat.le_of_ble_eq_true rfl, Nat.le_of_ble_eq_true rfl⟩ ⟨Nat.le_of_ble_eq_true rfl, Nat.le_of_ble_eq_true rfl⟩ dX4_limit_43 ?_
      refine q_max hF hl.1 ml_X4_62 ⟨Nat.le_of_ble_eq_true rfl, Nat.le_of_ble_eq_true rfl⟩ ⟨Nat.le_of_ble_eq_true rfl, Nat.le_of_ble_eq_true rfl⟩ dX4_limit_46 ?_
      refine q_iast hx hb hK hW 3 0 rfl rfl dX4_limit_49 hf (fun a_4 hf H locs hW => ?_)
      have hW : WD D A s (w_X4_limit E h_ h_length h_lower h_upper h_value h_obstacleX h_obstacleY h_blocked s_links s_obstacles a_2 a_3 a_4) H locs := hW
      cases hf
      exact hret dX4_limit_50 hW
    · cases hf
      exact hret dX4_limit_13 hW
def w_X4_valueOf (E : Nat → ClassId) (h_ h_length h_lower h_upper h_value h_obstacleX h_obstacleY h_blocked : Nat) (s_links : Int32) (s_obstacles : Int32) (s_value : Nat → Int32) : va_W := [(h_, .inr (6, [.int s_links, .ref h_length, .ref h_lower, .ref h_upper, .ref h_value, .int s_obstacles, .ref h_obstacleX, .ref h_obstacleY, .ref h_blocked])), (h_value, .inl (E 0, 4, .inl s_value))]
set_option maxHeartbeats 4000000 in
set_option maxRecDepth 100000 in
theorem c_X4_valueOf (l : Launch) (D : va_G) (E : Nat → ClassId) (tx : List (Nat × String)) (h_ h_length h_lower h_upper h_value h_obstacleX h_obstacleY h_blocked : Nat) (s_links : Int32) (s_obstacles : Int32) (s_value : Nat → Int32) (x1 : Int32) (r0 : Int32) (hf : f_X4_valueOf s_value x1 = some r0) : CI l yX4_valueOf cX4_valueOf 2 (some .int) 0 0 D E tx [.ref h_, .int x1] (w_X4_valueOf E h_ h_length h_lower h_upper h_value h_obstacleX h_obstacleY h_blocked s_links s_obstacles s_value) (w_X4_valueOf E h_ h_length h_lower h_upper h_value h_obstacleX h_obstacleY h_blocked s_links s_obstacles s_value) r0 := by
  refine CI_of RX4 pn_X4 rfl (Nat.le_of_ble_eq_true rfl) (fun p e s m args below meth c A Q hF hK hA hZ hW hret ls hl => ?_)
  have hx := hF.1
  have hb := hF.2.1
  have hl : lv_has ls 2 [(0, .ref h_), (1, .int x1)] := hl
  unfold f_X4_valueOf at hf
  refine lv_iload_n hx hb dX4_valueOf_0 rfl (lv_at hl 1 rfl) ?_
  refine q_if_lt (tgt := 18) hx hb dX4_valueOf_1 (by decide) hf (fun hf => ?_) (fun hf => ?_)
  · refine lv_iconst (v := 0) hx hb dX4_valueOf_18 (by decide) ?_
    cases hf
    exact hret dX4_valueOf_19 rfl rfl hW
  · refine lv_iload_n hx hb dX4_valueOf_4 rfl (lv_at hl 1 rfl) ?_
    refine lv_iconst (v := 4) hx hb dX4_valueOf_5 (by decide) ?_
    refine q_icmp_ge (tgt := 18) hx hb dX4_valueOf_6 (by decide) hf (fun hf => ?_) (fun hf => ?_)
    · refine lv_iconst (v := 0) hx hb dX4_valueOf_18 (by decide) ?_
      cases hf
      exact hret dX4_valueOf_19 rfl rfl hW
    · refine lv_aload_n hx hb dX4_valueOf_9 rfl (lv_at hl 0 rfl) ?_
      refine q_get hF hK hW fl_X4_25 0 rfl rfl dX4_valueOf_10 ?_
      refine lv_iload_n hx hb dX4_valueOf_13 rfl (lv_at hl 1 rfl) ?_
      refine q_iald hx hb hK hW 1 0 rfl rfl dX4_valueOf_14 hf (fun hf => ?_)
      refine lv_goto (tgt := 19) hx hb dX4_valueOf_15 (by decide) ?_
      cases hf
      exact hret dX4_valueOf_19 rfl rfl hW
def w_X4_allows (E : Nat → ClassId) (h_ h_length h_lower h_upper h_value h_obstacleX h_obstacleY h_blocked : Nat) (s_links : Int32) (s_obstacles : Int32) (s_lower : Nat → Int32) (s_upper : Nat → Int32) : va_W := [(h_, .inr (6, [.int s_links, .ref h_length, .ref h_lower, .ref h_upper, .ref h_value, .int s_obstacles, .ref h_obstacleX, .ref h_obstacleY, .ref h_blocked])), (h_lower, .inl (E 0, 4, .inl s_lower)), (h_upper, .inl (E 0, 4, .inl s_upper))]
set_option maxHeartbeats 4000000 in
set_option maxRecDepth 100000 in
theorem c_X4_allows (l : Launch) (D : va_G) (E : Nat → ClassId) (tx : List (Nat × String)) (h_ h_length h_lower h_upper h_value h_obstacleX h_obstacleY h_blocked : Nat) (s_links : Int32) (s_obstacles : Int32) (s_lower : Nat → Int32) (s_upper : Nat → Int32) (x1 : Int32) (x2 : Int32) (r0 : Int32) (hf : f_X4_allows s_links s_lower s_upper x1 x2 = some r0) : CI l yX4_allows cX4_allows 3 (some .boolean) 1 21 D E tx [.ref h_, .int x1, .int x2] (w_X4_allows E h_ h_length h_lower h_upper h_value h_obstacleX h_obstacleY h_blocked s_links s_obstacles s_lower s_upper) (w_X4_allows E h_ h_length h_lower h_upper h_value h_obstacleX h_obstacleY h_blocked s_links s_obstacles s_lower s_upper) r0 := by
  refine CI_of RX4 pn_X4 rfl (Nat.le_of_ble_eq_true rfl) (fun p e s m args below meth c A Q hF hK hA hZ hW hret ls hl => ?_)
  have hx := hF.1
  have hb := hF.2.1
  have hl : lv_has ls 3 [(0, .ref h_), (1, .int x1), (2, .int x2)] := hl
  unfold f_X4_allows at hf
  refine lv_aload_n hx hb dX4_allows_0 rfl (lv_at hl 0 rfl) ?_
  refine lv_iload_n hx hb dX4_allows_1 rfl (lv_at hl 1 rfl) ?_
  obtain ⟨o_1, hc_1, hf⟩ := ob_bind hf
  refine q_callI hF hl.1 hK hA hZ hW mv_X4_hasLink ml_X4_52 (c_X4_hasLink l D E tx h_ h_length h_lower h_upper h_value h_obstacleX h_obstacleY h_blocked s_links s_obstacles x1 o_1 hc_1) [0] rfl rfl rfl rfl rfl rfl ⟨Nat.le_of_ble_eq_true rfl, Nat.le_of_ble_eq_true rfl⟩ ⟨Nat.le_of_ble_eq_true rfl, Nat.le_of_ble_eq_true rfl⟩ rfl rfl (Nat.le_of_ble_eq_true rfl) dX4_allows_2 (fun H locs hW => ?_)
  have hW : WD D A s (w_X4_allows E h_ h_length h_lower h_upper h_value h_obstacleX h_obstacleY h_blocked s_links s_obstacles s_lower s_upper) H locs := hW
  refine q_if_eq (tgt := 32) hx hb dX4_allows_5 (by decide) hf (fun hf => ?_) (fun hf => ?_)
  · refine lv_iconst (v := 0) hx hb dX4_allows_32 (by decide) ?_
    cases hf
    exact hret dX4_allows_33 rfl rfl hW
  · refine lv_iload_n hx hb dX4_allows_8 rfl (lv_at hl 2 rfl) ?_
    refine lv_aload_n hx hb dX4_allows_9 rfl (lv_at hl 0 rfl) ?_
    refine q_get hF hK hW fl_X4_19 0 rfl rfl dX4_allows_10 ?_
    refine lv_iload_n hx hb dX4_allows_13 rfl (lv_at hl 1 rfl) ?_
    refine q_iald hx hb hK hW 1 0 rfl rfl dX4_allows_14 hf (fun hf => ?_)
    refine q_icmp_lt (tgt := 32) hx hb dX4_allows_15 (by decide) hf (fun hf => ?_) (fun hf => ?_)
    · refine lv_iconst (v := 0) hx hb dX4_allows_32 (by decide) ?_
      cases hf
      exact hret dX4_allows_33 rfl rfl hW
    · refine lv_iload_n hx hb dX4_allows_18 rfl (lv_at hl 2 rfl) ?_
      refine lv_aload_n hx hb dX4_allows_19 rfl (lv_at hl 0 rfl) ?_
      refine q_get hF hK hW fl_X4_22 0 rfl rfl dX4_allows_20 ?_
      refine lv_iload_n hx hb dX4_allows_23 rfl (lv_at hl 1 rfl) ?_
      refine q_iald hx hb hK hW 2 0 rfl rfl dX4_allows_24 hf (fun hf => ?_)
      refine q_icmp_gt (tgt := 32) hx hb dX4_allows_25 (by decide) hf (fun hf => ?_) (fun hf => ?_)
      · refine lv_iconst (v := 0) hx hb dX4_allows_32 (by decide) ?_
        cases hf
        exact hret dX4_allows_33 rfl rfl hW
      · refine lv_iconst (v := 1) hx hb dX4_allows_28 (by decide) ?_
        refine lv_goto (tgt := 33) hx hb dX4_allows_29 (by decide) ?_
        cases hf
        exact hret dX4_allows_33 rfl rfl hW
def w_X4_turnTo (E : Nat → ClassId) (h_ h_length h_lower h_upper h_value h_obstacleX h_obstacleY h_blocked : Nat) (s_links : Int32) (s_obstacles : Int32) (s_value : Nat → Int32) : va_W := [(h_, .inr (6, [.int s_links, .ref h_length, .ref h_lower, .ref h_upper, .ref h_value, .int s_obstacles, .ref h_obstacleX, .ref h_obstacleY, .ref h_blocked])), (h_value, .inl (E 0, 4, .inl s_value))]
set_option maxHeartbeats 4000000 in
set_option maxRecDepth 100000 in
theorem c_X4_turnTo (l : Launch) (D : va_G) (E : Nat → ClassId) (tx : List (Nat × String)) (h_ h_length h_lower h_upper h_value h_obstacleX h_obstacleY h_blocked : Nat) (s_links : Int32) (s_obstacles : Int32) (s_value : Nat → Int32) (x1 : Int32) (x2 : Int32) (r0 : Nat → Int32) (hf : f_X4_turnTo s_links s_value x1 x2 = some r0) : CV l yX4_turnTo cX4_turnTo 3 1 21 D E tx [.ref h_, .int x1, .int x2] (w_X4_turnTo E h_ h_length h_lower h_upper h_value h_obstacleX h_obstacleY h_blocked s_links s_obstacles s_value) (w_X4_turnTo E h_ h_length h_lower h_upper h_value h_obstacleX h_obstacleY h_blocked s_links s_obstacles r0) := by
  refine CV_of RX4 pn_X4 rfl (Nat.le_of_ble_eq_true rfl) (fun p e s m args below meth c A Q hF hK hA hZ hW hret ls hl => ?_)
  have hx := hF.1
  have hb := hF.2.1
  have hl : lv_has ls 3 [(0, .ref h_), (1, .int x1), (2, .int x2)] := hl
  unfold f_X4_turnTo at hf
  refine lv_aload_n hx hb dX4_turnTo_0 rfl (lv_at hl 0 rfl) ?_
  refine lv_iload_n hx hb dX4_turnTo_1 rfl (lv_at hl 1 rfl) ?_
  obtain ⟨o_1, hc_1, hf⟩ := ob_bind hf
  refine q_callI hF hl.1 hK hA hZ hW mv_X4_hasLink ml_X4_52 (c_X4_hasLink l D E tx h_ h_length h_lower h_upper h_value h_obstacleX h_obstacleY h_blocked s_links s_obstacles x1 o_1 hc_1) [0] rfl rfl rfl rfl rfl rfl ⟨Nat.le_of_ble_eq_true rfl, Nat.le_of_ble_eq_true rfl⟩ ⟨Nat.le_of_ble_eq_true rfl, Nat.le_of_ble_eq_true rfl⟩ rfl rfl (Nat.le_of_ble_eq_true rfl) dX4_turnTo_2 (fun H locs hW => ?_)
  have hW : WD D A s (w_X4_turnTo E h_ h_length h_lower h_upper h_value h_obstacleX h_obstacleY h_blocked s_links s_obstacles s_value) H locs := hW
  refine q_if_eq (tgt := 15) hx hb dX4_turnTo_5 (by decide) hf (fun hf => ?_) (fun hf => ?_)
  · cases hf
    exact hret dX4_turnTo_15 hW
  · refine lv_aload_n hx hb dX4_turnTo_8 rfl (lv_at hl 0 rfl) ?_
    refine q_get hF hK hW fl_X4_25 0 rfl rfl dX4_turnTo_9 ?_
    refine lv_iload_n hx hb dX4_turnTo_12 rfl (lv_at hl 1 rfl) ?_
    refine lv_iload_n hx hb dX4_turnTo_13 rfl (lv_at hl 2 rfl) ?_
    refine q_iast hx hb hK hW 1 0 rfl rfl dX4_turnTo_14 hf (fun a_2 hf H locs hW => ?_)
    have hW : WD D A s (w_X4_turnTo E h_ h_length h_lower h_upper h_value h_obstacleX h_obstacleY h_blocked s_links s_obstacles a_2) H locs := hW
    cases hf
    exact hret dX4_turnTo_15 hW
def w_X4_turnBy (E : Nat → ClassId) (h_ h_length h_lower h_upper h_value h_obstacleX h_obstacleY h_blocked : Nat) (s_links : Int32) (s_obstacles : Int32) (s_value : Nat → Int32) : va_W := [(h_, .inr (6, [.int s_links, .ref h_length, .ref h_lower, .ref h_upper, .ref h_value, .int s_obstacles, .ref h_obstacleX, .ref h_obstacleY, .ref h_blocked])), (h_value, .inl (E 0, 4, .inl s_value))]
set_option maxHeartbeats 4000000 in
set_option maxRecDepth 100000 in
theorem c_X4_turnBy (l : Launch) (D : va_G) (E : Nat → ClassId) (tx : List (Nat × String)) (h_ h_length h_lower h_upper h_value h_obstacleX h_obstacleY h_blocked : Nat) (s_links : Int32) (s_obstacles : Int32) (s_value : Nat → Int32) (x1 : Int32) (x2 : Int32) (r0 : Nat → Int32) (hf : f_X4_turnBy s_links s_value x1 x2 = some r0) : CV l yX4_turnBy cX4_turnBy 3 1 21 D E tx [.ref h_, .int x1, .int x2] (w_X4_turnBy E h_ h_length h_lower h_upper h_value h_obstacleX h_obstacleY h_blocked s_links s_obstacles s_value) (w_X4_turnBy E h_ h_length h_lower h_upper h_value h_obstacleX h_obstacleY h_blocked s_links s_obstacles r0) := by
  refine CV_of RX4 pn_X4 rfl (Nat.le_of_ble_eq_true rfl) (fun p e s m args below meth c A Q hF hK hA hZ hW hret ls hl => ?_)
  have hx := hF.1
  have hb := hF.2.1
  have hl : lv_has ls 3 [(0, .ref h_), (1, .int x1), (2, .int x2)] := hl
  unfold f_X4_turnBy at hf
  refine lv_aload_n hx hb dX4_turnBy_0 rfl (lv_at hl 0 rfl) ?_
  refine lv_iload_n hx hb dX4_turnBy_1 rfl (lv_at hl 1 rfl) ?_
  obtain ⟨o_1, hc_1, hf⟩ := ob_bind hf
  refine q_callI hF hl.1 hK hA hZ hW mv_X4_hasLink ml_X4_52 (c_X4_hasLink l D E tx h_ h_length h_lower h_upper h_value h_obstacleX h_obstacleY h_blocked s_links s_obstacles x1 o_1 hc_1) [0] rfl rfl rfl rfl rfl rfl ⟨Nat.le_of_ble_eq_true rfl, Nat.le_of_ble_eq_true rfl⟩ ⟨Nat.le_of_ble_eq_true rfl, Nat.le_of_ble_eq_true rfl⟩ rfl rfl (Nat.le_of_ble_eq_true rfl) dX4_turnBy_2 (fun H locs hW => ?_)
  have hW : WD D A s (w_X4_turnBy E h_ h_length h_lower h_upper h_value h_obstacleX h_obstacleY h_blocked s_links s_obstacles s_value) H locs := hW
  refine q_if_eq (tgt := 18) hx hb dX4_turnBy_5 (by decide) hf (fun hf => ?_) (fun hf => ?_)
  · cases hf
    exact hret dX4_turnBy_18 hW
  · refine lv_aload_n hx hb dX4_turnBy_8 rfl (lv_at hl 0 rfl) ?_
    refine q_get hF hK hW fl_X4_25 0 rfl rfl dX4_turnBy_9 ?_
    refine lv_iload_n hx hb dX4_turnBy_12 rfl (lv_at hl 1 rfl) ?_
    refine lv_dup2_11 hx hb dX4_turnBy_13 rfl rfl ?_
    refine q_iald hx hb hK hW 1 0 rfl rfl dX4_turnBy_14 hf (fun hf => ?_)
    refine lv_iload_n hx hb dX4_turnBy_15 rfl (lv_at hl 2 rfl) ?_
    refine lv_iadd hx hb dX4_turnBy_16 ?_
    refine q_iast hx hb hK hW 1 0 rfl rfl dX4_turnBy_17 hf (fun a_2 hf H locs hW => ?_)
    have hW : WD D A s (w_X4_turnBy E h_ h_length h_lower h_upper h_value h_obstacleX h_obstacleY h_blocked s_links s_obstacles a_2) H locs := hW
    cases hf
    exact hret dX4_turnBy_18 hW
def w_X4_isBlocked (E : Nat → ClassId) (h_ h_length h_lower h_upper h_value h_obstacleX h_obstacleY h_blocked : Nat) (s_links : Int32) (s_obstacles : Int32) (s_blocked : Nat → Int32) : va_W := [(h_, .inr (6, [.int s_links, .ref h_length, .ref h_lower, .ref h_upper, .ref h_value, .int s_obstacles, .ref h_obstacleX, .ref h_obstacleY, .ref h_blocked])), (h_blocked, .inl (E 0, 21, .inl s_blocked))]
set_option maxHeartbeats 4000000 in
set_option maxRecDepth 100000 in
theorem c_X4_isBlocked (l : Launch) (D : va_G) (E : Nat → ClassId) (tx : List (Nat × String)) (h_ h_length h_lower h_upper h_value h_obstacleX h_obstacleY h_blocked : Nat) (s_links : Int32) (s_obstacles : Int32) (s_blocked : Nat → Int32) (x1 : Int32) (x2 : Int32) (r0 : Int32) (hf : f_X4_isBlocked s_blocked x1 x2 = some r0) : CI l yX4_isBlocked cX4_isBlocked 3 (some .boolean) 1 21 D E tx [.ref h_, .int x1, .int x2] (w_X4_isBlocked E h_ h_length h_lower h_upper h_value h_obstacleX h_obstacleY h_blocked s_links s_obstacles s_blocked) (w_X4_isBlocked E h_ h_length h_lower h_upper h_value h_obstacleX h_obstacleY h_blocked s_links s_obstacles s_blocked) r0 := by
  refine CI_of RX4 pn_X4 rfl (Nat.le_of_ble_eq_true rfl) (fun p e s m args below meth c A Q hF hK hA hZ hW hret ls hl => ?_)
  have hx := hF.1
  have hb := hF.2.1
  have hl : lv_has ls 3 [(0, .ref h_), (1, .int x1), (2, .int x2)] := hl
  unfold f_X4_isBlocked at hf
  refine lv_iload_n hx hb dX4_isBlocked_0 rfl (lv_at hl 1 rfl) ?_
  refine lv_iload_n hx hb dX4_isBlocked_1 rfl (lv_at hl 2 rfl) ?_
  obtain ⟨o_1, hc_1, hf⟩ := ob_bind hf
  refine q_callNI hF hl.1 hK hA hZ hW ms_X7_isInside nw_X4_65 (c_X7_isInside l D E tx x1 x2 o_1 hc_1) [] rfl rfl rfl ⟨Nat.le_of_ble_eq_true rfl, Nat.le_of_ble_eq_true rfl⟩ ⟨Nat.le_of_ble_eq_true rfl, Nat.le_of_ble_eq_true rfl⟩ rfl rfl (Nat.le_of_ble_eq_true rfl) dX4_isBlocked_2 (fun H locs hW => ?_)
  have hW : WD D A s (w_X4_isBlocked E h_ h_length h_lower h_upper h_value h_obstacleX h_obstacleY h_blocked s_links s_obstacles s_blocked) H locs := hW
  refine q_if_eq (tgt := 31) hx hb dX4_isBlocked_5 (by decide) hf (fun hf => ?_) (fun hf => ?_)
  · refine lv_iconst (v := 0) hx hb dX4_isBlocked_31 (by decide) ?_
    cases hf
    exact hret dX4_isBlocked_32 rfl rfl hW
  · refine lv_aload_n hx hb dX4_isBlocked_8 rfl (lv_at hl 0 rfl) ?_
    refine q_get hF hK hW fl_X4_37 0 rfl rfl dX4_isBlocked_9 ?_
    refine lv_iload_n hx hb dX4_isBlocked_12 rfl (lv_at hl 2 rfl) ?_
    refine lv_bipush (v := 10) hx hb dX4_isBlocked_13 (by decide) ?_
    refine lv_iadd hx hb dX4_isBlocked_15 ?_
    refine q_iald hx hb hK hW 1 0 rfl rfl dX4_isBlocked_16 hf (fun hf => ?_)
    refine lv_iload_n hx hb dX4_isBlocked_17 rfl (lv_at hl 1 rfl) ?_
    refine lv_bipush (v := 10) hx hb dX4_isBlocked_18 (by decide) ?_
    refine lv_iadd hx hb dX4_isBlocked_20 ?_
    refine lv_ishr hx hb dX4_isBlocked_21 ?_
    refine lv_iconst (v := 1) hx hb dX4_isBlocked_22 (by decide) ?_
    refine lv_iand hx hb dX4_isBlocked_23 ?_
    refine q_if_eq (tgt := 31) hx hb dX4_isBlocked_24 (by decide) hf (fun hf => ?_) (fun hf => ?_)
    · refine lv_iconst (v := 0) hx hb dX4_isBlocked_31 (by decide) ?_
      cases hf
      exact hret dX4_isBlocked_32 rfl rfl hW
    · refine lv_iconst (v := 1) hx hb dX4_isBlocked_27 (by decide) ?_
      refine lv_goto (tgt := 32) hx hb dX4_isBlocked_28 (by decide) ?_
      cases hf
      exact hret dX4_isBlocked_32 rfl rfl hW
def w_X4_block (E : Nat → ClassId) (h_ h_length h_lower h_upper h_value h_obstacleX h_obstacleY h_blocked : Nat) (s_links : Int32) (s_obstacles : Int32) (s_obstacleX : Nat → Int32) (s_obstacleY : Nat → Int32) (s_blocked : Nat → Int32) : va_W := [(h_, .inr (6, [.int s_links, .ref h_length, .ref h_lower, .ref h_upper, .ref h_value, .int s_obstacles, .ref h_obstacleX, .ref h_obstacleY, .ref h_blocked])), (h_obstacleX, .inl (E 0, 60, .inl s_obstacleX)), (h_obstacleY, .inl (E 0, 60, .inl s_obstacleY)), (h_blocked, .inl (E 0, 21, .inl s_blocked))]
set_option maxHeartbeats 4000000 in
set_option maxRecDepth 100000 in
theorem c_X4_block (l : Launch) (D : va_G) (E : Nat → ClassId) (tx : List (Nat × String)) (h_ h_length h_lower h_upper h_value h_obstacleX h_obstacleY h_blocked : Nat) (s_links : Int32) (s_obstacles : Int32) (s_obstacleX : Nat → Int32) (s_obstacleY : Nat → Int32) (s_blocked : Nat → Int32) (x1 : Int32) (x2 : Int32) (r0 : Int32) (r1 : Int32) (r2 : Nat → Int32) (r3 : Nat → Int32) (r4 : Nat → Int32) (hf : f_X4_block s_obstacles s_obstacleX s_obstacleY s_blocked x1 x2 = some (r0, r1, r2, r3, r4)) : CI l yX4_block cX4_block 3 (some .boolean) 2 43 D E tx [.ref h_, .int x1, .int x2] (w_X4_block E h_ h_length h_lower h_upper h_value h_obstacleX h_obstacleY h_blocked s_links s_obstacles s_obstacleX s_obstacleY s_blocked) (w_X4_block E h_ h_length h_lower h_upper h_value h_obstacleX h_obstacleY h_blocked s_links r1 r2 r3 r4) r0 := by
  refine CI_of RX4 pn_X4 rfl (Nat.le_of_ble_eq_true rfl) (fun p e s m args below meth c A Q hF hK hA hZ hW hret ls hl => ?_)
  have hx := hF.1
  have hb := hF.2.1
  have hl : lv_has ls 3 [(0, .ref h_), (1, .int x1), (2, .int x2)] := hl
  unfold f_X4_block at hf
  have hL16 : ∀ (s_obstacles_16 : Int32) (s_obstacleX_16 : Nat → Int32) (s_obstacleY_16 : Nat → Int32) (s_blocked_16 : Nat → Int32) (y1_16 : Int32) (y2_16 : Int32) (H : Heap) (locs : List Loc) (ls : Array Slot), f_X4_block_L16 s_obstacles_16 s_obstacleX_16 s_obstacleY_16 s_blocked_16 y1_16 y2_16 = some (r0, r1, r2, r3, r4) → lv_has ls 3 [(0, .ref h_), (1, .int y1_16), (2, .int y2_16)] → WD D A s (w_X4_block E h_ h_length h_lower h_upper h_value h_obstacleX h_obstacleY h_blocked s_links s_obstacles_16 s_obstacleX_16 s_obstacleY_16 s_blocked_16) H locs → W p l e (RM 2 43) s m args below meth c H locs 0 0 Q (F0 m 16 ls []) := by
    intro s_obstacles_16 s_obstacleX_16 s_obstacleY_16 s_blocked_16 y1_16 y2_16 H locs ls hf hl hW
    unfold f_X4_block_L16 at hf
    refine lv_aload_n hx hb dX4_block_16 rfl (lv_at hl 0 rfl) ?_
    refine lv_iload_n hx hb dX4_block_17 rfl (lv_at hl 1 rfl) ?_
    refine lv_iload_n hx hb dX4_block_18 rfl (lv_at hl 2 rfl) ?_
    obtain ⟨o_1, hc_1, hf⟩ := ob_bind hf
    refine q_callI hF hl.1 hK hA hZ hW mv_X4_isBlocked ml_X4_69 (c_X4_isBlocked l D E tx h_ h_length h_lower h_upper h_value h_obstacleX h_obstacleY h_blocked s_links s_obstacles_16 s_blocked_16 y1_16 y2_16 o_1 hc_1) [0, 3] rfl rfl rfl rfl rfl rfl ⟨Nat.le_of_ble_eq_true rfl, Nat.le_of_ble_eq_true rfl⟩ ⟨Nat.le_of_ble_eq_true rfl, Nat.le_of_ble_eq_true rfl⟩ rfl rfl (Nat.le_of_ble_eq_true rfl) dX4_block_19 (fun H locs hW => ?_)
    have hW : WD D A s (w_X4_block E h_ h_length h_lower h_upper h_value h_obstacleX h_obstacleY h_blocked s_links s_obstacles_16 s_obstacleX_16 s_obstacleY_16 s_blocked_16) H locs := hW
    refine q_if_ne (tgt := 41) hx hb dX4_block_22 (by decide) hf (fun hf => ?_) (fun hf => ?_)
    · refine lv_iconst (v := 0) hx hb dX4_block_41 (by decide) ?_
      cases hf
      exact hret dX4_block_42 rfl rfl hW
    · refine lv_aload_n hx hb dX4_block_25 rfl (lv_at hl 0 rfl) ?_
      refine q_get hF hK hW fl_X4_28 0 rfl rfl dX4_block_26 ?_
      refine q_if_lt (tgt := 41) hx hb dX4_block_29 (by decide) hf (fun hf => ?_) (fun hf => ?_)
      · refine lv_iconst (v := 0) hx hb dX4_block_41 (by decide) ?_
        cases hf
        exact hret dX4_block_42 rfl rfl hW
      · refine lv_aload_n hx hb dX4_block_32 rfl (lv_at hl 0 rfl) ?_
        refine q_get hF hK hW fl_X4_28 0 rfl rfl dX4_block_33 ?_
        refine lv_bipush (v := 60) hx hb dX4_block_36 (by decide) ?_
        refine q_icmp_lt (tgt := 43) hx hb dX4_block_38 (by decide) hf (fun hf => ?_) (fun hf => ?_)
        · refine lv_aload_n hx hb dX4_block_43 rfl (lv_at hl 0 rfl) ?_
          refine q_get hF hK hW fl_X4_31 0 rfl rfl dX4_block_44 ?_
          refine lv_aload_n hx hb dX4_block_47 rfl (lv_at hl 0 rfl) ?_
          refine q_get hF hK hW fl_X4_28 0 rfl rfl dX4_block_48 ?_
          refine lv_iload_n hx hb dX4_block_51 rfl (lv_at hl 1 rfl) ?_
          refine q_iast hx hb hK hW 1 0 rfl rfl dX4_block_52 hf (fun a_2 hf H locs hW => ?_)
          have hW : WD D A s (w_X4_block E h_ h_length h_lower h_upper h_value h_obstacleX h_obstacleY h_blocked s_links s_obstacles_16 a_2 s_obstacleY_16 s_blocked_16) H locs := hW
          refine lv_aload_n hx hb dX4_block_53 rfl (lv_at hl 0 rfl) ?_
          refine q_get hF hK hW fl_X4_34 0 rfl rfl dX4_block_54 ?_
          refine lv_aload_n hx hb dX4_block_57 rfl (lv_at hl 0 rfl) ?_
          refine q_get hF hK hW fl_X4_28 0 rfl rfl dX4_block_58 ?_
          refine lv_iload_n hx hb dX4_block_61 rfl (lv_at hl 2 rfl) ?_
          refine q_iast hx hb hK hW 2 0 rfl rfl dX4_block_62 hf (fun a_3 hf H locs hW => ?_)
          have hW : WD D A s (w_X4_block E h_ h_length h_lower h_upper h_value h_obstacleX h_obstacleY h_blocked s_links s_obstacles_16 a_2 a_3 s_blocked_16) H locs := hW
          refine lv_aload_n hx hb dX4_block_63 rfl (lv_at hl 0 rfl) ?_
          refine lv_dup hx hb dX4_block_64 rfl ?_
          refine q_get hF hK hW fl_X4_28 0 rfl rfl dX4_block_65 ?_
          refine lv_iconst (v := 1) hx hb dX4_block_68 (by decide) ?_
          refine lv_iadd hx hb dX4_block_69 ?_
          refine lv_topi (fun v_4 ev_4 => ?_)
          replace hf := ob_let hf ev_4
          refine q_put hF hK hW fl_X4_28 ft_X4 rfl 0 rfl rfl rfl (Nat.le_of_ble_eq_true rfl) dX4_block_70 (fun H locs hW => ?_)
          have hW : WD D A s (w_X4_block E h_ h_length h_lower h_upper h_value h_obstacleX h_obstacleY h_blocked s_links v_4 a_2 a_3 s_blocked_16) H locs := hW
          refine lv_aload_n hx hb dX4_block_73 rfl (lv_at hl 0 rfl) ?_
          refine q_get hF hK hW fl_X4_37 0 rfl rfl dX4_block_74 ?_
          refine lv_iload_n hx hb dX4_block_77 rfl (lv_at hl 2 rfl) ?_
          refine lv_bipush (v := 10) hx hb dX4_block_78 (by decide) ?_
          refine lv_iadd hx hb dX4_block_80 ?_
          refine lv_dup2_11 hx hb dX4_block_81 rfl rfl ?_
          refine q_iald hx hb hK hW 3 0 rfl rfl dX4_block_82 hf (fun hf => ?_)
          refine lv_iconst (v := 1) hx hb dX4_block_83 (by decide) ?_
          refine lv_iload_n hx hb dX4_block_84 rfl (lv_at hl 1 rfl) ?_
          refine lv_bipush (v := 10) hx hb dX4_block_85 (by decide) ?_
          refine lv_iadd hx hb dX4_block_87 ?_
          refine lv_ishl hx hb dX4_block_88 ?_
          refine lv_ior hx hb dX4_block_89 ?_
          refine q_iast hx hb hK hW 3 0 rfl rfl dX4_block_90 hf (fun a_5 hf H locs hW => ?_)
          have hW : WD D A s (w_X4_block E h_ h_length h_lower h_upper h_value h_obstacleX h_obstacleY h_blocked s_links v_4 a_2 a_3 a_5) H locs := hW
          refine lv_iconst (v := 1) hx hb dX4_block_91 (by decide) ?_
          cases hf
          exact hret dX4_block_92 rfl rfl hW
        · refine lv_iconst (v := 0) hx hb dX4_block_41 (by decide) ?_
          cases hf
          exact hret dX4_block_42 rfl rfl hW
  refine lv_iload_n hx hb dX4_block_0 rfl (lv_at hl 1 rfl) ?_
  refine lv_iload_n hx hb dX4_block_1 rfl (lv_at hl 2 rfl) ?_
  obtain ⟨o_6, hc_6, hf⟩ := ob_bind hf
  refine q_callNI hF hl.1 hK hA hZ hW ms_X7_isInside nw_X4_65 (c_X7_isInside l D E tx x1 x2 o_6 hc_6) [] rfl rfl rfl ⟨Nat.le_of_ble_eq_true rfl, Nat.le_of_ble_eq_true rfl⟩ ⟨Nat.le_of_ble_eq_true rfl, Nat.le_of_ble_eq_true rfl⟩ rfl rfl (Nat.le_of_ble_eq_true rfl) dX4_block_2 (fun H locs hW => ?_)
  have hW : WD D A s (w_X4_block E h_ h_length h_lower h_upper h_value h_obstacleX h_obstacleY h_blocked s_links s_obstacles s_obstacleX s_obstacleY s_blocked) H locs := hW
  refine q_if_eq (tgt := 41) hx hb dX4_block_5 (by decide) hf (fun hf => ?_) (fun hf => ?_)
  · refine lv_iconst (v := 0) hx hb dX4_block_41 (by decide) ?_
    cases hf
    exact hret dX4_block_42 rfl rfl hW
  · refine lv_iload_n hx hb dX4_block_8 rfl (lv_at hl 1 rfl) ?_
    refine q_if_ne (tgt := 16) hx hb dX4_block_9 (by decide) hf (fun hf => ?_) (fun hf => ?_)
    · exact hL16 s_obstacles s_obstacleX s_obstacleY s_blocked x1 x2 _ _ _ hf (lv_sub hl [0, 1, 2] rfl) hW
    · refine lv_iload_n hx hb dX4_block_12 rfl (lv_at hl 2 rfl) ?_
      refine q_if_eq (tgt := 41) hx hb dX4_block_13 (by decide) hf (fun hf => ?_) (fun hf => ?_)
      · refine lv_iconst (v := 0) hx hb dX4_block_41 (by decide) ?_
        cases hf
        exact hret dX4_block_42 rfl rfl hW
      · exact hL16 s_obstacles s_obstacleX s_obstacleY s_blocked x1 x2 _ _ _ hf (lv_sub hl [0, 1, 2] rfl) hW
def w_X4_unblock (E : Nat → ClassId) (h_ h_length h_lower h_upper h_value h_obstacleX h_obstacleY h_blocked : Nat) (s_links : Int32) (s_obstacles : Int32) (s_obstacleX : Nat → Int32) (s_obstacleY : Nat → Int32) (s_blocked : Nat → Int32) : va_W := [(h_, .inr (6, [.int s_links, .ref h_length, .ref h_lower, .ref h_upper, .ref h_value, .int s_obstacles, .ref h_obstacleX, .ref h_obstacleY, .ref h_blocked])), (h_obstacleX, .inl (E 0, 60, .inl s_obstacleX)), (h_obstacleY, .inl (E 0, 60, .inl s_obstacleY)), (h_blocked, .inl (E 0, 21, .inl s_blocked))]
set_option maxHeartbeats 4000000 in
set_option maxRecDepth 100000 in
theorem c_X4_unblock (l : Launch) (D : va_G) (E : Nat → ClassId) (tx : List (Nat × String)) (h_ h_length h_lower h_upper h_value h_obstacleX h_obstacleY h_blocked : Nat) (s_links : Int32) (s_obstacles : Int32) (s_obstacleX : Nat → Int32) (s_obstacleY : Nat → Int32) (s_blocked : Nat → Int32) (x1 : Int32) (x2 : Int32) (r0 : Int32) (r1 : Nat → Int32) (r2 : Nat → Int32) (r3 : Nat → Int32) (hf : f_X4_unblock s_obstacles s_obstacleX s_obstacleY s_blocked x1 x2 = some (r0, r1, r2, r3)) : CV l yX4_unblock cX4_unblock 5 2 43 D E tx [.ref h_, .int x1, .int x2] (w_X4_unblock E h_ h_length h_lower h_upper h_value h_obstacleX h_obstacleY h_blocked s_links s_obstacles s_obstacleX s_obstacleY s_blocked) (w_X4_unblock E h_ h_length h_lower h_upper h_value h_obstacleX h_obstacleY h_blocked s_links r0 r1 r2 r3) := by
  refine CV_of RX4 pn_X4 rfl (Nat.le_of_ble_eq_true rfl) (fun p e s m args below meth c A Q hF hK hA hZ hW hret ls hl => ?_)
  have hx := hF.1
  have hb := hF.2.1
  have hl : lv_has ls 5 [(0, .ref h_), (1, .int x1), (2, .int x2)] := hl
  unfold f_X4_unblock at hf
  refine lv_aload_n hx hb dX4_unblock_0 rfl (lv_at hl 0 rfl) ?_
  refine lv_iload_n hx hb dX4_unblock_1 rfl (lv_at hl 1 rfl) ?_
  refine lv_iload_n hx hb dX4_unblock_2 rfl (lv_at hl 2 rfl) ?_
  obtain ⟨o_1, hc_1, hf⟩ := ob_bind hf
  refine q_callI hF hl.1 hK hA hZ hW mv_X4_isBlocked ml_X4_69 (c_X4_isBlocked l D E tx h_ h_length h_lower h_upper h_value h_obstacleX h_obstacleY h_blocked s_links s_obstacles s_blocked x1 x2 o_1 hc_1) [0, 3] rfl rfl rfl rfl rfl rfl ⟨Nat.le_of_ble_eq_true rfl, Nat.le_of_ble_eq_true rfl⟩ ⟨Nat.le_of_ble_eq_true rfl, Nat.le_of_ble_eq_true rfl⟩ rfl rfl (Nat.le_of_ble_eq_true rfl) dX4_unblock_3 (fun H locs hW => ?_)
  have hW : WD D A s (w_X4_unblock E h_ h_length h_lower h_upper h_value h_obstacleX h_obstacleY h_blocked s_links s_obstacles s_obstacleX s_obstacleY s_blocked) H locs := hW
  refine q_if_ne (tgt := 10) hx hb dX4_unblock_6 (by decide) hf (fun hf => ?_) (fun hf => ?_)
  · refine lv_aload_n hx hb dX4_unblock_10 rfl (lv_at hl 0 rfl) ?_
    refine q_get hF hK hW fl_X4_37 0 rfl rfl dX4_unblock_11 ?_
    refine lv_iload_n hx hb dX4_unblock_14 rfl (lv_at hl 2 rfl) ?_
    refine lv_bipush (v := 10) hx hb dX4_unblock_15 (by decide) ?_
    refine lv_iadd hx hb dX4_unblock_17 ?_
    refine lv_dup2_11 hx hb dX4_unblock_18 rfl rfl ?_
    refine q_iald hx hb hK hW 3 0 rfl rfl dX4_unblock_19 hf (fun hf => ?_)
    refine lv_iconst (v := 1) hx hb dX4_unblock_20 (by decide) ?_
    refine lv_iload_n hx hb dX4_unblock_21 rfl (lv_at hl 1 rfl) ?_
    refine lv_bipush (v := 10) hx hb dX4_unblock_22 (by decide) ?_
    refine lv_iadd hx hb dX4_unblock_24 ?_
    refine lv_ishl hx hb dX4_unblock_25 ?_
    refine lv_iconst (v := (-1)) hx hb dX4_unblock_26 (by decide) ?_
    refine lv_ixor hx hb dX4_unblock_27 ?_
    refine lv_iand hx hb dX4_unblock_28 ?_
    refine q_iast hx hb hK hW 3 0 rfl rfl dX4_unblock_29 hf (fun a_2 hf H locs hW => ?_)
    have hW : WD D A s (w_X4_unblock E h_ h_length h_lower h_upper h_value h_obstacleX h_obstacleY h_blocked s_links s_obstacles s_obstacleX s_obstacleY a_2) H locs := hW
    refine lv_iconst (v := 0) hx hb dX4_unblock_30 (by decide) ?_
    refine lv_istore_n (lv' := [(3, .int 0), (0, .ref h_), (1, .int x1), (2, .int x2)]) hx hb dX4_unblock_31 rfl hl (by decide) rfl (fun ls hl => ?_)
    refine lv_iconst (v := 0) hx hb dX4_unblock_32 (by decide) ?_
    refine lv_istore (lv' := [(4, .int 0), (3, .int 0), (0, .ref h_), (1, .int x1), (2, .int x2)]) hx hb dX4_unblock_33 hl (by decide) rfl (fun ls hl => ?_)
    have hB35 : ∀ (n : Nat) (s_obstacleX_35 : Nat → Int32) (s_obstacleY_35 : Nat → Int32) (z3_35 : Int32) (z4_35 : Int32) (ex : (Nat → Int32) × (Nat → Int32) × Int32) (H : Heap) (locs : List Loc) (ls : Array Slot), LPF (fun z => f_X4_unblock_B35 s_obstacles z.1 z.2.1 a_2 x1 x2 z.2.2.1 z.2.2.2) n (s_obstacleX_35, s_obstacleY_35, z3_35, z4_35) = some ex → lv_has ls 5 [(0, .ref h_), (1, .int x1), (2, .int x2), (3, .int z3_35), (4, .int z4_35)] → WD D A s (w_X4_unblock E h_ h_length h_lower h_upper h_value h_obstacleX h_obstacleY h_blocked s_links s_obstacles s_obstacleX_35 s_obstacleY_35 a_2) H locs → (∀ (H : Heap) (locs : List Loc) (ls : Array Slot), lv_has ls 5 [(0, .ref h_), (3, .int ex.2.2)] → WD D A s (w_X4_unblock E h_ h_length h_lower h_upper h_value h_obstacleX h_obstacleY h_blocked s_links s_obstacles ex.1 ex.2.1 a_2) H locs → W p l e (RM 2 43) s m args below meth c H locs 0 0 Q (F0 m 108 ls [])) → W p l e (RM 2 43) s m args below meth c H locs 0 0 Q (F0 m 35 ls []) := by
      intro n
      induction n with
      | zero => intro s_obstacleX_35 s_obstacleY_35 z3_35 z4_35 ex H locs ls h9; exact (ob_lp0 h9).elim
      | succ n ih =>
        intro s_obstacleX_35 s_obstacleY_35 z3_35 z4_35 ex H locs ls h9 hl hW kx0
        obtain ⟨q9, hf, h9, k9⟩ := ob_lp h9
        have hf : f_X4_unblock_B35 s_obstacles s_obstacleX_35 s_obstacleY_35 a_2 x1 x2 z3_35 z4_35 = some q9 := hf
        unfold f_X4_unblock_B35 at hf
        have hL73 : ∀ (s_obstacleX_73 : Nat → Int32) (s_obstacleY_73 : Nat → Int32) (y3_73 : Int32) (y4_73 : Int32) (H : Heap) (locs : List Loc) (ls : Array Slot), f_X4_unblock_L73 s_obstacles s_obstacleX_73 s_obstacleY_73 a_2 x1 x2 y3_73 y4_73 = some q9 → lv_has ls 5 [(0, .ref h_), (1, .int x1), (2, .int x2), (3, .int y3_73), (4, .int y4_73)] → WD D A s (w_X4_unblock E h_ h_length h_lower h_upper h_value h_obstacleX h_obstacleY h_blocked s_links s_obstacles s_obstacleX_73 s_obstacleY_73 a_2) H locs → W p l e (RM 2 43) s m args below meth c H locs 0 0 Q (F0 m 73 ls []) := by
          intro s_obstacleX_73 s_obstacleY_73 y3_73 y4_73 H locs ls hf hl hW
          unfold f_X4_unblock_L73 at hf
          refine lv_aload_n hx hb dX4_unblock_73 rfl (lv_at hl 0 rfl) ?_
          refine q_get hF hK hW fl_X4_31 0 rfl rfl dX4_unblock_74 ?_
          refine lv_iload_n hx hb dX4_unblock_77 rfl (lv_at hl 3 rfl) ?_
          refine lv_aload_n hx hb dX4_unblock_78 rfl (lv_at hl 0 rfl) ?_
          refine q_get hF hK hW fl_X4_31 0 rfl rfl dX4_unblock_79 ?_
          refine lv_iload hx hb dX4_unblock_82 (lv_at hl 4 rfl) ?_
          refine q_iald hx hb hK hW 1 0 rfl rfl dX4_unblock_84 hf (fun hf => ?_)
          refine q_iast hx hb hK hW 1 0 rfl rfl dX4_unblock_85 hf (fun a_3 hf H locs hW => ?_)
          have hW : WD D A s (w_X4_unblock E h_ h_length h_lower h_upper h_value h_obstacleX h_obstacleY h_blocked s_links s_obstacles a_3 s_obstacleY_73 a_2) H locs := hW
          refine lv_aload_n hx hb dX4_unblock_86 rfl (lv_at hl 0 rfl) ?_
          refine q_get hF hK hW fl_X4_34 0 rfl rfl dX4_unblock_87 ?_
          refine lv_iload_n hx hb dX4_unblock_90 rfl (lv_at hl 3 rfl) ?_
          refine lv_aload_n hx hb dX4_unblock_91 rfl (lv_at hl 0 rfl) ?_
          refine q_get hF hK hW fl_X4_34 0 rfl rfl dX4_unblock_92 ?_
          refine lv_iload hx hb dX4_unblock_95 (lv_at hl 4 rfl) ?_
          refine q_iald hx hb hK hW 2 0 rfl rfl dX4_unblock_97 hf (fun hf => ?_)
          refine q_iast hx hb hK hW 2 0 rfl rfl dX4_unblock_98 hf (fun a_4 hf H locs hW => ?_)
          have hW : WD D A s (w_X4_unblock E h_ h_length h_lower h_upper h_value h_obstacleX h_obstacleY h_blocked s_links s_obstacles a_3 a_4 a_2) H locs := hW
          obtain ⟨v_5, ev_5⟩ : ∃ y : Int32, y = y3_73 + 1 := ⟨_, rfl⟩
          replace hf := ob_let hf ev_5
          refine lv_iinc (v := v_5) (lv' := [(3, .int v_5), (0, .ref h_), (1, .int x1), (2, .int x2), (4, .int y4_73)]) hx hb dX4_unblock_99 hl (k := 3) rfl (by rw [ev_5]; rfl) (by decide) rfl (fun ls hl => ?_)
          obtain ⟨v_6, ev_6⟩ : ∃ y : Int32, y = y4_73 + 1 := ⟨_, rfl⟩
          replace hf := ob_let hf ev_6
          refine lv_iinc (v := v_6) (lv' := [(4, .int v_6), (3, .int v_5), (0, .ref h_), (1, .int x1), (2, .int x2)]) hx hb dX4_unblock_102 hl (k := 4) rfl (by rw [ev_6]; rfl) (by decide) rfl (fun ls hl => ?_)
          refine lv_goto (tgt := 35) hx hb dX4_unblock_105 (by decide) ?_
          cases hf
          exact ih a_3 a_4 v_5 v_6 ex _ _ _ (h9 _ rfl) (lv_sub hl [2, 3, 4, 1, 0] rfl) hW kx0
        refine lv_iload hx hb dX4_unblock_35 (lv_at hl 4 rfl) ?_
        refine lv_aload_n hx hb dX4_unblock_37 rfl (lv_at hl 0 rfl) ?_
        refine q_get hF hK hW fl_X4_28 0 rfl rfl dX4_unblock_38 ?_
        refine q_icmp_ge (tgt := 108) hx hb dX4_unblock_41 (by decide) hf (fun hf => ?_) (fun hf => ?_)
        · cases hf
          have hx9 := k9 _ rfl
          subst hx9
          exact kx0 _ _ _ (lv_sub hl [0, 3] rfl) hW
        · refine lv_iload hx hb dX4_unblock_44 (lv_at hl 4 rfl) ?_
          refine lv_bipush (v := 60) hx hb dX4_unblock_46 (by decide) ?_
          refine q_icmp_ge (tgt := 108) hx hb dX4_unblock_48 (by decide) hf (fun hf => ?_) (fun hf => ?_)
          · cases hf
            have hx9 := k9 _ rfl
            subst hx9
            exact kx0 _ _ _ (lv_sub hl [0, 3] rfl) hW
          · refine lv_aload_n hx hb dX4_unblock_51 rfl (lv_at hl 0 rfl) ?_
            refine q_get hF hK hW fl_X4_31 0 rfl rfl dX4_unblock_52 ?_
            refine lv_iload hx hb dX4_unblock_55 (lv_at hl 4 rfl) ?_
            refine q_iald hx hb hK hW 1 0 rfl rfl dX4_unblock_57 hf (fun hf => ?_)
            refine lv_iload_n hx hb dX4_unblock_58 rfl (lv_at hl 1 rfl) ?_
            refine q_icmp_ne (tgt := 73) hx hb dX4_unblock_59 (by decide) hf (fun hf => ?_) (fun hf => ?_)
            · exact hL73 s_obstacleX_35 s_obstacleY_35 z3_35 z4_35 _ _ _ hf (lv_sub hl [0, 1, 2, 3, 4] rfl) hW
            · refine lv_aload_n hx hb dX4_unblock_62 rfl (lv_at hl 0 rfl) ?_
              refine q_get hF hK hW fl_X4_34 0 rfl rfl dX4_unblock_63 ?_
              refine lv_iload hx hb dX4_unblock_66 (lv_at hl 4 rfl) ?_
              refine q_iald hx hb hK hW 2 0 rfl rfl dX4_unblock_68 hf (fun hf => ?_)
              refine lv_iload_n hx hb dX4_unblock_69 rfl (lv_at hl 2 rfl) ?_
              refine q_icmp_eq (tgt := 102) hx hb dX4_unblock_70 (by decide) hf (fun hf => ?_) (fun hf => ?_)
              · obtain ⟨v_7, ev_7⟩ : ∃ y : Int32, y = z4_35 + 1 := ⟨_, rfl⟩
                replace hf := ob_let hf ev_7
                refine lv_iinc (v := v_7) (lv' := [(4, .int v_7), (0, .ref h_), (1, .int x1), (2, .int x2), (3, .int z3_35)]) hx hb dX4_unblock_102 hl (k := 4) rfl (by rw [ev_7]; rfl) (by decide) rfl (fun ls hl => ?_)
                refine lv_goto (tgt := 35) hx hb dX4_unblock_105 (by decide) ?_
                cases hf
                exact ih s_obstacleX_35 s_obstacleY_35 z3_35 v_7 ex _ _ _ (h9 _ rfl) (lv_sub hl [1, 2, 3, 4, 0] rfl) hW kx0
              · exact hL73 s_obstacleX_35 s_obstacleY_35 z3_35 z4_35 _ _ _ hf (lv_sub hl [0, 1, 2, 3, 4] rfl) hW
    obtain ⟨e_8, hc_8, hf⟩ := ob_bind hf
    refine hB35 lfuel s_obstacleX s_obstacleY 0 0 e_8 _ _ _ hc_8 (lv_sub hl [2, 3, 4, 1, 0] rfl) hW ?_
    intro H locs ls hl hW
    refine lv_aload_n hx hb dX4_unblock_108 rfl (lv_at hl 0 rfl) ?_
    refine lv_iload_n hx hb dX4_unblock_109 rfl (lv_at hl 1 rfl) ?_
    refine q_put hF hK hW fl_X4_28 ft_X4 rfl 0 rfl rfl rfl (Nat.le_of_ble_eq_true rfl) dX4_unblock_110 (fun H locs hW => ?_)
    have hW : WD D A s (w_X4_unblock E h_ h_length h_lower h_upper h_value h_obstacleX h_obstacleY h_blocked s_links e_8.2.2 e_8.1 e_8.2.1 a_2) H locs := hW
    cases hf
    exact hret dX4_unblock_113 hW
  · cases hf
    exact hret dX4_unblock_9 hW
def w_X4_wholeLength (E : Nat → ClassId) (h_ h_length h_lower h_upper h_value h_obstacleX h_obstacleY h_blocked : Nat) (s_links : Int32) (s_obstacles : Int32) (s_length : Nat → Int32) : va_W := [(h_, .inr (6, [.int s_links, .ref h_length, .ref h_lower, .ref h_upper, .ref h_value, .int s_obstacles, .ref h_obstacleX, .ref h_obstacleY, .ref h_blocked])), (h_length, .inl (E 0, 4, .inl s_length))]
set_option maxHeartbeats 4000000 in
set_option maxRecDepth 100000 in
theorem c_X4_wholeLength (l : Launch) (D : va_G) (E : Nat → ClassId) (tx : List (Nat × String)) (h_ h_length h_lower h_upper h_value h_obstacleX h_obstacleY h_blocked : Nat) (s_links : Int32) (s_obstacles : Int32) (s_length : Nat → Int32)  (r0 : Int32) (hf : f_X4_wholeLength s_links s_length = some r0) : CI l yX4_wholeLength cX4_wholeLength 3 (some .int) 0 0 D E tx [.ref h_] (w_X4_wholeLength E h_ h_length h_lower h_upper h_value h_obstacleX h_obstacleY h_blocked s_links s_obstacles s_length) (w_X4_wholeLength E h_ h_length h_lower h_upper h_value h_obstacleX h_obstacleY h_blocked s_links s_obstacles s_length) r0 := by
  refine CI_of RX4 pn_X4 rfl (Nat.le_of_ble_eq_true rfl) (fun p e s m args below meth c A Q hF hK hA hZ hW hret ls hl => ?_)
  have hx := hF.1
  have hb := hF.2.1
  have hl : lv_has ls 3 [(0, .ref h_)] := hl
  unfold f_X4_wholeLength at hf
  refine lv_iconst (v := 0) hx hb dX4_wholeLength_0 (by decide) ?_
  refine lv_istore_n (lv' := [(1, .int 0), (0, .ref h_)]) hx hb dX4_wholeLength_1 rfl hl (by decide) rfl (fun ls hl => ?_)
  refine lv_iconst (v := 0) hx hb dX4_wholeLength_2 (by decide) ?_
  refine lv_istore_n (lv' := [(2, .int 0), (1, .int 0), (0, .ref h_)]) hx hb dX4_wholeLength_3 rfl hl (by decide) rfl (fun ls hl => ?_)
  have hB4 : ∀ (n : Nat) (z1_4 : Int32) (z2_4 : Int32) (ex : Int32) (H : Heap) (locs : List Loc) (ls : Array Slot), LPF (fun z => f_X4_wholeLength_B4 s_links s_length z.1 z.2) n (z1_4, z2_4) = some ex → lv_has ls 3 [(0, .ref h_), (1, .int z1_4), (2, .int z2_4)] → WD D A s (w_X4_wholeLength E h_ h_length h_lower h_upper h_value h_obstacleX h_obstacleY h_blocked s_links s_obstacles s_length) H locs → (∀ (H : Heap) (locs : List Loc) (ls : Array Slot), lv_has ls 3 [(1, .int ex)] → WD D A s (w_X4_wholeLength E h_ h_length h_lower h_upper h_value h_obstacleX h_obstacleY h_blocked s_links s_obstacles s_length) H locs → W p l e (RM 0 0) s m args below meth c H locs 0 0 Q (F0 m 32 ls [])) → W p l e (RM 0 0) s m args below meth c H locs 0 0 Q (F0 m 4 ls []) := by
    intro n
    induction n with
    | zero => intro z1_4 z2_4 ex H locs ls h9; exact (ob_lp0 h9).elim
    | succ n ih =>
      intro z1_4 z2_4 ex H locs ls h9 hl hW kx0
      obtain ⟨q9, hf, h9, k9⟩ := ob_lp h9
      have hf : f_X4_wholeLength_B4 s_links s_length z1_4 z2_4 = some q9 := hf
      unfold f_X4_wholeLength_B4 at hf
      refine lv_iload_n hx hb dX4_wholeLength_4 rfl (lv_at hl 2 rfl) ?_
      refine lv_aload_n hx hb dX4_wholeLength_5 rfl (lv_at hl 0 rfl) ?_
      refine q_get hF hK hW fl_X4_9 0 rfl rfl dX4_wholeLength_6 ?_
      refine q_icmp_ge (tgt := 32) hx hb dX4_wholeLength_9 (by decide) hf (fun hf => ?_) (fun hf => ?_)
      · cases hf
        have hx9 := k9 _ rfl
        subst hx9
        exact kx0 _ _ _ (lv_sub hl [1] rfl) hW
      · refine lv_iload_n hx hb dX4_wholeLength_12 rfl (lv_at hl 2 rfl) ?_
        refine lv_iconst (v := 4) hx hb dX4_wholeLength_13 (by decide) ?_
        refine q_icmp_ge (tgt := 32) hx hb dX4_wholeLength_14 (by decide) hf (fun hf => ?_) (fun hf => ?_)
        · cases hf
          have hx9 := k9 _ rfl
          subst hx9
          exact kx0 _ _ _ (lv_sub hl [1] rfl) hW
        · refine lv_iload_n hx hb dX4_wholeLength_17 rfl (lv_at hl 1 rfl) ?_
          refine lv_aload_n hx hb dX4_wholeLength_18 rfl (lv_at hl 0 rfl) ?_
          refine q_get hF hK hW fl_X4_15 0 rfl rfl dX4_wholeLength_19 ?_
          refine lv_iload_n hx hb dX4_wholeLength_22 rfl (lv_at hl 2 rfl) ?_
          refine q_iald hx hb hK hW 1 0 rfl rfl dX4_wholeLength_23 hf (fun hf => ?_)
          refine lv_iadd hx hb dX4_wholeLength_24 ?_
          refine lv_topi (fun v_1 ev_1 => ?_)
          replace hf := ob_let hf ev_1
          refine lv_istore_n (lv' := [(1, .int v_1), (0, .ref h_), (2, .int z2_4)]) hx hb dX4_wholeLength_25 rfl hl (by decide) rfl (fun ls hl => ?_)
          obtain ⟨v_2, ev_2⟩ : ∃ y : Int32, y = z2_4 + 1 := ⟨_, rfl⟩
          replace hf := ob_let hf ev_2
          refine lv_iinc (v := v_2) (lv' := [(2, .int v_2), (1, .int v_1), (0, .ref h_)]) hx hb dX4_wholeLength_26 hl (k := 2) rfl (by rw [ev_2]; rfl) (by decide) rfl (fun ls hl => ?_)
          refine lv_goto (tgt := 4) hx hb dX4_wholeLength_29 (by decide) ?_
          cases hf
          exact ih v_1 v_2 ex _ _ _ (h9 _ rfl) (lv_sub hl [2, 1, 0] rfl) hW kx0
  obtain ⟨e_3, hc_3, hf⟩ := ob_bind hf
  refine hB4 lfuel 0 0 e_3 _ _ _ hc_3 (lv_sub hl [2, 1, 0] rfl) hW ?_
  intro H locs ls hl hW
  refine lv_iload_n hx hb dX4_wholeLength_32 rfl (lv_at hl 0 rfl) ?_
  cases hf
  exact hret dX4_wholeLength_33 rfl rfl hW
def w_X4_span (E : Nat → ClassId) (h_ h_length h_lower h_upper h_value h_obstacleX h_obstacleY h_blocked : Nat) (s_links : Int32) (s_obstacles : Int32) (s_lower : Nat → Int32) (s_upper : Nat → Int32) : va_W := [(h_, .inr (6, [.int s_links, .ref h_length, .ref h_lower, .ref h_upper, .ref h_value, .int s_obstacles, .ref h_obstacleX, .ref h_obstacleY, .ref h_blocked])), (h_lower, .inl (E 0, 4, .inl s_lower)), (h_upper, .inl (E 0, 4, .inl s_upper))]
set_option maxHeartbeats 4000000 in
set_option maxRecDepth 100000 in
theorem c_X4_span (l : Launch) (D : va_G) (E : Nat → ClassId) (tx : List (Nat × String)) (h_ h_length h_lower h_upper h_value h_obstacleX h_obstacleY h_blocked : Nat) (s_links : Int32) (s_obstacles : Int32) (s_lower : Nat → Int32) (s_upper : Nat → Int32) (x1 : Int32) (r0 : Int32) (hf : f_X4_span s_links s_lower s_upper x1 = some r0) : CI l yX4_span cX4_span 2 (some .int) 1 64 D E tx [.ref h_, .int x1] (w_X4_span E h_ h_length h_lower h_upper h_value h_obstacleX h_obstacleY h_blocked s_links s_obstacles s_lower s_upper) (w_X4_span E h_ h_length h_lower h_upper h_value h_obstacleX h_obstacleY h_blocked s_links s_obstacles s_lower s_upper) r0 := by
  refine CI_of RX4 pn_X4 rfl (Nat.le_of_ble_eq_true rfl) (fun p e s m args below meth c A Q hF hK hA hZ hW hret ls hl => ?_)
  have hx := hF.1
  have hb := hF.2.1
  have hl : lv_has ls 2 [(0, .ref h_), (1, .int x1)] := hl
  unfold f_X4_span at hf
  refine lv_aload_n hx hb dX4_span_0 rfl (lv_at hl 0 rfl) ?_
  refine lv_iload_n hx hb dX4_span_1 rfl (lv_at hl 1 rfl) ?_
  obtain ⟨o_1, hc_1, hf⟩ := ob_bind hf
  refine q_callI hF hl.1 hK hA hZ hW mv_X4_hasLink ml_X4_52 (c_X4_hasLink l D E tx h_ h_length h_lower h_upper h_value h_obstacleX h_obstacleY h_blocked s_links s_obstacles x1 o_1 hc_1) [0] rfl rfl rfl rfl rfl rfl ⟨Nat.le_of_ble_eq_true rfl, Nat.le_of_ble_eq_true rfl⟩ ⟨Nat.le_of_ble_eq_true rfl, Nat.le_of_ble_eq_true rfl⟩ rfl rfl (Nat.le_of_ble_eq_true rfl) dX4_span_2 (fun H locs hW => ?_)
  have hW : WD D A s (w_X4_span E h_ h_length h_lower h_upper h_value h_obstacleX h_obstacleY h_blocked s_links s_obstacles s_lower s_upper) H locs := hW
  refine q_if_eq (tgt := 30) hx hb dX4_span_5 (by decide) hf (fun hf => ?_) (fun hf => ?_)
  · refine lv_iconst (v := 1) hx hb dX4_span_30 (by decide) ?_
    cases hf
    exact hret dX4_span_31 rfl rfl hW
  · refine lv_iconst (v := 1) hx hb dX4_span_8 (by decide) ?_
    refine lv_aload_n hx hb dX4_span_9 rfl (lv_at hl 0 rfl) ?_
    refine q_get hF hK hW fl_X4_22 0 rfl rfl dX4_span_10 ?_
    refine lv_iload_n hx hb dX4_span_13 rfl (lv_at hl 1 rfl) ?_
    refine q_iald hx hb hK hW 2 0 rfl rfl dX4_span_14 hf (fun hf => ?_)
    refine lv_aload_n hx hb dX4_span_15 rfl (lv_at hl 0 rfl) ?_
    refine q_get hF hK hW fl_X4_19 0 rfl rfl dX4_span_16 ?_
    refine lv_iload_n hx hb dX4_span_19 rfl (lv_at hl 1 rfl) ?_
    refine q_iald hx hb hK hW 1 0 rfl rfl dX4_span_20 hf (fun hf => ?_)
    refine lv_isub hx hb dX4_span_21 ?_
    refine lv_iconst (v := 1) hx hb dX4_span_22 (by decide) ?_
    refine lv_iadd hx hb dX4_span_23 ?_
    refine q_max hF hl.1 ml_X4_62 ⟨Nat.le_of_ble_eq_true rfl, Nat.le_of_ble_eq_true rfl⟩ ⟨Nat.le_of_ble_eq_true rfl, Nat.le_of_ble_eq_true rfl⟩ dX4_span_24 ?_
    refine lv_goto (tgt := 31) hx hb dX4_span_27 (by decide) ?_
    cases hf
    exact hret dX4_span_31 rfl rfl hW
def w_X4_poses (E : Nat → ClassId) (h_ h_length h_lower h_upper h_value h_obstacleX h_obstacleY h_blocked : Nat) (s_links : Int32) (s_obstacles : Int32) (s_lower : Nat → Int32) (s_upper : Nat → Int32) : va_W := [(h_, .inr (6, [.int s_links, .ref h_length, .ref h_lower, .ref h_upper, .ref h_value, .int s_obstacles, .ref h_obstacleX, .ref h_obstacleY, .ref h_blocked])), (h_lower, .inl (E 0, 4, .inl s_lower)), (h_upper, .inl (E 0, 4, .inl s_upper))]
set_option maxHeartbeats 4000000 in
set_option maxRecDepth 100000 in
theorem c_X4_poses (l : Launch) (D : va_G) (E : Nat → ClassId) (tx : List (Nat × String)) (h_ h_length h_lower h_upper h_value h_obstacleX h_obstacleY h_blocked : Nat) (s_links : Int32) (s_obstacles : Int32) (s_lower : Nat → Int32) (s_upper : Nat → Int32)  (r0 : Int32) (hf : f_X4_poses s_links s_lower s_upper = some r0) : CI l yX4_poses cX4_poses 3 (some .int) 2 85 D E tx [.ref h_] (w_X4_poses E h_ h_length h_lower h_upper h_value h_obstacleX h_obstacleY h_blocked s_links s_obstacles s_lower s_upper) (w_X4_poses E h_ h_length h_lower h_upper h_value h_obstacleX h_obstacleY h_blocked s_links s_obstacles s_lower s_upper) r0 := by
  refine CI_of RX4 pn_X4 rfl (Nat.le_of_ble_eq_true rfl) (fun p e s m args below meth c A Q hF hK hA hZ hW hret ls hl => ?_)
  have hx := hF.1
  have hb := hF.2.1
  have hl : lv_has ls 3 [(0, .ref h_)] := hl
  unfold f_X4_poses at hf
  refine lv_iconst (v := 1) hx hb dX4_poses_0 (by decide) ?_
  refine lv_istore_n (lv' := [(1, .int 1), (0, .ref h_)]) hx hb dX4_poses_1 rfl hl (by decide) rfl (fun ls hl => ?_)
  refine lv_iconst (v := 0) hx hb dX4_poses_2 (by decide) ?_
  refine lv_istore_n (lv' := [(2, .int 0), (1, .int 1), (0, .ref h_)]) hx hb dX4_poses_3 rfl hl (by decide) rfl (fun ls hl => ?_)
  have hB4 : ∀ (n : Nat) (z1_4 : Int32) (z2_4 : Int32) (ex : Int32) (H : Heap) (locs : List Loc) (ls : Array Slot), LPF (fun z => f_X4_poses_B4 s_links s_lower s_upper z.1 z.2) n (z1_4, z2_4) = some ex → lv_has ls 3 [(0, .ref h_), (1, .int z1_4), (2, .int z2_4)] → WD D A s (w_X4_poses E h_ h_length h_lower h_upper h_value h_obstacleX h_obstacleY h_blocked s_links s_obstacles s_lower s_upper) H locs → (∀ (H : Heap) (locs : List Loc) (ls : Array Slot), lv_has ls 3 [(1, .int ex)] → WD D A s (w_X4_poses E h_ h_length h_lower h_upper h_value h_obstacleX h_obstacleY h_blocked s_links s_obstacles s_lower s_upper) H locs → W p l e (RM 2 85) s m args below meth c H locs 0 0 Q (F0 m 31 ls [])) → W p l e (RM 2 85) s m args below meth c H locs 0 0 Q (F0 m 4 ls []) := by
    intro n
    induction n with
    | zero => intro z1_4 z2_4 ex H locs ls h9; exact (ob_lp0 h9).elim
    | succ n ih =>
      intro z1_4 z2_4 ex H locs ls h9 hl hW kx0
      obtain ⟨q9, hf, h9, k9⟩ := ob_lp h9
      have hf : f_X4_poses_B4 s_links s_lower s_upper z1_4 z2_4 = some q9 := hf
      unfold f_X4_poses_B4 at hf
      refine lv_iload_n hx hb dX4_poses_4 rfl (lv_at hl 2 rfl) ?_
      refine lv_aload_n hx hb dX4_poses_5 rfl (lv_at hl 0 rfl) ?_
      refine q_get hF hK hW fl_X4_9 0 rfl rfl dX4_poses_6 ?_
      refine q_icmp_ge (tgt := 31) hx hb dX4_poses_9 (by decide) hf (fun hf => ?_) (fun hf => ?_)
      · cases hf
        have hx9 := k9 _ rfl
        subst hx9
        exact kx0 _ _ _ (lv_sub hl [1] rfl) hW
      · refine lv_iload_n hx hb dX4_poses_12 rfl (lv_at hl 2 rfl) ?_
        refine lv_iconst (v := 4) hx hb dX4_poses_13 (by decide) ?_
        refine q_icmp_ge (tgt := 31) hx hb dX4_poses_14 (by decide) hf (fun hf => ?_) (fun hf => ?_)
        · cases hf
          have hx9 := k9 _ rfl
          subst hx9
          exact kx0 _ _ _ (lv_sub hl [1] rfl) hW
        · refine lv_iload_n hx hb dX4_poses_17 rfl (lv_at hl 1 rfl) ?_
          refine lv_aload_n hx hb dX4_poses_18 rfl (lv_at hl 0 rfl) ?_
          refine lv_iload_n hx hb dX4_poses_19 rfl (lv_at hl 2 rfl) ?_
          obtain ⟨o_1, hc_1, hf⟩ := ob_bind hf
          refine q_callI hF hl.1 hK hA hZ hW mv_X4_span ml_X4_72 (c_X4_span l D E tx h_ h_length h_lower h_upper h_value h_obstacleX h_obstacleY h_blocked s_links s_obstacles s_lower s_upper z2_4 o_1 hc_1) [0, 1, 2] rfl rfl rfl rfl rfl rfl ⟨Nat.le_of_ble_eq_true rfl, Nat.le_of_ble_eq_true rfl⟩ ⟨Nat.le_of_ble_eq_true rfl, Nat.le_of_ble_eq_true rfl⟩ rfl rfl (Nat.le_of_ble_eq_true rfl) dX4_poses_20 (fun H locs hW => ?_)
          have hW : WD D A s (w_X4_poses E h_ h_length h_lower h_upper h_value h_obstacleX h_obstacleY h_blocked s_links s_obstacles s_lower s_upper) H locs := hW
          refine lv_imul hx hb dX4_poses_23 ?_
          refine lv_topi (fun v_2 ev_2 => ?_)
          replace hf := ob_let hf ev_2
          refine lv_istore_n (lv' := [(1, .int v_2), (0, .ref h_), (2, .int z2_4)]) hx hb dX4_poses_24 rfl hl (by decide) rfl (fun ls hl => ?_)
          obtain ⟨v_3, ev_3⟩ : ∃ y : Int32, y = z2_4 + 1 := ⟨_, rfl⟩
          replace hf := ob_let hf ev_3
          refine lv_iinc (v := v_3) (lv' := [(2, .int v_3), (1, .int v_2), (0, .ref h_)]) hx hb dX4_poses_25 hl (k := 2) rfl (by rw [ev_3]; rfl) (by decide) rfl (fun ls hl => ?_)
          refine lv_goto (tgt := 4) hx hb dX4_poses_28 (by decide) ?_
          cases hf
          exact ih v_2 v_3 ex _ _ _ (h9 _ rfl) (lv_sub hl [2, 1, 0] rfl) hW kx0
  obtain ⟨e_4, hc_4, hf⟩ := ob_bind hf
  refine hB4 lfuel 1 0 e_4 _ _ _ hc_4 (lv_sub hl [2, 1, 0] rfl) hW ?_
  intro H locs ls hl hW
  refine lv_iload_n hx hb dX4_poses_31 rfl (lv_at hl 0 rfl) ?_
  cases hf
  exact hret dX4_poses_32 rfl rfl hW
def w_X4_copyFrom (E : Nat → ClassId) (h_ h_length h_lower h_upper h_value h_obstacleX h_obstacleY h_blocked h_p1 h_p1_length h_p1_lower h_p1_upper h_p1_value h_p1_obstacleX h_p1_obstacleY h_p1_blocked : Nat) (s_links : Int32) (s_obstacles : Int32) (s_length : Nat → Int32) (s_lower : Nat → Int32) (s_upper : Nat → Int32) (s_value : Nat → Int32) (s_obstacleX : Nat → Int32) (s_obstacleY : Nat → Int32) (s_blocked : Nat → Int32) (s_p1_links : Int32) (s_p1_obstacles : Int32) (s_p1_length : Nat → Int32) (s_p1_lower : Nat → Int32) (s_p1_upper : Nat → Int32) (s_p1_value : Nat → Int32) (s_p1_obstacleX : Nat → Int32) (s_p1_obstacleY : Nat → Int32) (s_p1_blocked : Nat → Int32) : va_W := [(h_, .inr (6, [.int s_links, .ref h_length, .ref h_lower, .ref h_upper, .ref h_value, .int s_obstacles, .ref h_obstacleX, .ref h_obstacleY, .ref h_blocked])), (h_length, .inl (E 0, 4, .inl s_length)), (h_lower, .inl (E 0, 4, .inl s_lower)), (h_upper, .inl (E 0, 4, .inl s_upper)), (h_value, .inl (E 0, 4, .inl s_value)), (h_obstacleX, .inl (E 0, 60, .inl s_obstacleX)), (h_obstacleY, .inl (E 0, 60, .inl s_obstacleY)), (h_blocked, .inl (E 0, 21, .inl s_blocked)), (h_p1, .inr (6, [.int s_p1_links, .ref h_p1_length, .ref h_p1_lower, .ref h_p1_upper, .ref h_p1_value, .int s_p1_obstacles, .ref h_p1_obstacleX, .ref h_p1_obstacleY, .ref h_p1_blocked])), (h_p1_length, .inl (E 0, 4, .inl s_p1_length)), (h_p1_lower, .inl (E 0, 4, .inl s_p1_lower)), (h_p1_upper, .inl (E 0, 4, .inl s_p1_upper)), (h_p1_value, .inl (E 0, 4, .inl s_p1_value)), (h_p1_obstacleX, .inl (E 0, 60, .inl s_p1_obstacleX)), (h_p1_obstacleY, .inl (E 0, 60, .inl s_p1_obstacleY)), (h_p1_blocked, .inl (E 0, 21, .inl s_p1_blocked))]
set_option maxHeartbeats 4000000 in
set_option maxRecDepth 100000 in
theorem c_X4_copyFrom (l : Launch) (D : va_G) (E : Nat → ClassId) (tx : List (Nat × String)) (h_ h_length h_lower h_upper h_value h_obstacleX h_obstacleY h_blocked h_p1 h_p1_length h_p1_lower h_p1_upper h_p1_value h_p1_obstacleX h_p1_obstacleY h_p1_blocked : Nat) (s_links : Int32) (s_obstacles : Int32) (s_length : Nat → Int32) (s_lower : Nat → Int32) (s_upper : Nat → Int32) (s_value : Nat → Int32) (s_obstacleX : Nat → Int32) (s_obstacleY : Nat → Int32) (s_blocked : Nat → Int32) (s_p1_links : Int32) (s_p1_obstacles : Int32) (s_p1_length : Nat → Int32) (s_p1_lower : Nat → Int32) (s_p1_upper : Nat → Int32) (s_p1_value : Nat → Int32) (s_p1_obstacleX : Nat → Int32) (s_p1_obstacleY : Nat → Int32) (s_p1_blocked : Nat → Int32)  (r0 : Int32) (r1 : Int32) (r2 : Nat → Int32) (r3 : Nat → Int32) (r4 : Nat → Int32) (r5 : Nat → Int32) (r6 : Nat → Int32) (r7 : Nat → Int32) (r8 : Nat → Int32) (hf : f_X4_copyFrom s_links s_obstacles s_length s_lower s_upper s_value s_obstacleX s_obstacleY s_blocked s_p1_links s_p1_obstacles s_p1_length s_p1_lower s_p1_upper s_p1_value s_p1_obstacleX s_p1_obstacleY s_p1_blocked = some (r0, r1, r2, r3, r4, r5, r6, r7, r8)) : CV l yX4_copyFrom cX4_copyFrom 2 1 64 D E tx [.ref h_, .ref h_p1] (w_X4_copyFrom E h_ h_length h_lower h_upper h_value h_obstacleX h_obstacleY h_blocked h_p1 h_p1_length h_p1_lower h_p1_upper h_p1_value h_p1_obstacleX h_p1_obstacleY h_p1_blocked s_links s_obstacles s_length s_lower s_upper s_value s_obstacleX s_obstacleY s_blocked s_p1_links s_p1_obstacles s_p1_length s_p1_lower s_p1_upper s_p1_value s_p1_obstacleX s_p1_obstacleY s_p1_blocked) (w_X4_copyFrom E h_ h_length h_lower h_upper h_value h_obstacleX h_obstacleY h_blocked h_p1 h_p1_length h_p1_lower h_p1_upper h_p1_value h_p1_obstacleX h_p1_obstacleY h_p1_blocked r0 r1 r2 r3 r4 r5 r6 r7 r8 s_p1_links s_p1_obstacles s_p1_length s_p1_lower s_p1_upper s_p1_value s_p1_obstacleX s_p1_obstacleY s_p1_blocked) := by
  refine CV_of RX4 pn_X4 rfl (Nat.le_of_ble_eq_true rfl) (fun p e s m args below meth c A Q hF hK hA hZ hW hret ls hl => ?_)
  have hx := hF.1
  have hb := hF.2.1
  have hl : lv_has ls 2 [(0, .ref h_), (1, .ref h_p1)] := hl
  unfold f_X4_copyFrom at hf
  refine lv_aload_n hx hb dX4_copyFrom_0 rfl (lv_at hl 1 rfl) ?_
  refine lv_ifnonnull (tgt := 5) hx hb dX4_copyFrom_1 (by decide) ?_
  refine lv_aload_n hx hb dX4_copyFrom_5 rfl (lv_at hl 0 rfl) ?_
  refine lv_aload_n hx hb dX4_copyFrom_6 rfl (lv_at hl 1 rfl) ?_
  refine q_get hF hK hW fl_X4_9 8 rfl rfl dX4_copyFrom_7 ?_
  refine q_put hF hK hW fl_X4_9 ft_X4 rfl 0 rfl rfl rfl (Nat.le_of_ble_eq_true rfl) dX4_copyFrom_10 (fun H locs hW => ?_)
  have hW : WD D A s (w_X4_copyFrom E h_ h_length h_lower h_upper h_value h_obstacleX h_obstacleY h_blocked h_p1 h_p1_length h_p1_lower h_p1_upper h_p1_value h_p1_obstacleX h_p1_obstacleY h_p1_blocked s_p1_links s_obstacles s_length s_lower s_upper s_value s_obstacleX s_obstacleY s_blocked s_p1_links s_p1_obstacles s_p1_length s_p1_lower s_p1_upper s_p1_value s_p1_obstacleX s_p1_obstacleY s_p1_blocked) H locs := hW
  refine lv_aload_n hx hb dX4_copyFrom_13 rfl (lv_at hl 1 rfl) ?_
  refine q_get hF hK hW fl_X4_15 8 rfl rfl dX4_copyFrom_14 ?_
  refine lv_iconst (v := 0) hx hb dX4_copyFrom_17 (by decide) ?_
  refine lv_aload_n hx hb dX4_copyFrom_18 rfl (lv_at hl 0 rfl) ?_
  refine q_get hF hK hW fl_X4_15 0 rfl rfl dX4_copyFrom_19 ?_
  refine lv_iconst (v := 0) hx hb dX4_copyFrom_22 (by decide) ?_
  refine lv_iconst (v := 4) hx hb dX4_copyFrom_23 (by decide) ?_
  refine q_copyi hF hl.1 hK hW ml_X4_40 9 1 rfl rfl ⟨Nat.le_of_ble_eq_true rfl, by decide +kernel⟩ dX4_copyFrom_24 hf (fun a_1 hf H locs hW => ?_)
  have hW : WD D A s (w_X4_copyFrom E h_ h_length h_lower h_upper h_value h_obstacleX h_obstacleY h_blocked h_p1 h_p1_length h_p1_lower h_p1_upper h_p1_value h_p1_obstacleX h_p1_obstacleY h_p1_blocked s_p1_links s_obstacles a_1 s_lower s_upper s_value s_obstacleX s_obstacleY s_blocked s_p1_links s_p1_obstacles s_p1_length s_p1_lower s_p1_upper s_p1_value s_p1_obstacleX s_p1_obstacleY s_p1_blocked) H locs := hW
  refine lv_aload_n hx hb dX4_copyFrom_27 rfl (lv_at hl 1 rfl) ?_
  refine q_get hF hK hW fl_X4_19 8 rfl rfl dX4_copyFrom_28 ?_
  refine lv_iconst (v := 0) hx hb dX4_copyFrom_31 (by decide) ?_
  refine lv_aload_n hx hb dX4_copyFrom_32 rfl (lv_at hl 0 rfl) ?_
  refine q_get hF hK hW fl_X4_19 0 rfl rfl dX4_copyFrom_33 ?_
  refine lv_iconst (v := 0) hx hb dX4_copyFrom_36 (by decide) ?_
  refine lv_iconst (v := 4) hx hb dX4_copyFrom_37 (by decide) ?_
  refine q_copyi hF hl.1 hK hW ml_X4_40 10 2 rfl rfl ⟨Nat.le_of_ble_eq_true rfl, by decide +kernel⟩ dX4_copyFrom_38 hf (fun a_2 hf H locs hW => ?_)
  have hW : WD D A s (w_X4_copyFrom E h_ h_length h_lower h_upper h_value h_obstacleX h_obstacleY h_blocked h_p1 h_p1_length h_p1_lower h_p1_upper h_p1_value h_p1_obstacleX h_p1_obstacleY h_p1_blocked s_p1_links s_obstacles a_1 a_2 s_upper s_value s_obstacleX s_obstacleY s_blocked s_p1_links s_p1_obstacles s_p1_length s_p1_lower s_p1_upper s_p1_value s_p1_obstacleX s_p1_obstacleY s_p1_blocked) H locs := hW
  refine lv_aload_n hx hb dX4_copyFrom_41 rfl (lv_at hl 1 rfl) ?_
  refine q_get hF hK hW fl_X4_22 8 rfl rfl dX4_copyFrom_42 ?_
  refine lv_iconst (v := 0) hx hb dX4_copyFrom_45 (by decide) ?_
  refine lv_aload_n hx hb dX4_copyFrom_46 rfl (lv_at hl 0 rfl) ?_
  refine q_get hF hK hW fl_X4_22 0 rfl rfl dX4_copyFrom_47 ?_
  refine lv_iconst (v := 0) hx hb dX4_copyFrom_50 (by decide) ?_
  refine lv_iconst (v := 4) hx hb dX4_copyFrom_51 (by decide) ?_
  refine q_copyi hF hl.1 hK hW ml_X4_40 11 3 rfl rfl ⟨Nat.le_of_ble_eq_true rfl, by decide +kernel⟩ dX4_copyFrom_52 hf (fun a_3 hf H locs hW => ?_)
  have hW : WD D A s (w_X4_copyFrom E h_ h_length h_lower h_upper h_value h_obstacleX h_obstacleY h_blocked h_p1 h_p1_length h_p1_lower h_p1_upper h_p1_value h_p1_obstacleX h_p1_obstacleY h_p1_blocked s_p1_links s_obstacles a_1 a_2 a_3 s_value s_obstacleX s_obstacleY s_blocked s_p1_links s_p1_obstacles s_p1_length s_p1_lower s_p1_upper s_p1_value s_p1_obstacleX s_p1_obstacleY s_p1_blocked) H locs := hW
  refine lv_aload_n hx hb dX4_copyFrom_55 rfl (lv_at hl 1 rfl) ?_
  refine q_get hF hK hW fl_X4_25 8 rfl rfl dX4_copyFrom_56 ?_
  refine lv_iconst (v := 0) hx hb dX4_copyFrom_59 (by decide) ?_
  refine lv_aload_n hx hb dX4_copyFrom_60 rfl (lv_at hl 0 rfl) ?_
  refine q_get hF hK hW fl_X4_25 0 rfl rfl dX4_copyFrom_61 ?_
  refine lv_iconst (v := 0) hx hb dX4_copyFrom_64 (by decide) ?_
  refine lv_iconst (v := 4) hx hb dX4_copyFrom_65 (by decide) ?_
  refine q_copyi hF hl.1 hK hW ml_X4_40 12 4 rfl rfl ⟨Nat.le_of_ble_eq_true rfl, by decide +kernel⟩ dX4_copyFrom_66 hf (fun a_4 hf H locs hW => ?_)
  have hW : WD D A s (w_X4_copyFrom E h_ h_length h_lower h_upper h_value h_obstacleX h_obstacleY h_blocked h_p1 h_p1_length h_p1_lower h_p1_upper h_p1_value h_p1_obstacleX h_p1_obstacleY h_p1_blocked s_p1_links s_obstacles a_1 a_2 a_3 a_4 s_obstacleX s_obstacleY s_blocked s_p1_links s_p1_obstacles s_p1_length s_p1_lower s_p1_upper s_p1_value s_p1_obstacleX s_p1_obstacleY s_p1_blocked) H locs := hW
  refine lv_aload_n hx hb dX4_copyFrom_69 rfl (lv_at hl 0 rfl) ?_
  refine lv_aload_n hx hb dX4_copyFrom_70 rfl (lv_at hl 1 rfl) ?_
  refine q_get hF hK hW fl_X4_28 8 rfl rfl dX4_copyFrom_71 ?_
  refine q_put hF hK hW fl_X4_28 ft_X4 rfl 0 rfl rfl rfl (Nat.le_of_ble_eq_true rfl) dX4_copyFrom_74 (fun H locs hW => ?_)
  have hW : WD D A s (w_X4_copyFrom E h_ h_length h_lower h_upper h_value h_obstacleX h_obstacleY h_blocked h_p1 h_p1_length h_p1_lower h_p1_upper h_p1_value h_p1_obstacleX h_p1_obstacleY h_p1_blocked s_p1_links s_p1_obstacles a_1 a_2 a_3 a_4 s_obstacleX s_obstacleY s_blocked s_p1_links s_p1_obstacles s_p1_length s_p1_lower s_p1_upper s_p1_value s_p1_obstacleX s_p1_obstacleY s_p1_blocked) H locs := hW
  refine lv_aload_n hx hb dX4_copyFrom_77 rfl (lv_at hl 1 rfl) ?_
  refine q_get hF hK hW fl_X4_31 8 rfl rfl dX4_copyFrom_78 ?_
  refine lv_iconst (v := 0) hx hb dX4_copyFrom_81 (by decide) ?_
  refine lv_aload_n hx hb dX4_copyFrom_82 rfl (lv_at hl 0 rfl) ?_
  refine q_get hF hK hW fl_X4_31 0 rfl rfl dX4_copyFrom_83 ?_
  refine lv_iconst (v := 0) hx hb dX4_copyFrom_86 (by decide) ?_
  refine lv_bipush (v := 60) hx hb dX4_copyFrom_87 (by decide) ?_
  refine q_copyi hF hl.1 hK hW ml_X4_40 13 5 rfl rfl ⟨Nat.le_of_ble_eq_true rfl, by decide +kernel⟩ dX4_copyFrom_89 hf (fun a_5 hf H locs hW => ?_)
  have hW : WD D A s (w_X4_copyFrom E h_ h_length h_lower h_upper h_value h_obstacleX h_obstacleY h_blocked h_p1 h_p1_length h_p1_lower h_p1_upper h_p1_value h_p1_obstacleX h_p1_obstacleY h_p1_blocked s_p1_links s_p1_obstacles a_1 a_2 a_3 a_4 a_5 s_obstacleY s_blocked s_p1_links s_p1_obstacles s_p1_length s_p1_lower s_p1_upper s_p1_value s_p1_obstacleX s_p1_obstacleY s_p1_blocked) H locs := hW
  refine lv_aload_n hx hb dX4_copyFrom_92 rfl (lv_at hl 1 rfl) ?_
  refine q_get hF hK hW fl_X4_34 8 rfl rfl dX4_copyFrom_93 ?_
  refine lv_iconst (v := 0) hx hb dX4_copyFrom_96 (by decide) ?_
  refine lv_aload_n hx hb dX4_copyFrom_97 rfl (lv_at hl 0 rfl) ?_
  refine q_get hF hK hW fl_X4_34 0 rfl rfl dX4_copyFrom_98 ?_
  refine lv_iconst (v := 0) hx hb dX4_copyFrom_101 (by decide) ?_
  refine lv_bipush (v := 60) hx hb dX4_copyFrom_102 (by decide) ?_
  refine q_copyi hF hl.1 hK hW ml_X4_40 14 6 rfl rfl ⟨Nat.le_of_ble_eq_true rfl, by decide +kernel⟩ dX4_copyFrom_104 hf (fun a_6 hf H locs hW => ?_)
  have hW : WD D A s (w_X4_copyFrom E h_ h_length h_lower h_upper h_value h_obstacleX h_obstacleY h_blocked h_p1 h_p1_length h_p1_lower h_p1_upper h_p1_value h_p1_obstacleX h_p1_obstacleY h_p1_blocked s_p1_links s_p1_obstacles a_1 a_2 a_3 a_4 a_5 a_6 s_blocked s_p1_links s_p1_obstacles s_p1_length s_p1_lower s_p1_upper s_p1_value s_p1_obstacleX s_p1_obstacleY s_p1_blocked) H locs := hW
  refine lv_aload_n hx hb dX4_copyFrom_107 rfl (lv_at hl 1 rfl) ?_
  refine q_get hF hK hW fl_X4_37 8 rfl rfl dX4_copyFrom_108 ?_
  refine lv_iconst (v := 0) hx hb dX4_copyFrom_111 (by decide) ?_
  refine lv_aload_n hx hb dX4_copyFrom_112 rfl (lv_at hl 0 rfl) ?_
  refine q_get hF hK hW fl_X4_37 0 rfl rfl dX4_copyFrom_113 ?_
  refine lv_iconst (v := 0) hx hb dX4_copyFrom_116 (by decide) ?_
  refine lv_bipush (v := 21) hx hb dX4_copyFrom_117 (by decide) ?_
  refine q_copyi hF hl.1 hK hW ml_X4_40 15 7 rfl rfl ⟨Nat.le_of_ble_eq_true rfl, by decide +kernel⟩ dX4_copyFrom_119 hf (fun a_7 hf H locs hW => ?_)
  have hW : WD D A s (w_X4_copyFrom E h_ h_length h_lower h_upper h_value h_obstacleX h_obstacleY h_blocked h_p1 h_p1_length h_p1_lower h_p1_upper h_p1_value h_p1_obstacleX h_p1_obstacleY h_p1_blocked s_p1_links s_p1_obstacles a_1 a_2 a_3 a_4 a_5 a_6 a_7 s_p1_links s_p1_obstacles s_p1_length s_p1_lower s_p1_upper s_p1_value s_p1_obstacleX s_p1_obstacleY s_p1_blocked) H locs := hW
  cases hf
  exact hret dX4_copyFrom_122 hW
def w_X4_numberOf_own (E : Nat → ClassId) (h_ h_length h_lower h_upper h_value h_obstacleX h_obstacleY h_blocked : Nat) (s_links : Int32) (s_obstacles : Int32) (s_lower : Nat → Int32) (s_upper : Nat → Int32) (s_value : Nat → Int32) : va_W := [(h_, .inr (6, [.int s_links, .ref h_length, .ref h_lower, .ref h_upper, .ref h_value, .int s_obstacles, .ref h_obstacleX, .ref h_obstacleY, .ref h_blocked])), (h_lower, .inl (E 0, 4, .inl s_lower)), (h_upper, .inl (E 0, 4, .inl s_upper)), (h_value, .inl (E 0, 4, .inl s_value))]
set_option maxHeartbeats 4000000 in
set_option maxRecDepth 100000 in
theorem c_X4_numberOf_own (l : Launch) (D : va_G) (E : Nat → ClassId) (tx : List (Nat × String)) (h_ h_length h_lower h_upper h_value h_obstacleX h_obstacleY h_blocked : Nat) (s_links : Int32) (s_obstacles : Int32) (s_lower : Nat → Int32) (s_upper : Nat → Int32) (s_value : Nat → Int32)  (r0 : Int32) (hf : f_X4_numberOf_own s_links s_lower s_upper s_value = some r0) : CI l yX4_numberOf cX4_numberOf 4 (some .int) 2 85 D E tx [.ref h_, .ref h_value] (w_X4_numberOf_own E h_ h_length h_lower h_upper h_value h_obstacleX h_obstacleY h_blocked s_links s_obstacles s_lower s_upper s_value) (w_X4_numberOf_own E h_ h_length h_lower h_upper h_value h_obstacleX h_obstacleY h_blocked s_links s_obstacles s_lower s_upper s_value) r0 := by
  refine CI_of RX4 pn_X4 rfl (Nat.le_of_ble_eq_true rfl) (fun p e s m args below meth c A Q hF hK hA hZ hW hret ls hl => ?_)
  have hx := hF.1
  have hb := hF.2.1
  have hl : lv_has ls 4 [(0, .ref h_), (1, .ref h_value)] := hl
  unfold f_X4_numberOf_own at hf
  refine lv_iconst (v := 0) hx hb dX4_numberOf_0 (by decide) ?_
  refine lv_istore_n (lv' := [(2, .int 0), (0, .ref h_), (1, .ref h_value)]) hx hb dX4_numberOf_1 rfl hl (by decide) rfl (fun ls hl => ?_)
  refine lv_iconst (v := 0) hx hb dX4_numberOf_2 (by decide) ?_
  refine lv_istore_n (lv' := [(3, .int 0), (2, .int 0), (0, .ref h_), (1, .ref h_value)]) hx hb dX4_numberOf_3 rfl hl (by decide) rfl (fun ls hl => ?_)
  have hB4 : ∀ (n : Nat) (z2_4 : Int32) (z3_4 : Int32) (ex : Int32) (H : Heap) (locs : List Loc) (ls : Array Slot), LPF (fun z => f_X4_numberOf_own_B4 s_links s_lower s_upper s_value z.1 z.2) n (z2_4, z3_4) = some ex → lv_has ls 4 [(0, .ref h_), (1, .ref h_value), (2, .int z2_4), (3, .int z3_4)] → WD D A s (w_X4_numberOf_own E h_ h_length h_lower h_upper h_value h_obstacleX h_obstacleY h_blocked s_links s_obstacles s_lower s_upper s_value) H locs → (∀ (H : Heap) (locs : List Loc) (ls : Array Slot), lv_has ls 4 [(2, .int ex)] → WD D A s (w_X4_numberOf_own E h_ h_length h_lower h_upper h_value h_obstacleX h_obstacleY h_blocked s_links s_obstacles s_lower s_upper s_value) H locs → W p l e (RM 2 85) s m args below meth c H locs 0 0 Q (F0 m 48 ls [])) → W p l e (RM 2 85) s m args below meth c H locs 0 0 Q (F0 m 4 ls []) := by
    intro n
    induction n with
    | zero => intro z2_4 z3_4 ex H locs ls h9; exact (ob_lp0 h9).elim
    | succ n ih =>
      intro z2_4 z3_4 ex H locs ls h9 hl hW kx0
      obtain ⟨q9, hf, h9, k9⟩ := ob_lp h9
      have hf : f_X4_numberOf_own_B4 s_links s_lower s_upper s_value z2_4 z3_4 = some q9 := hf
      unfold f_X4_numberOf_own_B4 at hf
      refine lv_iload_n hx hb dX4_numberOf_4 rfl (lv_at hl 3 rfl) ?_
      refine lv_aload_n hx hb dX4_numberOf_5 rfl (lv_at hl 0 rfl) ?_
      refine q_get hF hK hW fl_X4_9 0 rfl rfl dX4_numberOf_6 ?_
      refine q_icmp_ge (tgt := 48) hx hb dX4_numberOf_9 (by decide) hf (fun hf => ?_) (fun hf => ?_)
      · cases hf
        have hx9 := k9 _ rfl
        subst hx9
        exact kx0 _ _ _ (lv_sub hl [2] rfl) hW
      · refine lv_iload_n hx hb dX4_numberOf_12 rfl (lv_at hl 3 rfl) ?_
        refine lv_iconst (v := 4) hx hb dX4_numberOf_13 (by decide) ?_
        refine q_icmp_ge (tgt := 48) hx hb dX4_numberOf_14 (by decide) hf (fun hf => ?_) (fun hf => ?_)
        · cases hf
          have hx9 := k9 _ rfl
          subst hx9
          exact kx0 _ _ _ (lv_sub hl [2] rfl) hW
        · refine lv_iload_n hx hb dX4_numberOf_17 rfl (lv_at hl 3 rfl) ?_
          refine lv_aload_n hx hb dX4_numberOf_18 rfl (lv_at hl 1 rfl) ?_
          refine q_alen (v := 4) hx hb hK hW 3 0 rfl rfl rfl dX4_numberOf_19 ?_
          refine q_icmp_ge (tgt := 48) hx hb dX4_numberOf_20 (by decide) hf (fun hf => ?_) (fun hf => ?_)
          · cases hf
            have hx9 := k9 _ rfl
            subst hx9
            exact kx0 _ _ _ (lv_sub hl [2] rfl) hW
          · refine lv_iload_n hx hb dX4_numberOf_23 rfl (lv_at hl 2 rfl) ?_
            refine lv_aload_n hx hb dX4_numberOf_24 rfl (lv_at hl 0 rfl) ?_
            refine lv_iload_n hx hb dX4_numberOf_25 rfl (lv_at hl 3 rfl) ?_
            obtain ⟨o_1, hc_1, hf⟩ := ob_bind hf
            refine q_callI hF hl.1 hK hA hZ hW mv_X4_span ml_X4_72 (c_X4_span l D E tx h_ h_length h_lower h_upper h_value h_obstacleX h_obstacleY h_blocked s_links s_obstacles s_lower s_upper z3_4 o_1 hc_1) [0, 1, 2] rfl rfl rfl rfl rfl rfl ⟨Nat.le_of_ble_eq_true rfl, Nat.le_of_ble_eq_true rfl⟩ ⟨Nat.le_of_ble_eq_true rfl, Nat.le_of_ble_eq_true rfl⟩ rfl rfl (Nat.le_of_ble_eq_true rfl) dX4_numberOf_26 (fun H locs hW => ?_)
            have hW : WD D A s (w_X4_numberOf_own E h_ h_length h_lower h_upper h_value h_obstacleX h_obstacleY h_blocked s_links s_obstacles s_lower s_upper s_value) H locs := hW
            refine lv_imul hx hb dX4_numberOf_29 ?_
            refine lv_aload_n hx hb dX4_numberOf_30 rfl (lv_at hl 1 rfl) ?_
            refine lv_iload_n hx hb dX4_numberOf_31 rfl (lv_at hl 3 rfl) ?_
            refine q_iald hx hb hK hW 3 0 rfl rfl dX4_numberOf_32 hf (fun hf => ?_)
            refine lv_iadd hx hb dX4_numberOf_33 ?_
            refine lv_aload_n hx hb dX4_numberOf_34 rfl (lv_at hl 0 rfl) ?_
            refine q_get hF hK hW fl_X4_19 0 rfl rfl dX4_numberOf_35 ?_
            refine lv_iload_n hx hb dX4_numberOf_38 rfl (lv_at hl 3 rfl) ?_
            refine q_iald hx hb hK hW 1 0 rfl rfl dX4_numberOf_39 hf (fun hf => ?_)
            refine lv_isub hx hb dX4_numberOf_40 ?_
            refine lv_topi (fun v_2 ev_2 => ?_)
            replace hf := ob_let hf ev_2
            refine lv_istore_n (lv' := [(2, .int v_2), (0, .ref h_), (1, .ref h_value), (3, .int z3_4)]) hx hb dX4_numberOf_41 rfl hl (by decide) rfl (fun ls hl => ?_)
            obtain ⟨v_3, ev_3⟩ : ∃ y : Int32, y = z3_4 + 1 := ⟨_, rfl⟩
            replace hf := ob_let hf ev_3
            refine lv_iinc (v := v_3) (lv' := [(3, .int v_3), (2, .int v_2), (0, .ref h_), (1, .ref h_value)]) hx hb dX4_numberOf_42 hl (k := 3) rfl (by rw [ev_3]; rfl) (by decide) rfl (fun ls hl => ?_)
            refine lv_goto (tgt := 4) hx hb dX4_numberOf_45 (by decide) ?_
            cases hf
            exact ih v_2 v_3 ex _ _ _ (h9 _ rfl) (lv_sub hl [2, 3, 1, 0] rfl) hW kx0
  obtain ⟨e_4, hc_4, hf⟩ := ob_bind hf
  refine hB4 lfuel 0 0 e_4 _ _ _ hc_4 (lv_sub hl [2, 3, 1, 0] rfl) hW ?_
  intro H locs ls hl hW
  refine lv_iload_n hx hb dX4_numberOf_48 rfl (lv_at hl 0 rfl) ?_
  cases hf
  exact hret dX4_numberOf_49 rfl rfl hW
def w_X4_numberOf_row (E : Nat → ClassId) (h_ h_length h_lower h_upper h_value h_obstacleX h_obstacleY h_blocked h_p1 : Nat) (s_links : Int32) (s_obstacles : Int32) (s_lower : Nat → Int32) (s_upper : Nat → Int32) (s_p1 : Nat → Int32) : va_W := [(h_, .inr (6, [.int s_links, .ref h_length, .ref h_lower, .ref h_upper, .ref h_value, .int s_obstacles, .ref h_obstacleX, .ref h_obstacleY, .ref h_blocked])), (h_lower, .inl (E 0, 4, .inl s_lower)), (h_upper, .inl (E 0, 4, .inl s_upper)), (h_p1, .inl (E 0, 4, .inl s_p1))]
set_option maxHeartbeats 4000000 in
set_option maxRecDepth 100000 in
theorem c_X4_numberOf_row (l : Launch) (D : va_G) (E : Nat → ClassId) (tx : List (Nat × String)) (h_ h_length h_lower h_upper h_value h_obstacleX h_obstacleY h_blocked h_p1 : Nat) (s_links : Int32) (s_obstacles : Int32) (s_lower : Nat → Int32) (s_upper : Nat → Int32) (s_p1 : Nat → Int32)  (r0 : Int32) (hf : f_X4_numberOf_row s_links s_lower s_upper s_p1 = some r0) : CI l yX4_numberOf cX4_numberOf 4 (some .int) 2 85 D E tx [.ref h_, .ref h_p1] (w_X4_numberOf_row E h_ h_length h_lower h_upper h_value h_obstacleX h_obstacleY h_blocked h_p1 s_links s_obstacles s_lower s_upper s_p1) (w_X4_numberOf_row E h_ h_length h_lower h_upper h_value h_obstacleX h_obstacleY h_blocked h_p1 s_links s_obstacles s_lower s_upper s_p1) r0 := by
  refine CI_of RX4 pn_X4 rfl (Nat.le_of_ble_eq_true rfl) (fun p e s m args below meth c A Q hF hK hA hZ hW hret ls hl => ?_)
  have hx := hF.1
  have hb := hF.2.1
  have hl : lv_has ls 4 [(0, .ref h_), (1, .ref h_p1)] := hl
  unfold f_X4_numberOf_row at hf
  refine lv_iconst (v := 0) hx hb dX4_numberOf_0 (by decide) ?_
  refine lv_istore_n (lv' := [(2, .int 0), (0, .ref h_), (1, .ref h_p1)]) hx hb dX4_numberOf_1 rfl hl (by decide) rfl (fun ls hl => ?_)
  refine lv_iconst (v := 0) hx hb dX4_numberOf_2 (by decide) ?_
  refine lv_istore_n (lv' := [(3, .int 0), (2, .int 0), (0, .ref h_), (1, .ref h_p1)]) hx hb dX4_numberOf_3 rfl hl (by decide) rfl (fun ls hl => ?_)
  have hB4 : ∀ (n : Nat) (z2_4 : Int32) (z3_4 : Int32) (ex : Int32) (H : Heap) (locs : List Loc) (ls : Array Slot), LPF (fun z => f_X4_numberOf_row_B4 s_links s_lower s_upper s_p1 z.1 z.2) n (z2_4, z3_4) = some ex → lv_has ls 4 [(0, .ref h_), (1, .ref h_p1), (2, .int z2_4), (3, .int z3_4)] → WD D A s (w_X4_numberOf_row E h_ h_length h_lower h_upper h_value h_obstacleX h_obstacleY h_blocked h_p1 s_links s_obstacles s_lower s_upper s_p1) H locs → (∀ (H : Heap) (locs : List Loc) (ls : Array Slot), lv_has ls 4 [(2, .int ex)] → WD D A s (w_X4_numberOf_row E h_ h_length h_lower h_upper h_value h_obstacleX h_obstacleY h_blocked h_p1 s_links s_obstacles s_lower s_upper s_p1) H locs → W p l e (RM 2 85) s m args below meth c H locs 0 0 Q (F0 m 48 ls [])) → W p l e (RM 2 85) s m args below meth c H locs 0 0 Q (F0 m 4 ls []) := by
    intro n
    induction n with
    | zero => intro z2_4 z3_4 ex H locs ls h9; exact (ob_lp0 h9).elim
    | succ n ih =>
      intro z2_4 z3_4 ex H locs ls h9 hl hW kx0
      obtain ⟨q9, hf, h9, k9⟩ := ob_lp h9
      have hf : f_X4_numberOf_row_B4 s_links s_lower s_upper s_p1 z2_4 z3_4 = some q9 := hf
      unfold f_X4_numberOf_row_B4 at hf
      refine lv_iload_n hx hb dX4_numberOf_4 rfl (lv_at hl 3 rfl) ?_
      refine lv_aload_n hx hb dX4_numberOf_5 rfl (lv_at hl 0 rfl) ?_
      refine q_get hF hK hW fl_X4_9 0 rfl rfl dX4_numberOf_6 ?_
      refine q_icmp_ge (tgt := 48) hx hb dX4_numberOf_9 (by decide) hf (fun hf => ?_) (fun hf => ?_)
      · cases hf
        have hx9 := k9 _ rfl
        subst hx9
        exact kx0 _ _ _ (lv_sub hl [2] rfl) hW
      · refine lv_iload_n hx hb dX4_numberOf_12 rfl (lv_at hl 3 rfl) ?_
        refine lv_iconst (v := 4) hx hb dX4_numberOf_13 (by decide) ?_
        refine q_icmp_ge (tgt := 48) hx hb dX4_numberOf_14 (by decide) hf (fun hf => ?_) (fun hf => ?_)
        · cases hf
          have hx9 := k9 _ rfl
          subst hx9
          exact kx0 _ _ _ (lv_sub hl [2] rfl) hW
        · refine lv_iload_n hx hb dX4_numberOf_17 rfl (lv_at hl 3 rfl) ?_
          refine lv_aload_n hx hb dX4_numberOf_18 rfl (lv_at hl 1 rfl) ?_
          refine q_alen (v := 4) hx hb hK hW 3 0 rfl rfl rfl dX4_numberOf_19 ?_
          refine q_icmp_ge (tgt := 48) hx hb dX4_numberOf_20 (by decide) hf (fun hf => ?_) (fun hf => ?_)
          · cases hf
            have hx9 := k9 _ rfl
            subst hx9
            exact kx0 _ _ _ (lv_sub hl [2] rfl) hW
          · refine lv_iload_n hx hb dX4_numberOf_23 rfl (lv_at hl 2 rfl) ?_
            refine lv_aload_n hx hb dX4_numberOf_24 rfl (lv_at hl 0 rfl) ?_
            refine lv_iload_n hx hb dX4_numberOf_25 rfl (lv_at hl 3 rfl) ?_
            obtain ⟨o_1, hc_1, hf⟩ := ob_bind hf
            refine q_callI hF hl.1 hK hA hZ hW mv_X4_span ml_X4_72 (c_X4_span l D E tx h_ h_length h_lower h_upper h_value h_obstacleX h_obstacleY h_blocked s_links s_obstacles s_lower s_upper z3_4 o_1 hc_1) [0, 1, 2] rfl rfl rfl rfl rfl rfl ⟨Nat.le_of_ble_eq_true rfl, Nat.le_of_ble_eq_true rfl⟩ ⟨Nat.le_of_ble_eq_true rfl, Nat.le_of_ble_eq_true rfl⟩ rfl rfl (Nat.le_of_ble_eq_true rfl) dX4_numberOf_26 (fun H locs hW => ?_)
            have hW : WD D A s (w_X4_numberOf_row E h_ h_length h_lower h_upper h_value h_obstacleX h_obstacleY h_blocked h_p1 s_links s_obstacles s_lower s_upper s_p1) H locs := hW
            refine lv_imul hx hb dX4_numberOf_29 ?_
            refine lv_aload_n hx hb dX4_numberOf_30 rfl (lv_at hl 1 rfl) ?_
            refine lv_iload_n hx hb dX4_numberOf_31 rfl (lv_at hl 3 rfl) ?_
            refine q_iald hx hb hK hW 3 0 rfl rfl dX4_numberOf_32 hf (fun hf => ?_)
            refine lv_iadd hx hb dX4_numberOf_33 ?_
            refine lv_aload_n hx hb dX4_numberOf_34 rfl (lv_at hl 0 rfl) ?_
            refine q_get hF hK hW fl_X4_19 0 rfl rfl dX4_numberOf_35 ?_
            refine lv_iload_n hx hb dX4_numberOf_38 rfl (lv_at hl 3 rfl) ?_
            refine q_iald hx hb hK hW 1 0 rfl rfl dX4_numberOf_39 hf (fun hf => ?_)
            refine lv_isub hx hb dX4_numberOf_40 ?_
            refine lv_topi (fun v_2 ev_2 => ?_)
            replace hf := ob_let hf ev_2
            refine lv_istore_n (lv' := [(2, .int v_2), (0, .ref h_), (1, .ref h_p1), (3, .int z3_4)]) hx hb dX4_numberOf_41 rfl hl (by decide) rfl (fun ls hl => ?_)
            obtain ⟨v_3, ev_3⟩ : ∃ y : Int32, y = z3_4 + 1 := ⟨_, rfl⟩
            replace hf := ob_let hf ev_3
            refine lv_iinc (v := v_3) (lv' := [(3, .int v_3), (2, .int v_2), (0, .ref h_), (1, .ref h_p1)]) hx hb dX4_numberOf_42 hl (k := 3) rfl (by rw [ev_3]; rfl) (by decide) rfl (fun ls hl => ?_)
            refine lv_goto (tgt := 4) hx hb dX4_numberOf_45 (by decide) ?_
            cases hf
            exact ih v_2 v_3 ex _ _ _ (h9 _ rfl) (lv_sub hl [2, 3, 1, 0] rfl) hW kx0
  obtain ⟨e_4, hc_4, hf⟩ := ob_bind hf
  refine hB4 lfuel 0 0 e_4 _ _ _ hc_4 (lv_sub hl [2, 3, 1, 0] rfl) hW ?_
  intro H locs ls hl hW
  refine lv_iload_n hx hb dX4_numberOf_48 rfl (lv_at hl 0 rfl) ?_
  cases hf
  exact hret dX4_numberOf_49 rfl rfl hW
def w_X4_readPose (E : Nat → ClassId) (h_ h_length h_lower h_upper h_value h_obstacleX h_obstacleY h_blocked h_p2 : Nat) (s_links : Int32) (s_obstacles : Int32) (s_lower : Nat → Int32) (s_upper : Nat → Int32) (s_p2 : Nat → Int32) : va_W := [(h_, .inr (6, [.int s_links, .ref h_length, .ref h_lower, .ref h_upper, .ref h_value, .int s_obstacles, .ref h_obstacleX, .ref h_obstacleY, .ref h_blocked])), (h_lower, .inl (E 0, 4, .inl s_lower)), (h_upper, .inl (E 0, 4, .inl s_upper)), (h_p2, .inl (E 0, 4, .inl s_p2))]
set_option maxHeartbeats 4000000 in
set_option maxRecDepth 100000 in
theorem c_X4_readPose (l : Launch) (D : va_G) (E : Nat → ClassId) (tx : List (Nat × String)) (h_ h_length h_lower h_upper h_value h_obstacleX h_obstacleY h_blocked h_p2 : Nat) (s_links : Int32) (s_obstacles : Int32) (s_lower : Nat → Int32) (s_upper : Nat → Int32) (s_p2 : Nat → Int32) (x1 : Int32) (r0 : Nat → Int32) (hf : f_X4_readPose s_links s_lower s_upper s_p2 x1 = some r0) : CV l yX4_readPose cX4_readPose 6 2 85 D E tx [.ref h_, .int x1, .ref h_p2] (w_X4_readPose E h_ h_length h_lower h_upper h_value h_obstacleX h_obstacleY h_blocked h_p2 s_links s_obstacles s_lower s_upper s_p2) (w_X4_readPose E h_ h_length h_lower h_upper h_value h_obstacleX h_obstacleY h_blocked h_p2 s_links s_obstacles s_lower s_upper r0) := by
  refine CV_of RX4 pn_X4 rfl (Nat.le_of_ble_eq_true rfl) (fun p e s m args below meth c A Q hF hK hA hZ hW hret ls hl => ?_)
  have hx := hF.1
  have hb := hF.2.1
  have hl : lv_has ls 6 [(0, .ref h_), (1, .int x1), (2, .ref h_p2)] := hl
  unfold f_X4_readPose at hf
  refine lv_iload_n hx hb dX4_readPose_0 rfl (lv_at hl 1 rfl) ?_
  refine lv_istore_n (lv' := [(3, .int x1), (0, .ref h_), (1, .int x1), (2, .ref h_p2)]) hx hb dX4_readPose_1 rfl hl (by decide) rfl (fun ls hl => ?_)
  refine lv_aload_n hx hb dX4_readPose_2 rfl (lv_at hl 1 rfl) ?_
  refine q_get hF hK hW fl_X4_9 0 rfl rfl dX4_readPose_3 ?_
  refine lv_iconst (v := 4) hx hb dX4_readPose_6 (by decide) ?_
  refine q_min hF hl.1 ml_X4_56 ⟨Nat.le_of_ble_eq_true rfl, Nat.le_of_ble_eq_true rfl⟩ ⟨Nat.le_of_ble_eq_true rfl, Nat.le_of_ble_eq_true rfl⟩ dX4_readPose_7 ?_
  refine lv_iconst (v := 1) hx hb dX4_readPose_10 (by decide) ?_
  refine lv_isub hx hb dX4_readPose_11 ?_
  refine lv_topi (fun v_1 ev_1 => ?_)
  replace hf := ob_let hf ev_1
  refine lv_istore (lv' := [(4, .int v_1), (3, .int x1), (0, .ref h_), (1, .int x1), (2, .ref h_p2)]) hx hb dX4_readPose_12 hl (by decide) rfl (fun ls hl => ?_)
  have hB14 : ∀ (n : Nat) (s_p2_14 : Nat → Int32) (z3_14 : Int32) (z4_14 : Int32) (ex : (Nat → Int32)) (H : Heap) (locs : List Loc) (ls : Array Slot), LPF (fun z => f_X4_readPose_B14 s_links s_lower s_upper z.1 z.2.1 z.2.2) n (s_p2_14, z3_14, z4_14) = some ex → lv_has ls 6 [(0, .ref h_), (2, .ref h_p2), (3, .int z3_14), (4, .int z4_14)] → WD D A s (w_X4_readPose E h_ h_length h_lower h_upper h_value h_obstacleX h_obstacleY h_blocked h_p2 s_links s_obstacles s_lower s_upper s_p2_14) H locs → (∀ (H : Heap) (locs : List Loc) (ls : Array Slot), lv_has ls 6 [] → WD D A s (w_X4_readPose E h_ h_length h_lower h_upper h_value h_obstacleX h_obstacleY h_blocked h_p2 s_links s_obstacles s_lower s_upper ex) H locs → W p l e (RM 2 85) s m args below meth c H locs 0 0 Q (F0 m 66 ls [])) → W p l e (RM 2 85) s m args below meth c H locs 0 0 Q (F0 m 14 ls []) := by
    intro n
    induction n with
    | zero => intro s_p2_14 z3_14 z4_14 ex H locs ls h9; exact (ob_lp0 h9).elim
    | succ n ih =>
      intro s_p2_14 z3_14 z4_14 ex H locs ls h9 hl hW kx0
      obtain ⟨q9, hf, h9, k9⟩ := ob_lp h9
      have hf : f_X4_readPose_B14 s_links s_lower s_upper s_p2_14 z3_14 z4_14 = some q9 := hf
      unfold f_X4_readPose_B14 at hf
      refine lv_iload hx hb dX4_readPose_14 (lv_at hl 3 rfl) ?_
      refine q_if_lt (tgt := 66) hx hb dX4_readPose_16 (by decide) hf (fun hf => ?_) (fun hf => ?_)
      · cases hf
        have hx9 := k9 _ rfl
        subst hx9
        exact kx0 _ _ _ (lv_sub hl [] rfl) hW
      · refine lv_aload_n hx hb dX4_readPose_19 rfl (lv_at hl 0 rfl) ?_
        refine lv_iload hx hb dX4_readPose_20 (lv_at hl 3 rfl) ?_
        obtain ⟨o_2, hc_2, hf⟩ := ob_bind hf
        refine q_callI hF hl.1 hK hA hZ hW mv_X4_span ml_X4_72 (c_X4_span l D E tx h_ h_length h_lower h_upper h_value h_obstacleX h_obstacleY h_blocked s_links s_obstacles s_lower s_upper z4_14 o_2 hc_2) [0, 1, 2] rfl rfl rfl rfl rfl rfl ⟨Nat.le_of_ble_eq_true rfl, Nat.le_of_ble_eq_true rfl⟩ ⟨Nat.le_of_ble_eq_true rfl, Nat.le_of_ble_eq_true rfl⟩ rfl rfl (Nat.le_of_ble_eq_true rfl) dX4_readPose_22 (fun H locs hW => ?_)
        have hW : WD D A s (w_X4_readPose E h_ h_length h_lower h_upper h_value h_obstacleX h_obstacleY h_blocked h_p2 s_links s_obstacles s_lower s_upper s_p2_14) H locs := hW
        refine lv_istore (lv' := [(5, .int o_2), (0, .ref h_), (2, .ref h_p2), (3, .int z3_14), (4, .int z4_14)]) hx hb dX4_readPose_25 hl (by decide) rfl (fun ls hl => ?_)
        refine lv_iload hx hb dX4_readPose_27 (lv_at hl 0 rfl) ?_
        refine q_if_le (tgt := 60) hx hb dX4_readPose_29 (by decide) hf (fun hf => ?_) (fun hf => ?_)
        · obtain ⟨v_3, ev_3⟩ : ∃ y : Int32, y = z4_14 + (-1) := ⟨_, rfl⟩
          replace hf := ob_let hf ev_3
          refine lv_iinc (v := v_3) (lv' := [(4, .int v_3), (5, .int o_2), (0, .ref h_), (2, .ref h_p2), (3, .int z3_14)]) hx hb dX4_readPose_60 hl (k := 4) rfl (by rw [ev_3]; rfl) (by decide) rfl (fun ls hl => ?_)
          refine lv_goto (tgt := 14) hx hb dX4_readPose_63 (by decide) ?_
          cases hf
          exact ih s_p2_14 z3_14 v_3 ex _ _ _ (h9 _ rfl) (lv_sub hl [2, 3, 4, 0] rfl) hW kx0
        · refine lv_iload hx hb dX4_readPose_32 (lv_at hl 4 rfl) ?_
          refine lv_aload_n hx hb dX4_readPose_34 rfl (lv_at hl 2 rfl) ?_
          refine q_alen (v := 4) hx hb hK hW 3 0 rfl rfl rfl dX4_readPose_35 ?_
          refine q_icmp_ge (tgt := 60) hx hb dX4_readPose_36 (by decide) hf (fun hf => ?_) (fun hf => ?_)
          · obtain ⟨v_4, ev_4⟩ : ∃ y : Int32, y = z4_14 + (-1) := ⟨_, rfl⟩
            replace hf := ob_let hf ev_4
            refine lv_iinc (v := v_4) (lv' := [(4, .int v_4), (5, .int o_2), (0, .ref h_), (2, .ref h_p2), (3, .int z3_14)]) hx hb dX4_readPose_60 hl (k := 4) rfl (by rw [ev_4]; rfl) (by decide) rfl (fun ls hl => ?_)
            refine lv_goto (tgt := 14) hx hb dX4_readPose_63 (by decide) ?_
            cases hf
            exact ih s_p2_14 z3_14 v_4 ex _ _ _ (h9 _ rfl) (lv_sub hl [2, 3, 4, 0] rfl) hW kx0
          · refine lv_aload_n hx hb dX4_readPose_39 rfl (lv_at hl 2 rfl) ?_
            refine lv_iload hx hb dX4_readPose_40 (lv_at hl 4 rfl) ?_
            refine lv_aload_n hx hb dX4_readPose_42 rfl (lv_at hl 1 rfl) ?_
            refine q_get hF hK hW fl_X4_19 0 rfl rfl dX4_readPose_43 ?_
            refine lv_iload hx hb dX4_readPose_46 (lv_at hl 4 rfl) ?_
            refine q_iald hx hb hK hW 1 0 rfl rfl dX4_readPose_48 hf (fun hf => ?_)
            refine lv_iload_n hx hb dX4_readPose_49 rfl (lv_at hl 3 rfl) ?_
            refine lv_iload hx hb dX4_readPose_50 (lv_at hl 0 rfl) ?_
            refine lv_irem hx hb dX4_readPose_52 (ob_gn hf).1 ?_
            replace hf := (ob_gn hf).2
            refine lv_iadd hx hb dX4_readPose_53 ?_
            refine q_iast hx hb hK hW 3 0 rfl rfl dX4_readPose_54 hf (fun a_5 hf H locs hW => ?_)
            have hW : WD D A s (w_X4_readPose E h_ h_length h_lower h_upper h_value h_obstacleX h_obstacleY h_blocked h_p2 s_links s_obstacles s_lower s_upper a_5) H locs := hW
            refine lv_iload_n hx hb dX4_readPose_55 rfl (lv_at hl 3 rfl) ?_
            refine lv_iload hx hb dX4_readPose_56 (lv_at hl 0 rfl) ?_
            refine lv_idiv hx hb dX4_readPose_58 (ob_gn hf).1 ?_
            replace hf := (ob_gn hf).2
            refine lv_topi (fun v_6 ev_6 => ?_)
            replace hf := ob_let hf ev_6
            refine lv_istore_n (lv' := [(3, .int v_6), (5, .int o_2), (0, .ref h_), (2, .ref h_p2), (4, .int z4_14)]) hx hb dX4_readPose_59 rfl hl (by decide) rfl (fun ls hl => ?_)
            obtain ⟨v_7, ev_7⟩ : ∃ y : Int32, y = z4_14 + (-1) := ⟨_, rfl⟩
            replace hf := ob_let hf ev_7
            refine lv_iinc (v := v_7) (lv' := [(4, .int v_7), (3, .int v_6), (5, .int o_2), (0, .ref h_), (2, .ref h_p2)]) hx hb dX4_readPose_60 hl (k := 4) rfl (by rw [ev_7]; rfl) (by decide) rfl (fun ls hl => ?_)
            refine lv_goto (tgt := 14) hx hb dX4_readPose_63 (by decide) ?_
            cases hf
            exact ih a_5 v_6 v_7 ex _ _ _ (h9 _ rfl) (lv_sub hl [3, 4, 1, 0] rfl) hW kx0
  obtain ⟨e_8, hc_8, hf⟩ := ob_bind hf
  refine hB14 lfuel s_p2 x1 v_1 e_8 _ _ _ hc_8 (lv_sub hl [2, 4, 1, 0] rfl) hW ?_
  intro H locs ls hl hW
  cases hf
  exact hret dX4_readPose_66 hW
