def w_J9_floorMod_7cf53 (E : Nat → ClassId)   : va_W := []
set_option maxHeartbeats 4000000 in
set_option maxRecDepth 100000 in
theorem c_J9_floorMod_7cf53 (l : Launch) (D : va_G) (E : Nat → ClassId) (tx : List (Nat × String))   (x0 : Int32) (x1 : Int32) (r0 : Int32) (hf : f_J9_floorMod_7cf53 x0 x1 = some r0) : CI l yJ9_floorMod_7cf53 cJ9_floorMod_7cf53 3 (some .int) 0 0 D E tx [.int x0, .int x1] (w_J9_floorMod_7cf53 E ) (w_J9_floorMod_7cf53 E ) r0 := by
  refine CI_ofF RJ9 pf_J9_floorMod_7cf53 rfl (Nat.le_of_ble_eq_true rfl) (fun p e s m args below meth c A Q hF hK hA hZ hW hret ls hl => ?_)
  have hx := hF.1
  have hb := hF.2.1
  have hl : lv_has ls 3 [(0, .int x0), (1, .int x1)] := hl
  unfold f_J9_floorMod_7cf53 at hf
  refine lv_iload_n hx hb dJ9_floorMod_7cf53_0 rfl (lv_at hl 0 rfl) ?_
  refine lv_iload_n hx hb dJ9_floorMod_7cf53_1 rfl (lv_at hl 1 rfl) ?_
  refine lv_irem hx hb dJ9_floorMod_7cf53_2 (ob_gn hf).1 ?_
  replace hf := (ob_gn hf).2
  refine lv_topi (fun v_1 ev_1 => ?_)
  replace hf := ob_let hf ev_1
  refine lv_istore_n (lv' := [(2, .int v_1), (0, .int x0), (1, .int x1)]) hx hb dJ9_floorMod_7cf53_3 rfl hl (by decide) rfl (fun ls hl => ?_)
  refine lv_iload_n hx hb dJ9_floorMod_7cf53_4 rfl (lv_at hl 1 rfl) ?_
  refine lv_iload_n hx hb dJ9_floorMod_7cf53_5 rfl (lv_at hl 2 rfl) ?_
  refine lv_ixor hx hb dJ9_floorMod_7cf53_6 ?_
  refine q_if_ge (tgt := 18) hx hb dJ9_floorMod_7cf53_7 (by decide) hf (fun hf => ?_) (fun hf => ?_)
  · refine lv_iload_n hx hb dJ9_floorMod_7cf53_18 rfl (lv_at hl 0 rfl) ?_
    cases hf
    exact hret dJ9_floorMod_7cf53_19 rfl rfl hW
  · refine lv_iload_n hx hb dJ9_floorMod_7cf53_10 rfl (lv_at hl 0 rfl) ?_
    refine q_if_eq (tgt := 18) hx hb dJ9_floorMod_7cf53_11 (by decide) hf (fun hf => ?_) (fun hf => ?_)
    · refine lv_iload_n hx hb dJ9_floorMod_7cf53_18 rfl (lv_at hl 0 rfl) ?_
      cases hf
      exact hret dJ9_floorMod_7cf53_19 rfl rfl hW
    · refine lv_iload_n hx hb dJ9_floorMod_7cf53_14 rfl (lv_at hl 0 rfl) ?_
      refine lv_iload_n hx hb dJ9_floorMod_7cf53_15 rfl (lv_at hl 2 rfl) ?_
      refine lv_iadd hx hb dJ9_floorMod_7cf53_16 ?_
      cases hf
      exact hret dJ9_floorMod_7cf53_17 rfl rfl hW
def w_J9_floorDiv_7cf53 (E : Nat → ClassId)   : va_W := []
set_option maxHeartbeats 4000000 in
set_option maxRecDepth 100000 in
theorem c_J9_floorDiv_7cf53 (l : Launch) (D : va_G) (E : Nat → ClassId) (tx : List (Nat × String))   (x0 : Int32) (x1 : Int32) (r0 : Int32) (hf : f_J9_floorDiv_7cf53 x0 x1 = some r0) : CI l yJ9_floorDiv_7cf53 cJ9_floorDiv_7cf53 3 (some .int) 0 0 D E tx [.int x0, .int x1] (w_J9_floorDiv_7cf53 E ) (w_J9_floorDiv_7cf53 E ) r0 := by
  refine CI_ofF RJ9 pf_J9_floorDiv_7cf53 rfl (Nat.le_of_ble_eq_true rfl) (fun p e s m args below meth c A Q hF hK hA hZ hW hret ls hl => ?_)
  have hx := hF.1
  have hb := hF.2.1
  have hl : lv_has ls 3 [(0, .int x0), (1, .int x1)] := hl
  unfold f_J9_floorDiv_7cf53 at hf
  refine lv_iload_n hx hb dJ9_floorDiv_7cf53_0 rfl (lv_at hl 0 rfl) ?_
  refine lv_iload_n hx hb dJ9_floorDiv_7cf53_1 rfl (lv_at hl 1 rfl) ?_
  refine lv_idiv hx hb dJ9_floorDiv_7cf53_2 (ob_gn hf).1 ?_
  replace hf := (ob_gn hf).2
  refine lv_topi (fun v_1 ev_1 => ?_)
  replace hf := ob_let hf ev_1
  refine lv_istore_n (lv' := [(2, .int v_1), (0, .int x0), (1, .int x1)]) hx hb dJ9_floorDiv_7cf53_3 rfl hl (by decide) rfl (fun ls hl => ?_)
  refine lv_iload_n hx hb dJ9_floorDiv_7cf53_4 rfl (lv_at hl 1 rfl) ?_
  refine lv_iload_n hx hb dJ9_floorDiv_7cf53_5 rfl (lv_at hl 2 rfl) ?_
  refine lv_ixor hx hb dJ9_floorDiv_7cf53_6 ?_
  refine q_if_ge (tgt := 21) hx hb dJ9_floorDiv_7cf53_7 (by decide) hf (fun hf => ?_) (fun hf => ?_)
  · refine lv_iload_n hx hb dJ9_floorDiv_7cf53_21 rfl (lv_at hl 0 rfl) ?_
    cases hf
    exact hret dJ9_floorDiv_7cf53_22 rfl rfl hW
  · refine lv_iload_n hx hb dJ9_floorDiv_7cf53_10 rfl (lv_at hl 0 rfl) ?_
    refine lv_iload_n hx hb dJ9_floorDiv_7cf53_11 rfl (lv_at hl 2 rfl) ?_
    refine lv_imul hx hb dJ9_floorDiv_7cf53_12 ?_
    refine lv_iload_n hx hb dJ9_floorDiv_7cf53_13 rfl (lv_at hl 1 rfl) ?_
    refine q_icmp_eq (tgt := 21) hx hb dJ9_floorDiv_7cf53_14 (by decide) hf (fun hf => ?_) (fun hf => ?_)
    · refine lv_iload_n hx hb dJ9_floorDiv_7cf53_21 rfl (lv_at hl 0 rfl) ?_
      cases hf
      exact hret dJ9_floorDiv_7cf53_22 rfl rfl hW
    · refine lv_iload_n hx hb dJ9_floorDiv_7cf53_17 rfl (lv_at hl 0 rfl) ?_
      refine lv_iconst (v := 1) hx hb dJ9_floorDiv_7cf53_18 (by decide) ?_
      refine lv_isub hx hb dJ9_floorDiv_7cf53_19 ?_
      cases hf
      exact hret dJ9_floorDiv_7cf53_20 rfl rfl hW
