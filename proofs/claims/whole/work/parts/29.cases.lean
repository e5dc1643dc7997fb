set_option maxHeartbeats 4000000 in
set_option maxRecDepth 100000 in
theorem k_0 {p : Program} {l : Launch} {e : Env} {s : State} {m : MethodId} {below : List Frame} {meth : Method} {c : Code} {D : va_G} {E : Nat → ClassId} {A : Nat → Prop} {b N i : Nat} {xs : Nat → Int32} {h g : Nat → Nat} {hp : Nat → Nat → Nat} {o od : Nat} {Q : State → Prop} {H : Heap} {locs : List Loc} {cells slots : Nat} {ls : Array Slot} (C : LCC p l s m c D E A b N xs) (hi : i + 4 ≤ N) (S : LSS D E A s h g hp o od H locs) (hl : lv_has ls 9 [(0, .ref b), (1, .ref (h 0)), (2, .ref (g 0)), (3, .ref o), (4, .ref od), (5, .int (nI i))]) (hc : cells + 4 ≤ room_1.cells ∧ slots + 24 ≤ room_1.slots) (kk : ∀ (H : Heap) (locs : List Loc) (ls : Array Slot), LSS D E A s h g hp o od H locs → lv_has ls 9 [(0, .ref b), (1, .ref (h 0)), (2, .ref (g 0)), (3, .ref o), (4, .ref od), (5, .int (nI i))] → W p l e room_1 s m #[.ref b] below meth c H locs (cells + 4) (slots + 24) Q (F0 m 2740 ls [])) : W p l e room_1 s m #[.ref b] below meth c H locs cells slots Q (F0 m 252 ls []) := by
  obtain ⟨hF, hlt, hK, hA, hZ, hN, hX, hbl, hbA, hN9⟩ := C
  obtain ⟨ss, aa, pl, po, pa, ms, ma, fo, fd, hR, hW⟩ := S
  obtain ⟨i0, i1, i2, i3⟩ := ix_ok hi hN9
  have hx := hF.1
  have hb := hF.2.1
  refine lv_aload_n hx hb dL_law_252 rfl (lv_at hl 1 rfl) ?_
  obtain ⟨r, e7, q, e8, hM, hR1⟩ := call_clear hR
  refine q_callIm hF hl.1 hK hA hZ hW mv_X7_clear ml_L_158 (c_X7_clear l D E TXL (h 0) (h 1) (h 2) (h 3) (h 4) (h 5) (h 6) (h 7) (h 8) (h 9) (h 10) (h 11) (h 12) (h 13) (h 14) (h 15) (h 16) (h 17) (h 18) (h 19) (h 20) (h 21) (h 22) (h 23) (h 24) (h 25) (h 26) (h 27) (h 28) (ss 0) (ss 1) (ss 10) (ss 11) (aa 0) (ss 12) (ss 13) (ss 2) (ss 3) (ss 4) (ss 5) (ss 6) (ss 7) (ss 8) (ss 9) r.1 r.2.1 r.2.2.1 r.2.2.2.1 r.2.2.2.2.1 r.2.2.2.2.2.1 r.2.2.2.2.2.2 e7) [true, true, false, false, false, false, false, false, true, false, false, false, false, false, false, false, false, false, false, false, false, false, false, false, false, true, true, false, false, false, false, false, false, false, false, false, false, false, false, false, false, false, false, false, true] (Nat.le_of_ble_eq_true rfl) rfl rfl rfl rfl rfl ⟨Nat.le_of_ble_eq_true rfl, Nat.le_of_ble_eq_true rfl⟩ ⟨Nat.le_of_add_right_le hc.1, Nat.le_of_add_right_le hc.2⟩ rfl rfl (Nat.le_of_ble_eq_true rfl) dL_law_253 (fun H locs hW => ?_)
  refine W.widen (Nat.le_add_right cells 4) (Nat.le_add_right slots 24) ?_
  have hW : WD D A s (w_LAW E h g o od (va_up (va_up (va_up (va_up (va_up ss 10 r.2.1) 11 r.2.2.1) 12 r.2.2.2.2.1) 2 r.2.2.2.2.2.1) 6 r.2.2.2.2.2.2) (va_up aa 0 r.2.2.2.1) ms ma fo fd ++ w_pool E (h 19) hp pl po pa) H locs := hW
  refine lv_aload_n hx hb dL_law_256 rfl (lv_at hl 2 rfl) ?_
  refine q_callIm hF hl.1 hK hA hZ hW mv_X8_clear ml_L_161 (c_X8_clear l D E TXL (g 0) (g 1) (g 2) (g 3) (g 4) (g 5) (g 6) (g 7) (g 8) (g 9) (g 10) (g 11) (g 12) (g 13) (g 14) (g 15) (g 16) (g 17) (g 18) (g 19) (ms 0) (ms 1) (ms 2) (ms 3) (ms 4) (ms 5) (ms 6) (ms 7) (ms 8) (ms 9) (ms 10) (ms 11) (ma 0) q.1 q.2.1 q.2.2.1 q.2.2.2.1 q.2.2.2.2 e8) [false, false, false, false, false, false, false, false, false, false, false, false, false, false, false, false, false, false, false, false, false, false, false, false, false, false, false, false, false, false, false, false, false, false, false, false, false, false, false, false, false, false, false, false, false, false, false, false, false, false, false, false, false, false, false, true, true] (Nat.le_of_ble_eq_true rfl) rfl rfl rfl rfl rfl ⟨Nat.le_of_ble_eq_true rfl, Nat.le_of_ble_eq_true rfl⟩ hc rfl rfl (Nat.le_of_ble_eq_true rfl) dL_law_257 (fun H locs hW => ?_)
  have hW : WD D A s (w_LAW E h g o od (va_up (va_up (va_up (va_up (va_up ss 10 r.2.1) 11 r.2.2.1) 12 r.2.2.2.2.1) 2 r.2.2.2.2.2.1) 6 r.2.2.2.2.2.2) (va_up aa 0 r.2.2.2.1) (va_up (va_up (va_up ms 1 q.2.1) 2 q.2.2.1) 4 q.2.2.2.1) (va_up ma 0 q.2.2.2.2) fo fd ++ w_pool E (h 19) hp pl po pa) H locs := hW
  refine lv_icmp_eq (tgt := 2740) hx hb dL_law_260 (by decide) (fun _ => ?_) (fun z => absurd hM z)
  exact kk _ _ _ ⟨_, _, _, _, _, _, _, _, _, hR1, hW⟩ hl
set_option maxHeartbeats 4000000 in
set_option maxRecDepth 100000 in
theorem k_1 {p : Program} {l : Launch} {e : Env} {s : State} {m : MethodId} {below : List Frame} {meth : Method} {c : Code} {D : va_G} {E : Nat → ClassId} {A : Nat → Prop} {b N i : Nat} {xs : Nat → Int32} {h g : Nat → Nat} {hp : Nat → Nat → Nat} {o od : Nat} {Q : State → Prop} {H : Heap} {locs : List Loc} {cells slots : Nat} {ls : Array Slot} (C : LCC p l s m c D E A b N xs) (hi : i + 4 ≤ N) (S : LSS D E A s h g hp o od H locs) (hl : lv_has ls 9 [(0, .ref b), (1, .ref (h 0)), (2, .ref (g 0)), (3, .ref o), (4, .ref od), (5, .int (nI i))]) (hc : cells + 4 ≤ room_1.cells ∧ slots + 24 ≤ room_1.slots) (kk : ∀ (H : Heap) (locs : List Loc) (ls : Array Slot), LSS D E A s h g hp o od H locs → lv_has ls 9 [(0, .ref b), (1, .ref (h 0)), (2, .ref (g 0)), (3, .ref o), (4, .ref od), (5, .int (nI i))] → W p l e room_1 s m #[.ref b] below meth c H locs (cells + 4) (slots + 24) Q (F0 m 2740 ls [])) : W p l e room_1 s m #[.ref b] below meth c H locs cells slots Q (F0 m 265 ls []) := by
  obtain ⟨hF, hlt, hK, hA, hZ, hN, hX, hbl, hbA, hN9⟩ := C
  obtain ⟨ss, aa, pl, po, pa, ms, ma, fo, fd, hR, hW⟩ := S
  obtain ⟨i0, i1, i2, i3⟩ := ix_ok hi hN9
  have hx := hF.1
  have hb := hF.2.1
  refine lv_aload_n hx hb dL_law_265 rfl (lv_at hl 1 rfl) ?_
  refine lv_aload_n hx hb dL_law_266 rfl (lv_at hl 0 rfl) ?_
  refine lv_iload hx hb dL_law_267 (lv_at hl 5 rfl) ?_
  refine lv_iconst (v := 1) hx hb dL_law_269 (by decide) ?_
  refine lv_iadd hx hb dL_law_270 ?_
  refine va_sld hx hb hX hbl hbA hW.2.2 i1 dL_law_271 ?_
  refine lv_topi (fun x1 ex1 => ?_)
  refine lv_aload_n hx hb dL_law_272 rfl (lv_at hl 0 rfl) ?_
  refine lv_iload hx hb dL_law_273 (lv_at hl 5 rfl) ?_
  refine lv_iconst (v := 2) hx hb dL_law_275 (by decide) ?_
  refine lv_iadd hx hb dL_law_276 ?_
  refine va_sld hx hb hX hbl hbA hW.2.2 i2 dL_law_277 ?_
  refine lv_topi (fun x2 ex2 => ?_)
  refine lv_aload_n hx hb dL_law_278 rfl (lv_at hl 0 rfl) ?_
  refine lv_iload hx hb dL_law_279 (lv_at hl 5 rfl) ?_
  refine lv_iconst (v := 3) hx hb dL_law_281 (by decide) ?_
  refine lv_iadd hx hb dL_law_282 ?_
  refine va_sld hx hb hX hbl hbA hW.2.2 i3 dL_law_283 ?_
  refine lv_topi (fun x3 ex3 => ?_)
  refine lv_aload_n hx hb dL_law_284 rfl (lv_at hl 3 rfl) ?_
  obtain ⟨r, e7, q, e8, hM, hR1⟩ := call_addLink hR x1 x2 x3
  have hk : r.1 = 0 ∨ r.1 = 1 ∨ r.1 = 2 := by
    rcases hM with ⟨m1, m2, m3⟩ | ⟨m1, m2⟩ | ⟨m1, m2⟩
    · exact Or.inl m1
    · exact Or.inr (Or.inl m1)
    · exact Or.inr (Or.inr (m1))
  have hth : q.2.2.2.1 = (if r.1 = 1 then 1 else (if r.1 = 2 then 2 else 0)) := by
    rcases hM with ⟨m1, m2, m3⟩ | ⟨m1, m2⟩ | ⟨m1, m2⟩
    · rw [m1, m2]; rfl
    · rw [m1, m2]; rfl
    · rw [m1, m2]; rfl
  have hans : ((if r.1 = 1 then 1 else (if r.1 = 2 then 2 else 0)) : Int32) = 0 → r.1 = 0 ∧ r.2.1 = q.1 := by
    intro z9
    rcases hM with ⟨m1, m2, m3⟩ | ⟨m1, m2⟩ | ⟨m1, m2⟩
    · exact ⟨m1, m3⟩
    · exact absurd z9 (by rw [m1]; decide)
    · exact absurd z9 (by rw [m1]; decide)
  refine q_LWPm (pool_fst _ _ _ _ _ _ _ _ _) hF hl.1 hK hA hZ hN hW mW_addLink ml_L_162 (v_addLink l D E (h 0) o x1 x2 x3 _ _ r.1 r.2.1 fo (c_X7_addLink l hlt D E (h 0) (h 1) (h 2) (h 3) (h 4) (h 5) (h 6) (h 7) (h 8) (h 9) (h 10) (h 11) (h 12) (h 13) (h 14) (h 15) (h 16) (h 17) (h 18) (h 19) (h 20) (h 21) (h 22) (h 23) (h 24) (h 25) (h 26) (h 27) (h 28) hp (ss 0) (ss 1) (ss 10) (ss 11) (aa 1) (aa 2) (aa 3) (aa 4) (aa 5) (aa 6) (aa 0) (ss 12) (ss 13) (ss 2) (ss 3) (ss 4) (ss 5) (ss 6) (ss 7) (ss 8) (ss 9) pl po pa x1 x2 x3 r.1 r.2.1 r.2.2.1 r.2.2.2.1 r.2.2.2.2.1 r.2.2.2.2.2.1 r.2.2.2.2.2.2.1 r.2.2.2.2.2.2.2.1 r.2.2.2.2.2.2.2.2.1 r.2.2.2.2.2.2.2.2.2.1 r.2.2.2.2.2.2.2.2.2.2.1 r.2.2.2.2.2.2.2.2.2.2.2.1 r.2.2.2.2.2.2.2.2.2.2.2.2.1 r.2.2.2.2.2.2.2.2.2.2.2.2.2 e7) rfl (by rw [List.map_append, List.map_append]; rfl) hk) [true, true, true, true, true, true, true, true, true, false, false, false, false, false, false, false, false, false, false, false, false, false, false, false, false, true, true, false, false, false, false, false, false, false, false, false, false, false, false, false, false, false, false, false, true] 75 (Nat.le_of_ble_eq_true rfl) rfl rfl (Nat.le_of_ble_eq_true rfl) rfl rfl ⟨Nat.le_of_ble_eq_true rfl, Nat.le_of_ble_eq_true rfl⟩ ⟨Nat.le_trans (Nat.add_le_add_left (Nat.le_of_ble_eq_true rfl) cells) hc.1, Nat.le_trans (Nat.add_le_add_left (Nat.le_of_ble_eq_true rfl) slots) hc.2⟩ rfl rfl (Nat.le_of_ble_eq_true rfl) dL_law_285 (fun H locs hW => ?_)
  refine W.widen (Nat.add_le_add_left (Nat.le_of_ble_eq_true rfl : 1 ≤ 4) cells) (Nat.add_le_add_left (Nat.le_of_ble_eq_true rfl : 6 ≤ 24) slots) ?_
  have hW : WD D A s (w_LAW E h g o od (va_up (va_up (va_up (va_up (va_up ss 10 r.2.2.1) 12 r.2.2.2.2.2.2.2.1) 13 r.2.2.2.2.2.2.2.2.1) 2 r.2.2.2.2.2.2.2.2.2.1) 6 r.2.2.2.2.2.2.2.2.2.2.1) (va_up (va_up (va_up (va_up aa 1 r.2.2.2.1) 2 r.2.2.2.2.1) 3 r.2.2.2.2.2.1) 4 r.2.2.2.2.2.2.1) ms ma (if r.1 = 0 then vp_updL fo 0 (r.2.1).toInt64 else fo) fd ++ w_pool E (h 19) hp r.2.2.2.2.2.2.2.2.2.2.2.1 r.2.2.2.2.2.2.2.2.2.2.2.2.1 r.2.2.2.2.2.2.2.2.2.2.2.2.2) H locs := hW
  refine lv_topi (fun z6 e6 => ?_)
  refine lv_istore (lv' := [(6, .int z6), (0, .ref b), (1, .ref (h 0)), (2, .ref (g 0)), (3, .ref o), (4, .ref od), (5, .int (nI i))]) hx hb dL_law_288 hl (by decide) rfl (fun ls hl => ?_)
  refine lv_aload_n hx hb dL_law_290 rfl (lv_at hl 3 rfl) ?_
  refine lv_aload_n hx hb dL_law_291 rfl (lv_at hl 1 rfl) ?_
  refine lv_iload hx hb dL_law_292 (lv_at hl 6 rfl) ?_
  refine lv_iconst (v := 1) hx hb dL_law_294 (by decide) ?_
  refine lv_iadd hx hb dL_law_295 ?_
  refine va_sld hx hb hX hbl hbA hW.2.2 i1 dL_law_296 ?_
  refine lv_topi (fun y1 ey1 => ?_)
  obtain rfl : x1 = y1 := ex1.trans ey1.symm
  refine lv_aload_n hx hb dL_law_297 rfl (lv_at hl 1 rfl) ?_
  refine lv_iload hx hb dL_law_298 (lv_at hl 6 rfl) ?_
  refine lv_iconst (v := 2) hx hb dL_law_300 (by decide) ?_
  refine lv_iadd hx hb dL_law_301 ?_
  refine va_sld hx hb hX hbl hbA hW.2.2 i2 dL_law_302 ?_
  refine lv_topi (fun y2 ey2 => ?_)
  obtain rfl : x2 = y2 := ex2.trans ey2.symm
  refine lv_aload_n hx hb dL_law_303 rfl (lv_at hl 1 rfl) ?_
  refine lv_iload hx hb dL_law_304 (lv_at hl 6 rfl) ?_
  refine lv_iconst (v := 3) hx hb dL_law_306 (by decide) ?_
  refine lv_iadd hx hb dL_law_307 ?_
  refine va_sld hx hb hX hbl hbA hW.2.2 i3 dL_law_308 ?_
  refine lv_topi (fun y3 ey3 => ?_)
  obtain rfl : x3 = y3 := ex3.trans ey3.symm
  refine q_callIm hF hl.1 hK hA hZ hW mv_X8_addLink ml_L_167 (c_X8_addLink l D E TXL (g 0) (g 1) (g 2) (g 3) (g 4) (g 5) (g 6) (g 7) (g 8) (g 9) (g 10) (g 11) (g 12) (g 13) (g 14) (g 15) (g 16) (g 17) (g 18) (g 19) (ms 0) (ms 1) (ms 2) (ms 3) (ms 4) (ms 5) (ms 6) (ms 7) (ms 8) (ms 9) (ms 10) (ms 11) (ma 0) (ma 1) x1 x2 x3 q.1 q.2.1 q.2.2.1 q.2.2.2.1 q.2.2.2.2.1 q.2.2.2.2.2 e8) [false, false, false, false, false, false, false, false, false, false, false, false, false, false, false, false, false, false, false, false, false, false, false, false, false, false, false, false, false, false, false, false, false, false, false, false, false, false, false, false, false, false, false, false, false, false, false, false, false, false, false, false, false, false, false, true, true, true] (Nat.le_of_ble_eq_true rfl) rfl rfl rfl rfl rfl ⟨Nat.le_of_ble_eq_true rfl, Nat.le_of_ble_eq_true rfl⟩ hc rfl rfl (Nat.le_of_ble_eq_true rfl) dL_law_309 (fun H locs hW => ?_)
  have hW : WD D A s (w_LAW E h g o od (va_up (va_up (va_up (va_up (va_up ss 10 r.2.2.1) 12 r.2.2.2.2.2.2.2.1) 13 r.2.2.2.2.2.2.2.2.1) 2 r.2.2.2.2.2.2.2.2.2.1) 6 r.2.2.2.2.2.2.2.2.2.2.1) (va_up (va_up (va_up (va_up aa 1 r.2.2.2.1) 2 r.2.2.2.2.1) 3 r.2.2.2.2.2.1) 4 r.2.2.2.2.2.2.1) (va_up (va_up (va_up ms 1 q.2.1) 2 q.2.2.1) 4 q.2.2.2.1) (va_up (va_up ma 0 q.2.2.2.2.1) 1 q.2.2.2.2.2) (if r.1 = 0 then vp_updL fo 0 (r.2.1).toInt64 else fo) fd ++ w_pool E (h 19) hp r.2.2.2.2.2.2.2.2.2.2.2.1 r.2.2.2.2.2.2.2.2.2.2.2.2.1 r.2.2.2.2.2.2.2.2.2.2.2.2.2) H locs := hW
  refine lv_topi (fun z7 e7_ => ?_)
  refine lv_istore (lv' := [(7, .int z7), (6, .int z6), (0, .ref b), (1, .ref (h 0)), (2, .ref (g 0)), (3, .ref o), (4, .ref od), (5, .int (nI i))]) hx hb dL_law_312 hl (by decide) rfl (fun ls hl => ?_)
  refine lv_aload_n hx hb dL_law_314 rfl (lv_at hl 4 rfl) ?_
  refine q_callIm hF hl.1 hK hA hZ hW mv_X8_thrown ml_L_168 (c_X8_thrown l D E TXL (g 0) (g 1) (g 2) (g 3) (g 4) (g 5) (g 6) (g 7) (g 8) (g 9) (g 10) (g 11) (g 12) (g 13) (g 14) (g 15) (g 16) (g 17) (g 18) (g 19) (ms 0) q.2.1 q.2.2.1 (ms 3) q.2.2.2.1 (ms 5) (ms 6) (ms 7) (ms 8) (ms 9) (ms 10) (ms 11) q.2.2.2.1 rfl) [false, false, false, false, false, false, false, false, false, false, false, false, false, false, false, false, false, false, false, false, false, false, false, false, false, false, false, false, false, false, false, false, false, false, false, false, false, false, false, false, false, false, false, false, false, false, false, false, false, false, false, false, false, false, false, true] (Nat.le_of_ble_eq_true rfl) rfl rfl rfl rfl rfl ⟨Nat.le_of_ble_eq_true rfl, Nat.le_of_ble_eq_true rfl⟩ hc rfl rfl (Nat.le_of_ble_eq_true rfl) dL_law_315 (fun H locs hW => ?_)
  have hW : WD D A s (w_LAW E h g o od (va_up (va_up (va_up (va_up (va_up ss 10 r.2.2.1) 12 r.2.2.2.2.2.2.2.1) 13 r.2.2.2.2.2.2.2.2.1) 2 r.2.2.2.2.2.2.2.2.2.1) 6 r.2.2.2.2.2.2.2.2.2.2.1) (va_up (va_up (va_up (va_up aa 1 r.2.2.2.1) 2 r.2.2.2.2.1) 3 r.2.2.2.2.2.1) 4 r.2.2.2.2.2.2.1) (va_up (va_up (va_up ms 1 q.2.1) 2 q.2.2.1) 4 q.2.2.2.1) (va_up (va_up ma 0 q.2.2.2.2.1) 1 q.2.2.2.2.2) (if r.1 = 0 then vp_updL fo 0 (r.2.1).toInt64 else fo) fd ++ w_pool E (h 19) hp r.2.2.2.2.2.2.2.2.2.2.2.1 r.2.2.2.2.2.2.2.2.2.2.2.2.1 r.2.2.2.2.2.2.2.2.2.2.2.2.2) H locs := hW
  refine lv_iload hx hb dL_law_318 (lv_at hl 1 rfl) ?_
  refine lv_icmp_eq (tgt := 325) hx hb dL_law_320 (by decide) (fun _ => ?_) (fun z => absurd (hth.trans e6.symm) z)
  refine lv_iload hx hb dL_law_325 (lv_at hl 1 rfl) ?_
  have hend : ∀ (ls : Array Slot), lv_has ls 9 [(7, .int z7), (6, .int z6), (0, .ref b), (1, .ref (h 0)), (2, .ref (g 0)), (3, .ref o), (4, .ref od), (5, .int (nI i))] → W p l e room_1 s m #[.ref b] below meth c H locs (cells + 4) (slots + 24) Q (F0 m 342 ls []) := fun ls hl => by
    refine lv_goto (tgt := 2740) hx hb dL_law_342 (by decide) ?_
    exact kk _ _ _ ⟨_, _, _, _, _, _, _, _, _, hR1, hW⟩ (lv_sub hl [2, 3, 4, 5, 6, 7] rfl)
  refine lv_if_ne (tgt := 342) hx hb dL_law_327 (by decide) (fun _ => hend ls hl) (fun z9 => ?_)
  obtain ⟨hk0, hv⟩ := hans (e6.symm.trans z9)
  refine lv_aload_n hx hb dL_law_330 rfl (lv_at hl 5 rfl) ?_
  refine lv_iconst (v := 0) hx hb dL_law_331 (by decide) ?_
  refine va_lald hx hb hK hW.1 75 4 rfl rfl (by unfold vp_in; decide) dL_law_332 ?_
  refine lv_topl (fun z8 e8_ => ?_)
  have e9 : z8 = (r.2.1).toInt64 := by
    rw [e8_, if_pos hk0]; rfl
  refine lv_iload hx hb dL_law_333 (lv_at hl 0 rfl) ?_
  refine lv_i2l hx hb dL_law_335 rfl ?_
  refine W.lcmp hx hb dL_law_336 ?_
  refine lv_if_eq (tgt := 342) hx hb dL_law_337 (by decide) (fun _ => hend ls hl) (fun z => absurd ?_ z)
  rw [e9, hv, e7_]
  exact lg_cmp_self _
set_option maxHeartbeats 4000000 in
set_option maxRecDepth 100000 in
theorem k_2 {p : Program} {l : Launch} {e : Env} {s : State} {m : MethodId} {below : List Frame} {meth : Method} {c : Code} {D : va_G} {E : Nat → ClassId} {A : Nat → Prop} {b N i : Nat} {xs : Nat → Int32} {h g : Nat → Nat} {hp : Nat → Nat → Nat} {o od : Nat} {Q : State → Prop} {H : Heap} {locs : List Loc} {cells slots : Nat} {ls : Array Slot} (C : LCC p l s m c D E A b N xs) (hi : i + 4 ≤ N) (S : LSS D E A s h g hp o od H locs) (hl : lv_has ls 9 [(0, .ref b), (1, .ref (h 0)), (2, .ref (g 0)), (3, .ref o), (4, .ref od), (5, .int (nI i))]) (hc : cells + 4 ≤ room_1.cells ∧ slots + 24 ≤ room_1.slots) (kk : ∀ (H : Heap) (locs : List Loc) (ls : Array Slot), LSS D E A s h g hp o od H locs → lv_has ls 9 [(0, .ref b), (1, .ref (h 0)), (2, .ref (g 0)), (3, .ref o), (4, .ref od), (5, .int (nI i))] → W p l e room_1 s m #[.ref b] below meth c H locs (cells + 4) (slots + 24) Q (F0 m 2740 ls [])) : W p l e room_1 s m #[.ref b] below meth c H locs cells slots Q (F0 m 345 ls []) := by
  obtain ⟨hF, hlt, hK, hA, hZ, hN, hX, hbl, hbA, hN9⟩ := C
  obtain ⟨ss, aa, pl, po, pa, ms, ma, fo, fd, hR, hW⟩ := S
  obtain ⟨i0, i1, i2, i3⟩ := ix_ok hi hN9
  have hx := hF.1
  have hb := hF.2.1
  refine lv_aload_n hx hb dL_law_345 rfl (lv_at hl 1 rfl) ?_
  refine lv_aload_n hx hb dL_law_346 rfl (lv_at hl 3 rfl) ?_
  obtain ⟨r, e7, q, e8, hM, hR1⟩ := call_removeLink hR
  have hk : r.1 = 0 ∨ r.1 = 2 := by
    rcases hM with ⟨m1, m2, m3⟩ | ⟨m1, m2⟩
    · exact Or.inl m1
    · exact Or.inr (m1)
  have hth : q.2.2.2.1 = (if r.1 = 2 then 1 else 0) := by
    rcases hM with ⟨m1, m2, m3⟩ | ⟨m1, m2⟩
    · rw [m1, m2]; rfl
    · rw [m1, m2]; rfl
  have hans : ((if r.1 = 2 then 1 else 0) : Int32) = 0 → r.1 = 0 ∧ r.2.1 = q.1 := by
    intro z9
    rcases hM with ⟨m1, m2, m3⟩ | ⟨m1, m2⟩
    · exact ⟨m1, m3⟩
    · exact absurd z9 (by rw [m1]; decide)
  refine q_LWPm (pool_fst _ _ _ _ _ _ _ _ _) hF hl.1 hK hA hZ hN hW mW_removeLink ml_L_171 (v_removeLink l D E (h 0) o _ _ r.1 r.2.1 fo (c_X7_removeLink l hlt D E (h 0) (h 1) (h 2) (h 3) (h 4) (h 5) (h 6) (h 7) (h 8) (h 9) (h 10) (h 11) (h 12) (h 13) (h 14) (h 15) (h 16) (h 17) (h 18) (h 19) (h 20) (h 21) (h 22) (h 23) (h 24) (h 25) (h 26) (h 27) (h 28) hp (ss 0) (ss 1) (ss 10) (ss 11) (aa 1) (aa 2) (aa 3) (aa 4) (aa 5) (aa 6) (aa 0) (ss 12) (ss 13) (ss 2) (ss 3) (ss 4) (ss 5) (ss 6) (ss 7) (ss 8) (ss 9) pl po pa r.1 r.2.1 r.2.2.1 r.2.2.2.1 r.2.2.2.2.1 r.2.2.2.2.2.1 r.2.2.2.2.2.2.1 r.2.2.2.2.2.2.2.1 r.2.2.2.2.2.2.2.2.1 r.2.2.2.2.2.2.2.2.2 e7) rfl (by rw [List.map_append, List.map_append]; rfl) hk) [true, true, true, true, true, true, true, true, true, false, false, false, false, false, false, false, false, false, false, false, false, false, false, false, false, true, true, false, false, false, false, false, false, false, false, false, false, false, false, false, false, false, false, false, true] 75 (Nat.le_of_ble_eq_true rfl) rfl rfl (Nat.le_of_ble_eq_true rfl) rfl rfl ⟨Nat.le_of_ble_eq_true rfl, Nat.le_of_ble_eq_true rfl⟩ ⟨Nat.le_trans (Nat.add_le_add_left (Nat.le_of_ble_eq_true rfl) cells) hc.1, Nat.le_trans (Nat.add_le_add_left (Nat.le_of_ble_eq_true rfl) slots) hc.2⟩ rfl rfl (Nat.le_of_ble_eq_true rfl) dL_law_347 (fun H locs hW => ?_)
  refine W.widen (Nat.add_le_add_left (Nat.le_of_ble_eq_true rfl : 1 ≤ 4) cells) (Nat.add_le_add_left (Nat.le_of_ble_eq_true rfl : 6 ≤ 24) slots) ?_
  have hW : WD D A s (w_LAW E h g o od (va_up (va_up (va_up (va_up (va_up ss 10 r.2.2.1) 12 r.2.2.2.1) 13 r.2.2.2.2.1) 2 r.2.2.2.2.2.1) 6 r.2.2.2.2.2.2.1) aa ms ma (if r.1 = 0 then vp_updL fo 0 (r.2.1).toInt64 else fo) fd ++ w_pool E (h 19) hp r.2.2.2.2.2.2.2.1 r.2.2.2.2.2.2.2.2.1 r.2.2.2.2.2.2.2.2.2) H locs := hW
  refine lv_topi (fun z6 e6 => ?_)
  refine lv_istore (lv' := [(6, .int z6), (0, .ref b), (1, .ref (h 0)), (2, .ref (g 0)), (3, .ref o), (4, .ref od), (5, .int (nI i))]) hx hb dL_law_350 hl (by decide) rfl (fun ls hl => ?_)
  refine lv_aload_n hx hb dL_law_352 rfl (lv_at hl 3 rfl) ?_
  refine q_callIm hF hl.1 hK hA hZ hW mv_X8_removeLink ml_L_174 (c_X8_removeLink l D E TXL (g 0) (g 1) (g 2) (g 3) (g 4) (g 5) (g 6) (g 7) (g 8) (g 9) (g 10) (g 11) (g 12) (g 13) (g 14) (g 15) (g 16) (g 17) (g 18) (g 19) (ms 0) (ms 1) (ms 2) (ms 3) (ms 4) (ms 5) (ms 6) (ms 7) (ms 8) (ms 9) (ms 10) (ms 11) (ma 0) (ma 1) q.1 q.2.1 q.2.2.1 q.2.2.2.1 q.2.2.2.2.1 q.2.2.2.2.2 e8) [false, false, false, false, false, false, false, false, false, false, false, false, false, false, false, false, false, false, false, false, false, false, false, false, false, false, false, false, false, false, false, false, false, false, false, false, false, false, false, false, false, false, false, false, false, false, false, false, false, false, false, false, false, false, false, true, true, true] (Nat.le_of_ble_eq_true rfl) rfl rfl rfl rfl rfl ⟨Nat.le_of_ble_eq_true rfl, Nat.le_of_ble_eq_true rfl⟩ hc rfl rfl (Nat.le_of_ble_eq_true rfl) dL_law_353 (fun H locs hW => ?_)
  have hW : WD D A s (w_LAW E h g o od (va_up (va_up (va_up (va_up (va_up ss 10 r.2.2.1) 12 r.2.2.2.1) 13 r.2.2.2.2.1) 2 r.2.2.2.2.2.1) 6 r.2.2.2.2.2.2.1) aa (va_up (va_up (va_up ms 1 q.2.1) 2 q.2.2.1) 4 q.2.2.2.1) (va_up (va_up ma 0 q.2.2.2.2.1) 1 q.2.2.2.2.2) (if r.1 = 0 then vp_updL fo 0 (r.2.1).toInt64 else fo) fd ++ w_pool E (h 19) hp r.2.2.2.2.2.2.2.1 r.2.2.2.2.2.2.2.2.1 r.2.2.2.2.2.2.2.2.2) H locs := hW
  refine lv_topi (fun z7 e7_ => ?_)
  refine lv_istore (lv' := [(7, .int z7), (6, .int z6), (0, .ref b), (1, .ref (h 0)), (2, .ref (g 0)), (3, .ref o), (4, .ref od), (5, .int (nI i))]) hx hb dL_law_356 hl (by decide) rfl (fun ls hl => ?_)
  refine lv_aload_n hx hb dL_law_358 rfl (lv_at hl 4 rfl) ?_
  refine q_callIm hF hl.1 hK hA hZ hW mv_X8_thrown ml_L_168 (c_X8_thrown l D E TXL (g 0) (g 1) (g 2) (g 3) (g 4) (g 5) (g 6) (g 7) (g 8) (g 9) (g 10) (g 11) (g 12) (g 13) (g 14) (g 15) (g 16) (g 17) (g 18) (g 19) (ms 0) q.2.1 q.2.2.1 (ms 3) q.2.2.2.1 (ms 5) (ms 6) (ms 7) (ms 8) (ms 9) (ms 10) (ms 11) q.2.2.2.1 rfl) [false, false, false, false, false, false, false, false, false, false, false, false, false, false, false, false, false, false, false, false, false, false, false, false, false, false, false, false, false, false, false, false, false, false, false, false, false, false, false, false, false, false, false, false, false, false, false, false, false, false, false, false, false, false, false, true] (Nat.le_of_ble_eq_true rfl) rfl rfl rfl rfl rfl ⟨Nat.le_of_ble_eq_true rfl, Nat.le_of_ble_eq_true rfl⟩ hc rfl rfl (Nat.le_of_ble_eq_true rfl) dL_law_359 (fun H locs hW => ?_)
  have hW : WD D A s (w_LAW E h g o od (va_up (va_up (va_up (va_up (va_up ss 10 r.2.2.1) 12 r.2.2.2.1) 13 r.2.2.2.2.1) 2 r.2.2.2.2.2.1) 6 r.2.2.2.2.2.2.1) aa (va_up (va_up (va_up ms 1 q.2.1) 2 q.2.2.1) 4 q.2.2.2.1) (va_up (va_up ma 0 q.2.2.2.2.1) 1 q.2.2.2.2.2) (if r.1 = 0 then vp_updL fo 0 (r.2.1).toInt64 else fo) fd ++ w_pool E (h 19) hp r.2.2.2.2.2.2.2.1 r.2.2.2.2.2.2.2.2.1 r.2.2.2.2.2.2.2.2.2) H locs := hW
  refine lv_iload hx hb dL_law_362 (lv_at hl 1 rfl) ?_
  refine lv_icmp_eq (tgt := 369) hx hb dL_law_364 (by decide) (fun _ => ?_) (fun z => absurd (hth.trans e6.symm) z)
  refine lv_iload hx hb dL_law_369 (lv_at hl 1 rfl) ?_
  have hend : ∀ (ls : Array Slot), lv_has ls 9 [(7, .int z7), (6, .int z6), (0, .ref b), (1, .ref (h 0)), (2, .ref (g 0)), (3, .ref o), (4, .ref od), (5, .int (nI i))] → W p l e room_1 s m #[.ref b] below meth c H locs (cells + 4) (slots + 24) Q (F0 m 386 ls []) := fun ls hl => by
    refine lv_goto (tgt := 2740) hx hb dL_law_386 (by decide) ?_
    exact kk _ _ _ ⟨_, _, _, _, _, _, _, _, _, hR1, hW⟩ (lv_sub hl [2, 3, 4, 5, 6, 7] rfl)
  refine lv_if_ne (tgt := 386) hx hb dL_law_371 (by decide) (fun _ => hend ls hl) (fun z9 => ?_)
  obtain ⟨hk0, hv⟩ := hans (e6.symm.trans z9)
  refine lv_aload_n hx hb dL_law_374 rfl (lv_at hl 5 rfl) ?_
  refine lv_iconst (v := 0) hx hb dL_law_375 (by decide) ?_
  refine va_lald hx hb hK hW.1 75 4 rfl rfl (by unfold vp_in; decide) dL_law_376 ?_
  refine lv_topl (fun z8 e8_ => ?_)
  have e9 : z8 = (r.2.1).toInt64 := by
    rw [e8_, if_pos hk0]; rfl
  refine lv_iload hx hb dL_law_377 (lv_at hl 0 rfl) ?_
  refine lv_i2l hx hb dL_law_379 rfl ?_
  refine W.lcmp hx hb dL_law_380 ?_
  refine lv_if_eq (tgt := 386) hx hb dL_law_381 (by decide) (fun _ => hend ls hl) (fun z => absurd ?_ z)
  rw [e9, hv, e7_]
  exact lg_cmp_self _
set_option maxHeartbeats 4000000 in
set_option maxRecDepth 100000 in
theorem k_3 {p : Program} {l : Launch} {e : Env} {s : State} {m : MethodId} {below : List Frame} {meth : Method} {c : Code} {D : va_G} {E : Nat → ClassId} {A : Nat → Prop} {b N i : Nat} {xs : Nat → Int32} {h g : Nat → Nat} {hp : Nat → Nat → Nat} {o od : Nat} {Q : State → Prop} {H : Heap} {locs : List Loc} {cells slots : Nat} {ls : Array Slot} (C : LCC p l s m c D E A b N xs) (hi : i + 4 ≤ N) (S : LSS D E A s h g hp o od H locs) (hl : lv_has ls 9 [(0, .ref b), (1, .ref (h 0)), (2, .ref (g 0)), (3, .ref o), (4, .ref od), (5, .int (nI i))]) (hc : cells + 4 ≤ room_1.cells ∧ slots + 24 ≤ room_1.slots) (kk : ∀ (H : Heap) (locs : List Loc) (ls : Array Slot), LSS D E A s h g hp o od H locs → lv_has ls 9 [(0, .ref b), (1, .ref (h 0)), (2, .ref (g 0)), (3, .ref o), (4, .ref od), (5, .int (nI i))] → W p l e room_1 s m #[.ref b] below meth c H locs (cells + 4) (slots + 24) Q (F0 m 2740 ls [])) : W p l e room_1 s m #[.ref b] below meth c H locs cells slots Q (F0 m 389 ls []) := by
  obtain ⟨hF, hlt, hK, hA, hZ, hN, hX, hbl, hbA, hN9⟩ := C
  obtain ⟨ss, aa, pl, po, pa, ms, ma, fo, fd, hR, hW⟩ := S
  obtain ⟨i0, i1, i2, i3⟩ := ix_ok hi hN9
  have hx := hF.1
  have hb := hF.2.1
  refine lv_aload_n hx hb dL_law_389 rfl (lv_at hl 1 rfl) ?_
  refine lv_aload_n hx hb dL_law_390 rfl (lv_at hl 0 rfl) ?_
  refine lv_iload hx hb dL_law_391 (lv_at hl 5 rfl) ?_
  refine lv_iconst (v := 1) hx hb dL_law_393 (by decide) ?_
  refine lv_iadd hx hb dL_law_394 ?_
  refine va_sld hx hb hX hbl hbA hW.2.2 i1 dL_law_395 ?_
  refine lv_topi (fun x1 ex1 => ?_)
  refine lv_aload_n hx hb dL_law_396 rfl (lv_at hl 0 rfl) ?_
  refine lv_iload hx hb dL_law_397 (lv_at hl 5 rfl) ?_
  refine lv_iconst (v := 2) hx hb dL_law_399 (by decide) ?_
  refine lv_iadd hx hb dL_law_400 ?_
  refine va_sld hx hb hX hbl hbA hW.2.2 i2 dL_law_401 ?_
  refine lv_topi (fun x2 ex2 => ?_)
  refine lv_aload_n hx hb dL_law_402 rfl (lv_at hl 0 rfl) ?_
  refine lv_iload hx hb dL_law_403 (lv_at hl 5 rfl) ?_
  refine lv_iconst (v := 3) hx hb dL_law_405 (by decide) ?_
  refine lv_iadd hx hb dL_law_406 ?_
  refine va_sld hx hb hX hbl hbA hW.2.2 i3 dL_law_407 ?_
  refine lv_topi (fun x3 ex3 => ?_)
  refine lv_aload_n hx hb dL_law_408 rfl (lv_at hl 3 rfl) ?_
  obtain ⟨r, e7, q, e8, hM, hR1⟩ := call_setLimits hR x1 x2 x3
  have hk : r.1 = 0 ∨ r.1 = 3 ∨ r.1 = 1 := by
    rcases hM with ⟨m1, m2, m3⟩ | ⟨m1, m2⟩ | ⟨m1, m2⟩
    · exact Or.inl m1
    · exact Or.inr (Or.inl m1)
    · exact Or.inr (Or.inr (m1))
  have hth : q.2.2.2.1 = (if r.1 = 3 then 1 else (if r.1 = 1 then 2 else 0)) := by
    rcases hM with ⟨m1, m2, m3⟩ | ⟨m1, m2⟩ | ⟨m1, m2⟩
    · rw [m1, m2]; rfl
    · rw [m1, m2]; rfl
    · rw [m1, m2]; rfl
  have hans : ((if r.1 = 3 then 1 else (if r.1 = 1 then 2 else 0)) : Int32) = 0 → r.1 = 0 ∧ r.2.1 = q.1 := by
    intro z9
    rcases hM with ⟨m1, m2, m3⟩ | ⟨m1, m2⟩ | ⟨m1, m2⟩
    · exact ⟨m1, m3⟩
    · exact absurd z9 (by rw [m1]; decide)
    · exact absurd z9 (by rw [m1]; decide)
  refine q_LWPm (pool_fst _ _ _ _ _ _ _ _ _) hF hl.1 hK hA hZ hN hW mW_setLimits ml_L_175 (v_setLimits l D E (h 0) o x1 x2 x3 _ _ r.1 r.2.1 fo (c_X7_setLimits l hlt D E (h 0) (h 1) (h 2) (h 3) (h 4) (h 5) (h 6) (h 7) (h 8) (h 9) (h 10) (h 11) (h 12) (h 13) (h 14) (h 15) (h 16) (h 17) (h 18) (h 19) (h 20) (h 21) (h 22) (h 23) (h 24) (h 25) (h 26) (h 27) (h 28) hp (ss 0) (ss 1) (ss 10) (ss 11) (aa 1) (aa 2) (aa 3) (aa 4) (aa 5) (aa 6) (aa 0) (ss 12) (ss 13) (ss 2) (ss 3) (ss 4) (ss 5) (ss 6) (ss 7) (ss 8) (ss 9) pl po pa x1 x2 x3 r.1 r.2.1 r.2.2.1 r.2.2.2.1 r.2.2.2.2.1 r.2.2.2.2.2.1 r.2.2.2.2.2.2.1 r.2.2.2.2.2.2.2.1 r.2.2.2.2.2.2.2.2.1 r.2.2.2.2.2.2.2.2.2.1 r.2.2.2.2.2.2.2.2.2.2.1 r.2.2.2.2.2.2.2.2.2.2.2 e7) rfl (by rw [List.map_append, List.map_append]; rfl) hk) [true, true, true, true, true, true, true, true, true, false, false, false, false, false, false, false, false, false, false, false, false, false, false, false, false, true, true, false, false, false, false, false, false, false, false, false, false, false, false, false, false, false, false, false, true] 75 (Nat.le_of_ble_eq_true rfl) rfl rfl (Nat.le_of_ble_eq_true rfl) rfl rfl ⟨Nat.le_of_ble_eq_true rfl, Nat.le_of_ble_eq_true rfl⟩ ⟨Nat.le_trans (Nat.add_le_add_left (Nat.le_of_ble_eq_true rfl) cells) hc.1, Nat.le_trans (Nat.add_le_add_left (Nat.le_of_ble_eq_true rfl) slots) hc.2⟩ rfl rfl (Nat.le_of_ble_eq_true rfl) dL_law_409 (fun H locs hW => ?_)
  refine W.widen (Nat.add_le_add_left (Nat.le_of_ble_eq_true rfl : 1 ≤ 4) cells) (Nat.add_le_add_left (Nat.le_of_ble_eq_true rfl : 6 ≤ 24) slots) ?_
  have hW : WD D A s (w_LAW E h g o od (va_up (va_up (va_up (va_up ss 12 r.2.2.2.2.2.1) 13 r.2.2.2.2.2.2.1) 2 r.2.2.2.2.2.2.2.1) 6 r.2.2.2.2.2.2.2.2.1) (va_up (va_up (va_up aa 2 r.2.2.1) 3 r.2.2.2.1) 4 r.2.2.2.2.1) ms ma (if r.1 = 0 then vp_updL fo 0 (r.2.1).toInt64 else fo) fd ++ w_pool E (h 19) hp r.2.2.2.2.2.2.2.2.2.1 r.2.2.2.2.2.2.2.2.2.2.1 r.2.2.2.2.2.2.2.2.2.2.2) H locs := hW
  refine lv_topi (fun z6 e6 => ?_)
  refine lv_istore (lv' := [(6, .int z6), (0, .ref b), (1, .ref (h 0)), (2, .ref (g 0)), (3, .ref o), (4, .ref od), (5, .int (nI i))]) hx hb dL_law_412 hl (by decide) rfl (fun ls hl => ?_)
  refine lv_aload_n hx hb dL_law_414 rfl (lv_at hl 3 rfl) ?_
  refine lv_aload_n hx hb dL_law_415 rfl (lv_at hl 1 rfl) ?_
  refine lv_iload hx hb dL_law_416 (lv_at hl 6 rfl) ?_
  refine lv_iconst (v := 1) hx hb dL_law_418 (by decide) ?_
  refine lv_iadd hx hb dL_law_419 ?_
  refine va_sld hx hb hX hbl hbA hW.2.2 i1 dL_law_420 ?_
  refine lv_topi (fun y1 ey1 => ?_)
  obtain rfl : x1 = y1 := ex1.trans ey1.symm
  refine lv_aload_n hx hb dL_law_421 rfl (lv_at hl 1 rfl) ?_
  refine lv_iload hx hb dL_law_422 (lv_at hl 6 rfl) ?_
  refine lv_iconst (v := 2) hx hb dL_law_424 (by decide) ?_
  refine lv_iadd hx hb dL_law_425 ?_
  refine va_sld hx hb hX hbl hbA hW.2.2 i2 dL_law_426 ?_
  refine lv_topi (fun y2 ey2 => ?_)
  obtain rfl : x2 = y2 := ex2.trans ey2.symm
  refine lv_aload_n hx hb dL_law_427 rfl (lv_at hl 1 rfl) ?_
  refine lv_iload hx hb dL_law_428 (lv_at hl 6 rfl) ?_
  refine lv_iconst (v := 3) hx hb dL_law_430 (by decide) ?_
  refine lv_iadd hx hb dL_law_431 ?_
  refine va_sld hx hb hX hbl hbA hW.2.2 i3 dL_law_432 ?_
  refine lv_topi (fun y3 ey3 => ?_)
  obtain rfl : x3 = y3 := ex3.trans ey3.symm
  refine q_callIm hF hl.1 hK hA hZ hW mv_X8_setLimits ml_L_177 (c_X8_setLimits l D E TXL (g 0) (g 1) (g 2) (g 3) (g 4) (g 5) (g 6) (g 7) (g 8) (g 9) (g 10) (g 11) (g 12) (g 13) (g 14) (g 15) (g 16) (g 17) (g 18) (g 19) (ms 0) (ms 1) (ms 2) (ms 3) (ms 4) (ms 5) (ms 6) (ms 7) (ms 8) (ms 9) (ms 10) (ms 11) (ma 0) (ma 1) x1 x2 x3 q.1 q.2.1 q.2.2.1 q.2.2.2.1 q.2.2.2.2.1 q.2.2.2.2.2 e8) [false, false, false, false, false, false, false, false, false, false, false, false, false, false, false, false, false, false, false, false, false, false, false, false, false, false, false, false, false, false, false, false, false, false, false, false, false, false, false, false, false, false, false, false, false, false, false, false, false, false, false, false, false, false, false, true, true, true] (Nat.le_of_ble_eq_true rfl) rfl rfl rfl rfl rfl ⟨Nat.le_of_ble_eq_true rfl, Nat.le_of_ble_eq_true rfl⟩ hc rfl rfl (Nat.le_of_ble_eq_true rfl) dL_law_433 (fun H locs hW => ?_)
  have hW : WD D A s (w_LAW E h g o od (va_up (va_up (va_up (va_up ss 12 r.2.2.2.2.2.1) 13 r.2.2.2.2.2.2.1) 2 r.2.2.2.2.2.2.2.1) 6 r.2.2.2.2.2.2.2.2.1) (va_up (va_up (va_up aa 2 r.2.2.1) 3 r.2.2.2.1) 4 r.2.2.2.2.1) (va_up (va_up (va_up ms 1 q.2.1) 2 q.2.2.1) 4 q.2.2.2.1) (va_up (va_up ma 0 q.2.2.2.2.1) 1 q.2.2.2.2.2) (if r.1 = 0 then vp_updL fo 0 (r.2.1).toInt64 else fo) fd ++ w_pool E (h 19) hp r.2.2.2.2.2.2.2.2.2.1 r.2.2.2.2.2.2.2.2.2.2.1 r.2.2.2.2.2.2.2.2.2.2.2) H locs := hW
  refine lv_topi (fun z7 e7_ => ?_)
  refine lv_istore (lv' := [(7, .int z7), (6, .int z6), (0, .ref b), (1, .ref (h 0)), (2, .ref (g 0)), (3, .ref o), (4, .ref od), (5, .int (nI i))]) hx hb dL_law_436 hl (by decide) rfl (fun ls hl => ?_)
  refine lv_aload_n hx hb dL_law_438 rfl (lv_at hl 4 rfl) ?_
  refine q_callIm hF hl.1 hK hA hZ hW mv_X8_thrown ml_L_168 (c_X8_thrown l D E TXL (g 0) (g 1) (g 2) (g 3) (g 4) (g 5) (g 6) (g 7) (g 8) (g 9) (g 10) (g 11) (g 12) (g 13) (g 14) (g 15) (g 16) (g 17) (g 18) (g 19) (ms 0) q.2.1 q.2.2.1 (ms 3) q.2.2.2.1 (ms 5) (ms 6) (ms 7) (ms 8) (ms 9) (ms 10) (ms 11) q.2.2.2.1 rfl) [false, false, false, false, false, false, false, false, false, false, false, false, false, false, false, false, false, false, false, false, false, false, false, false, false, false, false, false, false, false, false, false, false, false, false, false, false, false, false, false, false, false, false, false, false, false, false, false, false, false, false, false, false, false, false, true] (Nat.le_of_ble_eq_true rfl) rfl rfl rfl rfl rfl ⟨Nat.le_of_ble_eq_true rfl, Nat.le_of_ble_eq_true rfl⟩ hc rfl rfl (Nat.le_of_ble_eq_true rfl) dL_law_439 (fun H locs hW => ?_)
  have hW : WD D A s (w_LAW E h g o od (va_up (va_up (va_up (va_up ss 12 r.2.2.2.2.2.1) 13 r.2.2.2.2.2.2.1) 2 r.2.2.2.2.2.2.2.1) 6 r.2.2.2.2.2.2.2.2.1) (va_up (va_up (va_up aa 2 r.2.2.1) 3 r.2.2.2.1) 4 r.2.2.2.2.1) (va_up (va_up (va_up ms 1 q.2.1) 2 q.2.2.1) 4 q.2.2.2.1) (va_up (va_up ma 0 q.2.2.2.2.1) 1 q.2.2.2.2.2) (if r.1 = 0 then vp_updL fo 0 (r.2.1).toInt64 else fo) fd ++ w_pool E (h 19) hp r.2.2.2.2.2.2.2.2.2.1 r.2.2.2.2.2.2.2.2.2.2.1 r.2.2.2.2.2.2.2.2.2.2.2) H locs := hW
  refine lv_iload hx hb dL_law_442 (lv_at hl 1 rfl) ?_
  refine lv_icmp_eq (tgt := 449) hx hb dL_law_444 (by decide) (fun _ => ?_) (fun z => absurd (hth.trans e6.symm) z)
  refine lv_iload hx hb dL_law_449 (lv_at hl 1 rfl) ?_
  have hend : ∀ (ls : Array Slot), lv_has ls 9 [(7, .int z7), (6, .int z6), (0, .ref b), (1, .ref (h 0)), (2, .ref (g 0)), (3, .ref o), (4, .ref od), (5, .int (nI i))] → W p l e room_1 s m #[.ref b] below meth c H locs (cells + 4) (slots + 24) Q (F0 m 466 ls []) := fun ls hl => by
    refine lv_goto (tgt := 2740) hx hb dL_law_466 (by decide) ?_
    exact kk _ _ _ ⟨_, _, _, _, _, _, _, _, _, hR1, hW⟩ (lv_sub hl [2, 3, 4, 5, 6, 7] rfl)
  refine lv_if_ne (tgt := 466) hx hb dL_law_451 (by decide) (fun _ => hend ls hl) (fun z9 => ?_)
  obtain ⟨hk0, hv⟩ := hans (e6.symm.trans z9)
  refine lv_aload_n hx hb dL_law_454 rfl (lv_at hl 5 rfl) ?_
  refine lv_iconst (v := 0) hx hb dL_law_455 (by decide) ?_
  refine va_lald hx hb hK hW.1 75 4 rfl rfl (by unfold vp_in; decide) dL_law_456 ?_
  refine lv_topl (fun z8 e8_ => ?_)
  have e9 : z8 = (r.2.1).toInt64 := by
    rw [e8_, if_pos hk0]; rfl
  refine lv_iload hx hb dL_law_457 (lv_at hl 0 rfl) ?_
  refine lv_i2l hx hb dL_law_459 rfl ?_
  refine W.lcmp hx hb dL_law_460 ?_
  refine lv_if_eq (tgt := 466) hx hb dL_law_461 (by decide) (fun _ => hend ls hl) (fun z => absurd ?_ z)
  rw [e9, hv, e7_]
  exact lg_cmp_self _
set_option maxHeartbeats 4000000 in
set_option maxRecDepth 100000 in
theorem k_4 {p : Program} {l : Launch} {e : Env} {s : State} {m : MethodId} {below : List Frame} {meth : Method} {c : Code} {D : va_G} {E : Nat → ClassId} {A : Nat → Prop} {b N i : Nat} {xs : Nat → Int32} {h g : Nat → Nat} {hp : Nat → Nat → Nat} {o od : Nat} {Q : State → Prop} {H : Heap} {locs : List Loc} {cells slots : Nat} {ls : Array Slot} (C : LCC p l s m c D E A b N xs) (hi : i + 4 ≤ N) (S : LSS D E A s h g hp o od H locs) (hl : lv_has ls 9 [(0, .ref b), (1, .ref (h 0)), (2, .ref (g 0)), (3, .ref o), (4, .ref od), (5, .int (nI i))]) (hc : cells + 4 ≤ room_1.cells ∧ slots + 24 ≤ room_1.slots) (kk : ∀ (H : Heap) (locs : List Loc) (ls : Array Slot), LSS D E A s h g hp o od H locs → lv_has ls 9 [(0, .ref b), (1, .ref (h 0)), (2, .ref (g 0)), (3, .ref o), (4, .ref od), (5, .int (nI i))] → W p l e room_1 s m #[.ref b] below meth c H locs (cells + 4) (slots + 24) Q (F0 m 2740 ls [])) : W p l e room_1 s m #[.ref b] below meth c H locs cells slots Q (F0 m 469 ls []) := by
  obtain ⟨hF, hlt, hK, hA, hZ, hN, hX, hbl, hbA, hN9⟩ := C
  obtain ⟨ss, aa, pl, po, pa, ms, ma, fo, fd, hR, hW⟩ := S
  obtain ⟨i0, i1, i2, i3⟩ := ix_ok hi hN9
  have hx := hF.1
  have hb := hF.2.1
  refine lv_aload_n hx hb dL_law_469 rfl (lv_at hl 1 rfl) ?_
  refine lv_aload_n hx hb dL_law_470 rfl (lv_at hl 0 rfl) ?_
  refine lv_iload hx hb dL_law_471 (lv_at hl 5 rfl) ?_
  refine lv_iconst (v := 1) hx hb dL_law_473 (by decide) ?_
  refine lv_iadd hx hb dL_law_474 ?_
  refine va_sld hx hb hX hbl hbA hW.2.2 i1 dL_law_475 ?_
  refine lv_topi (fun x1 ex1 => ?_)
  refine lv_aload_n hx hb dL_law_476 rfl (lv_at hl 0 rfl) ?_
  refine lv_iload hx hb dL_law_477 (lv_at hl 5 rfl) ?_
  refine lv_iconst (v := 2) hx hb dL_law_479 (by decide) ?_
  refine lv_iadd hx hb dL_law_480 ?_
  refine va_sld hx hb hX hbl hbA hW.2.2 i2 dL_law_481 ?_
  refine lv_topi (fun x2 ex2 => ?_)
  refine lv_aload_n hx hb dL_law_482 rfl (lv_at hl 3 rfl) ?_
  obtain ⟨r, e7, q, e8, hM, hR1⟩ := call_addObstacle hR x1 x2
  have hk : r.1 = 0 ∨ r.1 = 3 ∨ r.1 = 1 ∨ r.1 = 2 := by
    rcases hM with ⟨m1, m2, m3⟩ | ⟨m1, m2⟩ | ⟨m1, m2⟩ | ⟨m1, m2⟩
    · exact Or.inl m1
    · exact Or.inr (Or.inl m1)
    · exact Or.inr (Or.inr (Or.inl m1))
    · exact Or.inr (Or.inr (Or.inr (m1)))
  have hth : q.2.2.2.1 = (if r.1 = 3 then 1 else (if r.1 = 1 then 2 else (if r.1 = 2 then 3 else 0))) := by
    rcases hM with ⟨m1, m2, m3⟩ | ⟨m1, m2⟩ | ⟨m1, m2⟩ | ⟨m1, m2⟩
    · rw [m1, m2]; rfl
    · rw [m1, m2]; rfl
    · rw [m1, m2]; rfl
    · rw [m1, m2]; rfl
  have hans : ((if r.1 = 3 then 1 else (if r.1 = 1 then 2 else (if r.1 = 2 then 3 else 0))) : Int32) = 0 → r.1 = 0 ∧ r.2.1 = q.1 := by
    intro z9
    rcases hM with ⟨m1, m2, m3⟩ | ⟨m1, m2⟩ | ⟨m1, m2⟩ | ⟨m1, m2⟩
    · exact ⟨m1, m3⟩
    · exact absurd z9 (by rw [m1]; decide)
    · exact absurd z9 (by rw [m1]; decide)
    · exact absurd z9 (by rw [m1]; decide)
  refine q_LWPm (pool_fst _ _ _ _ _ _ _ _ _) hF hl.1 hK hA hZ hN hW mW_addObstacle ml_L_178 (v_addObstacle l D E (h 0) o x1 x2 _ _ r.1 r.2.1 fo (c_X7_addObstacle l hlt D E (h 0) (h 1) (h 2) (h 3) (h 4) (h 5) (h 6) (h 7) (h 8) (h 9) (h 10) (h 11) (h 12) (h 13) (h 14) (h 15) (h 16) (h 17) (h 18) (h 19) (h 20) (h 21) (h 22) (h 23) (h 24) (h 25) (h 26) (h 27) (h 28) hp (ss 0) (ss 1) (ss 10) (ss 11) (aa 1) (aa 2) (aa 3) (aa 4) (aa 5) (aa 6) (aa 0) (ss 12) (ss 13) (ss 2) (ss 3) (ss 4) (ss 5) (ss 6) (ss 7) (ss 8) (ss 9) pl po pa x1 x2 r.1 r.2.1 r.2.2.1 r.2.2.2.1 r.2.2.2.2.1 r.2.2.2.2.2.1 r.2.2.2.2.2.2.1 r.2.2.2.2.2.2.2.1 r.2.2.2.2.2.2.2.2.1 r.2.2.2.2.2.2.2.2.2.1 r.2.2.2.2.2.2.2.2.2.2.1 r.2.2.2.2.2.2.2.2.2.2.2.1 r.2.2.2.2.2.2.2.2.2.2.2.2 e7) rfl (by rw [List.map_append, List.map_append]; rfl) hk) [true, true, true, true, true, true, true, true, true, false, false, false, false, false, false, false, false, false, false, false, false, false, false, false, false, true, true, false, false, false, false, false, false, false, false, false, false, false, false, false, false, false, false, false, true] 75 (Nat.le_of_ble_eq_true rfl) rfl rfl (Nat.le_of_ble_eq_true rfl) rfl rfl ⟨Nat.le_of_ble_eq_true rfl, Nat.le_of_ble_eq_true rfl⟩ ⟨Nat.le_trans (Nat.add_le_add_left (Nat.le_of_ble_eq_true rfl) cells) hc.1, Nat.le_trans (Nat.add_le_add_left (Nat.le_of_ble_eq_true rfl) slots) hc.2⟩ rfl rfl (Nat.le_of_ble_eq_true rfl) dL_law_483 (fun H locs hW => ?_)
  refine W.widen (Nat.add_le_add_left (Nat.le_of_ble_eq_true rfl : 2 ≤ 4) cells) (Nat.add_le_add_left (Nat.le_of_ble_eq_true rfl : 12 ≤ 24) slots) ?_
  have hW : WD D A s (w_LAW E h g o od (va_up (va_up (va_up (va_up (va_up ss 11 r.2.2.1) 12 r.2.2.2.2.2.2.1) 13 r.2.2.2.2.2.2.2.1) 2 r.2.2.2.2.2.2.2.2.1) 6 r.2.2.2.2.2.2.2.2.2.1) (va_up (va_up (va_up aa 5 r.2.2.2.1) 6 r.2.2.2.2.1) 0 r.2.2.2.2.2.1) ms ma (if r.1 = 0 then vp_updL fo 0 (r.2.1).toInt64 else fo) fd ++ w_pool E (h 19) hp r.2.2.2.2.2.2.2.2.2.2.1 r.2.2.2.2.2.2.2.2.2.2.2.1 r.2.2.2.2.2.2.2.2.2.2.2.2) H locs := hW
  refine lv_topi (fun z6 e6 => ?_)
  refine lv_istore (lv' := [(6, .int z6), (0, .ref b), (1, .ref (h 0)), (2, .ref (g 0)), (3, .ref o), (4, .ref od), (5, .int (nI i))]) hx hb dL_law_486 hl (by decide) rfl (fun ls hl => ?_)
  refine lv_aload_n hx hb dL_law_488 rfl (lv_at hl 3 rfl) ?_
  refine lv_aload_n hx hb dL_law_489 rfl (lv_at hl 1 rfl) ?_
  refine lv_iload hx hb dL_law_490 (lv_at hl 6 rfl) ?_
  refine lv_iconst (v := 1) hx hb dL_law_492 (by decide) ?_
  refine lv_iadd hx hb dL_law_493 ?_
  refine va_sld hx hb hX hbl hbA hW.2.2 i1 dL_law_494 ?_
  refine lv_topi (fun y1 ey1 => ?_)
  obtain rfl : x1 = y1 := ex1.trans ey1.symm
  refine lv_aload_n hx hb dL_law_495 rfl (lv_at hl 1 rfl) ?_
  refine lv_iload hx hb dL_law_496 (lv_at hl 6 rfl) ?_
  refine lv_iconst (v := 2) hx hb dL_law_498 (by decide) ?_
  refine lv_iadd hx hb dL_law_499 ?_
  refine va_sld hx hb hX hbl hbA hW.2.2 i2 dL_law_500 ?_
  refine lv_topi (fun y2 ey2 => ?_)
  obtain rfl : x2 = y2 := ex2.trans ey2.symm
  refine q_callIm hF hl.1 hK hA hZ hW mv_X8_addObstacle ml_L_181 (c_X8_addObstacle l D E TXL (g 0) (g 1) (g 2) (g 3) (g 4) (g 5) (g 6) (g 7) (g 8) (g 9) (g 10) (g 11) (g 12) (g 13) (g 14) (g 15) (g 16) (g 17) (g 18) (g 19) (ms 0) (ms 1) (ms 2) (ms 3) (ms 4) (ms 5) (ms 6) (ms 7) (ms 8) (ms 9) (ms 10) (ms 11) (ma 0) (ma 1) x1 x2 q.1 q.2.1 q.2.2.1 q.2.2.2.1 q.2.2.2.2.1 q.2.2.2.2.2 e8) [false, false, false, false, false, false, false, false, false, false, false, false, false, false, false, false, false, false, false, false, false, false, false, false, false, false, false, false, false, false, false, false, false, false, false, false, false, false, false, false, false, false, false, false, false, false, false, false, false, false, false, false, false, false, false, true, true, true] (Nat.le_of_ble_eq_true rfl) rfl rfl rfl rfl rfl ⟨Nat.le_of_ble_eq_true rfl, Nat.le_of_ble_eq_true rfl⟩ hc rfl rfl (Nat.le_of_ble_eq_true rfl) dL_law_501 (fun H locs hW => ?_)
  have hW : WD D A s (w_LAW E h g o od (va_up (va_up (va_up (va_up (va_up ss 11 r.2.2.1) 12 r.2.2.2.2.2.2.1) 13 r.2.2.2.2.2.2.2.1) 2 r.2.2.2.2.2.2.2.2.1) 6 r.2.2.2.2.2.2.2.2.2.1) (va_up (va_up (va_up aa 5 r.2.2.2.1) 6 r.2.2.2.2.1) 0 r.2.2.2.2.2.1) (va_up (va_up (va_up ms 1 q.2.1) 2 q.2.2.1) 4 q.2.2.2.1) (va_up (va_up ma 0 q.2.2.2.2.1) 1 q.2.2.2.2.2) (if r.1 = 0 then vp_updL fo 0 (r.2.1).toInt64 else fo) fd ++ w_pool E (h 19) hp r.2.2.2.2.2.2.2.2.2.2.1 r.2.2.2.2.2.2.2.2.2.2.2.1 r.2.2.2.2.2.2.2.2.2.2.2.2) H locs := hW
  refine lv_topi (fun z7 e7_ => ?_)
  refine lv_istore (lv' := [(7, .int z7), (6, .int z6), (0, .ref b), (1, .ref (h 0)), (2, .ref (g 0)), (3, .ref o), (4, .ref od), (5, .int (nI i))]) hx hb dL_law_504 hl (by decide) rfl (fun ls hl => ?_)
  refine lv_aload_n hx hb dL_law_506 rfl (lv_at hl 4 rfl) ?_
  refine q_callIm hF hl.1 hK hA hZ hW mv_X8_thrown ml_L_168 (c_X8_thrown l D E TXL (g 0) (g 1) (g 2) (g 3) (g 4) (g 5) (g 6) (g 7) (g 8) (g 9) (g 10) (g 11) (g 12) (g 13) (g 14) (g 15) (g 16) (g 17) (g 18) (g 19) (ms 0) q.2.1 q.2.2.1 (ms 3) q.2.2.2.1 (ms 5) (ms 6) (ms 7) (ms 8) (ms 9) (ms 10) (ms 11) q.2.2.2.1 rfl) [false, false, false, false, false, false, false, false, false, false, false, false, false, false, false, false, false, false, false, false, false, false, false, false, false, false, false, false, false, false, false, false, false, false, false, false, false, false, false, false, false, false, false, false, false, false, false, false, false, false, false, false, false, false, false, true] (Nat.le_of_ble_eq_true rfl) rfl rfl rfl rfl rfl ⟨Nat.le_of_ble_eq_true rfl, Nat.le_of_ble_eq_true rfl⟩ hc rfl rfl (Nat.le_of_ble_eq_true rfl) dL_law_507 (fun H locs hW => ?_)
  have hW : WD D A s (w_LAW E h g o od (va_up (va_up (va_up (va_up (va_up ss 11 r.2.2.1) 12 r.2.2.2.2.2.2.1) 13 r.2.2.2.2.2.2.2.1) 2 r.2.2.2.2.2.2.2.2.1) 6 r.2.2.2.2.2.2.2.2.2.1) (va_up (va_up (va_up aa 5 r.2.2.2.1) 6 r.2.2.2.2.1) 0 r.2.2.2.2.2.1) (va_up (va_up (va_up ms 1 q.2.1) 2 q.2.2.1) 4 q.2.2.2.1) (va_up (va_up ma 0 q.2.2.2.2.1) 1 q.2.2.2.2.2) (if r.1 = 0 then vp_updL fo 0 (r.2.1).toInt64 else fo) fd ++ w_pool E (h 19) hp r.2.2.2.2.2.2.2.2.2.2.1 r.2.2.2.2.2.2.2.2.2.2.2.1 r.2.2.2.2.2.2.2.2.2.2.2.2) H locs := hW
  refine lv_iload hx hb dL_law_510 (lv_at hl 1 rfl) ?_
  refine lv_icmp_eq (tgt := 517) hx hb dL_law_512 (by decide) (fun _ => ?_) (fun z => absurd (hth.trans e6.symm) z)
  refine lv_iload hx hb dL_law_517 (lv_at hl 1 rfl) ?_
  have hend : ∀ (ls : Array Slot), lv_has ls 9 [(7, .int z7), (6, .int z6), (0, .ref b), (1, .ref (h 0)), (2, .ref (g 0)), (3, .ref o), (4, .ref od), (5, .int (nI i))] → W p l e room_1 s m #[.ref b] below meth c H locs (cells + 4) (slots + 24) Q (F0 m 534 ls []) := fun ls hl => by
    refine lv_goto (tgt := 2740) hx hb dL_law_534 (by decide) ?_
    exact kk _ _ _ ⟨_, _, _, _, _, _, _, _, _, hR1, hW⟩ (lv_sub hl [2, 3, 4, 5, 6, 7] rfl)
  refine lv_if_ne (tgt := 534) hx hb dL_law_519 (by decide) (fun _ => hend ls hl) (fun z9 => ?_)
  obtain ⟨hk0, hv⟩ := hans (e6.symm.trans z9)
  refine lv_aload_n hx hb dL_law_522 rfl (lv_at hl 5 rfl) ?_
  refine lv_iconst (v := 0) hx hb dL_law_523 (by decide) ?_
  refine va_lald hx hb hK hW.1 75 4 rfl rfl (by unfold vp_in; decide) dL_law_524 ?_
  refine lv_topl (fun z8 e8_ => ?_)
  have e9 : z8 = (r.2.1).toInt64 := by
    rw [e8_, if_pos hk0]; rfl
  refine lv_iload hx hb dL_law_525 (lv_at hl 0 rfl) ?_
  refine lv_i2l hx hb dL_law_527 rfl ?_
  refine W.lcmp hx hb dL_law_528 ?_
  refine lv_if_eq (tgt := 534) hx hb dL_law_529 (by decide) (fun _ => hend ls hl) (fun z => absurd ?_ z)
  rw [e9, hv, e7_]
  exact lg_cmp_self _
set_option maxHeartbeats 4000000 in
set_option maxRecDepth 100000 in
theorem k_5 {p : Program} {l : Launch} {e : Env} {s : State} {m : MethodId} {below : List Frame} {meth : Method} {c : Code} {D : va_G} {E : Nat → ClassId} {A : Nat → Prop} {b N i : Nat} {xs : Nat → Int32} {h g : Nat → Nat} {hp : Nat → Nat → Nat} {o od : Nat} {Q : State → Prop} {H : Heap} {locs : List Loc} {cells slots : Nat} {ls : Array Slot} (C : LCC p l s m c D E A b N xs) (hi : i + 4 ≤ N) (S : LSS D E A s h g hp o od H locs) (hl : lv_has ls 9 [(0, .ref b), (1, .ref (h 0)), (2, .ref (g 0)), (3, .ref o), (4, .ref od), (5, .int (nI i))]) (hc : cells + 4 ≤ room_1.cells ∧ slots + 24 ≤ room_1.slots) (kk : ∀ (H : Heap) (locs : List Loc) (ls : Array Slot), LSS D E A s h g hp o od H locs → lv_has ls 9 [(0, .ref b), (1, .ref (h 0)), (2, .ref (g 0)), (3, .ref o), (4, .ref od), (5, .int (nI i))] → W p l e room_1 s m #[.ref b] below meth c H locs (cells + 4) (slots + 24) Q (F0 m 2740 ls [])) : W p l e room_1 s m #[.ref b] below meth c H locs cells slots Q (F0 m 537 ls []) := by
  obtain ⟨hF, hlt, hK, hA, hZ, hN, hX, hbl, hbA, hN9⟩ := C
  obtain ⟨ss, aa, pl, po, pa, ms, ma, fo, fd, hR, hW⟩ := S
  obtain ⟨i0, i1, i2, i3⟩ := ix_ok hi hN9
  have hx := hF.1
  have hb := hF.2.1
  refine lv_aload_n hx hb dL_law_537 rfl (lv_at hl 1 rfl) ?_
  refine lv_aload_n hx hb dL_law_538 rfl (lv_at hl 0 rfl) ?_
  refine lv_iload hx hb dL_law_539 (lv_at hl 5 rfl) ?_
  refine lv_iconst (v := 1) hx hb dL_law_541 (by decide) ?_
  refine lv_iadd hx hb dL_law_542 ?_
  refine va_sld hx hb hX hbl hbA hW.2.2 i1 dL_law_543 ?_
  refine lv_topi (fun x1 ex1 => ?_)
  refine lv_aload_n hx hb dL_law_544 rfl (lv_at hl 0 rfl) ?_
  refine lv_iload hx hb dL_law_545 (lv_at hl 5 rfl) ?_
  refine lv_iconst (v := 2) hx hb dL_law_547 (by decide) ?_
  refine lv_iadd hx hb dL_law_548 ?_
  refine va_sld hx hb hX hbl hbA hW.2.2 i2 dL_law_549 ?_
  refine lv_topi (fun x2 ex2 => ?_)
  refine lv_aload_n hx hb dL_law_550 rfl (lv_at hl 3 rfl) ?_
  obtain ⟨r, e7, q, e8, hM, hR1⟩ := call_removeObstacle hR x1 x2
  have hk : r.1 = 0 ∨ r.1 = 3 ∨ r.1 = 4 := by
    rcases hM with ⟨m1, m2, m3⟩ | ⟨m1, m2⟩ | ⟨m1, m2⟩
    · exact Or.inl m1
    · exact Or.inr (Or.inl m1)
    · exact Or.inr (Or.inr (m1))
  have hth : q.2.2.2.1 = (if r.1 = 3 then 1 else (if r.1 = 4 then 2 else 0)) := by
    rcases hM with ⟨m1, m2, m3⟩ | ⟨m1, m2⟩ | ⟨m1, m2⟩
    · rw [m1, m2]; rfl
    · rw [m1, m2]; rfl
    · rw [m1, m2]; rfl
  have hans : ((if r.1 = 3 then 1 else (if r.1 = 4 then 2 else 0)) : Int32) = 0 → r.1 = 0 ∧ r.2.1 = q.1 := by
    intro z9
    rcases hM with ⟨m1, m2, m3⟩ | ⟨m1, m2⟩ | ⟨m1, m2⟩
    · exact ⟨m1, m3⟩
    · exact absurd z9 (by rw [m1]; decide)
    · exact absurd z9 (by rw [m1]; decide)
  refine q_LWPm (pool_fst _ _ _ _ _ _ _ _ _) hF hl.1 hK hA hZ hN hW mW_removeObstacle ml_L_182 (v_removeObstacle l D E (h 0) o x1 x2 _ _ r.1 r.2.1 fo (c_X7_removeObstacle l hlt D E (h 0) (h 1) (h 2) (h 3) (h 4) (h 5) (h 6) (h 7) (h 8) (h 9) (h 10) (h 11) (h 12) (h 13) (h 14) (h 15) (h 16) (h 17) (h 18) (h 19) (h 20) (h 21) (h 22) (h 23) (h 24) (h 25) (h 26) (h 27) (h 28) hp (ss 0) (ss 1) (ss 10) (ss 11) (aa 1) (aa 2) (aa 3) (aa 4) (aa 5) (aa 6) (aa 0) (ss 12) (ss 13) (ss 2) (ss 3) (ss 4) (ss 5) (ss 6) (ss 7) (ss 8) (ss 9) pl po pa x1 x2 r.1 r.2.1 r.2.2.1 r.2.2.2.1 r.2.2.2.2.1 r.2.2.2.2.2.1 r.2.2.2.2.2.2.1 r.2.2.2.2.2.2.2.1 r.2.2.2.2.2.2.2.2.1 r.2.2.2.2.2.2.2.2.2.1 r.2.2.2.2.2.2.2.2.2.2.1 r.2.2.2.2.2.2.2.2.2.2.2.1 r.2.2.2.2.2.2.2.2.2.2.2.2 e7) rfl (by rw [List.map_append, List.map_append]; rfl) hk) [true, true, true, true, true, true, true, true, true, false, false, false, false, false, false, false, false, false, false, false, false, false, false, false, false, true, true, false, false, false, false, false, false, false, false, false, false, false, false, false, false, false, false, false, true] 75 (Nat.le_of_ble_eq_true rfl) rfl rfl (Nat.le_of_ble_eq_true rfl) rfl rfl ⟨Nat.le_of_ble_eq_true rfl, Nat.le_of_ble_eq_true rfl⟩ ⟨Nat.le_trans (Nat.add_le_add_left (Nat.le_of_ble_eq_true rfl) cells) hc.1, Nat.le_trans (Nat.add_le_add_left (Nat.le_of_ble_eq_true rfl) slots) hc.2⟩ rfl rfl (Nat.le_of_ble_eq_true rfl) dL_law_551 (fun H locs hW => ?_)
  refine W.widen (Nat.add_le_add_left (Nat.le_of_ble_eq_true rfl : 2 ≤ 4) cells) (Nat.add_le_add_left (Nat.le_of_ble_eq_true rfl : 12 ≤ 24) slots) ?_
  have hW : WD D A s (w_LAW E h g o od (va_up (va_up (va_up (va_up (va_up ss 11 r.2.2.1) 12 r.2.2.2.2.2.2.1) 13 r.2.2.2.2.2.2.2.1) 2 r.2.2.2.2.2.2.2.2.1) 6 r.2.2.2.2.2.2.2.2.2.1) (va_up (va_up (va_up aa 5 r.2.2.2.1) 6 r.2.2.2.2.1) 0 r.2.2.2.2.2.1) ms ma (if r.1 = 0 then vp_updL fo 0 (r.2.1).toInt64 else fo) fd ++ w_pool E (h 19) hp r.2.2.2.2.2.2.2.2.2.2.1 r.2.2.2.2.2.2.2.2.2.2.2.1 r.2.2.2.2.2.2.2.2.2.2.2.2) H locs := hW
  refine lv_topi (fun z6 e6 => ?_)
  refine lv_istore (lv' := [(6, .int z6), (0, .ref b), (1, .ref (h 0)), (2, .ref (g 0)), (3, .ref o), (4, .ref od), (5, .int (nI i))]) hx hb dL_law_554 hl (by decide) rfl (fun ls hl => ?_)
  refine lv_aload_n hx hb dL_law_556 rfl (lv_at hl 3 rfl) ?_
  refine lv_aload_n hx hb dL_law_557 rfl (lv_at hl 1 rfl) ?_
  refine lv_iload hx hb dL_law_558 (lv_at hl 6 rfl) ?_
  refine lv_iconst (v := 1) hx hb dL_law_560 (by decide) ?_
  refine lv_iadd hx hb dL_law_561 ?_
  refine va_sld hx hb hX hbl hbA hW.2.2 i1 dL_law_562 ?_
  refine lv_topi (fun y1 ey1 => ?_)
  obtain rfl : x1 = y1 := ex1.trans ey1.symm
  refine lv_aload_n hx hb dL_law_563 rfl (lv_at hl 1 rfl) ?_
  refine lv_iload hx hb dL_law_564 (lv_at hl 6 rfl) ?_
  refine lv_iconst (v := 2) hx hb dL_law_566 (by decide) ?_
  refine lv_iadd hx hb dL_law_567 ?_
  refine va_sld hx hb hX hbl hbA hW.2.2 i2 dL_law_568 ?_
  refine lv_topi (fun y2 ey2 => ?_)
  obtain rfl : x2 = y2 := ex2.trans ey2.symm
  refine q_callIm hF hl.1 hK hA hZ hW mv_X8_removeObstacle ml_L_184 (c_X8_removeObstacle l D E TXL (g 0) (g 1) (g 2) (g 3) (g 4) (g 5) (g 6) (g 7) (g 8) (g 9) (g 10) (g 11) (g 12) (g 13) (g 14) (g 15) (g 16) (g 17) (g 18) (g 19) (ms 0) (ms 1) (ms 2) (ms 3) (ms 4) (ms 5) (ms 6) (ms 7) (ms 8) (ms 9) (ms 10) (ms 11) (ma 0) (ma 1) x1 x2 q.1 q.2.1 q.2.2.1 q.2.2.2.1 q.2.2.2.2.1 q.2.2.2.2.2 e8) [false, false, false, false, false, false, false, false, false, false, false, false, false, false, false, false, false, false, false, false, false, false, false, false, false, false, false, false, false, false, false, false, false, false, false, false, false, false, false, false, false, false, false, false, false, false, false, false, false, false, false, false, false, false, false, true, true, true] (Nat.le_of_ble_eq_true rfl) rfl rfl rfl rfl rfl ⟨Nat.le_of_ble_eq_true rfl, Nat.le_of_ble_eq_true rfl⟩ hc rfl rfl (Nat.le_of_ble_eq_true rfl) dL_law_569 (fun H locs hW => ?_)
  have hW : WD D A s (w_LAW E h g o od (va_up (va_up (va_up (va_up (va_up ss 11 r.2.2.1) 12 r.2.2.2.2.2.2.1) 13 r.2.2.2.2.2.2.2.1) 2 r.2.2.2.2.2.2.2.2.1) 6 r.2.2.2.2.2.2.2.2.2.1) (va_up (va_up (va_up aa 5 r.2.2.2.1) 6 r.2.2.2.2.1) 0 r.2.2.2.2.2.1) (va_up (va_up (va_up ms 1 q.2.1) 2 q.2.2.1) 4 q.2.2.2.1) (va_up (va_up ma 0 q.2.2.2.2.1) 1 q.2.2.2.2.2) (if r.1 = 0 then vp_updL fo 0 (r.2.1).toInt64 else fo) fd ++ w_pool E (h 19) hp r.2.2.2.2.2.2.2.2.2.2.1 r.2.2.2.2.2.2.2.2.2.2.2.1 r.2.2.2.2.2.2.2.2.2.2.2.2) H locs := hW
  refine lv_topi (fun z7 e7_ => ?_)
  refine lv_istore (lv' := [(7, .int z7), (6, .int z6), (0, .ref b), (1, .ref (h 0)), (2, .ref (g 0)), (3, .ref o), (4, .ref od), (5, .int (nI i))]) hx hb dL_law_572 hl (by decide) rfl (fun ls hl => ?_)
  refine lv_aload_n hx hb dL_law_574 rfl (lv_at hl 4 rfl) ?_
  refine q_callIm hF hl.1 hK hA hZ hW mv_X8_thrown ml_L_168 (c_X8_thrown l D E TXL (g 0) (g 1) (g 2) (g 3) (g 4) (g 5) (g 6) (g 7) (g 8) (g 9) (g 10) (g 11) (g 12) (g 13) (g 14) (g 15) (g 16) (g 17) (g 18) (g 19) (ms 0) q.2.1 q.2.2.1 (ms 3) q.2.2.2.1 (ms 5) (ms 6) (ms 7) (ms 8) (ms 9) (ms 10) (ms 11) q.2.2.2.1 rfl) [false, false, false, false, false, false, false, false, false, false, false, false, false, false, false, false, false, false, false, false, false, false, false, false, false, false, false, false, false, false, false, false, false, false, false, false, false, false, false, false, false, false, false, false, false, false, false, false, false, false, false, false, false, false, false, true] (Nat.le_of_ble_eq_true rfl) rfl rfl rfl rfl rfl ⟨Nat.le_of_ble_eq_true rfl, Nat.le_of_ble_eq_true rfl⟩ hc rfl rfl (Nat.le_of_ble_eq_true rfl) dL_law_575 (fun H locs hW => ?_)
  have hW : WD D A s (w_LAW E h g o od (va_up (va_up (va_up (va_up (va_up ss 11 r.2.2.1) 12 r.2.2.2.2.2.2.1) 13 r.2.2.2.2.2.2.2.1) 2 r.2.2.2.2.2.2.2.2.1) 6 r.2.2.2.2.2.2.2.2.2.1) (va_up (va_up (va_up aa 5 r.2.2.2.1) 6 r.2.2.2.2.1) 0 r.2.2.2.2.2.1) (va_up (va_up (va_up ms 1 q.2.1) 2 q.2.2.1) 4 q.2.2.2.1) (va_up (va_up ma 0 q.2.2.2.2.1) 1 q.2.2.2.2.2) (if r.1 = 0 then vp_updL fo 0 (r.2.1).toInt64 else fo) fd ++ w_pool E (h 19) hp r.2.2.2.2.2.2.2.2.2.2.1 r.2.2.2.2.2.2.2.2.2.2.2.1 r.2.2.2.2.2.2.2.2.2.2.2.2) H locs := hW
  refine lv_iload hx hb dL_law_578 (lv_at hl 1 rfl) ?_
  refine lv_icmp_eq (tgt := 585) hx hb dL_law_580 (by decide) (fun _ => ?_) (fun z => absurd (hth.trans e6.symm) z)
  refine lv_iload hx hb dL_law_585 (lv_at hl 1 rfl) ?_
  have hend : ∀ (ls : Array Slot), lv_has ls 9 [(7, .int z7), (6, .int z6), (0, .ref b), (1, .ref (h 0)), (2, .ref (g 0)), (3, .ref o), (4, .ref od), (5, .int (nI i))] → W p l e room_1 s m #[.ref b] below meth c H locs (cells + 4) (slots + 24) Q (F0 m 602 ls []) := fun ls hl => by
    refine lv_goto (tgt := 2740) hx hb dL_law_602 (by decide) ?_
    exact kk _ _ _ ⟨_, _, _, _, _, _, _, _, _, hR1, hW⟩ (lv_sub hl [2, 3, 4, 5, 6, 7] rfl)
  refine lv_if_ne (tgt := 602) hx hb dL_law_587 (by decide) (fun _ => hend ls hl) (fun z9 => ?_)
  obtain ⟨hk0, hv⟩ := hans (e6.symm.trans z9)
  refine lv_aload_n hx hb dL_law_590 rfl (lv_at hl 5 rfl) ?_
  refine lv_iconst (v := 0) hx hb dL_law_591 (by decide) ?_
  refine va_lald hx hb hK hW.1 75 4 rfl rfl (by unfold vp_in; decide) dL_law_592 ?_
  refine lv_topl (fun z8 e8_ => ?_)
  have e9 : z8 = (r.2.1).toInt64 := by
    rw [e8_, if_pos hk0]; rfl
  refine lv_iload hx hb dL_law_593 (lv_at hl 0 rfl) ?_
  refine lv_i2l hx hb dL_law_595 rfl ?_
  refine W.lcmp hx hb dL_law_596 ?_
  refine lv_if_eq (tgt := 602) hx hb dL_law_597 (by decide) (fun _ => hend ls hl) (fun z => absurd ?_ z)
  rw [e9, hv, e7_]
  exact lg_cmp_self _
set_option maxHeartbeats 4000000 in
set_option maxRecDepth 100000 in
theorem k_6 {p : Program} {l : Launch} {e : Env} {s : State} {m : MethodId} {below : List Frame} {meth : Method} {c : Code} {D : va_G} {E : Nat → ClassId} {A : Nat → Prop} {b N i : Nat} {xs : Nat → Int32} {h g : Nat → Nat} {hp : Nat → Nat → Nat} {o od : Nat} {Q : State → Prop} {H : Heap} {locs : List Loc} {cells slots : Nat} {ls : Array Slot} (C : LCC p l s m c D E A b N xs) (hi : i + 4 ≤ N) (S : LSS D E A s h g hp o od H locs) (hl : lv_has ls 9 [(0, .ref b), (1, .ref (h 0)), (2, .ref (g 0)), (3, .ref o), (4, .ref od), (5, .int (nI i))]) (hc : cells + 4 ≤ room_1.cells ∧ slots + 24 ≤ room_1.slots) (kk : ∀ (H : Heap) (locs : List Loc) (ls : Array Slot), LSS D E A s h g hp o od H locs → lv_has ls 9 [(0, .ref b), (1, .ref (h 0)), (2, .ref (g 0)), (3, .ref o), (4, .ref od), (5, .int (nI i))] → W p l e room_1 s m #[.ref b] below meth c H locs (cells + 4) (slots + 24) Q (F0 m 2740 ls [])) : W p l e room_1 s m #[.ref b] below meth c H locs cells slots Q (F0 m 605 ls []) := by
  obtain ⟨hF, hlt, hK, hA, hZ, hN, hX, hbl, hbA, hN9⟩ := C
  obtain ⟨ss, aa, pl, po, pa, ms, ma, fo, fd, hR, hW⟩ := S
  obtain ⟨i0, i1, i2, i3⟩ := ix_ok hi hN9
  have hx := hF.1
  have hb := hF.2.1
  refine lv_aload_n hx hb dL_law_605 rfl (lv_at hl 1 rfl) ?_
  refine lv_aload_n hx hb dL_law_606 rfl (lv_at hl 0 rfl) ?_
  refine lv_iload hx hb dL_law_607 (lv_at hl 5 rfl) ?_
  refine lv_iconst (v := 1) hx hb dL_law_609 (by decide) ?_
  refine lv_iadd hx hb dL_law_610 ?_
  refine va_sld hx hb hX hbl hbA hW.2.2 i1 dL_law_611 ?_
  refine lv_topi (fun x1 ex1 => ?_)
  refine lv_aload_n hx hb dL_law_612 rfl (lv_at hl 3 rfl) ?_
  obtain ⟨r, e7, q, e8, hM, hR1⟩ := call_count hR x1
  have hk : r.1 = 0 ∨ r.1 = 1 := by
    rcases hM with ⟨m1, m2, m3⟩ | ⟨m1, m2⟩
    · exact Or.inl m1
    · exact Or.inr (m1)
  have hth : q.2 = (if r.1 = 1 then 1 else 0) := by
    rcases hM with ⟨m1, m2, m3⟩ | ⟨m1, m2⟩
    · rw [m1, m2]; rfl
    · rw [m1, m2]; rfl
  have hans : ((if r.1 = 1 then 1 else 0) : Int32) = 0 → r.1 = 0 ∧ r.2 = q.1 := by
    intro z9
    rcases hM with ⟨m1, m2, m3⟩ | ⟨m1, m2⟩
    · exact ⟨m1, m3⟩
    · exact absurd z9 (by rw [m1]; decide)
  refine q_LWm hF hl.1 hK hA hZ hN hW mW_count ml_L_185 (v_count l D E (h 0) o x1 _ _ r.1 r.2 fo (c_X7_count l hlt D E (h 0) (h 1) (h 2) (h 3) (h 4) (h 5) (h 6) (h 7) (h 8) (h 9) (h 10) (h 11) (h 12) (h 13) (h 14) (h 15) (h 16) (h 17) (h 18) (ss 0) (ss 1) (ss 10) (ss 11) (aa 1) (aa 2) (aa 3) x1 r.1 r.2 e7) rfl rfl hk) [true, true, true, true, true, false, false, false, false, false, false, false, false, false, false, false, false, false, false, false, false, false, false, false, false, false, false, false, false, false, false, false, false, false, false, false, false, false, false, false, false, false, false, false, false, false, false, false, false, false, false, false, false, false, false, false, false, false, false, false, false, false, false, false, false, false, false, false, false, false, false, false, false, false, false, true] (Nat.le_of_ble_eq_true rfl) rfl rfl ⟨Nat.le_of_ble_eq_true rfl, Nat.le_of_ble_eq_true rfl⟩ ⟨Nat.le_trans (Nat.add_le_add_left (Nat.le_of_ble_eq_true rfl) cells) hc.1, Nat.le_trans (Nat.add_le_add_left (Nat.le_of_ble_eq_true rfl) slots) hc.2⟩ rfl rfl (Nat.le_of_ble_eq_true rfl) dL_law_613 (fun H locs hW => ?_)
  refine W.widen (Nat.add_le_add_left (Nat.le_of_ble_eq_true rfl : 1 ≤ 4) cells) (Nat.add_le_add_left (Nat.le_of_ble_eq_true rfl : 6 ≤ 24) slots) ?_
  have hW : WD D A s (w_LAW E h g o od ss aa ms ma (if r.1 = 0 then vp_updL fo 0 (r.2).toInt64 else fo) fd ++ w_pool E (h 19) hp pl po pa) H locs := hW
  refine lv_topi (fun z6 e6 => ?_)
  refine lv_istore (lv' := [(6, .int z6), (0, .ref b), (1, .ref (h 0)), (2, .ref (g 0)), (3, .ref o), (4, .ref od), (5, .int (nI i))]) hx hb dL_law_616 hl (by decide) rfl (fun ls hl => ?_)
  refine lv_aload_n hx hb dL_law_618 rfl (lv_at hl 3 rfl) ?_
  refine lv_aload_n hx hb dL_law_619 rfl (lv_at hl 1 rfl) ?_
  refine lv_iload hx hb dL_law_620 (lv_at hl 6 rfl) ?_
  refine lv_iconst (v := 1) hx hb dL_law_622 (by decide) ?_
  refine lv_iadd hx hb dL_law_623 ?_
  refine va_sld hx hb hX hbl hbA hW.2.2 i1 dL_law_624 ?_
  refine lv_topi (fun y1 ey1 => ?_)
  obtain rfl : x1 = y1 := ex1.trans ey1.symm
  refine q_callIm hF hl.1 hK hA hZ hW mv_X8_count ml_L_188 (c_X8_count l D E TXL (g 0) (g 1) (g 2) (g 3) (g 4) (g 5) (g 6) (g 7) (g 8) (g 9) (g 10) (g 11) (g 12) (g 13) (g 14) (g 15) (g 16) (g 17) (g 18) (g 19) (ms 0) (ms 1) (ms 2) (ms 3) (ms 4) (ms 5) (ms 6) (ms 7) (ms 8) (ms 9) (ms 10) (ms 11) (ma 0) x1 q.1 q.2 e8) [false, false, false, false, false, false, false, false, false, false, false, false, false, false, false, false, false, false, false, false, false, false, false, false, false, false, false, false, false, false, false, false, false, false, false, false, false, false, false, false, false, false, false, false, false, false, false, false, false, false, false, false, false, false, false, true, true] (Nat.le_of_ble_eq_true rfl) rfl rfl rfl rfl rfl ⟨Nat.le_of_ble_eq_true rfl, Nat.le_of_ble_eq_true rfl⟩ hc rfl rfl (Nat.le_of_ble_eq_true rfl) dL_law_625 (fun H locs hW => ?_)
  have hW : WD D A s (w_LAW E h g o od ss aa (va_up ms 4 q.2) ma (if r.1 = 0 then vp_updL fo 0 (r.2).toInt64 else fo) fd ++ w_pool E (h 19) hp pl po pa) H locs := hW
  refine lv_topi (fun z7 e7_ => ?_)
  refine lv_istore (lv' := [(7, .int z7), (6, .int z6), (0, .ref b), (1, .ref (h 0)), (2, .ref (g 0)), (3, .ref o), (4, .ref od), (5, .int (nI i))]) hx hb dL_law_628 hl (by decide) rfl (fun ls hl => ?_)
  refine lv_aload_n hx hb dL_law_630 rfl (lv_at hl 4 rfl) ?_
  refine q_callIm hF hl.1 hK hA hZ hW mv_X8_thrown ml_L_168 (c_X8_thrown l D E TXL (g 0) (g 1) (g 2) (g 3) (g 4) (g 5) (g 6) (g 7) (g 8) (g 9) (g 10) (g 11) (g 12) (g 13) (g 14) (g 15) (g 16) (g 17) (g 18) (g 19) (ms 0) (ms 1) (ms 2) (ms 3) q.2 (ms 5) (ms 6) (ms 7) (ms 8) (ms 9) (ms 10) (ms 11) q.2 rfl) [false, false, false, false, false, false, false, false, false, false, false, false, false, false, false, false, false, false, false, false, false, false, false, false, false, false, false, false, false, false, false, false, false, false, false, false, false, false, false, false, false, false, false, false, false, false, false, false, false, false, false, false, false, false, false, true] (Nat.le_of_ble_eq_true rfl) rfl rfl rfl rfl rfl ⟨Nat.le_of_ble_eq_true rfl, Nat.le_of_ble_eq_true rfl⟩ hc rfl rfl (Nat.le_of_ble_eq_true rfl) dL_law_631 (fun H locs hW => ?_)
  have hW : WD D A s (w_LAW E h g o od ss aa (va_up ms 4 q.2) ma (if r.1 = 0 then vp_updL fo 0 (r.2).toInt64 else fo) fd ++ w_pool E (h 19) hp pl po pa) H locs := hW
  refine lv_iload hx hb dL_law_634 (lv_at hl 1 rfl) ?_
  refine lv_icmp_eq (tgt := 641) hx hb dL_law_636 (by decide) (fun _ => ?_) (fun z => absurd (hth.trans e6.symm) z)
  refine lv_iload hx hb dL_law_641 (lv_at hl 1 rfl) ?_
  have hend : ∀ (ls : Array Slot), lv_has ls 9 [(7, .int z7), (6, .int z6), (0, .ref b), (1, .ref (h 0)), (2, .ref (g 0)), (3, .ref o), (4, .ref od), (5, .int (nI i))] → W p l e room_1 s m #[.ref b] below meth c H locs (cells + 4) (slots + 24) Q (F0 m 658 ls []) := fun ls hl => by
    refine lv_goto (tgt := 2740) hx hb dL_law_658 (by decide) ?_
    exact kk _ _ _ ⟨_, _, _, _, _, _, _, _, _, hR1, hW⟩ (lv_sub hl [2, 3, 4, 5, 6, 7] rfl)
  refine lv_if_ne (tgt := 658) hx hb dL_law_643 (by decide) (fun _ => hend ls hl) (fun z9 => ?_)
  obtain ⟨hk0, hv⟩ := hans (e6.symm.trans z9)
  refine lv_aload_n hx hb dL_law_646 rfl (lv_at hl 5 rfl) ?_
  refine lv_iconst (v := 0) hx hb dL_law_647 (by decide) ?_
  refine va_lald hx hb hK hW.1 75 4 rfl rfl (by unfold vp_in; decide) dL_law_648 ?_
  refine lv_topl (fun z8 e8_ => ?_)
  have e9 : z8 = (r.2).toInt64 := by
    rw [e8_, if_pos hk0]; rfl
  refine lv_iload hx hb dL_law_649 (lv_at hl 0 rfl) ?_
  refine lv_i2l hx hb dL_law_651 rfl ?_
  refine W.lcmp hx hb dL_law_652 ?_
  refine lv_if_eq (tgt := 658) hx hb dL_law_653 (by decide) (fun _ => hend ls hl) (fun z => absurd ?_ z)
  rw [e9, hv, e7_]
  exact lg_cmp_self _
set_option maxHeartbeats 4000000 in
set_option maxRecDepth 100000 in
theorem k_7 {p : Program} {l : Launch} {e : Env} {s : State} {m : MethodId} {below : List Frame} {meth : Method} {c : Code} {D : va_G} {E : Nat → ClassId} {A : Nat → Prop} {b N i : Nat} {xs : Nat → Int32} {h g : Nat → Nat} {hp : Nat → Nat → Nat} {o od : Nat} {Q : State → Prop} {H : Heap} {locs : List Loc} {cells slots : Nat} {ls : Array Slot} (C : LCC p l s m c D E A b N xs) (hi : i + 4 ≤ N) (S : LSS D E A s h g hp o od H locs) (hl : lv_has ls 9 [(0, .ref b), (1, .ref (h 0)), (2, .ref (g 0)), (3, .ref o), (4, .ref od), (5, .int (nI i))]) (hc : cells + 4 ≤ room_1.cells ∧ slots + 24 ≤ room_1.slots) (kk : ∀ (H : Heap) (locs : List Loc) (ls : Array Slot), LSS D E A s h g hp o od H locs → lv_has ls 9 [(0, .ref b), (1, .ref (h 0)), (2, .ref (g 0)), (3, .ref o), (4, .ref od), (5, .int (nI i))] → W p l e room_1 s m #[.ref b] below meth c H locs (cells + 4) (slots + 24) Q (F0 m 2740 ls [])) : W p l e room_1 s m #[.ref b] below meth c H locs cells slots Q (F0 m 661 ls []) := by
  obtain ⟨hF, hlt, hK, hA, hZ, hN, hX, hbl, hbA, hN9⟩ := C
  obtain ⟨ss, aa, pl, po, pa, ms, ma, fo, fd, hR, hW⟩ := S
  obtain ⟨i0, i1, i2, i3⟩ := ix_ok hi hN9
  have hx := hF.1
  have hb := hF.2.1
  refine lv_aload_n hx hb dL_law_661 rfl (lv_at hl 1 rfl) ?_
  refine lv_aload_n hx hb dL_law_662 rfl (lv_at hl 0 rfl) ?_
  refine lv_iload hx hb dL_law_663 (lv_at hl 5 rfl) ?_
  refine lv_iconst (v := 1) hx hb dL_law_665 (by decide) ?_
  refine lv_iadd hx hb dL_law_666 ?_
  refine va_sld hx hb hX hbl hbA hW.2.2 i1 dL_law_667 ?_
  refine lv_topi (fun x1 ex1 => ?_)
  refine lv_aload_n hx hb dL_law_668 rfl (lv_at hl 0 rfl) ?_
  refine lv_iload hx hb dL_law_669 (lv_at hl 5 rfl) ?_
  refine lv_iconst (v := 2) hx hb dL_law_671 (by decide) ?_
  refine lv_iadd hx hb dL_law_672 ?_
  refine va_sld hx hb hX hbl hbA hW.2.2 i2 dL_law_673 ?_
  refine lv_topi (fun x2 ex2 => ?_)
  refine lv_aload_n hx hb dL_law_674 rfl (lv_at hl 3 rfl) ?_
  obtain ⟨r, e7, q, e8, hM, hR1⟩ := call_joint hR x1 x2
  have hk : r.1 = 0 ∨ r.1 = 3 ∨ r.1 = 1 := by
    rcases hM with ⟨m1, m2, m3⟩ | ⟨m1, m2⟩ | ⟨m1, m2⟩
    · exact Or.inl m1
    · exact Or.inr (Or.inl m1)
    · exact Or.inr (Or.inr (m1))
  have hth : q.2.1 = (if r.1 = 3 then 1 else (if r.1 = 1 then 2 else 0)) := by
    rcases hM with ⟨m1, m2, m3⟩ | ⟨m1, m2⟩ | ⟨m1, m2⟩
    · rw [m1, m2]; rfl
    · rw [m1, m2]; rfl
    · rw [m1, m2]; rfl
  have hans : ((if r.1 = 3 then 1 else (if r.1 = 1 then 2 else 0)) : Int32) = 0 → r.1 = 0 ∧ r.2.1 = q.1 := by
    intro z9
    rcases hM with ⟨m1, m2, m3⟩ | ⟨m1, m2⟩ | ⟨m1, m2⟩
    · exact ⟨m1, m3⟩
    · exact absurd z9 (by rw [m1]; decide)
    · exact absurd z9 (by rw [m1]; decide)
  refine q_LWm hF hl.1 hK hA hZ hN hW mW_joint ml_L_189 (v_joint l D E (h 0) o x1 x2 _ _ r.1 r.2.1 fo (c_X7_joint l hlt D E (h 0) (h 1) (h 2) (h 3) (h 4) (h 5) (h 6) (h 7) (h 8) (h 9) (h 10) (h 11) (h 12) (h 13) (h 14) (h 15) (h 16) (h 17) (h 18) (h 29) (h 30) (h 31) (h 32) (ss 0) (ss 1) (ss 10) (ss 11) (aa 1) (aa 2) (aa 3) (aa 4) (aa 0) (ss 14) (ss 15) (ss 16) (ss 17) (aa 7) (aa 8) (aa 9) (aa 10) x1 x2 r.1 r.2.1 r.2.2.1 r.2.2.2.1 r.2.2.2.2.1 r.2.2.2.2.2.1 r.2.2.2.2.2.2.1 r.2.2.2.2.2.2.2.1 r.2.2.2.2.2.2.2.2.1 r.2.2.2.2.2.2.2.2.2 e7) rfl rfl hk) [true, true, true, true, true, true, false, false, true, false, false, false, false, false, false, false, false, false, false, false, false, false, false, false, false, false, false, true, false, true, false, true, false, true, false, true, false, false, false, false, false, false, false, false, false, false, false, false, false, false, false, false, false, false, false, false, false, false, false, false, false, false, false, false, false, false, false, false, false, false, false, false, false, false, false, true] (Nat.le_of_ble_eq_true rfl) rfl rfl ⟨Nat.le_of_ble_eq_true rfl, Nat.le_of_ble_eq_true rfl⟩ ⟨Nat.le_trans (Nat.add_le_add_left (Nat.le_of_ble_eq_true rfl) cells) hc.1, Nat.le_trans (Nat.add_le_add_left (Nat.le_of_ble_eq_true rfl) slots) hc.2⟩ rfl rfl (Nat.le_of_ble_eq_true rfl) dL_law_675 (fun H locs hW => ?_)
  refine W.widen (Nat.add_le_add_left (Nat.le_of_ble_eq_true rfl : 1 ≤ 4) cells) (Nat.add_le_add_left (Nat.le_of_ble_eq_true rfl : 6 ≤ 24) slots) ?_
  have hW : WD D A s (w_LAW E h g o od (va_up (va_up (va_up (va_up ss 14 r.2.2.1) 15 r.2.2.2.1) 16 r.2.2.2.2.1) 17 r.2.2.2.2.2.1) (va_up (va_up (va_up (va_up aa 7 r.2.2.2.2.2.2.1) 8 r.2.2.2.2.2.2.2.1) 9 r.2.2.2.2.2.2.2.2.1) 10 r.2.2.2.2.2.2.2.2.2) ms ma (if r.1 = 0 then vp_updL fo 0 (r.2.1).toInt64 else fo) fd ++ w_pool E (h 19) hp pl po pa) H locs := hW
  refine lv_topi (fun z6 e6 => ?_)
  refine lv_istore (lv' := [(6, .int z6), (0, .ref b), (1, .ref (h 0)), (2, .ref (g 0)), (3, .ref o), (4, .ref od), (5, .int (nI i))]) hx hb dL_law_678 hl (by decide) rfl (fun ls hl => ?_)
  refine lv_aload_n hx hb dL_law_680 rfl (lv_at hl 3 rfl) ?_
  refine lv_aload_n hx hb dL_law_681 rfl (lv_at hl 1 rfl) ?_
  refine lv_iload hx hb dL_law_682 (lv_at hl 6 rfl) ?_
  refine lv_iconst (v := 1) hx hb dL_law_684 (by decide) ?_
  refine lv_iadd hx hb dL_law_685 ?_
  refine va_sld hx hb hX hbl hbA hW.2.2 i1 dL_law_686 ?_
  refine lv_topi (fun y1 ey1 => ?_)
  obtain rfl : x1 = y1 := ex1.trans ey1.symm
  refine lv_aload_n hx hb dL_law_687 rfl (lv_at hl 1 rfl) ?_
  refine lv_iload hx hb dL_law_688 (lv_at hl 6 rfl) ?_
  refine lv_iconst (v := 2) hx hb dL_law_690 (by decide) ?_
  refine lv_iadd hx hb dL_law_691 ?_
  refine va_sld hx hb hX hbl hbA hW.2.2 i2 dL_law_692 ?_
  refine lv_topi (fun y2 ey2 => ?_)
  obtain rfl : x2 = y2 := ex2.trans ey2.symm
  refine q_callIm hF hl.1 hK hA hZ hW mv_X8_joint ml_L_191 (c_X8_joint l D E TXL (g 0) (g 1) (g 2) (g 3) (g 4) (g 5) (g 6) (g 7) (g 8) (g 9) (g 10) (g 11) (g 12) (g 13) (g 14) (g 15) (g 16) (g 17) (g 18) (g 19) (ms 0) (ms 1) (ms 2) (ms 3) (ms 4) (ms 5) (ms 6) (ms 7) (ms 8) (ms 9) (ms 10) (ms 11) (ma 0) (ma 3) (ma 4) (ma 5) (ma 6) x1 x2 q.1 q.2.1 q.2.2.1 q.2.2.2.1 q.2.2.2.2.1 q.2.2.2.2.2 e8) [false, false, false, false, false, false, false, false, false, false, false, false, false, false, false, false, false, false, false, false, false, false, false, false, false, false, false, false, false, false, false, false, false, false, false, false, false, false, false, false, false, false, false, false, false, false, false, false, false, false, false, false, false, false, false, true, true, false, false, false, false, true, false, true, false, true, true] (Nat.le_of_ble_eq_true rfl) rfl rfl rfl rfl rfl ⟨Nat.le_of_ble_eq_true rfl, Nat.le_of_ble_eq_true rfl⟩ hc rfl rfl (Nat.le_of_ble_eq_true rfl) dL_law_693 (fun H locs hW => ?_)
  have hW : WD D A s (w_LAW E h g o od (va_up (va_up (va_up (va_up ss 14 r.2.2.1) 15 r.2.2.2.1) 16 r.2.2.2.2.1) 17 r.2.2.2.2.2.1) (va_up (va_up (va_up (va_up aa 7 r.2.2.2.2.2.2.1) 8 r.2.2.2.2.2.2.2.1) 9 r.2.2.2.2.2.2.2.2.1) 10 r.2.2.2.2.2.2.2.2.2) (va_up ms 4 q.2.1) (va_up (va_up (va_up (va_up ma 3 q.2.2.1) 4 q.2.2.2.1) 5 q.2.2.2.2.1) 6 q.2.2.2.2.2) (if r.1 = 0 then vp_updL fo 0 (r.2.1).toInt64 else fo) fd ++ w_pool E (h 19) hp pl po pa) H locs := hW
  refine lv_topi (fun z7 e7_ => ?_)
  refine lv_istore (lv' := [(7, .int z7), (6, .int z6), (0, .ref b), (1, .ref (h 0)), (2, .ref (g 0)), (3, .ref o), (4, .ref od), (5, .int (nI i))]) hx hb dL_law_696 hl (by decide) rfl (fun ls hl => ?_)
  refine lv_aload_n hx hb dL_law_698 rfl (lv_at hl 4 rfl) ?_
  refine q_callIm hF hl.1 hK hA hZ hW mv_X8_thrown ml_L_168 (c_X8_thrown l D E TXL (g 0) (g 1) (g 2) (g 3) (g 4) (g 5) (g 6) (g 7) (g 8) (g 9) (g 10) (g 11) (g 12) (g 13) (g 14) (g 15) (g 16) (g 17) (g 18) (g 19) (ms 0) (ms 1) (ms 2) (ms 3) q.2.1 (ms 5) (ms 6) (ms 7) (ms 8) (ms 9) (ms 10) (ms 11) q.2.1 rfl) [false, false, false, false, false, false, false, false, false, false, false, false, false, false, false, false, false, false, false, false, false, false, false, false, false, false, false, false, false, false, false, false, false, false, false, false, false, false, false, false, false, false, false, false, false, false, false, false, false, false, false, false, false, false, false, true] (Nat.le_of_ble_eq_true rfl) rfl rfl rfl rfl rfl ⟨Nat.le_of_ble_eq_true rfl, Nat.le_of_ble_eq_true rfl⟩ hc rfl rfl (Nat.le_of_ble_eq_true rfl) dL_law_699 (fun H locs hW => ?_)
  have hW : WD D A s (w_LAW E h g o od (va_up (va_up (va_up (va_up ss 14 r.2.2.1) 15 r.2.2.2.1) 16 r.2.2.2.2.1) 17 r.2.2.2.2.2.1) (va_up (va_up (va_up (va_up aa 7 r.2.2.2.2.2.2.1) 8 r.2.2.2.2.2.2.2.1) 9 r.2.2.2.2.2.2.2.2.1) 10 r.2.2.2.2.2.2.2.2.2) (va_up ms 4 q.2.1) (va_up (va_up (va_up (va_up ma 3 q.2.2.1) 4 q.2.2.2.1) 5 q.2.2.2.2.1) 6 q.2.2.2.2.2) (if r.1 = 0 then vp_updL fo 0 (r.2.1).toInt64 else fo) fd ++ w_pool E (h 19) hp pl po pa) H locs := hW
  refine lv_iload hx hb dL_law_702 (lv_at hl 1 rfl) ?_
  refine lv_icmp_eq (tgt := 709) hx hb dL_law_704 (by decide) (fun _ => ?_) (fun z => absurd (hth.trans e6.symm) z)
  refine lv_iload hx hb dL_law_709 (lv_at hl 1 rfl) ?_
  have hend : ∀ (ls : Array Slot), lv_has ls 9 [(7, .int z7), (6, .int z6), (0, .ref b), (1, .ref (h 0)), (2, .ref (g 0)), (3, .ref o), (4, .ref od), (5, .int (nI i))] → W p l e room_1 s m #[.ref b] below meth c H locs (cells + 4) (slots + 24) Q (F0 m 726 ls []) := fun ls hl => by
    refine lv_goto (tgt := 2740) hx hb dL_law_726 (by decide) ?_
    exact kk _ _ _ ⟨_, _, _, _, _, _, _, _, _, hR1, hW⟩ (lv_sub hl [2, 3, 4, 5, 6, 7] rfl)
  refine lv_if_ne (tgt := 726) hx hb dL_law_711 (by decide) (fun _ => hend ls hl) (fun z9 => ?_)
  obtain ⟨hk0, hv⟩ := hans (e6.symm.trans z9)
  refine lv_aload_n hx hb dL_law_714 rfl (lv_at hl 5 rfl) ?_
  refine lv_iconst (v := 0) hx hb dL_law_715 (by decide) ?_
  refine va_lald hx hb hK hW.1 75 4 rfl rfl (by unfold vp_in; decide) dL_law_716 ?_
  refine lv_topl (fun z8 e8_ => ?_)
  have e9 : z8 = (r.2.1).toInt64 := by
    rw [e8_, if_pos hk0]; rfl
  refine lv_iload hx hb dL_law_717 (lv_at hl 0 rfl) ?_
  refine lv_i2l hx hb dL_law_719 rfl ?_
  refine W.lcmp hx hb dL_law_720 ?_
  refine lv_if_eq (tgt := 726) hx hb dL_law_721 (by decide) (fun _ => hend ls hl) (fun z => absurd ?_ z)
  rw [e9, hv, e7_]
  exact lg_cmp_self _
set_option maxHeartbeats 4000000 in
set_option maxRecDepth 100000 in
theorem k_8 {p : Program} {l : Launch} {e : Env} {s : State} {m : MethodId} {below : List Frame} {meth : Method} {c : Code} {D : va_G} {E : Nat → ClassId} {A : Nat → Prop} {b N i : Nat} {xs : Nat → Int32} {h g : Nat → Nat} {hp : Nat → Nat → Nat} {o od : Nat} {Q : State → Prop} {H : Heap} {locs : List Loc} {cells slots : Nat} {ls : Array Slot} (C : LCC p l s m c D E A b N xs) (hi : i + 4 ≤ N) (S : LSS D E A s h g hp o od H locs) (hl : lv_has ls 9 [(0, .ref b), (1, .ref (h 0)), (2, .ref (g 0)), (3, .ref o), (4, .ref od), (5, .int (nI i))]) (hc : cells + 4 ≤ room_1.cells ∧ slots + 24 ≤ room_1.slots) (kk : ∀ (H : Heap) (locs : List Loc) (ls : Array Slot), LSS D E A s h g hp o od H locs → lv_has ls 9 [(0, .ref b), (1, .ref (h 0)), (2, .ref (g 0)), (3, .ref o), (4, .ref od), (5, .int (nI i))] → W p l e room_1 s m #[.ref b] below meth c H locs (cells + 4) (slots + 24) Q (F0 m 2740 ls [])) : W p l e room_1 s m #[.ref b] below meth c H locs cells slots Q (F0 m 729 ls []) := by
  obtain ⟨hF, hlt, hK, hA, hZ, hN, hX, hbl, hbA, hN9⟩ := C
  obtain ⟨ss, aa, pl, po, pa, ms, ma, fo, fd, hR, hW⟩ := S
  obtain ⟨i0, i1, i2, i3⟩ := ix_ok hi hN9
  have hx := hF.1
  have hb := hF.2.1
  refine lv_aload_n hx hb dL_law_729 rfl (lv_at hl 1 rfl) ?_
  refine lv_aload_n hx hb dL_law_730 rfl (lv_at hl 0 rfl) ?_
  refine lv_iload hx hb dL_law_731 (lv_at hl 5 rfl) ?_
  refine lv_iconst (v := 1) hx hb dL_law_733 (by decide) ?_
  refine lv_iadd hx hb dL_law_734 ?_
  refine va_sld hx hb hX hbl hbA hW.2.2 i1 dL_law_735 ?_
  refine lv_topi (fun x1 ex1 => ?_)
  refine lv_aload_n hx hb dL_law_736 rfl (lv_at hl 0 rfl) ?_
  refine lv_iload hx hb dL_law_737 (lv_at hl 5 rfl) ?_
  refine lv_iconst (v := 2) hx hb dL_law_739 (by decide) ?_
  refine lv_iadd hx hb dL_law_740 ?_
  refine va_sld hx hb hX hbl hbA hW.2.2 i2 dL_law_741 ?_
  refine lv_topi (fun x2 ex2 => ?_)
  refine lv_aload_n hx hb dL_law_742 rfl (lv_at hl 3 rfl) ?_
  obtain ⟨r, e7, q, e8, hM, hR1⟩ := call_isObstacle hR x1 x2
  have hk : r.1 = 0 ∨ r.1 = 3 := by
    rcases hM with ⟨m1, m2, m3⟩ | ⟨m1, m2⟩
    · exact Or.inl m1
    · exact Or.inr (m1)
  have hth : q.2 = (if r.1 = 3 then 1 else 0) := by
    rcases hM with ⟨m1, m2, m3⟩ | ⟨m1, m2⟩
    · rw [m1, m2]; rfl
    · rw [m1, m2]; rfl
  have hans : ((if r.1 = 3 then 1 else 0) : Int32) = 0 → r.1 = 0 ∧ r.2 = q.1 := by
    intro z9
    rcases hM with ⟨m1, m2, m3⟩ | ⟨m1, m2⟩
    · exact ⟨m1, m3⟩
    · exact absurd z9 (by rw [m1]; decide)
  refine q_LWm hF hl.1 hK hA hZ hN hW mW_isObstacle ml_L_192 (v_isObstacle l D E (h 0) o x1 x2 _ _ r.1 r.2 fo (c_X7_isObstacle l hlt D E (h 0) (h 1) (h 2) (h 3) (h 4) (h 5) (h 6) (h 7) (h 8) (h 9) (h 10) (h 11) (h 12) (h 13) (h 14) (h 15) (h 16) (h 17) (h 18) (ss 0) (ss 1) (ss 10) (ss 11) (aa 0) x1 x2 r.1 r.2 e7) rfl rfl hk) [true, true, false, false, false, false, false, false, true, false, false, false, false, false, false, false, false, false, false, false, false, false, false, false, false, false, false, false, false, false, false, false, false, false, false, false, false, false, false, false, false, false, false, false, false, false, false, false, false, false, false, false, false, false, false, false, false, false, false, false, false, false, false, false, false, false, false, false, false, false, false, false, false, false, false, true] (Nat.le_of_ble_eq_true rfl) rfl rfl ⟨Nat.le_of_ble_eq_true rfl, Nat.le_of_ble_eq_true rfl⟩ ⟨Nat.le_trans (Nat.add_le_add_left (Nat.le_of_ble_eq_true rfl) cells) hc.1, Nat.le_trans (Nat.add_le_add_left (Nat.le_of_ble_eq_true rfl) slots) hc.2⟩ rfl rfl (Nat.le_of_ble_eq_true rfl) dL_law_743 (fun H locs hW => ?_)
  refine W.widen (Nat.add_le_add_left (Nat.le_of_ble_eq_true rfl : 1 ≤ 4) cells) (Nat.add_le_add_left (Nat.le_of_ble_eq_true rfl : 6 ≤ 24) slots) ?_
  have hW : WD D A s (w_LAW E h g o od ss aa ms ma (if r.1 = 0 then vp_updL fo 0 (if r.2 = 0 then 0 else 1) else fo) fd ++ w_pool E (h 19) hp pl po pa) H locs := hW
  refine lv_topi (fun z6 e6 => ?_)
  refine lv_istore (lv' := [(6, .int z6), (0, .ref b), (1, .ref (h 0)), (2, .ref (g 0)), (3, .ref o), (4, .ref od), (5, .int (nI i))]) hx hb dL_law_746 hl (by decide) rfl (fun ls hl => ?_)
  refine lv_aload_n hx hb dL_law_748 rfl (lv_at hl 3 rfl) ?_
  refine lv_aload_n hx hb dL_law_749 rfl (lv_at hl 1 rfl) ?_
  refine lv_iload hx hb dL_law_750 (lv_at hl 6 rfl) ?_
  refine lv_iconst (v := 1) hx hb dL_law_752 (by decide) ?_
  refine lv_iadd hx hb dL_law_753 ?_
  refine va_sld hx hb hX hbl hbA hW.2.2 i1 dL_law_754 ?_
  refine lv_topi (fun y1 ey1 => ?_)
  obtain rfl : x1 = y1 := ex1.trans ey1.symm
  refine lv_aload_n hx hb dL_law_755 rfl (lv_at hl 1 rfl) ?_
  refine lv_iload hx hb dL_law_756 (lv_at hl 6 rfl) ?_
  refine lv_iconst (v := 2) hx hb dL_law_758 (by decide) ?_
  refine lv_iadd hx hb dL_law_759 ?_
  refine va_sld hx hb hX hbl hbA hW.2.2 i2 dL_law_760 ?_
  refine lv_topi (fun y2 ey2 => ?_)
  obtain rfl : x2 = y2 := ex2.trans ey2.symm
  refine q_callIm hF hl.1 hK hA hZ hW mv_X8_isObstacle ml_L_194 (c_X8_isObstacle l D E TXL (g 0) (g 1) (g 2) (g 3) (g 4) (g 5) (g 6) (g 7) (g 8) (g 9) (g 10) (g 11) (g 12) (g 13) (g 14) (g 15) (g 16) (g 17) (g 18) (g 19) (ms 0) (ms 1) (ms 2) (ms 3) (ms 4) (ms 5) (ms 6) (ms 7) (ms 8) (ms 9) (ms 10) (ms 11) (ma 0) x1 x2 q.1 q.2 e8) [false, false, false, false, false, false, false, false, false, false, false, false, false, false, false, false, false, false, false, false, false, false, false, false, false, false, false, false, false, false, false, false, false, false, false, false, false, false, false, false, false, false, false, false, false, false, false, false, false, false, false, false, false, false, false, true, true] (Nat.le_of_ble_eq_true rfl) rfl rfl rfl rfl rfl ⟨Nat.le_of_ble_eq_true rfl, Nat.le_of_ble_eq_true rfl⟩ hc rfl rfl (Nat.le_of_ble_eq_true rfl) dL_law_761 (fun H locs hW => ?_)
  have hW : WD D A s (w_LAW E h g o od ss aa (va_up ms 4 q.2) ma (if r.1 = 0 then vp_updL fo 0 (if r.2 = 0 then 0 else 1) else fo) fd ++ w_pool E (h 19) hp pl po pa) H locs := hW
  refine lv_topi (fun z7 e7_ => ?_)
  refine lv_istore (lv' := [(7, .int z7), (6, .int z6), (0, .ref b), (1, .ref (h 0)), (2, .ref (g 0)), (3, .ref o), (4, .ref od), (5, .int (nI i))]) hx hb dL_law_764 hl (by decide) rfl (fun ls hl => ?_)
  refine lv_aload_n hx hb dL_law_766 rfl (lv_at hl 4 rfl) ?_
  refine q_callIm hF hl.1 hK hA hZ hW mv_X8_thrown ml_L_168 (c_X8_thrown l D E TXL (g 0) (g 1) (g 2) (g 3) (g 4) (g 5) (g 6) (g 7) (g 8) (g 9) (g 10) (g 11) (g 12) (g 13) (g 14) (g 15) (g 16) (g 17) (g 18) (g 19) (ms 0) (ms 1) (ms 2) (ms 3) q.2 (ms 5) (ms 6) (ms 7) (ms 8) (ms 9) (ms 10) (ms 11) q.2 rfl) [false, false, false, false, false, false, false, false, false, false, false, false, false, false, false, false, false, false, false, false, false, false, false, false, false, false, false, false, false, false, false, false, false, false, false, false, false, false, false, false, false, false, false, false, false, false, false, false, false, false, false, false, false, false, false, true] (Nat.le_of_ble_eq_true rfl) rfl rfl rfl rfl rfl ⟨Nat.le_of_ble_eq_true rfl, Nat.le_of_ble_eq_true rfl⟩ hc rfl rfl (Nat.le_of_ble_eq_true rfl) dL_law_767 (fun H locs hW => ?_)
  have hW : WD D A s (w_LAW E h g o od ss aa (va_up ms 4 q.2) ma (if r.1 = 0 then vp_updL fo 0 (if r.2 = 0 then 0 else 1) else fo) fd ++ w_pool E (h 19) hp pl po pa) H locs := hW
  refine lv_iload hx hb dL_law_770 (lv_at hl 1 rfl) ?_
  refine lv_icmp_eq (tgt := 777) hx hb dL_law_772 (by decide) (fun _ => ?_) (fun z => absurd (hth.trans e6.symm) z)
  refine lv_iload hx hb dL_law_777 (lv_at hl 1 rfl) ?_
  have hend : ∀ (ls : Array Slot), lv_has ls 9 [(7, .int z7), (6, .int z6), (0, .ref b), (1, .ref (h 0)), (2, .ref (g 0)), (3, .ref o), (4, .ref od), (5, .int (nI i))] → W p l e room_1 s m #[.ref b] below meth c H locs (cells + 4) (slots + 24) Q (F0 m 801 ls []) := fun ls hl => by
    refine lv_goto (tgt := 2740) hx hb dL_law_801 (by decide) ?_
    exact kk _ _ _ ⟨_, _, _, _, _, _, _, _, _, hR1, hW⟩ (lv_sub hl [2, 3, 4, 5, 6, 7] rfl)
  refine lv_if_ne (tgt := 801) hx hb dL_law_779 (by decide) (fun _ => hend ls hl) (fun z9 => ?_)
  obtain ⟨hk0, hv⟩ := hans (e6.symm.trans z9)
  refine lv_aload_n hx hb dL_law_782 rfl (lv_at hl 5 rfl) ?_
  refine lv_iconst (v := 0) hx hb dL_law_783 (by decide) ?_
  refine va_lald hx hb hK hW.1 75 4 rfl rfl (by unfold vp_in; decide) dL_law_784 ?_
  refine lv_topl (fun z8 e8_ => ?_)
  have e9 : z8 = (if r.2 = 0 then 0 else 1) := by
    rw [e8_, if_pos hk0]; rfl
  refine lv_iload hx hb dL_law_785 (lv_at hl 0 rfl) ?_
  refine lv_if_eq (tgt := 794) hx hb dL_law_787 (by decide) (fun hz7 => ?_) (fun hz7 => ?_)
  · refine lv_lconst (v := 0) hx hb dL_law_794 (by decide) ?_
    refine W.lcmp hx hb dL_law_795 ?_
    refine lv_if_eq (tgt := 801) hx hb dL_law_796 (by decide) (fun _ => hend ls hl) (fun z => absurd ?_ z)
    rw [e9, hv, ← e7_, if_pos hz7]
    exact lg_cmp_self _
  · refine lv_lconst (v := 1) hx hb dL_law_790 (by decide) ?_
    refine lv_goto (tgt := 795) hx hb dL_law_791 (by decide) ?_
    refine W.lcmp hx hb dL_law_795 ?_
    refine lv_if_eq (tgt := 801) hx hb dL_law_796 (by decide) (fun _ => hend ls hl) (fun z => absurd ?_ z)
    rw [e9, hv, ← e7_, if_neg hz7]
    exact lg_cmp_self _
set_option maxHeartbeats 4000000 in
set_option maxRecDepth 100000 in
theorem k_9 {p : Program} {l : Launch} {e : Env} {s : State} {m : MethodId} {below : List Frame} {meth : Method} {c : Code} {D : va_G} {E : Nat → ClassId} {A : Nat → Prop} {b N i : Nat} {xs : Nat → Int32} {h g : Nat → Nat} {hp : Nat → Nat → Nat} {o od : Nat} {Q : State → Prop} {H : Heap} {locs : List Loc} {cells slots : Nat} {ls : Array Slot} (C : LCC p l s m c D E A b N xs) (hi : i + 4 ≤ N) (S : LSS D E A s h g hp o od H locs) (hl : lv_has ls 9 [(0, .ref b), (1, .ref (h 0)), (2, .ref (g 0)), (3, .ref o), (4, .ref od), (5, .int (nI i))]) (hc : cells + 4 ≤ room_1.cells ∧ slots + 24 ≤ room_1.slots) (kk : ∀ (H : Heap) (locs : List Loc) (ls : Array Slot), LSS D E A s h g hp o od H locs → lv_has ls 9 [(0, .ref b), (1, .ref (h 0)), (2, .ref (g 0)), (3, .ref o), (4, .ref od), (5, .int (nI i))] → W p l e room_1 s m #[.ref b] below meth c H locs (cells + 4) (slots + 24) Q (F0 m 2740 ls [])) : W p l e room_1 s m #[.ref b] below meth c H locs cells slots Q (F0 m 804 ls []) := by
  obtain ⟨hF, hlt, hK, hA, hZ, hN, hX, hbl, hbA, hN9⟩ := C
  obtain ⟨ss, aa, pl, po, pa, ms, ma, fo, fd, hR, hW⟩ := S
  obtain ⟨i0, i1, i2, i3⟩ := ix_ok hi hN9
  have hx := hF.1
  have hb := hF.2.1
  refine lv_aload_n hx hb dL_law_804 rfl (lv_at hl 1 rfl) ?_
  refine lv_aload_n hx hb dL_law_805 rfl (lv_at hl 0 rfl) ?_
  refine lv_iload hx hb dL_law_806 (lv_at hl 5 rfl) ?_
  refine lv_iconst (v := 1) hx hb dL_law_808 (by decide) ?_
  refine lv_iadd hx hb dL_law_809 ?_
  refine va_sld hx hb hX hbl hbA hW.2.2 i1 dL_law_810 ?_
  refine lv_topi (fun x1 ex1 => ?_)
  refine lv_aload_n hx hb dL_law_811 rfl (lv_at hl 0 rfl) ?_
  refine lv_iload hx hb dL_law_812 (lv_at hl 5 rfl) ?_
  refine lv_iconst (v := 2) hx hb dL_law_814 (by decide) ?_
  refine lv_iadd hx hb dL_law_815 ?_
  refine va_sld hx hb hX hbl hbA hW.2.2 i2 dL_law_816 ?_
  refine lv_topi (fun x2 ex2 => ?_)
  obtain ⟨w2, rfl⟩ : ∃ z, z = x2 := ⟨_, rfl⟩
  have ew2 := ex2
  refine lv_if_eq (tgt := 824) hx hb dL_law_817 (by decide) (fun hz => ?_) (fun hz => ?_)
  · refine lv_iconst (v := 0) hx hb dL_law_824 (by decide) ?_
    refine lv_aload_n hx hb dL_law_825 rfl (lv_at hl 3 rfl) ?_
    obtain ⟨r, e7, q, e8, hM, hR1⟩ := call_obstacle hR x1 0
    have hk : r.1 = 0 ∨ r.1 = 3 := by
      rcases hM with ⟨m1, m2, m3⟩ | ⟨m1, m2⟩
      · exact Or.inl m1
      · exact Or.inr (m1)
    have hth : q.2 = (if r.1 = 3 then 1 else 0) := by
      rcases hM with ⟨m1, m2, m3⟩ | ⟨m1, m2⟩
      · rw [m1, m2]; rfl
      · rw [m1, m2]; rfl
    have hans : ((if r.1 = 3 then 1 else 0) : Int32) = 0 → r.1 = 0 ∧ r.2 = q.1 := by
      intro z9
      rcases hM with ⟨m1, m2, m3⟩ | ⟨m1, m2⟩
      · exact ⟨m1, m3⟩
      · exact absurd z9 (by rw [m1]; decide)
    refine q_LWm hF hl.1 hK hA hZ hN hW mW_obstacle ml_L_195 (v_obstacle l D E (h 0) o x1 0 _ _ r.1 r.2 fo (c_X7_obstacle l hlt D E (h 0) (h 1) (h 2) (h 3) (h 4) (h 5) (h 6) (h 7) (h 8) (h 9) (h 10) (h 11) (h 12) (h 13) (h 14) (h 15) (h 16) (h 17) (h 18) (ss 0) (ss 1) (ss 10) (ss 11) (aa 5) (aa 6) x1 0 r.1 r.2 e7) rfl rfl hk) [true, true, false, false, false, false, true, true, false, false, false, false, false, false, false, false, false, false, false, false, false, false, false, false, false, false, false, false, false, false, false, false, false, false, false, false, false, false, false, false, false, false, false, false, false, false, false, false, false, false, false, false, false, false, false, false, false, false, false, false, false, false, false, false, false, false, false, false, false, false, false, false, false, false, false, true] (Nat.le_of_ble_eq_true rfl) rfl rfl ⟨Nat.le_of_ble_eq_true rfl, Nat.le_of_ble_eq_true rfl⟩ ⟨Nat.le_trans (Nat.add_le_add_left (Nat.le_of_ble_eq_true rfl) cells) hc.1, Nat.le_trans (Nat.add_le_add_left (Nat.le_of_ble_eq_true rfl) slots) hc.2⟩ rfl rfl (Nat.le_of_ble_eq_true rfl) dL_law_826 (fun H locs hW => ?_)
    refine W.widen (Nat.add_le_add_left (Nat.le_of_ble_eq_true rfl : 1 ≤ 4) cells) (Nat.add_le_add_left (Nat.le_of_ble_eq_true rfl : 6 ≤ 24) slots) ?_
    have hW : WD D A s (w_LAW E h g o od ss aa ms ma (if r.1 = 0 then vp_updL fo 0 (r.2).toInt64 else fo) fd ++ w_pool E (h 19) hp pl po pa) H locs := hW
    refine lv_topi (fun z6 e6 => ?_)
    refine lv_istore (lv' := [(6, .int z6), (0, .ref b), (1, .ref (h 0)), (2, .ref (g 0)), (3, .ref o), (4, .ref od), (5, .int (nI i))]) hx hb dL_law_829 hl (by decide) rfl (fun ls hl => ?_)
    refine lv_aload_n hx hb dL_law_831 rfl (lv_at hl 3 rfl) ?_
    refine lv_aload_n hx hb dL_law_832 rfl (lv_at hl 1 rfl) ?_
    refine lv_iload hx hb dL_law_833 (lv_at hl 6 rfl) ?_
    refine lv_iconst (v := 1) hx hb dL_law_835 (by decide) ?_
    refine lv_iadd hx hb dL_law_836 ?_
    refine va_sld hx hb hX hbl hbA hW.2.2 i1 dL_law_837 ?_
    refine lv_topi (fun y1 ey1 => ?_)
    obtain rfl : x1 = y1 := ex1.trans ey1.symm
    refine lv_aload_n hx hb dL_law_838 rfl (lv_at hl 1 rfl) ?_
    refine lv_iload hx hb dL_law_839 (lv_at hl 6 rfl) ?_
    refine lv_iconst (v := 2) hx hb dL_law_841 (by decide) ?_
    refine lv_iadd hx hb dL_law_842 ?_
    refine va_sld hx hb hX hbl hbA hW.2.2 i2 dL_law_843 ?_
    refine lv_topi (fun y2 ey2 => ?_)
    obtain rfl : w2 = y2 := ew2.trans ey2.symm
    refine lv_if_eq (tgt := 851) hx hb dL_law_844 (by decide) (fun _ => ?_) (fun z => absurd hz z)
    refine lv_iconst (v := 0) hx hb dL_law_851 (by decide) ?_
    refine q_callIm hF hl.1 hK hA hZ hW mv_X8_obstacle ml_L_198 (c_X8_obstacle l D E TXL (g 0) (g 1) (g 2) (g 3) (g 4) (g 5) (g 6) (g 7) (g 8) (g 9) (g 10) (g 11) (g 12) (g 13) (g 14) (g 15) (g 16) (g 17) (g 18) (g 19) (ms 0) (ms 1) (ms 2) (ms 3) (ms 4) (ms 5) (ms 6) (ms 7) (ms 8) (ms 9) (ms 10) (ms 11) (ma 0) x1 0 q.1 q.2 e8) [false, false, false, false, false, false, false, false, false, false, false, false, false, false, false, false, false, false, false, false, false, false, false, false, false, false, false, false, false, false, false, false, false, false, false, false, false, false, false, false, false, false, false, false, false, false, false, false, false, false, false, false, false, false, false, true, true] (Nat.le_of_ble_eq_true rfl) rfl rfl rfl rfl rfl ⟨Nat.le_of_ble_eq_true rfl, Nat.le_of_ble_eq_true rfl⟩ hc rfl rfl (Nat.le_of_ble_eq_true rfl) dL_law_852 (fun H locs hW => ?_)
    have hW : WD D A s (w_LAW E h g o od ss aa (va_up ms 4 q.2) ma (if r.1 = 0 then vp_updL fo 0 (r.2).toInt64 else fo) fd ++ w_pool E (h 19) hp pl po pa) H locs := hW
    refine lv_topi (fun z7 e7_ => ?_)
    refine lv_istore (lv' := [(7, .int z7), (6, .int z6), (0, .ref b), (1, .ref (h 0)), (2, .ref (g 0)), (3, .ref o), (4, .ref od), (5, .int (nI i))]) hx hb dL_law_855 hl (by decide) rfl (fun ls hl => ?_)
    refine lv_aload_n hx hb dL_law_857 rfl (lv_at hl 4 rfl) ?_
    refine q_callIm hF hl.1 hK hA hZ hW mv_X8_thrown ml_L_168 (c_X8_thrown l D E TXL (g 0) (g 1) (g 2) (g 3) (g 4) (g 5) (g 6) (g 7) (g 8) (g 9) (g 10) (g 11) (g 12) (g 13) (g 14) (g 15) (g 16) (g 17) (g 18) (g 19) (ms 0) (ms 1) (ms 2) (ms 3) q.2 (ms 5) (ms 6) (ms 7) (ms 8) (ms 9) (ms 10) (ms 11) q.2 rfl) [false, false, false, false, false, false, false, false, false, false, false, false, false, false, false, false, false, false, false, false, false, false, false, false, false, false, false, false, false, false, false, false, false, false, false, false, false, false, false, false, false, false, false, false, false, false, false, false, false, false, false, false, false, false, false, true] (Nat.le_of_ble_eq_true rfl) rfl rfl rfl rfl rfl ⟨Nat.le_of_ble_eq_true rfl, Nat.le_of_ble_eq_true rfl⟩ hc rfl rfl (Nat.le_of_ble_eq_true rfl) dL_law_858 (fun H locs hW => ?_)
    have hW : WD D A s (w_LAW E h g o od ss aa (va_up ms 4 q.2) ma (if r.1 = 0 then vp_updL fo 0 (r.2).toInt64 else fo) fd ++ w_pool E (h 19) hp pl po pa) H locs := hW
    refine lv_iload hx hb dL_law_861 (lv_at hl 1 rfl) ?_
    refine lv_icmp_eq (tgt := 868) hx hb dL_law_863 (by decide) (fun _ => ?_) (fun z => absurd (hth.trans e6.symm) z)
    refine lv_iload hx hb dL_law_868 (lv_at hl 1 rfl) ?_
    have hend : ∀ (ls : Array Slot), lv_has ls 9 [(7, .int z7), (6, .int z6), (0, .ref b), (1, .ref (h 0)), (2, .ref (g 0)), (3, .ref o), (4, .ref od), (5, .int (nI i))] → W p l e room_1 s m #[.ref b] below meth c H locs (cells + 4) (slots + 24) Q (F0 m 885 ls []) := fun ls hl => by
      refine lv_goto (tgt := 2740) hx hb dL_law_885 (by decide) ?_
      exact kk _ _ _ ⟨_, _, _, _, _, _, _, _, _, hR1, hW⟩ (lv_sub hl [2, 3, 4, 5, 6, 7] rfl)
    refine lv_if_ne (tgt := 885) hx hb dL_law_870 (by decide) (fun _ => hend ls hl) (fun z9 => ?_)
    obtain ⟨hk0, hv⟩ := hans (e6.symm.trans z9)
    refine lv_aload_n hx hb dL_law_873 rfl (lv_at hl 5 rfl) ?_
    refine lv_iconst (v := 0) hx hb dL_law_874 (by decide) ?_
    refine va_lald hx hb hK hW.1 75 4 rfl rfl (by unfold vp_in; decide) dL_law_875 ?_
    refine lv_topl (fun z8 e8_ => ?_)
    have e9 : z8 = (r.2).toInt64 := by
      rw [e8_, if_pos hk0]; rfl
    refine lv_iload hx hb dL_law_876 (lv_at hl 0 rfl) ?_
    refine lv_i2l hx hb dL_law_878 rfl ?_
    refine W.lcmp hx hb dL_law_879 ?_
    refine lv_if_eq (tgt := 885) hx hb dL_law_880 (by decide) (fun _ => hend ls hl) (fun z => absurd ?_ z)
    rw [e9, hv, e7_]
    exact lg_cmp_self _
  · refine lv_iconst (v := 1) hx hb dL_law_820 (by decide) ?_
    refine lv_goto (tgt := 825) hx hb dL_law_821 (by decide) ?_
    refine lv_aload_n hx hb dL_law_825 rfl (lv_at hl 3 rfl) ?_
    obtain ⟨r, e7, q, e8, hM, hR1⟩ := call_obstacle hR x1 1
    have hk : r.1 = 0 ∨ r.1 = 3 := by
      rcases hM with ⟨m1, m2, m3⟩ | ⟨m1, m2⟩
      · exact Or.inl m1
      · exact Or.inr (m1)
    have hth : q.2 = (if r.1 = 3 then 1 else 0) := by
      rcases hM with ⟨m1, m2, m3⟩ | ⟨m1, m2⟩
      · rw [m1, m2]; rfl
      · rw [m1, m2]; rfl
    have hans : ((if r.1 = 3 then 1 else 0) : Int32) = 0 → r.1 = 0 ∧ r.2 = q.1 := by
      intro z9
      rcases hM with ⟨m1, m2, m3⟩ | ⟨m1, m2⟩
      · exact ⟨m1, m3⟩
      · exact absurd z9 (by rw [m1]; decide)
    refine q_LWm hF hl.1 hK hA hZ hN hW mW_obstacle ml_L_195 (v_obstacle l D E (h 0) o x1 1 _ _ r.1 r.2 fo (c_X7_obstacle l hlt D E (h 0) (h 1) (h 2) (h 3) (h 4) (h 5) (h 6) (h 7) (h 8) (h 9) (h 10) (h 11) (h 12) (h 13) (h 14) (h 15) (h 16) (h 17) (h 18) (ss 0) (ss 1) (ss 10) (ss 11) (aa 5) (aa 6) x1 1 r.1 r.2 e7) rfl rfl hk) [true, true, false, false, false, false, true, true, false, false, false, false, false, false, false, false, false, false, false, false, false, false, false, false, false, false, false, false, false, false, false, false, false, false, false, false, false, false, false, false, false, false, false, false, false, false, false, false, false, false, false, false, false, false, false, false, false, false, false, false, false, false, false, false, false, false, false, false, false, false, false, false, false, false, false, true] (Nat.le_of_ble_eq_true rfl) rfl rfl ⟨Nat.le_of_ble_eq_true rfl, Nat.le_of_ble_eq_true rfl⟩ ⟨Nat.le_trans (Nat.add_le_add_left (Nat.le_of_ble_eq_true rfl) cells) hc.1, Nat.le_trans (Nat.add_le_add_left (Nat.le_of_ble_eq_true rfl) slots) hc.2⟩ rfl rfl (Nat.le_of_ble_eq_true rfl) dL_law_826 (fun H locs hW => ?_)
    refine W.widen (Nat.add_le_add_left (Nat.le_of_ble_eq_true rfl : 1 ≤ 4) cells) (Nat.add_le_add_left (Nat.le_of_ble_eq_true rfl : 6 ≤ 24) slots) ?_
    have hW : WD D A s (w_LAW E h g o od ss aa ms ma (if r.1 = 0 then vp_updL fo 0 (r.2).toInt64 else fo) fd ++ w_pool E (h 19) hp pl po pa) H locs := hW
    refine lv_topi (fun z6 e6 => ?_)
    refine lv_istore (lv' := [(6, .int z6), (0, .ref b), (1, .ref (h 0)), (2, .ref (g 0)), (3, .ref o), (4, .ref od), (5, .int (nI i))]) hx hb dL_law_829 hl (by decide) rfl (fun ls hl => ?_)
    refine lv_aload_n hx hb dL_law_831 rfl (lv_at hl 3 rfl) ?_
    refine lv_aload_n hx hb dL_law_832 rfl (lv_at hl 1 rfl) ?_
    refine lv_iload hx hb dL_law_833 (lv_at hl 6 rfl) ?_
    refine lv_iconst (v := 1) hx hb dL_law_835 (by decide) ?_
    refine lv_iadd hx hb dL_law_836 ?_
    refine va_sld hx hb hX hbl hbA hW.2.2 i1 dL_law_837 ?_
    refine lv_topi (fun y1 ey1 => ?_)
    obtain rfl : x1 = y1 := ex1.trans ey1.symm
    refine lv_aload_n hx hb dL_law_838 rfl (lv_at hl 1 rfl) ?_
    refine lv_iload hx hb dL_law_839 (lv_at hl 6 rfl) ?_
    refine lv_iconst (v := 2) hx hb dL_law_841 (by decide) ?_
    refine lv_iadd hx hb dL_law_842 ?_
    refine va_sld hx hb hX hbl hbA hW.2.2 i2 dL_law_843 ?_
    refine lv_topi (fun y2 ey2 => ?_)
    obtain rfl : w2 = y2 := ew2.trans ey2.symm
    refine lv_if_eq (tgt := 851) hx hb dL_law_844 (by decide) (fun z => absurd z hz) (fun _ => ?_)
    refine lv_iconst (v := 1) hx hb dL_law_847 (by decide) ?_
    refine lv_goto (tgt := 852) hx hb dL_law_848 (by decide) ?_
    refine q_callIm hF hl.1 hK hA hZ hW mv_X8_obstacle ml_L_198 (c_X8_obstacle l D E TXL (g 0) (g 1) (g 2) (g 3) (g 4) (g 5) (g 6) (g 7) (g 8) (g 9) (g 10) (g 11) (g 12) (g 13) (g 14) (g 15) (g 16) (g 17) (g 18) (g 19) (ms 0) (ms 1) (ms 2) (ms 3) (ms 4) (ms 5) (ms 6) (ms 7) (ms 8) (ms 9) (ms 10) (ms 11) (ma 0) x1 1 q.1 q.2 e8) [false, false, false, false, false, false, false, false, false, false, false, false, false, false, false, false, false, false, false, false, false, false, false, false, false, false, false, false, false, false, false, false, false, false, false, false, false, false, false, false, false, false, false, false, false, false, false, false, false, false, false, false, false, false, false, true, true] (Nat.le_of_ble_eq_true rfl) rfl rfl rfl rfl rfl ⟨Nat.le_of_ble_eq_true rfl, Nat.le_of_ble_eq_true rfl⟩ hc rfl rfl (Nat.le_of_ble_eq_true rfl) dL_law_852 (fun H locs hW => ?_)
    have hW : WD D A s (w_LAW E h g o od ss aa (va_up ms 4 q.2) ma (if r.1 = 0 then vp_updL fo 0 (r.2).toInt64 else fo) fd ++ w_pool E (h 19) hp pl po pa) H locs := hW
    refine lv_topi (fun z7 e7_ => ?_)
    refine lv_istore (lv' := [(7, .int z7), (6, .int z6), (0, .ref b), (1, .ref (h 0)), (2, .ref (g 0)), (3, .ref o), (4, .ref od), (5, .int (nI i))]) hx hb dL_law_855 hl (by decide) rfl (fun ls hl => ?_)
    refine lv_aload_n hx hb dL_law_857 rfl (lv_at hl 4 rfl) ?_
    refine q_callIm hF hl.1 hK hA hZ hW mv_X8_thrown ml_L_168 (c_X8_thrown l D E TXL (g 0) (g 1) (g 2) (g 3) (g 4) (g 5) (g 6) (g 7) (g 8) (g 9) (g 10) (g 11) (g 12) (g 13) (g 14) (g 15) (g 16) (g 17) (g 18) (g 19) (ms 0) (ms 1) (ms 2) (ms 3) q.2 (ms 5) (ms 6) (ms 7) (ms 8) (ms 9) (ms 10) (ms 11) q.2 rfl) [false, false, false, false, false, false, false, false, false, false, false, false, false, false, false, false, false, false, false, false, false, false, false, false, false, false, false, false, false, false, false, false, false, false, false, false, false, false, false, false, false, false, false, false, false, false, false, false, false, false, false, false, false, false, false, true] (Nat.le_of_ble_eq_true rfl) rfl rfl rfl rfl rfl ⟨Nat.le_of_ble_eq_true rfl, Nat.le_of_ble_eq_true rfl⟩ hc rfl rfl (Nat.le_of_ble_eq_true rfl) dL_law_858 (fun H locs hW => ?_)
    have hW : WD D A s (w_LAW E h g o od ss aa (va_up ms 4 q.2) ma (if r.1 = 0 then vp_updL fo 0 (r.2).toInt64 else fo) fd ++ w_pool E (h 19) hp pl po pa) H locs := hW
    refine lv_iload hx hb dL_law_861 (lv_at hl 1 rfl) ?_
    refine lv_icmp_eq (tgt := 868) hx hb dL_law_863 (by decide) (fun _ => ?_) (fun z => absurd (hth.trans e6.symm) z)
    refine lv_iload hx hb dL_law_868 (lv_at hl 1 rfl) ?_
    have hend : ∀ (ls : Array Slot), lv_has ls 9 [(7, .int z7), (6, .int z6), (0, .ref b), (1, .ref (h 0)), (2, .ref (g 0)), (3, .ref o), (4, .ref od), (5, .int (nI i))] → W p l e room_1 s m #[.ref b] below meth c H locs (cells + 4) (slots + 24) Q (F0 m 885 ls []) := fun ls hl => by
      refine lv_goto (tgt := 2740) hx hb dL_law_885 (by decide) ?_
      exact kk _ _ _ ⟨_, _, _, _, _, _, _, _, _, hR1, hW⟩ (lv_sub hl [2, 3, 4, 5, 6, 7] rfl)
    refine lv_if_ne (tgt := 885) hx hb dL_law_870 (by decide) (fun _ => hend ls hl) (fun z9 => ?_)
    obtain ⟨hk0, hv⟩ := hans (e6.symm.trans z9)
    refine lv_aload_n hx hb dL_law_873 rfl (lv_at hl 5 rfl) ?_
    refine lv_iconst (v := 0) hx hb dL_law_874 (by decide) ?_
    refine va_lald hx hb hK hW.1 75 4 rfl rfl (by unfold vp_in; decide) dL_law_875 ?_
    refine lv_topl (fun z8 e8_ => ?_)
    have e9 : z8 = (r.2).toInt64 := by
      rw [e8_, if_pos hk0]; rfl
    refine lv_iload hx hb dL_law_876 (lv_at hl 0 rfl) ?_
    refine lv_i2l hx hb dL_law_878 rfl ?_
    refine W.lcmp hx hb dL_law_879 ?_
    refine lv_if_eq (tgt := 885) hx hb dL_law_880 (by decide) (fun _ => hend ls hl) (fun z => absurd ?_ z)
    rw [e9, hv, e7_]
    exact lg_cmp_self _
set_option maxHeartbeats 4000000 in
set_option maxRecDepth 100000 in
theorem k_10 {p : Program} {l : Launch} {e : Env} {s : State} {m : MethodId} {below : List Frame} {meth : Method} {c : Code} {D : va_G} {E : Nat → ClassId} {A : Nat → Prop} {b N i : Nat} {xs : Nat → Int32} {h g : Nat → Nat} {hp : Nat → Nat → Nat} {o od : Nat} {Q : State → Prop} {H : Heap} {locs : List Loc} {cells slots : Nat} {ls : Array Slot} (C : LCC p l s m c D E A b N xs) (hi : i + 4 ≤ N) (S : LSS D E A s h g hp o od H locs) (hl : lv_has ls 9 [(0, .ref b), (1, .ref (h 0)), (2, .ref (g 0)), (3, .ref o), (4, .ref od), (5, .int (nI i))]) (hc : cells + 4 ≤ room_1.cells ∧ slots + 24 ≤ room_1.slots) (kk : ∀ (H : Heap) (locs : List Loc) (ls : Array Slot), LSS D E A s h g hp o od H locs → lv_has ls 9 [(0, .ref b), (1, .ref (h 0)), (2, .ref (g 0)), (3, .ref o), (4, .ref od), (5, .int (nI i))] → W p l e room_1 s m #[.ref b] below meth c H locs (cells + 4) (slots + 24) Q (F0 m 2740 ls [])) : W p l e room_1 s m #[.ref b] below meth c H locs cells slots Q (F0 m 888 ls []) := by
  obtain ⟨hF, hlt, hK, hA, hZ, hN, hX, hbl, hbA, hN9⟩ := C
  obtain ⟨ss, aa, pl, po, pa, ms, ma, fo, fd, hR, hW⟩ := S
  obtain ⟨i0, i1, i2, i3⟩ := ix_ok hi hN9
  have hx := hF.1
  have hb := hF.2.1
  refine lv_aload_n hx hb dL_law_888 rfl (lv_at hl 1 rfl) ?_
  refine lv_aload_n hx hb dL_law_889 rfl (lv_at hl 0 rfl) ?_
  refine lv_iload hx hb dL_law_890 (lv_at hl 5 rfl) ?_
  refine lv_iconst (v := 1) hx hb dL_law_892 (by decide) ?_
  refine lv_iadd hx hb dL_law_893 ?_
  refine va_sld hx hb hX hbl hbA hW.2.2 i1 dL_law_894 ?_
  refine lv_topi (fun x1 ex1 => ?_)
  refine lv_aload_n hx hb dL_law_895 rfl (lv_at hl 0 rfl) ?_
  refine lv_iload hx hb dL_law_896 (lv_at hl 5 rfl) ?_
  refine lv_iconst (v := 2) hx hb dL_law_898 (by decide) ?_
  refine lv_iadd hx hb dL_law_899 ?_
  refine va_sld hx hb hX hbl hbA hW.2.2 i2 dL_law_900 ?_
  refine lv_topi (fun x2 ex2 => ?_)
  refine lv_aload_n hx hb dL_law_901 rfl (lv_at hl 3 rfl) ?_
  obtain ⟨r, e7, q, e8, hM, hR1⟩ := call_setValue hR x1 x2
  have hk : r.1 = 0 ∨ r.1 = 3 ∨ r.1 = 1 := by
    rcases hM with ⟨m1, m2, m3⟩ | ⟨m1, m2⟩ | ⟨m1, m2⟩
    · exact Or.inl m1
    · exact Or.inr (Or.inl m1)
    · exact Or.inr (Or.inr (m1))
  have hth : q.2.2.2.1 = (if r.1 = 3 then 1 else (if r.1 = 1 then 2 else 0)) := by
    rcases hM with ⟨m1, m2, m3⟩ | ⟨m1, m2⟩ | ⟨m1, m2⟩
    · rw [m1, m2]; rfl
    · rw [m1, m2]; rfl
    · rw [m1, m2]; rfl
  have hans : ((if r.1 = 3 then 1 else (if r.1 = 1 then 2 else 0)) : Int32) = 0 → r.1 = 0 ∧ r.2.1 = q.1 := by
    intro z9
    rcases hM with ⟨m1, m2, m3⟩ | ⟨m1, m2⟩ | ⟨m1, m2⟩
    · exact ⟨m1, m3⟩
    · exact absurd z9 (by rw [m1]; decide)
    · exact absurd z9 (by rw [m1]; decide)
  refine q_LWPm (pool_fst _ _ _ _ _ _ _ _ _) hF hl.1 hK hA hZ hN hW mW_setValue ml_L_199 (v_setValue l D E (h 0) o x1 x2 _ _ r.1 r.2.1 fo (c_X7_setValue l hlt D E (h 0) (h 1) (h 2) (h 3) (h 4) (h 5) (h 6) (h 7) (h 8) (h 9) (h 10) (h 11) (h 12) (h 13) (h 14) (h 15) (h 16) (h 17) (h 18) (h 19) (h 28) hp (ss 0) (ss 1) (ss 10) (ss 11) (aa 1) (aa 2) (aa 3) (aa 4) (aa 5) (aa 6) (aa 0) (ss 12) (ss 13) (ss 6) (ss 7) (ss 8) (ss 9) pl po pa x1 x2 r.1 r.2.1 r.2.2.1 r.2.2.2.1 r.2.2.2.2.1 r.2.2.2.2.2.1 r.2.2.2.2.2.2.1 r.2.2.2.2.2.2.2.1 r.2.2.2.2.2.2.2.2 e7) rfl (by rw [List.map_append, List.map_append]; rfl) hk) [true, true, true, true, true, true, true, true, true, false, false, false, false, false, false, false, false, false, false, false, false, false, false, false, false, true, false, false, false, false, false, false, false, false, false, false, false, false, false, false, false, false, false, false, true] 75 (Nat.le_of_ble_eq_true rfl) rfl rfl (Nat.le_of_ble_eq_true rfl) rfl rfl ⟨Nat.le_of_ble_eq_true rfl, Nat.le_of_ble_eq_true rfl⟩ ⟨Nat.le_trans (Nat.add_le_add_left (Nat.le_of_ble_eq_true rfl) cells) hc.1, Nat.le_trans (Nat.add_le_add_left (Nat.le_of_ble_eq_true rfl) slots) hc.2⟩ rfl rfl (Nat.le_of_ble_eq_true rfl) dL_law_902 (fun H locs hW => ?_)
  refine W.widen (Nat.add_le_add_left (Nat.le_of_ble_eq_true rfl : 1 ≤ 4) cells) (Nat.add_le_add_left (Nat.le_of_ble_eq_true rfl : 6 ≤ 24) slots) ?_
  have hW : WD D A s (w_LAW E h g o od (va_up (va_up (va_up ss 12 r.2.2.2.1) 13 r.2.2.2.2.1) 6 r.2.2.2.2.2.1) (va_up aa 4 r.2.2.1) ms ma (if r.1 = 0 then vp_updL fo 0 (r.2.1).toInt64 else fo) fd ++ w_pool E (h 19) hp r.2.2.2.2.2.2.1 r.2.2.2.2.2.2.2.1 r.2.2.2.2.2.2.2.2) H locs := hW
  refine lv_topi (fun z6 e6 => ?_)
  refine lv_istore (lv' := [(6, .int z6), (0, .ref b), (1, .ref (h 0)), (2, .ref (g 0)), (3, .ref o), (4, .ref od), (5, .int (nI i))]) hx hb dL_law_905 hl (by decide) rfl (fun ls hl => ?_)
  refine lv_aload_n hx hb dL_law_907 rfl (lv_at hl 3 rfl) ?_
  refine lv_aload_n hx hb dL_law_908 rfl (lv_at hl 1 rfl) ?_
  refine lv_iload hx hb dL_law_909 (lv_at hl 6 rfl) ?_
  refine lv_iconst (v := 1) hx hb dL_law_911 (by decide) ?_
  refine lv_iadd hx hb dL_law_912 ?_
  refine va_sld hx hb hX hbl hbA hW.2.2 i1 dL_law_913 ?_
  refine lv_topi (fun y1 ey1 => ?_)
  obtain rfl : x1 = y1 := ex1.trans ey1.symm
  refine lv_aload_n hx hb dL_law_914 rfl (lv_at hl 1 rfl) ?_
  refine lv_iload hx hb dL_law_915 (lv_at hl 6 rfl) ?_
  refine lv_iconst (v := 2) hx hb dL_law_917 (by decide) ?_
  refine lv_iadd hx hb dL_law_918 ?_
  refine va_sld hx hb hX hbl hbA hW.2.2 i2 dL_law_919 ?_
  refine lv_topi (fun y2 ey2 => ?_)
  obtain rfl : x2 = y2 := ex2.trans ey2.symm
  refine q_callIm hF hl.1 hK hA hZ hW mv_X8_setValue ml_L_201 (c_X8_setValue l D E TXL (g 0) (g 1) (g 2) (g 3) (g 4) (g 5) (g 6) (g 7) (g 8) (g 9) (g 10) (g 11) (g 12) (g 13) (g 14) (g 15) (g 16) (g 17) (g 18) (g 19) (ms 0) (ms 1) (ms 2) (ms 3) (ms 4) (ms 5) (ms 6) (ms 7) (ms 8) (ms 9) (ms 10) (ms 11) (ma 0) (ma 1) x1 x2 q.1 q.2.1 q.2.2.1 q.2.2.2.1 q.2.2.2.2.1 q.2.2.2.2.2 e8) [false, false, false, false, false, false, false, false, false, false, false, false, false, false, false, false, false, false, false, false, false, false, false, false, false, false, false, false, false, false, false, false, false, false, false, false, false, false, false, false, false, false, false, false, false, false, false, false, false, false, false, false, false, false, false, true, true, true] (Nat.le_of_ble_eq_true rfl) rfl rfl rfl rfl rfl ⟨Nat.le_of_ble_eq_true rfl, Nat.le_of_ble_eq_true rfl⟩ hc rfl rfl (Nat.le_of_ble_eq_true rfl) dL_law_920 (fun H locs hW => ?_)
  have hW : WD D A s (w_LAW E h g o od (va_up (va_up (va_up ss 12 r.2.2.2.1) 13 r.2.2.2.2.1) 6 r.2.2.2.2.2.1) (va_up aa 4 r.2.2.1) (va_up (va_up (va_up ms 1 q.2.1) 2 q.2.2.1) 4 q.2.2.2.1) (va_up (va_up ma 0 q.2.2.2.2.1) 1 q.2.2.2.2.2) (if r.1 = 0 then vp_updL fo 0 (r.2.1).toInt64 else fo) fd ++ w_pool E (h 19) hp r.2.2.2.2.2.2.1 r.2.2.2.2.2.2.2.1 r.2.2.2.2.2.2.2.2) H locs := hW
  refine lv_topi (fun z7 e7_ => ?_)
  refine lv_istore (lv' := [(7, .int z7), (6, .int z6), (0, .ref b), (1, .ref (h 0)), (2, .ref (g 0)), (3, .ref o), (4, .ref od), (5, .int (nI i))]) hx hb dL_law_923 hl (by decide) rfl (fun ls hl => ?_)
  refine lv_aload_n hx hb dL_law_925 rfl (lv_at hl 4 rfl) ?_
  refine q_callIm hF hl.1 hK hA hZ hW mv_X8_thrown ml_L_168 (c_X8_thrown l D E TXL (g 0) (g 1) (g 2) (g 3) (g 4) (g 5) (g 6) (g 7) (g 8) (g 9) (g 10) (g 11) (g 12) (g 13) (g 14) (g 15) (g 16) (g 17) (g 18) (g 19) (ms 0) q.2.1 q.2.2.1 (ms 3) q.2.2.2.1 (ms 5) (ms 6) (ms 7) (ms 8) (ms 9) (ms 10) (ms 11) q.2.2.2.1 rfl) [false, false, false, false, false, false, false, false, false, false, false, false, false, false, false, false, false, false, false, false, false, false, false, false, false, false, false, false, false, false, false, false, false, false, false, false, false, false, false, false, false, false, false, false, false, false, false, false, false, false, false, false, false, false, false, true] (Nat.le_of_ble_eq_true rfl) rfl rfl rfl rfl rfl ⟨Nat.le_of_ble_eq_true rfl, Nat.le_of_ble_eq_true rfl⟩ hc rfl rfl (Nat.le_of_ble_eq_true rfl) dL_law_926 (fun H locs hW => ?_)
  have hW : WD D A s (w_LAW E h g o od (va_up (va_up (va_up ss 12 r.2.2.2.1) 13 r.2.2.2.2.1) 6 r.2.2.2.2.2.1) (va_up aa 4 r.2.2.1) (va_up (va_up (va_up ms 1 q.2.1) 2 q.2.2.1) 4 q.2.2.2.1) (va_up (va_up ma 0 q.2.2.2.2.1) 1 q.2.2.2.2.2) (if r.1 = 0 then vp_updL fo 0 (r.2.1).toInt64 else fo) fd ++ w_pool E (h 19) hp r.2.2.2.2.2.2.1 r.2.2.2.2.2.2.2.1 r.2.2.2.2.2.2.2.2) H locs := hW
  refine lv_iload hx hb dL_law_929 (lv_at hl 1 rfl) ?_
  refine lv_icmp_eq (tgt := 936) hx hb dL_law_931 (by decide) (fun _ => ?_) (fun z => absurd (hth.trans e6.symm) z)
  refine lv_iload hx hb dL_law_936 (lv_at hl 1 rfl) ?_
  have hend : ∀ (ls : Array Slot), lv_has ls 9 [(7, .int z7), (6, .int z6), (0, .ref b), (1, .ref (h 0)), (2, .ref (g 0)), (3, .ref o), (4, .ref od), (5, .int (nI i))] → W p l e room_1 s m #[.ref b] below meth c H locs (cells + 4) (slots + 24) Q (F0 m 953 ls []) := fun ls hl => by
    refine lv_goto (tgt := 2740) hx hb dL_law_953 (by decide) ?_
    exact kk _ _ _ ⟨_, _, _, _, _, _, _, _, _, hR1, hW⟩ (lv_sub hl [2, 3, 4, 5, 6, 7] rfl)
  refine lv_if_ne (tgt := 953) hx hb dL_law_938 (by decide) (fun _ => hend ls hl) (fun z9 => ?_)
  obtain ⟨hk0, hv⟩ := hans (e6.symm.trans z9)
  refine lv_aload_n hx hb dL_law_941 rfl (lv_at hl 5 rfl) ?_
  refine lv_iconst (v := 0) hx hb dL_law_942 (by decide) ?_
  refine va_lald hx hb hK hW.1 75 4 rfl rfl (by unfold vp_in; decide) dL_law_943 ?_
  refine lv_topl (fun z8 e8_ => ?_)
  have e9 : z8 = (r.2.1).toInt64 := by
    rw [e8_, if_pos hk0]; rfl
  refine lv_iload hx hb dL_law_944 (lv_at hl 0 rfl) ?_
  refine lv_i2l hx hb dL_law_946 rfl ?_
  refine W.lcmp hx hb dL_law_947 ?_
  refine lv_if_eq (tgt := 953) hx hb dL_law_948 (by decide) (fun _ => hend ls hl) (fun z => absurd ?_ z)
  rw [e9, hv, e7_]
  exact lg_cmp_self _
set_option maxHeartbeats 4000000 in
set_option maxRecDepth 100000 in
theorem k_11 {p : Program} {l : Launch} {e : Env} {s : State} {m : MethodId} {below : List Frame} {meth : Method} {c : Code} {D : va_G} {E : Nat → ClassId} {A : Nat → Prop} {b N i : Nat} {xs : Nat → Int32} {h g : Nat → Nat} {hp : Nat → Nat → Nat} {o od : Nat} {Q : State → Prop} {H : Heap} {locs : List Loc} {cells slots : Nat} {ls : Array Slot} (C : LCC p l s m c D E A b N xs) (hi : i + 4 ≤ N) (S : LSS D E A s h g hp o od H locs) (hl : lv_has ls 9 [(0, .ref b), (1, .ref (h 0)), (2, .ref (g 0)), (3, .ref o), (4, .ref od), (5, .int (nI i))]) (hc : cells + 4 ≤ room_1.cells ∧ slots + 24 ≤ room_1.slots) (kk : ∀ (H : Heap) (locs : List Loc) (ls : Array Slot), LSS D E A s h g hp o od H locs → lv_has ls 9 [(0, .ref b), (1, .ref (h 0)), (2, .ref (g 0)), (3, .ref o), (4, .ref od), (5, .int (nI i))] → W p l e room_1 s m #[.ref b] below meth c H locs (cells + 4) (slots + 24) Q (F0 m 2740 ls [])) : W p l e room_1 s m #[.ref b] below meth c H locs cells slots Q (F0 m 956 ls []) := by
  obtain ⟨hF, hlt, hK, hA, hZ, hN, hX, hbl, hbA, hN9⟩ := C
  obtain ⟨ss, aa, pl, po, pa, ms, ma, fo, fd, hR, hW⟩ := S
  obtain ⟨i0, i1, i2, i3⟩ := ix_ok hi hN9
  have hx := hF.1
  have hb := hF.2.1
  refine lv_aload_n hx hb dL_law_956 rfl (lv_at hl 1 rfl) ?_
  refine lv_aload_n hx hb dL_law_957 rfl (lv_at hl 0 rfl) ?_
  refine lv_iload hx hb dL_law_958 (lv_at hl 5 rfl) ?_
  refine lv_iconst (v := 1) hx hb dL_law_960 (by decide) ?_
  refine lv_iadd hx hb dL_law_961 ?_
  refine va_sld hx hb hX hbl hbA hW.2.2 i1 dL_law_962 ?_
  refine lv_topi (fun x1 ex1 => ?_)
  refine lv_aload_n hx hb dL_law_963 rfl (lv_at hl 3 rfl) ?_
  obtain ⟨r, e7, q, e8, hM, hR1⟩ := call_move hR x1
  have hk : r.1 = 0 ∨ r.1 = 1 ∨ r.1 = 2 := by
    rcases hM with ⟨m1, m2, m3⟩ | ⟨m1, m2⟩ | ⟨m1, m2⟩
    · exact Or.inl m1
    · exact Or.inr (Or.inl m1)
    · exact Or.inr (Or.inr (m1))
  have hth : q.2.2.2.1 = (if r.1 = 1 then 1 else (if r.1 = 2 then 2 else 0)) := by
    rcases hM with ⟨m1, m2, m3⟩ | ⟨m1, m2⟩ | ⟨m1, m2⟩
    · rw [m1, m2]; rfl
    · rw [m1, m2]; rfl
    · rw [m1, m2]; rfl
  have hans : ((if r.1 = 1 then 1 else (if r.1 = 2 then 2 else 0)) : Int32) = 0 → r.1 = 0 ∧ r.2.1 = q.1 := by
    intro z9
    rcases hM with ⟨m1, m2, m3⟩ | ⟨m1, m2⟩ | ⟨m1, m2⟩
    · exact ⟨m1, m3⟩
    · exact absurd z9 (by rw [m1]; decide)
    · exact absurd z9 (by rw [m1]; decide)
  refine q_LWPm (pool_fst _ _ _ _ _ _ _ _ _) hF hl.1 hK hA hZ hN hW mW_move ml_L_202 (v_move l D E (h 0) o x1 _ _ r.1 r.2.1 fo (c_X7_move l hlt D E (h 0) (h 1) (h 2) (h 3) (h 4) (h 5) (h 6) (h 7) (h 8) (h 9) (h 10) (h 11) (h 12) (h 13) (h 14) (h 15) (h 16) (h 17) (h 18) (h 19) (h 29) (h 30) (h 31) (h 32) (h 28) hp (ss 0) (ss 1) (ss 10) (ss 11) (aa 1) (aa 2) (aa 3) (aa 4) (aa 5) (aa 6) (aa 0) (ss 12) (ss 13) (ss 14) (ss 15) (ss 16) (ss 17) (aa 7) (aa 8) (aa 9) (aa 10) (ss 6) (ss 7) (ss 8) (ss 9) (aa 11) pl po pa x1 r.1 r.2.1 r.2.2.1 r.2.2.2.1 r.2.2.2.2.1 r.2.2.2.2.2.1 r.2.2.2.2.2.2.1 r.2.2.2.2.2.2.2.1 r.2.2.2.2.2.2.2.2.1 r.2.2.2.2.2.2.2.2.2.1 r.2.2.2.2.2.2.2.2.2.2.1 r.2.2.2.2.2.2.2.2.2.2.2.1 r.2.2.2.2.2.2.2.2.2.2.2.2.1 r.2.2.2.2.2.2.2.2.2.2.2.2.2.1 r.2.2.2.2.2.2.2.2.2.2.2.2.2.2.1 r.2.2.2.2.2.2.2.2.2.2.2.2.2.2.2.1 r.2.2.2.2.2.2.2.2.2.2.2.2.2.2.2.2.1 r.2.2.2.2.2.2.2.2.2.2.2.2.2.2.2.2.2 e7) rfl (by rw [List.map_append, List.map_append]; rfl) hk) [true, true, true, true, true, true, true, true, true, false, false, false, false, false, false, false, false, false, false, false, false, false, false, false, false, true, false, true, false, true, false, true, false, true, false, true, false, false, false, false, false, false, false, false, true, false, false, false, false, false, false, false, false, false, true] 75 (Nat.le_of_ble_eq_true rfl) rfl rfl (Nat.le_of_ble_eq_true rfl) rfl rfl ⟨Nat.le_of_ble_eq_true rfl, Nat.le_of_ble_eq_true rfl⟩ ⟨Nat.le_trans (Nat.add_le_add_left (Nat.le_of_ble_eq_true rfl) cells) hc.1, Nat.le_trans (Nat.add_le_add_left (Nat.le_of_ble_eq_true rfl) slots) hc.2⟩ rfl rfl (Nat.le_of_ble_eq_true rfl) dL_law_964 (fun H locs hW => ?_)
  refine W.widen (Nat.add_le_add_left (Nat.le_of_ble_eq_true rfl : 1 ≤ 4) cells) (Nat.add_le_add_left (Nat.le_of_ble_eq_true rfl : 6 ≤ 24) slots) ?_
  have hW : WD D A s (w_LAW E h g o od (va_up (va_up (va_up (va_up (va_up (va_up (va_up ss 12 r.2.2.2.1) 13 r.2.2.2.2.1) 14 r.2.2.2.2.2.1) 15 r.2.2.2.2.2.2.1) 16 r.2.2.2.2.2.2.2.1) 17 r.2.2.2.2.2.2.2.2.1) 6 r.2.2.2.2.2.2.2.2.2.2.2.2.2.1) (va_up (va_up (va_up (va_up (va_up (va_up aa 4 r.2.2.1) 7 r.2.2.2.2.2.2.2.2.2.1) 8 r.2.2.2.2.2.2.2.2.2.2.1) 9 r.2.2.2.2.2.2.2.2.2.2.2.1) 10 r.2.2.2.2.2.2.2.2.2.2.2.2.1) 11 r.2.2.2.2.2.2.2.2.2.2.2.2.2.2.1) ms ma (if r.1 = 0 then vp_updL fo 0 (r.2.1).toInt64 else fo) fd ++ w_pool E (h 19) hp r.2.2.2.2.2.2.2.2.2.2.2.2.2.2.2.1 r.2.2.2.2.2.2.2.2.2.2.2.2.2.2.2.2.1 r.2.2.2.2.2.2.2.2.2.2.2.2.2.2.2.2.2) H locs := hW
  refine lv_topi (fun z6 e6 => ?_)
  refine lv_istore (lv' := [(6, .int z6), (0, .ref b), (1, .ref (h 0)), (2, .ref (g 0)), (3, .ref o), (4, .ref od), (5, .int (nI i))]) hx hb dL_law_967 hl (by decide) rfl (fun ls hl => ?_)
  refine lv_aload_n hx hb dL_law_969 rfl (lv_at hl 3 rfl) ?_
  refine lv_aload_n hx hb dL_law_970 rfl (lv_at hl 1 rfl) ?_
  refine lv_iload hx hb dL_law_971 (lv_at hl 6 rfl) ?_
  refine lv_iconst (v := 1) hx hb dL_law_973 (by decide) ?_
  refine lv_iadd hx hb dL_law_974 ?_
  refine va_sld hx hb hX hbl hbA hW.2.2 i1 dL_law_975 ?_
  refine lv_topi (fun y1 ey1 => ?_)
  obtain rfl : x1 = y1 := ex1.trans ey1.symm
  refine q_callIm hF hl.1 hK hA hZ hW mv_X8_move ml_L_204 (c_X8_move l D E TXL (g 0) (g 1) (g 2) (g 3) (g 4) (g 5) (g 6) (g 7) (g 8) (g 9) (g 10) (g 11) (g 12) (g 13) (g 14) (g 15) (g 16) (g 17) (g 18) (g 19) (ms 0) (ms 1) (ms 2) (ms 3) (ms 4) (ms 5) (ms 6) (ms 7) (ms 8) (ms 9) (ms 10) (ms 11) (ma 0) (ma 1) (ma 3) (ma 4) (ma 5) (ma 6) x1 q.1 q.2.1 q.2.2.1 q.2.2.2.1 q.2.2.2.2.1 q.2.2.2.2.2.1 q.2.2.2.2.2.2.1 q.2.2.2.2.2.2.2.1 q.2.2.2.2.2.2.2.2.1 q.2.2.2.2.2.2.2.2.2.1 q.2.2.2.2.2.2.2.2.2.2 e8) [false, false, false, false, false, false, false, false, false, false, false, false, false, false, false, false, false, false, false, false, false, false, false, false, false, false, false, false, false, false, false, false, false, false, false, false, false, false, false, false, false, false, false, false, false, false, false, false, false, false, false, false, false, false, false, true, true, true, false, false, false, true, false, true, false, true, true] (Nat.le_of_ble_eq_true rfl) rfl rfl rfl rfl rfl ⟨Nat.le_of_ble_eq_true rfl, Nat.le_of_ble_eq_true rfl⟩ hc rfl rfl (Nat.le_of_ble_eq_true rfl) dL_law_976 (fun H locs hW => ?_)
  have hW : WD D A s (w_LAW E h g o od (va_up (va_up (va_up (va_up (va_up (va_up (va_up ss 12 r.2.2.2.1) 13 r.2.2.2.2.1) 14 r.2.2.2.2.2.1) 15 r.2.2.2.2.2.2.1) 16 r.2.2.2.2.2.2.2.1) 17 r.2.2.2.2.2.2.2.2.1) 6 r.2.2.2.2.2.2.2.2.2.2.2.2.2.1) (va_up (va_up (va_up (va_up (va_up (va_up aa 4 r.2.2.1) 7 r.2.2.2.2.2.2.2.2.2.1) 8 r.2.2.2.2.2.2.2.2.2.2.1) 9 r.2.2.2.2.2.2.2.2.2.2.2.1) 10 r.2.2.2.2.2.2.2.2.2.2.2.2.1) 11 r.2.2.2.2.2.2.2.2.2.2.2.2.2.2.1) (va_up (va_up (va_up (va_up ms 1 q.2.1) 2 q.2.2.1) 4 q.2.2.2.1) 5 q.2.2.2.2.1) (va_up (va_up (va_up (va_up (va_up (va_up ma 0 q.2.2.2.2.2.1) 1 q.2.2.2.2.2.2.1) 3 q.2.2.2.2.2.2.2.1) 4 q.2.2.2.2.2.2.2.2.1) 5 q.2.2.2.2.2.2.2.2.2.1) 6 q.2.2.2.2.2.2.2.2.2.2) (if r.1 = 0 then vp_updL fo 0 (r.2.1).toInt64 else fo) fd ++ w_pool E (h 19) hp r.2.2.2.2.2.2.2.2.2.2.2.2.2.2.2.1 r.2.2.2.2.2.2.2.2.2.2.2.2.2.2.2.2.1 r.2.2.2.2.2.2.2.2.2.2.2.2.2.2.2.2.2) H locs := hW
  refine lv_topi (fun z7 e7_ => ?_)
  refine lv_istore (lv' := [(7, .int z7), (6, .int z6), (0, .ref b), (1, .ref (h 0)), (2, .ref (g 0)), (3, .ref o), (4, .ref od), (5, .int (nI i))]) hx hb dL_law_979 hl (by decide) rfl (fun ls hl => ?_)
  refine lv_aload_n hx hb dL_law_981 rfl (lv_at hl 4 rfl) ?_
  refine q_callIm hF hl.1 hK hA hZ hW mv_X8_thrown ml_L_168 (c_X8_thrown l D E TXL (g 0) (g 1) (g 2) (g 3) (g 4) (g 5) (g 6) (g 7) (g 8) (g 9) (g 10) (g 11) (g 12) (g 13) (g 14) (g 15) (g 16) (g 17) (g 18) (g 19) (ms 0) q.2.1 q.2.2.1 (ms 3) q.2.2.2.1 q.2.2.2.2.1 (ms 6) (ms 7) (ms 8) (ms 9) (ms 10) (ms 11) q.2.2.2.1 rfl) [false, false, false, false, false, false, false, false, false, false, false, false, false, false, false, false, false, false, false, false, false, false, false, false, false, false, false, false, false, false, false, false, false, false, false, false, false, false, false, false, false, false, false, false, false, false, false, false, false, false, false, false, false, false, false, true] (Nat.le_of_ble_eq_true rfl) rfl rfl rfl rfl rfl ⟨Nat.le_of_ble_eq_true rfl, Nat.le_of_ble_eq_true rfl⟩ hc rfl rfl (Nat.le_of_ble_eq_true rfl) dL_law_982 (fun H locs hW => ?_)
  have hW : WD D A s (w_LAW E h g o od (va_up (va_up (va_up (va_up (va_up (va_up (va_up ss 12 r.2.2.2.1) 13 r.2.2.2.2.1) 14 r.2.2.2.2.2.1) 15 r.2.2.2.2.2.2.1) 16 r.2.2.2.2.2.2.2.1) 17 r.2.2.2.2.2.2.2.2.1) 6 r.2.2.2.2.2.2.2.2.2.2.2.2.2.1) (va_up (va_up (va_up (va_up (va_up (va_up aa 4 r.2.2.1) 7 r.2.2.2.2.2.2.2.2.2.1) 8 r.2.2.2.2.2.2.2.2.2.2.1) 9 r.2.2.2.2.2.2.2.2.2.2.2.1) 10 r.2.2.2.2.2.2.2.2.2.2.2.2.1) 11 r.2.2.2.2.2.2.2.2.2.2.2.2.2.2.1) (va_up (va_up (va_up (va_up ms 1 q.2.1) 2 q.2.2.1) 4 q.2.2.2.1) 5 q.2.2.2.2.1) (va_up (va_up (va_up (va_up (va_up (va_up ma 0 q.2.2.2.2.2.1) 1 q.2.2.2.2.2.2.1) 3 q.2.2.2.2.2.2.2.1) 4 q.2.2.2.2.2.2.2.2.1) 5 q.2.2.2.2.2.2.2.2.2.1) 6 q.2.2.2.2.2.2.2.2.2.2) (if r.1 = 0 then vp_updL fo 0 (r.2.1).toInt64 else fo) fd ++ w_pool E (h 19) hp r.2.2.2.2.2.2.2.2.2.2.2.2.2.2.2.1 r.2.2.2.2.2.2.2.2.2.2.2.2.2.2.2.2.1 r.2.2.2.2.2.2.2.2.2.2.2.2.2.2.2.2.2) H locs := hW
  refine lv_iload hx hb dL_law_985 (lv_at hl 1 rfl) ?_
  refine lv_icmp_eq (tgt := 992) hx hb dL_law_987 (by decide) (fun _ => ?_) (fun z => absurd (hth.trans e6.symm) z)
  refine lv_iload hx hb dL_law_992 (lv_at hl 1 rfl) ?_
  have hend : ∀ (ls : Array Slot), lv_has ls 9 [(7, .int z7), (6, .int z6), (0, .ref b), (1, .ref (h 0)), (2, .ref (g 0)), (3, .ref o), (4, .ref od), (5, .int (nI i))] → W p l e room_1 s m #[.ref b] below meth c H locs (cells + 4) (slots + 24) Q (F0 m 1009 ls []) := fun ls hl => by
    refine lv_goto (tgt := 2740) hx hb dL_law_1009 (by decide) ?_
    exact kk _ _ _ ⟨_, _, _, _, _, _, _, _, _, hR1, hW⟩ (lv_sub hl [2, 3, 4, 5, 6, 7] rfl)
  refine lv_if_ne (tgt := 1009) hx hb dL_law_994 (by decide) (fun _ => hend ls hl) (fun z9 => ?_)
  obtain ⟨hk0, hv⟩ := hans (e6.symm.trans z9)
  refine lv_aload_n hx hb dL_law_997 rfl (lv_at hl 5 rfl) ?_
  refine lv_iconst (v := 0) hx hb dL_law_998 (by decide) ?_
  refine va_lald hx hb hK hW.1 75 4 rfl rfl (by unfold vp_in; decide) dL_law_999 ?_
  refine lv_topl (fun z8 e8_ => ?_)
  have e9 : z8 = (r.2.1).toInt64 := by
    rw [e8_, if_pos hk0]; rfl
  refine lv_iload hx hb dL_law_1000 (lv_at hl 0 rfl) ?_
  refine lv_i2l hx hb dL_law_1002 rfl ?_
  refine W.lcmp hx hb dL_law_1003 ?_
  refine lv_if_eq (tgt := 1009) hx hb dL_law_1004 (by decide) (fun _ => hend ls hl) (fun z => absurd ?_ z)
  rw [e9, hv, e7_]
  exact lg_cmp_self _
set_option maxHeartbeats 4000000 in
set_option maxRecDepth 100000 in
theorem k_12 {p : Program} {l : Launch} {e : Env} {s : State} {m : MethodId} {below : List Frame} {meth : Method} {c : Code} {D : va_G} {E : Nat → ClassId} {A : Nat → Prop} {b N i : Nat} {xs : Nat → Int32} {h g : Nat → Nat} {hp : Nat → Nat → Nat} {o od : Nat} {Q : State → Prop} {H : Heap} {locs : List Loc} {cells slots : Nat} {ls : Array Slot} (C : LCC p l s m c D E A b N xs) (hi : i + 4 ≤ N) (S : LSS D E A s h g hp o od H locs) (hl : lv_has ls 9 [(0, .ref b), (1, .ref (h 0)), (2, .ref (g 0)), (3, .ref o), (4, .ref od), (5, .int (nI i))]) (hc : cells + 4 ≤ room_1.cells ∧ slots + 24 ≤ room_1.slots) (kk : ∀ (H : Heap) (locs : List Loc) (ls : Array Slot), LSS D E A s h g hp o od H locs → lv_has ls 9 [(0, .ref b), (1, .ref (h 0)), (2, .ref (g 0)), (3, .ref o), (4, .ref od), (5, .int (nI i))] → W p l e room_1 s m #[.ref b] below meth c H locs (cells + 4) (slots + 24) Q (F0 m 2740 ls [])) : W p l e room_1 s m #[.ref b] below meth c H locs cells slots Q (F0 m 1012 ls []) := by
  obtain ⟨hF, hlt, hK, hA, hZ, hN, hX, hbl, hbA, hN9⟩ := C
  obtain ⟨ss, aa, pl, po, pa, ms, ma, fo, fd, hR, hW⟩ := S
  obtain ⟨i0, i1, i2, i3⟩ := ix_ok hi hN9
  have hx := hF.1
  have hb := hF.2.1
  refine lv_aload_n hx hb dL_law_1012 rfl (lv_at hl 1 rfl) ?_
  obtain ⟨r, e7, q, e8, hM, hR1⟩ := call_moves hR
  refine q_callIm hF hl.1 hK hA hZ hW mv_X7_moves ml_L_205 (c_X7_moves l D E TXL (h 0) (h 1) (h 2) (h 3) (h 4) (h 5) (h 6) (h 7) (h 8) (h 9) (h 10) (h 11) (h 12) (h 13) (h 14) (h 15) (h 16) (h 17) (h 18) (h 29) (h 30) (h 31) (h 32) (ss 0) (ss 1) (ss 10) (ss 11) (aa 1) (aa 2) (aa 3) (aa 4) (aa 0) (ss 14) (ss 15) (ss 16) (ss 17) (aa 7) (aa 8) (aa 9) (aa 10) (aa 11) r.1 r.2.1 r.2.2.1 r.2.2.2.1 r.2.2.2.2.1 r.2.2.2.2.2.1 r.2.2.2.2.2.2.1 r.2.2.2.2.2.2.2.1 r.2.2.2.2.2.2.2.2.1 r.2.2.2.2.2.2.2.2.2 e7) [true, true, true, true, true, true, false, false, true, false, false, false, false, false, false, false, false, false, false, false, false, false, false, false, false, false, false, true, false, true, false, true, false, true, false, true, false, false, false, false, false, false, false, false, false, false, false, false, false, false, false, false, false, false, true] (Nat.le_of_ble_eq_true rfl) rfl rfl rfl rfl rfl ⟨Nat.le_of_ble_eq_true rfl, Nat.le_of_ble_eq_true rfl⟩ ⟨Nat.le_of_add_right_le hc.1, Nat.le_of_add_right_le hc.2⟩ rfl rfl (Nat.le_of_ble_eq_true rfl) dL_law_1013 (fun H locs hW => ?_)
  refine W.widen (Nat.le_add_right cells 4) (Nat.le_add_right slots 24) ?_
  have hW : WD D A s (w_LAW E h g o od (va_up (va_up (va_up (va_up ss 14 r.2.1) 15 r.2.2.1) 16 r.2.2.2.1) 17 r.2.2.2.2.1) (va_up (va_up (va_up (va_up (va_up aa 7 r.2.2.2.2.2.1) 8 r.2.2.2.2.2.2.1) 9 r.2.2.2.2.2.2.2.1) 10 r.2.2.2.2.2.2.2.2.1) 11 r.2.2.2.2.2.2.2.2.2) ms ma fo fd ++ w_pool E (h 19) hp pl po pa) H locs := hW
  refine lv_aload_n hx hb dL_law_1016 rfl (lv_at hl 2 rfl) ?_
  refine q_callIm hF hl.1 hK hA hZ hW mv_X8_moves ml_L_208 (c_X8_moves l D E TXL (g 0) (g 1) (g 2) (g 3) (g 4) (g 5) (g 6) (g 7) (g 8) (g 9) (g 10) (g 11) (g 12) (g 13) (g 14) (g 15) (g 16) (g 17) (g 18) (g 19) (ms 0) (ms 1) (ms 2) (ms 3) (ms 4) (ms 5) (ms 6) (ms 7) (ms 8) (ms 9) (ms 10) (ms 11) (ma 0) (ma 3) (ma 4) (ma 5) (ma 6) q.1 q.2.1 q.2.2.1 q.2.2.2.1 q.2.2.2.2.1 q.2.2.2.2.2.1 q.2.2.2.2.2.2 e8) [false, false, false, false, false, false, false, false, false, false, false, false, false, false, false, false, false, false, false, false, false, false, false, false, false, false, false, false, false, false, false, false, false, false, false, false, false, false, false, false, false, false, false, false, false, false, false, false, false, false, false, false, false, false, false, true, true, false, false, false, false, true, false, true, false, true, true] (Nat.le_of_ble_eq_true rfl) rfl rfl rfl rfl rfl ⟨Nat.le_of_ble_eq_true rfl, Nat.le_of_ble_eq_true rfl⟩ hc rfl rfl (Nat.le_of_ble_eq_true rfl) dL_law_1017 (fun H locs hW => ?_)
  have hW : WD D A s (w_LAW E h g o od (va_up (va_up (va_up (va_up ss 14 r.2.1) 15 r.2.2.1) 16 r.2.2.2.1) 17 r.2.2.2.2.1) (va_up (va_up (va_up (va_up (va_up aa 7 r.2.2.2.2.2.1) 8 r.2.2.2.2.2.2.1) 9 r.2.2.2.2.2.2.2.1) 10 r.2.2.2.2.2.2.2.2.1) 11 r.2.2.2.2.2.2.2.2.2) (va_up (va_up ms 4 q.2.1) 5 q.2.2.1) (va_up (va_up (va_up (va_up ma 3 q.2.2.2.1) 4 q.2.2.2.2.1) 5 q.2.2.2.2.2.1) 6 q.2.2.2.2.2.2) fo fd ++ w_pool E (h 19) hp pl po pa) H locs := hW
  refine lv_icmp_eq (tgt := 2740) hx hb dL_law_1020 (by decide) (fun _ => ?_) (fun z => absurd hM z)
  exact kk _ _ _ ⟨_, _, _, _, _, _, _, _, _, hR1, hW⟩ hl
set_option maxHeartbeats 4000000 in
set_option maxRecDepth 100000 in
theorem k_13 {p : Program} {l : Launch} {e : Env} {s : State} {m : MethodId} {below : List Frame} {meth : Method} {c : Code} {D : va_G} {E : Nat → ClassId} {A : Nat → Prop} {b N i : Nat} {xs : Nat → Int32} {h g : Nat → Nat} {hp : Nat → Nat → Nat} {o od : Nat} {Q : State → Prop} {H : Heap} {locs : List Loc} {cells slots : Nat} {ls : Array Slot} (C : LCC p l s m c D E A b N xs) (hi : i + 4 ≤ N) (S : LSS D E A s h g hp o od H locs) (hl : lv_has ls 9 [(0, .ref b), (1, .ref (h 0)), (2, .ref (g 0)), (3, .ref o), (4, .ref od), (5, .int (nI i))]) (hc : cells + 4 ≤ room_1.cells ∧ slots + 24 ≤ room_1.slots) (kk : ∀ (H : Heap) (locs : List Loc) (ls : Array Slot), LSS D E A s h g hp o od H locs → lv_has ls 9 [(0, .ref b), (1, .ref (h 0)), (2, .ref (g 0)), (3, .ref o), (4, .ref od), (5, .int (nI i))] → W p l e room_1 s m #[.ref b] below meth c H locs (cells + 4) (slots + 24) Q (F0 m 2740 ls [])) : W p l e room_1 s m #[.ref b] below meth c H locs cells slots Q (F0 m 1025 ls []) := by
  obtain ⟨hF, hlt, hK, hA, hZ, hN, hX, hbl, hbA, hN9⟩ := C
  obtain ⟨ss, aa, pl, po, pa, ms, ma, fo, fd, hR, hW⟩ := S
  obtain ⟨i0, i1, i2, i3⟩ := ix_ok hi hN9
  have hx := hF.1
  have hb := hF.2.1
  refine lv_aload_n hx hb dL_law_1025 rfl (lv_at hl 1 rfl) ?_
  refine lv_aload_n hx hb dL_law_1026 rfl (lv_at hl 0 rfl) ?_
  refine lv_iload hx hb dL_law_1027 (lv_at hl 5 rfl) ?_
  refine lv_iconst (v := 1) hx hb dL_law_1029 (by decide) ?_
  refine lv_iadd hx hb dL_law_1030 ?_
  refine va_sld hx hb hX hbl hbA hW.2.2 i1 dL_law_1031 ?_
  refine lv_topi (fun x1 ex1 => ?_)
  obtain ⟨w1, rfl⟩ : ∃ z, z = x1 := ⟨_, rfl⟩
  have ew1 := ex1
  refine lv_if_eq (tgt := 1039) hx hb dL_law_1032 (by decide) (fun hz => ?_) (fun hz => ?_)
  · refine lv_iconst (v := 0) hx hb dL_law_1039 (by decide) ?_
    obtain ⟨r, e7, q, e8, hM, hR1⟩ := call_tip hR 0
    refine q_callIm hF hl.1 hK hA hZ hW mv_X7_tip ml_L_209 (c_X7_tip l D E TXL (h 0) (h 1) (h 2) (h 3) (h 4) (h 5) (h 6) (h 7) (h 8) (h 9) (h 10) (h 11) (h 12) (h 13) (h 14) (h 15) (h 16) (h 17) (h 18) (h 29) (h 30) (h 31) (h 32) (ss 0) (ss 1) (ss 10) (ss 11) (aa 1) (aa 4) (aa 0) (ss 14) (ss 15) (ss 16) (ss 17) (aa 7) (aa 8) (aa 9) (aa 10) 0 r.1 r.2.1 r.2.2.1 r.2.2.2.1 r.2.2.2.2.1 r.2.2.2.2.2.1 r.2.2.2.2.2.2.1 r.2.2.2.2.2.2.2.1 r.2.2.2.2.2.2.2.2 e7) [true, true, true, false, false, true, false, false, true, false, false, false, false, false, false, false, false, false, false, false, false, false, false, false, false, false, false, true, false, true, false, true, false, true, false, true] (Nat.le_of_ble_eq_true rfl) rfl rfl rfl rfl rfl ⟨Nat.le_of_ble_eq_true rfl, Nat.le_of_ble_eq_true rfl⟩ ⟨Nat.le_of_add_right_le hc.1, Nat.le_of_add_right_le hc.2⟩ rfl rfl (Nat.le_of_ble_eq_true rfl) dL_law_1040 (fun H locs hW => ?_)
    refine W.widen (Nat.le_add_right cells 4) (Nat.le_add_right slots 24) ?_
    have hW : WD D A s (w_LAW E h g o od (va_up (va_up (va_up (va_up ss 14 r.2.1) 15 r.2.2.1) 16 r.2.2.2.1) 17 r.2.2.2.2.1) (va_up (va_up (va_up (va_up aa 7 r.2.2.2.2.2.1) 8 r.2.2.2.2.2.2.1) 9 r.2.2.2.2.2.2.2.1) 10 r.2.2.2.2.2.2.2.2) ms ma fo fd ++ w_pool E (h 19) hp pl po pa) H locs := hW
    refine lv_aload_n hx hb dL_law_1043 rfl (lv_at hl 2 rfl) ?_
    refine lv_aload_n hx hb dL_law_1044 rfl (lv_at hl 0 rfl) ?_
    refine lv_iload hx hb dL_law_1045 (lv_at hl 5 rfl) ?_
    refine lv_iconst (v := 1) hx hb dL_law_1047 (by decide) ?_
    refine lv_iadd hx hb dL_law_1048 ?_
    refine va_sld hx hb hX hbl hbA hW.2.2 i1 dL_law_1049 ?_
    refine lv_topi (fun y1 ey1 => ?_)
    obtain rfl : w1 = y1 := ew1.trans ey1.symm
    refine lv_if_eq (tgt := 1057) hx hb dL_law_1050 (by decide) (fun _ => ?_) (fun z => absurd hz z)
    refine lv_iconst (v := 0) hx hb dL_law_1057 (by decide) ?_
    refine q_callIm hF hl.1 hK hA hZ hW mv_X8_tip ml_L_212 (c_X8_tip l D E TXL (g 0) (g 1) (g 2) (g 3) (g 4) (g 5) (g 6) (g 7) (g 8) (g 9) (g 10) (g 11) (g 12) (g 13) (g 14) (g 15) (g 16) (g 17) (g 18) (g 19) (ms 0) (ms 1) (ms 2) (ms 3) (ms 4) (ms 5) (ms 6) (ms 7) (ms 8) (ms 9) (ms 10) (ms 11) (ma 0) (ma 3) (ma 4) (ma 5) (ma 6) 0 q.1 q.2.1 q.2.2.1 q.2.2.2.1 q.2.2.2.2.1 q.2.2.2.2.2 e8) [false, false, false, false, false, false, false, false, false, false, false, false, false, false, false, false, false, false, false, false, false, false, false, false, false, false, false, false, false, false, false, false, false, false, false, false, false, false, false, false, false, false, false, false, false, false, false, false, false, false, false, false, false, false, false, true, true, false, false, false, false, true, false, true, false, true, true] (Nat.le_of_ble_eq_true rfl) rfl rfl rfl rfl rfl ⟨Nat.le_of_ble_eq_true rfl, Nat.le_of_ble_eq_true rfl⟩ hc rfl rfl (Nat.le_of_ble_eq_true rfl) dL_law_1058 (fun H locs hW => ?_)
    have hW : WD D A s (w_LAW E h g o od (va_up (va_up (va_up (va_up ss 14 r.2.1) 15 r.2.2.1) 16 r.2.2.2.1) 17 r.2.2.2.2.1) (va_up (va_up (va_up (va_up aa 7 r.2.2.2.2.2.1) 8 r.2.2.2.2.2.2.1) 9 r.2.2.2.2.2.2.2.1) 10 r.2.2.2.2.2.2.2.2) (va_up ms 4 q.2.1) (va_up (va_up (va_up (va_up ma 3 q.2.2.1) 4 q.2.2.2.1) 5 q.2.2.2.2.1) 6 q.2.2.2.2.2) fo fd ++ w_pool E (h 19) hp pl po pa) H locs := hW
    refine lv_icmp_eq (tgt := 2740) hx hb dL_law_1061 (by decide) (fun _ => ?_) (fun z => absurd hM z)
    exact kk _ _ _ ⟨_, _, _, _, _, _, _, _, _, hR1, hW⟩ hl
  · refine lv_iconst (v := 1) hx hb dL_law_1035 (by decide) ?_
    refine lv_goto (tgt := 1040) hx hb dL_law_1036 (by decide) ?_
    obtain ⟨r, e7, q, e8, hM, hR1⟩ := call_tip hR 1
    refine q_callIm hF hl.1 hK hA hZ hW mv_X7_tip ml_L_209 (c_X7_tip l D E TXL (h 0) (h 1) (h 2) (h 3) (h 4) (h 5) (h 6) (h 7) (h 8) (h 9) (h 10) (h 11) (h 12) (h 13) (h 14) (h 15) (h 16) (h 17) (h 18) (h 29) (h 30) (h 31) (h 32) (ss 0) (ss 1) (ss 10) (ss 11) (aa 1) (aa 4) (aa 0) (ss 14) (ss 15) (ss 16) (ss 17) (aa 7) (aa 8) (aa 9) (aa 10) 1 r.1 r.2.1 r.2.2.1 r.2.2.2.1 r.2.2.2.2.1 r.2.2.2.2.2.1 r.2.2.2.2.2.2.1 r.2.2.2.2.2.2.2.1 r.2.2.2.2.2.2.2.2 e7) [true, true, true, false, false, true, false, false, true, false, false, false, false, false, false, false, false, false, false, false, false, false, false, false, false, false, false, true, false, true, false, true, false, true, false, true] (Nat.le_of_ble_eq_true rfl) rfl rfl rfl rfl rfl ⟨Nat.le_of_ble_eq_true rfl, Nat.le_of_ble_eq_true rfl⟩ ⟨Nat.le_of_add_right_le hc.1, Nat.le_of_add_right_le hc.2⟩ rfl rfl (Nat.le_of_ble_eq_true rfl) dL_law_1040 (fun H locs hW => ?_)
    refine W.widen (Nat.le_add_right cells 4) (Nat.le_add_right slots 24) ?_
    have hW : WD D A s (w_LAW E h g o od (va_up (va_up (va_up (va_up ss 14 r.2.1) 15 r.2.2.1) 16 r.2.2.2.1) 17 r.2.2.2.2.1) (va_up (va_up (va_up (va_up aa 7 r.2.2.2.2.2.1) 8 r.2.2.2.2.2.2.1) 9 r.2.2.2.2.2.2.2.1) 10 r.2.2.2.2.2.2.2.2) ms ma fo fd ++ w_pool E (h 19) hp pl po pa) H locs := hW
    refine lv_aload_n hx hb dL_law_1043 rfl (lv_at hl 2 rfl) ?_
    refine lv_aload_n hx hb dL_law_1044 rfl (lv_at hl 0 rfl) ?_
    refine lv_iload hx hb dL_law_1045 (lv_at hl 5 rfl) ?_
    refine lv_iconst (v := 1) hx hb dL_law_1047 (by decide) ?_
    refine lv_iadd hx hb dL_law_1048 ?_
    refine va_sld hx hb hX hbl hbA hW.2.2 i1 dL_law_1049 ?_
    refine lv_topi (fun y1 ey1 => ?_)
    obtain rfl : w1 = y1 := ew1.trans ey1.symm
    refine lv_if_eq (tgt := 1057) hx hb dL_law_1050 (by decide) (fun z => absurd z hz) (fun _ => ?_)
    refine lv_iconst (v := 1) hx hb dL_law_1053 (by decide) ?_
    refine lv_goto (tgt := 1058) hx hb dL_law_1054 (by decide) ?_
    refine q_callIm hF hl.1 hK hA hZ hW mv_X8_tip ml_L_212 (c_X8_tip l D E TXL (g 0) (g 1) (g 2) (g 3) (g 4) (g 5) (g 6) (g 7) (g 8) (g 9) (g 10) (g 11) (g 12) (g 13) (g 14) (g 15) (g 16) (g 17) (g 18) (g 19) (ms 0) (ms 1) (ms 2) (ms 3) (ms 4) (ms 5) (ms 6) (ms 7) (ms 8) (ms 9) (ms 10) (ms 11) (ma 0) (ma 3) (ma 4) (ma 5) (ma 6) 1 q.1 q.2.1 q.2.2.1 q.2.2.2.1 q.2.2.2.2.1 q.2.2.2.2.2 e8) [false, false, false, false, false, false, false, false, false, false, false, false, false, false, false, false, false, false, false, false, false, false, false, false, false, false, false, false, false, false, false, false, false, false, false, false, false, false, false, false, false, false, false, false, false, false, false, false, false, false, false, false, false, false, false, true, true, false, false, false, false, true, false, true, false, true, true] (Nat.le_of_ble_eq_true rfl) rfl rfl rfl rfl rfl ⟨Nat.le_of_ble_eq_true rfl, Nat.le_of_ble_eq_true rfl⟩ hc rfl rfl (Nat.le_of_ble_eq_true rfl) dL_law_1058 (fun H locs hW => ?_)
    have hW : WD D A s (w_LAW E h g o od (va_up (va_up (va_up (va_up ss 14 r.2.1) 15 r.2.2.1) 16 r.2.2.2.1) 17 r.2.2.2.2.1) (va_up (va_up (va_up (va_up aa 7 r.2.2.2.2.2.1) 8 r.2.2.2.2.2.2.1) 9 r.2.2.2.2.2.2.2.1) 10 r.2.2.2.2.2.2.2.2) (va_up ms 4 q.2.1) (va_up (va_up (va_up (va_up ma 3 q.2.2.1) 4 q.2.2.2.1) 5 q.2.2.2.2.1) 6 q.2.2.2.2.2) fo fd ++ w_pool E (h 19) hp pl po pa) H locs := hW
    refine lv_icmp_eq (tgt := 2740) hx hb dL_law_1061 (by decide) (fun _ => ?_) (fun z => absurd hM z)
    exact kk _ _ _ ⟨_, _, _, _, _, _, _, _, _, hR1, hW⟩ hl
set_option maxHeartbeats 4000000 in
set_option maxRecDepth 100000 in
theorem k_14 {p : Program} {l : Launch} {e : Env} {s : State} {m : MethodId} {below : List Frame} {meth : Method} {c : Code} {D : va_G} {E : Nat → ClassId} {A : Nat → Prop} {b N i : Nat} {xs : Nat → Int32} {h g : Nat → Nat} {hp : Nat → Nat → Nat} {o od : Nat} {Q : State → Prop} {H : Heap} {locs : List Loc} {cells slots : Nat} {ls : Array Slot} (C : LCC p l s m c D E A b N xs) (hi : i + 4 ≤ N) (S : LSS D E A s h g hp o od H locs) (hl : lv_has ls 9 [(0, .ref b), (1, .ref (h 0)), (2, .ref (g 0)), (3, .ref o), (4, .ref od), (5, .int (nI i))]) (hc : cells + 4 ≤ room_1.cells ∧ slots + 24 ≤ room_1.slots) (kk : ∀ (H : Heap) (locs : List Loc) (ls : Array Slot), LSS D E A s h g hp o od H locs → lv_has ls 9 [(0, .ref b), (1, .ref (h 0)), (2, .ref (g 0)), (3, .ref o), (4, .ref od), (5, .int (nI i))] → W p l e room_1 s m #[.ref b] below meth c H locs (cells + 4) (slots + 24) Q (F0 m 2740 ls [])) : W p l e room_1 s m #[.ref b] below meth c H locs cells slots Q (F0 m 1066 ls []) := by
  obtain ⟨hF, hlt, hK, hA, hZ, hN, hX, hbl, hbA, hN9⟩ := C
  obtain ⟨ss, aa, pl, po, pa, ms, ma, fo, fd, hR, hW⟩ := S
  obtain ⟨i0, i1, i2, i3⟩ := ix_ok hi hN9
  have hx := hF.1
  have hb := hF.2.1
  refine lv_aload_n hx hb dL_law_1066 rfl (lv_at hl 1 rfl) ?_
  obtain ⟨r, e7, q, e8, hM, hR1⟩ := call_fault hR
  refine q_callIm hF hl.1 hK hA hZ hW mv_X7_fault ml_L_213 (c_X7_fault l D E TXL (h 0) (h 1) (h 2) (h 3) (h 4) (h 5) (h 6) (h 7) (h 8) (h 9) (h 10) (h 11) (h 12) (h 13) (h 14) (h 15) (h 16) (h 17) (h 18) (h 29) (h 30) (h 31) (h 32) (ss 0) (ss 1) (ss 10) (ss 11) (aa 1) (aa 4) (aa 0) (ss 14) (ss 15) (ss 16) (ss 17) (aa 7) (aa 8) (aa 9) (aa 10) r.1 r.2.1 r.2.2.1 r.2.2.2.1 r.2.2.2.2.1 r.2.2.2.2.2.1 r.2.2.2.2.2.2.1 r.2.2.2.2.2.2.2.1 r.2.2.2.2.2.2.2.2 e7) [true, true, true, false, false, true, false, false, true, false, false, false, false, false, false, false, false, false, false, false, false, false, false, false, false, false, false, true, false, true, false, true, false, true, false, true] (Nat.le_of_ble_eq_true rfl) rfl rfl rfl rfl rfl ⟨Nat.le_of_ble_eq_true rfl, Nat.le_of_ble_eq_true rfl⟩ ⟨Nat.le_of_add_right_le hc.1, Nat.le_of_add_right_le hc.2⟩ rfl rfl (Nat.le_of_ble_eq_true rfl) dL_law_1067 (fun H locs hW => ?_)
  refine W.widen (Nat.le_add_right cells 4) (Nat.le_add_right slots 24) ?_
  have hW : WD D A s (w_LAW E h g o od (va_up (va_up (va_up (va_up ss 14 r.2.1) 15 r.2.2.1) 16 r.2.2.2.1) 17 r.2.2.2.2.1) (va_up (va_up (va_up (va_up aa 7 r.2.2.2.2.2.1) 8 r.2.2.2.2.2.2.1) 9 r.2.2.2.2.2.2.2.1) 10 r.2.2.2.2.2.2.2.2) ms ma fo fd ++ w_pool E (h 19) hp pl po pa) H locs := hW
  refine lv_aload_n hx hb dL_law_1070 rfl (lv_at hl 2 rfl) ?_
  refine q_callIm hF hl.1 hK hA hZ hW mv_X8_fault ml_L_216 (c_X8_fault l D E TXL (g 0) (g 1) (g 2) (g 3) (g 4) (g 5) (g 6) (g 7) (g 8) (g 9) (g 10) (g 11) (g 12) (g 13) (g 14) (g 15) (g 16) (g 17) (g 18) (g 19) (ms 0) (ms 1) (ms 2) (ms 3) (ms 4) (ms 5) (ms 6) (ms 7) (ms 8) (ms 9) (ms 10) (ms 11) (ma 0) (ma 3) (ma 4) (ma 5) (ma 6) q.1 q.2.1 q.2.2.1 q.2.2.2.1 q.2.2.2.2.1 q.2.2.2.2.2.1 q.2.2.2.2.2.2 e8) [false, false, false, false, false, false, false, false, false, false, false, false, false, false, false, false, false, false, false, false, false, false, false, false, false, false, false, false, false, false, false, false, false, false, false, false, false, false, false, false, false, false, false, false, false, false, false, false, false, false, false, false, false, false, false, true, true, false, false, false, false, true, false, true, false, true, true] (Nat.le_of_ble_eq_true rfl) rfl rfl rfl rfl rfl ⟨Nat.le_of_ble_eq_true rfl, Nat.le_of_ble_eq_true rfl⟩ hc rfl rfl (Nat.le_of_ble_eq_true rfl) dL_law_1071 (fun H locs hW => ?_)
  have hW : WD D A s (w_LAW E h g o od (va_up (va_up (va_up (va_up ss 14 r.2.1) 15 r.2.2.1) 16 r.2.2.2.1) 17 r.2.2.2.2.1) (va_up (va_up (va_up (va_up aa 7 r.2.2.2.2.2.1) 8 r.2.2.2.2.2.2.1) 9 r.2.2.2.2.2.2.2.1) 10 r.2.2.2.2.2.2.2.2) (va_up (va_up ms 4 q.2.1) 5 q.2.2.1) (va_up (va_up (va_up (va_up ma 3 q.2.2.2.1) 4 q.2.2.2.2.1) 5 q.2.2.2.2.2.1) 6 q.2.2.2.2.2.2) fo fd ++ w_pool E (h 19) hp pl po pa) H locs := hW
  refine lv_icmp_eq (tgt := 2740) hx hb dL_law_1074 (by decide) (fun _ => ?_) (fun z => absurd hM z)
  exact kk _ _ _ ⟨_, _, _, _, _, _, _, _, _, hR1, hW⟩ hl
set_option maxHeartbeats 4000000 in
set_option maxRecDepth 100000 in
theorem k_15 {p : Program} {l : Launch} {e : Env} {s : State} {m : MethodId} {below : List Frame} {meth : Method} {c : Code} {D : va_G} {E : Nat → ClassId} {A : Nat → Prop} {b N i : Nat} {xs : Nat → Int32} {h g : Nat → Nat} {hp : Nat → Nat → Nat} {o od : Nat} {Q : State → Prop} {H : Heap} {locs : List Loc} {cells slots : Nat} {ls : Array Slot} (C : LCC p l s m c D E A b N xs) (hi : i + 4 ≤ N) (S : LSS D E A s h g hp o od H locs) (hl : lv_has ls 9 [(0, .ref b), (1, .ref (h 0)), (2, .ref (g 0)), (3, .ref o), (4, .ref od), (5, .int (nI i))]) (hc : cells + 4 ≤ room_1.cells ∧ slots + 24 ≤ room_1.slots) (kk : ∀ (H : Heap) (locs : List Loc) (ls : Array Slot), LSS D E A s h g hp o od H locs → lv_has ls 9 [(0, .ref b), (1, .ref (h 0)), (2, .ref (g 0)), (3, .ref o), (4, .ref od), (5, .int (nI i))] → W p l e room_1 s m #[.ref b] below meth c H locs (cells + 4) (slots + 24) Q (F0 m 2740 ls [])) : W p l e room_1 s m #[.ref b] below meth c H locs cells slots Q (F0 m 1079 ls []) := by
  obtain ⟨hF, hlt, hK, hA, hZ, hN, hX, hbl, hbA, hN9⟩ := C
  obtain ⟨ss, aa, pl, po, pa, ms, ma, fo, fd, hR, hW⟩ := S
  obtain ⟨i0, i1, i2, i3⟩ := ix_ok hi hN9
  have hx := hF.1
  have hb := hF.2.1
  refine lv_aload_n hx hb dL_law_1079 rfl (lv_at hl 1 rfl) ?_
  refine lv_aload_n hx hb dL_law_1080 rfl (lv_at hl 3 rfl) ?_
  obtain ⟨r, e7, q, e8, hM, hR1⟩ := call_faultyLink hR
  have hk : r.1 = 0 ∨ r.1 = 4 := by
    rcases hM with ⟨m1, m2, m3⟩ | ⟨m1, m2⟩
    · exact Or.inl m1
    · exact Or.inr (m1)
  have hth : q.2.1 = (if r.1 = 4 then 1 else 0) := by
    rcases hM with ⟨m1, m2, m3⟩ | ⟨m1, m2⟩
    · rw [m1, m2]; rfl
    · rw [m1, m2]; rfl
  have hans : ((if r.1 = 4 then 1 else 0) : Int32) = 0 → r.1 = 0 ∧ r.2.1 = q.1 := by
    intro z9
    rcases hM with ⟨m1, m2, m3⟩ | ⟨m1, m2⟩
    · exact ⟨m1, m3⟩
    · exact absurd z9 (by rw [m1]; decide)
  refine q_LWm hF hl.1 hK hA hZ hN hW mW_faultyLink ml_L_217 (v_faultyLink l D E (h 0) o _ _ r.1 r.2.1 fo (c_X7_faultyLink l hlt D E (h 0) (h 1) (h 2) (h 3) (h 4) (h 5) (h 6) (h 7) (h 8) (h 9) (h 10) (h 11) (h 12) (h 13) (h 14) (h 15) (h 16) (h 17) (h 18) (h 29) (h 30) (h 31) (h 32) (ss 0) (ss 1) (ss 10) (ss 11) (aa 1) (aa 4) (aa 0) (ss 14) (ss 15) (ss 16) (ss 17) (aa 7) (aa 8) (aa 9) (aa 10) r.1 r.2.1 r.2.2.1 r.2.2.2.1 r.2.2.2.2.1 r.2.2.2.2.2.1 r.2.2.2.2.2.2.1 r.2.2.2.2.2.2.2.1 r.2.2.2.2.2.2.2.2.1 r.2.2.2.2.2.2.2.2.2 e7) rfl rfl hk) [true, true, true, false, false, true, false, false, true, false, false, false, false, false, false, false, false, false, false, false, false, false, false, false, false, false, false, true, false, true, false, true, false, true, false, true, false, false, false, false, false, false, false, false, false, false, false, false, false, false, false, false, false, false, false, false, false, false, false, false, false, false, false, false, false, false, false, false, false, false, false, false, false, false, false, true] (Nat.le_of_ble_eq_true rfl) rfl rfl ⟨Nat.le_of_ble_eq_true rfl, Nat.le_of_ble_eq_true rfl⟩ ⟨Nat.le_trans (Nat.add_le_add_left (Nat.le_of_ble_eq_true rfl) cells) hc.1, Nat.le_trans (Nat.add_le_add_left (Nat.le_of_ble_eq_true rfl) slots) hc.2⟩ rfl rfl (Nat.le_of_ble_eq_true rfl) dL_law_1081 (fun H locs hW => ?_)
  refine W.widen (Nat.add_le_add_left (Nat.le_of_ble_eq_true rfl : 1 ≤ 4) cells) (Nat.add_le_add_left (Nat.le_of_ble_eq_true rfl : 6 ≤ 24) slots) ?_
  have hW : WD D A s (w_LAW E h g o od (va_up (va_up (va_up (va_up ss 14 r.2.2.1) 15 r.2.2.2.1) 16 r.2.2.2.2.1) 17 r.2.2.2.2.2.1) (va_up (va_up (va_up (va_up aa 7 r.2.2.2.2.2.2.1) 8 r.2.2.2.2.2.2.2.1) 9 r.2.2.2.2.2.2.2.2.1) 10 r.2.2.2.2.2.2.2.2.2) ms ma (if r.1 = 0 then vp_updL fo 0 (r.2.1).toInt64 else fo) fd ++ w_pool E (h 19) hp pl po pa) H locs := hW
  refine lv_topi (fun z6 e6 => ?_)
  refine lv_istore (lv' := [(6, .int z6), (0, .ref b), (1, .ref (h 0)), (2, .ref (g 0)), (3, .ref o), (4, .ref od), (5, .int (nI i))]) hx hb dL_law_1084 hl (by decide) rfl (fun ls hl => ?_)
  refine lv_aload_n hx hb dL_law_1086 rfl (lv_at hl 3 rfl) ?_
  refine q_callIm hF hl.1 hK hA hZ hW mv_X8_faultyLink ml_L_219 (c_X8_faultyLink l D E TXL (g 0) (g 1) (g 2) (g 3) (g 4) (g 5) (g 6) (g 7) (g 8) (g 9) (g 10) (g 11) (g 12) (g 13) (g 14) (g 15) (g 16) (g 17) (g 18) (g 19) (ms 0) (ms 1) (ms 2) (ms 3) (ms 4) (ms 5) (ms 6) (ms 7) (ms 8) (ms 9) (ms 10) (ms 11) (ma 0) (ma 3) (ma 4) (ma 5) (ma 6) q.1 q.2.1 q.2.2.1 q.2.2.2.1 q.2.2.2.2.1 q.2.2.2.2.2.1 q.2.2.2.2.2.2 e8) [false, false, false, false, false, false, false, false, false, false, false, false, false, false, false, false, false, false, false, false, false, false, false, false, false, false, false, false, false, false, false, false, false, false, false, false, false, false, false, false, false, false, false, false, false, false, false, false, false, false, false, false, false, false, false, true, true, false, false, false, false, true, false, true, false, true, true] (Nat.le_of_ble_eq_true rfl) rfl rfl rfl rfl rfl ⟨Nat.le_of_ble_eq_true rfl, Nat.le_of_ble_eq_true rfl⟩ hc rfl rfl (Nat.le_of_ble_eq_true rfl) dL_law_1087 (fun H locs hW => ?_)
  have hW : WD D A s (w_LAW E h g o od (va_up (va_up (va_up (va_up ss 14 r.2.2.1) 15 r.2.2.2.1) 16 r.2.2.2.2.1) 17 r.2.2.2.2.2.1) (va_up (va_up (va_up (va_up aa 7 r.2.2.2.2.2.2.1) 8 r.2.2.2.2.2.2.2.1) 9 r.2.2.2.2.2.2.2.2.1) 10 r.2.2.2.2.2.2.2.2.2) (va_up (va_up ms 4 q.2.1) 5 q.2.2.1) (va_up (va_up (va_up (va_up ma 3 q.2.2.2.1) 4 q.2.2.2.2.1) 5 q.2.2.2.2.2.1) 6 q.2.2.2.2.2.2) (if r.1 = 0 then vp_updL fo 0 (r.2.1).toInt64 else fo) fd ++ w_pool E (h 19) hp pl po pa) H locs := hW
  refine lv_topi (fun z7 e7_ => ?_)
  refine lv_istore (lv' := [(7, .int z7), (6, .int z6), (0, .ref b), (1, .ref (h 0)), (2, .ref (g 0)), (3, .ref o), (4, .ref od), (5, .int (nI i))]) hx hb dL_law_1090 hl (by decide) rfl (fun ls hl => ?_)
  refine lv_aload_n hx hb dL_law_1092 rfl (lv_at hl 4 rfl) ?_
  refine q_callIm hF hl.1 hK hA hZ hW mv_X8_thrown ml_L_168 (c_X8_thrown l D E TXL (g 0) (g 1) (g 2) (g 3) (g 4) (g 5) (g 6) (g 7) (g 8) (g 9) (g 10) (g 11) (g 12) (g 13) (g 14) (g 15) (g 16) (g 17) (g 18) (g 19) (ms 0) (ms 1) (ms 2) (ms 3) q.2.1 q.2.2.1 (ms 6) (ms 7) (ms 8) (ms 9) (ms 10) (ms 11) q.2.1 rfl) [false, false, false, false, false, false, false, false, false, false, false, false, false, false, false, false, false, false, false, false, false, false, false, false, false, false, false, false, false, false, false, false, false, false, false, false, false, false, false, false, false, false, false, false, false, false, false, false, false, false, false, false, false, false, false, true] (Nat.le_of_ble_eq_true rfl) rfl rfl rfl rfl rfl ⟨Nat.le_of_ble_eq_true rfl, Nat.le_of_ble_eq_true rfl⟩ hc rfl rfl (Nat.le_of_ble_eq_true rfl) dL_law_1093 (fun H locs hW => ?_)
  have hW : WD D A s (w_LAW E h g o od (va_up (va_up (va_up (va_up ss 14 r.2.2.1) 15 r.2.2.2.1) 16 r.2.2.2.2.1) 17 r.2.2.2.2.2.1) (va_up (va_up (va_up (va_up aa 7 r.2.2.2.2.2.2.1) 8 r.2.2.2.2.2.2.2.1) 9 r.2.2.2.2.2.2.2.2.1) 10 r.2.2.2.2.2.2.2.2.2) (va_up (va_up ms 4 q.2.1) 5 q.2.2.1) (va_up (va_up (va_up (va_up ma 3 q.2.2.2.1) 4 q.2.2.2.2.1) 5 q.2.2.2.2.2.1) 6 q.2.2.2.2.2.2) (if r.1 = 0 then vp_updL fo 0 (r.2.1).toInt64 else fo) fd ++ w_pool E (h 19) hp pl po pa) H locs := hW
  refine lv_iload hx hb dL_law_1096 (lv_at hl 1 rfl) ?_
  refine lv_icmp_eq (tgt := 1103) hx hb dL_law_1098 (by decide) (fun _ => ?_) (fun z => absurd (hth.trans e6.symm) z)
  refine lv_iload hx hb dL_law_1103 (lv_at hl 1 rfl) ?_
  have hend : ∀ (ls : Array Slot), lv_has ls 9 [(7, .int z7), (6, .int z6), (0, .ref b), (1, .ref (h 0)), (2, .ref (g 0)), (3, .ref o), (4, .ref od), (5, .int (nI i))] → W p l e room_1 s m #[.ref b] below meth c H locs (cells + 4) (slots + 24) Q (F0 m 1120 ls []) := fun ls hl => by
    refine lv_goto (tgt := 2740) hx hb dL_law_1120 (by decide) ?_
    exact kk _ _ _ ⟨_, _, _, _, _, _, _, _, _, hR1, hW⟩ (lv_sub hl [2, 3, 4, 5, 6, 7] rfl)
  refine lv_if_ne (tgt := 1120) hx hb dL_law_1105 (by decide) (fun _ => hend ls hl) (fun z9 => ?_)
  obtain ⟨hk0, hv⟩ := hans (e6.symm.trans z9)
  refine lv_aload_n hx hb dL_law_1108 rfl (lv_at hl 5 rfl) ?_
  refine lv_iconst (v := 0) hx hb dL_law_1109 (by decide) ?_
  refine va_lald hx hb hK hW.1 75 4 rfl rfl (by unfold vp_in; decide) dL_law_1110 ?_
  refine lv_topl (fun z8 e8_ => ?_)
  have e9 : z8 = (r.2.1).toInt64 := by
    rw [e8_, if_pos hk0]; rfl
  refine lv_iload hx hb dL_law_1111 (lv_at hl 0 rfl) ?_
  refine lv_i2l hx hb dL_law_1113 rfl ?_
  refine W.lcmp hx hb dL_law_1114 ?_
  refine lv_if_eq (tgt := 1120) hx hb dL_law_1115 (by decide) (fun _ => hend ls hl) (fun z => absurd ?_ z)
  rw [e9, hv, e7_]
  exact lg_cmp_self _
set_option maxHeartbeats 4000000 in
set_option maxRecDepth 100000 in
theorem k_16 {p : Program} {l : Launch} {e : Env} {s : State} {m : MethodId} {below : List Frame} {meth : Method} {c : Code} {D : va_G} {E : Nat → ClassId} {A : Nat → Prop} {b N i : Nat} {xs : Nat → Int32} {h g : Nat → Nat} {hp : Nat → Nat → Nat} {o od : Nat} {Q : State → Prop} {H : Heap} {locs : List Loc} {cells slots : Nat} {ls : Array Slot} (C : LCC p l s m c D E A b N xs) (hi : i + 4 ≤ N) (S : LSS D E A s h g hp o od H locs) (hl : lv_has ls 9 [(0, .ref b), (1, .ref (h 0)), (2, .ref (g 0)), (3, .ref o), (4, .ref od), (5, .int (nI i))]) (hc : cells + 4 ≤ room_1.cells ∧ slots + 24 ≤ room_1.slots) (kk : ∀ (H : Heap) (locs : List Loc) (ls : Array Slot), LSS D E A s h g hp o od H locs → lv_has ls 9 [(0, .ref b), (1, .ref (h 0)), (2, .ref (g 0)), (3, .ref o), (4, .ref od), (5, .int (nI i))] → W p l e room_1 s m #[.ref b] below meth c H locs (cells + 4) (slots + 24) Q (F0 m 2740 ls [])) : W p l e room_1 s m #[.ref b] below meth c H locs cells slots Q (F0 m 1123 ls []) := by
  obtain ⟨hF, hlt, hK, hA, hZ, hN, hX, hbl, hbA, hN9⟩ := C
  obtain ⟨ss, aa, pl, po, pa, ms, ma, fo, fd, hR, hW⟩ := S
  obtain ⟨i0, i1, i2, i3⟩ := ix_ok hi hN9
  have hx := hF.1
  have hb := hF.2.1
  refine lv_aload_n hx hb dL_law_1123 rfl (lv_at hl 1 rfl) ?_
  refine lv_aload_n hx hb dL_law_1124 rfl (lv_at hl 0 rfl) ?_
  refine lv_iload hx hb dL_law_1125 (lv_at hl 5 rfl) ?_
  refine lv_iconst (v := 1) hx hb dL_law_1127 (by decide) ?_
  refine lv_iadd hx hb dL_law_1128 ?_
  refine va_sld hx hb hX hbl hbA hW.2.2 i1 dL_law_1129 ?_
  refine lv_topi (fun x1 ex1 => ?_)
  refine lv_aload_n hx hb dL_law_1130 rfl (lv_at hl 0 rfl) ?_
  refine lv_iload hx hb dL_law_1131 (lv_at hl 5 rfl) ?_
  refine lv_iconst (v := 2) hx hb dL_law_1133 (by decide) ?_
  refine lv_iadd hx hb dL_law_1134 ?_
  refine va_sld hx hb hX hbl hbA hW.2.2 i2 dL_law_1135 ?_
  refine lv_topi (fun x2 ex2 => ?_)
  refine lv_aload_n hx hb dL_law_1136 rfl (lv_at hl 3 rfl) ?_
  obtain ⟨r, e7, q, e8, hM, hR1⟩ := call_linksAt hR x1 x2
  have hk : r.1 = 0 ∨ r.1 = 3 := by
    rcases hM with ⟨m1, m2, m3⟩ | ⟨m1, m2⟩
    · exact Or.inl m1
    · exact Or.inr (m1)
  have hth : q.2.1 = (if r.1 = 3 then 1 else 0) := by
    rcases hM with ⟨m1, m2, m3⟩ | ⟨m1, m2⟩
    · rw [m1, m2]; rfl
    · rw [m1, m2]; rfl
  have hans : ((if r.1 = 3 then 1 else 0) : Int32) = 0 → r.1 = 0 ∧ r.2.1 = q.1 := by
    intro z9
    rcases hM with ⟨m1, m2, m3⟩ | ⟨m1, m2⟩
    · exact ⟨m1, m3⟩
    · exact absurd z9 (by rw [m1]; decide)
  refine q_LWm hF hl.1 hK hA hZ hN hW mW_linksAt ml_L_220 (v_linksAt l D E (h 0) o x1 x2 _ _ r.1 r.2.1 fo (c_X7_linksAt l hlt D E (h 0) (h 1) (h 2) (h 3) (h 4) (h 5) (h 6) (h 7) (h 8) (h 9) (h 10) (h 11) (h 12) (h 13) (h 14) (h 15) (h 16) (h 17) (h 18) (h 29) (h 30) (h 31) (h 32) (ss 0) (ss 1) (ss 10) (ss 11) (aa 1) (aa 4) (aa 0) (ss 14) (ss 15) (ss 16) (ss 17) (aa 7) (aa 8) (aa 9) (aa 10) x1 x2 r.1 r.2.1 r.2.2.1 r.2.2.2.1 r.2.2.2.2.1 r.2.2.2.2.2.1 r.2.2.2.2.2.2.1 r.2.2.2.2.2.2.2.1 r.2.2.2.2.2.2.2.2.1 r.2.2.2.2.2.2.2.2.2 e7) rfl rfl hk) [true, true, true, false, false, true, false, false, true, false, false, false, false, false, false, false, false, false, false, false, false, false, false, false, false, false, false, true, false, true, false, true, false, true, false, true, false, false, false, false, false, false, false, false, false, false, false, false, false, false, false, false, false, false, false, false, false, false, false, false, false, false, false, false, false, false, false, false, false, false, false, false, false, false, false, true] (Nat.le_of_ble_eq_true rfl) rfl rfl ⟨Nat.le_of_ble_eq_true rfl, Nat.le_of_ble_eq_true rfl⟩ ⟨Nat.le_trans (Nat.add_le_add_left (Nat.le_of_ble_eq_true rfl) cells) hc.1, Nat.le_trans (Nat.add_le_add_left (Nat.le_of_ble_eq_true rfl) slots) hc.2⟩ rfl rfl (Nat.le_of_ble_eq_true rfl) dL_law_1137 (fun H locs hW => ?_)
  refine W.widen (Nat.add_le_add_left (Nat.le_of_ble_eq_true rfl : 1 ≤ 4) cells) (Nat.add_le_add_left (Nat.le_of_ble_eq_true rfl : 6 ≤ 24) slots) ?_
  have hW : WD D A s (w_LAW E h g o od (va_up (va_up (va_up (va_up ss 14 r.2.2.1) 15 r.2.2.2.1) 16 r.2.2.2.2.1) 17 r.2.2.2.2.2.1) (va_up (va_up (va_up (va_up aa 7 r.2.2.2.2.2.2.1) 8 r.2.2.2.2.2.2.2.1) 9 r.2.2.2.2.2.2.2.2.1) 10 r.2.2.2.2.2.2.2.2.2) ms ma (if r.1 = 0 then vp_updL fo 0 (r.2.1).toInt64 else fo) fd ++ w_pool E (h 19) hp pl po pa) H locs := hW
  refine lv_topi (fun z6 e6 => ?_)
  refine lv_istore (lv' := [(6, .int z6), (0, .ref b), (1, .ref (h 0)), (2, .ref (g 0)), (3, .ref o), (4, .ref od), (5, .int (nI i))]) hx hb dL_law_1140 hl (by decide) rfl (fun ls hl => ?_)
  refine lv_aload_n hx hb dL_law_1142 rfl (lv_at hl 3 rfl) ?_
  refine lv_aload_n hx hb dL_law_1143 rfl (lv_at hl 1 rfl) ?_
  refine lv_iload hx hb dL_law_1144 (lv_at hl 6 rfl) ?_
  refine lv_iconst (v := 1) hx hb dL_law_1146 (by decide) ?_
  refine lv_iadd hx hb dL_law_1147 ?_
  refine va_sld hx hb hX hbl hbA hW.2.2 i1 dL_law_1148 ?_
  refine lv_topi (fun y1 ey1 => ?_)
  obtain rfl : x1 = y1 := ex1.trans ey1.symm
  refine lv_aload_n hx hb dL_law_1149 rfl (lv_at hl 1 rfl) ?_
  refine lv_iload hx hb dL_law_1150 (lv_at hl 6 rfl) ?_
  refine lv_iconst (v := 2) hx hb dL_law_1152 (by decide) ?_
  refine lv_iadd hx hb dL_law_1153 ?_
  refine va_sld hx hb hX hbl hbA hW.2.2 i2 dL_law_1154 ?_
  refine lv_topi (fun y2 ey2 => ?_)
  obtain rfl : x2 = y2 := ex2.trans ey2.symm
  refine q_callIm hF hl.1 hK hA hZ hW mv_X8_linksAt ml_L_222 (c_X8_linksAt l D E TXL (g 0) (g 1) (g 2) (g 3) (g 4) (g 5) (g 6) (g 7) (g 8) (g 9) (g 10) (g 11) (g 12) (g 13) (g 14) (g 15) (g 16) (g 17) (g 18) (g 19) (ms 0) (ms 1) (ms 2) (ms 3) (ms 4) (ms 5) (ms 6) (ms 7) (ms 8) (ms 9) (ms 10) (ms 11) (ma 0) (ma 3) (ma 4) (ma 5) (ma 6) x1 x2 q.1 q.2.1 q.2.2.1 q.2.2.2.1 q.2.2.2.2.1 q.2.2.2.2.2 e8) [false, false, false, false, false, false, false, false, false, false, false, false, false, false, false, false, false, false, false, false, false, false, false, false, false, false, false, false, false, false, false, false, false, false, false, false, false, false, false, false, false, false, false, false, false, false, false, false, false, false, false, false, false, false, false, true, true, false, false, false, false, true, false, true, false, true, true] (Nat.le_of_ble_eq_true rfl) rfl rfl rfl rfl rfl ⟨Nat.le_of_ble_eq_true rfl, Nat.le_of_ble_eq_true rfl⟩ hc rfl rfl (Nat.le_of_ble_eq_true rfl) dL_law_1155 (fun H locs hW => ?_)
  have hW : WD D A s (w_LAW E h g o od (va_up (va_up (va_up (va_up ss 14 r.2.2.1) 15 r.2.2.2.1) 16 r.2.2.2.2.1) 17 r.2.2.2.2.2.1) (va_up (va_up (va_up (va_up aa 7 r.2.2.2.2.2.2.1) 8 r.2.2.2.2.2.2.2.1) 9 r.2.2.2.2.2.2.2.2.1) 10 r.2.2.2.2.2.2.2.2.2) (va_up ms 4 q.2.1) (va_up (va_up (va_up (va_up ma 3 q.2.2.1) 4 q.2.2.2.1) 5 q.2.2.2.2.1) 6 q.2.2.2.2.2) (if r.1 = 0 then vp_updL fo 0 (r.2.1).toInt64 else fo) fd ++ w_pool E (h 19) hp pl po pa) H locs := hW
  refine lv_topi (fun z7 e7_ => ?_)
  refine lv_istore (lv' := [(7, .int z7), (6, .int z6), (0, .ref b), (1, .ref (h 0)), (2, .ref (g 0)), (3, .ref o), (4, .ref od), (5, .int (nI i))]) hx hb dL_law_1158 hl (by decide) rfl (fun ls hl => ?_)
  refine lv_aload_n hx hb dL_law_1160 rfl (lv_at hl 4 rfl) ?_
  refine q_callIm hF hl.1 hK hA hZ hW mv_X8_thrown ml_L_168 (c_X8_thrown l D E TXL (g 0) (g 1) (g 2) (g 3) (g 4) (g 5) (g 6) (g 7) (g 8) (g 9) (g 10) (g 11) (g 12) (g 13) (g 14) (g 15) (g 16) (g 17) (g 18) (g 19) (ms 0) (ms 1) (ms 2) (ms 3) q.2.1 (ms 5) (ms 6) (ms 7) (ms 8) (ms 9) (ms 10) (ms 11) q.2.1 rfl) [false, false, false, false, false, false, false, false, false, false, false, false, false, false, false, false, false, false, false, false, false, false, false, false, false, false, false, false, false, false, false, false, false, false, false, false, false, false, false, false, false, false, false, false, false, false, false, false, false, false, false, false, false, false, false, true] (Nat.le_of_ble_eq_true rfl) rfl rfl rfl rfl rfl ⟨Nat.le_of_ble_eq_true rfl, Nat.le_of_ble_eq_true rfl⟩ hc rfl rfl (Nat.le_of_ble_eq_true rfl) dL_law_1161 (fun H locs hW => ?_)
  have hW : WD D A s (w_LAW E h g o od (va_up (va_up (va_up (va_up ss 14 r.2.2.1) 15 r.2.2.2.1) 16 r.2.2.2.2.1) 17 r.2.2.2.2.2.1) (va_up (va_up (va_up (va_up aa 7 r.2.2.2.2.2.2.1) 8 r.2.2.2.2.2.2.2.1) 9 r.2.2.2.2.2.2.2.2.1) 10 r.2.2.2.2.2.2.2.2.2) (va_up ms 4 q.2.1) (va_up (va_up (va_up (va_up ma 3 q.2.2.1) 4 q.2.2.2.1) 5 q.2.2.2.2.1) 6 q.2.2.2.2.2) (if r.1 = 0 then vp_updL fo 0 (r.2.1).toInt64 else fo) fd ++ w_pool E (h 19) hp pl po pa) H locs := hW
  refine lv_iload hx hb dL_law_1164 (lv_at hl 1 rfl) ?_
  refine lv_icmp_eq (tgt := 1171) hx hb dL_law_1166 (by decide) (fun _ => ?_) (fun z => absurd (hth.trans e6.symm) z)
  refine lv_iload hx hb dL_law_1171 (lv_at hl 1 rfl) ?_
  have hend : ∀ (ls : Array Slot), lv_has ls 9 [(7, .int z7), (6, .int z6), (0, .ref b), (1, .ref (h 0)), (2, .ref (g 0)), (3, .ref o), (4, .ref od), (5, .int (nI i))] → W p l e room_1 s m #[.ref b] below meth c H locs (cells + 4) (slots + 24) Q (F0 m 1188 ls []) := fun ls hl => by
    refine lv_goto (tgt := 2740) hx hb dL_law_1188 (by decide) ?_
    exact kk _ _ _ ⟨_, _, _, _, _, _, _, _, _, hR1, hW⟩ (lv_sub hl [2, 3, 4, 5, 6, 7] rfl)
  refine lv_if_ne (tgt := 1188) hx hb dL_law_1173 (by decide) (fun _ => hend ls hl) (fun z9 => ?_)
  obtain ⟨hk0, hv⟩ := hans (e6.symm.trans z9)
  refine lv_aload_n hx hb dL_law_1176 rfl (lv_at hl 5 rfl) ?_
  refine lv_iconst (v := 0) hx hb dL_law_1177 (by decide) ?_
  refine va_lald hx hb hK hW.1 75 4 rfl rfl (by unfold vp_in; decide) dL_law_1178 ?_
  refine lv_topl (fun z8 e8_ => ?_)
  have e9 : z8 = (r.2.1).toInt64 := by
    rw [e8_, if_pos hk0]; rfl
  refine lv_iload hx hb dL_law_1179 (lv_at hl 0 rfl) ?_
  refine lv_i2l hx hb dL_law_1181 rfl ?_
  refine W.lcmp hx hb dL_law_1182 ?_
  refine lv_if_eq (tgt := 1188) hx hb dL_law_1183 (by decide) (fun _ => hend ls hl) (fun z => absurd ?_ z)
  rw [e9, hv, e7_]
  exact lg_cmp_self _
set_option maxHeartbeats 4000000 in
set_option maxRecDepth 100000 in
theorem k_17 {p : Program} {l : Launch} {e : Env} {s : State} {m : MethodId} {below : List Frame} {meth : Method} {c : Code} {D : va_G} {E : Nat → ClassId} {A : Nat → Prop} {b N i : Nat} {xs : Nat → Int32} {h g : Nat → Nat} {hp : Nat → Nat → Nat} {o od : Nat} {Q : State → Prop} {H : Heap} {locs : List Loc} {cells slots : Nat} {ls : Array Slot} (C : LCC p l s m c D E A b N xs) (hi : i + 4 ≤ N) (S : LSS D E A s h g hp o od H locs) (hl : lv_has ls 9 [(0, .ref b), (1, .ref (h 0)), (2, .ref (g 0)), (3, .ref o), (4, .ref od), (5, .int (nI i))]) (hc : cells + 4 ≤ room_1.cells ∧ slots + 24 ≤ room_1.slots) (kk : ∀ (H : Heap) (locs : List Loc) (ls : Array Slot), LSS D E A s h g hp o od H locs → lv_has ls 9 [(0, .ref b), (1, .ref (h 0)), (2, .ref (g 0)), (3, .ref o), (4, .ref od), (5, .int (nI i))] → W p l e room_1 s m #[.ref b] below meth c H locs (cells + 4) (slots + 24) Q (F0 m 2740 ls [])) : W p l e room_1 s m #[.ref b] below meth c H locs cells slots Q (F0 m 1191 ls []) := by
  obtain ⟨hF, hlt, hK, hA, hZ, hN, hX, hbl, hbA, hN9⟩ := C
  obtain ⟨ss, aa, pl, po, pa, ms, ma, fo, fd, hR, hW⟩ := S
  obtain ⟨i0, i1, i2, i3⟩ := ix_ok hi hN9
  have hx := hF.1
  have hb := hF.2.1
  refine lv_aload_n hx hb dL_law_1191 rfl (lv_at hl 1 rfl) ?_
  obtain ⟨r, e7, q, e8, hM, hR1⟩ := call_poseNumber hR
  refine q_callIm hF hl.1 hK hA hZ hW mv_X7_poseNumber ml_L_223 (c_X7_poseNumber l D E TXL (h 0) (h 1) (h 2) (h 3) (h 4) (h 5) (h 6) (h 7) (h 8) (h 9) (h 10) (h 11) (h 12) (h 13) (h 14) (h 15) (h 16) (h 17) (h 18) (ss 0) (ss 1) (ss 10) (ss 11) (aa 2) (aa 3) (aa 4) r e7) [true, true, false, true, true, true] (Nat.le_of_ble_eq_true rfl) rfl rfl rfl rfl rfl ⟨Nat.le_of_ble_eq_true rfl, Nat.le_of_ble_eq_true rfl⟩ ⟨Nat.le_of_add_right_le hc.1, Nat.le_of_add_right_le hc.2⟩ rfl rfl (Nat.le_of_ble_eq_true rfl) dL_law_1192 (fun H locs hW => ?_)
  refine W.widen (Nat.le_add_right cells 4) (Nat.le_add_right slots 24) ?_
  have hW : WD D A s (w_LAW E h g o od ss aa ms ma fo fd ++ w_pool E (h 19) hp pl po pa) H locs := hW
  refine lv_aload_n hx hb dL_law_1195 rfl (lv_at hl 2 rfl) ?_
  refine q_callIm hF hl.1 hK hA hZ hW mv_X8_poseNumber ml_L_226 (c_X8_poseNumber l D E TXL (g 0) (g 1) (g 2) (g 3) (g 4) (g 5) (g 6) (g 7) (g 8) (g 9) (g 10) (g 11) (g 12) (g 13) (g 14) (g 15) (g 16) (g 17) (g 18) (g 19) (ms 0) (ms 1) (ms 2) (ms 3) (ms 4) (ms 5) (ms 6) (ms 7) (ms 8) (ms 9) (ms 10) (ms 11) (ma 0) q.1 q.2 e8) [false, false, false, false, false, false, false, false, false, false, false, false, false, false, false, false, false, false, false, false, false, false, false, false, false, false, false, false, false, false, false, false, false, false, false, false, false, false, false, false, false, false, false, false, false, false, false, false, false, false, false, false, false, false, false, true, true] (Nat.le_of_ble_eq_true rfl) rfl rfl rfl rfl rfl ⟨Nat.le_of_ble_eq_true rfl, Nat.le_of_ble_eq_true rfl⟩ hc rfl rfl (Nat.le_of_ble_eq_true rfl) dL_law_1196 (fun H locs hW => ?_)
  have hW : WD D A s (w_LAW E h g o od ss aa (va_up ms 4 q.2) ma fo fd ++ w_pool E (h 19) hp pl po pa) H locs := hW
  refine lv_icmp_eq (tgt := 2740) hx hb dL_law_1199 (by decide) (fun _ => ?_) (fun z => absurd hM z)
  exact kk _ _ _ ⟨_, _, _, _, _, _, _, _, _, hR1, hW⟩ hl
set_option maxHeartbeats 4000000 in
set_option maxRecDepth 100000 in
theorem k_18 {p : Program} {l : Launch} {e : Env} {s : State} {m : MethodId} {below : List Frame} {meth : Method} {c : Code} {D : va_G} {E : Nat → ClassId} {A : Nat → Prop} {b N i : Nat} {xs : Nat → Int32} {h g : Nat → Nat} {hp : Nat → Nat → Nat} {o od : Nat} {Q : State → Prop} {H : Heap} {locs : List Loc} {cells slots : Nat} {ls : Array Slot} (C : LCC p l s m c D E A b N xs) (hi : i + 4 ≤ N) (S : LSS D E A s h g hp o od H locs) (hl : lv_has ls 9 [(0, .ref b), (1, .ref (h 0)), (2, .ref (g 0)), (3, .ref o), (4, .ref od), (5, .int (nI i))]) (hc : cells + 4 ≤ room_1.cells ∧ slots + 24 ≤ room_1.slots) (kk : ∀ (H : Heap) (locs : List Loc) (ls : Array Slot), LSS D E A s h g hp o od H locs → lv_has ls 9 [(0, .ref b), (1, .ref (h 0)), (2, .ref (g 0)), (3, .ref o), (4, .ref od), (5, .int (nI i))] → W p l e room_1 s m #[.ref b] below meth c H locs (cells + 4) (slots + 24) Q (F0 m 2740 ls [])) : W p l e room_1 s m #[.ref b] below meth c H locs cells slots Q (F0 m 1204 ls []) := by
  obtain ⟨hF, hlt, hK, hA, hZ, hN, hX, hbl, hbA, hN9⟩ := C
  obtain ⟨ss, aa, pl, po, pa, ms, ma, fo, fd, hR, hW⟩ := S
  obtain ⟨i0, i1, i2, i3⟩ := ix_ok hi hN9
  have hx := hF.1
  have hb := hF.2.1
  refine lv_aload_n hx hb dL_law_1204 rfl (lv_at hl 1 rfl) ?_
  refine lv_aload_n hx hb dL_law_1205 rfl (lv_at hl 3 rfl) ?_
  obtain ⟨r, e7, q, e8, hM, hR1⟩ := call_clearance hR
  have hk : r.1 = 0 ∨ r.1 = 4 := by
    rcases hM with ⟨m1, m2, m3⟩ | ⟨m1, m2⟩
    · exact Or.inl m1
    · exact Or.inr (m1)
  have hth : q.2.1 = (if r.1 = 4 then 1 else 0) := by
    rcases hM with ⟨m1, m2, m3⟩ | ⟨m1, m2⟩
    · rw [m1, m2]; rfl
    · rw [m1, m2]; rfl
  have hans : ((if r.1 = 4 then 1 else 0) : Int32) = 0 → r.1 = 0 ∧ r.2.1 = q.1 := by
    intro z9
    rcases hM with ⟨m1, m2, m3⟩ | ⟨m1, m2⟩
    · exact ⟨m1, m3⟩
    · exact absurd z9 (by rw [m1]; decide)
  refine q_LWm hF hl.1 hK hA hZ hN hW mW_clearance ml_L_227 (v_clearance l D E (h 0) o _ _ r.1 r.2.1 fo (c_X7_clearance l hlt D E (h 0) (h 1) (h 2) (h 3) (h 4) (h 5) (h 6) (h 7) (h 8) (h 9) (h 10) (h 11) (h 12) (h 13) (h 14) (h 15) (h 16) (h 17) (h 18) (h 29) (h 30) (h 31) (h 32) (ss 0) (ss 1) (ss 10) (ss 11) (aa 1) (aa 4) (aa 5) (aa 6) (aa 0) (ss 14) (ss 15) (ss 16) (ss 17) (aa 7) (aa 8) (aa 9) (aa 10) r.1 r.2.1 r.2.2.1 r.2.2.2.1 r.2.2.2.2.1 r.2.2.2.2.2.1 r.2.2.2.2.2.2.1 r.2.2.2.2.2.2.2.1 r.2.2.2.2.2.2.2.2.1 r.2.2.2.2.2.2.2.2.2 e7) rfl rfl hk) [true, true, true, false, false, true, true, true, true, false, false, false, false, false, false, false, false, false, false, false, false, false, false, false, false, false, false, true, false, true, false, true, false, true, false, true, false, false, false, false, false, false, false, false, false, false, false, false, false, false, false, false, false, false, false, false, false, false, false, false, false, false, false, false, false, false, false, false, false, false, false, false, false, false, false, true] (Nat.le_of_ble_eq_true rfl) rfl rfl ⟨Nat.le_of_ble_eq_true rfl, Nat.le_of_ble_eq_true rfl⟩ ⟨Nat.le_trans (Nat.add_le_add_left (Nat.le_of_ble_eq_true rfl) cells) hc.1, Nat.le_trans (Nat.add_le_add_left (Nat.le_of_ble_eq_true rfl) slots) hc.2⟩ rfl rfl (Nat.le_of_ble_eq_true rfl) dL_law_1206 (fun H locs hW => ?_)
  refine W.widen (Nat.add_le_add_left (Nat.le_of_ble_eq_true rfl : 1 ≤ 4) cells) (Nat.add_le_add_left (Nat.le_of_ble_eq_true rfl : 6 ≤ 24) slots) ?_
  have hW : WD D A s (w_LAW E h g o od (va_up (va_up (va_up (va_up ss 14 r.2.2.1) 15 r.2.2.2.1) 16 r.2.2.2.2.1) 17 r.2.2.2.2.2.1) (va_up (va_up (va_up (va_up aa 7 r.2.2.2.2.2.2.1) 8 r.2.2.2.2.2.2.2.1) 9 r.2.2.2.2.2.2.2.2.1) 10 r.2.2.2.2.2.2.2.2.2) ms ma (if r.1 = 0 then vp_updL fo 0 (r.2.1).toInt64 else fo) fd ++ w_pool E (h 19) hp pl po pa) H locs := hW
  refine lv_topi (fun z6 e6 => ?_)
  refine lv_istore (lv' := [(6, .int z6), (0, .ref b), (1, .ref (h 0)), (2, .ref (g 0)), (3, .ref o), (4, .ref od), (5, .int (nI i))]) hx hb dL_law_1209 hl (by decide) rfl (fun ls hl => ?_)
  refine lv_aload_n hx hb dL_law_1211 rfl (lv_at hl 3 rfl) ?_
  refine q_callIm hF hl.1 hK hA hZ hW mv_X8_clearance ml_L_229 (c_X8_clearance l D E TXL (g 0) (g 1) (g 2) (g 3) (g 4) (g 5) (g 6) (g 7) (g 8) (g 9) (g 10) (g 11) (g 12) (g 13) (g 14) (g 15) (g 16) (g 17) (g 18) (g 19) (ms 0) (ms 1) (ms 2) (ms 3) (ms 4) (ms 5) (ms 6) (ms 7) (ms 8) (ms 9) (ms 10) (ms 11) (ma 0) (ma 3) (ma 4) (ma 5) (ma 6) q.1 q.2.1 q.2.2.1 q.2.2.2.1 q.2.2.2.2.1 q.2.2.2.2.2 e8) [false, false, false, false, false, false, false, false, false, false, false, false, false, false, false, false, false, false, false, false, false, false, false, false, false, false, false, false, false, false, false, false, false, false, false, false, false, false, false, false, false, false, false, false, false, false, false, false, false, false, false, false, false, false, false, true, true, false, false, false, false, true, false, true, false, true, true] (Nat.le_of_ble_eq_true rfl) rfl rfl rfl rfl rfl ⟨Nat.le_of_ble_eq_true rfl, Nat.le_of_ble_eq_true rfl⟩ hc rfl rfl (Nat.le_of_ble_eq_true rfl) dL_law_1212 (fun H locs hW => ?_)
  have hW : WD D A s (w_LAW E h g o od (va_up (va_up (va_up (va_up ss 14 r.2.2.1) 15 r.2.2.2.1) 16 r.2.2.2.2.1) 17 r.2.2.2.2.2.1) (va_up (va_up (va_up (va_up aa 7 r.2.2.2.2.2.2.1) 8 r.2.2.2.2.2.2.2.1) 9 r.2.2.2.2.2.2.2.2.1) 10 r.2.2.2.2.2.2.2.2.2) (va_up ms 4 q.2.1) (va_up (va_up (va_up (va_up ma 3 q.2.2.1) 4 q.2.2.2.1) 5 q.2.2.2.2.1) 6 q.2.2.2.2.2) (if r.1 = 0 then vp_updL fo 0 (r.2.1).toInt64 else fo) fd ++ w_pool E (h 19) hp pl po pa) H locs := hW
  refine lv_topi (fun z7 e7_ => ?_)
  refine lv_istore (lv' := [(7, .int z7), (6, .int z6), (0, .ref b), (1, .ref (h 0)), (2, .ref (g 0)), (3, .ref o), (4, .ref od), (5, .int (nI i))]) hx hb dL_law_1215 hl (by decide) rfl (fun ls hl => ?_)
  refine lv_aload_n hx hb dL_law_1217 rfl (lv_at hl 4 rfl) ?_
  refine q_callIm hF hl.1 hK hA hZ hW mv_X8_thrown ml_L_168 (c_X8_thrown l D E TXL (g 0) (g 1) (g 2) (g 3) (g 4) (g 5) (g 6) (g 7) (g 8) (g 9) (g 10) (g 11) (g 12) (g 13) (g 14) (g 15) (g 16) (g 17) (g 18) (g 19) (ms 0) (ms 1) (ms 2) (ms 3) q.2.1 (ms 5) (ms 6) (ms 7) (ms 8) (ms 9) (ms 10) (ms 11) q.2.1 rfl) [false, false, false, false, false, false, false, false, false, false, false, false, false, false, false, false, false, false, false, false, false, false, false, false, false, false, false, false, false, false, false, false, false, false, false, false, false, false, false, false, false, false, false, false, false, false, false, false, false, false, false, false, false, false, false, true] (Nat.le_of_ble_eq_true rfl) rfl rfl rfl rfl rfl ⟨Nat.le_of_ble_eq_true rfl, Nat.le_of_ble_eq_true rfl⟩ hc rfl rfl (Nat.le_of_ble_eq_true rfl) dL_law_1218 (fun H locs hW => ?_)
  have hW : WD D A s (w_LAW E h g o od (va_up (va_up (va_up (va_up ss 14 r.2.2.1) 15 r.2.2.2.1) 16 r.2.2.2.2.1) 17 r.2.2.2.2.2.1) (va_up (va_up (va_up (va_up aa 7 r.2.2.2.2.2.2.1) 8 r.2.2.2.2.2.2.2.1) 9 r.2.2.2.2.2.2.2.2.1) 10 r.2.2.2.2.2.2.2.2.2) (va_up ms 4 q.2.1) (va_up (va_up (va_up (va_up ma 3 q.2.2.1) 4 q.2.2.2.1) 5 q.2.2.2.2.1) 6 q.2.2.2.2.2) (if r.1 = 0 then vp_updL fo 0 (r.2.1).toInt64 else fo) fd ++ w_pool E (h 19) hp pl po pa) H locs := hW
  refine lv_iload hx hb dL_law_1221 (lv_at hl 1 rfl) ?_
  refine lv_icmp_eq (tgt := 1228) hx hb dL_law_1223 (by decide) (fun _ => ?_) (fun z => absurd (hth.trans e6.symm) z)
  refine lv_iload hx hb dL_law_1228 (lv_at hl 1 rfl) ?_
  have hend : ∀ (ls : Array Slot), lv_has ls 9 [(7, .int z7), (6, .int z6), (0, .ref b), (1, .ref (h 0)), (2, .ref (g 0)), (3, .ref o), (4, .ref od), (5, .int (nI i))] → W p l e room_1 s m #[.ref b] below meth c H locs (cells + 4) (slots + 24) Q (F0 m 1245 ls []) := fun ls hl => by
    refine lv_goto (tgt := 2740) hx hb dL_law_1245 (by decide) ?_
    exact kk _ _ _ ⟨_, _, _, _, _, _, _, _, _, hR1, hW⟩ (lv_sub hl [2, 3, 4, 5, 6, 7] rfl)
  refine lv_if_ne (tgt := 1245) hx hb dL_law_1230 (by decide) (fun _ => hend ls hl) (fun z9 => ?_)
  obtain ⟨hk0, hv⟩ := hans (e6.symm.trans z9)
  refine lv_aload_n hx hb dL_law_1233 rfl (lv_at hl 5 rfl) ?_
  refine lv_iconst (v := 0) hx hb dL_law_1234 (by decide) ?_
  refine va_lald hx hb hK hW.1 75 4 rfl rfl (by unfold vp_in; decide) dL_law_1235 ?_
  refine lv_topl (fun z8 e8_ => ?_)
  have e9 : z8 = (r.2.1).toInt64 := by
    rw [e8_, if_pos hk0]; rfl
  refine lv_iload hx hb dL_law_1236 (lv_at hl 0 rfl) ?_
  refine lv_i2l hx hb dL_law_1238 rfl ?_
  refine W.lcmp hx hb dL_law_1239 ?_
  refine lv_if_eq (tgt := 1245) hx hb dL_law_1240 (by decide) (fun _ => hend ls hl) (fun z => absurd ?_ z)
  rw [e9, hv, e7_]
  exact lg_cmp_self _
set_option maxHeartbeats 4000000 in
set_option maxRecDepth 100000 in
theorem k_19 {p : Program} {l : Launch} {e : Env} {s : State} {m : MethodId} {below : List Frame} {meth : Method} {c : Code} {D : va_G} {E : Nat → ClassId} {A : Nat → Prop} {b N i : Nat} {xs : Nat → Int32} {h g : Nat → Nat} {hp : Nat → Nat → Nat} {o od : Nat} {Q : State → Prop} {H : Heap} {locs : List Loc} {cells slots : Nat} {ls : Array Slot} (C : LCC p l s m c D E A b N xs) (hi : i + 4 ≤ N) (S : LSS D E A s h g hp o od H locs) (hl : lv_has ls 9 [(0, .ref b), (1, .ref (h 0)), (2, .ref (g 0)), (3, .ref o), (4, .ref od), (5, .int (nI i))]) (hc : cells + 4 ≤ room_1.cells ∧ slots + 24 ≤ room_1.slots) (kk : ∀ (H : Heap) (locs : List Loc) (ls : Array Slot), LSS D E A s h g hp o od H locs → lv_has ls 9 [(0, .ref b), (1, .ref (h 0)), (2, .ref (g 0)), (3, .ref o), (4, .ref od), (5, .int (nI i))] → W p l e room_1 s m #[.ref b] below meth c H locs (cells + 4) (slots + 24) Q (F0 m 2740 ls [])) : W p l e room_1 s m #[.ref b] below meth c H locs cells slots Q (F0 m 1248 ls []) := by
  obtain ⟨hF, hlt, hK, hA, hZ, hN, hX, hbl, hbA, hN9⟩ := C
  obtain ⟨ss, aa, pl, po, pa, ms, ma, fo, fd, hR, hW⟩ := S
  obtain ⟨i0, i1, i2, i3⟩ := ix_ok hi hN9
  have hx := hF.1
  have hb := hF.2.1
  refine lv_aload_n hx hb dL_law_1248 rfl (lv_at hl 1 rfl) ?_
  obtain ⟨r, e7, q, e8, hM, hR1⟩ := call_winding hR
  refine q_callIm hF hl.1 hK hA hZ hW mv_X7_winding ml_L_230 (c_X7_winding l D E TXL (h 0) (h 1) (h 2) (h 3) (h 4) (h 5) (h 6) (h 7) (h 8) (h 9) (h 10) (h 11) (h 12) (h 13) (h 14) (h 15) (h 16) (h 17) (h 18) (ss 0) (ss 1) (ss 10) (ss 11) (aa 4) r e7) [true, true, false, false, false, true] (Nat.le_of_ble_eq_true rfl) rfl rfl rfl rfl rfl ⟨Nat.le_of_ble_eq_true rfl, Nat.le_of_ble_eq_true rfl⟩ ⟨Nat.le_of_add_right_le hc.1, Nat.le_of_add_right_le hc.2⟩ rfl rfl (Nat.le_of_ble_eq_true rfl) dL_law_1249 (fun H locs hW => ?_)
  refine W.widen (Nat.le_add_right cells 4) (Nat.le_add_right slots 24) ?_
  have hW : WD D A s (w_LAW E h g o od ss aa ms ma fo fd ++ w_pool E (h 19) hp pl po pa) H locs := hW
  refine lv_aload_n hx hb dL_law_1252 rfl (lv_at hl 2 rfl) ?_
  refine q_callIm hF hl.1 hK hA hZ hW mv_X8_winding ml_L_233 (c_X8_winding l D E TXL (g 0) (g 1) (g 2) (g 3) (g 4) (g 5) (g 6) (g 7) (g 8) (g 9) (g 10) (g 11) (g 12) (g 13) (g 14) (g 15) (g 16) (g 17) (g 18) (g 19) (ms 0) (ms 1) (ms 2) (ms 3) (ms 4) (ms 5) (ms 6) (ms 7) (ms 8) (ms 9) (ms 10) (ms 11) (ma 0) q.1 q.2 e8) [false, false, false, false, false, false, false, false, false, false, false, false, false, false, false, false, false, false, false, false, false, false, false, false, false, false, false, false, false, false, false, false, false, false, false, false, false, false, false, false, false, false, false, false, false, false, false, false, false, false, false, false, false, false, false, true, true] (Nat.le_of_ble_eq_true rfl) rfl rfl rfl rfl rfl ⟨Nat.le_of_ble_eq_true rfl, Nat.le_of_ble_eq_true rfl⟩ hc rfl rfl (Nat.le_of_ble_eq_true rfl) dL_law_1253 (fun H locs hW => ?_)
  have hW : WD D A s (w_LAW E h g o od ss aa (va_up ms 4 q.2) ma fo fd ++ w_pool E (h 19) hp pl po pa) H locs := hW
  refine lv_icmp_eq (tgt := 2740) hx hb dL_law_1256 (by decide) (fun _ => ?_) (fun z => absurd hM z)
  exact kk _ _ _ ⟨_, _, _, _, _, _, _, _, _, hR1, hW⟩ hl
set_option maxHeartbeats 4000000 in
set_option maxRecDepth 100000 in
theorem k_20 {p : Program} {l : Launch} {e : Env} {s : State} {m : MethodId} {below : List Frame} {meth : Method} {c : Code} {D : va_G} {E : Nat → ClassId} {A : Nat → Prop} {b N i : Nat} {xs : Nat → Int32} {h g : Nat → Nat} {hp : Nat → Nat → Nat} {o od : Nat} {Q : State → Prop} {H : Heap} {locs : List Loc} {cells slots : Nat} {ls : Array Slot} (C : LCC p l s m c D E A b N xs) (hi : i + 4 ≤ N) (S : LSS D E A s h g hp o od H locs) (hl : lv_has ls 9 [(0, .ref b), (1, .ref (h 0)), (2, .ref (g 0)), (3, .ref o), (4, .ref od), (5, .int (nI i))]) (hc : cells + 4 ≤ room_1.cells ∧ slots + 24 ≤ room_1.slots) (kk : ∀ (H : Heap) (locs : List Loc) (ls : Array Slot), LSS D E A s h g hp o od H locs → lv_has ls 9 [(0, .ref b), (1, .ref (h 0)), (2, .ref (g 0)), (3, .ref o), (4, .ref od), (5, .int (nI i))] → W p l e room_1 s m #[.ref b] below meth c H locs (cells + 4) (slots + 24) Q (F0 m 2740 ls [])) : W p l e room_1 s m #[.ref b] below meth c H locs cells slots Q (F0 m 1261 ls []) := by
  obtain ⟨hF, hlt, hK, hA, hZ, hN, hX, hbl, hbA, hN9⟩ := C
  obtain ⟨ss, aa, pl, po, pa, ms, ma, fo, fd, hR, hW⟩ := S
  obtain ⟨i0, i1, i2, i3⟩ := ix_ok hi hN9
  have hx := hF.1
  have hb := hF.2.1
  refine lv_aload_n hx hb dL_law_1261 rfl (lv_at hl 1 rfl) ?_
  refine lv_aload_n hx hb dL_law_1262 rfl (lv_at hl 3 rfl) ?_
  obtain ⟨r, e7, q, e8, hM, hR1⟩ := call_freePoses hR
  have hk : r.1 = 0 ∨ r.1 = 2 := by
    rcases hM with ⟨m1, m2, m3⟩ | ⟨m1, m2⟩
    · exact Or.inl m1
    · exact Or.inr (m1)
  have hth : q.2.1 = (if r.1 = 2 then 1 else 0) := by
    rcases hM with ⟨m1, m2, m3⟩ | ⟨m1, m2⟩
    · rw [m1, m2]; rfl
    · rw [m1, m2]; rfl
  have hans : ((if r.1 = 2 then 1 else 0) : Int32) = 0 → r.1 = 0 ∧ r.2.1 = q.1 := by
    intro z9
    rcases hM with ⟨m1, m2, m3⟩ | ⟨m1, m2⟩
    · exact ⟨m1, m3⟩
    · exact absurd z9 (by rw [m1]; decide)
  refine q_LWm hF hl.1 hK hA hZ hN hW mW_freePoses ml_L_234 (v_freePoses l D E (h 0) o _ _ r.1 r.2.1 fo (c_X7_freePoses l hlt D E (h 0) (h 1) (h 2) (h 3) (h 4) (h 5) (h 6) (h 7) (h 8) (h 9) (h 10) (h 11) (h 12) (h 13) (h 14) (h 15) (h 16) (h 17) (h 18) (h 20) (h 21) (h 22) (h 23) (h 24) (h 25) (h 26) (h 27) (h 33) (h 34) (h 35) (h 36) (ss 0) (ss 1) (ss 10) (ss 11) (aa 1) (aa 2) (aa 3) (aa 0) (ss 2) (ss 3) (ss 4) (ss 5) (aa 12) (aa 13) (aa 14) (ss 18) (ss 19) (ss 20) (ss 21) (aa 15) (aa 16) (aa 17) (aa 18) (aa 19) r.1 r.2.1 r.2.2.1 r.2.2.2.1 r.2.2.2.2.1 r.2.2.2.2.2.1 r.2.2.2.2.2.2.1 r.2.2.2.2.2.2.2.1 r.2.2.2.2.2.2.2.2.1 r.2.2.2.2.2.2.2.2.2.1 r.2.2.2.2.2.2.2.2.2.2.1 r.2.2.2.2.2.2.2.2.2.2.2.1 r.2.2.2.2.2.2.2.2.2.2.2.2.1 r.2.2.2.2.2.2.2.2.2.2.2.2.2.1 r.2.2.2.2.2.2.2.2.2.2.2.2.2.2.1 r.2.2.2.2.2.2.2.2.2.2.2.2.2.2.2.1 r.2.2.2.2.2.2.2.2.2.2.2.2.2.2.2.2 e7) rfl rfl hk) [true, true, true, true, true, false, false, false, true, false, false, false, false, false, false, false, false, false, false, false, false, false, false, false, false, false, true, false, true, false, true, false, true, false, false, false, false, false, true, true, true, true, true, true, false, false, false, false, false, false, false, false, false, false, false, false, false, false, false, false, false, false, false, false, false, false, false, false, false, false, false, false, false, false, false, true] (Nat.le_of_ble_eq_true rfl) rfl rfl ⟨Nat.le_of_ble_eq_true rfl, Nat.le_of_ble_eq_true rfl⟩ ⟨Nat.le_trans (Nat.add_le_add_left (Nat.le_of_ble_eq_true rfl) cells) hc.1, Nat.le_trans (Nat.add_le_add_left (Nat.le_of_ble_eq_true rfl) slots) hc.2⟩ rfl rfl (Nat.le_of_ble_eq_true rfl) dL_law_1263 (fun H locs hW => ?_)
  refine W.widen (Nat.add_le_add_left (Nat.le_of_ble_eq_true rfl : 1 ≤ 4) cells) (Nat.add_le_add_left (Nat.le_of_ble_eq_true rfl : 6 ≤ 24) slots) ?_
  have hW : WD D A s (w_LAW E h g o od (va_up (va_up (va_up (va_up (va_up (va_up (va_up ss 2 r.2.2.1) 3 r.2.2.2.1) 4 r.2.2.2.2.1) 18 r.2.2.2.2.2.2.2.2.1) 19 r.2.2.2.2.2.2.2.2.2.1) 20 r.2.2.2.2.2.2.2.2.2.2.1) 21 r.2.2.2.2.2.2.2.2.2.2.2.1) (va_up (va_up (va_up (va_up (va_up (va_up (va_up (va_up aa 12 r.2.2.2.2.2.1) 13 r.2.2.2.2.2.2.1) 14 r.2.2.2.2.2.2.2.1) 15 r.2.2.2.2.2.2.2.2.2.2.2.2.1) 16 r.2.2.2.2.2.2.2.2.2.2.2.2.2.1) 17 r.2.2.2.2.2.2.2.2.2.2.2.2.2.2.1) 18 r.2.2.2.2.2.2.2.2.2.2.2.2.2.2.2.1) 19 r.2.2.2.2.2.2.2.2.2.2.2.2.2.2.2.2) ms ma (if r.1 = 0 then vp_updL fo 0 (r.2.1).toInt64 else fo) fd ++ w_pool E (h 19) hp pl po pa) H locs := hW
  refine lv_topi (fun z6 e6 => ?_)
  refine lv_istore (lv' := [(6, .int z6), (0, .ref b), (1, .ref (h 0)), (2, .ref (g 0)), (3, .ref o), (4, .ref od), (5, .int (nI i))]) hx hb dL_law_1266 hl (by decide) rfl (fun ls hl => ?_)
  refine lv_aload_n hx hb dL_law_1268 rfl (lv_at hl 3 rfl) ?_
  refine q_callIm hF hl.1 hK hA hZ hW mv_X8_freePoses ml_L_236 (c_X8_freePoses l D E TXL (g 0) (g 1) (g 2) (g 3) (g 4) (g 5) (g 6) (g 7) (g 8) (g 9) (g 10) (g 11) (g 12) (g 13) (g 14) (g 15) (g 16) (g 17) (g 18) (g 19) (ms 0) (ms 1) (ms 2) (ms 3) (ms 4) (ms 5) (ms 6) (ms 7) (ms 8) (ms 9) (ms 10) (ms 11) (ma 0) (ma 3) (ma 4) (ma 5) (ma 6) (ma 7) (ma 8) q.1 q.2.1 q.2.2.1 q.2.2.2.1 q.2.2.2.2.1 q.2.2.2.2.2.1 q.2.2.2.2.2.2.1 q.2.2.2.2.2.2.2.1 q.2.2.2.2.2.2.2.2 e8) [false, false, false, false, false, false, false, false, false, false, false, false, false, false, false, false, false, false, false, false, false, false, false, false, false, false, false, false, false, false, false, false, false, false, false, false, false, false, false, false, false, false, false, false, false, false, false, false, false, false, false, false, false, false, false, true, true, false, false, false, false, true, false, true, false, true, true, true, true] (Nat.le_of_ble_eq_true rfl) rfl rfl rfl rfl rfl ⟨Nat.le_of_ble_eq_true rfl, Nat.le_of_ble_eq_true rfl⟩ hc rfl rfl (Nat.le_of_ble_eq_true rfl) dL_law_1269 (fun H locs hW => ?_)
  have hW : WD D A s (w_LAW E h g o od (va_up (va_up (va_up (va_up (va_up (va_up (va_up ss 2 r.2.2.1) 3 r.2.2.2.1) 4 r.2.2.2.2.1) 18 r.2.2.2.2.2.2.2.2.1) 19 r.2.2.2.2.2.2.2.2.2.1) 20 r.2.2.2.2.2.2.2.2.2.2.1) 21 r.2.2.2.2.2.2.2.2.2.2.2.1) (va_up (va_up (va_up (va_up (va_up (va_up (va_up (va_up aa 12 r.2.2.2.2.2.1) 13 r.2.2.2.2.2.2.1) 14 r.2.2.2.2.2.2.2.1) 15 r.2.2.2.2.2.2.2.2.2.2.2.2.1) 16 r.2.2.2.2.2.2.2.2.2.2.2.2.2.1) 17 r.2.2.2.2.2.2.2.2.2.2.2.2.2.2.1) 18 r.2.2.2.2.2.2.2.2.2.2.2.2.2.2.2.1) 19 r.2.2.2.2.2.2.2.2.2.2.2.2.2.2.2.2) (va_up (va_up ms 4 q.2.1) 5 q.2.2.1) (va_up (va_up (va_up (va_up (va_up (va_up ma 3 q.2.2.2.1) 4 q.2.2.2.2.1) 5 q.2.2.2.2.2.1) 6 q.2.2.2.2.2.2.1) 7 q.2.2.2.2.2.2.2.1) 8 q.2.2.2.2.2.2.2.2) (if r.1 = 0 then vp_updL fo 0 (r.2.1).toInt64 else fo) fd ++ w_pool E (h 19) hp pl po pa) H locs := hW
  refine lv_topi (fun z7 e7_ => ?_)
  refine lv_istore (lv' := [(7, .int z7), (6, .int z6), (0, .ref b), (1, .ref (h 0)), (2, .ref (g 0)), (3, .ref o), (4, .ref od), (5, .int (nI i))]) hx hb dL_law_1272 hl (by decide) rfl (fun ls hl => ?_)
  refine lv_aload_n hx hb dL_law_1274 rfl (lv_at hl 4 rfl) ?_
  refine q_callIm hF hl.1 hK hA hZ hW mv_X8_thrown ml_L_168 (c_X8_thrown l D E TXL (g 0) (g 1) (g 2) (g 3) (g 4) (g 5) (g 6) (g 7) (g 8) (g 9) (g 10) (g 11) (g 12) (g 13) (g 14) (g 15) (g 16) (g 17) (g 18) (g 19) (ms 0) (ms 1) (ms 2) (ms 3) q.2.1 q.2.2.1 (ms 6) (ms 7) (ms 8) (ms 9) (ms 10) (ms 11) q.2.1 rfl) [false, false, false, false, false, false, false, false, false, false, false, false, false, false, false, false, false, false, false, false, false, false, false, false, false, false, false, false, false, false, false, false, false, false, false, false, false, false, false, false, false, false, false, false, false, false, false, false, false, false, false, false, false, false, false, true] (Nat.le_of_ble_eq_true rfl) rfl rfl rfl rfl rfl ⟨Nat.le_of_ble_eq_true rfl, Nat.le_of_ble_eq_true rfl⟩ hc rfl rfl (Nat.le_of_ble_eq_true rfl) dL_law_1275 (fun H locs hW => ?_)
  have hW : WD D A s (w_LAW E h g o od (va_up (va_up (va_up (va_up (va_up (va_up (va_up ss 2 r.2.2.1) 3 r.2.2.2.1) 4 r.2.2.2.2.1) 18 r.2.2.2.2.2.2.2.2.1) 19 r.2.2.2.2.2.2.2.2.2.1) 20 r.2.2.2.2.2.2.2.2.2.2.1) 21 r.2.2.2.2.2.2.2.2.2.2.2.1) (va_up (va_up (va_up (va_up (va_up (va_up (va_up (va_up aa 12 r.2.2.2.2.2.1) 13 r.2.2.2.2.2.2.1) 14 r.2.2.2.2.2.2.2.1) 15 r.2.2.2.2.2.2.2.2.2.2.2.2.1) 16 r.2.2.2.2.2.2.2.2.2.2.2.2.2.1) 17 r.2.2.2.2.2.2.2.2.2.2.2.2.2.2.1) 18 r.2.2.2.2.2.2.2.2.2.2.2.2.2.2.2.1) 19 r.2.2.2.2.2.2.2.2.2.2.2.2.2.2.2.2) (va_up (va_up ms 4 q.2.1) 5 q.2.2.1) (va_up (va_up (va_up (va_up (va_up (va_up ma 3 q.2.2.2.1) 4 q.2.2.2.2.1) 5 q.2.2.2.2.2.1) 6 q.2.2.2.2.2.2.1) 7 q.2.2.2.2.2.2.2.1) 8 q.2.2.2.2.2.2.2.2) (if r.1 = 0 then vp_updL fo 0 (r.2.1).toInt64 else fo) fd ++ w_pool E (h 19) hp pl po pa) H locs := hW
  refine lv_iload hx hb dL_law_1278 (lv_at hl 1 rfl) ?_
  refine lv_icmp_eq (tgt := 1285) hx hb dL_law_1280 (by decide) (fun _ => ?_) (fun z => absurd (hth.trans e6.symm) z)
  refine lv_iload hx hb dL_law_1285 (lv_at hl 1 rfl) ?_
  have hend : ∀ (ls : Array Slot), lv_has ls 9 [(7, .int z7), (6, .int z6), (0, .ref b), (1, .ref (h 0)), (2, .ref (g 0)), (3, .ref o), (4, .ref od), (5, .int (nI i))] → W p l e room_1 s m #[.ref b] below meth c H locs (cells + 4) (slots + 24) Q (F0 m 1302 ls []) := fun ls hl => by
    refine lv_goto (tgt := 2740) hx hb dL_law_1302 (by decide) ?_
    exact kk _ _ _ ⟨_, _, _, _, _, _, _, _, _, hR1, hW⟩ (lv_sub hl [2, 3, 4, 5, 6, 7] rfl)
  refine lv_if_ne (tgt := 1302) hx hb dL_law_1287 (by decide) (fun _ => hend ls hl) (fun z9 => ?_)
  obtain ⟨hk0, hv⟩ := hans (e6.symm.trans z9)
  refine lv_aload_n hx hb dL_law_1290 rfl (lv_at hl 5 rfl) ?_
  refine lv_iconst (v := 0) hx hb dL_law_1291 (by decide) ?_
  refine va_lald hx hb hK hW.1 75 4 rfl rfl (by unfold vp_in; decide) dL_law_1292 ?_
  refine lv_topl (fun z8 e8_ => ?_)
  have e9 : z8 = (r.2.1).toInt64 := by
    rw [e8_, if_pos hk0]; rfl
  refine lv_iload hx hb dL_law_1293 (lv_at hl 0 rfl) ?_
  refine lv_i2l hx hb dL_law_1295 rfl ?_
  refine W.lcmp hx hb dL_law_1296 ?_
  refine lv_if_eq (tgt := 1302) hx hb dL_law_1297 (by decide) (fun _ => hend ls hl) (fun z => absurd ?_ z)
  rw [e9, hv, e7_]
  exact lg_cmp_self _
set_option maxHeartbeats 4000000 in
set_option maxRecDepth 100000 in
theorem k_21 {p : Program} {l : Launch} {e : Env} {s : State} {m : MethodId} {below : List Frame} {meth : Method} {c : Code} {D : va_G} {E : Nat → ClassId} {A : Nat → Prop} {b N i : Nat} {xs : Nat → Int32} {h g : Nat → Nat} {hp : Nat → Nat → Nat} {o od : Nat} {Q : State → Prop} {H : Heap} {locs : List Loc} {cells slots : Nat} {ls : Array Slot} (C : LCC p l s m c D E A b N xs) (hi : i + 4 ≤ N) (S : LSS D E A s h g hp o od H locs) (hl : lv_has ls 9 [(0, .ref b), (1, .ref (h 0)), (2, .ref (g 0)), (3, .ref o), (4, .ref od), (5, .int (nI i))]) (hc : cells + 4 ≤ room_1.cells ∧ slots + 24 ≤ room_1.slots) (kk : ∀ (H : Heap) (locs : List Loc) (ls : Array Slot), LSS D E A s h g hp o od H locs → lv_has ls 9 [(0, .ref b), (1, .ref (h 0)), (2, .ref (g 0)), (3, .ref o), (4, .ref od), (5, .int (nI i))] → W p l e room_1 s m #[.ref b] below meth c H locs (cells + 4) (slots + 24) Q (F0 m 2740 ls [])) : W p l e room_1 s m #[.ref b] below meth c H locs cells slots Q (F0 m 1305 ls []) := by
  obtain ⟨hF, hlt, hK, hA, hZ, hN, hX, hbl, hbA, hN9⟩ := C
  obtain ⟨ss, aa, pl, po, pa, ms, ma, fo, fd, hR, hW⟩ := S
  obtain ⟨i0, i1, i2, i3⟩ := ix_ok hi hN9
  have hx := hF.1
  have hb := hF.2.1
  refine lv_aload_n hx hb dL_law_1305 rfl (lv_at hl 1 rfl) ?_
  refine lv_aload_n hx hb dL_law_1306 rfl (lv_at hl 0 rfl) ?_
  refine lv_iload hx hb dL_law_1307 (lv_at hl 5 rfl) ?_
  refine lv_iconst (v := 1) hx hb dL_law_1309 (by decide) ?_
  refine lv_iadd hx hb dL_law_1310 ?_
  refine va_sld hx hb hX hbl hbA hW.2.2 i1 dL_law_1311 ?_
  refine lv_topi (fun x1 ex1 => ?_)
  refine lv_aload_n hx hb dL_law_1312 rfl (lv_at hl 0 rfl) ?_
  refine lv_iload hx hb dL_law_1313 (lv_at hl 5 rfl) ?_
  refine lv_iconst (v := 2) hx hb dL_law_1315 (by decide) ?_
  refine lv_iadd hx hb dL_law_1316 ?_
  refine va_sld hx hb hX hbl hbA hW.2.2 i2 dL_law_1317 ?_
  refine lv_topi (fun x2 ex2 => ?_)
  refine lv_aload_n hx hb dL_law_1318 rfl (lv_at hl 3 rfl) ?_
  obtain ⟨r, e7, q, e8, hM, hR1⟩ := call_poseValue hR x1 x2
  have hk : r.1 = 0 ∨ r.1 = 3 := by
    rcases hM with ⟨m1, m2, m3⟩ | ⟨m1, m2⟩
    · exact Or.inl m1
    · exact Or.inr (m1)
  have hth : q.2.1 = (if r.1 = 3 then 1 else 0) := by
    rcases hM with ⟨m1, m2, m3⟩ | ⟨m1, m2⟩
    · rw [m1, m2]; rfl
    · rw [m1, m2]; rfl
  have hans : ((if r.1 = 3 then 1 else 0) : Int32) = 0 → r.1 = 0 ∧ r.2.1 = q.1 := by
    intro z9
    rcases hM with ⟨m1, m2, m3⟩ | ⟨m1, m2⟩
    · exact ⟨m1, m3⟩
    · exact absurd z9 (by rw [m1]; decide)
  refine q_LWm hF hl.1 hK hA hZ hN hW mW_poseValue ml_L_237 (v_poseValue l D E (h 0) o x1 x2 _ _ r.1 r.2.1 fo (c_X7_poseValue l hlt D E (h 0) (h 1) (h 2) (h 3) (h 4) (h 5) (h 6) (h 7) (h 8) (h 9) (h 10) (h 11) (h 12) (h 13) (h 14) (h 15) (h 16) (h 17) (h 18) (ss 0) (ss 1) (ss 10) (ss 11) (aa 2) (aa 3) (aa 11) x1 x2 r.1 r.2.1 r.2.2 e7) rfl rfl hk) [true, true, false, true, true, false, false, false, false, false, false, false, false, false, false, false, false, false, false, false, false, false, false, false, false, false, false, false, false, false, false, false, false, false, false, false, false, false, false, false, false, false, false, false, false, false, false, false, false, false, false, false, false, false, true, false, false, false, false, false, false, false, false, false, false, false, false, false, false, false, false, false, false, false, false, true] (Nat.le_of_ble_eq_true rfl) rfl rfl ⟨Nat.le_of_ble_eq_true rfl, Nat.le_of_ble_eq_true rfl⟩ ⟨Nat.le_trans (Nat.add_le_add_left (Nat.le_of_ble_eq_true rfl) cells) hc.1, Nat.le_trans (Nat.add_le_add_left (Nat.le_of_ble_eq_true rfl) slots) hc.2⟩ rfl rfl (Nat.le_of_ble_eq_true rfl) dL_law_1319 (fun H locs hW => ?_)
  refine W.widen (Nat.add_le_add_left (Nat.le_of_ble_eq_true rfl : 1 ≤ 4) cells) (Nat.add_le_add_left (Nat.le_of_ble_eq_true rfl : 6 ≤ 24) slots) ?_
  have hW : WD D A s (w_LAW E h g o od ss (va_up aa 11 r.2.2) ms ma (if r.1 = 0 then vp_updL fo 0 (r.2.1).toInt64 else fo) fd ++ w_pool E (h 19) hp pl po pa) H locs := hW
  refine lv_topi (fun z6 e6 => ?_)
  refine lv_istore (lv' := [(6, .int z6), (0, .ref b), (1, .ref (h 0)), (2, .ref (g 0)), (3, .ref o), (4, .ref od), (5, .int (nI i))]) hx hb dL_law_1322 hl (by decide) rfl (fun ls hl => ?_)
  refine lv_aload_n hx hb dL_law_1324 rfl (lv_at hl 3 rfl) ?_
  refine lv_aload_n hx hb dL_law_1325 rfl (lv_at hl 1 rfl) ?_
  refine lv_iload hx hb dL_law_1326 (lv_at hl 6 rfl) ?_
  refine lv_iconst (v := 1) hx hb dL_law_1328 (by decide) ?_
  refine lv_iadd hx hb dL_law_1329 ?_
  refine va_sld hx hb hX hbl hbA hW.2.2 i1 dL_law_1330 ?_
  refine lv_topi (fun y1 ey1 => ?_)
  obtain rfl : x1 = y1 := ex1.trans ey1.symm
  refine lv_aload_n hx hb dL_law_1331 rfl (lv_at hl 1 rfl) ?_
  refine lv_iload hx hb dL_law_1332 (lv_at hl 6 rfl) ?_
  refine lv_iconst (v := 2) hx hb dL_law_1334 (by decide) ?_
  refine lv_iadd hx hb dL_law_1335 ?_
  refine va_sld hx hb hX hbl hbA hW.2.2 i2 dL_law_1336 ?_
  refine lv_topi (fun y2 ey2 => ?_)
  obtain rfl : x2 = y2 := ex2.trans ey2.symm
  refine q_callIm hF hl.1 hK hA hZ hW mv_X8_poseValue ml_L_239 (c_X8_poseValue l D E TXL (g 0) (g 1) (g 2) (g 3) (g 4) (g 5) (g 6) (g 7) (g 8) (g 9) (g 10) (g 11) (g 12) (g 13) (g 14) (g 15) (g 16) (g 17) (g 18) (g 19) (ms 0) (ms 1) (ms 2) (ms 3) (ms 4) (ms 5) (ms 6) (ms 7) (ms 8) (ms 9) (ms 10) (ms 11) (ma 0) (ma 3) (ma 4) (ma 5) (ma 6) x1 x2 q.1 q.2.1 q.2.2.1 q.2.2.2.1 q.2.2.2.2.1 q.2.2.2.2.2 e8) [false, false, false, false, false, false, false, false, false, false, false, false, false, false, false, false, false, false, false, false, false, false, false, false, false, false, false, false, false, false, false, false, false, false, false, false, false, false, false, false, false, false, false, false, false, false, false, false, false, false, false, false, false, false, false, true, true, false, false, false, false, true, false, true, false, true, true] (Nat.le_of_ble_eq_true rfl) rfl rfl rfl rfl rfl ⟨Nat.le_of_ble_eq_true rfl, Nat.le_of_ble_eq_true rfl⟩ hc rfl rfl (Nat.le_of_ble_eq_true rfl) dL_law_1337 (fun H locs hW => ?_)
  have hW : WD D A s (w_LAW E h g o od ss (va_up aa 11 r.2.2) (va_up ms 4 q.2.1) (va_up (va_up (va_up (va_up ma 3 q.2.2.1) 4 q.2.2.2.1) 5 q.2.2.2.2.1) 6 q.2.2.2.2.2) (if r.1 = 0 then vp_updL fo 0 (r.2.1).toInt64 else fo) fd ++ w_pool E (h 19) hp pl po pa) H locs := hW
  refine lv_topi (fun z7 e7_ => ?_)
  refine lv_istore (lv' := [(7, .int z7), (6, .int z6), (0, .ref b), (1, .ref (h 0)), (2, .ref (g 0)), (3, .ref o), (4, .ref od), (5, .int (nI i))]) hx hb dL_law_1340 hl (by decide) rfl (fun ls hl => ?_)
  refine lv_aload_n hx hb dL_law_1342 rfl (lv_at hl 4 rfl) ?_
  refine q_callIm hF hl.1 hK hA hZ hW mv_X8_thrown ml_L_168 (c_X8_thrown l D E TXL (g 0) (g 1) (g 2) (g 3) (g 4) (g 5) (g 6) (g 7) (g 8) (g 9) (g 10) (g 11) (g 12) (g 13) (g 14) (g 15) (g 16) (g 17) (g 18) (g 19) (ms 0) (ms 1) (ms 2) (ms 3) q.2.1 (ms 5) (ms 6) (ms 7) (ms 8) (ms 9) (ms 10) (ms 11) q.2.1 rfl) [false, false, false, false, false, false, false, false, false, false, false, false, false, false, false, false, false, false, false, false, false, false, false, false, false, false, false, false, false, false, false, false, false, false, false, false, false, false, false, false, false, false, false, false, false, false, false, false, false, false, false, false, false, false, false, true] (Nat.le_of_ble_eq_true rfl) rfl rfl rfl rfl rfl ⟨Nat.le_of_ble_eq_true rfl, Nat.le_of_ble_eq_true rfl⟩ hc rfl rfl (Nat.le_of_ble_eq_true rfl) dL_law_1343 (fun H locs hW => ?_)
  have hW : WD D A s (w_LAW E h g o od ss (va_up aa 11 r.2.2) (va_up ms 4 q.2.1) (va_up (va_up (va_up (va_up ma 3 q.2.2.1) 4 q.2.2.2.1) 5 q.2.2.2.2.1) 6 q.2.2.2.2.2) (if r.1 = 0 then vp_updL fo 0 (r.2.1).toInt64 else fo) fd ++ w_pool E (h 19) hp pl po pa) H locs := hW
  refine lv_iload hx hb dL_law_1346 (lv_at hl 1 rfl) ?_
  refine lv_icmp_eq (tgt := 1353) hx hb dL_law_1348 (by decide) (fun _ => ?_) (fun z => absurd (hth.trans e6.symm) z)
  refine lv_iload hx hb dL_law_1353 (lv_at hl 1 rfl) ?_
  have hend : ∀ (ls : Array Slot), lv_has ls 9 [(7, .int z7), (6, .int z6), (0, .ref b), (1, .ref (h 0)), (2, .ref (g 0)), (3, .ref o), (4, .ref od), (5, .int (nI i))] → W p l e room_1 s m #[.ref b] below meth c H locs (cells + 4) (slots + 24) Q (F0 m 1370 ls []) := fun ls hl => by
    refine lv_goto (tgt := 2740) hx hb dL_law_1370 (by decide) ?_
    exact kk _ _ _ ⟨_, _, _, _, _, _, _, _, _, hR1, hW⟩ (lv_sub hl [2, 3, 4, 5, 6, 7] rfl)
  refine lv_if_ne (tgt := 1370) hx hb dL_law_1355 (by decide) (fun _ => hend ls hl) (fun z9 => ?_)
  obtain ⟨hk0, hv⟩ := hans (e6.symm.trans z9)
  refine lv_aload_n hx hb dL_law_1358 rfl (lv_at hl 5 rfl) ?_
  refine lv_iconst (v := 0) hx hb dL_law_1359 (by decide) ?_
  refine va_lald hx hb hK hW.1 75 4 rfl rfl (by unfold vp_in; decide) dL_law_1360 ?_
  refine lv_topl (fun z8 e8_ => ?_)
  have e9 : z8 = (r.2.1).toInt64 := by
    rw [e8_, if_pos hk0]; rfl
  refine lv_iload hx hb dL_law_1361 (lv_at hl 0 rfl) ?_
  refine lv_i2l hx hb dL_law_1363 rfl ?_
  refine W.lcmp hx hb dL_law_1364 ?_
  refine lv_if_eq (tgt := 1370) hx hb dL_law_1365 (by decide) (fun _ => hend ls hl) (fun z => absurd ?_ z)
  rw [e9, hv, e7_]
  exact lg_cmp_self _
set_option maxHeartbeats 4000000 in
set_option maxRecDepth 100000 in
theorem k_22 {p : Program} {l : Launch} {e : Env} {s : State} {m : MethodId} {below : List Frame} {meth : Method} {c : Code} {D : va_G} {E : Nat → ClassId} {A : Nat → Prop} {b N i : Nat} {xs : Nat → Int32} {h g : Nat → Nat} {hp : Nat → Nat → Nat} {o od : Nat} {Q : State → Prop} {H : Heap} {locs : List Loc} {cells slots : Nat} {ls : Array Slot} (C : LCC p l s m c D E A b N xs) (hi : i + 4 ≤ N) (S : LSS D E A s h g hp o od H locs) (hl : lv_has ls 9 [(0, .ref b), (1, .ref (h 0)), (2, .ref (g 0)), (3, .ref o), (4, .ref od), (5, .int (nI i))]) (hc : cells + 4 ≤ room_1.cells ∧ slots + 24 ≤ room_1.slots) (kk : ∀ (H : Heap) (locs : List Loc) (ls : Array Slot), LSS D E A s h g hp o od H locs → lv_has ls 9 [(0, .ref b), (1, .ref (h 0)), (2, .ref (g 0)), (3, .ref o), (4, .ref od), (5, .int (nI i))] → W p l e room_1 s m #[.ref b] below meth c H locs (cells + 4) (slots + 24) Q (F0 m 2740 ls [])) : W p l e room_1 s m #[.ref b] below meth c H locs cells slots Q (F0 m 1373 ls []) := by
  obtain ⟨hF, hlt, hK, hA, hZ, hN, hX, hbl, hbA, hN9⟩ := C
  obtain ⟨ss, aa, pl, po, pa, ms, ma, fo, fd, hR, hW⟩ := S
  obtain ⟨i0, i1, i2, i3⟩ := ix_ok hi hN9
  have hx := hF.1
  have hb := hF.2.1
  refine lv_aload_n hx hb dL_law_1373 rfl (lv_at hl 1 rfl) ?_
  refine lv_aload_n hx hb dL_law_1374 rfl (lv_at hl 0 rfl) ?_
  refine lv_iload hx hb dL_law_1375 (lv_at hl 5 rfl) ?_
  refine lv_iconst (v := 1) hx hb dL_law_1377 (by decide) ?_
  refine lv_iadd hx hb dL_law_1378 ?_
  refine va_sld hx hb hX hbl hbA hW.2.2 i1 dL_law_1379 ?_
  refine lv_topi (fun x1 ex1 => ?_)
  refine lv_aload_n hx hb dL_law_1380 rfl (lv_at hl 3 rfl) ?_
  obtain ⟨r, e7, q, e8, hM, hR1⟩ := call_isFreePose hR x1
  have hk : r.1 = 0 ∨ r.1 = 3 := by
    rcases hM with ⟨m1, m2, m3⟩ | ⟨m1, m2⟩
    · exact Or.inl m1
    · exact Or.inr (m1)
  have hth : q.2.1 = (if r.1 = 3 then 1 else 0) := by
    rcases hM with ⟨m1, m2, m3⟩ | ⟨m1, m2⟩
    · rw [m1, m2]; rfl
    · rw [m1, m2]; rfl
  have hans : ((if r.1 = 3 then 1 else 0) : Int32) = 0 → r.1 = 0 ∧ r.2.1 = q.1 := by
    intro z9
    rcases hM with ⟨m1, m2, m3⟩ | ⟨m1, m2⟩
    · exact ⟨m1, m3⟩
    · exact absurd z9 (by rw [m1]; decide)
  refine q_LWm hF hl.1 hK hA hZ hN hW mW_isFreePose ml_L_240 (v_isFreePose l D E (h 0) o x1 _ _ r.1 r.2.1 fo (c_X7_isFreePose l hlt D E (h 0) (h 1) (h 2) (h 3) (h 4) (h 5) (h 6) (h 7) (h 8) (h 9) (h 10) (h 11) (h 12) (h 13) (h 14) (h 15) (h 16) (h 17) (h 18) (h 29) (h 30) (h 31) (h 32) (ss 0) (ss 1) (ss 10) (ss 11) (aa 1) (aa 2) (aa 3) (aa 0) (ss 14) (ss 15) (ss 16) (ss 17) (aa 7) (aa 8) (aa 9) (aa 10) (aa 11) x1 r.1 r.2.1 r.2.2.1 r.2.2.2.1 r.2.2.2.2.1 r.2.2.2.2.2.1 r.2.2.2.2.2.2.1 r.2.2.2.2.2.2.2.1 r.2.2.2.2.2.2.2.2.1 r.2.2.2.2.2.2.2.2.2.1 r.2.2.2.2.2.2.2.2.2.2 e7) rfl rfl hk) [true, true, true, true, true, false, false, false, true, false, false, false, false, false, false, false, false, false, false, false, false, false, false, false, false, false, false, true, false, true, false, true, false, true, false, true, false, false, false, false, false, false, false, false, false, false, false, false, false, false, false, false, false, false, true, false, false, false, false, false, false, false, false, false, false, false, false, false, false, false, false, false, false, false, false, true] (Nat.le_of_ble_eq_true rfl) rfl rfl ⟨Nat.le_of_ble_eq_true rfl, Nat.le_of_ble_eq_true rfl⟩ ⟨Nat.le_trans (Nat.add_le_add_left (Nat.le_of_ble_eq_true rfl) cells) hc.1, Nat.le_trans (Nat.add_le_add_left (Nat.le_of_ble_eq_true rfl) slots) hc.2⟩ rfl rfl (Nat.le_of_ble_eq_true rfl) dL_law_1381 (fun H locs hW => ?_)
  refine W.widen (Nat.add_le_add_left (Nat.le_of_ble_eq_true rfl : 1 ≤ 4) cells) (Nat.add_le_add_left (Nat.le_of_ble_eq_true rfl : 6 ≤ 24) slots) ?_
  have hW : WD D A s (w_LAW E h g o od (va_up (va_up (va_up (va_up ss 14 r.2.2.1) 15 r.2.2.2.1) 16 r.2.2.2.2.1) 17 r.2.2.2.2.2.1) (va_up (va_up (va_up (va_up (va_up aa 7 r.2.2.2.2.2.2.1) 8 r.2.2.2.2.2.2.2.1) 9 r.2.2.2.2.2.2.2.2.1) 10 r.2.2.2.2.2.2.2.2.2.1) 11 r.2.2.2.2.2.2.2.2.2.2) ms ma (if r.1 = 0 then vp_updL fo 0 (if r.2.1 = 0 then 0 else 1) else fo) fd ++ w_pool E (h 19) hp pl po pa) H locs := hW
  refine lv_topi (fun z6 e6 => ?_)
  refine lv_istore (lv' := [(6, .int z6), (0, .ref b), (1, .ref (h 0)), (2, .ref (g 0)), (3, .ref o), (4, .ref od), (5, .int (nI i))]) hx hb dL_law_1384 hl (by decide) rfl (fun ls hl => ?_)
  refine lv_aload_n hx hb dL_law_1386 rfl (lv_at hl 3 rfl) ?_
  refine lv_aload_n hx hb dL_law_1387 rfl (lv_at hl 1 rfl) ?_
  refine lv_iload hx hb dL_law_1388 (lv_at hl 6 rfl) ?_
  refine lv_iconst (v := 1) hx hb dL_law_1390 (by decide) ?_
  refine lv_iadd hx hb dL_law_1391 ?_
  refine va_sld hx hb hX hbl hbA hW.2.2 i1 dL_law_1392 ?_
  refine lv_topi (fun y1 ey1 => ?_)
  obtain rfl : x1 = y1 := ex1.trans ey1.symm
  refine q_callIm hF hl.1 hK hA hZ hW mv_X8_isFreePose ml_L_242 (c_X8_isFreePose l D E TXL (g 0) (g 1) (g 2) (g 3) (g 4) (g 5) (g 6) (g 7) (g 8) (g 9) (g 10) (g 11) (g 12) (g 13) (g 14) (g 15) (g 16) (g 17) (g 18) (g 19) (ms 0) (ms 1) (ms 2) (ms 3) (ms 4) (ms 5) (ms 6) (ms 7) (ms 8) (ms 9) (ms 10) (ms 11) (ma 0) (ma 3) (ma 4) (ma 5) (ma 6) x1 q.1 q.2.1 q.2.2.1 q.2.2.2.1 q.2.2.2.2.1 q.2.2.2.2.2.1 q.2.2.2.2.2.2 e8) [false, false, false, false, false, false, false, false, false, false, false, false, false, false, false, false, false, false, false, false, false, false, false, false, false, false, false, false, false, false, false, false, false, false, false, false, false, false, false, false, false, false, false, false, false, false, false, false, false, false, false, false, false, false, false, true, true, false, false, false, false, true, false, true, false, true, true] (Nat.le_of_ble_eq_true rfl) rfl rfl rfl rfl rfl ⟨Nat.le_of_ble_eq_true rfl, Nat.le_of_ble_eq_true rfl⟩ hc rfl rfl (Nat.le_of_ble_eq_true rfl) dL_law_1393 (fun H locs hW => ?_)
  have hW : WD D A s (w_LAW E h g o od (va_up (va_up (va_up (va_up ss 14 r.2.2.1) 15 r.2.2.2.1) 16 r.2.2.2.2.1) 17 r.2.2.2.2.2.1) (va_up (va_up (va_up (va_up (va_up aa 7 r.2.2.2.2.2.2.1) 8 r.2.2.2.2.2.2.2.1) 9 r.2.2.2.2.2.2.2.2.1) 10 r.2.2.2.2.2.2.2.2.2.1) 11 r.2.2.2.2.2.2.2.2.2.2) (va_up (va_up ms 4 q.2.1) 5 q.2.2.1) (va_up (va_up (va_up (va_up ma 3 q.2.2.2.1) 4 q.2.2.2.2.1) 5 q.2.2.2.2.2.1) 6 q.2.2.2.2.2.2) (if r.1 = 0 then vp_updL fo 0 (if r.2.1 = 0 then 0 else 1) else fo) fd ++ w_pool E (h 19) hp pl po pa) H locs := hW
  refine lv_topi (fun z7 e7_ => ?_)
  refine lv_istore (lv' := [(7, .int z7), (6, .int z6), (0, .ref b), (1, .ref (h 0)), (2, .ref (g 0)), (3, .ref o), (4, .ref od), (5, .int (nI i))]) hx hb dL_law_1396 hl (by decide) rfl (fun ls hl => ?_)
  refine lv_aload_n hx hb dL_law_1398 rfl (lv_at hl 4 rfl) ?_
  refine q_callIm hF hl.1 hK hA hZ hW mv_X8_thrown ml_L_168 (c_X8_thrown l D E TXL (g 0) (g 1) (g 2) (g 3) (g 4) (g 5) (g 6) (g 7) (g 8) (g 9) (g 10) (g 11) (g 12) (g 13) (g 14) (g 15) (g 16) (g 17) (g 18) (g 19) (ms 0) (ms 1) (ms 2) (ms 3) q.2.1 q.2.2.1 (ms 6) (ms 7) (ms 8) (ms 9) (ms 10) (ms 11) q.2.1 rfl) [false, false, false, false, false, false, false, false, false, false, false, false, false, false, false, false, false, false, false, false, false, false, false, false, false, false, false, false, false, false, false, false, false, false, false, false, false, false, false, false, false, false, false, false, false, false, false, false, false, false, false, false, false, false, false, true] (Nat.le_of_ble_eq_true rfl) rfl rfl rfl rfl rfl ⟨Nat.le_of_ble_eq_true rfl, Nat.le_of_ble_eq_true rfl⟩ hc rfl rfl (Nat.le_of_ble_eq_true rfl) dL_law_1399 (fun H locs hW => ?_)
  have hW : WD D A s (w_LAW E h g o od (va_up (va_up (va_up (va_up ss 14 r.2.2.1) 15 r.2.2.2.1) 16 r.2.2.2.2.1) 17 r.2.2.2.2.2.1) (va_up (va_up (va_up (va_up (va_up aa 7 r.2.2.2.2.2.2.1) 8 r.2.2.2.2.2.2.2.1) 9 r.2.2.2.2.2.2.2.2.1) 10 r.2.2.2.2.2.2.2.2.2.1) 11 r.2.2.2.2.2.2.2.2.2.2) (va_up (va_up ms 4 q.2.1) 5 q.2.2.1) (va_up (va_up (va_up (va_up ma 3 q.2.2.2.1) 4 q.2.2.2.2.1) 5 q.2.2.2.2.2.1) 6 q.2.2.2.2.2.2) (if r.1 = 0 then vp_updL fo 0 (if r.2.1 = 0 then 0 else 1) else fo) fd ++ w_pool E (h 19) hp pl po pa) H locs := hW
  refine lv_iload hx hb dL_law_1402 (lv_at hl 1 rfl) ?_
  refine lv_icmp_eq (tgt := 1409) hx hb dL_law_1404 (by decide) (fun _ => ?_) (fun z => absurd (hth.trans e6.symm) z)
  refine lv_iload hx hb dL_law_1409 (lv_at hl 1 rfl) ?_
  have hend : ∀ (ls : Array Slot), lv_has ls 9 [(7, .int z7), (6, .int z6), (0, .ref b), (1, .ref (h 0)), (2, .ref (g 0)), (3, .ref o), (4, .ref od), (5, .int (nI i))] → W p l e room_1 s m #[.ref b] below meth c H locs (cells + 4) (slots + 24) Q (F0 m 1433 ls []) := fun ls hl => by
    refine lv_goto (tgt := 2740) hx hb dL_law_1433 (by decide) ?_
    exact kk _ _ _ ⟨_, _, _, _, _, _, _, _, _, hR1, hW⟩ (lv_sub hl [2, 3, 4, 5, 6, 7] rfl)
  refine lv_if_ne (tgt := 1433) hx hb dL_law_1411 (by decide) (fun _ => hend ls hl) (fun z9 => ?_)
  obtain ⟨hk0, hv⟩ := hans (e6.symm.trans z9)
  refine lv_aload_n hx hb dL_law_1414 rfl (lv_at hl 5 rfl) ?_
  refine lv_iconst (v := 0) hx hb dL_law_1415 (by decide) ?_
  refine va_lald hx hb hK hW.1 75 4 rfl rfl (by unfold vp_in; decide) dL_law_1416 ?_
  refine lv_topl (fun z8 e8_ => ?_)
  have e9 : z8 = (if r.2.1 = 0 then 0 else 1) := by
    rw [e8_, if_pos hk0]; rfl
  refine lv_iload hx hb dL_law_1417 (lv_at hl 0 rfl) ?_
  refine lv_if_eq (tgt := 1426) hx hb dL_law_1419 (by decide) (fun hz7 => ?_) (fun hz7 => ?_)
  · refine lv_lconst (v := 0) hx hb dL_law_1426 (by decide) ?_
    refine W.lcmp hx hb dL_law_1427 ?_
    refine lv_if_eq (tgt := 1433) hx hb dL_law_1428 (by decide) (fun _ => hend ls hl) (fun z => absurd ?_ z)
    rw [e9, hv, ← e7_, if_pos hz7]
    exact lg_cmp_self _
  · refine lv_lconst (v := 1) hx hb dL_law_1422 (by decide) ?_
    refine lv_goto (tgt := 1427) hx hb dL_law_1423 (by decide) ?_
    refine W.lcmp hx hb dL_law_1427 ?_
    refine lv_if_eq (tgt := 1433) hx hb dL_law_1428 (by decide) (fun _ => hend ls hl) (fun z => absurd ?_ z)
    rw [e9, hv, ← e7_, if_neg hz7]
    exact lg_cmp_self _
set_option maxHeartbeats 4000000 in
set_option maxRecDepth 100000 in
theorem k_23 {p : Program} {l : Launch} {e : Env} {s : State} {m : MethodId} {below : List Frame} {meth : Method} {c : Code} {D : va_G} {E : Nat → ClassId} {A : Nat → Prop} {b N i : Nat} {xs : Nat → Int32} {h g : Nat → Nat} {hp : Nat → Nat → Nat} {o od : Nat} {Q : State → Prop} {H : Heap} {locs : List Loc} {cells slots : Nat} {ls : Array Slot} (C : LCC p l s m c D E A b N xs) (hi : i + 4 ≤ N) (S : LSS D E A s h g hp o od H locs) (hl : lv_has ls 9 [(0, .ref b), (1, .ref (h 0)), (2, .ref (g 0)), (3, .ref o), (4, .ref od), (5, .int (nI i))]) (hc : cells + 4 ≤ room_1.cells ∧ slots + 24 ≤ room_1.slots) (kk : ∀ (H : Heap) (locs : List Loc) (ls : Array Slot), LSS D E A s h g hp o od H locs → lv_has ls 9 [(0, .ref b), (1, .ref (h 0)), (2, .ref (g 0)), (3, .ref o), (4, .ref od), (5, .int (nI i))] → W p l e room_1 s m #[.ref b] below meth c H locs (cells + 4) (slots + 24) Q (F0 m 2740 ls [])) : W p l e room_1 s m #[.ref b] below meth c H locs cells slots Q (F0 m 1436 ls []) := by
  obtain ⟨hF, hlt, hK, hA, hZ, hN, hX, hbl, hbA, hN9⟩ := C
  obtain ⟨ss, aa, pl, po, pa, ms, ma, fo, fd, hR, hW⟩ := S
  obtain ⟨i0, i1, i2, i3⟩ := ix_ok hi hN9
  have hx := hF.1
  have hb := hF.2.1
  refine lv_aload_n hx hb dL_law_1436 rfl (lv_at hl 1 rfl) ?_
  refine lv_aload_n hx hb dL_law_1437 rfl (lv_at hl 0 rfl) ?_
  refine lv_iload hx hb dL_law_1438 (lv_at hl 5 rfl) ?_
  refine lv_iconst (v := 1) hx hb dL_law_1440 (by decide) ?_
  refine lv_iadd hx hb dL_law_1441 ?_
  refine va_sld hx hb hX hbl hbA hW.2.2 i1 dL_law_1442 ?_
  refine lv_topi (fun x1 ex1 => ?_)
  refine lv_aload_n hx hb dL_law_1443 rfl (lv_at hl 0 rfl) ?_
  refine lv_iload hx hb dL_law_1444 (lv_at hl 5 rfl) ?_
  refine lv_iconst (v := 2) hx hb dL_law_1446 (by decide) ?_
  refine lv_iadd hx hb dL_law_1447 ?_
  refine va_sld hx hb hX hbl hbA hW.2.2 i2 dL_law_1448 ?_
  refine lv_topi (fun x2 ex2 => ?_)
  refine lv_aload_n hx hb dL_law_1449 rfl (lv_at hl 3 rfl) ?_
  obtain ⟨r, e7, q, e8, hM, hR1⟩ := call_posesAt hR x1 x2
  have hk : r.1 = 0 ∨ r.1 = 3 ∨ r.1 = 2 := by
    rcases hM with ⟨m1, m2, m3⟩ | ⟨m1, m2⟩ | ⟨m1, m2⟩
    · exact Or.inl m1
    · exact Or.inr (Or.inl m1)
    · exact Or.inr (Or.inr (m1))
  have hth : q.2.1 = (if r.1 = 3 then 1 else (if r.1 = 2 then 2 else 0)) := by
    rcases hM with ⟨m1, m2, m3⟩ | ⟨m1, m2⟩ | ⟨m1, m2⟩
    · rw [m1, m2]; rfl
    · rw [m1, m2]; rfl
    · rw [m1, m2]; rfl
  have hans : ((if r.1 = 3 then 1 else (if r.1 = 2 then 2 else 0)) : Int32) = 0 → r.1 = 0 ∧ r.2.1 = q.1 := by
    intro z9
    rcases hM with ⟨m1, m2, m3⟩ | ⟨m1, m2⟩ | ⟨m1, m2⟩
    · exact ⟨m1, m3⟩
    · exact absurd z9 (by rw [m1]; decide)
    · exact absurd z9 (by rw [m1]; decide)
  refine q_LWm hF hl.1 hK hA hZ hN hW mW_posesAt ml_L_243 (v_posesAt l D E (h 0) o x1 x2 _ _ r.1 r.2.1 fo (c_X7_posesAt l hlt D E (h 0) (h 1) (h 2) (h 3) (h 4) (h 5) (h 6) (h 7) (h 8) (h 9) (h 10) (h 11) (h 12) (h 13) (h 14) (h 15) (h 16) (h 17) (h 18) (h 20) (h 21) (h 22) (h 23) (h 24) (h 25) (h 26) (h 27) (h 33) (h 34) (h 35) (h 36) (ss 0) (ss 1) (ss 10) (ss 11) (aa 1) (aa 2) (aa 3) (aa 0) (ss 2) (ss 3) (ss 4) (ss 5) (aa 12) (aa 13) (aa 14) (ss 18) (ss 19) (ss 20) (ss 21) (aa 15) (aa 16) (aa 17) (aa 18) (aa 19) x1 x2 r.1 r.2.1 r.2.2.1 r.2.2.2.1 r.2.2.2.2.1 r.2.2.2.2.2.1 r.2.2.2.2.2.2.1 r.2.2.2.2.2.2.2.1 r.2.2.2.2.2.2.2.2.1 r.2.2.2.2.2.2.2.2.2.1 r.2.2.2.2.2.2.2.2.2.2.1 r.2.2.2.2.2.2.2.2.2.2.2.1 r.2.2.2.2.2.2.2.2.2.2.2.2.1 r.2.2.2.2.2.2.2.2.2.2.2.2.2.1 r.2.2.2.2.2.2.2.2.2.2.2.2.2.2.1 r.2.2.2.2.2.2.2.2.2.2.2.2.2.2.2.1 r.2.2.2.2.2.2.2.2.2.2.2.2.2.2.2.2 e7) rfl rfl hk) [true, true, true, true, true, false, false, false, true, false, false, false, false, false, false, false, false, false, false, false, false, false, false, false, false, false, true, false, true, false, true, false, true, false, false, false, false, false, true, true, true, true, true, true, false, false, false, false, false, false, false, false, false, false, false, false, false, false, false, false, false, false, false, false, false, false, false, false, false, false, false, false, false, false, false, true] (Nat.le_of_ble_eq_true rfl) rfl rfl ⟨Nat.le_of_ble_eq_true rfl, Nat.le_of_ble_eq_true rfl⟩ ⟨Nat.le_trans (Nat.add_le_add_left (Nat.le_of_ble_eq_true rfl) cells) hc.1, Nat.le_trans (Nat.add_le_add_left (Nat.le_of_ble_eq_true rfl) slots) hc.2⟩ rfl rfl (Nat.le_of_ble_eq_true rfl) dL_law_1450 (fun H locs hW => ?_)
  refine W.widen (Nat.add_le_add_left (Nat.le_of_ble_eq_true rfl : 2 ≤ 4) cells) (Nat.add_le_add_left (Nat.le_of_ble_eq_true rfl : 12 ≤ 24) slots) ?_
  have hW : WD D A s (w_LAW E h g o od (va_up (va_up (va_up (va_up (va_up (va_up (va_up ss 2 r.2.2.1) 3 r.2.2.2.1) 4 r.2.2.2.2.1) 18 r.2.2.2.2.2.2.2.2.1) 19 r.2.2.2.2.2.2.2.2.2.1) 20 r.2.2.2.2.2.2.2.2.2.2.1) 21 r.2.2.2.2.2.2.2.2.2.2.2.1) (va_up (va_up (va_up (va_up (va_up (va_up (va_up (va_up aa 12 r.2.2.2.2.2.1) 13 r.2.2.2.2.2.2.1) 14 r.2.2.2.2.2.2.2.1) 15 r.2.2.2.2.2.2.2.2.2.2.2.2.1) 16 r.2.2.2.2.2.2.2.2.2.2.2.2.2.1) 17 r.2.2.2.2.2.2.2.2.2.2.2.2.2.2.1) 18 r.2.2.2.2.2.2.2.2.2.2.2.2.2.2.2.1) 19 r.2.2.2.2.2.2.2.2.2.2.2.2.2.2.2.2) ms ma (if r.1 = 0 then vp_updL fo 0 (r.2.1).toInt64 else fo) fd ++ w_pool E (h 19) hp pl po pa) H locs := hW
  refine lv_topi (fun z6 e6 => ?_)
  refine lv_istore (lv' := [(6, .int z6), (0, .ref b), (1, .ref (h 0)), (2, .ref (g 0)), (3, .ref o), (4, .ref od), (5, .int (nI i))]) hx hb dL_law_1453 hl (by decide) rfl (fun ls hl => ?_)
  refine lv_aload_n hx hb dL_law_1455 rfl (lv_at hl 3 rfl) ?_
  refine lv_aload_n hx hb dL_law_1456 rfl (lv_at hl 1 rfl) ?_
  refine lv_iload hx hb dL_law_1457 (lv_at hl 6 rfl) ?_
  refine lv_iconst (v := 1) hx hb dL_law_1459 (by decide) ?_
  refine lv_iadd hx hb dL_law_1460 ?_
  refine va_sld hx hb hX hbl hbA hW.2.2 i1 dL_law_1461 ?_
  refine lv_topi (fun y1 ey1 => ?_)
  obtain rfl : x1 = y1 := ex1.trans ey1.symm
  refine lv_aload_n hx hb dL_law_1462 rfl (lv_at hl 1 rfl) ?_
  refine lv_iload hx hb dL_law_1463 (lv_at hl 6 rfl) ?_
  refine lv_iconst (v := 2) hx hb dL_law_1465 (by decide) ?_
  refine lv_iadd hx hb dL_law_1466 ?_
  refine va_sld hx hb hX hbl hbA hW.2.2 i2 dL_law_1467 ?_
  refine lv_topi (fun y2 ey2 => ?_)
  obtain rfl : x2 = y2 := ex2.trans ey2.symm
  refine q_callIm hF hl.1 hK hA hZ hW mv_X8_posesAt ml_L_245 (c_X8_posesAt l D E TXL (g 0) (g 1) (g 2) (g 3) (g 4) (g 5) (g 6) (g 7) (g 8) (g 9) (g 10) (g 11) (g 12) (g 13) (g 14) (g 15) (g 16) (g 17) (g 18) (g 19) (ms 0) (ms 1) (ms 2) (ms 3) (ms 4) (ms 5) (ms 6) (ms 7) (ms 8) (ms 9) (ms 10) (ms 11) (ma 0) (ma 3) (ma 4) (ma 5) (ma 6) (ma 7) (ma 8) x1 x2 q.1 q.2.1 q.2.2.1 q.2.2.2.1 q.2.2.2.2.1 q.2.2.2.2.2.1 q.2.2.2.2.2.2.1 q.2.2.2.2.2.2.2.1 q.2.2.2.2.2.2.2.2 e8) [false, false, false, false, false, false, false, false, false, false, false, false, false, false, false, false, false, false, false, false, false, false, false, false, false, false, false, false, false, false, false, false, false, false, false, false, false, false, false, false, false, false, false, false, false, false, false, false, false, false, false, false, false, false, false, true, true, false, false, false, false, true, false, true, false, true, true, true, true] (Nat.le_of_ble_eq_true rfl) rfl rfl rfl rfl rfl ⟨Nat.le_of_ble_eq_true rfl, Nat.le_of_ble_eq_true rfl⟩ hc rfl rfl (Nat.le_of_ble_eq_true rfl) dL_law_1468 (fun H locs hW => ?_)
  have hW : WD D A s (w_LAW E h g o od (va_up (va_up (va_up (va_up (va_up (va_up (va_up ss 2 r.2.2.1) 3 r.2.2.2.1) 4 r.2.2.2.2.1) 18 r.2.2.2.2.2.2.2.2.1) 19 r.2.2.2.2.2.2.2.2.2.1) 20 r.2.2.2.2.2.2.2.2.2.2.1) 21 r.2.2.2.2.2.2.2.2.2.2.2.1) (va_up (va_up (va_up (va_up (va_up (va_up (va_up (va_up aa 12 r.2.2.2.2.2.1) 13 r.2.2.2.2.2.2.1) 14 r.2.2.2.2.2.2.2.1) 15 r.2.2.2.2.2.2.2.2.2.2.2.2.1) 16 r.2.2.2.2.2.2.2.2.2.2.2.2.2.1) 17 r.2.2.2.2.2.2.2.2.2.2.2.2.2.2.1) 18 r.2.2.2.2.2.2.2.2.2.2.2.2.2.2.2.1) 19 r.2.2.2.2.2.2.2.2.2.2.2.2.2.2.2.2) (va_up (va_up ms 4 q.2.1) 5 q.2.2.1) (va_up (va_up (va_up (va_up (va_up (va_up ma 3 q.2.2.2.1) 4 q.2.2.2.2.1) 5 q.2.2.2.2.2.1) 6 q.2.2.2.2.2.2.1) 7 q.2.2.2.2.2.2.2.1) 8 q.2.2.2.2.2.2.2.2) (if r.1 = 0 then vp_updL fo 0 (r.2.1).toInt64 else fo) fd ++ w_pool E (h 19) hp pl po pa) H locs := hW
  refine lv_topi (fun z7 e7_ => ?_)
  refine lv_istore (lv' := [(7, .int z7), (6, .int z6), (0, .ref b), (1, .ref (h 0)), (2, .ref (g 0)), (3, .ref o), (4, .ref od), (5, .int (nI i))]) hx hb dL_law_1471 hl (by decide) rfl (fun ls hl => ?_)
  refine lv_aload_n hx hb dL_law_1473 rfl (lv_at hl 4 rfl) ?_
  refine q_callIm hF hl.1 hK hA hZ hW mv_X8_thrown ml_L_168 (c_X8_thrown l D E TXL (g 0) (g 1) (g 2) (g 3) (g 4) (g 5) (g 6) (g 7) (g 8) (g 9) (g 10) (g 11) (g 12) (g 13) (g 14) (g 15) (g 16) (g 17) (g 18) (g 19) (ms 0) (ms 1) (ms 2) (ms 3) q.2.1 q.2.2.1 (ms 6) (ms 7) (ms 8) (ms 9) (ms 10) (ms 11) q.2.1 rfl) [false, false, false, false, false, false, false, false, false, false, false, false, false, false, false, false, false, false, false, false, false, false, false, false, false, false, false, false, false, false, false, false, false, false, false, false, false, false, false, false, false, false, false, false, false, false, false, false, false, false, false, false, false, false, false, true] (Nat.le_of_ble_eq_true rfl) rfl rfl rfl rfl rfl ⟨Nat.le_of_ble_eq_true rfl, Nat.le_of_ble_eq_true rfl⟩ hc rfl rfl (Nat.le_of_ble_eq_true rfl) dL_law_1474 (fun H locs hW => ?_)
  have hW : WD D A s (w_LAW E h g o od (va_up (va_up (va_up (va_up (va_up (va_up (va_up ss 2 r.2.2.1) 3 r.2.2.2.1) 4 r.2.2.2.2.1) 18 r.2.2.2.2.2.2.2.2.1) 19 r.2.2.2.2.2.2.2.2.2.1) 20 r.2.2.2.2.2.2.2.2.2.2.1) 21 r.2.2.2.2.2.2.2.2.2.2.2.1) (va_up (va_up (va_up (va_up (va_up (va_up (va_up (va_up aa 12 r.2.2.2.2.2.1) 13 r.2.2.2.2.2.2.1) 14 r.2.2.2.2.2.2.2.1) 15 r.2.2.2.2.2.2.2.2.2.2.2.2.1) 16 r.2.2.2.2.2.2.2.2.2.2.2.2.2.1) 17 r.2.2.2.2.2.2.2.2.2.2.2.2.2.2.1) 18 r.2.2.2.2.2.2.2.2.2.2.2.2.2.2.2.1) 19 r.2.2.2.2.2.2.2.2.2.2.2.2.2.2.2.2) (va_up (va_up ms 4 q.2.1) 5 q.2.2.1) (va_up (va_up (va_up (va_up (va_up (va_up ma 3 q.2.2.2.1) 4 q.2.2.2.2.1) 5 q.2.2.2.2.2.1) 6 q.2.2.2.2.2.2.1) 7 q.2.2.2.2.2.2.2.1) 8 q.2.2.2.2.2.2.2.2) (if r.1 = 0 then vp_updL fo 0 (r.2.1).toInt64 else fo) fd ++ w_pool E (h 19) hp pl po pa) H locs := hW
  refine lv_iload hx hb dL_law_1477 (lv_at hl 1 rfl) ?_
  refine lv_icmp_eq (tgt := 1484) hx hb dL_law_1479 (by decide) (fun _ => ?_) (fun z => absurd (hth.trans e6.symm) z)
  refine lv_iload hx hb dL_law_1484 (lv_at hl 1 rfl) ?_
  have hend : ∀ (ls : Array Slot), lv_has ls 9 [(7, .int z7), (6, .int z6), (0, .ref b), (1, .ref (h 0)), (2, .ref (g 0)), (3, .ref o), (4, .ref od), (5, .int (nI i))] → W p l e room_1 s m #[.ref b] below meth c H locs (cells + 4) (slots + 24) Q (F0 m 1501 ls []) := fun ls hl => by
    refine lv_goto (tgt := 2740) hx hb dL_law_1501 (by decide) ?_
    exact kk _ _ _ ⟨_, _, _, _, _, _, _, _, _, hR1, hW⟩ (lv_sub hl [2, 3, 4, 5, 6, 7] rfl)
  refine lv_if_ne (tgt := 1501) hx hb dL_law_1486 (by decide) (fun _ => hend ls hl) (fun z9 => ?_)
  obtain ⟨hk0, hv⟩ := hans (e6.symm.trans z9)
  refine lv_aload_n hx hb dL_law_1489 rfl (lv_at hl 5 rfl) ?_
  refine lv_iconst (v := 0) hx hb dL_law_1490 (by decide) ?_
  refine va_lald hx hb hK hW.1 75 4 rfl rfl (by unfold vp_in; decide) dL_law_1491 ?_
  refine lv_topl (fun z8 e8_ => ?_)
  have e9 : z8 = (r.2.1).toInt64 := by
    rw [e8_, if_pos hk0]; rfl
  refine lv_iload hx hb dL_law_1492 (lv_at hl 0 rfl) ?_
  refine lv_i2l hx hb dL_law_1494 rfl ?_
  refine W.lcmp hx hb dL_law_1495 ?_
  refine lv_if_eq (tgt := 1501) hx hb dL_law_1496 (by decide) (fun _ => hend ls hl) (fun z => absurd ?_ z)
  rw [e9, hv, e7_]
  exact lg_cmp_self _
set_option maxHeartbeats 4000000 in
set_option maxRecDepth 100000 in
theorem k_24 {p : Program} {l : Launch} {e : Env} {s : State} {m : MethodId} {below : List Frame} {meth : Method} {c : Code} {D : va_G} {E : Nat → ClassId} {A : Nat → Prop} {b N i : Nat} {xs : Nat → Int32} {h g : Nat → Nat} {hp : Nat → Nat → Nat} {o od : Nat} {Q : State → Prop} {H : Heap} {locs : List Loc} {cells slots : Nat} {ls : Array Slot} (C : LCC p l s m c D E A b N xs) (hi : i + 4 ≤ N) (S : LSS D E A s h g hp o od H locs) (hl : lv_has ls 9 [(0, .ref b), (1, .ref (h 0)), (2, .ref (g 0)), (3, .ref o), (4, .ref od), (5, .int (nI i))]) (hc : cells + 4 ≤ room_1.cells ∧ slots + 24 ≤ room_1.slots) (kk : ∀ (H : Heap) (locs : List Loc) (ls : Array Slot), LSS D E A s h g hp o od H locs → lv_has ls 9 [(0, .ref b), (1, .ref (h 0)), (2, .ref (g 0)), (3, .ref o), (4, .ref od), (5, .int (nI i))] → W p l e room_1 s m #[.ref b] below meth c H locs (cells + 4) (slots + 24) Q (F0 m 2740 ls [])) : W p l e room_1 s m #[.ref b] below meth c H locs cells slots Q (F0 m 1504 ls []) := by
  obtain ⟨hF, hlt, hK, hA, hZ, hN, hX, hbl, hbA, hN9⟩ := C
  obtain ⟨ss, aa, pl, po, pa, ms, ma, fo, fd, hR, hW⟩ := S
  obtain ⟨i0, i1, i2, i3⟩ := ix_ok hi hN9
  have hx := hF.1
  have hb := hF.2.1
  refine lv_aload_n hx hb dL_law_1504 rfl (lv_at hl 1 rfl) ?_
  refine lv_aload_n hx hb dL_law_1505 rfl (lv_at hl 3 rfl) ?_
  obtain ⟨r, e7, q, e8, hM, hR1⟩ := call_connected hR
  have hk : r.1 = 0 ∨ r.1 = 2 := by
    rcases hM with ⟨m1, m2, m3⟩ | ⟨m1, m2⟩
    · exact Or.inl m1
    · exact Or.inr (m1)
  have hth : q.2.1 = (if r.1 = 2 then 1 else 0) := by
    rcases hM with ⟨m1, m2, m3⟩ | ⟨m1, m2⟩
    · rw [m1, m2]; rfl
    · rw [m1, m2]; rfl
  have hans : ((if r.1 = 2 then 1 else 0) : Int32) = 0 → r.1 = 0 ∧ r.2.1 = q.1 := by
    intro z9
    rcases hM with ⟨m1, m2, m3⟩ | ⟨m1, m2⟩
    · exact ⟨m1, m3⟩
    · exact absurd z9 (by rw [m1]; decide)
  refine q_LWm hF hl.1 hK hA hZ hN hW mW_connected ml_L_246 (v_connected l D E (h 0) o _ _ r.1 r.2.1 fo (c_X7_connected l hlt D E (h 0) (h 1) (h 2) (h 3) (h 4) (h 5) (h 6) (h 7) (h 8) (h 9) (h 10) (h 11) (h 12) (h 13) (h 14) (h 15) (h 16) (h 17) (h 18) (h 20) (h 21) (h 22) (h 23) (h 24) (h 25) (h 26) (h 27) (h 33) (h 34) (h 35) (h 36) (ss 0) (ss 1) (ss 10) (ss 11) (aa 1) (aa 2) (aa 3) (aa 4) (aa 0) (ss 2) (ss 3) (ss 4) (ss 5) (aa 12) (aa 13) (aa 14) (aa 20) (aa 21) (ss 18) (ss 19) (ss 20) (ss 21) (aa 15) (aa 16) (aa 17) (aa 18) (aa 19) r.1 r.2.1 r.2.2.1 r.2.2.2.1 r.2.2.2.2.1 r.2.2.2.2.2.1 r.2.2.2.2.2.2.1 r.2.2.2.2.2.2.2.1 r.2.2.2.2.2.2.2.2.1 r.2.2.2.2.2.2.2.2.2.1 r.2.2.2.2.2.2.2.2.2.2.1 r.2.2.2.2.2.2.2.2.2.2.2.1 r.2.2.2.2.2.2.2.2.2.2.2.2.1 r.2.2.2.2.2.2.2.2.2.2.2.2.2.1 r.2.2.2.2.2.2.2.2.2.2.2.2.2.2.1 r.2.2.2.2.2.2.2.2.2.2.2.2.2.2.2.1 r.2.2.2.2.2.2.2.2.2.2.2.2.2.2.2.2.1 r.2.2.2.2.2.2.2.2.2.2.2.2.2.2.2.2.2.1 r.2.2.2.2.2.2.2.2.2.2.2.2.2.2.2.2.2.2.1 r.2.2.2.2.2.2.2.2.2.2.2.2.2.2.2.2.2.2.2 e7) rfl rfl hk) [true, true, true, true, true, true, false, false, true, false, false, false, false, false, false, false, false, false, false, false, false, false, false, false, false, false, true, false, true, false, true, false, true, false, true, false, true, false, true, true, true, true, true, true, false, false, false, false, false, false, false, false, false, false, false, false, false, false, false, false, false, false, false, false, false, false, false, false, false, false, false, false, false, false, false, true] (Nat.le_of_ble_eq_true rfl) rfl rfl ⟨Nat.le_of_ble_eq_true rfl, Nat.le_of_ble_eq_true rfl⟩ ⟨Nat.le_trans (Nat.add_le_add_left (Nat.le_of_ble_eq_true rfl) cells) hc.1, Nat.le_trans (Nat.add_le_add_left (Nat.le_of_ble_eq_true rfl) slots) hc.2⟩ rfl rfl (Nat.le_of_ble_eq_true rfl) dL_law_1506 (fun H locs hW => ?_)
  refine W.widen (Nat.add_le_add_left (Nat.le_of_ble_eq_true rfl : 1 ≤ 4) cells) (Nat.add_le_add_left (Nat.le_of_ble_eq_true rfl : 6 ≤ 24) slots) ?_
  have hW : WD D A s (w_LAW E h g o od (va_up (va_up (va_up (va_up (va_up (va_up (va_up (va_up ss 2 r.2.2.1) 3 r.2.2.2.1) 4 r.2.2.2.2.1) 5 r.2.2.2.2.2.1) 18 r.2.2.2.2.2.2.2.2.2.2.2.1) 19 r.2.2.2.2.2.2.2.2.2.2.2.2.1) 20 r.2.2.2.2.2.2.2.2.2.2.2.2.2.1) 21 r.2.2.2.2.2.2.2.2.2.2.2.2.2.2.1) (va_up (va_up (va_up (va_up (va_up (va_up (va_up (va_up (va_up (va_up aa 12 r.2.2.2.2.2.2.1) 13 r.2.2.2.2.2.2.2.1) 14 r.2.2.2.2.2.2.2.2.1) 20 r.2.2.2.2.2.2.2.2.2.1) 21 r.2.2.2.2.2.2.2.2.2.2.1) 15 r.2.2.2.2.2.2.2.2.2.2.2.2.2.2.2.1) 16 r.2.2.2.2.2.2.2.2.2.2.2.2.2.2.2.2.1) 17 r.2.2.2.2.2.2.2.2.2.2.2.2.2.2.2.2.2.1) 18 r.2.2.2.2.2.2.2.2.2.2.2.2.2.2.2.2.2.2.1) 19 r.2.2.2.2.2.2.2.2.2.2.2.2.2.2.2.2.2.2.2) ms ma (if r.1 = 0 then vp_updL fo 0 (r.2.1).toInt64 else fo) fd ++ w_pool E (h 19) hp pl po pa) H locs := hW
  refine lv_topi (fun z6 e6 => ?_)
  refine lv_istore (lv' := [(6, .int z6), (0, .ref b), (1, .ref (h 0)), (2, .ref (g 0)), (3, .ref o), (4, .ref od), (5, .int (nI i))]) hx hb dL_law_1509 hl (by decide) rfl (fun ls hl => ?_)
  refine lv_aload_n hx hb dL_law_1511 rfl (lv_at hl 3 rfl) ?_
  refine q_callIm hF hl.1 hK hA hZ hW mv_X8_connected ml_L_248 (c_X8_connected l D E TXL (g 0) (g 1) (g 2) (g 3) (g 4) (g 5) (g 6) (g 7) (g 8) (g 9) (g 10) (g 11) (g 12) (g 13) (g 14) (g 15) (g 16) (g 17) (g 18) (g 19) (ms 0) (ms 1) (ms 2) (ms 3) (ms 4) (ms 5) (ms 6) (ms 7) (ms 8) (ms 9) (ms 10) (ms 11) (ma 0) (ma 3) (ma 4) (ma 5) (ma 6) (ma 7) (ma 8) (ma 9) (ma 10) q.1 q.2.1 q.2.2.1 q.2.2.2.1 q.2.2.2.2.1 q.2.2.2.2.2.1 q.2.2.2.2.2.2.1 q.2.2.2.2.2.2.2.1 q.2.2.2.2.2.2.2.2.1 q.2.2.2.2.2.2.2.2.2.1 q.2.2.2.2.2.2.2.2.2.2.1 q.2.2.2.2.2.2.2.2.2.2.2 e8) [false, false, false, false, false, false, false, false, false, false, false, false, false, false, false, false, false, false, false, false, false, false, false, false, false, false, false, false, false, false, false, false, false, false, false, false, false, false, false, false, false, false, false, false, false, false, false, false, false, false, false, false, false, false, false, true, true, false, false, false, false, true, false, true, false, true, true, true, true, true, true] (Nat.le_of_ble_eq_true rfl) rfl rfl rfl rfl rfl ⟨Nat.le_of_ble_eq_true rfl, Nat.le_of_ble_eq_true rfl⟩ hc rfl rfl (Nat.le_of_ble_eq_true rfl) dL_law_1512 (fun H locs hW => ?_)
  have hW : WD D A s (w_LAW E h g o od (va_up (va_up (va_up (va_up (va_up (va_up (va_up (va_up ss 2 r.2.2.1) 3 r.2.2.2.1) 4 r.2.2.2.2.1) 5 r.2.2.2.2.2.1) 18 r.2.2.2.2.2.2.2.2.2.2.2.1) 19 r.2.2.2.2.2.2.2.2.2.2.2.2.1) 20 r.2.2.2.2.2.2.2.2.2.2.2.2.2.1) 21 r.2.2.2.2.2.2.2.2.2.2.2.2.2.2.1) (va_up (va_up (va_up (va_up (va_up (va_up (va_up (va_up (va_up (va_up aa 12 r.2.2.2.2.2.2.1) 13 r.2.2.2.2.2.2.2.1) 14 r.2.2.2.2.2.2.2.2.1) 20 r.2.2.2.2.2.2.2.2.2.1) 21 r.2.2.2.2.2.2.2.2.2.2.1) 15 r.2.2.2.2.2.2.2.2.2.2.2.2.2.2.2.1) 16 r.2.2.2.2.2.2.2.2.2.2.2.2.2.2.2.2.1) 17 r.2.2.2.2.2.2.2.2.2.2.2.2.2.2.2.2.2.1) 18 r.2.2.2.2.2.2.2.2.2.2.2.2.2.2.2.2.2.2.1) 19 r.2.2.2.2.2.2.2.2.2.2.2.2.2.2.2.2.2.2.2) (va_up (va_up (va_up ms 4 q.2.1) 5 q.2.2.1) 6 q.2.2.2.1) (va_up (va_up (va_up (va_up (va_up (va_up (va_up (va_up ma 3 q.2.2.2.2.1) 4 q.2.2.2.2.2.1) 5 q.2.2.2.2.2.2.1) 6 q.2.2.2.2.2.2.2.1) 7 q.2.2.2.2.2.2.2.2.1) 8 q.2.2.2.2.2.2.2.2.2.1) 9 q.2.2.2.2.2.2.2.2.2.2.1) 10 q.2.2.2.2.2.2.2.2.2.2.2) (if r.1 = 0 then vp_updL fo 0 (r.2.1).toInt64 else fo) fd ++ w_pool E (h 19) hp pl po pa) H locs := hW
  refine lv_topi (fun z7 e7_ => ?_)
  refine lv_istore (lv' := [(7, .int z7), (6, .int z6), (0, .ref b), (1, .ref (h 0)), (2, .ref (g 0)), (3, .ref o), (4, .ref od), (5, .int (nI i))]) hx hb dL_law_1515 hl (by decide) rfl (fun ls hl => ?_)
  refine lv_aload_n hx hb dL_law_1517 rfl (lv_at hl 4 rfl) ?_
  refine q_callIm hF hl.1 hK hA hZ hW mv_X8_thrown ml_L_168 (c_X8_thrown l D E TXL (g 0) (g 1) (g 2) (g 3) (g 4) (g 5) (g 6) (g 7) (g 8) (g 9) (g 10) (g 11) (g 12) (g 13) (g 14) (g 15) (g 16) (g 17) (g 18) (g 19) (ms 0) (ms 1) (ms 2) (ms 3) q.2.1 q.2.2.1 q.2.2.2.1 (ms 7) (ms 8) (ms 9) (ms 10) (ms 11) q.2.1 rfl) [false, false, false, false, false, false, false, false, false, false, false, false, false, false, false, false, false, false, false, false, false, false, false, false, false, false, false, false, false, false, false, false, false, false, false, false, false, false, false, false, false, false, false, false, false, false, false, false, false, false, false, false, false, false, false, true] (Nat.le_of_ble_eq_true rfl) rfl rfl rfl rfl rfl ⟨Nat.le_of_ble_eq_true rfl, Nat.le_of_ble_eq_true rfl⟩ hc rfl rfl (Nat.le_of_ble_eq_true rfl) dL_law_1518 (fun H locs hW => ?_)
  have hW : WD D A s (w_LAW E h g o od (va_up (va_up (va_up (va_up (va_up (va_up (va_up (va_up ss 2 r.2.2.1) 3 r.2.2.2.1) 4 r.2.2.2.2.1) 5 r.2.2.2.2.2.1) 18 r.2.2.2.2.2.2.2.2.2.2.2.1) 19 r.2.2.2.2.2.2.2.2.2.2.2.2.1) 20 r.2.2.2.2.2.2.2.2.2.2.2.2.2.1) 21 r.2.2.2.2.2.2.2.2.2.2.2.2.2.2.1) (va_up (va_up (va_up (va_up (va_up (va_up (va_up (va_up (va_up (va_up aa 12 r.2.2.2.2.2.2.1) 13 r.2.2.2.2.2.2.2.1) 14 r.2.2.2.2.2.2.2.2.1) 20 r.2.2.2.2.2.2.2.2.2.1) 21 r.2.2.2.2.2.2.2.2.2.2.1) 15 r.2.2.2.2.2.2.2.2.2.2.2.2.2.2.2.1) 16 r.2.2.2.2.2.2.2.2.2.2.2.2.2.2.2.2.1) 17 r.2.2.2.2.2.2.2.2.2.2.2.2.2.2.2.2.2.1) 18 r.2.2.2.2.2.2.2.2.2.2.2.2.2.2.2.2.2.2.1) 19 r.2.2.2.2.2.2.2.2.2.2.2.2.2.2.2.2.2.2.2) (va_up (va_up (va_up ms 4 q.2.1) 5 q.2.2.1) 6 q.2.2.2.1) (va_up (va_up (va_up (va_up (va_up (va_up (va_up (va_up ma 3 q.2.2.2.2.1) 4 q.2.2.2.2.2.1) 5 q.2.2.2.2.2.2.1) 6 q.2.2.2.2.2.2.2.1) 7 q.2.2.2.2.2.2.2.2.1) 8 q.2.2.2.2.2.2.2.2.2.1) 9 q.2.2.2.2.2.2.2.2.2.2.1) 10 q.2.2.2.2.2.2.2.2.2.2.2) (if r.1 = 0 then vp_updL fo 0 (r.2.1).toInt64 else fo) fd ++ w_pool E (h 19) hp pl po pa) H locs := hW
  refine lv_iload hx hb dL_law_1521 (lv_at hl 1 rfl) ?_
  refine lv_icmp_eq (tgt := 1528) hx hb dL_law_1523 (by decide) (fun _ => ?_) (fun z => absurd (hth.trans e6.symm) z)
  refine lv_iload hx hb dL_law_1528 (lv_at hl 1 rfl) ?_
  have hend : ∀ (ls : Array Slot), lv_has ls 9 [(7, .int z7), (6, .int z6), (0, .ref b), (1, .ref (h 0)), (2, .ref (g 0)), (3, .ref o), (4, .ref od), (5, .int (nI i))] → W p l e room_1 s m #[.ref b] below meth c H locs (cells + 4) (slots + 24) Q (F0 m 1545 ls []) := fun ls hl => by
    refine lv_goto (tgt := 2740) hx hb dL_law_1545 (by decide) ?_
    exact kk _ _ _ ⟨_, _, _, _, _, _, _, _, _, hR1, hW⟩ (lv_sub hl [2, 3, 4, 5, 6, 7] rfl)
  refine lv_if_ne (tgt := 1545) hx hb dL_law_1530 (by decide) (fun _ => hend ls hl) (fun z9 => ?_)
  obtain ⟨hk0, hv⟩ := hans (e6.symm.trans z9)
  refine lv_aload_n hx hb dL_law_1533 rfl (lv_at hl 5 rfl) ?_
  refine lv_iconst (v := 0) hx hb dL_law_1534 (by decide) ?_
  refine va_lald hx hb hK hW.1 75 4 rfl rfl (by unfold vp_in; decide) dL_law_1535 ?_
  refine lv_topl (fun z8 e8_ => ?_)
  have e9 : z8 = (r.2.1).toInt64 := by
    rw [e8_, if_pos hk0]; rfl
  refine lv_iload hx hb dL_law_1536 (lv_at hl 0 rfl) ?_
  refine lv_i2l hx hb dL_law_1538 rfl ?_
  refine W.lcmp hx hb dL_law_1539 ?_
  refine lv_if_eq (tgt := 1545) hx hb dL_law_1540 (by decide) (fun _ => hend ls hl) (fun z => absurd ?_ z)
  rw [e9, hv, e7_]
  exact lg_cmp_self _
set_option maxHeartbeats 4000000 in
set_option maxRecDepth 100000 in
theorem k_25 {p : Program} {l : Launch} {e : Env} {s : State} {m : MethodId} {below : List Frame} {meth : Method} {c : Code} {D : va_G} {E : Nat → ClassId} {A : Nat → Prop} {b N i : Nat} {xs : Nat → Int32} {h g : Nat → Nat} {hp : Nat → Nat → Nat} {o od : Nat} {Q : State → Prop} {H : Heap} {locs : List Loc} {cells slots : Nat} {ls : Array Slot} (C : LCC p l s m c D E A b N xs) (hi : i + 4 ≤ N) (S : LSS D E A s h g hp o od H locs) (hl : lv_has ls 9 [(0, .ref b), (1, .ref (h 0)), (2, .ref (g 0)), (3, .ref o), (4, .ref od), (5, .int (nI i))]) (hc : cells + 4 ≤ room_1.cells ∧ slots + 24 ≤ room_1.slots) (kk : ∀ (H : Heap) (locs : List Loc) (ls : Array Slot), LSS D E A s h g hp o od H locs → lv_has ls 9 [(0, .ref b), (1, .ref (h 0)), (2, .ref (g 0)), (3, .ref o), (4, .ref od), (5, .int (nI i))] → W p l e room_1 s m #[.ref b] below meth c H locs (cells + 4) (slots + 24) Q (F0 m 2740 ls [])) : W p l e room_1 s m #[.ref b] below meth c H locs cells slots Q (F0 m 1548 ls []) := by
  obtain ⟨hF, hlt, hK, hA, hZ, hN, hX, hbl, hbA, hN9⟩ := C
  obtain ⟨ss, aa, pl, po, pa, ms, ma, fo, fd, hR, hW⟩ := S
  obtain ⟨i0, i1, i2, i3⟩ := ix_ok hi hN9
  have hx := hF.1
  have hb := hF.2.1
  refine lv_aload_n hx hb dL_law_1548 rfl (lv_at hl 1 rfl) ?_
  refine lv_aload_n hx hb dL_law_1549 rfl (lv_at hl 3 rfl) ?_
  obtain ⟨r, e7, q, e8, hM, hR1⟩ := call_reachableCells hR
  have hk : r.1 = 0 ∨ r.1 = 2 := by
    rcases hM with ⟨m1, m2, m3⟩ | ⟨m1, m2⟩
    · exact Or.inl m1
    · exact Or.inr (m1)
  have hth : q.2.1 = (if r.1 = 2 then 1 else 0) := by
    rcases hM with ⟨m1, m2, m3⟩ | ⟨m1, m2⟩
    · rw [m1, m2]; rfl
    · rw [m1, m2]; rfl
  have hans : ((if r.1 = 2 then 1 else 0) : Int32) = 0 → r.1 = 0 ∧ r.2.1 = q.1 := by
    intro z9
    rcases hM with ⟨m1, m2, m3⟩ | ⟨m1, m2⟩
    · exact ⟨m1, m3⟩
    · exact absurd z9 (by rw [m1]; decide)
  refine q_LWm hF hl.1 hK hA hZ hN hW mW_reachableCells ml_L_249 (v_reachableCells l D E (h 0) o _ _ r.1 r.2.1 fo (c_X7_reachableCells l hlt D E (h 0) (h 1) (h 2) (h 3) (h 4) (h 5) (h 6) (h 7) (h 8) (h 9) (h 10) (h 11) (h 12) (h 13) (h 14) (h 15) (h 16) (h 17) (h 18) (h 20) (h 21) (h 22) (h 23) (h 24) (h 25) (h 26) (h 27) (h 33) (h 34) (h 35) (h 36) (ss 0) (ss 1) (ss 10) (ss 11) (aa 1) (aa 2) (aa 3) (aa 4) (aa 0) (ss 2) (ss 3) (ss 4) (ss 5) (aa 12) (aa 13) (aa 14) (aa 20) (aa 21) (ss 18) (ss 19) (ss 20) (ss 21) (aa 15) (aa 16) (aa 17) (aa 18) (aa 19) (aa 22) r.1 r.2.1 r.2.2.1 r.2.2.2.1 r.2.2.2.2.1 r.2.2.2.2.2.1 r.2.2.2.2.2.2.1 r.2.2.2.2.2.2.2.1 r.2.2.2.2.2.2.2.2.1 r.2.2.2.2.2.2.2.2.2.1 r.2.2.2.2.2.2.2.2.2.2.1 r.2.2.2.2.2.2.2.2.2.2.2.1 r.2.2.2.2.2.2.2.2.2.2.2.2.1 r.2.2.2.2.2.2.2.2.2.2.2.2.2.1 r.2.2.2.2.2.2.2.2.2.2.2.2.2.2.1 r.2.2.2.2.2.2.2.2.2.2.2.2.2.2.2.1 r.2.2.2.2.2.2.2.2.2.2.2.2.2.2.2.2.1 r.2.2.2.2.2.2.2.2.2.2.2.2.2.2.2.2.2.1 r.2.2.2.2.2.2.2.2.2.2.2.2.2.2.2.2.2.2.1 r.2.2.2.2.2.2.2.2.2.2.2.2.2.2.2.2.2.2.2.1 r.2.2.2.2.2.2.2.2.2.2.2.2.2.2.2.2.2.2.2.2 e7) rfl rfl hk) [true, true, true, true, true, true, false, false, true, false, false, false, false, false, false, false, false, false, false, false, false, false, false, false, false, false, true, false, true, false, true, false, true, false, true, false, true, false, true, true, true, true, true, true, false, false, false, true, false, false, false, false, false, false, false, false, false, false, false, false, false, false, false, false, false, false, false, false, false, false, false, false, false, false, false, true] (Nat.le_of_ble_eq_true rfl) rfl rfl ⟨Nat.le_of_ble_eq_true rfl, Nat.le_of_ble_eq_true rfl⟩ ⟨Nat.le_trans (Nat.add_le_add_left (Nat.le_of_ble_eq_true rfl) cells) hc.1, Nat.le_trans (Nat.add_le_add_left (Nat.le_of_ble_eq_true rfl) slots) hc.2⟩ rfl rfl (Nat.le_of_ble_eq_true rfl) dL_law_1550 (fun H locs hW => ?_)
  refine W.widen (Nat.add_le_add_left (Nat.le_of_ble_eq_true rfl : 1 ≤ 4) cells) (Nat.add_le_add_left (Nat.le_of_ble_eq_true rfl : 6 ≤ 24) slots) ?_
  have hW : WD D A s (w_LAW E h g o od (va_up (va_up (va_up (va_up (va_up (va_up (va_up (va_up ss 2 r.2.2.1) 3 r.2.2.2.1) 4 r.2.2.2.2.1) 5 r.2.2.2.2.2.1) 18 r.2.2.2.2.2.2.2.2.2.2.2.1) 19 r.2.2.2.2.2.2.2.2.2.2.2.2.1) 20 r.2.2.2.2.2.2.2.2.2.2.2.2.2.1) 21 r.2.2.2.2.2.2.2.2.2.2.2.2.2.2.1) (va_up (va_up (va_up (va_up (va_up (va_up (va_up (va_up (va_up (va_up (va_up aa 12 r.2.2.2.2.2.2.1) 13 r.2.2.2.2.2.2.2.1) 14 r.2.2.2.2.2.2.2.2.1) 20 r.2.2.2.2.2.2.2.2.2.1) 21 r.2.2.2.2.2.2.2.2.2.2.1) 15 r.2.2.2.2.2.2.2.2.2.2.2.2.2.2.2.1) 16 r.2.2.2.2.2.2.2.2.2.2.2.2.2.2.2.2.1) 17 r.2.2.2.2.2.2.2.2.2.2.2.2.2.2.2.2.2.1) 18 r.2.2.2.2.2.2.2.2.2.2.2.2.2.2.2.2.2.2.1) 19 r.2.2.2.2.2.2.2.2.2.2.2.2.2.2.2.2.2.2.2.1) 22 r.2.2.2.2.2.2.2.2.2.2.2.2.2.2.2.2.2.2.2.2) ms ma (if r.1 = 0 then vp_updL fo 0 (r.2.1).toInt64 else fo) fd ++ w_pool E (h 19) hp pl po pa) H locs := hW
  refine lv_topi (fun z6 e6 => ?_)
  refine lv_istore (lv' := [(6, .int z6), (0, .ref b), (1, .ref (h 0)), (2, .ref (g 0)), (3, .ref o), (4, .ref od), (5, .int (nI i))]) hx hb dL_law_1553 hl (by decide) rfl (fun ls hl => ?_)
  refine lv_aload_n hx hb dL_law_1555 rfl (lv_at hl 3 rfl) ?_
  refine q_callIm hF hl.1 hK hA hZ hW mv_X8_reachableCells ml_L_251 (c_X8_reachableCells l D E TXL (g 0) (g 1) (g 2) (g 3) (g 4) (g 5) (g 6) (g 7) (g 8) (g 9) (g 10) (g 11) (g 12) (g 13) (g 14) (g 15) (g 16) (g 17) (g 18) (g 19) (ms 0) (ms 1) (ms 2) (ms 3) (ms 4) (ms 5) (ms 6) (ms 7) (ms 8) (ms 9) (ms 10) (ms 11) (ma 0) (ma 3) (ma 4) (ma 5) (ma 6) (ma 7) (ma 8) (ma 9) (ma 10) (ma 11) q.1 q.2.1 q.2.2.1 q.2.2.2.1 q.2.2.2.2.1 q.2.2.2.2.2.1 q.2.2.2.2.2.2.1 q.2.2.2.2.2.2.2.1 q.2.2.2.2.2.2.2.2.1 q.2.2.2.2.2.2.2.2.2.1 q.2.2.2.2.2.2.2.2.2.2.1 q.2.2.2.2.2.2.2.2.2.2.2.1 q.2.2.2.2.2.2.2.2.2.2.2.2 e8) [false, false, false, false, false, false, false, false, false, false, false, false, false, false, false, false, false, false, false, false, false, false, false, false, false, false, false, false, false, false, false, false, false, false, false, false, false, false, false, false, false, false, false, false, false, false, false, false, false, false, false, false, false, false, false, true, true, false, false, false, false, true, false, true, false, true, true, true, true, true, true, true] (Nat.le_of_ble_eq_true rfl) rfl rfl rfl rfl rfl ⟨Nat.le_of_ble_eq_true rfl, Nat.le_of_ble_eq_true rfl⟩ hc rfl rfl (Nat.le_of_ble_eq_true rfl) dL_law_1556 (fun H locs hW => ?_)
  have hW : WD D A s (w_LAW E h g o od (va_up (va_up (va_up (va_up (va_up (va_up (va_up (va_up ss 2 r.2.2.1) 3 r.2.2.2.1) 4 r.2.2.2.2.1) 5 r.2.2.2.2.2.1) 18 r.2.2.2.2.2.2.2.2.2.2.2.1) 19 r.2.2.2.2.2.2.2.2.2.2.2.2.1) 20 r.2.2.2.2.2.2.2.2.2.2.2.2.2.1) 21 r.2.2.2.2.2.2.2.2.2.2.2.2.2.2.1) (va_up (va_up (va_up (va_up (va_up (va_up (va_up (va_up (va_up (va_up (va_up aa 12 r.2.2.2.2.2.2.1) 13 r.2.2.2.2.2.2.2.1) 14 r.2.2.2.2.2.2.2.2.1) 20 r.2.2.2.2.2.2.2.2.2.1) 21 r.2.2.2.2.2.2.2.2.2.2.1) 15 r.2.2.2.2.2.2.2.2.2.2.2.2.2.2.2.1) 16 r.2.2.2.2.2.2.2.2.2.2.2.2.2.2.2.2.1) 17 r.2.2.2.2.2.2.2.2.2.2.2.2.2.2.2.2.2.1) 18 r.2.2.2.2.2.2.2.2.2.2.2.2.2.2.2.2.2.2.1) 19 r.2.2.2.2.2.2.2.2.2.2.2.2.2.2.2.2.2.2.2.1) 22 r.2.2.2.2.2.2.2.2.2.2.2.2.2.2.2.2.2.2.2.2) (va_up (va_up (va_up ms 4 q.2.1) 5 q.2.2.1) 6 q.2.2.2.1) (va_up (va_up (va_up (va_up (va_up (va_up (va_up (va_up (va_up ma 3 q.2.2.2.2.1) 4 q.2.2.2.2.2.1) 5 q.2.2.2.2.2.2.1) 6 q.2.2.2.2.2.2.2.1) 7 q.2.2.2.2.2.2.2.2.1) 8 q.2.2.2.2.2.2.2.2.2.1) 9 q.2.2.2.2.2.2.2.2.2.2.1) 10 q.2.2.2.2.2.2.2.2.2.2.2.1) 11 q.2.2.2.2.2.2.2.2.2.2.2.2) (if r.1 = 0 then vp_updL fo 0 (r.2.1).toInt64 else fo) fd ++ w_pool E (h 19) hp pl po pa) H locs := hW
  refine lv_topi (fun z7 e7_ => ?_)
  refine lv_istore (lv' := [(7, .int z7), (6, .int z6), (0, .ref b), (1, .ref (h 0)), (2, .ref (g 0)), (3, .ref o), (4, .ref od), (5, .int (nI i))]) hx hb dL_law_1559 hl (by decide) rfl (fun ls hl => ?_)
  refine lv_aload_n hx hb dL_law_1561 rfl (lv_at hl 4 rfl) ?_
  refine q_callIm hF hl.1 hK hA hZ hW mv_X8_thrown ml_L_168 (c_X8_thrown l D E TXL (g 0) (g 1) (g 2) (g 3) (g 4) (g 5) (g 6) (g 7) (g 8) (g 9) (g 10) (g 11) (g 12) (g 13) (g 14) (g 15) (g 16) (g 17) (g 18) (g 19) (ms 0) (ms 1) (ms 2) (ms 3) q.2.1 q.2.2.1 q.2.2.2.1 (ms 7) (ms 8) (ms 9) (ms 10) (ms 11) q.2.1 rfl) [false, false, false, false, false, false, false, false, false, false, false, false, false, false, false, false, false, false, false, false, false, false, false, false, false, false, false, false, false, false, false, false, false, false, false, false, false, false, false, false, false, false, false, false, false, false, false, false, false, false, false, false, false, false, false, true] (Nat.le_of_ble_eq_true rfl) rfl rfl rfl rfl rfl ⟨Nat.le_of_ble_eq_true rfl, Nat.le_of_ble_eq_true rfl⟩ hc rfl rfl (Nat.le_of_ble_eq_true rfl) dL_law_1562 (fun H locs hW => ?_)
  have hW : WD D A s (w_LAW E h g o od (va_up (va_up (va_up (va_up (va_up (va_up (va_up (va_up ss 2 r.2.2.1) 3 r.2.2.2.1) 4 r.2.2.2.2.1) 5 r.2.2.2.2.2.1) 18 r.2.2.2.2.2.2.2.2.2.2.2.1) 19 r.2.2.2.2.2.2.2.2.2.2.2.2.1) 20 r.2.2.2.2.2.2.2.2.2.2.2.2.2.1) 21 r.2.2.2.2.2.2.2.2.2.2.2.2.2.2.1) (va_up (va_up (va_up (va_up (va_up (va_up (va_up (va_up (va_up (va_up (va_up aa 12 r.2.2.2.2.2.2.1) 13 r.2.2.2.2.2.2.2.1) 14 r.2.2.2.2.2.2.2.2.1) 20 r.2.2.2.2.2.2.2.2.2.1) 21 r.2.2.2.2.2.2.2.2.2.2.1) 15 r.2.2.2.2.2.2.2.2.2.2.2.2.2.2.2.1) 16 r.2.2.2.2.2.2.2.2.2.2.2.2.2.2.2.2.1) 17 r.2.2.2.2.2.2.2.2.2.2.2.2.2.2.2.2.2.1) 18 r.2.2.2.2.2.2.2.2.2.2.2.2.2.2.2.2.2.2.1) 19 r.2.2.2.2.2.2.2.2.2.2.2.2.2.2.2.2.2.2.2.1) 22 r.2.2.2.2.2.2.2.2.2.2.2.2.2.2.2.2.2.2.2.2) (va_up (va_up (va_up ms 4 q.2.1) 5 q.2.2.1) 6 q.2.2.2.1) (va_up (va_up (va_up (va_up (va_up (va_up (va_up (va_up (va_up ma 3 q.2.2.2.2.1) 4 q.2.2.2.2.2.1) 5 q.2.2.2.2.2.2.1) 6 q.2.2.2.2.2.2.2.1) 7 q.2.2.2.2.2.2.2.2.1) 8 q.2.2.2.2.2.2.2.2.2.1) 9 q.2.2.2.2.2.2.2.2.2.2.1) 10 q.2.2.2.2.2.2.2.2.2.2.2.1) 11 q.2.2.2.2.2.2.2.2.2.2.2.2) (if r.1 = 0 then vp_updL fo 0 (r.2.1).toInt64 else fo) fd ++ w_pool E (h 19) hp pl po pa) H locs := hW
  refine lv_iload hx hb dL_law_1565 (lv_at hl 1 rfl) ?_
  refine lv_icmp_eq (tgt := 1572) hx hb dL_law_1567 (by decide) (fun _ => ?_) (fun z => absurd (hth.trans e6.symm) z)
  refine lv_iload hx hb dL_law_1572 (lv_at hl 1 rfl) ?_
  have hend : ∀ (ls : Array Slot), lv_has ls 9 [(7, .int z7), (6, .int z6), (0, .ref b), (1, .ref (h 0)), (2, .ref (g 0)), (3, .ref o), (4, .ref od), (5, .int (nI i))] → W p l e room_1 s m #[.ref b] below meth c H locs (cells + 4) (slots + 24) Q (F0 m 1589 ls []) := fun ls hl => by
    refine lv_goto (tgt := 2740) hx hb dL_law_1589 (by decide) ?_
    exact kk _ _ _ ⟨_, _, _, _, _, _, _, _, _, hR1, hW⟩ (lv_sub hl [2, 3, 4, 5, 6, 7] rfl)
  refine lv_if_ne (tgt := 1589) hx hb dL_law_1574 (by decide) (fun _ => hend ls hl) (fun z9 => ?_)
  obtain ⟨hk0, hv⟩ := hans (e6.symm.trans z9)
  refine lv_aload_n hx hb dL_law_1577 rfl (lv_at hl 5 rfl) ?_
  refine lv_iconst (v := 0) hx hb dL_law_1578 (by decide) ?_
  refine va_lald hx hb hK hW.1 75 4 rfl rfl (by unfold vp_in; decide) dL_law_1579 ?_
  refine lv_topl (fun z8 e8_ => ?_)
  have e9 : z8 = (r.2.1).toInt64 := by
    rw [e8_, if_pos hk0]; rfl
  refine lv_iload hx hb dL_law_1580 (lv_at hl 0 rfl) ?_
  refine lv_i2l hx hb dL_law_1582 rfl ?_
  refine W.lcmp hx hb dL_law_1583 ?_
  refine lv_if_eq (tgt := 1589) hx hb dL_law_1584 (by decide) (fun _ => hend ls hl) (fun z => absurd ?_ z)
  rw [e9, hv, e7_]
  exact lg_cmp_self _
set_option maxHeartbeats 4000000 in
set_option maxRecDepth 100000 in
theorem k_26 {p : Program} {l : Launch} {e : Env} {s : State} {m : MethodId} {below : List Frame} {meth : Method} {c : Code} {D : va_G} {E : Nat → ClassId} {A : Nat → Prop} {b N i : Nat} {xs : Nat → Int32} {h g : Nat → Nat} {hp : Nat → Nat → Nat} {o od : Nat} {Q : State → Prop} {H : Heap} {locs : List Loc} {cells slots : Nat} {ls : Array Slot} (C : LCC p l s m c D E A b N xs) (hi : i + 4 ≤ N) (S : LSS D E A s h g hp o od H locs) (hl : lv_has ls 9 [(0, .ref b), (1, .ref (h 0)), (2, .ref (g 0)), (3, .ref o), (4, .ref od), (5, .int (nI i))]) (hc : cells + 4 ≤ room_1.cells ∧ slots + 24 ≤ room_1.slots) (kk : ∀ (H : Heap) (locs : List Loc) (ls : Array Slot), LSS D E A s h g hp o od H locs → lv_has ls 9 [(0, .ref b), (1, .ref (h 0)), (2, .ref (g 0)), (3, .ref o), (4, .ref od), (5, .int (nI i))] → W p l e room_1 s m #[.ref b] below meth c H locs (cells + 4) (slots + 24) Q (F0 m 2740 ls [])) : W p l e room_1 s m #[.ref b] below meth c H locs cells slots Q (F0 m 1592 ls []) := by
  obtain ⟨hF, hlt, hK, hA, hZ, hN, hX, hbl, hbA, hN9⟩ := C
  obtain ⟨ss, aa, pl, po, pa, ms, ma, fo, fd, hR, hW⟩ := S
  obtain ⟨i0, i1, i2, i3⟩ := ix_ok hi hN9
  have hx := hF.1
  have hb := hF.2.1
  refine lv_aload_n hx hb dL_law_1592 rfl (lv_at hl 1 rfl) ?_
  refine lv_aload_n hx hb dL_law_1593 rfl (lv_at hl 0 rfl) ?_
  refine lv_iload hx hb dL_law_1594 (lv_at hl 5 rfl) ?_
  refine lv_iconst (v := 1) hx hb dL_law_1596 (by decide) ?_
  refine lv_iadd hx hb dL_law_1597 ?_
  refine va_sld hx hb hX hbl hbA hW.2.2 i1 dL_law_1598 ?_
  refine lv_topi (fun x1 ex1 => ?_)
  obtain ⟨w1, rfl⟩ : ∃ z, z = x1 := ⟨_, rfl⟩
  have ew1 := ex1
  refine lv_if_eq (tgt := 1606) hx hb dL_law_1599 (by decide) (fun hz => ?_) (fun hz => ?_)
  · refine lv_iconst (v := 0) hx hb dL_law_1606 (by decide) ?_
    refine lv_aload_n hx hb dL_law_1607 rfl (lv_at hl 3 rfl) ?_
    obtain ⟨r, e7, q, e8, hM, hR1⟩ := call_favorite hR 0
    have hk : r.1 = 0 ∨ r.1 = 2 ∨ r.1 = 4 := by
      rcases hM with ⟨m1, m2, m3⟩ | ⟨m1, m2⟩ | ⟨m1, m2⟩
      · exact Or.inl m1
      · exact Or.inr (Or.inl m1)
      · exact Or.inr (Or.inr (m1))
    have hth : q.2.1 = (if r.1 = 2 then 1 else (if r.1 = 4 then 2 else 0)) := by
      rcases hM with ⟨m1, m2, m3⟩ | ⟨m1, m2⟩ | ⟨m1, m2⟩
      · rw [m1, m2]; rfl
      · rw [m1, m2]; rfl
      · rw [m1, m2]; rfl
    have hans : ((if r.1 = 2 then 1 else (if r.1 = 4 then 2 else 0)) : Int32) = 0 → r.1 = 0 ∧ r.2.1 = q.1 := by
      intro z9
      rcases hM with ⟨m1, m2, m3⟩ | ⟨m1, m2⟩ | ⟨m1, m2⟩
      · exact ⟨m1, m3⟩
      · exact absurd z9 (by rw [m1]; decide)
      · exact absurd z9 (by rw [m1]; decide)
    refine q_LWm hF hl.1 hK hA hZ hN hW mW_favorite ml_L_252 (v_favorite l D E (h 0) o 0 _ _ r.1 r.2.1 fo (c_X7_favorite l hlt D E (h 0) (h 1) (h 2) (h 3) (h 4) (h 5) (h 6) (h 7) (h 8) (h 9) (h 10) (h 11) (h 12) (h 13) (h 14) (h 15) (h 16) (h 17) (h 18) (h 20) (h 21) (h 22) (h 23) (h 24) (h 25) (h 26) (h 27) (h 33) (h 34) (h 35) (h 36) (ss 0) (ss 1) (ss 10) (ss 11) (aa 1) (aa 2) (aa 3) (aa 4) (aa 0) (ss 2) (ss 3) (ss 4) (ss 5) (aa 12) (aa 13) (aa 14) (aa 20) (aa 21) (ss 18) (ss 19) (ss 20) (ss 21) (aa 15) (aa 16) (aa 17) (aa 18) (aa 19) (aa 22) 0 r.1 r.2.1 r.2.2.1 r.2.2.2.1 r.2.2.2.2.1 r.2.2.2.2.2.1 r.2.2.2.2.2.2.1 r.2.2.2.2.2.2.2.1 r.2.2.2.2.2.2.2.2.1 r.2.2.2.2.2.2.2.2.2.1 r.2.2.2.2.2.2.2.2.2.2.1 r.2.2.2.2.2.2.2.2.2.2.2.1 r.2.2.2.2.2.2.2.2.2.2.2.2.1 r.2.2.2.2.2.2.2.2.2.2.2.2.2.1 r.2.2.2.2.2.2.2.2.2.2.2.2.2.2.1 r.2.2.2.2.2.2.2.2.2.2.2.2.2.2.2.1 r.2.2.2.2.2.2.2.2.2.2.2.2.2.2.2.2.1 r.2.2.2.2.2.2.2.2.2.2.2.2.2.2.2.2.2.1 r.2.2.2.2.2.2.2.2.2.2.2.2.2.2.2.2.2.2.1 r.2.2.2.2.2.2.2.2.2.2.2.2.2.2.2.2.2.2.2.1 r.2.2.2.2.2.2.2.2.2.2.2.2.2.2.2.2.2.2.2.2 e7) rfl rfl hk) [true, true, true, true, true, true, false, false, true, false, false, false, false, false, false, false, false, false, false, false, false, false, false, false, false, false, true, false, true, false, true, false, true, false, true, false, true, false, true, true, true, true, true, true, false, false, false, true, false, false, false, false, false, false, false, false, false, false, false, false, false, false, false, false, false, false, false, false, false, false, false, false, false, false, false, true] (Nat.le_of_ble_eq_true rfl) rfl rfl ⟨Nat.le_of_ble_eq_true rfl, Nat.le_of_ble_eq_true rfl⟩ ⟨Nat.le_trans (Nat.add_le_add_left (Nat.le_of_ble_eq_true rfl) cells) hc.1, Nat.le_trans (Nat.add_le_add_left (Nat.le_of_ble_eq_true rfl) slots) hc.2⟩ rfl rfl (Nat.le_of_ble_eq_true rfl) dL_law_1608 (fun H locs hW => ?_)
    refine W.widen (Nat.add_le_add_left (Nat.le_of_ble_eq_true rfl : 2 ≤ 4) cells) (Nat.add_le_add_left (Nat.le_of_ble_eq_true rfl : 12 ≤ 24) slots) ?_
    have hW : WD D A s (w_LAW E h g o od (va_up (va_up (va_up (va_up (va_up (va_up (va_up (va_up ss 2 r.2.2.1) 3 r.2.2.2.1) 4 r.2.2.2.2.1) 5 r.2.2.2.2.2.1) 18 r.2.2.2.2.2.2.2.2.2.2.2.1) 19 r.2.2.2.2.2.2.2.2.2.2.2.2.1) 20 r.2.2.2.2.2.2.2.2.2.2.2.2.2.1) 21 r.2.2.2.2.2.2.2.2.2.2.2.2.2.2.1) (va_up (va_up (va_up (va_up (va_up (va_up (va_up (va_up (va_up (va_up (va_up aa 12 r.2.2.2.2.2.2.1) 13 r.2.2.2.2.2.2.2.1) 14 r.2.2.2.2.2.2.2.2.1) 20 r.2.2.2.2.2.2.2.2.2.1) 21 r.2.2.2.2.2.2.2.2.2.2.1) 15 r.2.2.2.2.2.2.2.2.2.2.2.2.2.2.2.1) 16 r.2.2.2.2.2.2.2.2.2.2.2.2.2.2.2.2.1) 17 r.2.2.2.2.2.2.2.2.2.2.2.2.2.2.2.2.2.1) 18 r.2.2.2.2.2.2.2.2.2.2.2.2.2.2.2.2.2.2.1) 19 r.2.2.2.2.2.2.2.2.2.2.2.2.2.2.2.2.2.2.2.1) 22 r.2.2.2.2.2.2.2.2.2.2.2.2.2.2.2.2.2.2.2.2) ms ma (if r.1 = 0 then vp_updL fo 0 (r.2.1).toInt64 else fo) fd ++ w_pool E (h 19) hp pl po pa) H locs := hW
    refine lv_topi (fun z6 e6 => ?_)
    refine lv_istore (lv' := [(6, .int z6), (0, .ref b), (1, .ref (h 0)), (2, .ref (g 0)), (3, .ref o), (4, .ref od), (5, .int (nI i))]) hx hb dL_law_1611 hl (by decide) rfl (fun ls hl => ?_)
    refine lv_aload_n hx hb dL_law_1613 rfl (lv_at hl 3 rfl) ?_
    refine lv_aload_n hx hb dL_law_1614 rfl (lv_at hl 1 rfl) ?_
    refine lv_iload hx hb dL_law_1615 (lv_at hl 6 rfl) ?_
    refine lv_iconst (v := 1) hx hb dL_law_1617 (by decide) ?_
    refine lv_iadd hx hb dL_law_1618 ?_
    refine va_sld hx hb hX hbl hbA hW.2.2 i1 dL_law_1619 ?_
    refine lv_topi (fun y1 ey1 => ?_)
    obtain rfl : w1 = y1 := ew1.trans ey1.symm
    refine lv_if_eq (tgt := 1627) hx hb dL_law_1620 (by decide) (fun _ => ?_) (fun z => absurd hz z)
    refine lv_iconst (v := 0) hx hb dL_law_1627 (by decide) ?_
    refine q_callIm hF hl.1 hK hA hZ hW mv_X8_favorite ml_L_255 (c_X8_favorite l D E TXL (g 0) (g 1) (g 2) (g 3) (g 4) (g 5) (g 6) (g 7) (g 8) (g 9) (g 10) (g 11) (g 12) (g 13) (g 14) (g 15) (g 16) (g 17) (g 18) (g 19) (ms 0) (ms 1) (ms 2) (ms 3) (ms 4) (ms 5) (ms 6) (ms 7) (ms 8) (ms 9) (ms 10) (ms 11) (ma 0) (ma 3) (ma 4) (ma 5) (ma 6) (ma 7) (ma 8) (ma 9) (ma 10) (ma 11) 0 q.1 q.2.1 q.2.2.1 q.2.2.2.1 q.2.2.2.2.1 q.2.2.2.2.2.1 q.2.2.2.2.2.2.1 q.2.2.2.2.2.2.2.1 q.2.2.2.2.2.2.2.2.1 q.2.2.2.2.2.2.2.2.2.1 q.2.2.2.2.2.2.2.2.2.2.1 q.2.2.2.2.2.2.2.2.2.2.2.1 q.2.2.2.2.2.2.2.2.2.2.2.2 e8) [false, false, false, false, false, false, false, false, false, false, false, false, false, false, false, false, false, false, false, false, false, false, false, false, false, false, false, false, false, false, false, false, false, false, false, false, false, false, false, false, false, false, false, false, false, false, false, false, false, false, false, false, false, false, false, true, true, false, false, false, false, true, false, true, false, true, true, true, true, true, true, true] (Nat.le_of_ble_eq_true rfl) rfl rfl rfl rfl rfl ⟨Nat.le_of_ble_eq_true rfl, Nat.le_of_ble_eq_true rfl⟩ hc rfl rfl (Nat.le_of_ble_eq_true rfl) dL_law_1628 (fun H locs hW => ?_)
    have hW : WD D A s (w_LAW E h g o od (va_up (va_up (va_up (va_up (va_up (va_up (va_up (va_up ss 2 r.2.2.1) 3 r.2.2.2.1) 4 r.2.2.2.2.1) 5 r.2.2.2.2.2.1) 18 r.2.2.2.2.2.2.2.2.2.2.2.1) 19 r.2.2.2.2.2.2.2.2.2.2.2.2.1) 20 r.2.2.2.2.2.2.2.2.2.2.2.2.2.1) 21 r.2.2.2.2.2.2.2.2.2.2.2.2.2.2.1) (va_up (va_up (va_up (va_up (va_up (va_up (va_up (va_up (va_up (va_up (va_up aa 12 r.2.2.2.2.2.2.1) 13 r.2.2.2.2.2.2.2.1) 14 r.2.2.2.2.2.2.2.2.1) 20 r.2.2.2.2.2.2.2.2.2.1) 21 r.2.2.2.2.2.2.2.2.2.2.1) 15 r.2.2.2.2.2.2.2.2.2.2.2.2.2.2.2.1) 16 r.2.2.2.2.2.2.2.2.2.2.2.2.2.2.2.2.1) 17 r.2.2.2.2.2.2.2.2.2.2.2.2.2.2.2.2.2.1) 18 r.2.2.2.2.2.2.2.2.2.2.2.2.2.2.2.2.2.2.1) 19 r.2.2.2.2.2.2.2.2.2.2.2.2.2.2.2.2.2.2.2.1) 22 r.2.2.2.2.2.2.2.2.2.2.2.2.2.2.2.2.2.2.2.2) (va_up (va_up (va_up ms 4 q.2.1) 5 q.2.2.1) 6 q.2.2.2.1) (va_up (va_up (va_up (va_up (va_up (va_up (va_up (va_up (va_up ma 3 q.2.2.2.2.1) 4 q.2.2.2.2.2.1) 5 q.2.2.2.2.2.2.1) 6 q.2.2.2.2.2.2.2.1) 7 q.2.2.2.2.2.2.2.2.1) 8 q.2.2.2.2.2.2.2.2.2.1) 9 q.2.2.2.2.2.2.2.2.2.2.1) 10 q.2.2.2.2.2.2.2.2.2.2.2.1) 11 q.2.2.2.2.2.2.2.2.2.2.2.2) (if r.1 = 0 then vp_updL fo 0 (r.2.1).toInt64 else fo) fd ++ w_pool E (h 19) hp pl po pa) H locs := hW
    refine lv_topi (fun z7 e7_ => ?_)
    refine lv_istore (lv' := [(7, .int z7), (6, .int z6), (0, .ref b), (1, .ref (h 0)), (2, .ref (g 0)), (3, .ref o), (4, .ref od), (5, .int (nI i))]) hx hb dL_law_1631 hl (by decide) rfl (fun ls hl => ?_)
    refine lv_aload_n hx hb dL_law_1633 rfl (lv_at hl 4 rfl) ?_
    refine q_callIm hF hl.1 hK hA hZ hW mv_X8_thrown ml_L_168 (c_X8_thrown l D E TXL (g 0) (g 1) (g 2) (g 3) (g 4) (g 5) (g 6) (g 7) (g 8) (g 9) (g 10) (g 11) (g 12) (g 13) (g 14) (g 15) (g 16) (g 17) (g 18) (g 19) (ms 0) (ms 1) (ms 2) (ms 3) q.2.1 q.2.2.1 q.2.2.2.1 (ms 7) (ms 8) (ms 9) (ms 10) (ms 11) q.2.1 rfl) [false, false, false, false, false, false, false, false, false, false, false, false, false, false, false, false, false, false, false, false, false, false, false, false, false, false, false, false, false, false, false, false, false, false, false, false, false, false, false, false, false, false, false, false, false, false, false, false, false, false, false, false, false, false, false, true] (Nat.le_of_ble_eq_true rfl) rfl rfl rfl rfl rfl ⟨Nat.le_of_ble_eq_true rfl, Nat.le_of_ble_eq_true rfl⟩ hc rfl rfl (Nat.le_of_ble_eq_true rfl) dL_law_1634 (fun H locs hW => ?_)
    have hW : WD D A s (w_LAW E h g o od (va_up (va_up (va_up (va_up (va_up (va_up (va_up (va_up ss 2 r.2.2.1) 3 r.2.2.2.1) 4 r.2.2.2.2.1) 5 r.2.2.2.2.2.1) 18 r.2.2.2.2.2.2.2.2.2.2.2.1) 19 r.2.2.2.2.2.2.2.2.2.2.2.2.1) 20 r.2.2.2.2.2.2.2.2.2.2.2.2.2.1) 21 r.2.2.2.2.2.2.2.2.2.2.2.2.2.2.1) (va_up (va_up (va_up (va_up (va_up (va_up (va_up (va_up (va_up (va_up (va_up aa 12 r.2.2.2.2.2.2.1) 13 r.2.2.2.2.2.2.2.1) 14 r.2.2.2.2.2.2.2.2.1) 20 r.2.2.2.2.2.2.2.2.2.1) 21 r.2.2.2.2.2.2.2.2.2.2.1) 15 r.2.2.2.2.2.2.2.2.2.2.2.2.2.2.2.1) 16 r.2.2.2.2.2.2.2.2.2.2.2.2.2.2.2.2.1) 17 r.2.2.2.2.2.2.2.2.2.2.2.2.2.2.2.2.2.1) 18 r.2.2.2.2.2.2.2.2.2.2.2.2.2.2.2.2.2.2.1) 19 r.2.2.2.2.2.2.2.2.2.2.2.2.2.2.2.2.2.2.2.1) 22 r.2.2.2.2.2.2.2.2.2.2.2.2.2.2.2.2.2.2.2.2) (va_up (va_up (va_up ms 4 q.2.1) 5 q.2.2.1) 6 q.2.2.2.1) (va_up (va_up (va_up (va_up (va_up (va_up (va_up (va_up (va_up ma 3 q.2.2.2.2.1) 4 q.2.2.2.2.2.1) 5 q.2.2.2.2.2.2.1) 6 q.2.2.2.2.2.2.2.1) 7 q.2.2.2.2.2.2.2.2.1) 8 q.2.2.2.2.2.2.2.2.2.1) 9 q.2.2.2.2.2.2.2.2.2.2.1) 10 q.2.2.2.2.2.2.2.2.2.2.2.1) 11 q.2.2.2.2.2.2.2.2.2.2.2.2) (if r.1 = 0 then vp_updL fo 0 (r.2.1).toInt64 else fo) fd ++ w_pool E (h 19) hp pl po pa) H locs := hW
    refine lv_iload hx hb dL_law_1637 (lv_at hl 1 rfl) ?_
    refine lv_icmp_eq (tgt := 1644) hx hb dL_law_1639 (by decide) (fun _ => ?_) (fun z => absurd (hth.trans e6.symm) z)
    refine lv_iload hx hb dL_law_1644 (lv_at hl 1 rfl) ?_
    have hend : ∀ (ls : Array Slot), lv_has ls 9 [(7, .int z7), (6, .int z6), (0, .ref b), (1, .ref (h 0)), (2, .ref (g 0)), (3, .ref o), (4, .ref od), (5, .int (nI i))] → W p l e room_1 s m #[.ref b] below meth c H locs (cells + 4) (slots + 24) Q (F0 m 1661 ls []) := fun ls hl => by
      refine lv_goto (tgt := 2740) hx hb dL_law_1661 (by decide) ?_
      exact kk _ _ _ ⟨_, _, _, _, _, _, _, _, _, hR1, hW⟩ (lv_sub hl [2, 3, 4, 5, 6, 7] rfl)
    refine lv_if_ne (tgt := 1661) hx hb dL_law_1646 (by decide) (fun _ => hend ls hl) (fun z9 => ?_)
    obtain ⟨hk0, hv⟩ := hans (e6.symm.trans z9)
    refine lv_aload_n hx hb dL_law_1649 rfl (lv_at hl 5 rfl) ?_
    refine lv_iconst (v := 0) hx hb dL_law_1650 (by decide) ?_
    refine va_lald hx hb hK hW.1 75 4 rfl rfl (by unfold vp_in; decide) dL_law_1651 ?_
    refine lv_topl (fun z8 e8_ => ?_)
    have e9 : z8 = (r.2.1).toInt64 := by
      rw [e8_, if_pos hk0]; rfl
    refine lv_iload hx hb dL_law_1652 (lv_at hl 0 rfl) ?_
    refine lv_i2l hx hb dL_law_1654 rfl ?_
    refine W.lcmp hx hb dL_law_1655 ?_
    refine lv_if_eq (tgt := 1661) hx hb dL_law_1656 (by decide) (fun _ => hend ls hl) (fun z => absurd ?_ z)
    rw [e9, hv, e7_]
    exact lg_cmp_self _
  · refine lv_iconst (v := 1) hx hb dL_law_1602 (by decide) ?_
    refine lv_goto (tgt := 1607) hx hb dL_law_1603 (by decide) ?_
    refine lv_aload_n hx hb dL_law_1607 rfl (lv_at hl 3 rfl) ?_
    obtain ⟨r, e7, q, e8, hM, hR1⟩ := call_favorite hR 1
    have hk : r.1 = 0 ∨ r.1 = 2 ∨ r.1 = 4 := by
      rcases hM with ⟨m1, m2, m3⟩ | ⟨m1, m2⟩ | ⟨m1, m2⟩
      · exact Or.inl m1
      · exact Or.inr (Or.inl m1)
      · exact Or.inr (Or.inr (m1))
    have hth : q.2.1 = (if r.1 = 2 then 1 else (if r.1 = 4 then 2 else 0)) := by
      rcases hM with ⟨m1, m2, m3⟩ | ⟨m1, m2⟩ | ⟨m1, m2⟩
      · rw [m1, m2]; rfl
      · rw [m1, m2]; rfl
      · rw [m1, m2]; rfl
    have hans : ((if r.1 = 2 then 1 else (if r.1 = 4 then 2 else 0)) : Int32) = 0 → r.1 = 0 ∧ r.2.1 = q.1 := by
      intro z9
      rcases hM with ⟨m1, m2, m3⟩ | ⟨m1, m2⟩ | ⟨m1, m2⟩
      · exact ⟨m1, m3⟩
      · exact absurd z9 (by rw [m1]; decide)
      · exact absurd z9 (by rw [m1]; decide)
    refine q_LWm hF hl.1 hK hA hZ hN hW mW_favorite ml_L_252 (v_favorite l D E (h 0) o 1 _ _ r.1 r.2.1 fo (c_X7_favorite l hlt D E (h 0) (h 1) (h 2) (h 3) (h 4) (h 5) (h 6) (h 7) (h 8) (h 9) (h 10) (h 11) (h 12) (h 13) (h 14) (h 15) (h 16) (h 17) (h 18) (h 20) (h 21) (h 22) (h 23) (h 24) (h 25) (h 26) (h 27) (h 33) (h 34) (h 35) (h 36) (ss 0) (ss 1) (ss 10) (ss 11) (aa 1) (aa 2) (aa 3) (aa 4) (aa 0) (ss 2) (ss 3) (ss 4) (ss 5) (aa 12) (aa 13) (aa 14) (aa 20) (aa 21) (ss 18) (ss 19) (ss 20) (ss 21) (aa 15) (aa 16) (aa 17) (aa 18) (aa 19) (aa 22) 1 r.1 r.2.1 r.2.2.1 r.2.2.2.1 r.2.2.2.2.1 r.2.2.2.2.2.1 r.2.2.2.2.2.2.1 r.2.2.2.2.2.2.2.1 r.2.2.2.2.2.2.2.2.1 r.2.2.2.2.2.2.2.2.2.1 r.2.2.2.2.2.2.2.2.2.2.1 r.2.2.2.2.2.2.2.2.2.2.2.1 r.2.2.2.2.2.2.2.2.2.2.2.2.1 r.2.2.2.2.2.2.2.2.2.2.2.2.2.1 r.2.2.2.2.2.2.2.2.2.2.2.2.2.2.1 r.2.2.2.2.2.2.2.2.2.2.2.2.2.2.2.1 r.2.2.2.2.2.2.2.2.2.2.2.2.2.2.2.2.1 r.2.2.2.2.2.2.2.2.2.2.2.2.2.2.2.2.2.1 r.2.2.2.2.2.2.2.2.2.2.2.2.2.2.2.2.2.2.1 r.2.2.2.2.2.2.2.2.2.2.2.2.2.2.2.2.2.2.2.1 r.2.2.2.2.2.2.2.2.2.2.2.2.2.2.2.2.2.2.2.2 e7) rfl rfl hk) [true, true, true, true, true, true, false, false, true, false, false, false, false, false, false, false, false, false, false, false, false, false, false, false, false, false, true, false, true, false, true, false, true, false, true, false, true, false, true, true, true, true, true, true, false, false, false, true, false, false, false, false, false, false, false, false, false, false, false, false, false, false, false, false, false, false, false, false, false, false, false, false, false, false, false, true] (Nat.le_of_ble_eq_true rfl) rfl rfl ⟨Nat.le_of_ble_eq_true rfl, Nat.le_of_ble_eq_true rfl⟩ ⟨Nat.le_trans (Nat.add_le_add_left (Nat.le_of_ble_eq_true rfl) cells) hc.1, Nat.le_trans (Nat.add_le_add_left (Nat.le_of_ble_eq_true rfl) slots) hc.2⟩ rfl rfl (Nat.le_of_ble_eq_true rfl) dL_law_1608 (fun H locs hW => ?_)
    refine W.widen (Nat.add_le_add_left (Nat.le_of_ble_eq_true rfl : 2 ≤ 4) cells) (Nat.add_le_add_left (Nat.le_of_ble_eq_true rfl : 12 ≤ 24) slots) ?_
    have hW : WD D A s (w_LAW E h g o od (va_up (va_up (va_up (va_up (va_up (va_up (va_up (va_up ss 2 r.2.2.1) 3 r.2.2.2.1) 4 r.2.2.2.2.1) 5 r.2.2.2.2.2.1) 18 r.2.2.2.2.2.2.2.2.2.2.2.1) 19 r.2.2.2.2.2.2.2.2.2.2.2.2.1) 20 r.2.2.2.2.2.2.2.2.2.2.2.2.2.1) 21 r.2.2.2.2.2.2.2.2.2.2.2.2.2.2.1) (va_up (va_up (va_up (va_up (va_up (va_up (va_up (va_up (va_up (va_up (va_up aa 12 r.2.2.2.2.2.2.1) 13 r.2.2.2.2.2.2.2.1) 14 r.2.2.2.2.2.2.2.2.1) 20 r.2.2.2.2.2.2.2.2.2.1) 21 r.2.2.2.2.2.2.2.2.2.2.1) 15 r.2.2.2.2.2.2.2.2.2.2.2.2.2.2.2.1) 16 r.2.2.2.2.2.2.2.2.2.2.2.2.2.2.2.2.1) 17 r.2.2.2.2.2.2.2.2.2.2.2.2.2.2.2.2.2.1) 18 r.2.2.2.2.2.2.2.2.2.2.2.2.2.2.2.2.2.2.1) 19 r.2.2.2.2.2.2.2.2.2.2.2.2.2.2.2.2.2.2.2.1) 22 r.2.2.2.2.2.2.2.2.2.2.2.2.2.2.2.2.2.2.2.2) ms ma (if r.1 = 0 then vp_updL fo 0 (r.2.1).toInt64 else fo) fd ++ w_pool E (h 19) hp pl po pa) H locs := hW
    refine lv_topi (fun z6 e6 => ?_)
    refine lv_istore (lv' := [(6, .int z6), (0, .ref b), (1, .ref (h 0)), (2, .ref (g 0)), (3, .ref o), (4, .ref od), (5, .int (nI i))]) hx hb dL_law_1611 hl (by decide) rfl (fun ls hl => ?_)
    refine lv_aload_n hx hb dL_law_1613 rfl (lv_at hl 3 rfl) ?_
    refine lv_aload_n hx hb dL_law_1614 rfl (lv_at hl 1 rfl) ?_
    refine lv_iload hx hb dL_law_1615 (lv_at hl 6 rfl) ?_
    refine lv_iconst (v := 1) hx hb dL_law_1617 (by decide) ?_
    refine lv_iadd hx hb dL_law_1618 ?_
    refine va_sld hx hb hX hbl hbA hW.2.2 i1 dL_law_1619 ?_
    refine lv_topi (fun y1 ey1 => ?_)
    obtain rfl : w1 = y1 := ew1.trans ey1.symm
    refine lv_if_eq (tgt := 1627) hx hb dL_law_1620 (by decide) (fun z => absurd z hz) (fun _ => ?_)
    refine lv_iconst (v := 1) hx hb dL_law_1623 (by decide) ?_
    refine lv_goto (tgt := 1628) hx hb dL_law_1624 (by decide) ?_
    refine q_callIm hF hl.1 hK hA hZ hW mv_X8_favorite ml_L_255 (c_X8_favorite l D E TXL (g 0) (g 1) (g 2) (g 3) (g 4) (g 5) (g 6) (g 7) (g 8) (g 9) (g 10) (g 11) (g 12) (g 13) (g 14) (g 15) (g 16) (g 17) (g 18) (g 19) (ms 0) (ms 1) (ms 2) (ms 3) (ms 4) (ms 5) (ms 6) (ms 7) (ms 8) (ms 9) (ms 10) (ms 11) (ma 0) (ma 3) (ma 4) (ma 5) (ma 6) (ma 7) (ma 8) (ma 9) (ma 10) (ma 11) 1 q.1 q.2.1 q.2.2.1 q.2.2.2.1 q.2.2.2.2.1 q.2.2.2.2.2.1 q.2.2.2.2.2.2.1 q.2.2.2.2.2.2.2.1 q.2.2.2.2.2.2.2.2.1 q.2.2.2.2.2.2.2.2.2.1 q.2.2.2.2.2.2.2.2.2.2.1 q.2.2.2.2.2.2.2.2.2.2.2.1 q.2.2.2.2.2.2.2.2.2.2.2.2 e8) [false, false, false, false, false, false, false, false, false, false, false, false, false, false, false, false, false, false, false, false, false, false, false, false, false, false, false, false, false, false, false, false, false, false, false, false, false, false, false, false, false, false, false, false, false, false, false, false, false, false, false, false, false, false, false, true, true, false, false, false, false, true, false, true, false, true, true, true, true, true, true, true] (Nat.le_of_ble_eq_true rfl) rfl rfl rfl rfl rfl ⟨Nat.le_of_ble_eq_true rfl, Nat.le_of_ble_eq_true rfl⟩ hc rfl rfl (Nat.le_of_ble_eq_true rfl) dL_law_1628 (fun H locs hW => ?_)
    have hW : WD D A s (w_LAW E h g o od (va_up (va_up (va_up (va_up (va_up (va_up (va_up (va_up ss 2 r.2.2.1) 3 r.2.2.2.1) 4 r.2.2.2.2.1) 5 r.2.2.2.2.2.1) 18 r.2.2.2.2.2.2.2.2.2.2.2.1) 19 r.2.2.2.2.2.2.2.2.2.2.2.2.1) 20 r.2.2.2.2.2.2.2.2.2.2.2.2.2.1) 21 r.2.2.2.2.2.2.2.2.2.2.2.2.2.2.1) (va_up (va_up (va_up (va_up (va_up (va_up (va_up (va_up (va_up (va_up (va_up aa 12 r.2.2.2.2.2.2.1) 13 r.2.2.2.2.2.2.2.1) 14 r.2.2.2.2.2.2.2.2.1) 20 r.2.2.2.2.2.2.2.2.2.1) 21 r.2.2.2.2.2.2.2.2.2.2.1) 15 r.2.2.2.2.2.2.2.2.2.2.2.2.2.2.2.1) 16 r.2.2.2.2.2.2.2.2.2.2.2.2.2.2.2.2.1) 17 r.2.2.2.2.2.2.2.2.2.2.2.2.2.2.2.2.2.1) 18 r.2.2.2.2.2.2.2.2.2.2.2.2.2.2.2.2.2.2.1) 19 r.2.2.2.2.2.2.2.2.2.2.2.2.2.2.2.2.2.2.2.1) 22 r.2.2.2.2.2.2.2.2.2.2.2.2.2.2.2.2.2.2.2.2) (va_up (va_up (va_up ms 4 q.2.1) 5 q.2.2.1) 6 q.2.2.2.1) (va_up (va_up (va_up (va_up (va_up (va_up (va_up (va_up (va_up ma 3 q.2.2.2.2.1) 4 q.2.2.2.2.2.1) 5 q.2.2.2.2.2.2.1) 6 q.2.2.2.2.2.2.2.1) 7 q.2.2.2.2.2.2.2.2.1) 8 q.2.2.2.2.2.2.2.2.2.1) 9 q.2.2.2.2.2.2.2.2.2.2.1) 10 q.2.2.2.2.2.2.2.2.2.2.2.1) 11 q.2.2.2.2.2.2.2.2.2.2.2.2) (if r.1 = 0 then vp_updL fo 0 (r.2.1).toInt64 else fo) fd ++ w_pool E (h 19) hp pl po pa) H locs := hW
    refine lv_topi (fun z7 e7_ => ?_)
    refine lv_istore (lv' := [(7, .int z7), (6, .int z6), (0, .ref b), (1, .ref (h 0)), (2, .ref (g 0)), (3, .ref o), (4, .ref od), (5, .int (nI i))]) hx hb dL_law_1631 hl (by decide) rfl (fun ls hl => ?_)
    refine lv_aload_n hx hb dL_law_1633 rfl (lv_at hl 4 rfl) ?_
    refine q_callIm hF hl.1 hK hA hZ hW mv_X8_thrown ml_L_168 (c_X8_thrown l D E TXL (g 0) (g 1) (g 2) (g 3) (g 4) (g 5) (g 6) (g 7) (g 8) (g 9) (g 10) (g 11) (g 12) (g 13) (g 14) (g 15) (g 16) (g 17) (g 18) (g 19) (ms 0) (ms 1) (ms 2) (ms 3) q.2.1 q.2.2.1 q.2.2.2.1 (ms 7) (ms 8) (ms 9) (ms 10) (ms 11) q.2.1 rfl) [false, false, false, false, false, false, false, false, false, false, false, false, false, false, false, false, false, false, false, false, false, false, false, false, false, false, false, false, false, false, false, false, false, false, false, false, false, false, false, false, false, false, false, false, false, false, false, false, false, false, false, false, false, false, false, true] (Nat.le_of_ble_eq_true rfl) rfl rfl rfl rfl rfl ⟨Nat.le_of_ble_eq_true rfl, Nat.le_of_ble_eq_true rfl⟩ hc rfl rfl (Nat.le_of_ble_eq_true rfl) dL_law_1634 (fun H locs hW => ?_)
    have hW : WD D A s (w_LAW E h g o od (va_up (va_up (va_up (va_up (va_up (va_up (va_up (va_up ss 2 r.2.2.1) 3 r.2.2.2.1) 4 r.2.2.2.2.1) 5 r.2.2.2.2.2.1) 18 r.2.2.2.2.2.2.2.2.2.2.2.1) 19 r.2.2.2.2.2.2.2.2.2.2.2.2.1) 20 r.2.2.2.2.2.2.2.2.2.2.2.2.2.1) 21 r.2.2.2.2.2.2.2.2.2.2.2.2.2.2.1) (va_up (va_up (va_up (va_up (va_up (va_up (va_up (va_up (va_up (va_up (va_up aa 12 r.2.2.2.2.2.2.1) 13 r.2.2.2.2.2.2.2.1) 14 r.2.2.2.2.2.2.2.2.1) 20 r.2.2.2.2.2.2.2.2.2.1) 21 r.2.2.2.2.2.2.2.2.2.2.1) 15 r.2.2.2.2.2.2.2.2.2.2.2.2.2.2.2.1) 16 r.2.2.2.2.2.2.2.2.2.2.2.2.2.2.2.2.1) 17 r.2.2.2.2.2.2.2.2.2.2.2.2.2.2.2.2.2.1) 18 r.2.2.2.2.2.2.2.2.2.2.2.2.2.2.2.2.2.2.1) 19 r.2.2.2.2.2.2.2.2.2.2.2.2.2.2.2.2.2.2.2.1) 22 r.2.2.2.2.2.2.2.2.2.2.2.2.2.2.2.2.2.2.2.2) (va_up (va_up (va_up ms 4 q.2.1) 5 q.2.2.1) 6 q.2.2.2.1) (va_up (va_up (va_up (va_up (va_up (va_up (va_up (va_up (va_up ma 3 q.2.2.2.2.1) 4 q.2.2.2.2.2.1) 5 q.2.2.2.2.2.2.1) 6 q.2.2.2.2.2.2.2.1) 7 q.2.2.2.2.2.2.2.2.1) 8 q.2.2.2.2.2.2.2.2.2.1) 9 q.2.2.2.2.2.2.2.2.2.2.1) 10 q.2.2.2.2.2.2.2.2.2.2.2.1) 11 q.2.2.2.2.2.2.2.2.2.2.2.2) (if r.1 = 0 then vp_updL fo 0 (r.2.1).toInt64 else fo) fd ++ w_pool E (h 19) hp pl po pa) H locs := hW
    refine lv_iload hx hb dL_law_1637 (lv_at hl 1 rfl) ?_
    refine lv_icmp_eq (tgt := 1644) hx hb dL_law_1639 (by decide) (fun _ => ?_) (fun z => absurd (hth.trans e6.symm) z)
    refine lv_iload hx hb dL_law_1644 (lv_at hl 1 rfl) ?_
    have hend : ∀ (ls : Array Slot), lv_has ls 9 [(7, .int z7), (6, .int z6), (0, .ref b), (1, .ref (h 0)), (2, .ref (g 0)), (3, .ref o), (4, .ref od), (5, .int (nI i))] → W p l e room_1 s m #[.ref b] below meth c H locs (cells + 4) (slots + 24) Q (F0 m 1661 ls []) := fun ls hl => by
      refine lv_goto (tgt := 2740) hx hb dL_law_1661 (by decide) ?_
      exact kk _ _ _ ⟨_, _, _, _, _, _, _, _, _, hR1, hW⟩ (lv_sub hl [2, 3, 4, 5, 6, 7] rfl)
    refine lv_if_ne (tgt := 1661) hx hb dL_law_1646 (by decide) (fun _ => hend ls hl) (fun z9 => ?_)
    obtain ⟨hk0, hv⟩ := hans (e6.symm.trans z9)
    refine lv_aload_n hx hb dL_law_1649 rfl (lv_at hl 5 rfl) ?_
    refine lv_iconst (v := 0) hx hb dL_law_1650 (by decide) ?_
    refine va_lald hx hb hK hW.1 75 4 rfl rfl (by unfold vp_in; decide) dL_law_1651 ?_
    refine lv_topl (fun z8 e8_ => ?_)
    have e9 : z8 = (r.2.1).toInt64 := by
      rw [e8_, if_pos hk0]; rfl
    refine lv_iload hx hb dL_law_1652 (lv_at hl 0 rfl) ?_
    refine lv_i2l hx hb dL_law_1654 rfl ?_
    refine W.lcmp hx hb dL_law_1655 ?_
    refine lv_if_eq (tgt := 1661) hx hb dL_law_1656 (by decide) (fun _ => hend ls hl) (fun z => absurd ?_ z)
    rw [e9, hv, e7_]
    exact lg_cmp_self _
set_option maxHeartbeats 4000000 in
set_option maxRecDepth 100000 in
theorem k_27 {p : Program} {l : Launch} {e : Env} {s : State} {m : MethodId} {below : List Frame} {meth : Method} {c : Code} {D : va_G} {E : Nat → ClassId} {A : Nat → Prop} {b N i : Nat} {xs : Nat → Int32} {h g : Nat → Nat} {hp : Nat → Nat → Nat} {o od : Nat} {Q : State → Prop} {H : Heap} {locs : List Loc} {cells slots : Nat} {ls : Array Slot} (C : LCC p l s m c D E A b N xs) (hi : i + 4 ≤ N) (S : LSS D E A s h g hp o od H locs) (hl : lv_has ls 9 [(0, .ref b), (1, .ref (h 0)), (2, .ref (g 0)), (3, .ref o), (4, .ref od), (5, .int (nI i))]) (hc : cells + 4 ≤ room_1.cells ∧ slots + 24 ≤ room_1.slots) (kk : ∀ (H : Heap) (locs : List Loc) (ls : Array Slot), LSS D E A s h g hp o od H locs → lv_has ls 9 [(0, .ref b), (1, .ref (h 0)), (2, .ref (g 0)), (3, .ref o), (4, .ref od), (5, .int (nI i))] → W p l e room_1 s m #[.ref b] below meth c H locs (cells + 4) (slots + 24) Q (F0 m 2740 ls [])) : W p l e room_1 s m #[.ref b] below meth c H locs cells slots Q (F0 m 1664 ls []) := by
  obtain ⟨hF, hlt, hK, hA, hZ, hN, hX, hbl, hbA, hN9⟩ := C
  obtain ⟨ss, aa, pl, po, pa, ms, ma, fo, fd, hR, hW⟩ := S
  obtain ⟨i0, i1, i2, i3⟩ := ix_ok hi hN9
  have hx := hF.1
  have hb := hF.2.1
  refine lv_aload_n hx hb dL_law_1664 rfl (lv_at hl 1 rfl) ?_
  refine lv_aload_n hx hb dL_law_1665 rfl (lv_at hl 3 rfl) ?_
  obtain ⟨r, e7, q, e8, hM, hR1⟩ := call_farthest hR
  have hk : r.1 = 0 ∨ r.1 = 2 ∨ r.1 = 4 := by
    rcases hM with ⟨m1, m2, m3⟩ | ⟨m1, m2⟩ | ⟨m1, m2⟩
    · exact Or.inl m1
    · exact Or.inr (Or.inl m1)
    · exact Or.inr (Or.inr (m1))
  have hth : q.2.1 = (if r.1 = 2 then 1 else (if r.1 = 4 then 2 else 0)) := by
    rcases hM with ⟨m1, m2, m3⟩ | ⟨m1, m2⟩ | ⟨m1, m2⟩
    · rw [m1, m2]; rfl
    · rw [m1, m2]; rfl
    · rw [m1, m2]; rfl
  have hans : ((if r.1 = 2 then 1 else (if r.1 = 4 then 2 else 0)) : Int32) = 0 → r.1 = 0 ∧ r.2.1 = q.1 := by
    intro z9
    rcases hM with ⟨m1, m2, m3⟩ | ⟨m1, m2⟩ | ⟨m1, m2⟩
    · exact ⟨m1, m3⟩
    · exact absurd z9 (by rw [m1]; decide)
    · exact absurd z9 (by rw [m1]; decide)
  refine q_LWm hF hl.1 hK hA hZ hN hW mW_farthest ml_L_256 (v_farthest l D E (h 0) o _ _ r.1 r.2.1 fo (c_X7_farthest l hlt D E (h 0) (h 1) (h 2) (h 3) (h 4) (h 5) (h 6) (h 7) (h 8) (h 9) (h 10) (h 11) (h 12) (h 13) (h 14) (h 15) (h 16) (h 17) (h 18) (h 20) (h 21) (h 22) (h 23) (h 24) (h 25) (h 26) (h 27) (h 33) (h 34) (h 35) (h 36) (ss 0) (ss 1) (ss 10) (ss 11) (aa 1) (aa 2) (aa 3) (aa 4) (aa 0) (ss 2) (ss 3) (ss 4) (ss 5) (aa 12) (aa 13) (aa 14) (aa 20) (aa 21) (ss 18) (ss 19) (ss 20) (ss 21) (aa 15) (aa 16) (aa 17) (aa 18) (aa 19) r.1 r.2.1 r.2.2.1 r.2.2.2.1 r.2.2.2.2.1 r.2.2.2.2.2.1 r.2.2.2.2.2.2.1 r.2.2.2.2.2.2.2.1 r.2.2.2.2.2.2.2.2.1 r.2.2.2.2.2.2.2.2.2.1 r.2.2.2.2.2.2.2.2.2.2.1 r.2.2.2.2.2.2.2.2.2.2.2.1 r.2.2.2.2.2.2.2.2.2.2.2.2.1 r.2.2.2.2.2.2.2.2.2.2.2.2.2.1 r.2.2.2.2.2.2.2.2.2.2.2.2.2.2.1 r.2.2.2.2.2.2.2.2.2.2.2.2.2.2.2.1 r.2.2.2.2.2.2.2.2.2.2.2.2.2.2.2.2.1 r.2.2.2.2.2.2.2.2.2.2.2.2.2.2.2.2.2.1 r.2.2.2.2.2.2.2.2.2.2.2.2.2.2.2.2.2.2.1 r.2.2.2.2.2.2.2.2.2.2.2.2.2.2.2.2.2.2.2 e7) rfl rfl hk) [true, true, true, true, true, true, false, false, true, false, false, false, false, false, false, false, false, false, false, false, false, false, false, false, false, false, true, false, true, false, true, false, true, false, true, false, true, false, true, true, true, true, true, true, false, false, false, false, false, false, false, false, false, false, false, false, false, false, false, false, false, false, false, false, false, false, false, false, false, false, false, false, false, false, false, true] (Nat.le_of_ble_eq_true rfl) rfl rfl ⟨Nat.le_of_ble_eq_true rfl, Nat.le_of_ble_eq_true rfl⟩ ⟨Nat.le_trans (Nat.add_le_add_left (Nat.le_of_ble_eq_true rfl) cells) hc.1, Nat.le_trans (Nat.add_le_add_left (Nat.le_of_ble_eq_true rfl) slots) hc.2⟩ rfl rfl (Nat.le_of_ble_eq_true rfl) dL_law_1666 (fun H locs hW => ?_)
  refine W.widen (Nat.add_le_add_left (Nat.le_of_ble_eq_true rfl : 2 ≤ 4) cells) (Nat.add_le_add_left (Nat.le_of_ble_eq_true rfl : 12 ≤ 24) slots) ?_
  have hW : WD D A s (w_LAW E h g o od (va_up (va_up (va_up (va_up (va_up (va_up (va_up (va_up ss 2 r.2.2.1) 3 r.2.2.2.1) 4 r.2.2.2.2.1) 5 r.2.2.2.2.2.1) 18 r.2.2.2.2.2.2.2.2.2.2.2.1) 19 r.2.2.2.2.2.2.2.2.2.2.2.2.1) 20 r.2.2.2.2.2.2.2.2.2.2.2.2.2.1) 21 r.2.2.2.2.2.2.2.2.2.2.2.2.2.2.1) (va_up (va_up (va_up (va_up (va_up (va_up (va_up (va_up (va_up (va_up aa 12 r.2.2.2.2.2.2.1) 13 r.2.2.2.2.2.2.2.1) 14 r.2.2.2.2.2.2.2.2.1) 20 r.2.2.2.2.2.2.2.2.2.1) 21 r.2.2.2.2.2.2.2.2.2.2.1) 15 r.2.2.2.2.2.2.2.2.2.2.2.2.2.2.2.1) 16 r.2.2.2.2.2.2.2.2.2.2.2.2.2.2.2.2.1) 17 r.2.2.2.2.2.2.2.2.2.2.2.2.2.2.2.2.2.1) 18 r.2.2.2.2.2.2.2.2.2.2.2.2.2.2.2.2.2.2.1) 19 r.2.2.2.2.2.2.2.2.2.2.2.2.2.2.2.2.2.2.2) ms ma (if r.1 = 0 then vp_updL fo 0 (r.2.1).toInt64 else fo) fd ++ w_pool E (h 19) hp pl po pa) H locs := hW
  refine lv_topi (fun z6 e6 => ?_)
  refine lv_istore (lv' := [(6, .int z6), (0, .ref b), (1, .ref (h 0)), (2, .ref (g 0)), (3, .ref o), (4, .ref od), (5, .int (nI i))]) hx hb dL_law_1669 hl (by decide) rfl (fun ls hl => ?_)
  refine lv_aload_n hx hb dL_law_1671 rfl (lv_at hl 3 rfl) ?_
  refine q_callIm hF hl.1 hK hA hZ hW mv_X8_farthest ml_L_258 (c_X8_farthest l D E TXL (g 0) (g 1) (g 2) (g 3) (g 4) (g 5) (g 6) (g 7) (g 8) (g 9) (g 10) (g 11) (g 12) (g 13) (g 14) (g 15) (g 16) (g 17) (g 18) (g 19) (ms 0) (ms 1) (ms 2) (ms 3) (ms 4) (ms 5) (ms 6) (ms 7) (ms 8) (ms 9) (ms 10) (ms 11) (ma 0) (ma 3) (ma 4) (ma 5) (ma 6) (ma 7) (ma 8) (ma 9) (ma 10) q.1 q.2.1 q.2.2.1 q.2.2.2.1 q.2.2.2.2.1 q.2.2.2.2.2.1 q.2.2.2.2.2.2.1 q.2.2.2.2.2.2.2.1 q.2.2.2.2.2.2.2.2.1 q.2.2.2.2.2.2.2.2.2.1 q.2.2.2.2.2.2.2.2.2.2.1 q.2.2.2.2.2.2.2.2.2.2.2 e8) [false, false, false, false, false, false, false, false, false, false, false, false, false, false, false, false, false, false, false, false, false, false, false, false, false, false, false, false, false, false, false, false, false, false, false, false, false, false, false, false, false, false, false, false, false, false, false, false, false, false, false, false, false, false, false, true, true, false, false, false, false, true, false, true, false, true, true, true, true, true, true] (Nat.le_of_ble_eq_true rfl) rfl rfl rfl rfl rfl ⟨Nat.le_of_ble_eq_true rfl, Nat.le_of_ble_eq_true rfl⟩ hc rfl rfl (Nat.le_of_ble_eq_true rfl) dL_law_1672 (fun H locs hW => ?_)
  have hW : WD D A s (w_LAW E h g o od (va_up (va_up (va_up (va_up (va_up (va_up (va_up (va_up ss 2 r.2.2.1) 3 r.2.2.2.1) 4 r.2.2.2.2.1) 5 r.2.2.2.2.2.1) 18 r.2.2.2.2.2.2.2.2.2.2.2.1) 19 r.2.2.2.2.2.2.2.2.2.2.2.2.1) 20 r.2.2.2.2.2.2.2.2.2.2.2.2.2.1) 21 r.2.2.2.2.2.2.2.2.2.2.2.2.2.2.1) (va_up (va_up (va_up (va_up (va_up (va_up (va_up (va_up (va_up (va_up aa 12 r.2.2.2.2.2.2.1) 13 r.2.2.2.2.2.2.2.1) 14 r.2.2.2.2.2.2.2.2.1) 20 r.2.2.2.2.2.2.2.2.2.1) 21 r.2.2.2.2.2.2.2.2.2.2.1) 15 r.2.2.2.2.2.2.2.2.2.2.2.2.2.2.2.1) 16 r.2.2.2.2.2.2.2.2.2.2.2.2.2.2.2.2.1) 17 r.2.2.2.2.2.2.2.2.2.2.2.2.2.2.2.2.2.1) 18 r.2.2.2.2.2.2.2.2.2.2.2.2.2.2.2.2.2.2.1) 19 r.2.2.2.2.2.2.2.2.2.2.2.2.2.2.2.2.2.2.2) (va_up (va_up (va_up ms 4 q.2.1) 5 q.2.2.1) 6 q.2.2.2.1) (va_up (va_up (va_up (va_up (va_up (va_up (va_up (va_up ma 3 q.2.2.2.2.1) 4 q.2.2.2.2.2.1) 5 q.2.2.2.2.2.2.1) 6 q.2.2.2.2.2.2.2.1) 7 q.2.2.2.2.2.2.2.2.1) 8 q.2.2.2.2.2.2.2.2.2.1) 9 q.2.2.2.2.2.2.2.2.2.2.1) 10 q.2.2.2.2.2.2.2.2.2.2.2) (if r.1 = 0 then vp_updL fo 0 (r.2.1).toInt64 else fo) fd ++ w_pool E (h 19) hp pl po pa) H locs := hW
  refine lv_topi (fun z7 e7_ => ?_)
  refine lv_istore (lv' := [(7, .int z7), (6, .int z6), (0, .ref b), (1, .ref (h 0)), (2, .ref (g 0)), (3, .ref o), (4, .ref od), (5, .int (nI i))]) hx hb dL_law_1675 hl (by decide) rfl (fun ls hl => ?_)
  refine lv_aload_n hx hb dL_law_1677 rfl (lv_at hl 4 rfl) ?_
  refine q_callIm hF hl.1 hK hA hZ hW mv_X8_thrown ml_L_168 (c_X8_thrown l D E TXL (g 0) (g 1) (g 2) (g 3) (g 4) (g 5) (g 6) (g 7) (g 8) (g 9) (g 10) (g 11) (g 12) (g 13) (g 14) (g 15) (g 16) (g 17) (g 18) (g 19) (ms 0) (ms 1) (ms 2) (ms 3) q.2.1 q.2.2.1 q.2.2.2.1 (ms 7) (ms 8) (ms 9) (ms 10) (ms 11) q.2.1 rfl) [false, false, false, false, false, false, false, false, false, false, false, false, false, false, false, false, false, false, false, false, false, false, false, false, false, false, false, false, false, false, false, false, false, false, false, false, false, false, false, false, false, false, false, false, false, false, false, false, false, false, false, false, false, false, false, true] (Nat.le_of_ble_eq_true rfl) rfl rfl rfl rfl rfl ⟨Nat.le_of_ble_eq_true rfl, Nat.le_of_ble_eq_true rfl⟩ hc rfl rfl (Nat.le_of_ble_eq_true rfl) dL_law_1678 (fun H locs hW => ?_)
  have hW : WD D A s (w_LAW E h g o od (va_up (va_up (va_up (va_up (va_up (va_up (va_up (va_up ss 2 r.2.2.1) 3 r.2.2.2.1) 4 r.2.2.2.2.1) 5 r.2.2.2.2.2.1) 18 r.2.2.2.2.2.2.2.2.2.2.2.1) 19 r.2.2.2.2.2.2.2.2.2.2.2.2.1) 20 r.2.2.2.2.2.2.2.2.2.2.2.2.2.1) 21 r.2.2.2.2.2.2.2.2.2.2.2.2.2.2.1) (va_up (va_up (va_up (va_up (va_up (va_up (va_up (va_up (va_up (va_up aa 12 r.2.2.2.2.2.2.1) 13 r.2.2.2.2.2.2.2.1) 14 r.2.2.2.2.2.2.2.2.1) 20 r.2.2.2.2.2.2.2.2.2.1) 21 r.2.2.2.2.2.2.2.2.2.2.1) 15 r.2.2.2.2.2.2.2.2.2.2.2.2.2.2.2.1) 16 r.2.2.2.2.2.2.2.2.2.2.2.2.2.2.2.2.1) 17 r.2.2.2.2.2.2.2.2.2.2.2.2.2.2.2.2.2.1) 18 r.2.2.2.2.2.2.2.2.2.2.2.2.2.2.2.2.2.2.1) 19 r.2.2.2.2.2.2.2.2.2.2.2.2.2.2.2.2.2.2.2) (va_up (va_up (va_up ms 4 q.2.1) 5 q.2.2.1) 6 q.2.2.2.1) (va_up (va_up (va_up (va_up (va_up (va_up (va_up (va_up ma 3 q.2.2.2.2.1) 4 q.2.2.2.2.2.1) 5 q.2.2.2.2.2.2.1) 6 q.2.2.2.2.2.2.2.1) 7 q.2.2.2.2.2.2.2.2.1) 8 q.2.2.2.2.2.2.2.2.2.1) 9 q.2.2.2.2.2.2.2.2.2.2.1) 10 q.2.2.2.2.2.2.2.2.2.2.2) (if r.1 = 0 then vp_updL fo 0 (r.2.1).toInt64 else fo) fd ++ w_pool E (h 19) hp pl po pa) H locs := hW
  refine lv_iload hx hb dL_law_1681 (lv_at hl 1 rfl) ?_
  refine lv_icmp_eq (tgt := 1688) hx hb dL_law_1683 (by decide) (fun _ => ?_) (fun z => absurd (hth.trans e6.symm) z)
  refine lv_iload hx hb dL_law_1688 (lv_at hl 1 rfl) ?_
  have hend : ∀ (ls : Array Slot), lv_has ls 9 [(7, .int z7), (6, .int z6), (0, .ref b), (1, .ref (h 0)), (2, .ref (g 0)), (3, .ref o), (4, .ref od), (5, .int (nI i))] → W p l e room_1 s m #[.ref b] below meth c H locs (cells + 4) (slots + 24) Q (F0 m 1705 ls []) := fun ls hl => by
    refine lv_goto (tgt := 2740) hx hb dL_law_1705 (by decide) ?_
    exact kk _ _ _ ⟨_, _, _, _, _, _, _, _, _, hR1, hW⟩ (lv_sub hl [2, 3, 4, 5, 6, 7] rfl)
  refine lv_if_ne (tgt := 1705) hx hb dL_law_1690 (by decide) (fun _ => hend ls hl) (fun z9 => ?_)
  obtain ⟨hk0, hv⟩ := hans (e6.symm.trans z9)
  refine lv_aload_n hx hb dL_law_1693 rfl (lv_at hl 5 rfl) ?_
  refine lv_iconst (v := 0) hx hb dL_law_1694 (by decide) ?_
  refine va_lald hx hb hK hW.1 75 4 rfl rfl (by unfold vp_in; decide) dL_law_1695 ?_
  refine lv_topl (fun z8 e8_ => ?_)
  have e9 : z8 = (r.2.1).toInt64 := by
    rw [e8_, if_pos hk0]; rfl
  refine lv_iload hx hb dL_law_1696 (lv_at hl 0 rfl) ?_
  refine lv_i2l hx hb dL_law_1698 rfl ?_
  refine W.lcmp hx hb dL_law_1699 ?_
  refine lv_if_eq (tgt := 1705) hx hb dL_law_1700 (by decide) (fun _ => hend ls hl) (fun z => absurd ?_ z)
  rw [e9, hv, e7_]
  exact lg_cmp_self _
set_option maxHeartbeats 4000000 in
set_option maxRecDepth 100000 in
theorem k_28 {p : Program} {l : Launch} {e : Env} {s : State} {m : MethodId} {below : List Frame} {meth : Method} {c : Code} {D : va_G} {E : Nat → ClassId} {A : Nat → Prop} {b N i : Nat} {xs : Nat → Int32} {h g : Nat → Nat} {hp : Nat → Nat → Nat} {o od : Nat} {Q : State → Prop} {H : Heap} {locs : List Loc} {cells slots : Nat} {ls : Array Slot} (C : LCC p l s m c D E A b N xs) (hi : i + 4 ≤ N) (S : LSS D E A s h g hp o od H locs) (hl : lv_has ls 9 [(0, .ref b), (1, .ref (h 0)), (2, .ref (g 0)), (3, .ref o), (4, .ref od), (5, .int (nI i))]) (hc : cells + 4 ≤ room_1.cells ∧ slots + 24 ≤ room_1.slots) (kk : ∀ (H : Heap) (locs : List Loc) (ls : Array Slot), LSS D E A s h g hp o od H locs → lv_has ls 9 [(0, .ref b), (1, .ref (h 0)), (2, .ref (g 0)), (3, .ref o), (4, .ref od), (5, .int (nI i))] → W p l e room_1 s m #[.ref b] below meth c H locs (cells + 4) (slots + 24) Q (F0 m 2740 ls [])) : W p l e room_1 s m #[.ref b] below meth c H locs cells slots Q (F0 m 1708 ls []) := by
  obtain ⟨hF, hlt, hK, hA, hZ, hN, hX, hbl, hbA, hN9⟩ := C
  obtain ⟨ss, aa, pl, po, pa, ms, ma, fo, fd, hR, hW⟩ := S
  obtain ⟨i0, i1, i2, i3⟩ := ix_ok hi hN9
  have hx := hF.1
  have hb := hF.2.1
  refine lv_aload_n hx hb dL_law_1708 rfl (lv_at hl 1 rfl) ?_
  refine lv_aload_n hx hb dL_law_1709 rfl (lv_at hl 3 rfl) ?_
  obtain ⟨r, e7, q, e8, hM, hR1⟩ := call_groups hR
  have hk : r.1 = 0 ∨ r.1 = 2 := by
    rcases hM with ⟨m1, m2, m3⟩ | ⟨m1, m2⟩
    · exact Or.inl m1
    · exact Or.inr (m1)
  have hth : q.2.1 = (if r.1 = 2 then 1 else 0) := by
    rcases hM with ⟨m1, m2, m3⟩ | ⟨m1, m2⟩
    · rw [m1, m2]; rfl
    · rw [m1, m2]; rfl
  have hans : ((if r.1 = 2 then 1 else 0) : Int32) = 0 → r.1 = 0 ∧ r.2.1 = q.1 := by
    intro z9
    rcases hM with ⟨m1, m2, m3⟩ | ⟨m1, m2⟩
    · exact ⟨m1, m3⟩
    · exact absurd z9 (by rw [m1]; decide)
  refine q_LWm hF hl.1 hK hA hZ hN hW mW_groups ml_L_259 (v_groups l D E (h 0) o _ _ r.1 r.2.1 fo (c_X7_groups l hlt D E (h 0) (h 1) (h 2) (h 3) (h 4) (h 5) (h 6) (h 7) (h 8) (h 9) (h 10) (h 11) (h 12) (h 13) (h 14) (h 15) (h 16) (h 17) (h 18) (h 20) (h 21) (h 22) (h 23) (h 24) (h 25) (h 26) (h 27) (h 33) (h 34) (h 35) (h 36) (ss 0) (ss 1) (ss 10) (ss 11) (aa 1) (aa 2) (aa 3) (aa 0) (ss 2) (ss 3) (ss 4) (ss 5) (aa 12) (aa 13) (aa 14) (aa 20) (aa 21) (ss 18) (ss 19) (ss 20) (ss 21) (aa 15) (aa 16) (aa 17) (aa 18) (aa 19) r.1 r.2.1 r.2.2.1 r.2.2.2.1 r.2.2.2.2.1 r.2.2.2.2.2.1 r.2.2.2.2.2.2.1 r.2.2.2.2.2.2.2.1 r.2.2.2.2.2.2.2.2.1 r.2.2.2.2.2.2.2.2.2.1 r.2.2.2.2.2.2.2.2.2.2.1 r.2.2.2.2.2.2.2.2.2.2.2.1 r.2.2.2.2.2.2.2.2.2.2.2.2.1 r.2.2.2.2.2.2.2.2.2.2.2.2.2.1 r.2.2.2.2.2.2.2.2.2.2.2.2.2.2.1 r.2.2.2.2.2.2.2.2.2.2.2.2.2.2.2.1 r.2.2.2.2.2.2.2.2.2.2.2.2.2.2.2.2.1 r.2.2.2.2.2.2.2.2.2.2.2.2.2.2.2.2.2.1 r.2.2.2.2.2.2.2.2.2.2.2.2.2.2.2.2.2.2.1 r.2.2.2.2.2.2.2.2.2.2.2.2.2.2.2.2.2.2.2 e7) rfl rfl hk) [true, true, true, true, true, false, false, false, true, false, false, false, false, false, false, false, false, false, false, false, false, false, false, false, false, false, true, false, true, false, true, false, true, false, true, false, true, false, true, true, true, true, true, true, false, false, false, false, false, false, false, false, false, false, false, false, false, false, false, false, false, false, false, false, false, false, false, false, false, false, false, false, false, false, false, true] (Nat.le_of_ble_eq_true rfl) rfl rfl ⟨Nat.le_of_ble_eq_true rfl, Nat.le_of_ble_eq_true rfl⟩ ⟨Nat.le_trans (Nat.add_le_add_left (Nat.le_of_ble_eq_true rfl) cells) hc.1, Nat.le_trans (Nat.add_le_add_left (Nat.le_of_ble_eq_true rfl) slots) hc.2⟩ rfl rfl (Nat.le_of_ble_eq_true rfl) dL_law_1710 (fun H locs hW => ?_)
  refine W.widen (Nat.add_le_add_left (Nat.le_of_ble_eq_true rfl : 1 ≤ 4) cells) (Nat.add_le_add_left (Nat.le_of_ble_eq_true rfl : 6 ≤ 24) slots) ?_
  have hW : WD D A s (w_LAW E h g o od (va_up (va_up (va_up (va_up (va_up (va_up (va_up (va_up ss 2 r.2.2.1) 3 r.2.2.2.1) 4 r.2.2.2.2.1) 5 r.2.2.2.2.2.1) 18 r.2.2.2.2.2.2.2.2.2.2.2.1) 19 r.2.2.2.2.2.2.2.2.2.2.2.2.1) 20 r.2.2.2.2.2.2.2.2.2.2.2.2.2.1) 21 r.2.2.2.2.2.2.2.2.2.2.2.2.2.2.1) (va_up (va_up (va_up (va_up (va_up (va_up (va_up (va_up (va_up (va_up aa 12 r.2.2.2.2.2.2.1) 13 r.2.2.2.2.2.2.2.1) 14 r.2.2.2.2.2.2.2.2.1) 20 r.2.2.2.2.2.2.2.2.2.1) 21 r.2.2.2.2.2.2.2.2.2.2.1) 15 r.2.2.2.2.2.2.2.2.2.2.2.2.2.2.2.1) 16 r.2.2.2.2.2.2.2.2.2.2.2.2.2.2.2.2.1) 17 r.2.2.2.2.2.2.2.2.2.2.2.2.2.2.2.2.2.1) 18 r.2.2.2.2.2.2.2.2.2.2.2.2.2.2.2.2.2.2.1) 19 r.2.2.2.2.2.2.2.2.2.2.2.2.2.2.2.2.2.2.2) ms ma (if r.1 = 0 then vp_updL fo 0 (r.2.1).toInt64 else fo) fd ++ w_pool E (h 19) hp pl po pa) H locs := hW
  refine lv_topi (fun z6 e6 => ?_)
  refine lv_istore (lv' := [(6, .int z6), (0, .ref b), (1, .ref (h 0)), (2, .ref (g 0)), (3, .ref o), (4, .ref od), (5, .int (nI i))]) hx hb dL_law_1713 hl (by decide) rfl (fun ls hl => ?_)
  refine lv_aload_n hx hb dL_law_1715 rfl (lv_at hl 3 rfl) ?_
  refine q_callIm hF hl.1 hK hA hZ hW mv_X8_groups ml_L_261 (c_X8_groups l D E TXL (g 0) (g 1) (g 2) (g 3) (g 4) (g 5) (g 6) (g 7) (g 8) (g 9) (g 10) (g 11) (g 12) (g 13) (g 14) (g 15) (g 16) (g 17) (g 18) (g 19) (ms 0) (ms 1) (ms 2) (ms 3) (ms 4) (ms 5) (ms 6) (ms 7) (ms 8) (ms 9) (ms 10) (ms 11) (ma 0) (ma 3) (ma 4) (ma 5) (ma 6) (ma 7) (ma 8) (ma 9) (ma 10) q.1 q.2.1 q.2.2.1 q.2.2.2.1 q.2.2.2.2.1 q.2.2.2.2.2.1 q.2.2.2.2.2.2.1 q.2.2.2.2.2.2.2.1 q.2.2.2.2.2.2.2.2.1 q.2.2.2.2.2.2.2.2.2.1 q.2.2.2.2.2.2.2.2.2.2.1 q.2.2.2.2.2.2.2.2.2.2.2 e8) [false, false, false, false, false, false, false, false, false, false, false, false, false, false, false, false, false, false, false, false, false, false, false, false, false, false, false, false, false, false, false, false, false, false, false, false, false, false, false, false, false, false, false, false, false, false, false, false, false, false, false, false, false, false, false, true, true, false, false, false, false, true, false, true, false, true, true, true, true, true, true] (Nat.le_of_ble_eq_true rfl) rfl rfl rfl rfl rfl ⟨Nat.le_of_ble_eq_true rfl, Nat.le_of_ble_eq_true rfl⟩ hc rfl rfl (Nat.le_of_ble_eq_true rfl) dL_law_1716 (fun H locs hW => ?_)
  have hW : WD D A s (w_LAW E h g o od (va_up (va_up (va_up (va_up (va_up (va_up (va_up (va_up ss 2 r.2.2.1) 3 r.2.2.2.1) 4 r.2.2.2.2.1) 5 r.2.2.2.2.2.1) 18 r.2.2.2.2.2.2.2.2.2.2.2.1) 19 r.2.2.2.2.2.2.2.2.2.2.2.2.1) 20 r.2.2.2.2.2.2.2.2.2.2.2.2.2.1) 21 r.2.2.2.2.2.2.2.2.2.2.2.2.2.2.1) (va_up (va_up (va_up (va_up (va_up (va_up (va_up (va_up (va_up (va_up aa 12 r.2.2.2.2.2.2.1) 13 r.2.2.2.2.2.2.2.1) 14 r.2.2.2.2.2.2.2.2.1) 20 r.2.2.2.2.2.2.2.2.2.1) 21 r.2.2.2.2.2.2.2.2.2.2.1) 15 r.2.2.2.2.2.2.2.2.2.2.2.2.2.2.2.1) 16 r.2.2.2.2.2.2.2.2.2.2.2.2.2.2.2.2.1) 17 r.2.2.2.2.2.2.2.2.2.2.2.2.2.2.2.2.2.1) 18 r.2.2.2.2.2.2.2.2.2.2.2.2.2.2.2.2.2.2.1) 19 r.2.2.2.2.2.2.2.2.2.2.2.2.2.2.2.2.2.2.2) (va_up (va_up (va_up ms 4 q.2.1) 5 q.2.2.1) 6 q.2.2.2.1) (va_up (va_up (va_up (va_up (va_up (va_up (va_up (va_up ma 3 q.2.2.2.2.1) 4 q.2.2.2.2.2.1) 5 q.2.2.2.2.2.2.1) 6 q.2.2.2.2.2.2.2.1) 7 q.2.2.2.2.2.2.2.2.1) 8 q.2.2.2.2.2.2.2.2.2.1) 9 q.2.2.2.2.2.2.2.2.2.2.1) 10 q.2.2.2.2.2.2.2.2.2.2.2) (if r.1 = 0 then vp_updL fo 0 (r.2.1).toInt64 else fo) fd ++ w_pool E (h 19) hp pl po pa) H locs := hW
  refine lv_topi (fun z7 e7_ => ?_)
  refine lv_istore (lv' := [(7, .int z7), (6, .int z6), (0, .ref b), (1, .ref (h 0)), (2, .ref (g 0)), (3, .ref o), (4, .ref od), (5, .int (nI i))]) hx hb dL_law_1719 hl (by decide) rfl (fun ls hl => ?_)
  refine lv_aload_n hx hb dL_law_1721 rfl (lv_at hl 4 rfl) ?_
  refine q_callIm hF hl.1 hK hA hZ hW mv_X8_thrown ml_L_168 (c_X8_thrown l D E TXL (g 0) (g 1) (g 2) (g 3) (g 4) (g 5) (g 6) (g 7) (g 8) (g 9) (g 10) (g 11) (g 12) (g 13) (g 14) (g 15) (g 16) (g 17) (g 18) (g 19) (ms 0) (ms 1) (ms 2) (ms 3) q.2.1 q.2.2.1 q.2.2.2.1 (ms 7) (ms 8) (ms 9) (ms 10) (ms 11) q.2.1 rfl) [false, false, false, false, false, false, false, false, false, false, false, false, false, false, false, false, false, false, false, false, false, false, false, false, false, false, false, false, false, false, false, false, false, false, false, false, false, false, false, false, false, false, false, false, false, false, false, false, false, false, false, false, false, false, false, true] (Nat.le_of_ble_eq_true rfl) rfl rfl rfl rfl rfl ⟨Nat.le_of_ble_eq_true rfl, Nat.le_of_ble_eq_true rfl⟩ hc rfl rfl (Nat.le_of_ble_eq_true rfl) dL_law_1722 (fun H locs hW => ?_)
  have hW : WD D A s (w_LAW E h g o od (va_up (va_up (va_up (va_up (va_up (va_up (va_up (va_up ss 2 r.2.2.1) 3 r.2.2.2.1) 4 r.2.2.2.2.1) 5 r.2.2.2.2.2.1) 18 r.2.2.2.2.2.2.2.2.2.2.2.1) 19 r.2.2.2.2.2.2.2.2.2.2.2.2.1) 20 r.2.2.2.2.2.2.2.2.2.2.2.2.2.1) 21 r.2.2.2.2.2.2.2.2.2.2.2.2.2.2.1) (va_up (va_up (va_up (va_up (va_up (va_up (va_up (va_up (va_up (va_up aa 12 r.2.2.2.2.2.2.1) 13 r.2.2.2.2.2.2.2.1) 14 r.2.2.2.2.2.2.2.2.1) 20 r.2.2.2.2.2.2.2.2.2.1) 21 r.2.2.2.2.2.2.2.2.2.2.1) 15 r.2.2.2.2.2.2.2.2.2.2.2.2.2.2.2.1) 16 r.2.2.2.2.2.2.2.2.2.2.2.2.2.2.2.2.1) 17 r.2.2.2.2.2.2.2.2.2.2.2.2.2.2.2.2.2.1) 18 r.2.2.2.2.2.2.2.2.2.2.2.2.2.2.2.2.2.2.1) 19 r.2.2.2.2.2.2.2.2.2.2.2.2.2.2.2.2.2.2.2) (va_up (va_up (va_up ms 4 q.2.1) 5 q.2.2.1) 6 q.2.2.2.1) (va_up (va_up (va_up (va_up (va_up (va_up (va_up (va_up ma 3 q.2.2.2.2.1) 4 q.2.2.2.2.2.1) 5 q.2.2.2.2.2.2.1) 6 q.2.2.2.2.2.2.2.1) 7 q.2.2.2.2.2.2.2.2.1) 8 q.2.2.2.2.2.2.2.2.2.1) 9 q.2.2.2.2.2.2.2.2.2.2.1) 10 q.2.2.2.2.2.2.2.2.2.2.2) (if r.1 = 0 then vp_updL fo 0 (r.2.1).toInt64 else fo) fd ++ w_pool E (h 19) hp pl po pa) H locs := hW
  refine lv_iload hx hb dL_law_1725 (lv_at hl 1 rfl) ?_
  refine lv_icmp_eq (tgt := 1732) hx hb dL_law_1727 (by decide) (fun _ => ?_) (fun z => absurd (hth.trans e6.symm) z)
  refine lv_iload hx hb dL_law_1732 (lv_at hl 1 rfl) ?_
  have hend : ∀ (ls : Array Slot), lv_has ls 9 [(7, .int z7), (6, .int z6), (0, .ref b), (1, .ref (h 0)), (2, .ref (g 0)), (3, .ref o), (4, .ref od), (5, .int (nI i))] → W p l e room_1 s m #[.ref b] below meth c H locs (cells + 4) (slots + 24) Q (F0 m 1749 ls []) := fun ls hl => by
    refine lv_goto (tgt := 2740) hx hb dL_law_1749 (by decide) ?_
    exact kk _ _ _ ⟨_, _, _, _, _, _, _, _, _, hR1, hW⟩ (lv_sub hl [2, 3, 4, 5, 6, 7] rfl)
  refine lv_if_ne (tgt := 1749) hx hb dL_law_1734 (by decide) (fun _ => hend ls hl) (fun z9 => ?_)
  obtain ⟨hk0, hv⟩ := hans (e6.symm.trans z9)
  refine lv_aload_n hx hb dL_law_1737 rfl (lv_at hl 5 rfl) ?_
  refine lv_iconst (v := 0) hx hb dL_law_1738 (by decide) ?_
  refine va_lald hx hb hK hW.1 75 4 rfl rfl (by unfold vp_in; decide) dL_law_1739 ?_
  refine lv_topl (fun z8 e8_ => ?_)
  have e9 : z8 = (r.2.1).toInt64 := by
    rw [e8_, if_pos hk0]; rfl
  refine lv_iload hx hb dL_law_1740 (lv_at hl 0 rfl) ?_
  refine lv_i2l hx hb dL_law_1742 rfl ?_
  refine W.lcmp hx hb dL_law_1743 ?_
  refine lv_if_eq (tgt := 1749) hx hb dL_law_1744 (by decide) (fun _ => hend ls hl) (fun z => absurd ?_ z)
  rw [e9, hv, e7_]
  exact lg_cmp_self _
set_option maxHeartbeats 4000000 in
set_option maxRecDepth 100000 in
theorem k_29 {p : Program} {l : Launch} {e : Env} {s : State} {m : MethodId} {below : List Frame} {meth : Method} {c : Code} {D : va_G} {E : Nat → ClassId} {A : Nat → Prop} {b N i : Nat} {xs : Nat → Int32} {h g : Nat → Nat} {hp : Nat → Nat → Nat} {o od : Nat} {Q : State → Prop} {H : Heap} {locs : List Loc} {cells slots : Nat} {ls : Array Slot} (C : LCC p l s m c D E A b N xs) (hi : i + 4 ≤ N) (S : LSS D E A s h g hp o od H locs) (hl : lv_has ls 9 [(0, .ref b), (1, .ref (h 0)), (2, .ref (g 0)), (3, .ref o), (4, .ref od), (5, .int (nI i))]) (hc : cells + 4 ≤ room_1.cells ∧ slots + 24 ≤ room_1.slots) (kk : ∀ (H : Heap) (locs : List Loc) (ls : Array Slot), LSS D E A s h g hp o od H locs → lv_has ls 9 [(0, .ref b), (1, .ref (h 0)), (2, .ref (g 0)), (3, .ref o), (4, .ref od), (5, .int (nI i))] → W p l e room_1 s m #[.ref b] below meth c H locs (cells + 4) (slots + 24) Q (F0 m 2740 ls [])) : W p l e room_1 s m #[.ref b] below meth c H locs cells slots Q (F0 m 1752 ls []) := by
  obtain ⟨hF, hlt, hK, hA, hZ, hN, hX, hbl, hbA, hN9⟩ := C
  obtain ⟨ss, aa, pl, po, pa, ms, ma, fo, fd, hR, hW⟩ := S
  obtain ⟨i0, i1, i2, i3⟩ := ix_ok hi hN9
  have hx := hF.1
  have hb := hF.2.1
  refine lv_aload_n hx hb dL_law_1752 rfl (lv_at hl 1 rfl) ?_
  refine lv_aload hx hb dL_law_1753 (lv_at hl 4 rfl) ?_
  obtain ⟨r, e7, q, e8, hM, hR1⟩ := call_freedom hR
  have hk : r.1 = 0 ∨ r.1 = 2 ∨ r.1 = 5 := by
    rcases hM with ⟨m1, m2, m3⟩ | ⟨m1, m2⟩ | ⟨m1, m2⟩
    · exact Or.inl m1
    · exact Or.inr (Or.inl m1)
    · exact Or.inr (Or.inr (m1))
  have hth : q.2.1 = (if r.1 = 2 then 1 else (if r.1 = 5 then 2 else 0)) := by
    rcases hM with ⟨m1, m2, m3⟩ | ⟨m1, m2⟩ | ⟨m1, m2⟩
    · rw [m1, m2]; rfl
    · rw [m1, m2]; rfl
    · rw [m1, m2]; rfl
  have hans : ((if r.1 = 2 then 1 else (if r.1 = 5 then 2 else 0)) : Int32) = 0 → r.1 = 0 ∧ r.2.1 = q.1 := by
    intro z9
    rcases hM with ⟨m1, m2, m3⟩ | ⟨m1, m2⟩ | ⟨m1, m2⟩
    · exact ⟨m1, m3⟩
    · exact absurd z9 (by rw [m1]; decide)
    · exact absurd z9 (by rw [m1]; decide)
  refine q_LWm hF hl.1 hK hA hZ hN hW mW_freedom ml_L_262 (v_freedom l D E (h 0) od _ _ r.1 r.2.1 fd (c_X7_freedom l hlt D E (h 0) (h 1) (h 2) (h 3) (h 4) (h 5) (h 6) (h 7) (h 8) (h 9) (h 10) (h 11) (h 12) (h 13) (h 14) (h 15) (h 16) (h 17) (h 18) (h 20) (h 21) (h 22) (h 23) (h 24) (h 25) (h 26) (h 27) (h 33) (h 34) (h 35) (h 36) (ss 0) (ss 1) (ss 10) (ss 11) (aa 1) (aa 2) (aa 3) (aa 0) (ss 2) (ss 3) (ss 4) (ss 5) (aa 12) (aa 13) (aa 14) (ss 18) (ss 19) (ss 20) (ss 21) (aa 15) (aa 16) (aa 17) (aa 18) (aa 19) r.1 r.2.1 r.2.2.1 r.2.2.2.1 r.2.2.2.2.1 r.2.2.2.2.2.1 r.2.2.2.2.2.2.1 r.2.2.2.2.2.2.2.1 r.2.2.2.2.2.2.2.2.1 r.2.2.2.2.2.2.2.2.2.1 r.2.2.2.2.2.2.2.2.2.2.1 r.2.2.2.2.2.2.2.2.2.2.2.1 r.2.2.2.2.2.2.2.2.2.2.2.2.1 r.2.2.2.2.2.2.2.2.2.2.2.2.2.1 r.2.2.2.2.2.2.2.2.2.2.2.2.2.2.1 r.2.2.2.2.2.2.2.2.2.2.2.2.2.2.2.1 r.2.2.2.2.2.2.2.2.2.2.2.2.2.2.2.2 e7) rfl rfl hk) [true, true, true, true, true, false, false, false, true, false, false, false, false, false, false, false, false, false, false, false, false, false, false, false, false, false, true, false, true, false, true, false, true, false, false, false, false, false, true, true, true, true, true, true, false, false, false, false, false, false, false, false, false, false, false, false, false, false, false, false, false, false, false, false, false, false, false, false, false, false, false, false, false, false, false, false, true] (Nat.le_of_ble_eq_true rfl) rfl rfl ⟨Nat.le_of_ble_eq_true rfl, Nat.le_of_ble_eq_true rfl⟩ ⟨Nat.le_trans (Nat.add_le_add_left (Nat.le_of_ble_eq_true rfl) cells) hc.1, Nat.le_trans (Nat.add_le_add_left (Nat.le_of_ble_eq_true rfl) slots) hc.2⟩ rfl rfl (Nat.le_of_ble_eq_true rfl) dL_law_1755 (fun H locs hW => ?_)
  refine W.widen (Nat.add_le_add_left (Nat.le_of_ble_eq_true rfl : 2 ≤ 4) cells) (Nat.add_le_add_left (Nat.le_of_ble_eq_true rfl : 12 ≤ 24) slots) ?_
  have hW : WD D A s (w_LAW E h g o od (va_up (va_up (va_up (va_up (va_up (va_up (va_up ss 2 r.2.2.1) 3 r.2.2.2.1) 4 r.2.2.2.2.1) 18 r.2.2.2.2.2.2.2.2.1) 19 r.2.2.2.2.2.2.2.2.2.1) 20 r.2.2.2.2.2.2.2.2.2.2.1) 21 r.2.2.2.2.2.2.2.2.2.2.2.1) (va_up (va_up (va_up (va_up (va_up (va_up (va_up (va_up aa 12 r.2.2.2.2.2.1) 13 r.2.2.2.2.2.2.1) 14 r.2.2.2.2.2.2.2.1) 15 r.2.2.2.2.2.2.2.2.2.2.2.2.1) 16 r.2.2.2.2.2.2.2.2.2.2.2.2.2.1) 17 r.2.2.2.2.2.2.2.2.2.2.2.2.2.2.1) 18 r.2.2.2.2.2.2.2.2.2.2.2.2.2.2.2.1) 19 r.2.2.2.2.2.2.2.2.2.2.2.2.2.2.2.2) ms ma fo (if r.1 = 0 then vf_upd fd 0 r.2.1 else fd) ++ w_pool E (h 19) hp pl po pa) H locs := hW
  refine lv_topi (fun z6 e6 => ?_)
  refine lv_istore (lv' := [(6, .int z6), (0, .ref b), (1, .ref (h 0)), (2, .ref (g 0)), (3, .ref o), (4, .ref od), (5, .int (nI i))]) hx hb dL_law_1758 hl (by decide) rfl (fun ls hl => ?_)
  refine lv_aload_n hx hb dL_law_1760 rfl (lv_at hl 3 rfl) ?_
  refine q_callDm hF hl.1 hK hA hZ hW mv_X8_freedom ml_L_265 (c_X8_freedom l D E TXL (g 0) (g 1) (g 2) (g 3) (g 4) (g 5) (g 6) (g 7) (g 8) (g 9) (g 10) (g 11) (g 12) (g 13) (g 14) (g 15) (g 16) (g 17) (g 18) (g 19) (ms 0) (ms 1) (ms 2) (ms 3) (ms 4) (ms 5) (ms 6) (ms 7) (ms 8) (ms 9) (ms 10) (ms 11) (ma 0) (ma 3) (ma 4) (ma 5) (ma 6) (ma 7) (ma 8) q.1 q.2.1 q.2.2.1 q.2.2.2.1 q.2.2.2.2.1 q.2.2.2.2.2.1 q.2.2.2.2.2.2.1 q.2.2.2.2.2.2.2.1 q.2.2.2.2.2.2.2.2 e8) [false, false, false, false, false, false, false, false, false, false, false, false, false, false, false, false, false, false, false, false, false, false, false, false, false, false, false, false, false, false, false, false, false, false, false, false, false, false, false, false, false, false, false, false, false, false, false, false, false, false, false, false, false, false, false, true, true, false, false, false, false, true, false, true, false, true, true, true, true] (Nat.le_of_ble_eq_true rfl) rfl rfl rfl rfl rfl ⟨Nat.le_of_ble_eq_true rfl, Nat.le_of_ble_eq_true rfl⟩ hc rfl rfl (Nat.le_of_ble_eq_true rfl) dL_law_1761 (fun H locs hW => ?_)
  have hW : WD D A s (w_LAW E h g o od (va_up (va_up (va_up (va_up (va_up (va_up (va_up ss 2 r.2.2.1) 3 r.2.2.2.1) 4 r.2.2.2.2.1) 18 r.2.2.2.2.2.2.2.2.1) 19 r.2.2.2.2.2.2.2.2.2.1) 20 r.2.2.2.2.2.2.2.2.2.2.1) 21 r.2.2.2.2.2.2.2.2.2.2.2.1) (va_up (va_up (va_up (va_up (va_up (va_up (va_up (va_up aa 12 r.2.2.2.2.2.1) 13 r.2.2.2.2.2.2.1) 14 r.2.2.2.2.2.2.2.1) 15 r.2.2.2.2.2.2.2.2.2.2.2.2.1) 16 r.2.2.2.2.2.2.2.2.2.2.2.2.2.1) 17 r.2.2.2.2.2.2.2.2.2.2.2.2.2.2.1) 18 r.2.2.2.2.2.2.2.2.2.2.2.2.2.2.2.1) 19 r.2.2.2.2.2.2.2.2.2.2.2.2.2.2.2.2) (va_up (va_up ms 4 q.2.1) 5 q.2.2.1) (va_up (va_up (va_up (va_up (va_up (va_up ma 3 q.2.2.2.1) 4 q.2.2.2.2.1) 5 q.2.2.2.2.2.1) 6 q.2.2.2.2.2.2.1) 7 q.2.2.2.2.2.2.2.1) 8 q.2.2.2.2.2.2.2.2) fo (if r.1 = 0 then vf_upd fd 0 r.2.1 else fd) ++ w_pool E (h 19) hp pl po pa) H locs := hW
  refine lv_topd (fun z7 e7_ => ?_)
  refine lv_dstore (lv' := [(7, .double z7), (6, .int z6), (0, .ref b), (1, .ref (h 0)), (2, .ref (g 0)), (3, .ref o), (4, .ref od), (5, .int (nI i))]) hx hb dL_law_1764 hl (by decide) rfl (fun ls hl => ?_)
  refine lv_aload_n hx hb dL_law_1766 rfl (lv_at hl 4 rfl) ?_
  refine q_callIm hF hl.1 hK hA hZ hW mv_X8_thrown ml_L_168 (c_X8_thrown l D E TXL (g 0) (g 1) (g 2) (g 3) (g 4) (g 5) (g 6) (g 7) (g 8) (g 9) (g 10) (g 11) (g 12) (g 13) (g 14) (g 15) (g 16) (g 17) (g 18) (g 19) (ms 0) (ms 1) (ms 2) (ms 3) q.2.1 q.2.2.1 (ms 6) (ms 7) (ms 8) (ms 9) (ms 10) (ms 11) q.2.1 rfl) [false, false, false, false, false, false, false, false, false, false, false, false, false, false, false, false, false, false, false, false, false, false, false, false, false, false, false, false, false, false, false, false, false, false, false, false, false, false, false, false, false, false, false, false, false, false, false, false, false, false, false, false, false, false, false, true] (Nat.le_of_ble_eq_true rfl) rfl rfl rfl rfl rfl ⟨Nat.le_of_ble_eq_true rfl, Nat.le_of_ble_eq_true rfl⟩ hc rfl rfl (Nat.le_of_ble_eq_true rfl) dL_law_1767 (fun H locs hW => ?_)
  have hW : WD D A s (w_LAW E h g o od (va_up (va_up (va_up (va_up (va_up (va_up (va_up ss 2 r.2.2.1) 3 r.2.2.2.1) 4 r.2.2.2.2.1) 18 r.2.2.2.2.2.2.2.2.1) 19 r.2.2.2.2.2.2.2.2.2.1) 20 r.2.2.2.2.2.2.2.2.2.2.1) 21 r.2.2.2.2.2.2.2.2.2.2.2.1) (va_up (va_up (va_up (va_up (va_up (va_up (va_up (va_up aa 12 r.2.2.2.2.2.1) 13 r.2.2.2.2.2.2.1) 14 r.2.2.2.2.2.2.2.1) 15 r.2.2.2.2.2.2.2.2.2.2.2.2.1) 16 r.2.2.2.2.2.2.2.2.2.2.2.2.2.1) 17 r.2.2.2.2.2.2.2.2.2.2.2.2.2.2.1) 18 r.2.2.2.2.2.2.2.2.2.2.2.2.2.2.2.1) 19 r.2.2.2.2.2.2.2.2.2.2.2.2.2.2.2.2) (va_up (va_up ms 4 q.2.1) 5 q.2.2.1) (va_up (va_up (va_up (va_up (va_up (va_up ma 3 q.2.2.2.1) 4 q.2.2.2.2.1) 5 q.2.2.2.2.2.1) 6 q.2.2.2.2.2.2.1) 7 q.2.2.2.2.2.2.2.1) 8 q.2.2.2.2.2.2.2.2) fo (if r.1 = 0 then vf_upd fd 0 r.2.1 else fd) ++ w_pool E (h 19) hp pl po pa) H locs := hW
  refine lv_iload hx hb dL_law_1770 (lv_at hl 1 rfl) ?_
  refine lv_icmp_eq (tgt := 1777) hx hb dL_law_1772 (by decide) (fun _ => ?_) (fun z => absurd (hth.trans e6.symm) z)
  refine lv_iload hx hb dL_law_1777 (lv_at hl 1 rfl) ?_
  have hend : ∀ (ls : Array Slot), lv_has ls 9 [(7, .double z7), (6, .int z6), (0, .ref b), (1, .ref (h 0)), (2, .ref (g 0)), (3, .ref o), (4, .ref od), (5, .int (nI i))] → W p l e room_1 s m #[.ref b] below meth c H locs (cells + 4) (slots + 24) Q (F0 m 1814 ls []) := fun ls hl => by
    refine lv_goto (tgt := 2740) hx hb dL_law_1814 (by decide) ?_
    exact kk _ _ _ ⟨_, _, _, _, _, _, _, _, _, hR1, hW⟩ (lv_sub hl [2, 3, 4, 5, 6, 7] rfl)
  refine lv_if_ne (tgt := 1814) hx hb dL_law_1779 (by decide) (fun _ => hend ls hl) (fun z9 => ?_)
  obtain ⟨hk0, hv⟩ := hans (e6.symm.trans z9)
  refine lv_aload hx hb dL_law_1782 (lv_at hl 6 rfl) ?_
  refine lv_iconst (v := 0) hx hb dL_law_1784 (by decide) ?_
  refine va_dald hx hb hK hW.1 76 5 rfl rfl (by unfold vp_in; decide) dL_law_1785 ?_
  refine lv_topd (fun z81 e81_ => ?_)
  obtain rfl : z7 = z81 := by
    symm
    rw [e81_, if_pos hk0, e7_, ← hv]; rfl
  refine lv_dload hx hb dL_law_1786 (lv_at hl 0 rfl) ?_
  refine lv_dcmp hx hb dL_law_1788 ?_
  refine lv_if_eq (tgt := 1814) hx hb dL_law_1789 (by decide) (fun _ => hend ls hl) (fun hzd => ?_)
  refine lv_aload hx hb dL_law_1792 (lv_at hl 6 rfl) ?_
  refine lv_iconst (v := 0) hx hb dL_law_1794 (by decide) ?_
  refine va_dald hx hb hK hW.1 76 5 rfl rfl (by unfold vp_in; decide) dL_law_1795 ?_
  refine lv_topd (fun z82 e82_ => ?_)
  obtain rfl : z7 = z82 := by
    symm
    rw [e82_, if_pos hk0, e7_, ← hv]; rfl
  refine lv_aload hx hb dL_law_1796 (lv_at hl 6 rfl) ?_
  refine lv_iconst (v := 0) hx hb dL_law_1798 (by decide) ?_
  refine va_dald hx hb hK hW.1 76 5 rfl rfl (by unfold vp_in; decide) dL_law_1799 ?_
  refine lv_topd (fun z83 e83_ => ?_)
  obtain rfl : z7 = z83 := by
    symm
    rw [e83_, if_pos hk0, e7_, ← hv]; rfl
  refine lv_dcmp hx hb dL_law_1800 ?_
  refine lv_if_eq (tgt := 1812) hx hb dL_law_1801 (by decide) (fun z => absurd z hzd) (fun _ => ?_)
  refine lv_dload hx hb dL_law_1804 (lv_at hl 0 rfl) ?_
  refine lv_dload hx hb dL_law_1806 (lv_at hl 0 rfl) ?_
  refine lv_dcmp hx hb dL_law_1808 ?_
  refine lv_if_ne (tgt := 1814) hx hb dL_law_1809 (by decide) (fun _ => hend ls hl) (fun z => absurd z hzd)
set_option maxHeartbeats 4000000 in
set_option maxRecDepth 100000 in
theorem k_30 {p : Program} {l : Launch} {e : Env} {s : State} {m : MethodId} {below : List Frame} {meth : Method} {c : Code} {D : va_G} {E : Nat → ClassId} {A : Nat → Prop} {b N i : Nat} {xs : Nat → Int32} {h g : Nat → Nat} {hp : Nat → Nat → Nat} {o od : Nat} {Q : State → Prop} {H : Heap} {locs : List Loc} {cells slots : Nat} {ls : Array Slot} (C : LCC p l s m c D E A b N xs) (hi : i + 4 ≤ N) (S : LSS D E A s h g hp o od H locs) (hl : lv_has ls 9 [(0, .ref b), (1, .ref (h 0)), (2, .ref (g 0)), (3, .ref o), (4, .ref od), (5, .int (nI i))]) (hc : cells + 4 ≤ room_1.cells ∧ slots + 24 ≤ room_1.slots) (kk : ∀ (H : Heap) (locs : List Loc) (ls : Array Slot), LSS D E A s h g hp o od H locs → lv_has ls 9 [(0, .ref b), (1, .ref (h 0)), (2, .ref (g 0)), (3, .ref o), (4, .ref od), (5, .int (nI i))] → W p l e room_1 s m #[.ref b] below meth c H locs (cells + 4) (slots + 24) Q (F0 m 2740 ls [])) : W p l e room_1 s m #[.ref b] below meth c H locs cells slots Q (F0 m 1817 ls []) := by
  obtain ⟨hF, hlt, hK, hA, hZ, hN, hX, hbl, hbA, hN9⟩ := C
  obtain ⟨ss, aa, pl, po, pa, ms, ma, fo, fd, hR, hW⟩ := S
  obtain ⟨i0, i1, i2, i3⟩ := ix_ok hi hN9
  have hx := hF.1
  have hb := hF.2.1
  refine lv_aload_n hx hb dL_law_1817 rfl (lv_at hl 1 rfl) ?_
  refine lv_aload_n hx hb dL_law_1818 rfl (lv_at hl 0 rfl) ?_
  refine lv_iload hx hb dL_law_1819 (lv_at hl 5 rfl) ?_
  refine lv_iconst (v := 1) hx hb dL_law_1821 (by decide) ?_
  refine lv_iadd hx hb dL_law_1822 ?_
  refine va_sld hx hb hX hbl hbA hW.2.2 i1 dL_law_1823 ?_
  refine lv_topi (fun x1 ex1 => ?_)
  refine lv_aload_n hx hb dL_law_1824 rfl (lv_at hl 3 rfl) ?_
  obtain ⟨r, e7, q, e8, hM, hR1⟩ := call_planToPose hR x1
  have hk : r.1 = 0 ∨ r.1 = 3 ∨ r.1 = 2 ∨ r.1 = 4 := by
    rcases hM with ⟨m1, m2, m3⟩ | ⟨m1, m2⟩ | ⟨m1, m2⟩ | ⟨m1, m2⟩
    · exact Or.inl m1
    · exact Or.inr (Or.inl m1)
    · exact Or.inr (Or.inr (Or.inl m1))
    · exact Or.inr (Or.inr (Or.inr (m1)))
  have hth : q.2.2.2.1 = (if r.1 = 3 then 1 else (if r.1 = 2 then 2 else (if r.1 = 4 then 3 else 0))) := by
    rcases hM with ⟨m1, m2, m3⟩ | ⟨m1, m2⟩ | ⟨m1, m2⟩ | ⟨m1, m2⟩
    · rw [m1, m2]; rfl
    · rw [m1, m2]; rfl
    · rw [m1, m2]; rfl
    · rw [m1, m2]; rfl
  have hans : ((if r.1 = 3 then 1 else (if r.1 = 2 then 2 else (if r.1 = 4 then 3 else 0))) : Int32) = 0 → r.1 = 0 ∧ r.2.1 = q.1 := by
    intro z9
    rcases hM with ⟨m1, m2, m3⟩ | ⟨m1, m2⟩ | ⟨m1, m2⟩ | ⟨m1, m2⟩
    · exact ⟨m1, m3⟩
    · exact absurd z9 (by rw [m1]; decide)
    · exact absurd z9 (by rw [m1]; decide)
    · exact absurd z9 (by rw [m1]; decide)
  refine q_LWm hF hl.1 hK hA hZ hN hW mW_planToPose ml_L_266 (v_planToPose l D E (h 0) o x1 _ _ r.1 r.2.1 fo (c_X7_planToPose l hlt D E (h 0) (h 1) (h 2) (h 3) (h 4) (h 5) (h 6) (h 7) (h 8) (h 9) (h 10) (h 11) (h 12) (h 13) (h 14) (h 15) (h 16) (h 17) (h 18) (h 20) (h 21) (h 22) (h 23) (h 24) (h 25) (h 26) (h 27) (h 33) (h 34) (h 35) (h 36) (h 28) (ss 0) (ss 1) (ss 10) (ss 11) (aa 1) (aa 2) (aa 3) (aa 4) (aa 0) (ss 2) (ss 3) (ss 4) (ss 5) (aa 12) (aa 13) (aa 14) (aa 20) (aa 21) (ss 18) (ss 19) (ss 20) (ss 21) (aa 15) (aa 16) (aa 17) (aa 18) (aa 19) (ss 6) (ss 7) (ss 8) (ss 9) (aa 23) x1 r.1 r.2.1 r.2.2.1 r.2.2.2.1 r.2.2.2.2.1 r.2.2.2.2.2.1 r.2.2.2.2.2.2.1 r.2.2.2.2.2.2.2.1 r.2.2.2.2.2.2.2.2.1 r.2.2.2.2.2.2.2.2.2.1 r.2.2.2.2.2.2.2.2.2.2.1 r.2.2.2.2.2.2.2.2.2.2.2.1 r.2.2.2.2.2.2.2.2.2.2.2.2.1 r.2.2.2.2.2.2.2.2.2.2.2.2.2.1 r.2.2.2.2.2.2.2.2.2.2.2.2.2.2.1 r.2.2.2.2.2.2.2.2.2.2.2.2.2.2.2.1 r.2.2.2.2.2.2.2.2.2.2.2.2.2.2.2.2.1 r.2.2.2.2.2.2.2.2.2.2.2.2.2.2.2.2.2.1 r.2.2.2.2.2.2.2.2.2.2.2.2.2.2.2.2.2.2.1 r.2.2.2.2.2.2.2.2.2.2.2.2.2.2.2.2.2.2.2.1 r.2.2.2.2.2.2.2.2.2.2.2.2.2.2.2.2.2.2.2.2.1 r.2.2.2.2.2.2.2.2.2.2.2.2.2.2.2.2.2.2.2.2.2.1 r.2.2.2.2.2.2.2.2.2.2.2.2.2.2.2.2.2.2.2.2.2.2.1 r.2.2.2.2.2.2.2.2.2.2.2.2.2.2.2.2.2.2.2.2.2.2.2.1 r.2.2.2.2.2.2.2.2.2.2.2.2.2.2.2.2.2.2.2.2.2.2.2.2 e7) rfl rfl hk) [true, true, true, true, true, true, false, false, true, false, false, false, false, false, false, false, false, false, false, false, false, false, false, false, false, false, true, false, true, false, true, false, true, false, true, false, true, false, true, true, true, true, true, true, true, true, false, false, false, false, false, false, false, false, false, false, false, false, false, false, false, false, false, false, false, false, false, false, false, false, false, false, false, false, false, true] (Nat.le_of_ble_eq_true rfl) rfl rfl ⟨Nat.le_of_ble_eq_true rfl, Nat.le_of_ble_eq_true rfl⟩ ⟨Nat.le_trans (Nat.add_le_add_left (Nat.le_of_ble_eq_true rfl) cells) hc.1, Nat.le_trans (Nat.add_le_add_left (Nat.le_of_ble_eq_true rfl) slots) hc.2⟩ rfl rfl (Nat.le_of_ble_eq_true rfl) dL_law_1825 (fun H locs hW => ?_)
  refine W.widen (Nat.add_le_add_left (Nat.le_of_ble_eq_true rfl : 3 ≤ 4) cells) (Nat.add_le_add_left (Nat.le_of_ble_eq_true rfl : 18 ≤ 24) slots) ?_
  have hW : WD D A s (w_LAW E h g o od (va_up (va_up (va_up (va_up (va_up (va_up (va_up (va_up (va_up (va_up (va_up (va_up ss 2 r.2.2.1) 3 r.2.2.2.1) 4 r.2.2.2.2.1) 5 r.2.2.2.2.2.1) 18 r.2.2.2.2.2.2.2.2.2.2.2.1) 19 r.2.2.2.2.2.2.2.2.2.2.2.2.1) 20 r.2.2.2.2.2.2.2.2.2.2.2.2.2.1) 21 r.2.2.2.2.2.2.2.2.2.2.2.2.2.2.1) 6 r.2.2.2.2.2.2.2.2.2.2.2.2.2.2.2.2.2.2.2.2.1) 7 r.2.2.2.2.2.2.2.2.2.2.2.2.2.2.2.2.2.2.2.2.2.1) 8 r.2.2.2.2.2.2.2.2.2.2.2.2.2.2.2.2.2.2.2.2.2.2.1) 9 r.2.2.2.2.2.2.2.2.2.2.2.2.2.2.2.2.2.2.2.2.2.2.2.1) (va_up (va_up (va_up (va_up (va_up (va_up (va_up (va_up (va_up (va_up (va_up aa 12 r.2.2.2.2.2.2.1) 13 r.2.2.2.2.2.2.2.1) 14 r.2.2.2.2.2.2.2.2.1) 20 r.2.2.2.2.2.2.2.2.2.1) 21 r.2.2.2.2.2.2.2.2.2.2.1) 15 r.2.2.2.2.2.2.2.2.2.2.2.2.2.2.2.1) 16 r.2.2.2.2.2.2.2.2.2.2.2.2.2.2.2.2.1) 17 r.2.2.2.2.2.2.2.2.2.2.2.2.2.2.2.2.2.1) 18 r.2.2.2.2.2.2.2.2.2.2.2.2.2.2.2.2.2.2.1) 19 r.2.2.2.2.2.2.2.2.2.2.2.2.2.2.2.2.2.2.2.1) 23 r.2.2.2.2.2.2.2.2.2.2.2.2.2.2.2.2.2.2.2.2.2.2.2.2) ms ma (if r.1 = 0 then vp_updL fo 0 (r.2.1).toInt64 else fo) fd ++ w_pool E (h 19) hp pl po pa) H locs := hW
  refine lv_topi (fun z6 e6 => ?_)
  refine lv_istore (lv' := [(6, .int z6), (0, .ref b), (1, .ref (h 0)), (2, .ref (g 0)), (3, .ref o), (4, .ref od), (5, .int (nI i))]) hx hb dL_law_1828 hl (by decide) rfl (fun ls hl => ?_)
  refine lv_aload_n hx hb dL_law_1830 rfl (lv_at hl 3 rfl) ?_
  refine lv_aload_n hx hb dL_law_1831 rfl (lv_at hl 1 rfl) ?_
  refine lv_iload hx hb dL_law_1832 (lv_at hl 6 rfl) ?_
  refine lv_iconst (v := 1) hx hb dL_law_1834 (by decide) ?_
  refine lv_iadd hx hb dL_law_1835 ?_
  refine va_sld hx hb hX hbl hbA hW.2.2 i1 dL_law_1836 ?_
  refine lv_topi (fun y1 ey1 => ?_)
  obtain rfl : x1 = y1 := ex1.trans ey1.symm
  refine q_callIm hF hl.1 hK hA hZ hW mv_X8_planToPose ml_L_268 (c_X8_planToPose l D E TXL (g 0) (g 1) (g 2) (g 3) (g 4) (g 5) (g 6) (g 7) (g 8) (g 9) (g 10) (g 11) (g 12) (g 13) (g 14) (g 15) (g 16) (g 17) (g 18) (g 19) (ms 0) (ms 1) (ms 2) (ms 3) (ms 4) (ms 5) (ms 6) (ms 7) (ms 8) (ms 9) (ms 10) (ms 11) (ma 0) (ma 12) (ma 3) (ma 4) (ma 5) (ma 6) (ma 7) (ma 8) (ma 9) (ma 10) x1 q.1 q.2.1 q.2.2.1 q.2.2.2.1 q.2.2.2.2.1 q.2.2.2.2.2.1 q.2.2.2.2.2.2.1 q.2.2.2.2.2.2.2.1 q.2.2.2.2.2.2.2.2.1 q.2.2.2.2.2.2.2.2.2.1 q.2.2.2.2.2.2.2.2.2.2.1 q.2.2.2.2.2.2.2.2.2.2.2.1 q.2.2.2.2.2.2.2.2.2.2.2.2.1 q.2.2.2.2.2.2.2.2.2.2.2.2.2.1 q.2.2.2.2.2.2.2.2.2.2.2.2.2.2 e8) [false, false, false, false, false, false, false, false, false, false, false, false, false, false, false, false, false, false, false, false, false, false, false, false, false, false, false, false, false, false, false, false, false, false, false, false, false, false, false, false, false, false, false, false, false, false, false, false, false, false, false, false, false, false, false, true, true, false, true, false, false, true, false, true, false, true, true, true, true, true, true] (Nat.le_of_ble_eq_true rfl) rfl rfl rfl rfl rfl ⟨Nat.le_of_ble_eq_true rfl, Nat.le_of_ble_eq_true rfl⟩ hc rfl rfl (Nat.le_of_ble_eq_true rfl) dL_law_1837 (fun H locs hW => ?_)
  have hW : WD D A s (w_LAW E h g o od (va_up (va_up (va_up (va_up (va_up (va_up (va_up (va_up (va_up (va_up (va_up (va_up ss 2 r.2.2.1) 3 r.2.2.2.1) 4 r.2.2.2.2.1) 5 r.2.2.2.2.2.1) 18 r.2.2.2.2.2.2.2.2.2.2.2.1) 19 r.2.2.2.2.2.2.2.2.2.2.2.2.1) 20 r.2.2.2.2.2.2.2.2.2.2.2.2.2.1) 21 r.2.2.2.2.2.2.2.2.2.2.2.2.2.2.1) 6 r.2.2.2.2.2.2.2.2.2.2.2.2.2.2.2.2.2.2.2.2.1) 7 r.2.2.2.2.2.2.2.2.2.2.2.2.2.2.2.2.2.2.2.2.2.1) 8 r.2.2.2.2.2.2.2.2.2.2.2.2.2.2.2.2.2.2.2.2.2.2.1) 9 r.2.2.2.2.2.2.2.2.2.2.2.2.2.2.2.2.2.2.2.2.2.2.2.1) (va_up (va_up (va_up (va_up (va_up (va_up (va_up (va_up (va_up (va_up (va_up aa 12 r.2.2.2.2.2.2.1) 13 r.2.2.2.2.2.2.2.1) 14 r.2.2.2.2.2.2.2.2.1) 20 r.2.2.2.2.2.2.2.2.2.1) 21 r.2.2.2.2.2.2.2.2.2.2.1) 15 r.2.2.2.2.2.2.2.2.2.2.2.2.2.2.2.1) 16 r.2.2.2.2.2.2.2.2.2.2.2.2.2.2.2.2.1) 17 r.2.2.2.2.2.2.2.2.2.2.2.2.2.2.2.2.2.1) 18 r.2.2.2.2.2.2.2.2.2.2.2.2.2.2.2.2.2.2.1) 19 r.2.2.2.2.2.2.2.2.2.2.2.2.2.2.2.2.2.2.2.1) 23 r.2.2.2.2.2.2.2.2.2.2.2.2.2.2.2.2.2.2.2.2.2.2.2.2) (va_up (va_up (va_up (va_up (va_up ms 2 q.2.1) 3 q.2.2.1) 4 q.2.2.2.1) 5 q.2.2.2.2.1) 6 q.2.2.2.2.2.1) (va_up (va_up (va_up (va_up (va_up (va_up (va_up (va_up (va_up ma 12 q.2.2.2.2.2.2.1) 3 q.2.2.2.2.2.2.2.1) 4 q.2.2.2.2.2.2.2.2.1) 5 q.2.2.2.2.2.2.2.2.2.1) 6 q.2.2.2.2.2.2.2.2.2.2.1) 7 q.2.2.2.2.2.2.2.2.2.2.2.1) 8 q.2.2.2.2.2.2.2.2.2.2.2.2.1) 9 q.2.2.2.2.2.2.2.2.2.2.2.2.2.1) 10 q.2.2.2.2.2.2.2.2.2.2.2.2.2.2) (if r.1 = 0 then vp_updL fo 0 (r.2.1).toInt64 else fo) fd ++ w_pool E (h 19) hp pl po pa) H locs := hW
  refine lv_topi (fun z7 e7_ => ?_)
  refine lv_istore (lv' := [(7, .int z7), (6, .int z6), (0, .ref b), (1, .ref (h 0)), (2, .ref (g 0)), (3, .ref o), (4, .ref od), (5, .int (nI i))]) hx hb dL_law_1840 hl (by decide) rfl (fun ls hl => ?_)
  refine lv_aload_n hx hb dL_law_1842 rfl (lv_at hl 4 rfl) ?_
  refine q_callIm hF hl.1 hK hA hZ hW mv_X8_thrown ml_L_168 (c_X8_thrown l D E TXL (g 0) (g 1) (g 2) (g 3) (g 4) (g 5) (g 6) (g 7) (g 8) (g 9) (g 10) (g 11) (g 12) (g 13) (g 14) (g 15) (g 16) (g 17) (g 18) (g 19) (ms 0) (ms 1) q.2.1 q.2.2.1 q.2.2.2.1 q.2.2.2.2.1 q.2.2.2.2.2.1 (ms 7) (ms 8) (ms 9) (ms 10) (ms 11) q.2.2.2.1 rfl) [false, false, false, false, false, false, false, false, false, false, false, false, false, false, false, false, false, false, false, false, false, false, false, false, false, false, false, false, false, false, false, false, false, false, false, false, false, false, false, false, false, false, false, false, false, false, false, false, false, false, false, false, false, false, false, true] (Nat.le_of_ble_eq_true rfl) rfl rfl rfl rfl rfl ⟨Nat.le_of_ble_eq_true rfl, Nat.le_of_ble_eq_true rfl⟩ hc rfl rfl (Nat.le_of_ble_eq_true rfl) dL_law_1843 (fun H locs hW => ?_)
  have hW : WD D A s (w_LAW E h g o od (va_up (va_up (va_up (va_up (va_up (va_up (va_up (va_up (va_up (va_up (va_up (va_up ss 2 r.2.2.1) 3 r.2.2.2.1) 4 r.2.2.2.2.1) 5 r.2.2.2.2.2.1) 18 r.2.2.2.2.2.2.2.2.2.2.2.1) 19 r.2.2.2.2.2.2.2.2.2.2.2.2.1) 20 r.2.2.2.2.2.2.2.2.2.2.2.2.2.1) 21 r.2.2.2.2.2.2.2.2.2.2.2.2.2.2.1) 6 r.2.2.2.2.2.2.2.2.2.2.2.2.2.2.2.2.2.2.2.2.1) 7 r.2.2.2.2.2.2.2.2.2.2.2.2.2.2.2.2.2.2.2.2.2.1) 8 r.2.2.2.2.2.2.2.2.2.2.2.2.2.2.2.2.2.2.2.2.2.2.1) 9 r.2.2.2.2.2.2.2.2.2.2.2.2.2.2.2.2.2.2.2.2.2.2.2.1) (va_up (va_up (va_up (va_up (va_up (va_up (va_up (va_up (va_up (va_up (va_up aa 12 r.2.2.2.2.2.2.1) 13 r.2.2.2.2.2.2.2.1) 14 r.2.2.2.2.2.2.2.2.1) 20 r.2.2.2.2.2.2.2.2.2.1) 21 r.2.2.2.2.2.2.2.2.2.2.1) 15 r.2.2.2.2.2.2.2.2.2.2.2.2.2.2.2.1) 16 r.2.2.2.2.2.2.2.2.2.2.2.2.2.2.2.2.1) 17 r.2.2.2.2.2.2.2.2.2.2.2.2.2.2.2.2.2.1) 18 r.2.2.2.2.2.2.2.2.2.2.2.2.2.2.2.2.2.2.1) 19 r.2.2.2.2.2.2.2.2.2.2.2.2.2.2.2.2.2.2.2.1) 23 r.2.2.2.2.2.2.2.2.2.2.2.2.2.2.2.2.2.2.2.2.2.2.2.2) (va_up (va_up (va_up (va_up (va_up ms 2 q.2.1) 3 q.2.2.1) 4 q.2.2.2.1) 5 q.2.2.2.2.1) 6 q.2.2.2.2.2.1) (va_up (va_up (va_up (va_up (va_up (va_up (va_up (va_up (va_up ma 12 q.2.2.2.2.2.2.1) 3 q.2.2.2.2.2.2.2.1) 4 q.2.2.2.2.2.2.2.2.1) 5 q.2.2.2.2.2.2.2.2.2.1) 6 q.2.2.2.2.2.2.2.2.2.2.1) 7 q.2.2.2.2.2.2.2.2.2.2.2.1) 8 q.2.2.2.2.2.2.2.2.2.2.2.2.1) 9 q.2.2.2.2.2.2.2.2.2.2.2.2.2.1) 10 q.2.2.2.2.2.2.2.2.2.2.2.2.2.2) (if r.1 = 0 then vp_updL fo 0 (r.2.1).toInt64 else fo) fd ++ w_pool E (h 19) hp pl po pa) H locs := hW
  refine lv_iload hx hb dL_law_1846 (lv_at hl 1 rfl) ?_
  refine lv_icmp_eq (tgt := 1853) hx hb dL_law_1848 (by decide) (fun _ => ?_) (fun z => absurd (hth.trans e6.symm) z)
  refine lv_iload hx hb dL_law_1853 (lv_at hl 1 rfl) ?_
  have hend : ∀ (ls : Array Slot), lv_has ls 9 [(7, .int z7), (6, .int z6), (0, .ref b), (1, .ref (h 0)), (2, .ref (g 0)), (3, .ref o), (4, .ref od), (5, .int (nI i))] → W p l e room_1 s m #[.ref b] below meth c H locs (cells + 4) (slots + 24) Q (F0 m 1870 ls []) := fun ls hl => by
    refine lv_goto (tgt := 2740) hx hb dL_law_1870 (by decide) ?_
    exact kk _ _ _ ⟨_, _, _, _, _, _, _, _, _, hR1, hW⟩ (lv_sub hl [2, 3, 4, 5, 6, 7] rfl)
  refine lv_if_ne (tgt := 1870) hx hb dL_law_1855 (by decide) (fun _ => hend ls hl) (fun z9 => ?_)
  obtain ⟨hk0, hv⟩ := hans (e6.symm.trans z9)
  refine lv_aload_n hx hb dL_law_1858 rfl (lv_at hl 5 rfl) ?_
  refine lv_iconst (v := 0) hx hb dL_law_1859 (by decide) ?_
  refine va_lald hx hb hK hW.1 75 4 rfl rfl (by unfold vp_in; decide) dL_law_1860 ?_
  refine lv_topl (fun z8 e8_ => ?_)
  have e9 : z8 = (r.2.1).toInt64 := by
    rw [e8_, if_pos hk0]; rfl
  refine lv_iload hx hb dL_law_1861 (lv_at hl 0 rfl) ?_
  refine lv_i2l hx hb dL_law_1863 rfl ?_
  refine W.lcmp hx hb dL_law_1864 ?_
  refine lv_if_eq (tgt := 1870) hx hb dL_law_1865 (by decide) (fun _ => hend ls hl) (fun z => absurd ?_ z)
  rw [e9, hv, e7_]
  exact lg_cmp_self _
set_option maxHeartbeats 4000000 in
set_option maxRecDepth 100000 in
theorem k_31 {p : Program} {l : Launch} {e : Env} {s : State} {m : MethodId} {below : List Frame} {meth : Method} {c : Code} {D : va_G} {E : Nat → ClassId} {A : Nat → Prop} {b N i : Nat} {xs : Nat → Int32} {h g : Nat → Nat} {hp : Nat → Nat → Nat} {o od : Nat} {Q : State → Prop} {H : Heap} {locs : List Loc} {cells slots : Nat} {ls : Array Slot} (C : LCC p l s m c D E A b N xs) (hi : i + 4 ≤ N) (S : LSS D E A s h g hp o od H locs) (hl : lv_has ls 9 [(0, .ref b), (1, .ref (h 0)), (2, .ref (g 0)), (3, .ref o), (4, .ref od), (5, .int (nI i))]) (hc : cells + 4 ≤ room_1.cells ∧ slots + 24 ≤ room_1.slots) (kk : ∀ (H : Heap) (locs : List Loc) (ls : Array Slot), LSS D E A s h g hp o od H locs → lv_has ls 9 [(0, .ref b), (1, .ref (h 0)), (2, .ref (g 0)), (3, .ref o), (4, .ref od), (5, .int (nI i))] → W p l e room_1 s m #[.ref b] below meth c H locs (cells + 4) (slots + 24) Q (F0 m 2740 ls [])) : W p l e room_1 s m #[.ref b] below meth c H locs cells slots Q (F0 m 1873 ls []) := by
  obtain ⟨hF, hlt, hK, hA, hZ, hN, hX, hbl, hbA, hN9⟩ := C
  obtain ⟨ss, aa, pl, po, pa, ms, ma, fo, fd, hR, hW⟩ := S
  obtain ⟨i0, i1, i2, i3⟩ := ix_ok hi hN9
  have hx := hF.1
  have hb := hF.2.1
  refine lv_aload_n hx hb dL_law_1873 rfl (lv_at hl 1 rfl) ?_
  refine lv_aload_n hx hb dL_law_1874 rfl (lv_at hl 0 rfl) ?_
  refine lv_iload hx hb dL_law_1875 (lv_at hl 5 rfl) ?_
  refine lv_iconst (v := 1) hx hb dL_law_1877 (by decide) ?_
  refine lv_iadd hx hb dL_law_1878 ?_
  refine va_sld hx hb hX hbl hbA hW.2.2 i1 dL_law_1879 ?_
  refine lv_topi (fun x1 ex1 => ?_)
  refine lv_aload_n hx hb dL_law_1880 rfl (lv_at hl 0 rfl) ?_
  refine lv_iload hx hb dL_law_1881 (lv_at hl 5 rfl) ?_
  refine lv_iconst (v := 2) hx hb dL_law_1883 (by decide) ?_
  refine lv_iadd hx hb dL_law_1884 ?_
  refine va_sld hx hb hX hbl hbA hW.2.2 i2 dL_law_1885 ?_
  refine lv_topi (fun x2 ex2 => ?_)
  refine lv_aload_n hx hb dL_law_1886 rfl (lv_at hl 3 rfl) ?_
  obtain ⟨r, e7, q, e8, hM, hR1⟩ := call_planToCell hR x1 x2
  have hk : r.1 = 0 ∨ r.1 = 3 ∨ r.1 = 2 ∨ r.1 = 4 := by
    rcases hM with ⟨m1, m2, m3⟩ | ⟨m1, m2⟩ | ⟨m1, m2⟩ | ⟨m1, m2⟩
    · exact Or.inl m1
    · exact Or.inr (Or.inl m1)
    · exact Or.inr (Or.inr (Or.inl m1))
    · exact Or.inr (Or.inr (Or.inr (m1)))
  have hth : q.2.2.2.1 = (if r.1 = 3 then 1 else (if r.1 = 2 then 2 else (if r.1 = 4 then 3 else 0))) := by
    rcases hM with ⟨m1, m2, m3⟩ | ⟨m1, m2⟩ | ⟨m1, m2⟩ | ⟨m1, m2⟩
    · rw [m1, m2]; rfl
    · rw [m1, m2]; rfl
    · rw [m1, m2]; rfl
    · rw [m1, m2]; rfl
  have hans : ((if r.1 = 3 then 1 else (if r.1 = 2 then 2 else (if r.1 = 4 then 3 else 0))) : Int32) = 0 → r.1 = 0 ∧ r.2.1 = q.1 := by
    intro z9
    rcases hM with ⟨m1, m2, m3⟩ | ⟨m1, m2⟩ | ⟨m1, m2⟩ | ⟨m1, m2⟩
    · exact ⟨m1, m3⟩
    · exact absurd z9 (by rw [m1]; decide)
    · exact absurd z9 (by rw [m1]; decide)
    · exact absurd z9 (by rw [m1]; decide)
  refine q_LWm hF hl.1 hK hA hZ hN hW mW_planToCell ml_L_269 (v_planToCell l D E (h 0) o x1 x2 _ _ r.1 r.2.1 fo (c_X7_planToCell l hlt D E (h 0) (h 1) (h 2) (h 3) (h 4) (h 5) (h 6) (h 7) (h 8) (h 9) (h 10) (h 11) (h 12) (h 13) (h 14) (h 15) (h 16) (h 17) (h 18) (h 20) (h 21) (h 22) (h 23) (h 24) (h 25) (h 26) (h 27) (h 33) (h 34) (h 35) (h 36) (h 28) (ss 0) (ss 1) (ss 10) (ss 11) (aa 1) (aa 2) (aa 3) (aa 4) (aa 0) (ss 2) (ss 3) (ss 4) (ss 5) (aa 12) (aa 13) (aa 14) (aa 20) (aa 21) (ss 18) (ss 19) (ss 20) (ss 21) (aa 15) (aa 16) (aa 17) (aa 18) (aa 19) (ss 6) (ss 7) (ss 8) (ss 9) (aa 23) x1 x2 r.1 r.2.1 r.2.2.1 r.2.2.2.1 r.2.2.2.2.1 r.2.2.2.2.2.1 r.2.2.2.2.2.2.1 r.2.2.2.2.2.2.2.1 r.2.2.2.2.2.2.2.2.1 r.2.2.2.2.2.2.2.2.2.1 r.2.2.2.2.2.2.2.2.2.2.1 r.2.2.2.2.2.2.2.2.2.2.2.1 r.2.2.2.2.2.2.2.2.2.2.2.2.1 r.2.2.2.2.2.2.2.2.2.2.2.2.2.1 r.2.2.2.2.2.2.2.2.2.2.2.2.2.2.1 r.2.2.2.2.2.2.2.2.2.2.2.2.2.2.2.1 r.2.2.2.2.2.2.2.2.2.2.2.2.2.2.2.2.1 r.2.2.2.2.2.2.2.2.2.2.2.2.2.2.2.2.2.1 r.2.2.2.2.2.2.2.2.2.2.2.2.2.2.2.2.2.2.1 r.2.2.2.2.2.2.2.2.2.2.2.2.2.2.2.2.2.2.2.1 r.2.2.2.2.2.2.2.2.2.2.2.2.2.2.2.2.2.2.2.2.1 r.2.2.2.2.2.2.2.2.2.2.2.2.2.2.2.2.2.2.2.2.2.1 r.2.2.2.2.2.2.2.2.2.2.2.2.2.2.2.2.2.2.2.2.2.2.1 r.2.2.2.2.2.2.2.2.2.2.2.2.2.2.2.2.2.2.2.2.2.2.2.1 r.2.2.2.2.2.2.2.2.2.2.2.2.2.2.2.2.2.2.2.2.2.2.2.2 e7) rfl rfl hk) [true, true, true, true, true, true, false, false, true, false, false, false, false, false, false, false, false, false, false, false, false, false, false, false, false, false, true, false, true, false, true, false, true, false, true, false, true, false, true, true, true, true, true, true, true, true, false, false, false, false, false, false, false, false, false, false, false, false, false, false, false, false, false, false, false, false, false, false, false, false, false, false, false, false, false, true] (Nat.le_of_ble_eq_true rfl) rfl rfl ⟨Nat.le_of_ble_eq_true rfl, Nat.le_of_ble_eq_true rfl⟩ ⟨Nat.le_trans (Nat.add_le_add_left (Nat.le_of_ble_eq_true rfl) cells) hc.1, Nat.le_trans (Nat.add_le_add_left (Nat.le_of_ble_eq_true rfl) slots) hc.2⟩ rfl rfl (Nat.le_of_ble_eq_true rfl) dL_law_1887 (fun H locs hW => ?_)
  refine W.widen (Nat.add_le_add_left (Nat.le_of_ble_eq_true rfl : 3 ≤ 4) cells) (Nat.add_le_add_left (Nat.le_of_ble_eq_true rfl : 18 ≤ 24) slots) ?_
  have hW : WD D A s (w_LAW E h g o od (va_up (va_up (va_up (va_up (va_up (va_up (va_up (va_up (va_up (va_up (va_up (va_up ss 2 r.2.2.1) 3 r.2.2.2.1) 4 r.2.2.2.2.1) 5 r.2.2.2.2.2.1) 18 r.2.2.2.2.2.2.2.2.2.2.2.1) 19 r.2.2.2.2.2.2.2.2.2.2.2.2.1) 20 r.2.2.2.2.2.2.2.2.2.2.2.2.2.1) 21 r.2.2.2.2.2.2.2.2.2.2.2.2.2.2.1) 6 r.2.2.2.2.2.2.2.2.2.2.2.2.2.2.2.2.2.2.2.2.1) 7 r.2.2.2.2.2.2.2.2.2.2.2.2.2.2.2.2.2.2.2.2.2.1) 8 r.2.2.2.2.2.2.2.2.2.2.2.2.2.2.2.2.2.2.2.2.2.2.1) 9 r.2.2.2.2.2.2.2.2.2.2.2.2.2.2.2.2.2.2.2.2.2.2.2.1) (va_up (va_up (va_up (va_up (va_up (va_up (va_up (va_up (va_up (va_up (va_up aa 12 r.2.2.2.2.2.2.1) 13 r.2.2.2.2.2.2.2.1) 14 r.2.2.2.2.2.2.2.2.1) 20 r.2.2.2.2.2.2.2.2.2.1) 21 r.2.2.2.2.2.2.2.2.2.2.1) 15 r.2.2.2.2.2.2.2.2.2.2.2.2.2.2.2.1) 16 r.2.2.2.2.2.2.2.2.2.2.2.2.2.2.2.2.1) 17 r.2.2.2.2.2.2.2.2.2.2.2.2.2.2.2.2.2.1) 18 r.2.2.2.2.2.2.2.2.2.2.2.2.2.2.2.2.2.2.1) 19 r.2.2.2.2.2.2.2.2.2.2.2.2.2.2.2.2.2.2.2.1) 23 r.2.2.2.2.2.2.2.2.2.2.2.2.2.2.2.2.2.2.2.2.2.2.2.2) ms ma (if r.1 = 0 then vp_updL fo 0 (r.2.1).toInt64 else fo) fd ++ w_pool E (h 19) hp pl po pa) H locs := hW
  refine lv_topi (fun z6 e6 => ?_)
  refine lv_istore (lv' := [(6, .int z6), (0, .ref b), (1, .ref (h 0)), (2, .ref (g 0)), (3, .ref o), (4, .ref od), (5, .int (nI i))]) hx hb dL_law_1890 hl (by decide) rfl (fun ls hl => ?_)
  refine lv_aload_n hx hb dL_law_1892 rfl (lv_at hl 3 rfl) ?_
  refine lv_aload_n hx hb dL_law_1893 rfl (lv_at hl 1 rfl) ?_
  refine lv_iload hx hb dL_law_1894 (lv_at hl 6 rfl) ?_
  refine lv_iconst (v := 1) hx hb dL_law_1896 (by decide) ?_
  refine lv_iadd hx hb dL_law_1897 ?_
  refine va_sld hx hb hX hbl hbA hW.2.2 i1 dL_law_1898 ?_
  refine lv_topi (fun y1 ey1 => ?_)
  obtain rfl : x1 = y1 := ex1.trans ey1.symm
  refine lv_aload_n hx hb dL_law_1899 rfl (lv_at hl 1 rfl) ?_
  refine lv_iload hx hb dL_law_1900 (lv_at hl 6 rfl) ?_
  refine lv_iconst (v := 2) hx hb dL_law_1902 (by decide) ?_
  refine lv_iadd hx hb dL_law_1903 ?_
  refine va_sld hx hb hX hbl hbA hW.2.2 i2 dL_law_1904 ?_
  refine lv_topi (fun y2 ey2 => ?_)
  obtain rfl : x2 = y2 := ex2.trans ey2.symm
  refine q_callIm hF hl.1 hK hA hZ hW mv_X8_planToCell ml_L_271 (c_X8_planToCell l D E TXL (g 0) (g 1) (g 2) (g 3) (g 4) (g 5) (g 6) (g 7) (g 8) (g 9) (g 10) (g 11) (g 12) (g 13) (g 14) (g 15) (g 16) (g 17) (g 18) (g 19) (ms 0) (ms 1) (ms 2) (ms 3) (ms 4) (ms 5) (ms 6) (ms 7) (ms 8) (ms 9) (ms 10) (ms 11) (ma 0) (ma 12) (ma 3) (ma 4) (ma 5) (ma 6) (ma 7) (ma 8) (ma 9) (ma 10) x1 x2 q.1 q.2.1 q.2.2.1 q.2.2.2.1 q.2.2.2.2.1 q.2.2.2.2.2.1 q.2.2.2.2.2.2.1 q.2.2.2.2.2.2.2.1 q.2.2.2.2.2.2.2.2.1 q.2.2.2.2.2.2.2.2.2.1 q.2.2.2.2.2.2.2.2.2.2.1 q.2.2.2.2.2.2.2.2.2.2.2.1 q.2.2.2.2.2.2.2.2.2.2.2.2.1 q.2.2.2.2.2.2.2.2.2.2.2.2.2.1 q.2.2.2.2.2.2.2.2.2.2.2.2.2.2 e8) [false, false, false, false, false, false, false, false, false, false, false, false, false, false, false, false, false, false, false, false, false, false, false, false, false, false, false, false, false, false, false, false, false, false, false, false, false, false, false, false, false, false, false, false, false, false, false, false, false, false, false, false, false, false, false, true, true, false, true, false, false, true, false, true, false, true, true, true, true, true, true] (Nat.le_of_ble_eq_true rfl) rfl rfl rfl rfl rfl ⟨Nat.le_of_ble_eq_true rfl, Nat.le_of_ble_eq_true rfl⟩ hc rfl rfl (Nat.le_of_ble_eq_true rfl) dL_law_1905 (fun H locs hW => ?_)
  have hW : WD D A s (w_LAW E h g o od (va_up (va_up (va_up (va_up (va_up (va_up (va_up (va_up (va_up (va_up (va_up (va_up ss 2 r.2.2.1) 3 r.2.2.2.1) 4 r.2.2.2.2.1) 5 r.2.2.2.2.2.1) 18 r.2.2.2.2.2.2.2.2.2.2.2.1) 19 r.2.2.2.2.2.2.2.2.2.2.2.2.1) 20 r.2.2.2.2.2.2.2.2.2.2.2.2.2.1) 21 r.2.2.2.2.2.2.2.2.2.2.2.2.2.2.1) 6 r.2.2.2.2.2.2.2.2.2.2.2.2.2.2.2.2.2.2.2.2.1) 7 r.2.2.2.2.2.2.2.2.2.2.2.2.2.2.2.2.2.2.2.2.2.1) 8 r.2.2.2.2.2.2.2.2.2.2.2.2.2.2.2.2.2.2.2.2.2.2.1) 9 r.2.2.2.2.2.2.2.2.2.2.2.2.2.2.2.2.2.2.2.2.2.2.2.1) (va_up (va_up (va_up (va_up (va_up (va_up (va_up (va_up (va_up (va_up (va_up aa 12 r.2.2.2.2.2.2.1) 13 r.2.2.2.2.2.2.2.1) 14 r.2.2.2.2.2.2.2.2.1) 20 r.2.2.2.2.2.2.2.2.2.1) 21 r.2.2.2.2.2.2.2.2.2.2.1) 15 r.2.2.2.2.2.2.2.2.2.2.2.2.2.2.2.1) 16 r.2.2.2.2.2.2.2.2.2.2.2.2.2.2.2.2.1) 17 r.2.2.2.2.2.2.2.2.2.2.2.2.2.2.2.2.2.1) 18 r.2.2.2.2.2.2.2.2.2.2.2.2.2.2.2.2.2.2.1) 19 r.2.2.2.2.2.2.2.2.2.2.2.2.2.2.2.2.2.2.2.1) 23 r.2.2.2.2.2.2.2.2.2.2.2.2.2.2.2.2.2.2.2.2.2.2.2.2) (va_up (va_up (va_up (va_up (va_up ms 2 q.2.1) 3 q.2.2.1) 4 q.2.2.2.1) 5 q.2.2.2.2.1) 6 q.2.2.2.2.2.1) (va_up (va_up (va_up (va_up (va_up (va_up (va_up (va_up (va_up ma 12 q.2.2.2.2.2.2.1) 3 q.2.2.2.2.2.2.2.1) 4 q.2.2.2.2.2.2.2.2.1) 5 q.2.2.2.2.2.2.2.2.2.1) 6 q.2.2.2.2.2.2.2.2.2.2.1) 7 q.2.2.2.2.2.2.2.2.2.2.2.1) 8 q.2.2.2.2.2.2.2.2.2.2.2.2.1) 9 q.2.2.2.2.2.2.2.2.2.2.2.2.2.1) 10 q.2.2.2.2.2.2.2.2.2.2.2.2.2.2) (if r.1 = 0 then vp_updL fo 0 (r.2.1).toInt64 else fo) fd ++ w_pool E (h 19) hp pl po pa) H locs := hW
  refine lv_topi (fun z7 e7_ => ?_)
  refine lv_istore (lv' := [(7, .int z7), (6, .int z6), (0, .ref b), (1, .ref (h 0)), (2, .ref (g 0)), (3, .ref o), (4, .ref od), (5, .int (nI i))]) hx hb dL_law_1908 hl (by decide) rfl (fun ls hl => ?_)
  refine lv_aload_n hx hb dL_law_1910 rfl (lv_at hl 4 rfl) ?_
  refine q_callIm hF hl.1 hK hA hZ hW mv_X8_thrown ml_L_168 (c_X8_thrown l D E TXL (g 0) (g 1) (g 2) (g 3) (g 4) (g 5) (g 6) (g 7) (g 8) (g 9) (g 10) (g 11) (g 12) (g 13) (g 14) (g 15) (g 16) (g 17) (g 18) (g 19) (ms 0) (ms 1) q.2.1 q.2.2.1 q.2.2.2.1 q.2.2.2.2.1 q.2.2.2.2.2.1 (ms 7) (ms 8) (ms 9) (ms 10) (ms 11) q.2.2.2.1 rfl) [false, false, false, false, false, false, false, false, false, false, false, false, false, false, false, false, false, false, false, false, false, false, false, false, false, false, false, false, false, false, false, false, false, false, false, false, false, false, false, false, false, false, false, false, false, false, false, false, false, false, false, false, false, false, false, true] (Nat.le_of_ble_eq_true rfl) rfl rfl rfl rfl rfl ⟨Nat.le_of_ble_eq_true rfl, Nat.le_of_ble_eq_true rfl⟩ hc rfl rfl (Nat.le_of_ble_eq_true rfl) dL_law_1911 (fun H locs hW => ?_)
  have hW : WD D A s (w_LAW E h g o od (va_up (va_up (va_up (va_up (va_up (va_up (va_up (va_up (va_up (va_up (va_up (va_up ss 2 r.2.2.1) 3 r.2.2.2.1) 4 r.2.2.2.2.1) 5 r.2.2.2.2.2.1) 18 r.2.2.2.2.2.2.2.2.2.2.2.1) 19 r.2.2.2.2.2.2.2.2.2.2.2.2.1) 20 r.2.2.2.2.2.2.2.2.2.2.2.2.2.1) 21 r.2.2.2.2.2.2.2.2.2.2.2.2.2.2.1) 6 r.2.2.2.2.2.2.2.2.2.2.2.2.2.2.2.2.2.2.2.2.1) 7 r.2.2.2.2.2.2.2.2.2.2.2.2.2.2.2.2.2.2.2.2.2.1) 8 r.2.2.2.2.2.2.2.2.2.2.2.2.2.2.2.2.2.2.2.2.2.2.1) 9 r.2.2.2.2.2.2.2.2.2.2.2.2.2.2.2.2.2.2.2.2.2.2.2.1) (va_up (va_up (va_up (va_up (va_up (va_up (va_up (va_up (va_up (va_up (va_up aa 12 r.2.2.2.2.2.2.1) 13 r.2.2.2.2.2.2.2.1) 14 r.2.2.2.2.2.2.2.2.1) 20 r.2.2.2.2.2.2.2.2.2.1) 21 r.2.2.2.2.2.2.2.2.2.2.1) 15 r.2.2.2.2.2.2.2.2.2.2.2.2.2.2.2.1) 16 r.2.2.2.2.2.2.2.2.2.2.2.2.2.2.2.2.1) 17 r.2.2.2.2.2.2.2.2.2.2.2.2.2.2.2.2.2.1) 18 r.2.2.2.2.2.2.2.2.2.2.2.2.2.2.2.2.2.2.1) 19 r.2.2.2.2.2.2.2.2.2.2.2.2.2.2.2.2.2.2.2.1) 23 r.2.2.2.2.2.2.2.2.2.2.2.2.2.2.2.2.2.2.2.2.2.2.2.2) (va_up (va_up (va_up (va_up (va_up ms 2 q.2.1) 3 q.2.2.1) 4 q.2.2.2.1) 5 q.2.2.2.2.1) 6 q.2.2.2.2.2.1) (va_up (va_up (va_up (va_up (va_up (va_up (va_up (va_up (va_up ma 12 q.2.2.2.2.2.2.1) 3 q.2.2.2.2.2.2.2.1) 4 q.2.2.2.2.2.2.2.2.1) 5 q.2.2.2.2.2.2.2.2.2.1) 6 q.2.2.2.2.2.2.2.2.2.2.1) 7 q.2.2.2.2.2.2.2.2.2.2.2.1) 8 q.2.2.2.2.2.2.2.2.2.2.2.2.1) 9 q.2.2.2.2.2.2.2.2.2.2.2.2.2.1) 10 q.2.2.2.2.2.2.2.2.2.2.2.2.2.2) (if r.1 = 0 then vp_updL fo 0 (r.2.1).toInt64 else fo) fd ++ w_pool E (h 19) hp pl po pa) H locs := hW
  refine lv_iload hx hb dL_law_1914 (lv_at hl 1 rfl) ?_
  refine lv_icmp_eq (tgt := 1921) hx hb dL_law_1916 (by decide) (fun _ => ?_) (fun z => absurd (hth.trans e6.symm) z)
  refine lv_iload hx hb dL_law_1921 (lv_at hl 1 rfl) ?_
  have hend : ∀ (ls : Array Slot), lv_has ls 9 [(7, .int z7), (6, .int z6), (0, .ref b), (1, .ref (h 0)), (2, .ref (g 0)), (3, .ref o), (4, .ref od), (5, .int (nI i))] → W p l e room_1 s m #[.ref b] below meth c H locs (cells + 4) (slots + 24) Q (F0 m 1938 ls []) := fun ls hl => by
    refine lv_goto (tgt := 2740) hx hb dL_law_1938 (by decide) ?_
    exact kk _ _ _ ⟨_, _, _, _, _, _, _, _, _, hR1, hW⟩ (lv_sub hl [2, 3, 4, 5, 6, 7] rfl)
  refine lv_if_ne (tgt := 1938) hx hb dL_law_1923 (by decide) (fun _ => hend ls hl) (fun z9 => ?_)
  obtain ⟨hk0, hv⟩ := hans (e6.symm.trans z9)
  refine lv_aload_n hx hb dL_law_1926 rfl (lv_at hl 5 rfl) ?_
  refine lv_iconst (v := 0) hx hb dL_law_1927 (by decide) ?_
  refine va_lald hx hb hK hW.1 75 4 rfl rfl (by unfold vp_in; decide) dL_law_1928 ?_
  refine lv_topl (fun z8 e8_ => ?_)
  have e9 : z8 = (r.2.1).toInt64 := by
    rw [e8_, if_pos hk0]; rfl
  refine lv_iload hx hb dL_law_1929 (lv_at hl 0 rfl) ?_
  refine lv_i2l hx hb dL_law_1931 rfl ?_
  refine W.lcmp hx hb dL_law_1932 ?_
  refine lv_if_eq (tgt := 1938) hx hb dL_law_1933 (by decide) (fun _ => hend ls hl) (fun z => absurd ?_ z)
  rw [e9, hv, e7_]
  exact lg_cmp_self _
set_option maxHeartbeats 4000000 in
set_option maxRecDepth 100000 in
theorem k_32 {p : Program} {l : Launch} {e : Env} {s : State} {m : MethodId} {below : List Frame} {meth : Method} {c : Code} {D : va_G} {E : Nat → ClassId} {A : Nat → Prop} {b N i : Nat} {xs : Nat → Int32} {h g : Nat → Nat} {hp : Nat → Nat → Nat} {o od : Nat} {Q : State → Prop} {H : Heap} {locs : List Loc} {cells slots : Nat} {ls : Array Slot} (C : LCC p l s m c D E A b N xs) (hi : i + 4 ≤ N) (S : LSS D E A s h g hp o od H locs) (hl : lv_has ls 9 [(0, .ref b), (1, .ref (h 0)), (2, .ref (g 0)), (3, .ref o), (4, .ref od), (5, .int (nI i))]) (hc : cells + 4 ≤ room_1.cells ∧ slots + 24 ≤ room_1.slots) (kk : ∀ (H : Heap) (locs : List Loc) (ls : Array Slot), LSS D E A s h g hp o od H locs → lv_has ls 9 [(0, .ref b), (1, .ref (h 0)), (2, .ref (g 0)), (3, .ref o), (4, .ref od), (5, .int (nI i))] → W p l e room_1 s m #[.ref b] below meth c H locs (cells + 4) (slots + 24) Q (F0 m 2740 ls [])) : W p l e room_1 s m #[.ref b] below meth c H locs cells slots Q (F0 m 1941 ls []) := by
  obtain ⟨hF, hlt, hK, hA, hZ, hN, hX, hbl, hbA, hN9⟩ := C
  obtain ⟨ss, aa, pl, po, pa, ms, ma, fo, fd, hR, hW⟩ := S
  obtain ⟨i0, i1, i2, i3⟩ := ix_ok hi hN9
  have hx := hF.1
  have hb := hF.2.1
  refine lv_aload_n hx hb dL_law_1941 rfl (lv_at hl 1 rfl) ?_
  refine lv_aload_n hx hb dL_law_1942 rfl (lv_at hl 0 rfl) ?_
  refine lv_iload hx hb dL_law_1943 (lv_at hl 5 rfl) ?_
  refine lv_iconst (v := 1) hx hb dL_law_1945 (by decide) ?_
  refine lv_iadd hx hb dL_law_1946 ?_
  refine va_sld hx hb hX hbl hbA hW.2.2 i1 dL_law_1947 ?_
  refine lv_topi (fun x1 ex1 => ?_)
  refine lv_aload_n hx hb dL_law_1948 rfl (lv_at hl 0 rfl) ?_
  refine lv_iload hx hb dL_law_1949 (lv_at hl 5 rfl) ?_
  refine lv_iconst (v := 2) hx hb dL_law_1951 (by decide) ?_
  refine lv_iadd hx hb dL_law_1952 ?_
  refine va_sld hx hb hX hbl hbA hW.2.2 i2 dL_law_1953 ?_
  refine lv_topi (fun x2 ex2 => ?_)
  refine lv_aload_n hx hb dL_law_1954 rfl (lv_at hl 3 rfl) ?_
  obtain ⟨r, e7, q, e8, hM, hR1⟩ := call_planSmooth hR x1 x2
  have hk : r.1 = 0 ∨ r.1 = 3 ∨ r.1 = 2 ∨ r.1 = 4 := by
    rcases hM with ⟨m1, m2, m3⟩ | ⟨m1, m2⟩ | ⟨m1, m2⟩ | ⟨m1, m2⟩
    · exact Or.inl m1
    · exact Or.inr (Or.inl m1)
    · exact Or.inr (Or.inr (Or.inl m1))
    · exact Or.inr (Or.inr (Or.inr (m1)))
  have hth : q.2.2.2.1 = (if r.1 = 3 then 1 else (if r.1 = 2 then 2 else (if r.1 = 4 then 3 else 0))) := by
    rcases hM with ⟨m1, m2, m3⟩ | ⟨m1, m2⟩ | ⟨m1, m2⟩ | ⟨m1, m2⟩
    · rw [m1, m2]; rfl
    · rw [m1, m2]; rfl
    · rw [m1, m2]; rfl
    · rw [m1, m2]; rfl
  have hans : ((if r.1 = 3 then 1 else (if r.1 = 2 then 2 else (if r.1 = 4 then 3 else 0))) : Int32) = 0 → r.1 = 0 ∧ r.2.1 = q.1 := by
    intro z9
    rcases hM with ⟨m1, m2, m3⟩ | ⟨m1, m2⟩ | ⟨m1, m2⟩ | ⟨m1, m2⟩
    · exact ⟨m1, m3⟩
    · exact absurd z9 (by rw [m1]; decide)
    · exact absurd z9 (by rw [m1]; decide)
    · exact absurd z9 (by rw [m1]; decide)
  refine q_LWm hF hl.1 hK hA hZ hN hW mW_planSmooth ml_L_272 (v_planSmooth l D E (h 0) o x1 x2 _ _ r.1 r.2.1 fo (c_X7_planSmooth l hlt D E (h 0) (h 1) (h 2) (h 3) (h 4) (h 5) (h 6) (h 7) (h 8) (h 9) (h 10) (h 11) (h 12) (h 13) (h 14) (h 15) (h 16) (h 17) (h 18) (h 20) (h 21) (h 22) (h 23) (h 24) (h 25) (h 26) (h 27) (h 33) (h 34) (h 35) (h 36) (h 28) (ss 0) (ss 1) (ss 10) (ss 11) (aa 1) (aa 2) (aa 3) (aa 4) (aa 0) (ss 2) (ss 3) (ss 4) (ss 5) (aa 12) (aa 13) (aa 14) (aa 20) (aa 21) (aa 24) (ss 18) (ss 19) (ss 20) (ss 21) (aa 15) (aa 16) (aa 17) (aa 18) (aa 19) (ss 6) (ss 7) (ss 8) (ss 9) (aa 23) x1 x2 r.1 r.2.1 r.2.2.1 r.2.2.2.1 r.2.2.2.2.1 r.2.2.2.2.2.1 r.2.2.2.2.2.2.1 r.2.2.2.2.2.2.2.1 r.2.2.2.2.2.2.2.2.1 r.2.2.2.2.2.2.2.2.2.1 r.2.2.2.2.2.2.2.2.2.2.1 r.2.2.2.2.2.2.2.2.2.2.2.1 r.2.2.2.2.2.2.2.2.2.2.2.2.1 r.2.2.2.2.2.2.2.2.2.2.2.2.2.1 r.2.2.2.2.2.2.2.2.2.2.2.2.2.2.1 r.2.2.2.2.2.2.2.2.2.2.2.2.2.2.2.1 r.2.2.2.2.2.2.2.2.2.2.2.2.2.2.2.2.1 r.2.2.2.2.2.2.2.2.2.2.2.2.2.2.2.2.2.1 r.2.2.2.2.2.2.2.2.2.2.2.2.2.2.2.2.2.2.1 r.2.2.2.2.2.2.2.2.2.2.2.2.2.2.2.2.2.2.2.1 r.2.2.2.2.2.2.2.2.2.2.2.2.2.2.2.2.2.2.2.2.1 r.2.2.2.2.2.2.2.2.2.2.2.2.2.2.2.2.2.2.2.2.2.1 r.2.2.2.2.2.2.2.2.2.2.2.2.2.2.2.2.2.2.2.2.2.2.1 r.2.2.2.2.2.2.2.2.2.2.2.2.2.2.2.2.2.2.2.2.2.2.2.1 r.2.2.2.2.2.2.2.2.2.2.2.2.2.2.2.2.2.2.2.2.2.2.2.2.1 r.2.2.2.2.2.2.2.2.2.2.2.2.2.2.2.2.2.2.2.2.2.2.2.2.2 e7) rfl rfl hk) [true, true, true, true, true, true, false, false, true, false, false, false, false, false, false, false, false, false, false, false, false, false, false, false, false, false, true, false, true, false, true, false, true, false, true, false, true, true, true, true, true, true, true, true, true, true, false, false, false, false, false, false, false, false, false, false, false, false, false, false, false, false, false, false, false, false, false, false, false, false, false, false, false, false, false, true] (Nat.le_of_ble_eq_true rfl) rfl rfl ⟨Nat.le_of_ble_eq_true rfl, Nat.le_of_ble_eq_true rfl⟩ ⟨Nat.le_trans (Nat.add_le_add_left (Nat.le_of_ble_eq_true rfl) cells) hc.1, Nat.le_trans (Nat.add_le_add_left (Nat.le_of_ble_eq_true rfl) slots) hc.2⟩ rfl rfl (Nat.le_of_ble_eq_true rfl) dL_law_1955 (fun H locs hW => ?_)
  refine W.widen (Nat.add_le_add_left (Nat.le_of_ble_eq_true rfl : 3 ≤ 4) cells) (Nat.add_le_add_left (Nat.le_of_ble_eq_true rfl : 18 ≤ 24) slots) ?_
  have hW : WD D A s (w_LAW E h g o od (va_up (va_up (va_up (va_up (va_up (va_up (va_up (va_up (va_up (va_up (va_up (va_up ss 2 r.2.2.1) 3 r.2.2.2.1) 4 r.2.2.2.2.1) 5 r.2.2.2.2.2.1) 18 r.2.2.2.2.2.2.2.2.2.2.2.2.1) 19 r.2.2.2.2.2.2.2.2.2.2.2.2.2.1) 20 r.2.2.2.2.2.2.2.2.2.2.2.2.2.2.1) 21 r.2.2.2.2.2.2.2.2.2.2.2.2.2.2.2.1) 6 r.2.2.2.2.2.2.2.2.2.2.2.2.2.2.2.2.2.2.2.2.2.1) 7 r.2.2.2.2.2.2.2.2.2.2.2.2.2.2.2.2.2.2.2.2.2.2.1) 8 r.2.2.2.2.2.2.2.2.2.2.2.2.2.2.2.2.2.2.2.2.2.2.2.1) 9 r.2.2.2.2.2.2.2.2.2.2.2.2.2.2.2.2.2.2.2.2.2.2.2.2.1) (va_up (va_up (va_up (va_up (va_up (va_up (va_up (va_up (va_up (va_up (va_up (va_up aa 12 r.2.2.2.2.2.2.1) 13 r.2.2.2.2.2.2.2.1) 14 r.2.2.2.2.2.2.2.2.1) 20 r.2.2.2.2.2.2.2.2.2.1) 21 r.2.2.2.2.2.2.2.2.2.2.1) 24 r.2.2.2.2.2.2.2.2.2.2.2.1) 15 r.2.2.2.2.2.2.2.2.2.2.2.2.2.2.2.2.1) 16 r.2.2.2.2.2.2.2.2.2.2.2.2.2.2.2.2.2.1) 17 r.2.2.2.2.2.2.2.2.2.2.2.2.2.2.2.2.2.2.1) 18 r.2.2.2.2.2.2.2.2.2.2.2.2.2.2.2.2.2.2.2.1) 19 r.2.2.2.2.2.2.2.2.2.2.2.2.2.2.2.2.2.2.2.2.1) 23 r.2.2.2.2.2.2.2.2.2.2.2.2.2.2.2.2.2.2.2.2.2.2.2.2.2) ms ma (if r.1 = 0 then vp_updL fo 0 (r.2.1).toInt64 else fo) fd ++ w_pool E (h 19) hp pl po pa) H locs := hW
  refine lv_topi (fun z6 e6 => ?_)
  refine lv_istore (lv' := [(6, .int z6), (0, .ref b), (1, .ref (h 0)), (2, .ref (g 0)), (3, .ref o), (4, .ref od), (5, .int (nI i))]) hx hb dL_law_1958 hl (by decide) rfl (fun ls hl => ?_)
  refine lv_aload_n hx hb dL_law_1960 rfl (lv_at hl 3 rfl) ?_
  refine lv_aload_n hx hb dL_law_1961 rfl (lv_at hl 1 rfl) ?_
  refine lv_iload hx hb dL_law_1962 (lv_at hl 6 rfl) ?_
  refine lv_iconst (v := 1) hx hb dL_law_1964 (by decide) ?_
  refine lv_iadd hx hb dL_law_1965 ?_
  refine va_sld hx hb hX hbl hbA hW.2.2 i1 dL_law_1966 ?_
  refine lv_topi (fun y1 ey1 => ?_)
  obtain rfl : x1 = y1 := ex1.trans ey1.symm
  refine lv_aload_n hx hb dL_law_1967 rfl (lv_at hl 1 rfl) ?_
  refine lv_iload hx hb dL_law_1968 (lv_at hl 6 rfl) ?_
  refine lv_iconst (v := 2) hx hb dL_law_1970 (by decide) ?_
  refine lv_iadd hx hb dL_law_1971 ?_
  refine va_sld hx hb hX hbl hbA hW.2.2 i2 dL_law_1972 ?_
  refine lv_topi (fun y2 ey2 => ?_)
  obtain rfl : x2 = y2 := ex2.trans ey2.symm
  refine q_callIm hF hl.1 hK hA hZ hW mv_X8_planSmooth ml_L_274 (c_X8_planSmooth l D E TXL (g 0) (g 1) (g 2) (g 3) (g 4) (g 5) (g 6) (g 7) (g 8) (g 9) (g 10) (g 11) (g 12) (g 13) (g 14) (g 15) (g 16) (g 17) (g 18) (g 19) (ms 0) (ms 1) (ms 2) (ms 3) (ms 4) (ms 5) (ms 6) (ms 7) (ms 8) (ms 9) (ms 10) (ms 11) (ma 0) (ma 12) (ma 3) (ma 4) (ma 5) (ma 6) (ma 7) (ma 8) (ma 9) (ma 10) (ma 13) x1 x2 q.1 q.2.1 q.2.2.1 q.2.2.2.1 q.2.2.2.2.1 q.2.2.2.2.2.1 q.2.2.2.2.2.2.1 q.2.2.2.2.2.2.2.1 q.2.2.2.2.2.2.2.2.1 q.2.2.2.2.2.2.2.2.2.1 q.2.2.2.2.2.2.2.2.2.2.1 q.2.2.2.2.2.2.2.2.2.2.2.1 q.2.2.2.2.2.2.2.2.2.2.2.2.1 q.2.2.2.2.2.2.2.2.2.2.2.2.2.1 q.2.2.2.2.2.2.2.2.2.2.2.2.2.2.1 q.2.2.2.2.2.2.2.2.2.2.2.2.2.2.2 e8) [false, false, false, false, false, false, false, false, false, false, false, false, false, false, false, false, false, false, false, false, false, false, false, false, false, false, false, false, false, false, false, false, false, false, false, false, false, false, false, false, false, false, false, false, false, false, false, false, false, false, false, false, false, false, false, true, true, false, true, false, false, true, false, true, false, true, true, true, true, true, true, false, true] (Nat.le_of_ble_eq_true rfl) rfl rfl rfl rfl rfl ⟨Nat.le_of_ble_eq_true rfl, Nat.le_of_ble_eq_true rfl⟩ hc rfl rfl (Nat.le_of_ble_eq_true rfl) dL_law_1973 (fun H locs hW => ?_)
  have hW : WD D A s (w_LAW E h g o od (va_up (va_up (va_up (va_up (va_up (va_up (va_up (va_up (va_up (va_up (va_up (va_up ss 2 r.2.2.1) 3 r.2.2.2.1) 4 r.2.2.2.2.1) 5 r.2.2.2.2.2.1) 18 r.2.2.2.2.2.2.2.2.2.2.2.2.1) 19 r.2.2.2.2.2.2.2.2.2.2.2.2.2.1) 20 r.2.2.2.2.2.2.2.2.2.2.2.2.2.2.1) 21 r.2.2.2.2.2.2.2.2.2.2.2.2.2.2.2.1) 6 r.2.2.2.2.2.2.2.2.2.2.2.2.2.2.2.2.2.2.2.2.2.1) 7 r.2.2.2.2.2.2.2.2.2.2.2.2.2.2.2.2.2.2.2.2.2.2.1) 8 r.2.2.2.2.2.2.2.2.2.2.2.2.2.2.2.2.2.2.2.2.2.2.2.1) 9 r.2.2.2.2.2.2.2.2.2.2.2.2.2.2.2.2.2.2.2.2.2.2.2.2.1) (va_up (va_up (va_up (va_up (va_up (va_up (va_up (va_up (va_up (va_up (va_up (va_up aa 12 r.2.2.2.2.2.2.1) 13 r.2.2.2.2.2.2.2.1) 14 r.2.2.2.2.2.2.2.2.1) 20 r.2.2.2.2.2.2.2.2.2.1) 21 r.2.2.2.2.2.2.2.2.2.2.1) 24 r.2.2.2.2.2.2.2.2.2.2.2.1) 15 r.2.2.2.2.2.2.2.2.2.2.2.2.2.2.2.2.1) 16 r.2.2.2.2.2.2.2.2.2.2.2.2.2.2.2.2.2.1) 17 r.2.2.2.2.2.2.2.2.2.2.2.2.2.2.2.2.2.2.1) 18 r.2.2.2.2.2.2.2.2.2.2.2.2.2.2.2.2.2.2.2.1) 19 r.2.2.2.2.2.2.2.2.2.2.2.2.2.2.2.2.2.2.2.2.1) 23 r.2.2.2.2.2.2.2.2.2.2.2.2.2.2.2.2.2.2.2.2.2.2.2.2.2) (va_up (va_up (va_up (va_up (va_up ms 2 q.2.1) 3 q.2.2.1) 4 q.2.2.2.1) 5 q.2.2.2.2.1) 6 q.2.2.2.2.2.1) (va_up (va_up (va_up (va_up (va_up (va_up (va_up (va_up (va_up (va_up ma 12 q.2.2.2.2.2.2.1) 3 q.2.2.2.2.2.2.2.1) 4 q.2.2.2.2.2.2.2.2.1) 5 q.2.2.2.2.2.2.2.2.2.1) 6 q.2.2.2.2.2.2.2.2.2.2.1) 7 q.2.2.2.2.2.2.2.2.2.2.2.1) 8 q.2.2.2.2.2.2.2.2.2.2.2.2.1) 9 q.2.2.2.2.2.2.2.2.2.2.2.2.2.1) 10 q.2.2.2.2.2.2.2.2.2.2.2.2.2.2.1) 13 q.2.2.2.2.2.2.2.2.2.2.2.2.2.2.2) (if r.1 = 0 then vp_updL fo 0 (r.2.1).toInt64 else fo) fd ++ w_pool E (h 19) hp pl po pa) H locs := hW
  refine lv_topi (fun z7 e7_ => ?_)
  refine lv_istore (lv' := [(7, .int z7), (6, .int z6), (0, .ref b), (1, .ref (h 0)), (2, .ref (g 0)), (3, .ref o), (4, .ref od), (5, .int (nI i))]) hx hb dL_law_1976 hl (by decide) rfl (fun ls hl => ?_)
  refine lv_aload_n hx hb dL_law_1978 rfl (lv_at hl 4 rfl) ?_
  refine q_callIm hF hl.1 hK hA hZ hW mv_X8_thrown ml_L_168 (c_X8_thrown l D E TXL (g 0) (g 1) (g 2) (g 3) (g 4) (g 5) (g 6) (g 7) (g 8) (g 9) (g 10) (g 11) (g 12) (g 13) (g 14) (g 15) (g 16) (g 17) (g 18) (g 19) (ms 0) (ms 1) q.2.1 q.2.2.1 q.2.2.2.1 q.2.2.2.2.1 q.2.2.2.2.2.1 (ms 7) (ms 8) (ms 9) (ms 10) (ms 11) q.2.2.2.1 rfl) [false, false, false, false, false, false, false, false, false, false, false, false, false, false, false, false, false, false, false, false, false, false, false, false, false, false, false, false, false, false, false, false, false, false, false, false, false, false, false, false, false, false, false, false, false, false, false, false, false, false, false, false, false, false, false, true] (Nat.le_of_ble_eq_true rfl) rfl rfl rfl rfl rfl ⟨Nat.le_of_ble_eq_true rfl, Nat.le_of_ble_eq_true rfl⟩ hc rfl rfl (Nat.le_of_ble_eq_true rfl) dL_law_1979 (fun H locs hW => ?_)
  have hW : WD D A s (w_LAW E h g o od (va_up (va_up (va_up (va_up (va_up (va_up (va_up (va_up (va_up (va_up (va_up (va_up ss 2 r.2.2.1) 3 r.2.2.2.1) 4 r.2.2.2.2.1) 5 r.2.2.2.2.2.1) 18 r.2.2.2.2.2.2.2.2.2.2.2.2.1) 19 r.2.2.2.2.2.2.2.2.2.2.2.2.2.1) 20 r.2.2.2.2.2.2.2.2.2.2.2.2.2.2.1) 21 r.2.2.2.2.2.2.2.2.2.2.2.2.2.2.2.1) 6 r.2.2.2.2.2.2.2.2.2.2.2.2.2.2.2.2.2.2.2.2.2.1) 7 r.2.2.2.2.2.2.2.2.2.2.2.2.2.2.2.2.2.2.2.2.2.2.1) 8 r.2.2.2.2.2.2.2.2.2.2.2.2.2.2.2.2.2.2.2.2.2.2.2.1) 9 r.2.2.2.2.2.2.2.2.2.2.2.2.2.2.2.2.2.2.2.2.2.2.2.2.1) (va_up (va_up (va_up (va_up (va_up (va_up (va_up (va_up (va_up (va_up (va_up (va_up aa 12 r.2.2.2.2.2.2.1) 13 r.2.2.2.2.2.2.2.1) 14 r.2.2.2.2.2.2.2.2.1) 20 r.2.2.2.2.2.2.2.2.2.1) 21 r.2.2.2.2.2.2.2.2.2.2.1) 24 r.2.2.2.2.2.2.2.2.2.2.2.1) 15 r.2.2.2.2.2.2.2.2.2.2.2.2.2.2.2.2.1) 16 r.2.2.2.2.2.2.2.2.2.2.2.2.2.2.2.2.2.1) 17 r.2.2.2.2.2.2.2.2.2.2.2.2.2.2.2.2.2.2.1) 18 r.2.2.2.2.2.2.2.2.2.2.2.2.2.2.2.2.2.2.2.1) 19 r.2.2.2.2.2.2.2.2.2.2.2.2.2.2.2.2.2.2.2.2.1) 23 r.2.2.2.2.2.2.2.2.2.2.2.2.2.2.2.2.2.2.2.2.2.2.2.2.2) (va_up (va_up (va_up (va_up (va_up ms 2 q.2.1) 3 q.2.2.1) 4 q.2.2.2.1) 5 q.2.2.2.2.1) 6 q.2.2.2.2.2.1) (va_up (va_up (va_up (va_up (va_up (va_up (va_up (va_up (va_up (va_up ma 12 q.2.2.2.2.2.2.1) 3 q.2.2.2.2.2.2.2.1) 4 q.2.2.2.2.2.2.2.2.1) 5 q.2.2.2.2.2.2.2.2.2.1) 6 q.2.2.2.2.2.2.2.2.2.2.1) 7 q.2.2.2.2.2.2.2.2.2.2.2.1) 8 q.2.2.2.2.2.2.2.2.2.2.2.2.1) 9 q.2.2.2.2.2.2.2.2.2.2.2.2.2.1) 10 q.2.2.2.2.2.2.2.2.2.2.2.2.2.2.1) 13 q.2.2.2.2.2.2.2.2.2.2.2.2.2.2.2) (if r.1 = 0 then vp_updL fo 0 (r.2.1).toInt64 else fo) fd ++ w_pool E (h 19) hp pl po pa) H locs := hW
  refine lv_iload hx hb dL_law_1982 (lv_at hl 1 rfl) ?_
  refine lv_icmp_eq (tgt := 1989) hx hb dL_law_1984 (by decide) (fun _ => ?_) (fun z => absurd (hth.trans e6.symm) z)
  refine lv_iload hx hb dL_law_1989 (lv_at hl 1 rfl) ?_
  have hend : ∀ (ls : Array Slot), lv_has ls 9 [(7, .int z7), (6, .int z6), (0, .ref b), (1, .ref (h 0)), (2, .ref (g 0)), (3, .ref o), (4, .ref od), (5, .int (nI i))] → W p l e room_1 s m #[.ref b] below meth c H locs (cells + 4) (slots + 24) Q (F0 m 2006 ls []) := fun ls hl => by
    refine lv_goto (tgt := 2740) hx hb dL_law_2006 (by decide) ?_
    exact kk _ _ _ ⟨_, _, _, _, _, _, _, _, _, hR1, hW⟩ (lv_sub hl [2, 3, 4, 5, 6, 7] rfl)
  refine lv_if_ne (tgt := 2006) hx hb dL_law_1991 (by decide) (fun _ => hend ls hl) (fun z9 => ?_)
  obtain ⟨hk0, hv⟩ := hans (e6.symm.trans z9)
  refine lv_aload_n hx hb dL_law_1994 rfl (lv_at hl 5 rfl) ?_
  refine lv_iconst (v := 0) hx hb dL_law_1995 (by decide) ?_
  refine va_lald hx hb hK hW.1 75 4 rfl rfl (by unfold vp_in; decide) dL_law_1996 ?_
  refine lv_topl (fun z8 e8_ => ?_)
  have e9 : z8 = (r.2.1).toInt64 := by
    rw [e8_, if_pos hk0]; rfl
  refine lv_iload hx hb dL_law_1997 (lv_at hl 0 rfl) ?_
  refine lv_i2l hx hb dL_law_1999 rfl ?_
  refine W.lcmp hx hb dL_law_2000 ?_
  refine lv_if_eq (tgt := 2006) hx hb dL_law_2001 (by decide) (fun _ => hend ls hl) (fun z => absurd ?_ z)
  rw [e9, hv, e7_]
  exact lg_cmp_self _
set_option maxHeartbeats 4000000 in
set_option maxRecDepth 100000 in
theorem k_33 {p : Program} {l : Launch} {e : Env} {s : State} {m : MethodId} {below : List Frame} {meth : Method} {c : Code} {D : va_G} {E : Nat → ClassId} {A : Nat → Prop} {b N i : Nat} {xs : Nat → Int32} {h g : Nat → Nat} {hp : Nat → Nat → Nat} {o od : Nat} {Q : State → Prop} {H : Heap} {locs : List Loc} {cells slots : Nat} {ls : Array Slot} (C : LCC p l s m c D E A b N xs) (hi : i + 4 ≤ N) (S : LSS D E A s h g hp o od H locs) (hl : lv_has ls 9 [(0, .ref b), (1, .ref (h 0)), (2, .ref (g 0)), (3, .ref o), (4, .ref od), (5, .int (nI i))]) (hc : cells + 4 ≤ room_1.cells ∧ slots + 24 ≤ room_1.slots) (kk : ∀ (H : Heap) (locs : List Loc) (ls : Array Slot), LSS D E A s h g hp o od H locs → lv_has ls 9 [(0, .ref b), (1, .ref (h 0)), (2, .ref (g 0)), (3, .ref o), (4, .ref od), (5, .int (nI i))] → W p l e room_1 s m #[.ref b] below meth c H locs (cells + 4) (slots + 24) Q (F0 m 2740 ls [])) : W p l e room_1 s m #[.ref b] below meth c H locs cells slots Q (F0 m 2009 ls []) := by
  obtain ⟨hF, hlt, hK, hA, hZ, hN, hX, hbl, hbA, hN9⟩ := C
  obtain ⟨ss, aa, pl, po, pa, ms, ma, fo, fd, hR, hW⟩ := S
  obtain ⟨i0, i1, i2, i3⟩ := ix_ok hi hN9
  have hx := hF.1
  have hb := hF.2.1
  refine lv_aload_n hx hb dL_law_2009 rfl (lv_at hl 1 rfl) ?_
  refine lv_aload_n hx hb dL_law_2010 rfl (lv_at hl 0 rfl) ?_
  refine lv_iload hx hb dL_law_2011 (lv_at hl 5 rfl) ?_
  refine lv_iconst (v := 1) hx hb dL_law_2013 (by decide) ?_
  refine lv_iadd hx hb dL_law_2014 ?_
  refine va_sld hx hb hX hbl hbA hW.2.2 i1 dL_law_2015 ?_
  refine lv_topi (fun x1 ex1 => ?_)
  refine lv_aload_n hx hb dL_law_2016 rfl (lv_at hl 0 rfl) ?_
  refine lv_iload hx hb dL_law_2017 (lv_at hl 5 rfl) ?_
  refine lv_iconst (v := 2) hx hb dL_law_2019 (by decide) ?_
  refine lv_iadd hx hb dL_law_2020 ?_
  refine va_sld hx hb hX hbl hbA hW.2.2 i2 dL_law_2021 ?_
  refine lv_topi (fun x2 ex2 => ?_)
  refine lv_aload_n hx hb dL_law_2022 rfl (lv_at hl 3 rfl) ?_
  obtain ⟨r, e7, q, e8, hM, hR1⟩ := call_planNear hR x1 x2
  have hk : r.1 = 0 ∨ r.1 = 3 ∨ r.1 = 2 ∨ r.1 = 4 := by
    rcases hM with ⟨m1, m2, m3⟩ | ⟨m1, m2⟩ | ⟨m1, m2⟩ | ⟨m1, m2⟩
    · exact Or.inl m1
    · exact Or.inr (Or.inl m1)
    · exact Or.inr (Or.inr (Or.inl m1))
    · exact Or.inr (Or.inr (Or.inr (m1)))
  have hth : q.2.2.2.1 = (if r.1 = 3 then 1 else (if r.1 = 2 then 2 else (if r.1 = 4 then 3 else 0))) := by
    rcases hM with ⟨m1, m2, m3⟩ | ⟨m1, m2⟩ | ⟨m1, m2⟩ | ⟨m1, m2⟩
    · rw [m1, m2]; rfl
    · rw [m1, m2]; rfl
    · rw [m1, m2]; rfl
    · rw [m1, m2]; rfl
  have hans : ((if r.1 = 3 then 1 else (if r.1 = 2 then 2 else (if r.1 = 4 then 3 else 0))) : Int32) = 0 → r.1 = 0 ∧ r.2.1 = q.1 := by
    intro z9
    rcases hM with ⟨m1, m2, m3⟩ | ⟨m1, m2⟩ | ⟨m1, m2⟩ | ⟨m1, m2⟩
    · exact ⟨m1, m3⟩
    · exact absurd z9 (by rw [m1]; decide)
    · exact absurd z9 (by rw [m1]; decide)
    · exact absurd z9 (by rw [m1]; decide)
  refine q_LWm hF hl.1 hK hA hZ hN hW mW_planNear ml_L_275 (v_planNear l D E (h 0) o x1 x2 _ _ r.1 r.2.1 fo (c_X7_planNear l hlt D E (h 0) (h 1) (h 2) (h 3) (h 4) (h 5) (h 6) (h 7) (h 8) (h 9) (h 10) (h 11) (h 12) (h 13) (h 14) (h 15) (h 16) (h 17) (h 18) (h 20) (h 21) (h 22) (h 23) (h 24) (h 25) (h 26) (h 27) (h 33) (h 34) (h 35) (h 36) (h 28) (ss 0) (ss 1) (ss 10) (ss 11) (aa 1) (aa 2) (aa 3) (aa 4) (aa 0) (ss 2) (ss 3) (ss 4) (ss 5) (aa 12) (aa 13) (aa 14) (aa 20) (aa 21) (ss 18) (ss 19) (ss 20) (ss 21) (aa 15) (aa 16) (aa 17) (aa 18) (aa 19) (ss 6) (ss 7) (ss 8) (ss 9) (aa 23) x1 x2 r.1 r.2.1 r.2.2.1 r.2.2.2.1 r.2.2.2.2.1 r.2.2.2.2.2.1 r.2.2.2.2.2.2.1 r.2.2.2.2.2.2.2.1 r.2.2.2.2.2.2.2.2.1 r.2.2.2.2.2.2.2.2.2.1 r.2.2.2.2.2.2.2.2.2.2.1 r.2.2.2.2.2.2.2.2.2.2.2.1 r.2.2.2.2.2.2.2.2.2.2.2.2.1 r.2.2.2.2.2.2.2.2.2.2.2.2.2.1 r.2.2.2.2.2.2.2.2.2.2.2.2.2.2.1 r.2.2.2.2.2.2.2.2.2.2.2.2.2.2.2.1 r.2.2.2.2.2.2.2.2.2.2.2.2.2.2.2.2.1 r.2.2.2.2.2.2.2.2.2.2.2.2.2.2.2.2.2.1 r.2.2.2.2.2.2.2.2.2.2.2.2.2.2.2.2.2.2.1 r.2.2.2.2.2.2.2.2.2.2.2.2.2.2.2.2.2.2.2.1 r.2.2.2.2.2.2.2.2.2.2.2.2.2.2.2.2.2.2.2.2.1 r.2.2.2.2.2.2.2.2.2.2.2.2.2.2.2.2.2.2.2.2.2.1 r.2.2.2.2.2.2.2.2.2.2.2.2.2.2.2.2.2.2.2.2.2.2.1 r.2.2.2.2.2.2.2.2.2.2.2.2.2.2.2.2.2.2.2.2.2.2.2.1 r.2.2.2.2.2.2.2.2.2.2.2.2.2.2.2.2.2.2.2.2.2.2.2.2 e7) rfl rfl hk) [true, true, true, true, true, true, false, false, true, false, false, false, false, false, false, false, false, false, false, false, false, false, false, false, false, false, true, false, true, false, true, false, true, false, true, false, true, false, true, true, true, true, true, true, true, true, false, false, false, false, false, false, false, false, false, false, false, false, false, false, false, false, false, false, false, false, false, false, false, false, false, false, false, false, false, true] (Nat.le_of_ble_eq_true rfl) rfl rfl ⟨Nat.le_of_ble_eq_true rfl, Nat.le_of_ble_eq_true rfl⟩ ⟨Nat.le_trans (Nat.add_le_add_left (Nat.le_of_ble_eq_true rfl) cells) hc.1, Nat.le_trans (Nat.add_le_add_left (Nat.le_of_ble_eq_true rfl) slots) hc.2⟩ rfl rfl (Nat.le_of_ble_eq_true rfl) dL_law_2023 (fun H locs hW => ?_)
  refine W.widen (Nat.add_le_add_left (Nat.le_of_ble_eq_true rfl : 4 ≤ 4) cells) (Nat.add_le_add_left (Nat.le_of_ble_eq_true rfl : 24 ≤ 24) slots) ?_
  have hW : WD D A s (w_LAW E h g o od (va_up (va_up (va_up (va_up (va_up (va_up (va_up (va_up (va_up (va_up (va_up (va_up ss 2 r.2.2.1) 3 r.2.2.2.1) 4 r.2.2.2.2.1) 5 r.2.2.2.2.2.1) 18 r.2.2.2.2.2.2.2.2.2.2.2.1) 19 r.2.2.2.2.2.2.2.2.2.2.2.2.1) 20 r.2.2.2.2.2.2.2.2.2.2.2.2.2.1) 21 r.2.2.2.2.2.2.2.2.2.2.2.2.2.2.1) 6 r.2.2.2.2.2.2.2.2.2.2.2.2.2.2.2.2.2.2.2.2.1) 7 r.2.2.2.2.2.2.2.2.2.2.2.2.2.2.2.2.2.2.2.2.2.1) 8 r.2.2.2.2.2.2.2.2.2.2.2.2.2.2.2.2.2.2.2.2.2.2.1) 9 r.2.2.2.2.2.2.2.2.2.2.2.2.2.2.2.2.2.2.2.2.2.2.2.1) (va_up (va_up (va_up (va_up (va_up (va_up (va_up (va_up (va_up (va_up (va_up aa 12 r.2.2.2.2.2.2.1) 13 r.2.2.2.2.2.2.2.1) 14 r.2.2.2.2.2.2.2.2.1) 20 r.2.2.2.2.2.2.2.2.2.1) 21 r.2.2.2.2.2.2.2.2.2.2.1) 15 r.2.2.2.2.2.2.2.2.2.2.2.2.2.2.2.1) 16 r.2.2.2.2.2.2.2.2.2.2.2.2.2.2.2.2.1) 17 r.2.2.2.2.2.2.2.2.2.2.2.2.2.2.2.2.2.1) 18 r.2.2.2.2.2.2.2.2.2.2.2.2.2.2.2.2.2.2.1) 19 r.2.2.2.2.2.2.2.2.2.2.2.2.2.2.2.2.2.2.2.1) 23 r.2.2.2.2.2.2.2.2.2.2.2.2.2.2.2.2.2.2.2.2.2.2.2.2) ms ma (if r.1 = 0 then vp_updL fo 0 (r.2.1).toInt64 else fo) fd ++ w_pool E (h 19) hp pl po pa) H locs := hW
  refine lv_topi (fun z6 e6 => ?_)
  refine lv_istore (lv' := [(6, .int z6), (0, .ref b), (1, .ref (h 0)), (2, .ref (g 0)), (3, .ref o), (4, .ref od), (5, .int (nI i))]) hx hb dL_law_2026 hl (by decide) rfl (fun ls hl => ?_)
  refine lv_aload_n hx hb dL_law_2028 rfl (lv_at hl 3 rfl) ?_
  refine lv_aload_n hx hb dL_law_2029 rfl (lv_at hl 1 rfl) ?_
  refine lv_iload hx hb dL_law_2030 (lv_at hl 6 rfl) ?_
  refine lv_iconst (v := 1) hx hb dL_law_2032 (by decide) ?_
  refine lv_iadd hx hb dL_law_2033 ?_
  refine va_sld hx hb hX hbl hbA hW.2.2 i1 dL_law_2034 ?_
  refine lv_topi (fun y1 ey1 => ?_)
  obtain rfl : x1 = y1 := ex1.trans ey1.symm
  refine lv_aload_n hx hb dL_law_2035 rfl (lv_at hl 1 rfl) ?_
  refine lv_iload hx hb dL_law_2036 (lv_at hl 6 rfl) ?_
  refine lv_iconst (v := 2) hx hb dL_law_2038 (by decide) ?_
  refine lv_iadd hx hb dL_law_2039 ?_
  refine va_sld hx hb hX hbl hbA hW.2.2 i2 dL_law_2040 ?_
  refine lv_topi (fun y2 ey2 => ?_)
  obtain rfl : x2 = y2 := ex2.trans ey2.symm
  refine q_callIm hF hl.1 hK hA hZ hW mv_X8_planNear ml_L_277 (c_X8_planNear l D E TXL (g 0) (g 1) (g 2) (g 3) (g 4) (g 5) (g 6) (g 7) (g 8) (g 9) (g 10) (g 11) (g 12) (g 13) (g 14) (g 15) (g 16) (g 17) (g 18) (g 19) (ms 0) (ms 1) (ms 2) (ms 3) (ms 4) (ms 5) (ms 6) (ms 7) (ms 8) (ms 9) (ms 10) (ms 11) (ma 0) (ma 12) (ma 3) (ma 4) (ma 5) (ma 6) (ma 7) (ma 8) (ma 9) (ma 10) x1 x2 q.1 q.2.1 q.2.2.1 q.2.2.2.1 q.2.2.2.2.1 q.2.2.2.2.2.1 q.2.2.2.2.2.2.1 q.2.2.2.2.2.2.2.1 q.2.2.2.2.2.2.2.2.1 q.2.2.2.2.2.2.2.2.2.1 q.2.2.2.2.2.2.2.2.2.2.1 q.2.2.2.2.2.2.2.2.2.2.2.1 q.2.2.2.2.2.2.2.2.2.2.2.2.1 q.2.2.2.2.2.2.2.2.2.2.2.2.2.1 q.2.2.2.2.2.2.2.2.2.2.2.2.2.2 e8) [false, false, false, false, false, false, false, false, false, false, false, false, false, false, false, false, false, false, false, false, false, false, false, false, false, false, false, false, false, false, false, false, false, false, false, false, false, false, false, false, false, false, false, false, false, false, false, false, false, false, false, false, false, false, false, true, true, false, true, false, false, true, false, true, false, true, true, true, true, true, true] (Nat.le_of_ble_eq_true rfl) rfl rfl rfl rfl rfl ⟨Nat.le_of_ble_eq_true rfl, Nat.le_of_ble_eq_true rfl⟩ hc rfl rfl (Nat.le_of_ble_eq_true rfl) dL_law_2041 (fun H locs hW => ?_)
  have hW : WD D A s (w_LAW E h g o od (va_up (va_up (va_up (va_up (va_up (va_up (va_up (va_up (va_up (va_up (va_up (va_up ss 2 r.2.2.1) 3 r.2.2.2.1) 4 r.2.2.2.2.1) 5 r.2.2.2.2.2.1) 18 r.2.2.2.2.2.2.2.2.2.2.2.1) 19 r.2.2.2.2.2.2.2.2.2.2.2.2.1) 20 r.2.2.2.2.2.2.2.2.2.2.2.2.2.1) 21 r.2.2.2.2.2.2.2.2.2.2.2.2.2.2.1) 6 r.2.2.2.2.2.2.2.2.2.2.2.2.2.2.2.2.2.2.2.2.1) 7 r.2.2.2.2.2.2.2.2.2.2.2.2.2.2.2.2.2.2.2.2.2.1) 8 r.2.2.2.2.2.2.2.2.2.2.2.2.2.2.2.2.2.2.2.2.2.2.1) 9 r.2.2.2.2.2.2.2.2.2.2.2.2.2.2.2.2.2.2.2.2.2.2.2.1) (va_up (va_up (va_up (va_up (va_up (va_up (va_up (va_up (va_up (va_up (va_up aa 12 r.2.2.2.2.2.2.1) 13 r.2.2.2.2.2.2.2.1) 14 r.2.2.2.2.2.2.2.2.1) 20 r.2.2.2.2.2.2.2.2.2.1) 21 r.2.2.2.2.2.2.2.2.2.2.1) 15 r.2.2.2.2.2.2.2.2.2.2.2.2.2.2.2.1) 16 r.2.2.2.2.2.2.2.2.2.2.2.2.2.2.2.2.1) 17 r.2.2.2.2.2.2.2.2.2.2.2.2.2.2.2.2.2.1) 18 r.2.2.2.2.2.2.2.2.2.2.2.2.2.2.2.2.2.2.1) 19 r.2.2.2.2.2.2.2.2.2.2.2.2.2.2.2.2.2.2.2.1) 23 r.2.2.2.2.2.2.2.2.2.2.2.2.2.2.2.2.2.2.2.2.2.2.2.2) (va_up (va_up (va_up (va_up (va_up ms 2 q.2.1) 3 q.2.2.1) 4 q.2.2.2.1) 5 q.2.2.2.2.1) 6 q.2.2.2.2.2.1) (va_up (va_up (va_up (va_up (va_up (va_up (va_up (va_up (va_up ma 12 q.2.2.2.2.2.2.1) 3 q.2.2.2.2.2.2.2.1) 4 q.2.2.2.2.2.2.2.2.1) 5 q.2.2.2.2.2.2.2.2.2.1) 6 q.2.2.2.2.2.2.2.2.2.2.1) 7 q.2.2.2.2.2.2.2.2.2.2.2.1) 8 q.2.2.2.2.2.2.2.2.2.2.2.2.1) 9 q.2.2.2.2.2.2.2.2.2.2.2.2.2.1) 10 q.2.2.2.2.2.2.2.2.2.2.2.2.2.2) (if r.1 = 0 then vp_updL fo 0 (r.2.1).toInt64 else fo) fd ++ w_pool E (h 19) hp pl po pa) H locs := hW
  refine lv_topi (fun z7 e7_ => ?_)
  refine lv_istore (lv' := [(7, .int z7), (6, .int z6), (0, .ref b), (1, .ref (h 0)), (2, .ref (g 0)), (3, .ref o), (4, .ref od), (5, .int (nI i))]) hx hb dL_law_2044 hl (by decide) rfl (fun ls hl => ?_)
  refine lv_aload_n hx hb dL_law_2046 rfl (lv_at hl 4 rfl) ?_
  refine q_callIm hF hl.1 hK hA hZ hW mv_X8_thrown ml_L_168 (c_X8_thrown l D E TXL (g 0) (g 1) (g 2) (g 3) (g 4) (g 5) (g 6) (g 7) (g 8) (g 9) (g 10) (g 11) (g 12) (g 13) (g 14) (g 15) (g 16) (g 17) (g 18) (g 19) (ms 0) (ms 1) q.2.1 q.2.2.1 q.2.2.2.1 q.2.2.2.2.1 q.2.2.2.2.2.1 (ms 7) (ms 8) (ms 9) (ms 10) (ms 11) q.2.2.2.1 rfl) [false, false, false, false, false, false, false, false, false, false, false, false, false, false, false, false, false, false, false, false, false, false, false, false, false, false, false, false, false, false, false, false, false, false, false, false, false, false, false, false, false, false, false, false, false, false, false, false, false, false, false, false, false, false, false, true] (Nat.le_of_ble_eq_true rfl) rfl rfl rfl rfl rfl ⟨Nat.le_of_ble_eq_true rfl, Nat.le_of_ble_eq_true rfl⟩ hc rfl rfl (Nat.le_of_ble_eq_true rfl) dL_law_2047 (fun H locs hW => ?_)
  have hW : WD D A s (w_LAW E h g o od (va_up (va_up (va_up (va_up (va_up (va_up (va_up (va_up (va_up (va_up (va_up (va_up ss 2 r.2.2.1) 3 r.2.2.2.1) 4 r.2.2.2.2.1) 5 r.2.2.2.2.2.1) 18 r.2.2.2.2.2.2.2.2.2.2.2.1) 19 r.2.2.2.2.2.2.2.2.2.2.2.2.1) 20 r.2.2.2.2.2.2.2.2.2.2.2.2.2.1) 21 r.2.2.2.2.2.2.2.2.2.2.2.2.2.2.1) 6 r.2.2.2.2.2.2.2.2.2.2.2.2.2.2.2.2.2.2.2.2.1) 7 r.2.2.2.2.2.2.2.2.2.2.2.2.2.2.2.2.2.2.2.2.2.1) 8 r.2.2.2.2.2.2.2.2.2.2.2.2.2.2.2.2.2.2.2.2.2.2.1) 9 r.2.2.2.2.2.2.2.2.2.2.2.2.2.2.2.2.2.2.2.2.2.2.2.1) (va_up (va_up (va_up (va_up (va_up (va_up (va_up (va_up (va_up (va_up (va_up aa 12 r.2.2.2.2.2.2.1) 13 r.2.2.2.2.2.2.2.1) 14 r.2.2.2.2.2.2.2.2.1) 20 r.2.2.2.2.2.2.2.2.2.1) 21 r.2.2.2.2.2.2.2.2.2.2.1) 15 r.2.2.2.2.2.2.2.2.2.2.2.2.2.2.2.1) 16 r.2.2.2.2.2.2.2.2.2.2.2.2.2.2.2.2.1) 17 r.2.2.2.2.2.2.2.2.2.2.2.2.2.2.2.2.2.1) 18 r.2.2.2.2.2.2.2.2.2.2.2.2.2.2.2.2.2.2.1) 19 r.2.2.2.2.2.2.2.2.2.2.2.2.2.2.2.2.2.2.2.1) 23 r.2.2.2.2.2.2.2.2.2.2.2.2.2.2.2.2.2.2.2.2.2.2.2.2) (va_up (va_up (va_up (va_up (va_up ms 2 q.2.1) 3 q.2.2.1) 4 q.2.2.2.1) 5 q.2.2.2.2.1) 6 q.2.2.2.2.2.1) (va_up (va_up (va_up (va_up (va_up (va_up (va_up (va_up (va_up ma 12 q.2.2.2.2.2.2.1) 3 q.2.2.2.2.2.2.2.1) 4 q.2.2.2.2.2.2.2.2.1) 5 q.2.2.2.2.2.2.2.2.2.1) 6 q.2.2.2.2.2.2.2.2.2.2.1) 7 q.2.2.2.2.2.2.2.2.2.2.2.1) 8 q.2.2.2.2.2.2.2.2.2.2.2.2.1) 9 q.2.2.2.2.2.2.2.2.2.2.2.2.2.1) 10 q.2.2.2.2.2.2.2.2.2.2.2.2.2.2) (if r.1 = 0 then vp_updL fo 0 (r.2.1).toInt64 else fo) fd ++ w_pool E (h 19) hp pl po pa) H locs := hW
  refine lv_iload hx hb dL_law_2050 (lv_at hl 1 rfl) ?_
  refine lv_icmp_eq (tgt := 2057) hx hb dL_law_2052 (by decide) (fun _ => ?_) (fun z => absurd (hth.trans e6.symm) z)
  refine lv_iload hx hb dL_law_2057 (lv_at hl 1 rfl) ?_
  have hend : ∀ (ls : Array Slot), lv_has ls 9 [(7, .int z7), (6, .int z6), (0, .ref b), (1, .ref (h 0)), (2, .ref (g 0)), (3, .ref o), (4, .ref od), (5, .int (nI i))] → W p l e room_1 s m #[.ref b] below meth c H locs (cells + 4) (slots + 24) Q (F0 m 2074 ls []) := fun ls hl => by
    refine lv_goto (tgt := 2740) hx hb dL_law_2074 (by decide) ?_
    exact kk _ _ _ ⟨_, _, _, _, _, _, _, _, _, hR1, hW⟩ (lv_sub hl [2, 3, 4, 5, 6, 7] rfl)
  refine lv_if_ne (tgt := 2074) hx hb dL_law_2059 (by decide) (fun _ => hend ls hl) (fun z9 => ?_)
  obtain ⟨hk0, hv⟩ := hans (e6.symm.trans z9)
  refine lv_aload_n hx hb dL_law_2062 rfl (lv_at hl 5 rfl) ?_
  refine lv_iconst (v := 0) hx hb dL_law_2063 (by decide) ?_
  refine va_lald hx hb hK hW.1 75 4 rfl rfl (by unfold vp_in; decide) dL_law_2064 ?_
  refine lv_topl (fun z8 e8_ => ?_)
  have e9 : z8 = (r.2.1).toInt64 := by
    rw [e8_, if_pos hk0]; rfl
  refine lv_iload hx hb dL_law_2065 (lv_at hl 0 rfl) ?_
  refine lv_i2l hx hb dL_law_2067 rfl ?_
  refine W.lcmp hx hb dL_law_2068 ?_
  refine lv_if_eq (tgt := 2074) hx hb dL_law_2069 (by decide) (fun _ => hend ls hl) (fun z => absurd ?_ z)
  rw [e9, hv, e7_]
  exact lg_cmp_self _
set_option maxHeartbeats 4000000 in
set_option maxRecDepth 100000 in
theorem k_34 {p : Program} {l : Launch} {e : Env} {s : State} {m : MethodId} {below : List Frame} {meth : Method} {c : Code} {D : va_G} {E : Nat → ClassId} {A : Nat → Prop} {b N i : Nat} {xs : Nat → Int32} {h g : Nat → Nat} {hp : Nat → Nat → Nat} {o od : Nat} {Q : State → Prop} {H : Heap} {locs : List Loc} {cells slots : Nat} {ls : Array Slot} (C : LCC p l s m c D E A b N xs) (hi : i + 4 ≤ N) (S : LSS D E A s h g hp o od H locs) (hl : lv_has ls 9 [(0, .ref b), (1, .ref (h 0)), (2, .ref (g 0)), (3, .ref o), (4, .ref od), (5, .int (nI i))]) (hc : cells + 4 ≤ room_1.cells ∧ slots + 24 ≤ room_1.slots) (kk : ∀ (H : Heap) (locs : List Loc) (ls : Array Slot), LSS D E A s h g hp o od H locs → lv_has ls 9 [(0, .ref b), (1, .ref (h 0)), (2, .ref (g 0)), (3, .ref o), (4, .ref od), (5, .int (nI i))] → W p l e room_1 s m #[.ref b] below meth c H locs (cells + 4) (slots + 24) Q (F0 m 2740 ls [])) : W p l e room_1 s m #[.ref b] below meth c H locs cells slots Q (F0 m 2077 ls []) := by
  obtain ⟨hF, hlt, hK, hA, hZ, hN, hX, hbl, hbA, hN9⟩ := C
  obtain ⟨ss, aa, pl, po, pa, ms, ma, fo, fd, hR, hW⟩ := S
  obtain ⟨i0, i1, i2, i3⟩ := ix_ok hi hN9
  have hx := hF.1
  have hb := hF.2.1
  refine lv_aload_n hx hb dL_law_2077 rfl (lv_at hl 1 rfl) ?_
  refine lv_aload_n hx hb dL_law_2078 rfl (lv_at hl 3 rfl) ?_
  obtain ⟨r, e7, q, e8, hM, hR1⟩ := call_pathLength hR
  have hk : r.1 = 0 ∨ r.1 = 4 := by
    rcases hM with ⟨m1, m2, m3⟩ | ⟨m1, m2⟩
    · exact Or.inl m1
    · exact Or.inr (m1)
  have hth : q.2 = (if r.1 = 4 then 1 else 0) := by
    rcases hM with ⟨m1, m2, m3⟩ | ⟨m1, m2⟩
    · rw [m1, m2]; rfl
    · rw [m1, m2]; rfl
  have hans : ((if r.1 = 4 then 1 else 0) : Int32) = 0 → r.1 = 0 ∧ r.2 = q.1 := by
    intro z9
    rcases hM with ⟨m1, m2, m3⟩ | ⟨m1, m2⟩
    · exact ⟨m1, m3⟩
    · exact absurd z9 (by rw [m1]; decide)
  refine q_LWm hF hl.1 hK hA hZ hN hW mW_pathLength ml_L_278 (v_pathLength l D E (h 0) o _ _ r.1 r.2 fo (c_X7_pathLength l hlt D E (h 0) (h 1) (h 2) (h 3) (h 4) (h 5) (h 6) (h 7) (h 8) (h 9) (h 10) (h 11) (h 28) (ss 0) (ss 1) (ss 6) (ss 7) (ss 8) (ss 9) r.1 r.2 e7) rfl rfl hk) [true, false, false, false, false, false, false, false, false, false, false, false, false, false, false, false, false, false, false, false, false, false, false, false, false, false, false, false, false, false, false, false, false, false, false, false, false, false, false, false, false, false, false, false, true, false, false, false, false, false, false, false, false, false, false, false, false, false, false, false, false, false, false, false, false, false, false, false, false, false, false, false, false, false, false, true] (Nat.le_of_ble_eq_true rfl) rfl rfl ⟨Nat.le_of_ble_eq_true rfl, Nat.le_of_ble_eq_true rfl⟩ ⟨Nat.le_trans (Nat.add_le_add_left (Nat.le_of_ble_eq_true rfl) cells) hc.1, Nat.le_trans (Nat.add_le_add_left (Nat.le_of_ble_eq_true rfl) slots) hc.2⟩ rfl rfl (Nat.le_of_ble_eq_true rfl) dL_law_2079 (fun H locs hW => ?_)
  refine W.widen (Nat.add_le_add_left (Nat.le_of_ble_eq_true rfl : 1 ≤ 4) cells) (Nat.add_le_add_left (Nat.le_of_ble_eq_true rfl : 6 ≤ 24) slots) ?_
  have hW : WD D A s (w_LAW E h g o od ss aa ms ma (if r.1 = 0 then vp_updL fo 0 (r.2).toInt64 else fo) fd ++ w_pool E (h 19) hp pl po pa) H locs := hW
  refine lv_topi (fun z6 e6 => ?_)
  refine lv_istore (lv' := [(6, .int z6), (0, .ref b), (1, .ref (h 0)), (2, .ref (g 0)), (3, .ref o), (4, .ref od), (5, .int (nI i))]) hx hb dL_law_2082 hl (by decide) rfl (fun ls hl => ?_)
  refine lv_aload_n hx hb dL_law_2084 rfl (lv_at hl 3 rfl) ?_
  refine q_callIm hF hl.1 hK hA hZ hW mv_X8_pathLength ml_L_280 (c_X8_pathLength l D E TXL (g 0) (g 1) (g 2) (g 3) (g 4) (g 5) (g 6) (g 7) (g 8) (g 9) (g 10) (g 11) (g 12) (g 13) (g 14) (g 15) (g 16) (g 17) (g 18) (g 19) (ms 0) (ms 1) (ms 2) (ms 3) (ms 4) (ms 5) (ms 6) (ms 7) (ms 8) (ms 9) (ms 10) (ms 11) q.1 q.2 e8) [false, false, false, false, false, false, false, false, false, false, false, false, false, false, false, false, false, false, false, false, false, false, false, false, false, false, false, false, false, false, false, false, false, false, false, false, false, false, false, false, false, false, false, false, false, false, false, false, false, false, false, false, false, false, false, true] (Nat.le_of_ble_eq_true rfl) rfl rfl rfl rfl rfl ⟨Nat.le_of_ble_eq_true rfl, Nat.le_of_ble_eq_true rfl⟩ hc rfl rfl (Nat.le_of_ble_eq_true rfl) dL_law_2085 (fun H locs hW => ?_)
  have hW : WD D A s (w_LAW E h g o od ss aa (va_up ms 4 q.2) ma (if r.1 = 0 then vp_updL fo 0 (r.2).toInt64 else fo) fd ++ w_pool E (h 19) hp pl po pa) H locs := hW
  refine lv_topi (fun z7 e7_ => ?_)
  refine lv_istore (lv' := [(7, .int z7), (6, .int z6), (0, .ref b), (1, .ref (h 0)), (2, .ref (g 0)), (3, .ref o), (4, .ref od), (5, .int (nI i))]) hx hb dL_law_2088 hl (by decide) rfl (fun ls hl => ?_)
  refine lv_aload_n hx hb dL_law_2090 rfl (lv_at hl 4 rfl) ?_
  refine q_callIm hF hl.1 hK hA hZ hW mv_X8_thrown ml_L_168 (c_X8_thrown l D E TXL (g 0) (g 1) (g 2) (g 3) (g 4) (g 5) (g 6) (g 7) (g 8) (g 9) (g 10) (g 11) (g 12) (g 13) (g 14) (g 15) (g 16) (g 17) (g 18) (g 19) (ms 0) (ms 1) (ms 2) (ms 3) q.2 (ms 5) (ms 6) (ms 7) (ms 8) (ms 9) (ms 10) (ms 11) q.2 rfl) [false, false, false, false, false, false, false, false, false, false, false, false, false, false, false, false, false, false, false, false, false, false, false, false, false, false, false, false, false, false, false, false, false, false, false, false, false, false, false, false, false, false, false, false, false, false, false, false, false, false, false, false, false, false, false, true] (Nat.le_of_ble_eq_true rfl) rfl rfl rfl rfl rfl ⟨Nat.le_of_ble_eq_true rfl, Nat.le_of_ble_eq_true rfl⟩ hc rfl rfl (Nat.le_of_ble_eq_true rfl) dL_law_2091 (fun H locs hW => ?_)
  have hW : WD D A s (w_LAW E h g o od ss aa (va_up ms 4 q.2) ma (if r.1 = 0 then vp_updL fo 0 (r.2).toInt64 else fo) fd ++ w_pool E (h 19) hp pl po pa) H locs := hW
  refine lv_iload hx hb dL_law_2094 (lv_at hl 1 rfl) ?_
  refine lv_icmp_eq (tgt := 2101) hx hb dL_law_2096 (by decide) (fun _ => ?_) (fun z => absurd (hth.trans e6.symm) z)
  refine lv_iload hx hb dL_law_2101 (lv_at hl 1 rfl) ?_
  have hend : ∀ (ls : Array Slot), lv_has ls 9 [(7, .int z7), (6, .int z6), (0, .ref b), (1, .ref (h 0)), (2, .ref (g 0)), (3, .ref o), (4, .ref od), (5, .int (nI i))] → W p l e room_1 s m #[.ref b] below meth c H locs (cells + 4) (slots + 24) Q (F0 m 2118 ls []) := fun ls hl => by
    refine lv_goto (tgt := 2740) hx hb dL_law_2118 (by decide) ?_
    exact kk _ _ _ ⟨_, _, _, _, _, _, _, _, _, hR1, hW⟩ (lv_sub hl [2, 3, 4, 5, 6, 7] rfl)
  refine lv_if_ne (tgt := 2118) hx hb dL_law_2103 (by decide) (fun _ => hend ls hl) (fun z9 => ?_)
  obtain ⟨hk0, hv⟩ := hans (e6.symm.trans z9)
  refine lv_aload_n hx hb dL_law_2106 rfl (lv_at hl 5 rfl) ?_
  refine lv_iconst (v := 0) hx hb dL_law_2107 (by decide) ?_
  refine va_lald hx hb hK hW.1 75 4 rfl rfl (by unfold vp_in; decide) dL_law_2108 ?_
  refine lv_topl (fun z8 e8_ => ?_)
  have e9 : z8 = (r.2).toInt64 := by
    rw [e8_, if_pos hk0]; rfl
  refine lv_iload hx hb dL_law_2109 (lv_at hl 0 rfl) ?_
  refine lv_i2l hx hb dL_law_2111 rfl ?_
  refine W.lcmp hx hb dL_law_2112 ?_
  refine lv_if_eq (tgt := 2118) hx hb dL_law_2113 (by decide) (fun _ => hend ls hl) (fun z => absurd ?_ z)
  rw [e9, hv, e7_]
  exact lg_cmp_self _
set_option maxHeartbeats 4000000 in
set_option maxRecDepth 100000 in
theorem k_35 {p : Program} {l : Launch} {e : Env} {s : State} {m : MethodId} {below : List Frame} {meth : Method} {c : Code} {D : va_G} {E : Nat → ClassId} {A : Nat → Prop} {b N i : Nat} {xs : Nat → Int32} {h g : Nat → Nat} {hp : Nat → Nat → Nat} {o od : Nat} {Q : State → Prop} {H : Heap} {locs : List Loc} {cells slots : Nat} {ls : Array Slot} (C : LCC p l s m c D E A b N xs) (hi : i + 4 ≤ N) (S : LSS D E A s h g hp o od H locs) (hl : lv_has ls 9 [(0, .ref b), (1, .ref (h 0)), (2, .ref (g 0)), (3, .ref o), (4, .ref od), (5, .int (nI i))]) (hc : cells + 4 ≤ room_1.cells ∧ slots + 24 ≤ room_1.slots) (kk : ∀ (H : Heap) (locs : List Loc) (ls : Array Slot), LSS D E A s h g hp o od H locs → lv_has ls 9 [(0, .ref b), (1, .ref (h 0)), (2, .ref (g 0)), (3, .ref o), (4, .ref od), (5, .int (nI i))] → W p l e room_1 s m #[.ref b] below meth c H locs (cells + 4) (slots + 24) Q (F0 m 2740 ls [])) : W p l e room_1 s m #[.ref b] below meth c H locs cells slots Q (F0 m 2121 ls []) := by
  obtain ⟨hF, hlt, hK, hA, hZ, hN, hX, hbl, hbA, hN9⟩ := C
  obtain ⟨ss, aa, pl, po, pa, ms, ma, fo, fd, hR, hW⟩ := S
  obtain ⟨i0, i1, i2, i3⟩ := ix_ok hi hN9
  have hx := hF.1
  have hb := hF.2.1
  refine lv_aload_n hx hb dL_law_2121 rfl (lv_at hl 1 rfl) ?_
  refine lv_aload_n hx hb dL_law_2122 rfl (lv_at hl 0 rfl) ?_
  refine lv_iload hx hb dL_law_2123 (lv_at hl 5 rfl) ?_
  refine lv_iconst (v := 1) hx hb dL_law_2125 (by decide) ?_
  refine lv_iadd hx hb dL_law_2126 ?_
  refine va_sld hx hb hX hbl hbA hW.2.2 i1 dL_law_2127 ?_
  refine lv_topi (fun x1 ex1 => ?_)
  refine lv_aload_n hx hb dL_law_2128 rfl (lv_at hl 3 rfl) ?_
  obtain ⟨r, e7, q, e8, hM, hR1⟩ := call_pathMove hR x1
  have hk : r.1 = 0 ∨ r.1 = 4 := by
    rcases hM with ⟨m1, m2, m3⟩ | ⟨m1, m2⟩
    · exact Or.inl m1
    · exact Or.inr (m1)
  have hth : q.2 = (if r.1 = 4 then 1 else 0) := by
    rcases hM with ⟨m1, m2, m3⟩ | ⟨m1, m2⟩
    · rw [m1, m2]; rfl
    · rw [m1, m2]; rfl
  have hans : ((if r.1 = 4 then 1 else 0) : Int32) = 0 → r.1 = 0 ∧ r.2 = q.1 := by
    intro z9
    rcases hM with ⟨m1, m2, m3⟩ | ⟨m1, m2⟩
    · exact ⟨m1, m3⟩
    · exact absurd z9 (by rw [m1]; decide)
  refine q_LWm hF hl.1 hK hA hZ hN hW mW_pathMove ml_L_281 (v_pathMove l D E (h 0) o x1 _ _ r.1 r.2 fo (c_X7_pathMove l hlt D E (h 0) (h 1) (h 2) (h 3) (h 4) (h 5) (h 6) (h 7) (h 8) (h 9) (h 10) (h 11) (h 28) (ss 0) (ss 1) (ss 6) (ss 7) (ss 8) (ss 9) (aa 23) x1 r.1 r.2 e7) rfl rfl hk) [true, false, false, false, false, false, false, false, false, false, false, false, false, false, false, false, false, false, false, false, false, false, false, false, false, false, false, false, false, false, false, false, false, false, false, false, false, false, false, false, false, false, false, false, true, true, false, false, false, false, false, false, false, false, false, false, false, false, false, false, false, false, false, false, false, false, false, false, false, false, false, false, false, false, false, true] (Nat.le_of_ble_eq_true rfl) rfl rfl ⟨Nat.le_of_ble_eq_true rfl, Nat.le_of_ble_eq_true rfl⟩ ⟨Nat.le_trans (Nat.add_le_add_left (Nat.le_of_ble_eq_true rfl) cells) hc.1, Nat.le_trans (Nat.add_le_add_left (Nat.le_of_ble_eq_true rfl) slots) hc.2⟩ rfl rfl (Nat.le_of_ble_eq_true rfl) dL_law_2129 (fun H locs hW => ?_)
  refine W.widen (Nat.add_le_add_left (Nat.le_of_ble_eq_true rfl : 2 ≤ 4) cells) (Nat.add_le_add_left (Nat.le_of_ble_eq_true rfl : 12 ≤ 24) slots) ?_
  have hW : WD D A s (w_LAW E h g o od ss aa ms ma (if r.1 = 0 then vp_updL fo 0 (r.2).toInt64 else fo) fd ++ w_pool E (h 19) hp pl po pa) H locs := hW
  refine lv_topi (fun z6 e6 => ?_)
  refine lv_istore (lv' := [(6, .int z6), (0, .ref b), (1, .ref (h 0)), (2, .ref (g 0)), (3, .ref o), (4, .ref od), (5, .int (nI i))]) hx hb dL_law_2132 hl (by decide) rfl (fun ls hl => ?_)
  refine lv_aload_n hx hb dL_law_2134 rfl (lv_at hl 3 rfl) ?_
  refine lv_aload_n hx hb dL_law_2135 rfl (lv_at hl 1 rfl) ?_
  refine lv_iload hx hb dL_law_2136 (lv_at hl 6 rfl) ?_
  refine lv_iconst (v := 1) hx hb dL_law_2138 (by decide) ?_
  refine lv_iadd hx hb dL_law_2139 ?_
  refine va_sld hx hb hX hbl hbA hW.2.2 i1 dL_law_2140 ?_
  refine lv_topi (fun y1 ey1 => ?_)
  obtain rfl : x1 = y1 := ex1.trans ey1.symm
  refine q_callIm hF hl.1 hK hA hZ hW mv_X8_pathMove ml_L_283 (c_X8_pathMove l D E TXL (g 0) (g 1) (g 2) (g 3) (g 4) (g 5) (g 6) (g 7) (g 8) (g 9) (g 10) (g 11) (g 12) (g 13) (g 14) (g 15) (g 16) (g 17) (g 18) (g 19) (ms 0) (ms 1) (ms 2) (ms 3) (ms 4) (ms 5) (ms 6) (ms 7) (ms 8) (ms 9) (ms 10) (ms 11) (ma 12) x1 q.1 q.2 e8) [false, false, false, false, false, false, false, false, false, false, false, false, false, false, false, false, false, false, false, false, false, false, false, false, false, false, false, false, false, false, false, false, false, false, false, false, false, false, false, false, false, false, false, false, false, false, false, false, false, false, false, false, false, false, false, true, false, false, true] (Nat.le_of_ble_eq_true rfl) rfl rfl rfl rfl rfl ⟨Nat.le_of_ble_eq_true rfl, Nat.le_of_ble_eq_true rfl⟩ hc rfl rfl (Nat.le_of_ble_eq_true rfl) dL_law_2141 (fun H locs hW => ?_)
  have hW : WD D A s (w_LAW E h g o od ss aa (va_up ms 4 q.2) ma (if r.1 = 0 then vp_updL fo 0 (r.2).toInt64 else fo) fd ++ w_pool E (h 19) hp pl po pa) H locs := hW
  refine lv_topi (fun z7 e7_ => ?_)
  refine lv_istore (lv' := [(7, .int z7), (6, .int z6), (0, .ref b), (1, .ref (h 0)), (2, .ref (g 0)), (3, .ref o), (4, .ref od), (5, .int (nI i))]) hx hb dL_law_2144 hl (by decide) rfl (fun ls hl => ?_)
  refine lv_aload_n hx hb dL_law_2146 rfl (lv_at hl 4 rfl) ?_
  refine q_callIm hF hl.1 hK hA hZ hW mv_X8_thrown ml_L_168 (c_X8_thrown l D E TXL (g 0) (g 1) (g 2) (g 3) (g 4) (g 5) (g 6) (g 7) (g 8) (g 9) (g 10) (g 11) (g 12) (g 13) (g 14) (g 15) (g 16) (g 17) (g 18) (g 19) (ms 0) (ms 1) (ms 2) (ms 3) q.2 (ms 5) (ms 6) (ms 7) (ms 8) (ms 9) (ms 10) (ms 11) q.2 rfl) [false, false, false, false, false, false, false, false, false, false, false, false, false, false, false, false, false, false, false, false, false, false, false, false, false, false, false, false, false, false, false, false, false, false, false, false, false, false, false, false, false, false, false, false, false, false, false, false, false, false, false, false, false, false, false, true] (Nat.le_of_ble_eq_true rfl) rfl rfl rfl rfl rfl ⟨Nat.le_of_ble_eq_true rfl, Nat.le_of_ble_eq_true rfl⟩ hc rfl rfl (Nat.le_of_ble_eq_true rfl) dL_law_2147 (fun H locs hW => ?_)
  have hW : WD D A s (w_LAW E h g o od ss aa (va_up ms 4 q.2) ma (if r.1 = 0 then vp_updL fo 0 (r.2).toInt64 else fo) fd ++ w_pool E (h 19) hp pl po pa) H locs := hW
  refine lv_iload hx hb dL_law_2150 (lv_at hl 1 rfl) ?_
  refine lv_icmp_eq (tgt := 2157) hx hb dL_law_2152 (by decide) (fun _ => ?_) (fun z => absurd (hth.trans e6.symm) z)
  refine lv_iload hx hb dL_law_2157 (lv_at hl 1 rfl) ?_
  have hend : ∀ (ls : Array Slot), lv_has ls 9 [(7, .int z7), (6, .int z6), (0, .ref b), (1, .ref (h 0)), (2, .ref (g 0)), (3, .ref o), (4, .ref od), (5, .int (nI i))] → W p l e room_1 s m #[.ref b] below meth c H locs (cells + 4) (slots + 24) Q (F0 m 2174 ls []) := fun ls hl => by
    refine lv_goto (tgt := 2740) hx hb dL_law_2174 (by decide) ?_
    exact kk _ _ _ ⟨_, _, _, _, _, _, _, _, _, hR1, hW⟩ (lv_sub hl [2, 3, 4, 5, 6, 7] rfl)
  refine lv_if_ne (tgt := 2174) hx hb dL_law_2159 (by decide) (fun _ => hend ls hl) (fun z9 => ?_)
  obtain ⟨hk0, hv⟩ := hans (e6.symm.trans z9)
  refine lv_aload_n hx hb dL_law_2162 rfl (lv_at hl 5 rfl) ?_
  refine lv_iconst (v := 0) hx hb dL_law_2163 (by decide) ?_
  refine va_lald hx hb hK hW.1 75 4 rfl rfl (by unfold vp_in; decide) dL_law_2164 ?_
  refine lv_topl (fun z8 e8_ => ?_)
  have e9 : z8 = (r.2).toInt64 := by
    rw [e8_, if_pos hk0]; rfl
  refine lv_iload hx hb dL_law_2165 (lv_at hl 0 rfl) ?_
  refine lv_i2l hx hb dL_law_2167 rfl ?_
  refine W.lcmp hx hb dL_law_2168 ?_
  refine lv_if_eq (tgt := 2174) hx hb dL_law_2169 (by decide) (fun _ => hend ls hl) (fun z => absurd ?_ z)
  rw [e9, hv, e7_]
  exact lg_cmp_self _
set_option maxHeartbeats 4000000 in
set_option maxRecDepth 100000 in
theorem k_36 {p : Program} {l : Launch} {e : Env} {s : State} {m : MethodId} {below : List Frame} {meth : Method} {c : Code} {D : va_G} {E : Nat → ClassId} {A : Nat → Prop} {b N i : Nat} {xs : Nat → Int32} {h g : Nat → Nat} {hp : Nat → Nat → Nat} {o od : Nat} {Q : State → Prop} {H : Heap} {locs : List Loc} {cells slots : Nat} {ls : Array Slot} (C : LCC p l s m c D E A b N xs) (hi : i + 4 ≤ N) (S : LSS D E A s h g hp o od H locs) (hl : lv_has ls 9 [(0, .ref b), (1, .ref (h 0)), (2, .ref (g 0)), (3, .ref o), (4, .ref od), (5, .int (nI i))]) (hc : cells + 4 ≤ room_1.cells ∧ slots + 24 ≤ room_1.slots) (kk : ∀ (H : Heap) (locs : List Loc) (ls : Array Slot), LSS D E A s h g hp o od H locs → lv_has ls 9 [(0, .ref b), (1, .ref (h 0)), (2, .ref (g 0)), (3, .ref o), (4, .ref od), (5, .int (nI i))] → W p l e room_1 s m #[.ref b] below meth c H locs (cells + 4) (slots + 24) Q (F0 m 2740 ls [])) : W p l e room_1 s m #[.ref b] below meth c H locs cells slots Q (F0 m 2177 ls []) := by
  obtain ⟨hF, hlt, hK, hA, hZ, hN, hX, hbl, hbA, hN9⟩ := C
  obtain ⟨ss, aa, pl, po, pa, ms, ma, fo, fd, hR, hW⟩ := S
  obtain ⟨i0, i1, i2, i3⟩ := ix_ok hi hN9
  have hx := hF.1
  have hb := hF.2.1
  refine lv_aload_n hx hb dL_law_2177 rfl (lv_at hl 1 rfl) ?_
  refine lv_aload_n hx hb dL_law_2178 rfl (lv_at hl 3 rfl) ?_
  obtain ⟨r, e7, q, e8, hM, hR1⟩ := call_pathChanges hR
  have hk : r.1 = 0 ∨ r.1 = 4 := by
    rcases hM with ⟨m1, m2, m3⟩ | ⟨m1, m2⟩
    · exact Or.inl m1
    · exact Or.inr (m1)
  have hth : q.2 = (if r.1 = 4 then 1 else 0) := by
    rcases hM with ⟨m1, m2, m3⟩ | ⟨m1, m2⟩
    · rw [m1, m2]; rfl
    · rw [m1, m2]; rfl
  have hans : ((if r.1 = 4 then 1 else 0) : Int32) = 0 → r.1 = 0 ∧ r.2 = q.1 := by
    intro z9
    rcases hM with ⟨m1, m2, m3⟩ | ⟨m1, m2⟩
    · exact ⟨m1, m3⟩
    · exact absurd z9 (by rw [m1]; decide)
  refine q_LWm hF hl.1 hK hA hZ hN hW mW_pathChanges ml_L_284 (v_pathChanges l D E (h 0) o _ _ r.1 r.2 fo (c_X7_pathChanges l hlt D E (h 0) (h 1) (h 2) (h 3) (h 4) (h 5) (h 6) (h 7) (h 8) (h 9) (h 10) (h 11) (h 28) (ss 0) (ss 1) (ss 6) (ss 7) (ss 8) (ss 9) (aa 23) r.1 r.2 e7) rfl rfl hk) [true, false, false, false, false, false, false, false, false, false, false, false, false, false, false, false, false, false, false, false, false, false, false, false, false, false, false, false, false, false, false, false, false, false, false, false, false, false, false, false, false, false, false, false, true, true, false, false, false, false, false, false, false, false, false, false, false, false, false, false, false, false, false, false, false, false, false, false, false, false, false, false, false, false, false, true] (Nat.le_of_ble_eq_true rfl) rfl rfl ⟨Nat.le_of_ble_eq_true rfl, Nat.le_of_ble_eq_true rfl⟩ ⟨Nat.le_trans (Nat.add_le_add_left (Nat.le_of_ble_eq_true rfl) cells) hc.1, Nat.le_trans (Nat.add_le_add_left (Nat.le_of_ble_eq_true rfl) slots) hc.2⟩ rfl rfl (Nat.le_of_ble_eq_true rfl) dL_law_2179 (fun H locs hW => ?_)
  refine W.widen (Nat.add_le_add_left (Nat.le_of_ble_eq_true rfl : 1 ≤ 4) cells) (Nat.add_le_add_left (Nat.le_of_ble_eq_true rfl : 6 ≤ 24) slots) ?_
  have hW : WD D A s (w_LAW E h g o od ss aa ms ma (if r.1 = 0 then vp_updL fo 0 (r.2).toInt64 else fo) fd ++ w_pool E (h 19) hp pl po pa) H locs := hW
  refine lv_topi (fun z6 e6 => ?_)
  refine lv_istore (lv' := [(6, .int z6), (0, .ref b), (1, .ref (h 0)), (2, .ref (g 0)), (3, .ref o), (4, .ref od), (5, .int (nI i))]) hx hb dL_law_2182 hl (by decide) rfl (fun ls hl => ?_)
  refine lv_aload_n hx hb dL_law_2184 rfl (lv_at hl 3 rfl) ?_
  refine q_callIm hF hl.1 hK hA hZ hW mv_X8_pathChanges ml_L_286 (c_X8_pathChanges l D E TXL (g 0) (g 1) (g 2) (g 3) (g 4) (g 5) (g 6) (g 7) (g 8) (g 9) (g 10) (g 11) (g 12) (g 13) (g 14) (g 15) (g 16) (g 17) (g 18) (g 19) (ms 0) (ms 1) (ms 2) (ms 3) (ms 4) (ms 5) (ms 6) (ms 7) (ms 8) (ms 9) (ms 10) (ms 11) (ma 12) q.1 q.2 e8) [false, false, false, false, false, false, false, false, false, false, false, false, false, false, false, false, false, false, false, false, false, false, false, false, false, false, false, false, false, false, false, false, false, false, false, false, false, false, false, false, false, false, false, false, false, false, false, false, false, false, false, false, false, false, false, true, false, false, true] (Nat.le_of_ble_eq_true rfl) rfl rfl rfl rfl rfl ⟨Nat.le_of_ble_eq_true rfl, Nat.le_of_ble_eq_true rfl⟩ hc rfl rfl (Nat.le_of_ble_eq_true rfl) dL_law_2185 (fun H locs hW => ?_)
  have hW : WD D A s (w_LAW E h g o od ss aa (va_up ms 4 q.2) ma (if r.1 = 0 then vp_updL fo 0 (r.2).toInt64 else fo) fd ++ w_pool E (h 19) hp pl po pa) H locs := hW
  refine lv_topi (fun z7 e7_ => ?_)
  refine lv_istore (lv' := [(7, .int z7), (6, .int z6), (0, .ref b), (1, .ref (h 0)), (2, .ref (g 0)), (3, .ref o), (4, .ref od), (5, .int (nI i))]) hx hb dL_law_2188 hl (by decide) rfl (fun ls hl => ?_)
  refine lv_aload_n hx hb dL_law_2190 rfl (lv_at hl 4 rfl) ?_
  refine q_callIm hF hl.1 hK hA hZ hW mv_X8_thrown ml_L_168 (c_X8_thrown l D E TXL (g 0) (g 1) (g 2) (g 3) (g 4) (g 5) (g 6) (g 7) (g 8) (g 9) (g 10) (g 11) (g 12) (g 13) (g 14) (g 15) (g 16) (g 17) (g 18) (g 19) (ms 0) (ms 1) (ms 2) (ms 3) q.2 (ms 5) (ms 6) (ms 7) (ms 8) (ms 9) (ms 10) (ms 11) q.2 rfl) [false, false, false, false, false, false, false, false, false, false, false, false, false, false, false, false, false, false, false, false, false, false, false, false, false, false, false, false, false, false, false, false, false, false, false, false, false, false, false, false, false, false, false, false, false, false, false, false, false, false, false, false, false, false, false, true] (Nat.le_of_ble_eq_true rfl) rfl rfl rfl rfl rfl ⟨Nat.le_of_ble_eq_true rfl, Nat.le_of_ble_eq_true rfl⟩ hc rfl rfl (Nat.le_of_ble_eq_true rfl) dL_law_2191 (fun H locs hW => ?_)
  have hW : WD D A s (w_LAW E h g o od ss aa (va_up ms 4 q.2) ma (if r.1 = 0 then vp_updL fo 0 (r.2).toInt64 else fo) fd ++ w_pool E (h 19) hp pl po pa) H locs := hW
  refine lv_iload hx hb dL_law_2194 (lv_at hl 1 rfl) ?_
  refine lv_icmp_eq (tgt := 2201) hx hb dL_law_2196 (by decide) (fun _ => ?_) (fun z => absurd (hth.trans e6.symm) z)
  refine lv_iload hx hb dL_law_2201 (lv_at hl 1 rfl) ?_
  have hend : ∀ (ls : Array Slot), lv_has ls 9 [(7, .int z7), (6, .int z6), (0, .ref b), (1, .ref (h 0)), (2, .ref (g 0)), (3, .ref o), (4, .ref od), (5, .int (nI i))] → W p l e room_1 s m #[.ref b] below meth c H locs (cells + 4) (slots + 24) Q (F0 m 2218 ls []) := fun ls hl => by
    refine lv_goto (tgt := 2740) hx hb dL_law_2218 (by decide) ?_
    exact kk _ _ _ ⟨_, _, _, _, _, _, _, _, _, hR1, hW⟩ (lv_sub hl [2, 3, 4, 5, 6, 7] rfl)
  refine lv_if_ne (tgt := 2218) hx hb dL_law_2203 (by decide) (fun _ => hend ls hl) (fun z9 => ?_)
  obtain ⟨hk0, hv⟩ := hans (e6.symm.trans z9)
  refine lv_aload_n hx hb dL_law_2206 rfl (lv_at hl 5 rfl) ?_
  refine lv_iconst (v := 0) hx hb dL_law_2207 (by decide) ?_
  refine va_lald hx hb hK hW.1 75 4 rfl rfl (by unfold vp_in; decide) dL_law_2208 ?_
  refine lv_topl (fun z8 e8_ => ?_)
  have e9 : z8 = (r.2).toInt64 := by
    rw [e8_, if_pos hk0]; rfl
  refine lv_iload hx hb dL_law_2209 (lv_at hl 0 rfl) ?_
  refine lv_i2l hx hb dL_law_2211 rfl ?_
  refine W.lcmp hx hb dL_law_2212 ?_
  refine lv_if_eq (tgt := 2218) hx hb dL_law_2213 (by decide) (fun _ => hend ls hl) (fun z => absurd ?_ z)
  rw [e9, hv, e7_]
  exact lg_cmp_self _
set_option maxHeartbeats 4000000 in
set_option maxRecDepth 100000 in
theorem k_37 {p : Program} {l : Launch} {e : Env} {s : State} {m : MethodId} {below : List Frame} {meth : Method} {c : Code} {D : va_G} {E : Nat → ClassId} {A : Nat → Prop} {b N i : Nat} {xs : Nat → Int32} {h g : Nat → Nat} {hp : Nat → Nat → Nat} {o od : Nat} {Q : State → Prop} {H : Heap} {locs : List Loc} {cells slots : Nat} {ls : Array Slot} (C : LCC p l s m c D E A b N xs) (hi : i + 4 ≤ N) (S : LSS D E A s h g hp o od H locs) (hl : lv_has ls 9 [(0, .ref b), (1, .ref (h 0)), (2, .ref (g 0)), (3, .ref o), (4, .ref od), (5, .int (nI i))]) (hc : cells + 4 ≤ room_1.cells ∧ slots + 24 ≤ room_1.slots) (kk : ∀ (H : Heap) (locs : List Loc) (ls : Array Slot), LSS D E A s h g hp o od H locs → lv_has ls 9 [(0, .ref b), (1, .ref (h 0)), (2, .ref (g 0)), (3, .ref o), (4, .ref od), (5, .int (nI i))] → W p l e room_1 s m #[.ref b] below meth c H locs (cells + 4) (slots + 24) Q (F0 m 2740 ls [])) : W p l e room_1 s m #[.ref b] below meth c H locs cells slots Q (F0 m 2221 ls []) := by
  obtain ⟨hF, hlt, hK, hA, hZ, hN, hX, hbl, hbA, hN9⟩ := C
  obtain ⟨ss, aa, pl, po, pa, ms, ma, fo, fd, hR, hW⟩ := S
  obtain ⟨i0, i1, i2, i3⟩ := ix_ok hi hN9
  have hx := hF.1
  have hb := hF.2.1
  refine lv_aload_n hx hb dL_law_2221 rfl (lv_at hl 1 rfl) ?_
  refine lv_aload_n hx hb dL_law_2222 rfl (lv_at hl 0 rfl) ?_
  refine lv_iload hx hb dL_law_2223 (lv_at hl 5 rfl) ?_
  refine lv_iconst (v := 1) hx hb dL_law_2225 (by decide) ?_
  refine lv_iadd hx hb dL_law_2226 ?_
  refine va_sld hx hb hX hbl hbA hW.2.2 i1 dL_law_2227 ?_
  refine lv_topi (fun x1 ex1 => ?_)
  refine lv_aload_n hx hb dL_law_2228 rfl (lv_at hl 3 rfl) ?_
  obtain ⟨r, e7, q, e8, hM, hR1⟩ := call_follow hR x1
  have hk : r.1 = 0 ∨ r.1 = 1 ∨ r.1 = 4 := by
    rcases hM with ⟨m1, m2, m3⟩ | ⟨m1, m2⟩ | ⟨m1, m2⟩
    · exact Or.inl m1
    · exact Or.inr (Or.inl m1)
    · exact Or.inr (Or.inr (m1))
  have hth : q.2.2.1 = (if r.1 = 1 then 1 else (if r.1 = 4 then 2 else 0)) := by
    rcases hM with ⟨m1, m2, m3⟩ | ⟨m1, m2⟩ | ⟨m1, m2⟩
    · rw [m1, m2]; rfl
    · rw [m1, m2]; rfl
    · rw [m1, m2]; rfl
  have hans : ((if r.1 = 1 then 1 else (if r.1 = 4 then 2 else 0)) : Int32) = 0 → r.1 = 0 ∧ r.2.1 = q.1 := by
    intro z9
    rcases hM with ⟨m1, m2, m3⟩ | ⟨m1, m2⟩ | ⟨m1, m2⟩
    · exact ⟨m1, m3⟩
    · exact absurd z9 (by rw [m1]; decide)
    · exact absurd z9 (by rw [m1]; decide)
  refine q_LWm hF hl.1 hK hA hZ hN hW mW_follow ml_L_287 (v_follow l D E (h 0) o x1 _ _ r.1 r.2.1 fo (c_X7_follow l hlt D E (h 0) (h 1) (h 2) (h 3) (h 4) (h 5) (h 6) (h 7) (h 8) (h 9) (h 10) (h 11) (h 12) (h 13) (h 14) (h 15) (h 16) (h 17) (h 18) (h 28) (ss 0) (ss 1) (ss 10) (ss 11) (aa 4) (ss 6) (ss 7) (ss 8) (ss 9) (aa 23) x1 r.1 r.2.1 r.2.2.1 r.2.2.2 e7) rfl rfl hk) [true, true, false, false, false, true, false, false, false, false, false, false, false, false, false, false, false, false, false, false, false, false, false, false, false, false, false, false, false, false, false, false, false, false, false, false, false, false, false, false, false, false, false, false, true, true, false, false, false, false, false, false, false, false, false, false, false, false, false, false, false, false, false, false, false, false, false, false, false, false, false, false, false, false, false, true] (Nat.le_of_ble_eq_true rfl) rfl rfl ⟨Nat.le_of_ble_eq_true rfl, Nat.le_of_ble_eq_true rfl⟩ ⟨Nat.le_trans (Nat.add_le_add_left (Nat.le_of_ble_eq_true rfl) cells) hc.1, Nat.le_trans (Nat.add_le_add_left (Nat.le_of_ble_eq_true rfl) slots) hc.2⟩ rfl rfl (Nat.le_of_ble_eq_true rfl) dL_law_2229 (fun H locs hW => ?_)
  refine W.widen (Nat.add_le_add_left (Nat.le_of_ble_eq_true rfl : 1 ≤ 4) cells) (Nat.add_le_add_left (Nat.le_of_ble_eq_true rfl : 6 ≤ 24) slots) ?_
  have hW : WD D A s (w_LAW E h g o od (va_up ss 9 r.2.2.2) (va_up aa 4 r.2.2.1) ms ma (if r.1 = 0 then vp_updL fo 0 (r.2.1).toInt64 else fo) fd ++ w_pool E (h 19) hp pl po pa) H locs := hW
  refine lv_topi (fun z6 e6 => ?_)
  refine lv_istore (lv' := [(6, .int z6), (0, .ref b), (1, .ref (h 0)), (2, .ref (g 0)), (3, .ref o), (4, .ref od), (5, .int (nI i))]) hx hb dL_law_2232 hl (by decide) rfl (fun ls hl => ?_)
  refine lv_aload_n hx hb dL_law_2234 rfl (lv_at hl 3 rfl) ?_
  refine lv_aload_n hx hb dL_law_2235 rfl (lv_at hl 1 rfl) ?_
  refine lv_iload hx hb dL_law_2236 (lv_at hl 6 rfl) ?_
  refine lv_iconst (v := 1) hx hb dL_law_2238 (by decide) ?_
  refine lv_iadd hx hb dL_law_2239 ?_
  refine va_sld hx hb hX hbl hbA hW.2.2 i1 dL_law_2240 ?_
  refine lv_topi (fun y1 ey1 => ?_)
  obtain rfl : x1 = y1 := ex1.trans ey1.symm
  refine q_callIm hF hl.1 hK hA hZ hW mv_X8_follow ml_L_289 (c_X8_follow l D E TXL (g 0) (g 1) (g 2) (g 3) (g 4) (g 5) (g 6) (g 7) (g 8) (g 9) (g 10) (g 11) (g 12) (g 13) (g 14) (g 15) (g 16) (g 17) (g 18) (g 19) (ms 0) (ms 1) (ms 2) (ms 3) (ms 4) (ms 5) (ms 6) (ms 7) (ms 8) (ms 9) (ms 10) (ms 11) (ma 0) (ma 12) x1 q.1 q.2.1 q.2.2.1 q.2.2.2 e8) [false, false, false, false, false, false, false, false, false, false, false, false, false, false, false, false, false, false, false, false, false, false, false, false, false, false, false, false, false, false, false, false, false, false, false, false, false, false, false, false, false, false, false, false, false, false, false, false, false, false, false, false, false, false, false, true, true, false, true] (Nat.le_of_ble_eq_true rfl) rfl rfl rfl rfl rfl ⟨Nat.le_of_ble_eq_true rfl, Nat.le_of_ble_eq_true rfl⟩ hc rfl rfl (Nat.le_of_ble_eq_true rfl) dL_law_2241 (fun H locs hW => ?_)
  have hW : WD D A s (w_LAW E h g o od (va_up ss 9 r.2.2.2) (va_up aa 4 r.2.2.1) (va_up (va_up ms 3 q.2.1) 4 q.2.2.1) (va_up ma 0 q.2.2.2) (if r.1 = 0 then vp_updL fo 0 (r.2.1).toInt64 else fo) fd ++ w_pool E (h 19) hp pl po pa) H locs := hW
  refine lv_topi (fun z7 e7_ => ?_)
  refine lv_istore (lv' := [(7, .int z7), (6, .int z6), (0, .ref b), (1, .ref (h 0)), (2, .ref (g 0)), (3, .ref o), (4, .ref od), (5, .int (nI i))]) hx hb dL_law_2244 hl (by decide) rfl (fun ls hl => ?_)
  refine lv_aload_n hx hb dL_law_2246 rfl (lv_at hl 4 rfl) ?_
  refine q_callIm hF hl.1 hK hA hZ hW mv_X8_thrown ml_L_168 (c_X8_thrown l D E TXL (g 0) (g 1) (g 2) (g 3) (g 4) (g 5) (g 6) (g 7) (g 8) (g 9) (g 10) (g 11) (g 12) (g 13) (g 14) (g 15) (g 16) (g 17) (g 18) (g 19) (ms 0) (ms 1) (ms 2) q.2.1 q.2.2.1 (ms 5) (ms 6) (ms 7) (ms 8) (ms 9) (ms 10) (ms 11) q.2.2.1 rfl) [false, false, false, false, false, false, false, false, false, false, false, false, false, false, false, false, false, false, false, false, false, false, false, false, false, false, false, false, false, false, false, false, false, false, false, false, false, false, false, false, false, false, false, false, false, false, false, false, false, false, false, false, false, false, false, true] (Nat.le_of_ble_eq_true rfl) rfl rfl rfl rfl rfl ⟨Nat.le_of_ble_eq_true rfl, Nat.le_of_ble_eq_true rfl⟩ hc rfl rfl (Nat.le_of_ble_eq_true rfl) dL_law_2247 (fun H locs hW => ?_)
  have hW : WD D A s (w_LAW E h g o od (va_up ss 9 r.2.2.2) (va_up aa 4 r.2.2.1) (va_up (va_up ms 3 q.2.1) 4 q.2.2.1) (va_up ma 0 q.2.2.2) (if r.1 = 0 then vp_updL fo 0 (r.2.1).toInt64 else fo) fd ++ w_pool E (h 19) hp pl po pa) H locs := hW
  refine lv_iload hx hb dL_law_2250 (lv_at hl 1 rfl) ?_
  refine lv_icmp_eq (tgt := 2257) hx hb dL_law_2252 (by decide) (fun _ => ?_) (fun z => absurd (hth.trans e6.symm) z)
  refine lv_iload hx hb dL_law_2257 (lv_at hl 1 rfl) ?_
  have hend : ∀ (ls : Array Slot), lv_has ls 9 [(7, .int z7), (6, .int z6), (0, .ref b), (1, .ref (h 0)), (2, .ref (g 0)), (3, .ref o), (4, .ref od), (5, .int (nI i))] → W p l e room_1 s m #[.ref b] below meth c H locs (cells + 4) (slots + 24) Q (F0 m 2274 ls []) := fun ls hl => by
    refine lv_goto (tgt := 2740) hx hb dL_law_2274 (by decide) ?_
    exact kk _ _ _ ⟨_, _, _, _, _, _, _, _, _, hR1, hW⟩ (lv_sub hl [2, 3, 4, 5, 6, 7] rfl)
  refine lv_if_ne (tgt := 2274) hx hb dL_law_2259 (by decide) (fun _ => hend ls hl) (fun z9 => ?_)
  obtain ⟨hk0, hv⟩ := hans (e6.symm.trans z9)
  refine lv_aload_n hx hb dL_law_2262 rfl (lv_at hl 5 rfl) ?_
  refine lv_iconst (v := 0) hx hb dL_law_2263 (by decide) ?_
  refine va_lald hx hb hK hW.1 75 4 rfl rfl (by unfold vp_in; decide) dL_law_2264 ?_
  refine lv_topl (fun z8 e8_ => ?_)
  have e9 : z8 = (r.2.1).toInt64 := by
    rw [e8_, if_pos hk0]; rfl
  refine lv_iload hx hb dL_law_2265 (lv_at hl 0 rfl) ?_
  refine lv_i2l hx hb dL_law_2267 rfl ?_
  refine W.lcmp hx hb dL_law_2268 ?_
  refine lv_if_eq (tgt := 2274) hx hb dL_law_2269 (by decide) (fun _ => hend ls hl) (fun z => absurd ?_ z)
  rw [e9, hv, e7_]
  exact lg_cmp_self _
set_option maxHeartbeats 4000000 in
set_option maxRecDepth 100000 in
theorem k_38 {p : Program} {l : Launch} {e : Env} {s : State} {m : MethodId} {below : List Frame} {meth : Method} {c : Code} {D : va_G} {E : Nat → ClassId} {A : Nat → Prop} {b N i : Nat} {xs : Nat → Int32} {h g : Nat → Nat} {hp : Nat → Nat → Nat} {o od : Nat} {Q : State → Prop} {H : Heap} {locs : List Loc} {cells slots : Nat} {ls : Array Slot} (C : LCC p l s m c D E A b N xs) (hi : i + 4 ≤ N) (S : LSS D E A s h g hp o od H locs) (hl : lv_has ls 9 [(0, .ref b), (1, .ref (h 0)), (2, .ref (g 0)), (3, .ref o), (4, .ref od), (5, .int (nI i))]) (hc : cells + 4 ≤ room_1.cells ∧ slots + 24 ≤ room_1.slots) (kk : ∀ (H : Heap) (locs : List Loc) (ls : Array Slot), LSS D E A s h g hp o od H locs → lv_has ls 9 [(0, .ref b), (1, .ref (h 0)), (2, .ref (g 0)), (3, .ref o), (4, .ref od), (5, .int (nI i))] → W p l e room_1 s m #[.ref b] below meth c H locs (cells + 4) (slots + 24) Q (F0 m 2740 ls [])) : W p l e room_1 s m #[.ref b] below meth c H locs cells slots Q (F0 m 2277 ls []) := by
  obtain ⟨hF, hlt, hK, hA, hZ, hN, hX, hbl, hbA, hN9⟩ := C
  obtain ⟨ss, aa, pl, po, pa, ms, ma, fo, fd, hR, hW⟩ := S
  obtain ⟨i0, i1, i2, i3⟩ := ix_ok hi hN9
  have hx := hF.1
  have hb := hF.2.1
  refine lv_aload_n hx hb dL_law_2277 rfl (lv_at hl 1 rfl) ?_
  refine lv_aload_n hx hb dL_law_2278 rfl (lv_at hl 0 rfl) ?_
  refine lv_iload hx hb dL_law_2279 (lv_at hl 5 rfl) ?_
  refine lv_iconst (v := 1) hx hb dL_law_2281 (by decide) ?_
  refine lv_iadd hx hb dL_law_2282 ?_
  refine va_sld hx hb hX hbl hbA hW.2.2 i1 dL_law_2283 ?_
  refine lv_topi (fun x1 ex1 => ?_)
  refine lv_aload_n hx hb dL_law_2284 rfl (lv_at hl 3 rfl) ?_
  obtain ⟨r, e7, q, e8, hM, hR1⟩ := call_back hR x1
  have hk : r.1 = 0 ∨ r.1 = 1 ∨ r.1 = 4 := by
    rcases hM with ⟨m1, m2, m3⟩ | ⟨m1, m2⟩ | ⟨m1, m2⟩
    · exact Or.inl m1
    · exact Or.inr (Or.inl m1)
    · exact Or.inr (Or.inr (m1))
  have hth : q.2.2.1 = (if r.1 = 1 then 1 else (if r.1 = 4 then 2 else 0)) := by
    rcases hM with ⟨m1, m2, m3⟩ | ⟨m1, m2⟩ | ⟨m1, m2⟩
    · rw [m1, m2]; rfl
    · rw [m1, m2]; rfl
    · rw [m1, m2]; rfl
  have hans : ((if r.1 = 1 then 1 else (if r.1 = 4 then 2 else 0)) : Int32) = 0 → r.1 = 0 ∧ r.2.1 = q.1 := by
    intro z9
    rcases hM with ⟨m1, m2, m3⟩ | ⟨m1, m2⟩ | ⟨m1, m2⟩
    · exact ⟨m1, m3⟩
    · exact absurd z9 (by rw [m1]; decide)
    · exact absurd z9 (by rw [m1]; decide)
  refine q_LWm hF hl.1 hK hA hZ hN hW mW_back ml_L_290 (v_back l D E (h 0) o x1 _ _ r.1 r.2.1 fo (c_X7_back l hlt D E (h 0) (h 1) (h 2) (h 3) (h 4) (h 5) (h 6) (h 7) (h 8) (h 9) (h 10) (h 11) (h 12) (h 13) (h 14) (h 15) (h 16) (h 17) (h 18) (h 28) (ss 0) (ss 1) (ss 10) (ss 11) (aa 4) (ss 6) (ss 7) (ss 8) (ss 9) (aa 23) x1 r.1 r.2.1 r.2.2.1 r.2.2.2 e7) rfl rfl hk) [true, true, false, false, false, true, false, false, false, false, false, false, false, false, false, false, false, false, false, false, false, false, false, false, false, false, false, false, false, false, false, false, false, false, false, false, false, false, false, false, false, false, false, false, true, true, false, false, false, false, false, false, false, false, false, false, false, false, false, false, false, false, false, false, false, false, false, false, false, false, false, false, false, false, false, true] (Nat.le_of_ble_eq_true rfl) rfl rfl ⟨Nat.le_of_ble_eq_true rfl, Nat.le_of_ble_eq_true rfl⟩ ⟨Nat.le_trans (Nat.add_le_add_left (Nat.le_of_ble_eq_true rfl) cells) hc.1, Nat.le_trans (Nat.add_le_add_left (Nat.le_of_ble_eq_true rfl) slots) hc.2⟩ rfl rfl (Nat.le_of_ble_eq_true rfl) dL_law_2285 (fun H locs hW => ?_)
  refine W.widen (Nat.add_le_add_left (Nat.le_of_ble_eq_true rfl : 1 ≤ 4) cells) (Nat.add_le_add_left (Nat.le_of_ble_eq_true rfl : 6 ≤ 24) slots) ?_
  have hW : WD D A s (w_LAW E h g o od (va_up ss 9 r.2.2.2) (va_up aa 4 r.2.2.1) ms ma (if r.1 = 0 then vp_updL fo 0 (r.2.1).toInt64 else fo) fd ++ w_pool E (h 19) hp pl po pa) H locs := hW
  refine lv_topi (fun z6 e6 => ?_)
  refine lv_istore (lv' := [(6, .int z6), (0, .ref b), (1, .ref (h 0)), (2, .ref (g 0)), (3, .ref o), (4, .ref od), (5, .int (nI i))]) hx hb dL_law_2288 hl (by decide) rfl (fun ls hl => ?_)
  refine lv_aload_n hx hb dL_law_2290 rfl (lv_at hl 3 rfl) ?_
  refine lv_aload_n hx hb dL_law_2291 rfl (lv_at hl 1 rfl) ?_
  refine lv_iload hx hb dL_law_2292 (lv_at hl 6 rfl) ?_
  refine lv_iconst (v := 1) hx hb dL_law_2294 (by decide) ?_
  refine lv_iadd hx hb dL_law_2295 ?_
  refine va_sld hx hb hX hbl hbA hW.2.2 i1 dL_law_2296 ?_
  refine lv_topi (fun y1 ey1 => ?_)
  obtain rfl : x1 = y1 := ex1.trans ey1.symm
  refine q_callIm hF hl.1 hK hA hZ hW mv_X8_back ml_L_292 (c_X8_back l D E TXL (g 0) (g 1) (g 2) (g 3) (g 4) (g 5) (g 6) (g 7) (g 8) (g 9) (g 10) (g 11) (g 12) (g 13) (g 14) (g 15) (g 16) (g 17) (g 18) (g 19) (ms 0) (ms 1) (ms 2) (ms 3) (ms 4) (ms 5) (ms 6) (ms 7) (ms 8) (ms 9) (ms 10) (ms 11) (ma 0) (ma 12) x1 q.1 q.2.1 q.2.2.1 q.2.2.2 e8) [false, false, false, false, false, false, false, false, false, false, false, false, false, false, false, false, false, false, false, false, false, false, false, false, false, false, false, false, false, false, false, false, false, false, false, false, false, false, false, false, false, false, false, false, false, false, false, false, false, false, false, false, false, false, false, true, true, false, true] (Nat.le_of_ble_eq_true rfl) rfl rfl rfl rfl rfl ⟨Nat.le_of_ble_eq_true rfl, Nat.le_of_ble_eq_true rfl⟩ hc rfl rfl (Nat.le_of_ble_eq_true rfl) dL_law_2297 (fun H locs hW => ?_)
  have hW : WD D A s (w_LAW E h g o od (va_up ss 9 r.2.2.2) (va_up aa 4 r.2.2.1) (va_up (va_up ms 3 q.2.1) 4 q.2.2.1) (va_up ma 0 q.2.2.2) (if r.1 = 0 then vp_updL fo 0 (r.2.1).toInt64 else fo) fd ++ w_pool E (h 19) hp pl po pa) H locs := hW
  refine lv_topi (fun z7 e7_ => ?_)
  refine lv_istore (lv' := [(7, .int z7), (6, .int z6), (0, .ref b), (1, .ref (h 0)), (2, .ref (g 0)), (3, .ref o), (4, .ref od), (5, .int (nI i))]) hx hb dL_law_2300 hl (by decide) rfl (fun ls hl => ?_)
  refine lv_aload_n hx hb dL_law_2302 rfl (lv_at hl 4 rfl) ?_
  refine q_callIm hF hl.1 hK hA hZ hW mv_X8_thrown ml_L_168 (c_X8_thrown l D E TXL (g 0) (g 1) (g 2) (g 3) (g 4) (g 5) (g 6) (g 7) (g 8) (g 9) (g 10) (g 11) (g 12) (g 13) (g 14) (g 15) (g 16) (g 17) (g 18) (g 19) (ms 0) (ms 1) (ms 2) q.2.1 q.2.2.1 (ms 5) (ms 6) (ms 7) (ms 8) (ms 9) (ms 10) (ms 11) q.2.2.1 rfl) [false, false, false, false, false, false, false, false, false, false, false, false, false, false, false, false, false, false, false, false, false, false, false, false, false, false, false, false, false, false, false, false, false, false, false, false, false, false, false, false, false, false, false, false, false, false, false, false, false, false, false, false, false, false, false, true] (Nat.le_of_ble_eq_true rfl) rfl rfl rfl rfl rfl ⟨Nat.le_of_ble_eq_true rfl, Nat.le_of_ble_eq_true rfl⟩ hc rfl rfl (Nat.le_of_ble_eq_true rfl) dL_law_2303 (fun H locs hW => ?_)
  have hW : WD D A s (w_LAW E h g o od (va_up ss 9 r.2.2.2) (va_up aa 4 r.2.2.1) (va_up (va_up ms 3 q.2.1) 4 q.2.2.1) (va_up ma 0 q.2.2.2) (if r.1 = 0 then vp_updL fo 0 (r.2.1).toInt64 else fo) fd ++ w_pool E (h 19) hp pl po pa) H locs := hW
  refine lv_iload hx hb dL_law_2306 (lv_at hl 1 rfl) ?_
  refine lv_icmp_eq (tgt := 2313) hx hb dL_law_2308 (by decide) (fun _ => ?_) (fun z => absurd (hth.trans e6.symm) z)
  refine lv_iload hx hb dL_law_2313 (lv_at hl 1 rfl) ?_
  have hend : ∀ (ls : Array Slot), lv_has ls 9 [(7, .int z7), (6, .int z6), (0, .ref b), (1, .ref (h 0)), (2, .ref (g 0)), (3, .ref o), (4, .ref od), (5, .int (nI i))] → W p l e room_1 s m #[.ref b] below meth c H locs (cells + 4) (slots + 24) Q (F0 m 2330 ls []) := fun ls hl => by
    refine lv_goto (tgt := 2740) hx hb dL_law_2330 (by decide) ?_
    exact kk _ _ _ ⟨_, _, _, _, _, _, _, _, _, hR1, hW⟩ (lv_sub hl [2, 3, 4, 5, 6, 7] rfl)
  refine lv_if_ne (tgt := 2330) hx hb dL_law_2315 (by decide) (fun _ => hend ls hl) (fun z9 => ?_)
  obtain ⟨hk0, hv⟩ := hans (e6.symm.trans z9)
  refine lv_aload_n hx hb dL_law_2318 rfl (lv_at hl 5 rfl) ?_
  refine lv_iconst (v := 0) hx hb dL_law_2319 (by decide) ?_
  refine va_lald hx hb hK hW.1 75 4 rfl rfl (by unfold vp_in; decide) dL_law_2320 ?_
  refine lv_topl (fun z8 e8_ => ?_)
  have e9 : z8 = (r.2.1).toInt64 := by
    rw [e8_, if_pos hk0]; rfl
  refine lv_iload hx hb dL_law_2321 (lv_at hl 0 rfl) ?_
  refine lv_i2l hx hb dL_law_2323 rfl ?_
  refine W.lcmp hx hb dL_law_2324 ?_
  refine lv_if_eq (tgt := 2330) hx hb dL_law_2325 (by decide) (fun _ => hend ls hl) (fun z => absurd ?_ z)
  rw [e9, hv, e7_]
  exact lg_cmp_self _
set_option maxHeartbeats 4000000 in
set_option maxRecDepth 100000 in
theorem k_39 {p : Program} {l : Launch} {e : Env} {s : State} {m : MethodId} {below : List Frame} {meth : Method} {c : Code} {D : va_G} {E : Nat → ClassId} {A : Nat → Prop} {b N i : Nat} {xs : Nat → Int32} {h g : Nat → Nat} {hp : Nat → Nat → Nat} {o od : Nat} {Q : State → Prop} {H : Heap} {locs : List Loc} {cells slots : Nat} {ls : Array Slot} (C : LCC p l s m c D E A b N xs) (hi : i + 4 ≤ N) (S : LSS D E A s h g hp o od H locs) (hl : lv_has ls 9 [(0, .ref b), (1, .ref (h 0)), (2, .ref (g 0)), (3, .ref o), (4, .ref od), (5, .int (nI i))]) (hc : cells + 4 ≤ room_1.cells ∧ slots + 24 ≤ room_1.slots) (kk : ∀ (H : Heap) (locs : List Loc) (ls : Array Slot), LSS D E A s h g hp o od H locs → lv_has ls 9 [(0, .ref b), (1, .ref (h 0)), (2, .ref (g 0)), (3, .ref o), (4, .ref od), (5, .int (nI i))] → W p l e room_1 s m #[.ref b] below meth c H locs (cells + 4) (slots + 24) Q (F0 m 2740 ls [])) : W p l e room_1 s m #[.ref b] below meth c H locs cells slots Q (F0 m 2333 ls []) := by
  obtain ⟨hF, hlt, hK, hA, hZ, hN, hX, hbl, hbA, hN9⟩ := C
  obtain ⟨ss, aa, pl, po, pa, ms, ma, fo, fd, hR, hW⟩ := S
  obtain ⟨i0, i1, i2, i3⟩ := ix_ok hi hN9
  have hx := hF.1
  have hb := hF.2.1
  refine lv_aload_n hx hb dL_law_2333 rfl (lv_at hl 1 rfl) ?_
  refine lv_aload_n hx hb dL_law_2334 rfl (lv_at hl 3 rfl) ?_
  obtain ⟨r, e7, q, e8, hM, hR1⟩ := call_pathCells hR
  have hk : r.1 = 0 ∨ r.1 = 4 := by
    rcases hM with ⟨m1, m2, m3⟩ | ⟨m1, m2⟩
    · exact Or.inl m1
    · exact Or.inr (m1)
  have hth : q.2.1 = (if r.1 = 4 then 1 else 0) := by
    rcases hM with ⟨m1, m2, m3⟩ | ⟨m1, m2⟩
    · rw [m1, m2]; rfl
    · rw [m1, m2]; rfl
  have hans : ((if r.1 = 4 then 1 else 0) : Int32) = 0 → r.1 = 0 ∧ r.2.1 = q.1 := by
    intro z9
    rcases hM with ⟨m1, m2, m3⟩ | ⟨m1, m2⟩
    · exact ⟨m1, m3⟩
    · exact absurd z9 (by rw [m1]; decide)
  refine q_LWm hF hl.1 hK hA hZ hN hW mW_pathCells ml_L_293 (v_pathCells l D E (h 0) o _ _ r.1 r.2.1 fo (c_X7_pathCells l hlt D E (h 0) (h 1) (h 2) (h 3) (h 4) (h 5) (h 6) (h 7) (h 8) (h 9) (h 10) (h 11) (h 20) (h 21) (h 22) (h 23) (h 24) (h 25) (h 26) (h 27) (h 28) (ss 0) (ss 1) (ss 2) (ss 3) (ss 4) (ss 5) (aa 12) (aa 13) (aa 14) (ss 6) (ss 7) (ss 8) (ss 9) (aa 23) (aa 22) r.1 r.2.1 r.2.2 e7) rfl rfl hk) [true, false, false, false, false, false, false, false, false, false, false, false, false, false, false, false, false, false, false, false, false, false, false, false, false, false, true, false, true, false, true, false, true, false, false, false, false, false, false, false, false, false, false, false, true, true, false, true, false, false, false, false, false, false, false, false, false, false, false, false, false, false, false, false, false, false, false, false, false, false, false, false, false, false, false, true] (Nat.le_of_ble_eq_true rfl) rfl rfl ⟨Nat.le_of_ble_eq_true rfl, Nat.le_of_ble_eq_true rfl⟩ ⟨Nat.le_trans (Nat.add_le_add_left (Nat.le_of_ble_eq_true rfl) cells) hc.1, Nat.le_trans (Nat.add_le_add_left (Nat.le_of_ble_eq_true rfl) slots) hc.2⟩ rfl rfl (Nat.le_of_ble_eq_true rfl) dL_law_2335 (fun H locs hW => ?_)
  refine W.widen (Nat.add_le_add_left (Nat.le_of_ble_eq_true rfl : 1 ≤ 4) cells) (Nat.add_le_add_left (Nat.le_of_ble_eq_true rfl : 6 ≤ 24) slots) ?_
  have hW : WD D A s (w_LAW E h g o od ss (va_up aa 22 r.2.2) ms ma (if r.1 = 0 then vp_updL fo 0 (r.2.1).toInt64 else fo) fd ++ w_pool E (h 19) hp pl po pa) H locs := hW
  refine lv_topi (fun z6 e6 => ?_)
  refine lv_istore (lv' := [(6, .int z6), (0, .ref b), (1, .ref (h 0)), (2, .ref (g 0)), (3, .ref o), (4, .ref od), (5, .int (nI i))]) hx hb dL_law_2338 hl (by decide) rfl (fun ls hl => ?_)
  refine lv_aload_n hx hb dL_law_2340 rfl (lv_at hl 3 rfl) ?_
  refine q_callIm hF hl.1 hK hA hZ hW mv_X8_pathCells ml_L_295 (c_X8_pathCells l D E TXL (g 0) (g 1) (g 2) (g 3) (g 4) (g 5) (g 6) (g 7) (g 8) (g 9) (g 10) (g 11) (g 12) (g 13) (g 14) (g 15) (g 16) (g 17) (g 18) (g 19) (ms 0) (ms 1) (ms 2) (ms 3) (ms 4) (ms 5) (ms 6) (ms 7) (ms 8) (ms 9) (ms 10) (ms 11) (ma 0) (ma 12) (ma 3) (ma 4) (ma 5) (ma 6) (ma 8) (ma 10) (ma 11) q.1 q.2.1 q.2.2.1 q.2.2.2.1 q.2.2.2.2.1 q.2.2.2.2.2.1 q.2.2.2.2.2.2.1 q.2.2.2.2.2.2.2.1 q.2.2.2.2.2.2.2.2.1 q.2.2.2.2.2.2.2.2.2 e8) [false, false, false, false, false, false, false, false, false, false, false, false, false, false, false, false, false, false, false, false, false, false, false, false, false, false, false, false, false, false, false, false, false, false, false, false, false, false, false, false, false, false, false, false, false, false, false, false, false, false, false, false, false, false, false, true, true, false, true, false, false, true, false, true, false, true, true, false, true, false, true, true] (Nat.le_of_ble_eq_true rfl) rfl rfl rfl rfl rfl ⟨Nat.le_of_ble_eq_true rfl, Nat.le_of_ble_eq_true rfl⟩ hc rfl rfl (Nat.le_of_ble_eq_true rfl) dL_law_2341 (fun H locs hW => ?_)
  have hW : WD D A s (w_LAW E h g o od ss (va_up aa 22 r.2.2) (va_up (va_up ms 4 q.2.1) 6 q.2.2.1) (va_up (va_up (va_up (va_up (va_up (va_up (va_up ma 3 q.2.2.2.1) 4 q.2.2.2.2.1) 5 q.2.2.2.2.2.1) 6 q.2.2.2.2.2.2.1) 8 q.2.2.2.2.2.2.2.1) 10 q.2.2.2.2.2.2.2.2.1) 11 q.2.2.2.2.2.2.2.2.2) (if r.1 = 0 then vp_updL fo 0 (r.2.1).toInt64 else fo) fd ++ w_pool E (h 19) hp pl po pa) H locs := hW
  refine lv_topi (fun z7 e7_ => ?_)
  refine lv_istore (lv' := [(7, .int z7), (6, .int z6), (0, .ref b), (1, .ref (h 0)), (2, .ref (g 0)), (3, .ref o), (4, .ref od), (5, .int (nI i))]) hx hb dL_law_2344 hl (by decide) rfl (fun ls hl => ?_)
  refine lv_aload_n hx hb dL_law_2346 rfl (lv_at hl 4 rfl) ?_
  refine q_callIm hF hl.1 hK hA hZ hW mv_X8_thrown ml_L_168 (c_X8_thrown l D E TXL (g 0) (g 1) (g 2) (g 3) (g 4) (g 5) (g 6) (g 7) (g 8) (g 9) (g 10) (g 11) (g 12) (g 13) (g 14) (g 15) (g 16) (g 17) (g 18) (g 19) (ms 0) (ms 1) (ms 2) (ms 3) q.2.1 (ms 5) q.2.2.1 (ms 7) (ms 8) (ms 9) (ms 10) (ms 11) q.2.1 rfl) [false, false, false, false, false, false, false, false, false, false, false, false, false, false, false, false, false, false, false, false, false, false, false, false, false, false, false, false, false, false, false, false, false, false, false, false, false, false, false, false, false, false, false, false, false, false, false, false, false, false, false, false, false, false, false, true] (Nat.le_of_ble_eq_true rfl) rfl rfl rfl rfl rfl ⟨Nat.le_of_ble_eq_true rfl, Nat.le_of_ble_eq_true rfl⟩ hc rfl rfl (Nat.le_of_ble_eq_true rfl) dL_law_2347 (fun H locs hW => ?_)
  have hW : WD D A s (w_LAW E h g o od ss (va_up aa 22 r.2.2) (va_up (va_up ms 4 q.2.1) 6 q.2.2.1) (va_up (va_up (va_up (va_up (va_up (va_up (va_up ma 3 q.2.2.2.1) 4 q.2.2.2.2.1) 5 q.2.2.2.2.2.1) 6 q.2.2.2.2.2.2.1) 8 q.2.2.2.2.2.2.2.1) 10 q.2.2.2.2.2.2.2.2.1) 11 q.2.2.2.2.2.2.2.2.2) (if r.1 = 0 then vp_updL fo 0 (r.2.1).toInt64 else fo) fd ++ w_pool E (h 19) hp pl po pa) H locs := hW
  refine lv_iload hx hb dL_law_2350 (lv_at hl 1 rfl) ?_
  refine lv_icmp_eq (tgt := 2357) hx hb dL_law_2352 (by decide) (fun _ => ?_) (fun z => absurd (hth.trans e6.symm) z)
  refine lv_iload hx hb dL_law_2357 (lv_at hl 1 rfl) ?_
  have hend : ∀ (ls : Array Slot), lv_has ls 9 [(7, .int z7), (6, .int z6), (0, .ref b), (1, .ref (h 0)), (2, .ref (g 0)), (3, .ref o), (4, .ref od), (5, .int (nI i))] → W p l e room_1 s m #[.ref b] below meth c H locs (cells + 4) (slots + 24) Q (F0 m 2374 ls []) := fun ls hl => by
    refine lv_goto (tgt := 2740) hx hb dL_law_2374 (by decide) ?_
    exact kk _ _ _ ⟨_, _, _, _, _, _, _, _, _, hR1, hW⟩ (lv_sub hl [2, 3, 4, 5, 6, 7] rfl)
  refine lv_if_ne (tgt := 2374) hx hb dL_law_2359 (by decide) (fun _ => hend ls hl) (fun z9 => ?_)
  obtain ⟨hk0, hv⟩ := hans (e6.symm.trans z9)
  refine lv_aload_n hx hb dL_law_2362 rfl (lv_at hl 5 rfl) ?_
  refine lv_iconst (v := 0) hx hb dL_law_2363 (by decide) ?_
  refine va_lald hx hb hK hW.1 75 4 rfl rfl (by unfold vp_in; decide) dL_law_2364 ?_
  refine lv_topl (fun z8 e8_ => ?_)
  have e9 : z8 = (r.2.1).toInt64 := by
    rw [e8_, if_pos hk0]; rfl
  refine lv_iload hx hb dL_law_2365 (lv_at hl 0 rfl) ?_
  refine lv_i2l hx hb dL_law_2367 rfl ?_
  refine W.lcmp hx hb dL_law_2368 ?_
  refine lv_if_eq (tgt := 2374) hx hb dL_law_2369 (by decide) (fun _ => hend ls hl) (fun z => absurd ?_ z)
  rw [e9, hv, e7_]
  exact lg_cmp_self _
set_option maxHeartbeats 4000000 in
set_option maxRecDepth 100000 in
theorem k_40 {p : Program} {l : Launch} {e : Env} {s : State} {m : MethodId} {below : List Frame} {meth : Method} {c : Code} {D : va_G} {E : Nat → ClassId} {A : Nat → Prop} {b N i : Nat} {xs : Nat → Int32} {h g : Nat → Nat} {hp : Nat → Nat → Nat} {o od : Nat} {Q : State → Prop} {H : Heap} {locs : List Loc} {cells slots : Nat} {ls : Array Slot} (C : LCC p l s m c D E A b N xs) (hi : i + 4 ≤ N) (S : LSS D E A s h g hp o od H locs) (hl : lv_has ls 9 [(0, .ref b), (1, .ref (h 0)), (2, .ref (g 0)), (3, .ref o), (4, .ref od), (5, .int (nI i))]) (hc : cells + 4 ≤ room_1.cells ∧ slots + 24 ≤ room_1.slots) (kk : ∀ (H : Heap) (locs : List Loc) (ls : Array Slot), LSS D E A s h g hp o od H locs → lv_has ls 9 [(0, .ref b), (1, .ref (h 0)), (2, .ref (g 0)), (3, .ref o), (4, .ref od), (5, .int (nI i))] → W p l e room_1 s m #[.ref b] below meth c H locs (cells + 4) (slots + 24) Q (F0 m 2740 ls [])) : W p l e room_1 s m #[.ref b] below meth c H locs cells slots Q (F0 m 2377 ls []) := by
  obtain ⟨hF, hlt, hK, hA, hZ, hN, hX, hbl, hbA, hN9⟩ := C
  obtain ⟨ss, aa, pl, po, pa, ms, ma, fo, fd, hR, hW⟩ := S
  obtain ⟨i0, i1, i2, i3⟩ := ix_ok hi hN9
  have hx := hF.1
  have hb := hF.2.1
  refine lv_aload_n hx hb dL_law_2377 rfl (lv_at hl 1 rfl) ?_
  refine lv_aload_n hx hb dL_law_2378 rfl (lv_at hl 0 rfl) ?_
  refine lv_iload hx hb dL_law_2379 (lv_at hl 5 rfl) ?_
  refine lv_iconst (v := 1) hx hb dL_law_2381 (by decide) ?_
  refine lv_iadd hx hb dL_law_2382 ?_
  refine va_sld hx hb hX hbl hbA hW.2.2 i1 dL_law_2383 ?_
  refine lv_topi (fun x1 ex1 => ?_)
  refine lv_i2c hx hb dL_law_2384 rfl ?_
  obtain ⟨w1, rfl⟩ : ∃ z, z = x1 := ⟨_, rfl⟩
  have ew1 := ex1
  refine lv_topi (fun c1 ec1 => ?_)
  have hch : ∃ c : Int, c1 = J c ∧ 0 ≤ c ∧ c ≤ 65535 := by rw [ec1]; exact ch_ok _
  refine lv_aload_n hx hb dL_law_2385 rfl (lv_at hl 3 rfl) ?_
  obtain ⟨r, e7, q, e8, hM, hR1⟩ := call_bookmark hR c1 hch
  have hk : r.1 = 0 ∨ r.1 = 1 ∨ r.1 = 2 := by
    rcases hM with ⟨m1, m2, m3⟩ | ⟨m1, m2⟩ | ⟨m1, m2⟩
    · exact Or.inl m1
    · exact Or.inr (Or.inl m1)
    · exact Or.inr (Or.inr (m1))
  have hth : q.2.1 = (if r.1 = 1 then 1 else (if r.1 = 2 then 2 else 0)) := by
    rcases hM with ⟨m1, m2, m3⟩ | ⟨m1, m2⟩ | ⟨m1, m2⟩
    · rw [m1, m2]; rfl
    · rw [m1, m2]; rfl
    · rw [m1, m2]; rfl
  have hans : ((if r.1 = 1 then 1 else (if r.1 = 2 then 2 else 0)) : Int32) = 0 → r.1 = 0 ∧ r.2.1 = q.1 := by
    intro z9
    rcases hM with ⟨m1, m2, m3⟩ | ⟨m1, m2⟩ | ⟨m1, m2⟩
    · exact ⟨m1, m3⟩
    · exact absurd z9 (by rw [m1]; decide)
    · exact absurd z9 (by rw [m1]; decide)
  refine q_LWm hF hl.1 hK hA hZ hN hW mW_bookmark ml_L_296 (v_bookmark l D E (h 0) o c1 _ _ r.1 r.2.1 fo (c_X7_bookmark l hlt D E (h 0) (h 1) (h 2) (h 3) (h 4) (h 5) (h 6) (h 7) (h 8) (h 9) (h 10) (h 11) (h 12) (h 13) (h 14) (h 15) (h 16) (h 17) (h 18) (h 37) (h 38) (h 39) (ss 0) (ss 1) (ss 10) (ss 11) (aa 4) (ss 22) (aa 25) (aa 26) (aa 27) c1 r.1 r.2.1 r.2.2.1 r.2.2.2.1 r.2.2.2.2.1 r.2.2.2.2.2 e7) rfl rfl hk) [true, true, false, false, false, true, false, false, false, false, false, false, false, false, false, false, false, false, false, false, false, false, false, false, false, false, false, false, false, false, false, false, false, false, false, false, false, false, false, false, false, false, false, false, false, false, false, false, true, false, true, false, true, true, false, false, false, false, false, false, false, false, false, false, false, false, false, false, false, false, false, false, false, false, false, true] (Nat.le_of_ble_eq_true rfl) rfl rfl ⟨Nat.le_of_ble_eq_true rfl, Nat.le_of_ble_eq_true rfl⟩ ⟨Nat.le_trans (Nat.add_le_add_left (Nat.le_of_ble_eq_true rfl) cells) hc.1, Nat.le_trans (Nat.add_le_add_left (Nat.le_of_ble_eq_true rfl) slots) hc.2⟩ rfl rfl (Nat.le_of_ble_eq_true rfl) dL_law_2386 (fun H locs hW => ?_)
  refine W.widen (Nat.add_le_add_left (Nat.le_of_ble_eq_true rfl : 2 ≤ 4) cells) (Nat.add_le_add_left (Nat.le_of_ble_eq_true rfl : 12 ≤ 24) slots) ?_
  have hW : WD D A s (w_LAW E h g o od (va_up ss 22 r.2.2.1) (va_up (va_up (va_up aa 25 r.2.2.2.1) 26 r.2.2.2.2.1) 27 r.2.2.2.2.2) ms ma (if r.1 = 0 then vp_updL fo 0 (r.2.1).toInt64 else fo) fd ++ w_pool E (h 19) hp pl po pa) H locs := hW
  refine lv_topi (fun z6 e6 => ?_)
  refine lv_istore (lv' := [(6, .int z6), (0, .ref b), (1, .ref (h 0)), (2, .ref (g 0)), (3, .ref o), (4, .ref od), (5, .int (nI i))]) hx hb dL_law_2389 hl (by decide) rfl (fun ls hl => ?_)
  refine lv_aload_n hx hb dL_law_2391 rfl (lv_at hl 3 rfl) ?_
  refine lv_aload_n hx hb dL_law_2392 rfl (lv_at hl 1 rfl) ?_
  refine lv_iload hx hb dL_law_2393 (lv_at hl 6 rfl) ?_
  refine lv_iconst (v := 1) hx hb dL_law_2395 (by decide) ?_
  refine lv_iadd hx hb dL_law_2396 ?_
  refine va_sld hx hb hX hbl hbA hW.2.2 i1 dL_law_2397 ?_
  refine lv_topi (fun y1 ey1 => ?_)
  obtain rfl : w1 = y1 := ew1.trans ey1.symm
  refine lv_i2c hx hb dL_law_2398 rfl ?_
  refine lv_topi (fun d1 ed1 => ?_)
  obtain rfl : c1 = d1 := ec1.trans ed1.symm
  refine q_callIm hF hl.1 hK hA hZ hW mv_X8_bookmark ml_L_299 (c_X8_bookmark l D E TXL (g 0) (g 1) (g 2) (g 3) (g 4) (g 5) (g 6) (g 7) (g 8) (g 9) (g 10) (g 11) (g 12) (g 13) (g 14) (g 15) (g 16) (g 17) (g 18) (g 19) (ms 0) (ms 1) (ms 2) (ms 3) (ms 4) (ms 5) (ms 6) (ms 7) (ms 8) (ms 9) (ms 10) (ms 11) (ma 0) (ma 14) (ma 15) c1 q.1 q.2.1 q.2.2.1 q.2.2.2 e8) [false, false, false, false, false, false, false, false, false, false, false, false, false, false, false, false, false, false, false, false, false, false, false, false, false, false, false, false, false, false, false, false, false, false, false, false, false, false, false, false, false, false, false, false, false, false, false, false, false, false, false, false, false, false, false, true, true, false, false, false, false, false, false, false, false, false, false, false, false, false, false, false, false, true, true] (Nat.le_of_ble_eq_true rfl) rfl rfl rfl rfl rfl ⟨Nat.le_of_ble_eq_true rfl, Nat.le_of_ble_eq_true rfl⟩ hc rfl rfl (Nat.le_of_ble_eq_true rfl) dL_law_2399 (fun H locs hW => ?_)
  have hW : WD D A s (w_LAW E h g o od (va_up ss 22 r.2.2.1) (va_up (va_up (va_up aa 25 r.2.2.2.1) 26 r.2.2.2.2.1) 27 r.2.2.2.2.2) (va_up ms 4 q.2.1) (va_up (va_up ma 14 q.2.2.1) 15 q.2.2.2) (if r.1 = 0 then vp_updL fo 0 (r.2.1).toInt64 else fo) fd ++ w_pool E (h 19) hp pl po pa) H locs := hW
  refine lv_topi (fun z7 e7_ => ?_)
  refine lv_istore (lv' := [(7, .int z7), (6, .int z6), (0, .ref b), (1, .ref (h 0)), (2, .ref (g 0)), (3, .ref o), (4, .ref od), (5, .int (nI i))]) hx hb dL_law_2402 hl (by decide) rfl (fun ls hl => ?_)
  refine lv_aload_n hx hb dL_law_2404 rfl (lv_at hl 4 rfl) ?_
  refine q_callIm hF hl.1 hK hA hZ hW mv_X8_thrown ml_L_168 (c_X8_thrown l D E TXL (g 0) (g 1) (g 2) (g 3) (g 4) (g 5) (g 6) (g 7) (g 8) (g 9) (g 10) (g 11) (g 12) (g 13) (g 14) (g 15) (g 16) (g 17) (g 18) (g 19) (ms 0) (ms 1) (ms 2) (ms 3) q.2.1 (ms 5) (ms 6) (ms 7) (ms 8) (ms 9) (ms 10) (ms 11) q.2.1 rfl) [false, false, false, false, false, false, false, false, false, false, false, false, false, false, false, false, false, false, false, false, false, false, false, false, false, false, false, false, false, false, false, false, false, false, false, false, false, false, false, false, false, false, false, false, false, false, false, false, false, false, false, false, false, false, false, true] (Nat.le_of_ble_eq_true rfl) rfl rfl rfl rfl rfl ⟨Nat.le_of_ble_eq_true rfl, Nat.le_of_ble_eq_true rfl⟩ hc rfl rfl (Nat.le_of_ble_eq_true rfl) dL_law_2405 (fun H locs hW => ?_)
  have hW : WD D A s (w_LAW E h g o od (va_up ss 22 r.2.2.1) (va_up (va_up (va_up aa 25 r.2.2.2.1) 26 r.2.2.2.2.1) 27 r.2.2.2.2.2) (va_up ms 4 q.2.1) (va_up (va_up ma 14 q.2.2.1) 15 q.2.2.2) (if r.1 = 0 then vp_updL fo 0 (r.2.1).toInt64 else fo) fd ++ w_pool E (h 19) hp pl po pa) H locs := hW
  refine lv_iload hx hb dL_law_2408 (lv_at hl 1 rfl) ?_
  refine lv_icmp_eq (tgt := 2415) hx hb dL_law_2410 (by decide) (fun _ => ?_) (fun z => absurd (hth.trans e6.symm) z)
  refine lv_iload hx hb dL_law_2415 (lv_at hl 1 rfl) ?_
  have hend : ∀ (ls : Array Slot), lv_has ls 9 [(7, .int z7), (6, .int z6), (0, .ref b), (1, .ref (h 0)), (2, .ref (g 0)), (3, .ref o), (4, .ref od), (5, .int (nI i))] → W p l e room_1 s m #[.ref b] below meth c H locs (cells + 4) (slots + 24) Q (F0 m 2432 ls []) := fun ls hl => by
    refine lv_goto (tgt := 2740) hx hb dL_law_2432 (by decide) ?_
    exact kk _ _ _ ⟨_, _, _, _, _, _, _, _, _, hR1, hW⟩ (lv_sub hl [2, 3, 4, 5, 6, 7] rfl)
  refine lv_if_ne (tgt := 2432) hx hb dL_law_2417 (by decide) (fun _ => hend ls hl) (fun z9 => ?_)
  obtain ⟨hk0, hv⟩ := hans (e6.symm.trans z9)
  refine lv_aload_n hx hb dL_law_2420 rfl (lv_at hl 5 rfl) ?_
  refine lv_iconst (v := 0) hx hb dL_law_2421 (by decide) ?_
  refine va_lald hx hb hK hW.1 75 4 rfl rfl (by unfold vp_in; decide) dL_law_2422 ?_
  refine lv_topl (fun z8 e8_ => ?_)
  have e9 : z8 = (r.2.1).toInt64 := by
    rw [e8_, if_pos hk0]; rfl
  refine lv_iload hx hb dL_law_2423 (lv_at hl 0 rfl) ?_
  refine lv_i2l hx hb dL_law_2425 rfl ?_
  refine W.lcmp hx hb dL_law_2426 ?_
  refine lv_if_eq (tgt := 2432) hx hb dL_law_2427 (by decide) (fun _ => hend ls hl) (fun z => absurd ?_ z)
  rw [e9, hv, e7_]
  exact lg_cmp_self _
set_option maxHeartbeats 4000000 in
set_option maxRecDepth 100000 in
theorem k_41 {p : Program} {l : Launch} {e : Env} {s : State} {m : MethodId} {below : List Frame} {meth : Method} {c : Code} {D : va_G} {E : Nat → ClassId} {A : Nat → Prop} {b N i : Nat} {xs : Nat → Int32} {h g : Nat → Nat} {hp : Nat → Nat → Nat} {o od : Nat} {Q : State → Prop} {H : Heap} {locs : List Loc} {cells slots : Nat} {ls : Array Slot} (C : LCC p l s m c D E A b N xs) (hi : i + 4 ≤ N) (S : LSS D E A s h g hp o od H locs) (hl : lv_has ls 9 [(0, .ref b), (1, .ref (h 0)), (2, .ref (g 0)), (3, .ref o), (4, .ref od), (5, .int (nI i))]) (hc : cells + 4 ≤ room_1.cells ∧ slots + 24 ≤ room_1.slots) (kk : ∀ (H : Heap) (locs : List Loc) (ls : Array Slot), LSS D E A s h g hp o od H locs → lv_has ls 9 [(0, .ref b), (1, .ref (h 0)), (2, .ref (g 0)), (3, .ref o), (4, .ref od), (5, .int (nI i))] → W p l e room_1 s m #[.ref b] below meth c H locs (cells + 4) (slots + 24) Q (F0 m 2740 ls [])) : W p l e room_1 s m #[.ref b] below meth c H locs cells slots Q (F0 m 2435 ls []) := by
  obtain ⟨hF, hlt, hK, hA, hZ, hN, hX, hbl, hbA, hN9⟩ := C
  obtain ⟨ss, aa, pl, po, pa, ms, ma, fo, fd, hR, hW⟩ := S
  obtain ⟨i0, i1, i2, i3⟩ := ix_ok hi hN9
  have hx := hF.1
  have hb := hF.2.1
  refine lv_aload_n hx hb dL_law_2435 rfl (lv_at hl 1 rfl) ?_
  refine lv_aload_n hx hb dL_law_2436 rfl (lv_at hl 0 rfl) ?_
  refine lv_iload hx hb dL_law_2437 (lv_at hl 5 rfl) ?_
  refine lv_iconst (v := 1) hx hb dL_law_2439 (by decide) ?_
  refine lv_iadd hx hb dL_law_2440 ?_
  refine va_sld hx hb hX hbl hbA hW.2.2 i1 dL_law_2441 ?_
  refine lv_topi (fun x1 ex1 => ?_)
  refine lv_i2c hx hb dL_law_2442 rfl ?_
  obtain ⟨w1, rfl⟩ : ∃ z, z = x1 := ⟨_, rfl⟩
  have ew1 := ex1
  refine lv_topi (fun c1 ec1 => ?_)
  have hch : ∃ c : Int, c1 = J c ∧ 0 ≤ c ∧ c ≤ 65535 := by rw [ec1]; exact ch_ok _
  refine lv_aload_n hx hb dL_law_2443 rfl (lv_at hl 3 rfl) ?_
  obtain ⟨r, e7, q, e8, hM, hR1⟩ := call_planToName hR c1 hch
  have hk : r.1 = 0 ∨ r.1 = 1 ∨ r.1 = 6 ∨ r.1 = 2 ∨ r.1 = 4 := by
    rcases hM with ⟨m1, m2, m3⟩ | ⟨m1, m2⟩ | ⟨m1, m2⟩ | ⟨m1, m2⟩ | ⟨m1, m2⟩
    · exact Or.inl m1
    · exact Or.inr (Or.inl m1)
    · exact Or.inr (Or.inr (Or.inl m1))
    · exact Or.inr (Or.inr (Or.inr (Or.inl m1)))
    · exact Or.inr (Or.inr (Or.inr (Or.inr (m1))))
  have hth : q.2.2.2.1 = (if r.1 = 1 then 1 else (if r.1 = 6 then 2 else (if r.1 = 2 then 3 else (if r.1 = 4 then 4 else 0)))) := by
    rcases hM with ⟨m1, m2, m3⟩ | ⟨m1, m2⟩ | ⟨m1, m2⟩ | ⟨m1, m2⟩ | ⟨m1, m2⟩
    · rw [m1, m2]; rfl
    · rw [m1, m2]; rfl
    · rw [m1, m2]; rfl
    · rw [m1, m2]; rfl
    · rw [m1, m2]; rfl
  have hans : ((if r.1 = 1 then 1 else (if r.1 = 6 then 2 else (if r.1 = 2 then 3 else (if r.1 = 4 then 4 else 0)))) : Int32) = 0 → r.1 = 0 ∧ r.2.1 = q.1 := by
    intro z9
    rcases hM with ⟨m1, m2, m3⟩ | ⟨m1, m2⟩ | ⟨m1, m2⟩ | ⟨m1, m2⟩ | ⟨m1, m2⟩
    · exact ⟨m1, m3⟩
    · exact absurd z9 (by rw [m1]; decide)
    · exact absurd z9 (by rw [m1]; decide)
    · exact absurd z9 (by rw [m1]; decide)
    · exact absurd z9 (by rw [m1]; decide)
  refine q_LWm hF hl.1 hK hA hZ hN hW mW_planToName ml_L_300 (v_planToName l D E (h 0) o c1 _ _ r.1 r.2.1 fo (c_X7_planToName l hlt D E (h 0) (h 1) (h 2) (h 3) (h 4) (h 5) (h 6) (h 7) (h 8) (h 9) (h 10) (h 11) (h 12) (h 13) (h 14) (h 15) (h 16) (h 17) (h 18) (h 20) (h 21) (h 22) (h 23) (h 24) (h 25) (h 26) (h 27) (h 33) (h 34) (h 35) (h 36) (h 28) (h 37) (h 38) (h 39) (ss 0) (ss 1) (ss 10) (ss 11) (aa 1) (aa 2) (aa 3) (aa 4) (aa 0) (ss 2) (ss 3) (ss 4) (ss 5) (aa 12) (aa 13) (aa 14) (aa 20) (aa 21) (ss 18) (ss 19) (ss 20) (ss 21) (aa 15) (aa 16) (aa 17) (aa 18) (aa 19) (ss 6) (ss 7) (ss 8) (ss 9) (aa 23) (ss 22) (aa 25) (aa 26) (aa 27) (aa 11) c1 r.1 r.2.1 r.2.2.1 r.2.2.2.1 r.2.2.2.2.1 r.2.2.2.2.2.1 r.2.2.2.2.2.2.1 r.2.2.2.2.2.2.2.1 r.2.2.2.2.2.2.2.2.1 r.2.2.2.2.2.2.2.2.2.1 r.2.2.2.2.2.2.2.2.2.2.1 r.2.2.2.2.2.2.2.2.2.2.2.1 r.2.2.2.2.2.2.2.2.2.2.2.2.1 r.2.2.2.2.2.2.2.2.2.2.2.2.2.1 r.2.2.2.2.2.2.2.2.2.2.2.2.2.2.1 r.2.2.2.2.2.2.2.2.2.2.2.2.2.2.2.1 r.2.2.2.2.2.2.2.2.2.2.2.2.2.2.2.2.1 r.2.2.2.2.2.2.2.2.2.2.2.2.2.2.2.2.2.1 r.2.2.2.2.2.2.2.2.2.2.2.2.2.2.2.2.2.2.1 r.2.2.2.2.2.2.2.2.2.2.2.2.2.2.2.2.2.2.2.1 r.2.2.2.2.2.2.2.2.2.2.2.2.2.2.2.2.2.2.2.2.1 r.2.2.2.2.2.2.2.2.2.2.2.2.2.2.2.2.2.2.2.2.2.1 r.2.2.2.2.2.2.2.2.2.2.2.2.2.2.2.2.2.2.2.2.2.2.1 r.2.2.2.2.2.2.2.2.2.2.2.2.2.2.2.2.2.2.2.2.2.2.2.1 r.2.2.2.2.2.2.2.2.2.2.2.2.2.2.2.2.2.2.2.2.2.2.2.2.1 r.2.2.2.2.2.2.2.2.2.2.2.2.2.2.2.2.2.2.2.2.2.2.2.2.2 e7) rfl rfl hk) [true, true, true, true, true, true, false, false, true, false, false, false, false, false, false, false, false, false, false, false, false, false, false, false, false, false, true, false, true, false, true, false, true, false, true, false, true, false, true, true, true, true, true, true, true, true, false, false, true, false, true, false, true, true, true, false, false, false, false, false, false, false, false, false, false, false, false, false, false, false, false, false, false, false, false, true] (Nat.le_of_ble_eq_true rfl) rfl rfl ⟨Nat.le_of_ble_eq_true rfl, Nat.le_of_ble_eq_true rfl⟩ ⟨Nat.le_trans (Nat.add_le_add_left (Nat.le_of_ble_eq_true rfl) cells) hc.1, Nat.le_trans (Nat.add_le_add_left (Nat.le_of_ble_eq_true rfl) slots) hc.2⟩ rfl rfl (Nat.le_of_ble_eq_true rfl) dL_law_2444 (fun H locs hW => ?_)
  refine W.widen (Nat.add_le_add_left (Nat.le_of_ble_eq_true rfl : 3 ≤ 4) cells) (Nat.add_le_add_left (Nat.le_of_ble_eq_true rfl : 18 ≤ 24) slots) ?_
  have hW : WD D A s (w_LAW E h g o od (va_up (va_up (va_up (va_up (va_up (va_up (va_up (va_up (va_up (va_up (va_up (va_up ss 2 r.2.2.1) 3 r.2.2.2.1) 4 r.2.2.2.2.1) 5 r.2.2.2.2.2.1) 18 r.2.2.2.2.2.2.2.2.2.2.2.1) 19 r.2.2.2.2.2.2.2.2.2.2.2.2.1) 20 r.2.2.2.2.2.2.2.2.2.2.2.2.2.1) 21 r.2.2.2.2.2.2.2.2.2.2.2.2.2.2.1) 6 r.2.2.2.2.2.2.2.2.2.2.2.2.2.2.2.2.2.2.2.2.1) 7 r.2.2.2.2.2.2.2.2.2.2.2.2.2.2.2.2.2.2.2.2.2.1) 8 r.2.2.2.2.2.2.2.2.2.2.2.2.2.2.2.2.2.2.2.2.2.2.1) 9 r.2.2.2.2.2.2.2.2.2.2.2.2.2.2.2.2.2.2.2.2.2.2.2.1) (va_up (va_up (va_up (va_up (va_up (va_up (va_up (va_up (va_up (va_up (va_up (va_up aa 12 r.2.2.2.2.2.2.1) 13 r.2.2.2.2.2.2.2.1) 14 r.2.2.2.2.2.2.2.2.1) 20 r.2.2.2.2.2.2.2.2.2.1) 21 r.2.2.2.2.2.2.2.2.2.2.1) 15 r.2.2.2.2.2.2.2.2.2.2.2.2.2.2.2.1) 16 r.2.2.2.2.2.2.2.2.2.2.2.2.2.2.2.2.1) 17 r.2.2.2.2.2.2.2.2.2.2.2.2.2.2.2.2.2.1) 18 r.2.2.2.2.2.2.2.2.2.2.2.2.2.2.2.2.2.2.1) 19 r.2.2.2.2.2.2.2.2.2.2.2.2.2.2.2.2.2.2.2.1) 23 r.2.2.2.2.2.2.2.2.2.2.2.2.2.2.2.2.2.2.2.2.2.2.2.2.1) 11 r.2.2.2.2.2.2.2.2.2.2.2.2.2.2.2.2.2.2.2.2.2.2.2.2.2) ms ma (if r.1 = 0 then vp_updL fo 0 (r.2.1).toInt64 else fo) fd ++ w_pool E (h 19) hp pl po pa) H locs := hW
  refine lv_topi (fun z6 e6 => ?_)
  refine lv_istore (lv' := [(6, .int z6), (0, .ref b), (1, .ref (h 0)), (2, .ref (g 0)), (3, .ref o), (4, .ref od), (5, .int (nI i))]) hx hb dL_law_2447 hl (by decide) rfl (fun ls hl => ?_)
  refine lv_aload_n hx hb dL_law_2449 rfl (lv_at hl 3 rfl) ?_
  refine lv_aload_n hx hb dL_law_2450 rfl (lv_at hl 1 rfl) ?_
  refine lv_iload hx hb dL_law_2451 (lv_at hl 6 rfl) ?_
  refine lv_iconst (v := 1) hx hb dL_law_2453 (by decide) ?_
  refine lv_iadd hx hb dL_law_2454 ?_
  refine va_sld hx hb hX hbl hbA hW.2.2 i1 dL_law_2455 ?_
  refine lv_topi (fun y1 ey1 => ?_)
  obtain rfl : w1 = y1 := ew1.trans ey1.symm
  refine lv_i2c hx hb dL_law_2456 rfl ?_
  refine lv_topi (fun d1 ed1 => ?_)
  obtain rfl : c1 = d1 := ec1.trans ed1.symm
  refine q_callIm hF hl.1 hK hA hZ hW mv_X8_planToName ml_L_302 (c_X8_planToName l D E TXL (g 0) (g 1) (g 2) (g 3) (g 4) (g 5) (g 6) (g 7) (g 8) (g 9) (g 10) (g 11) (g 12) (g 13) (g 14) (g 15) (g 16) (g 17) (g 18) (g 19) (ms 0) (ms 1) (ms 2) (ms 3) (ms 4) (ms 5) (ms 6) (ms 7) (ms 8) (ms 9) (ms 10) (ms 11) (ma 0) (ma 12) (ma 3) (ma 4) (ma 5) (ma 6) (ma 7) (ma 8) (ma 9) (ma 10) (ma 14) (ma 15) c1 q.1 q.2.1 q.2.2.1 q.2.2.2.1 q.2.2.2.2.1 q.2.2.2.2.2.1 q.2.2.2.2.2.2.1 q.2.2.2.2.2.2.2.1 q.2.2.2.2.2.2.2.2.1 q.2.2.2.2.2.2.2.2.2.1 q.2.2.2.2.2.2.2.2.2.2.1 q.2.2.2.2.2.2.2.2.2.2.2.1 q.2.2.2.2.2.2.2.2.2.2.2.2.1 q.2.2.2.2.2.2.2.2.2.2.2.2.2.1 q.2.2.2.2.2.2.2.2.2.2.2.2.2.2 e8) [false, false, false, false, false, false, false, false, false, false, false, false, false, false, false, false, false, false, false, false, false, false, false, false, false, false, false, false, false, false, false, false, false, false, false, false, false, false, false, false, false, false, false, false, false, false, false, false, false, false, false, false, false, false, false, true, true, false, true, false, false, true, false, true, false, true, true, true, true, true, true, false, false, true, true] (Nat.le_of_ble_eq_true rfl) rfl rfl rfl rfl rfl ⟨Nat.le_of_ble_eq_true rfl, Nat.le_of_ble_eq_true rfl⟩ hc rfl rfl (Nat.le_of_ble_eq_true rfl) dL_law_2457 (fun H locs hW => ?_)
  have hW : WD D A s (w_LAW E h g o od (va_up (va_up (va_up (va_up (va_up (va_up (va_up (va_up (va_up (va_up (va_up (va_up ss 2 r.2.2.1) 3 r.2.2.2.1) 4 r.2.2.2.2.1) 5 r.2.2.2.2.2.1) 18 r.2.2.2.2.2.2.2.2.2.2.2.1) 19 r.2.2.2.2.2.2.2.2.2.2.2.2.1) 20 r.2.2.2.2.2.2.2.2.2.2.2.2.2.1) 21 r.2.2.2.2.2.2.2.2.2.2.2.2.2.2.1) 6 r.2.2.2.2.2.2.2.2.2.2.2.2.2.2.2.2.2.2.2.2.1) 7 r.2.2.2.2.2.2.2.2.2.2.2.2.2.2.2.2.2.2.2.2.2.1) 8 r.2.2.2.2.2.2.2.2.2.2.2.2.2.2.2.2.2.2.2.2.2.2.1) 9 r.2.2.2.2.2.2.2.2.2.2.2.2.2.2.2.2.2.2.2.2.2.2.2.1) (va_up (va_up (va_up (va_up (va_up (va_up (va_up (va_up (va_up (va_up (va_up (va_up aa 12 r.2.2.2.2.2.2.1) 13 r.2.2.2.2.2.2.2.1) 14 r.2.2.2.2.2.2.2.2.1) 20 r.2.2.2.2.2.2.2.2.2.1) 21 r.2.2.2.2.2.2.2.2.2.2.1) 15 r.2.2.2.2.2.2.2.2.2.2.2.2.2.2.2.1) 16 r.2.2.2.2.2.2.2.2.2.2.2.2.2.2.2.2.1) 17 r.2.2.2.2.2.2.2.2.2.2.2.2.2.2.2.2.2.1) 18 r.2.2.2.2.2.2.2.2.2.2.2.2.2.2.2.2.2.2.1) 19 r.2.2.2.2.2.2.2.2.2.2.2.2.2.2.2.2.2.2.2.1) 23 r.2.2.2.2.2.2.2.2.2.2.2.2.2.2.2.2.2.2.2.2.2.2.2.2.1) 11 r.2.2.2.2.2.2.2.2.2.2.2.2.2.2.2.2.2.2.2.2.2.2.2.2.2) (va_up (va_up (va_up (va_up (va_up ms 2 q.2.1) 3 q.2.2.1) 4 q.2.2.2.1) 5 q.2.2.2.2.1) 6 q.2.2.2.2.2.1) (va_up (va_up (va_up (va_up (va_up (va_up (va_up (va_up (va_up ma 12 q.2.2.2.2.2.2.1) 3 q.2.2.2.2.2.2.2.1) 4 q.2.2.2.2.2.2.2.2.1) 5 q.2.2.2.2.2.2.2.2.2.1) 6 q.2.2.2.2.2.2.2.2.2.2.1) 7 q.2.2.2.2.2.2.2.2.2.2.2.1) 8 q.2.2.2.2.2.2.2.2.2.2.2.2.1) 9 q.2.2.2.2.2.2.2.2.2.2.2.2.2.1) 10 q.2.2.2.2.2.2.2.2.2.2.2.2.2.2) (if r.1 = 0 then vp_updL fo 0 (r.2.1).toInt64 else fo) fd ++ w_pool E (h 19) hp pl po pa) H locs := hW
  refine lv_topi (fun z7 e7_ => ?_)
  refine lv_istore (lv' := [(7, .int z7), (6, .int z6), (0, .ref b), (1, .ref (h 0)), (2, .ref (g 0)), (3, .ref o), (4, .ref od), (5, .int (nI i))]) hx hb dL_law_2460 hl (by decide) rfl (fun ls hl => ?_)
  refine lv_aload_n hx hb dL_law_2462 rfl (lv_at hl 4 rfl) ?_
  refine q_callIm hF hl.1 hK hA hZ hW mv_X8_thrown ml_L_168 (c_X8_thrown l D E TXL (g 0) (g 1) (g 2) (g 3) (g 4) (g 5) (g 6) (g 7) (g 8) (g 9) (g 10) (g 11) (g 12) (g 13) (g 14) (g 15) (g 16) (g 17) (g 18) (g 19) (ms 0) (ms 1) q.2.1 q.2.2.1 q.2.2.2.1 q.2.2.2.2.1 q.2.2.2.2.2.1 (ms 7) (ms 8) (ms 9) (ms 10) (ms 11) q.2.2.2.1 rfl) [false, false, false, false, false, false, false, false, false, false, false, false, false, false, false, false, false, false, false, false, false, false, false, false, false, false, false, false, false, false, false, false, false, false, false, false, false, false, false, false, false, false, false, false, false, false, false, false, false, false, false, false, false, false, false, true] (Nat.le_of_ble_eq_true rfl) rfl rfl rfl rfl rfl ⟨Nat.le_of_ble_eq_true rfl, Nat.le_of_ble_eq_true rfl⟩ hc rfl rfl (Nat.le_of_ble_eq_true rfl) dL_law_2463 (fun H locs hW => ?_)
  have hW : WD D A s (w_LAW E h g o od (va_up (va_up (va_up (va_up (va_up (va_up (va_up (va_up (va_up (va_up (va_up (va_up ss 2 r.2.2.1) 3 r.2.2.2.1) 4 r.2.2.2.2.1) 5 r.2.2.2.2.2.1) 18 r.2.2.2.2.2.2.2.2.2.2.2.1) 19 r.2.2.2.2.2.2.2.2.2.2.2.2.1) 20 r.2.2.2.2.2.2.2.2.2.2.2.2.2.1) 21 r.2.2.2.2.2.2.2.2.2.2.2.2.2.2.1) 6 r.2.2.2.2.2.2.2.2.2.2.2.2.2.2.2.2.2.2.2.2.1) 7 r.2.2.2.2.2.2.2.2.2.2.2.2.2.2.2.2.2.2.2.2.2.1) 8 r.2.2.2.2.2.2.2.2.2.2.2.2.2.2.2.2.2.2.2.2.2.2.1) 9 r.2.2.2.2.2.2.2.2.2.2.2.2.2.2.2.2.2.2.2.2.2.2.2.1) (va_up (va_up (va_up (va_up (va_up (va_up (va_up (va_up (va_up (va_up (va_up (va_up aa 12 r.2.2.2.2.2.2.1) 13 r.2.2.2.2.2.2.2.1) 14 r.2.2.2.2.2.2.2.2.1) 20 r.2.2.2.2.2.2.2.2.2.1) 21 r.2.2.2.2.2.2.2.2.2.2.1) 15 r.2.2.2.2.2.2.2.2.2.2.2.2.2.2.2.1) 16 r.2.2.2.2.2.2.2.2.2.2.2.2.2.2.2.2.1) 17 r.2.2.2.2.2.2.2.2.2.2.2.2.2.2.2.2.2.1) 18 r.2.2.2.2.2.2.2.2.2.2.2.2.2.2.2.2.2.2.1) 19 r.2.2.2.2.2.2.2.2.2.2.2.2.2.2.2.2.2.2.2.1) 23 r.2.2.2.2.2.2.2.2.2.2.2.2.2.2.2.2.2.2.2.2.2.2.2.2.1) 11 r.2.2.2.2.2.2.2.2.2.2.2.2.2.2.2.2.2.2.2.2.2.2.2.2.2) (va_up (va_up (va_up (va_up (va_up ms 2 q.2.1) 3 q.2.2.1) 4 q.2.2.2.1) 5 q.2.2.2.2.1) 6 q.2.2.2.2.2.1) (va_up (va_up (va_up (va_up (va_up (va_up (va_up (va_up (va_up ma 12 q.2.2.2.2.2.2.1) 3 q.2.2.2.2.2.2.2.1) 4 q.2.2.2.2.2.2.2.2.1) 5 q.2.2.2.2.2.2.2.2.2.1) 6 q.2.2.2.2.2.2.2.2.2.2.1) 7 q.2.2.2.2.2.2.2.2.2.2.2.1) 8 q.2.2.2.2.2.2.2.2.2.2.2.2.1) 9 q.2.2.2.2.2.2.2.2.2.2.2.2.2.1) 10 q.2.2.2.2.2.2.2.2.2.2.2.2.2.2) (if r.1 = 0 then vp_updL fo 0 (r.2.1).toInt64 else fo) fd ++ w_pool E (h 19) hp pl po pa) H locs := hW
  refine lv_iload hx hb dL_law_2466 (lv_at hl 1 rfl) ?_
  refine lv_icmp_eq (tgt := 2473) hx hb dL_law_2468 (by decide) (fun _ => ?_) (fun z => absurd (hth.trans e6.symm) z)
  refine lv_iload hx hb dL_law_2473 (lv_at hl 1 rfl) ?_
  have hend : ∀ (ls : Array Slot), lv_has ls 9 [(7, .int z7), (6, .int z6), (0, .ref b), (1, .ref (h 0)), (2, .ref (g 0)), (3, .ref o), (4, .ref od), (5, .int (nI i))] → W p l e room_1 s m #[.ref b] below meth c H locs (cells + 4) (slots + 24) Q (F0 m 2490 ls []) := fun ls hl => by
    refine lv_goto (tgt := 2740) hx hb dL_law_2490 (by decide) ?_
    exact kk _ _ _ ⟨_, _, _, _, _, _, _, _, _, hR1, hW⟩ (lv_sub hl [2, 3, 4, 5, 6, 7] rfl)
  refine lv_if_ne (tgt := 2490) hx hb dL_law_2475 (by decide) (fun _ => hend ls hl) (fun z9 => ?_)
  obtain ⟨hk0, hv⟩ := hans (e6.symm.trans z9)
  refine lv_aload_n hx hb dL_law_2478 rfl (lv_at hl 5 rfl) ?_
  refine lv_iconst (v := 0) hx hb dL_law_2479 (by decide) ?_
  refine va_lald hx hb hK hW.1 75 4 rfl rfl (by unfold vp_in; decide) dL_law_2480 ?_
  refine lv_topl (fun z8 e8_ => ?_)
  have e9 : z8 = (r.2.1).toInt64 := by
    rw [e8_, if_pos hk0]; rfl
  refine lv_iload hx hb dL_law_2481 (lv_at hl 0 rfl) ?_
  refine lv_i2l hx hb dL_law_2483 rfl ?_
  refine W.lcmp hx hb dL_law_2484 ?_
  refine lv_if_eq (tgt := 2490) hx hb dL_law_2485 (by decide) (fun _ => hend ls hl) (fun z => absurd ?_ z)
  rw [e9, hv, e7_]
  exact lg_cmp_self _
set_option maxHeartbeats 4000000 in
set_option maxRecDepth 100000 in
theorem k_42 {p : Program} {l : Launch} {e : Env} {s : State} {m : MethodId} {below : List Frame} {meth : Method} {c : Code} {D : va_G} {E : Nat → ClassId} {A : Nat → Prop} {b N i : Nat} {xs : Nat → Int32} {h g : Nat → Nat} {hp : Nat → Nat → Nat} {o od : Nat} {Q : State → Prop} {H : Heap} {locs : List Loc} {cells slots : Nat} {ls : Array Slot} (C : LCC p l s m c D E A b N xs) (hi : i + 4 ≤ N) (S : LSS D E A s h g hp o od H locs) (hl : lv_has ls 9 [(0, .ref b), (1, .ref (h 0)), (2, .ref (g 0)), (3, .ref o), (4, .ref od), (5, .int (nI i))]) (hc : cells + 4 ≤ room_1.cells ∧ slots + 24 ≤ room_1.slots) (kk : ∀ (H : Heap) (locs : List Loc) (ls : Array Slot), LSS D E A s h g hp o od H locs → lv_has ls 9 [(0, .ref b), (1, .ref (h 0)), (2, .ref (g 0)), (3, .ref o), (4, .ref od), (5, .int (nI i))] → W p l e room_1 s m #[.ref b] below meth c H locs (cells + 4) (slots + 24) Q (F0 m 2740 ls [])) : W p l e room_1 s m #[.ref b] below meth c H locs cells slots Q (F0 m 2493 ls []) := by
  obtain ⟨hF, hlt, hK, hA, hZ, hN, hX, hbl, hbA, hN9⟩ := C
  obtain ⟨ss, aa, pl, po, pa, ms, ma, fo, fd, hR, hW⟩ := S
  obtain ⟨i0, i1, i2, i3⟩ := ix_ok hi hN9
  have hx := hF.1
  have hb := hF.2.1
  refine lv_aload_n hx hb dL_law_2493 rfl (lv_at hl 1 rfl) ?_
  refine lv_aload_n hx hb dL_law_2494 rfl (lv_at hl 0 rfl) ?_
  refine lv_iload hx hb dL_law_2495 (lv_at hl 5 rfl) ?_
  refine lv_iconst (v := 1) hx hb dL_law_2497 (by decide) ?_
  refine lv_iadd hx hb dL_law_2498 ?_
  refine va_sld hx hb hX hbl hbA hW.2.2 i1 dL_law_2499 ?_
  refine lv_topi (fun x1 ex1 => ?_)
  refine lv_i2c hx hb dL_law_2500 rfl ?_
  obtain ⟨w1, rfl⟩ : ∃ z, z = x1 := ⟨_, rfl⟩
  have ew1 := ex1
  refine lv_topi (fun c1 ec1 => ?_)
  have hch : ∃ c : Int, c1 = J c ∧ 0 ≤ c ∧ c ≤ 65535 := by rw [ec1]; exact ch_ok _
  refine lv_aload_n hx hb dL_law_2501 rfl (lv_at hl 3 rfl) ?_
  obtain ⟨r, e7, q, e8, hM, hR1⟩ := call_append hR c1 hch
  have hk : r.1 = 0 ∨ r.1 = 1 ∨ r.1 = 2 := by
    rcases hM with ⟨m1, m2, m3⟩ | ⟨m1, m2⟩ | ⟨m1, m2⟩
    · exact Or.inl m1
    · exact Or.inr (Or.inl m1)
    · exact Or.inr (Or.inr (m1))
  have hth : q.2.1 = (if r.1 = 1 then 1 else (if r.1 = 2 then 2 else 0)) := by
    rcases hM with ⟨m1, m2, m3⟩ | ⟨m1, m2⟩ | ⟨m1, m2⟩
    · rw [m1, m2]; rfl
    · rw [m1, m2]; rfl
    · rw [m1, m2]; rfl
  have hans : ((if r.1 = 1 then 1 else (if r.1 = 2 then 2 else 0)) : Int32) = 0 → r.1 = 0 ∧ r.2.1 = q.1 := by
    intro z9
    rcases hM with ⟨m1, m2, m3⟩ | ⟨m1, m2⟩ | ⟨m1, m2⟩
    · exact ⟨m1, m3⟩
    · exact absurd z9 (by rw [m1]; decide)
    · exact absurd z9 (by rw [m1]; decide)
  refine q_LWm hF hl.1 hK hA hZ hN hW mW_append ml_L_303 (v_append l D E (h 0) o c1 _ _ r.1 r.2.1 fo (c_X7_append l hlt D E (h 0) (h 1) (h 2) (h 3) (h 4) (h 5) (h 6) (h 7) (h 8) (h 9) (h 10) (h 11) (h 40) (h 41) (ss 0) (ss 1) (ss 23) (aa 28) c1 r.1 r.2.1 r.2.2.1 r.2.2.2 e7) rfl rfl hk) [true, false, false, false, false, false, false, false, false, false, false, false, false, false, false, false, false, false, false, false, false, false, false, false, false, false, false, false, false, false, false, false, false, false, false, false, false, false, false, false, false, false, false, false, false, false, true, false, false, true, false, false, false, false, false, false, false, false, false, false, false, false, false, false, false, false, false, false, false, false, false, false, false, false, false, true] (Nat.le_of_ble_eq_true rfl) rfl rfl ⟨Nat.le_of_ble_eq_true rfl, Nat.le_of_ble_eq_true rfl⟩ ⟨Nat.le_trans (Nat.add_le_add_left (Nat.le_of_ble_eq_true rfl) cells) hc.1, Nat.le_trans (Nat.add_le_add_left (Nat.le_of_ble_eq_true rfl) slots) hc.2⟩ rfl rfl (Nat.le_of_ble_eq_true rfl) dL_law_2502 (fun H locs hW => ?_)
  refine W.widen (Nat.add_le_add_left (Nat.le_of_ble_eq_true rfl : 1 ≤ 4) cells) (Nat.add_le_add_left (Nat.le_of_ble_eq_true rfl : 6 ≤ 24) slots) ?_
  have hW : WD D A s (w_LAW E h g o od (va_up ss 23 r.2.2.1) (va_up aa 28 r.2.2.2) ms ma (if r.1 = 0 then vp_updL fo 0 (r.2.1).toInt64 else fo) fd ++ w_pool E (h 19) hp pl po pa) H locs := hW
  refine lv_topi (fun z6 e6 => ?_)
  refine lv_istore (lv' := [(6, .int z6), (0, .ref b), (1, .ref (h 0)), (2, .ref (g 0)), (3, .ref o), (4, .ref od), (5, .int (nI i))]) hx hb dL_law_2505 hl (by decide) rfl (fun ls hl => ?_)
  refine lv_aload_n hx hb dL_law_2507 rfl (lv_at hl 3 rfl) ?_
  refine lv_aload_n hx hb dL_law_2508 rfl (lv_at hl 1 rfl) ?_
  refine lv_iload hx hb dL_law_2509 (lv_at hl 6 rfl) ?_
  refine lv_iconst (v := 1) hx hb dL_law_2511 (by decide) ?_
  refine lv_iadd hx hb dL_law_2512 ?_
  refine va_sld hx hb hX hbl hbA hW.2.2 i1 dL_law_2513 ?_
  refine lv_topi (fun y1 ey1 => ?_)
  obtain rfl : w1 = y1 := ew1.trans ey1.symm
  refine lv_i2c hx hb dL_law_2514 rfl ?_
  refine lv_topi (fun d1 ed1 => ?_)
  obtain rfl : c1 = d1 := ec1.trans ed1.symm
  refine q_callIm hF hl.1 hK hA hZ hW mv_X8_append ml_L_305 (c_X8_append l D E TXL (g 0) (g 1) (g 2) (g 3) (g 4) (g 5) (g 6) (g 7) (g 8) (g 9) (g 10) (g 11) (g 12) (g 13) (g 14) (g 15) (g 16) (g 17) (g 18) (g 19) (ms 0) (ms 1) (ms 2) (ms 3) (ms 4) (ms 5) (ms 6) (ms 7) (ms 8) (ms 9) (ms 10) (ms 11) (ma 16) c1 q.1 q.2.1 q.2.2.1 q.2.2.2 e8) [false, false, false, false, false, false, false, false, false, false, false, false, false, false, false, false, false, false, false, false, false, false, false, false, false, false, false, false, false, false, false, false, false, false, false, false, false, false, false, false, false, false, false, false, false, false, false, false, false, false, false, false, false, false, false, true, false, false, false, false, true] (Nat.le_of_ble_eq_true rfl) rfl rfl rfl rfl rfl ⟨Nat.le_of_ble_eq_true rfl, Nat.le_of_ble_eq_true rfl⟩ hc rfl rfl (Nat.le_of_ble_eq_true rfl) dL_law_2515 (fun H locs hW => ?_)
  have hW : WD D A s (w_LAW E h g o od (va_up ss 23 r.2.2.1) (va_up aa 28 r.2.2.2) (va_up (va_up ms 4 q.2.1) 7 q.2.2.1) (va_up ma 16 q.2.2.2) (if r.1 = 0 then vp_updL fo 0 (r.2.1).toInt64 else fo) fd ++ w_pool E (h 19) hp pl po pa) H locs := hW
  refine lv_topi (fun z7 e7_ => ?_)
  refine lv_istore (lv' := [(7, .int z7), (6, .int z6), (0, .ref b), (1, .ref (h 0)), (2, .ref (g 0)), (3, .ref o), (4, .ref od), (5, .int (nI i))]) hx hb dL_law_2518 hl (by decide) rfl (fun ls hl => ?_)
  refine lv_aload_n hx hb dL_law_2520 rfl (lv_at hl 4 rfl) ?_
  refine q_callIm hF hl.1 hK hA hZ hW mv_X8_thrown ml_L_168 (c_X8_thrown l D E TXL (g 0) (g 1) (g 2) (g 3) (g 4) (g 5) (g 6) (g 7) (g 8) (g 9) (g 10) (g 11) (g 12) (g 13) (g 14) (g 15) (g 16) (g 17) (g 18) (g 19) (ms 0) (ms 1) (ms 2) (ms 3) q.2.1 (ms 5) (ms 6) q.2.2.1 (ms 8) (ms 9) (ms 10) (ms 11) q.2.1 rfl) [false, false, false, false, false, false, false, false, false, false, false, false, false, false, false, false, false, false, false, false, false, false, false, false, false, false, false, false, false, false, false, false, false, false, false, false, false, false, false, false, false, false, false, false, false, false, false, false, false, false, false, false, false, false, false, true] (Nat.le_of_ble_eq_true rfl) rfl rfl rfl rfl rfl ⟨Nat.le_of_ble_eq_true rfl, Nat.le_of_ble_eq_true rfl⟩ hc rfl rfl (Nat.le_of_ble_eq_true rfl) dL_law_2521 (fun H locs hW => ?_)
  have hW : WD D A s (w_LAW E h g o od (va_up ss 23 r.2.2.1) (va_up aa 28 r.2.2.2) (va_up (va_up ms 4 q.2.1) 7 q.2.2.1) (va_up ma 16 q.2.2.2) (if r.1 = 0 then vp_updL fo 0 (r.2.1).toInt64 else fo) fd ++ w_pool E (h 19) hp pl po pa) H locs := hW
  refine lv_iload hx hb dL_law_2524 (lv_at hl 1 rfl) ?_
  refine lv_icmp_eq (tgt := 2531) hx hb dL_law_2526 (by decide) (fun _ => ?_) (fun z => absurd (hth.trans e6.symm) z)
  refine lv_iload hx hb dL_law_2531 (lv_at hl 1 rfl) ?_
  have hend : ∀ (ls : Array Slot), lv_has ls 9 [(7, .int z7), (6, .int z6), (0, .ref b), (1, .ref (h 0)), (2, .ref (g 0)), (3, .ref o), (4, .ref od), (5, .int (nI i))] → W p l e room_1 s m #[.ref b] below meth c H locs (cells + 4) (slots + 24) Q (F0 m 2548 ls []) := fun ls hl => by
    refine lv_goto (tgt := 2740) hx hb dL_law_2548 (by decide) ?_
    exact kk _ _ _ ⟨_, _, _, _, _, _, _, _, _, hR1, hW⟩ (lv_sub hl [2, 3, 4, 5, 6, 7] rfl)
  refine lv_if_ne (tgt := 2548) hx hb dL_law_2533 (by decide) (fun _ => hend ls hl) (fun z9 => ?_)
  obtain ⟨hk0, hv⟩ := hans (e6.symm.trans z9)
  refine lv_aload_n hx hb dL_law_2536 rfl (lv_at hl 5 rfl) ?_
  refine lv_iconst (v := 0) hx hb dL_law_2537 (by decide) ?_
  refine va_lald hx hb hK hW.1 75 4 rfl rfl (by unfold vp_in; decide) dL_law_2538 ?_
  refine lv_topl (fun z8 e8_ => ?_)
  have e9 : z8 = (r.2.1).toInt64 := by
    rw [e8_, if_pos hk0]; rfl
  refine lv_iload hx hb dL_law_2539 (lv_at hl 0 rfl) ?_
  refine lv_i2l hx hb dL_law_2541 rfl ?_
  refine W.lcmp hx hb dL_law_2542 ?_
  refine lv_if_eq (tgt := 2548) hx hb dL_law_2543 (by decide) (fun _ => hend ls hl) (fun z => absurd ?_ z)
  rw [e9, hv, e7_]
  exact lg_cmp_self _
set_option maxHeartbeats 4000000 in
set_option maxRecDepth 100000 in
theorem k_43 {p : Program} {l : Launch} {e : Env} {s : State} {m : MethodId} {below : List Frame} {meth : Method} {c : Code} {D : va_G} {E : Nat → ClassId} {A : Nat → Prop} {b N i : Nat} {xs : Nat → Int32} {h g : Nat → Nat} {hp : Nat → Nat → Nat} {o od : Nat} {Q : State → Prop} {H : Heap} {locs : List Loc} {cells slots : Nat} {ls : Array Slot} (C : LCC p l s m c D E A b N xs) (hi : i + 4 ≤ N) (S : LSS D E A s h g hp o od H locs) (hl : lv_has ls 9 [(0, .ref b), (1, .ref (h 0)), (2, .ref (g 0)), (3, .ref o), (4, .ref od), (5, .int (nI i))]) (hc : cells + 4 ≤ room_1.cells ∧ slots + 24 ≤ room_1.slots) (kk : ∀ (H : Heap) (locs : List Loc) (ls : Array Slot), LSS D E A s h g hp o od H locs → lv_has ls 9 [(0, .ref b), (1, .ref (h 0)), (2, .ref (g 0)), (3, .ref o), (4, .ref od), (5, .int (nI i))] → W p l e room_1 s m #[.ref b] below meth c H locs (cells + 4) (slots + 24) Q (F0 m 2740 ls [])) : W p l e room_1 s m #[.ref b] below meth c H locs cells slots Q (F0 m 2551 ls []) := by
  obtain ⟨hF, hlt, hK, hA, hZ, hN, hX, hbl, hbA, hN9⟩ := C
  obtain ⟨ss, aa, pl, po, pa, ms, ma, fo, fd, hR, hW⟩ := S
  obtain ⟨i0, i1, i2, i3⟩ := ix_ok hi hN9
  have hx := hF.1
  have hb := hF.2.1
  refine lv_aload_n hx hb dL_law_2551 rfl (lv_at hl 1 rfl) ?_
  refine lv_aload_n hx hb dL_law_2552 rfl (lv_at hl 3 rfl) ?_
  obtain ⟨r, e7, q, e8, hM, hR1⟩ := call_read hR
  have hk : r.1 = 0 ∨ r.1 = 1 ∨ r.1 = 2 := by
    rcases hM with ⟨m1, m2, m3⟩ | ⟨m1, m2⟩ | ⟨m1, m2⟩
    · exact Or.inl m1
    · exact Or.inr (Or.inl m1)
    · exact Or.inr (Or.inr (m1))
  have hth : q.2.2.2.1 = (if r.1 = 1 then 1 else (if r.1 = 2 then 2 else 0)) := by
    rcases hM with ⟨m1, m2, m3⟩ | ⟨m1, m2⟩ | ⟨m1, m2⟩
    · rw [m1, m2]; rfl
    · rw [m1, m2]; rfl
    · rw [m1, m2]; rfl
  have hans : ((if r.1 = 1 then 1 else (if r.1 = 2 then 2 else 0)) : Int32) = 0 → r.1 = 0 ∧ r.2.1 = q.1 := by
    intro z9
    rcases hM with ⟨m1, m2, m3⟩ | ⟨m1, m2⟩ | ⟨m1, m2⟩
    · exact ⟨m1, m3⟩
    · exact absurd z9 (by rw [m1]; decide)
    · exact absurd z9 (by rw [m1]; decide)
  refine q_LWPm (pool_fst _ _ _ _ _ _ _ _ _) hF hl.1 hK hA hZ hN hW mW_read ml_L_306 (v_read l D E (h 0) o _ _ r.1 r.2.1 fo (c_X7_read l hlt D E (h 0) (h 1) (h 2) (h 3) (h 4) (h 5) (h 6) (h 7) (h 8) (h 9) (h 10) (h 11) (h 12) (h 13) (h 14) (h 15) (h 16) (h 17) (h 18) (h 42) (h 43) (h 44) (h 45) (h 46) (h 47) (h 48) (h 19) (h 20) (h 21) (h 22) (h 23) (h 24) (h 25) (h 26) (h 27) (h 28) (h 40) (h 41) hp (ss 0) (ss 1) (ss 10) (ss 11) (aa 1) (aa 2) (aa 3) (aa 4) (aa 5) (aa 6) (aa 0) (ss 24) (ss 25) (aa 29) (aa 30) (aa 31) (aa 32) (aa 33) (aa 34) (aa 35) (ss 12) (ss 13) (ss 2) (ss 3) (ss 4) (ss 5) (ss 6) (ss 7) (ss 8) (ss 9) (ss 23) (aa 28) (aa 36) pl po pa r.1 r.2.1 r.2.2.1 r.2.2.2.1 r.2.2.2.2.1 r.2.2.2.2.2.1 r.2.2.2.2.2.2.1 r.2.2.2.2.2.2.2.1 r.2.2.2.2.2.2.2.2.1 r.2.2.2.2.2.2.2.2.2.1 r.2.2.2.2.2.2.2.2.2.2.1 r.2.2.2.2.2.2.2.2.2.2.2.1 r.2.2.2.2.2.2.2.2.2.2.2.2.1 r.2.2.2.2.2.2.2.2.2.2.2.2.2.1 r.2.2.2.2.2.2.2.2.2.2.2.2.2.2.1 r.2.2.2.2.2.2.2.2.2.2.2.2.2.2.2.1 r.2.2.2.2.2.2.2.2.2.2.2.2.2.2.2.2.1 r.2.2.2.2.2.2.2.2.2.2.2.2.2.2.2.2.2.1 r.2.2.2.2.2.2.2.2.2.2.2.2.2.2.2.2.2.2.1 r.2.2.2.2.2.2.2.2.2.2.2.2.2.2.2.2.2.2.2.1 r.2.2.2.2.2.2.2.2.2.2.2.2.2.2.2.2.2.2.2.2.1 r.2.2.2.2.2.2.2.2.2.2.2.2.2.2.2.2.2.2.2.2.2.1 r.2.2.2.2.2.2.2.2.2.2.2.2.2.2.2.2.2.2.2.2.2.2.1 r.2.2.2.2.2.2.2.2.2.2.2.2.2.2.2.2.2.2.2.2.2.2.2.1 r.2.2.2.2.2.2.2.2.2.2.2.2.2.2.2.2.2.2.2.2.2.2.2.2.1 r.2.2.2.2.2.2.2.2.2.2.2.2.2.2.2.2.2.2.2.2.2.2.2.2.2.1 r.2.2.2.2.2.2.2.2.2.2.2.2.2.2.2.2.2.2.2.2.2.2.2.2.2.2.1 r.2.2.2.2.2.2.2.2.2.2.2.2.2.2.2.2.2.2.2.2.2.2.2.2.2.2.2.1 r.2.2.2.2.2.2.2.2.2.2.2.2.2.2.2.2.2.2.2.2.2.2.2.2.2.2.2.2.1 r.2.2.2.2.2.2.2.2.2.2.2.2.2.2.2.2.2.2.2.2.2.2.2.2.2.2.2.2.2 e7) rfl (by rw [List.map_append, List.map_append]; rfl) hk) [true, true, true, true, true, true, true, true, true, true, false, true, false, true, false, true, false, true, false, true, false, true, false, true, false, true, true, false, false, false, false, false, false, false, false, false, false, false, false, false, false, false, false, false, true, false, true, false, false, true, false, true] 75 (Nat.le_of_ble_eq_true rfl) rfl rfl (Nat.le_of_ble_eq_true rfl) rfl rfl ⟨Nat.le_of_ble_eq_true rfl, Nat.le_of_ble_eq_true rfl⟩ ⟨Nat.le_trans (Nat.add_le_add_left (Nat.le_of_ble_eq_true rfl) cells) hc.1, Nat.le_trans (Nat.add_le_add_left (Nat.le_of_ble_eq_true rfl) slots) hc.2⟩ rfl rfl (Nat.le_of_ble_eq_true rfl) dL_law_2553 (fun H locs hW => ?_)
  refine W.widen (Nat.add_le_add_left (Nat.le_of_ble_eq_true rfl : 1 ≤ 4) cells) (Nat.add_le_add_left (Nat.le_of_ble_eq_true rfl : 6 ≤ 24) slots) ?_
  have hW : WD D A s (w_LAW E h g o od (va_up (va_up (va_up (va_up (va_up (va_up (va_up (va_up (va_up (va_up ss 1 r.2.2.1) 10 r.2.2.2.1) 11 r.2.2.2.2.1) 24 r.2.2.2.2.2.2.2.2.2.2.2.2.1) 25 r.2.2.2.2.2.2.2.2.2.2.2.2.2.1) 12 r.2.2.2.2.2.2.2.2.2.2.2.2.2.2.2.2.2.2.2.2.2.1) 13 r.2.2.2.2.2.2.2.2.2.2.2.2.2.2.2.2.2.2.2.2.2.2.1) 2 r.2.2.2.2.2.2.2.2.2.2.2.2.2.2.2.2.2.2.2.2.2.2.2.1) 6 r.2.2.2.2.2.2.2.2.2.2.2.2.2.2.2.2.2.2.2.2.2.2.2.2.1) 23 r.2.2.2.2.2.2.2.2.2.2.2.2.2.2.2.2.2.2.2.2.2.2.2.2.2.1) (va_up (va_up (va_up (va_up (va_up (va_up (va_up (va_up (va_up (va_up (va_up (va_up (va_up (va_up (va_up aa 1 r.2.2.2.2.2.1) 2 r.2.2.2.2.2.2.1) 3 r.2.2.2.2.2.2.2.1) 4 r.2.2.2.2.2.2.2.2.1) 5 r.2.2.2.2.2.2.2.2.2.1) 6 r.2.2.2.2.2.2.2.2.2.2.1) 0 r.2.2.2.2.2.2.2.2.2.2.2.1) 29 r.2.2.2.2.2.2.2.2.2.2.2.2.2.2.1) 30 r.2.2.2.2.2.2.2.2.2.2.2.2.2.2.2.1) 31 r.2.2.2.2.2.2.2.2.2.2.2.2.2.2.2.2.1) 32 r.2.2.2.2.2.2.2.2.2.2.2.2.2.2.2.2.2.1) 33 r.2.2.2.2.2.2.2.2.2.2.2.2.2.2.2.2.2.2.1) 34 r.2.2.2.2.2.2.2.2.2.2.2.2.2.2.2.2.2.2.2.1) 35 r.2.2.2.2.2.2.2.2.2.2.2.2.2.2.2.2.2.2.2.2.1) 36 r.2.2.2.2.2.2.2.2.2.2.2.2.2.2.2.2.2.2.2.2.2.2.2.2.2.2.1) ms ma (if r.1 = 0 then vp_updL fo 0 (r.2.1).toInt64 else fo) fd ++ w_pool E (h 19) hp r.2.2.2.2.2.2.2.2.2.2.2.2.2.2.2.2.2.2.2.2.2.2.2.2.2.2.2.1 r.2.2.2.2.2.2.2.2.2.2.2.2.2.2.2.2.2.2.2.2.2.2.2.2.2.2.2.2.1 r.2.2.2.2.2.2.2.2.2.2.2.2.2.2.2.2.2.2.2.2.2.2.2.2.2.2.2.2.2) H locs := hW
  refine lv_topi (fun z6 e6 => ?_)
  refine lv_istore (lv' := [(6, .int z6), (0, .ref b), (1, .ref (h 0)), (2, .ref (g 0)), (3, .ref o), (4, .ref od), (5, .int (nI i))]) hx hb dL_law_2556 hl (by decide) rfl (fun ls hl => ?_)
  refine lv_aload_n hx hb dL_law_2558 rfl (lv_at hl 3 rfl) ?_
  refine q_callIm hF hl.1 hK hA hZ hW mv_X8_read ml_L_308 (c_X8_read l D E TXL (g 0) (g 1) (g 2) (g 3) (g 4) (g 5) (g 6) (g 7) (g 8) (g 9) (g 10) (g 11) (g 12) (g 13) (g 14) (g 15) (g 16) (g 17) (g 18) (g 19) (ms 0) (ms 1) (ms 2) (ms 3) (ms 4) (ms 5) (ms 6) (ms 7) (ms 8) (ms 9) (ms 10) (ms 11) (ma 0) (ma 1) (ma 16) (ma 17) (ma 18) q.1 q.2.1 q.2.2.1 q.2.2.2.1 q.2.2.2.2.1 q.2.2.2.2.2.1 q.2.2.2.2.2.2.1 q.2.2.2.2.2.2.2.1 q.2.2.2.2.2.2.2.2.1 q.2.2.2.2.2.2.2.2.2.1 q.2.2.2.2.2.2.2.2.2.2.1 q.2.2.2.2.2.2.2.2.2.2.2.1 q.2.2.2.2.2.2.2.2.2.2.2.2 e8) [false, false, false, false, false, false, false, false, false, false, false, false, false, false, false, false, false, false, false, false, false, false, false, false, false, false, false, false, false, false, false, false, false, false, false, false, false, false, false, false, false, false, false, false, false, false, false, false, false, false, false, false, false, false, false, true, true, true, false, false, true, false, true, false, true] (Nat.le_of_ble_eq_true rfl) rfl rfl rfl rfl rfl ⟨Nat.le_of_ble_eq_true rfl, Nat.le_of_ble_eq_true rfl⟩ hc rfl rfl (Nat.le_of_ble_eq_true rfl) dL_law_2559 (fun H locs hW => ?_)
  have hW : WD D A s (w_LAW E h g o od (va_up (va_up (va_up (va_up (va_up (va_up (va_up (va_up (va_up (va_up ss 1 r.2.2.1) 10 r.2.2.2.1) 11 r.2.2.2.2.1) 24 r.2.2.2.2.2.2.2.2.2.2.2.2.1) 25 r.2.2.2.2.2.2.2.2.2.2.2.2.2.1) 12 r.2.2.2.2.2.2.2.2.2.2.2.2.2.2.2.2.2.2.2.2.2.1) 13 r.2.2.2.2.2.2.2.2.2.2.2.2.2.2.2.2.2.2.2.2.2.2.1) 2 r.2.2.2.2.2.2.2.2.2.2.2.2.2.2.2.2.2.2.2.2.2.2.2.1) 6 r.2.2.2.2.2.2.2.2.2.2.2.2.2.2.2.2.2.2.2.2.2.2.2.2.1) 23 r.2.2.2.2.2.2.2.2.2.2.2.2.2.2.2.2.2.2.2.2.2.2.2.2.2.1) (va_up (va_up (va_up (va_up (va_up (va_up (va_up (va_up (va_up (va_up (va_up (va_up (va_up (va_up (va_up aa 1 r.2.2.2.2.2.1) 2 r.2.2.2.2.2.2.1) 3 r.2.2.2.2.2.2.2.1) 4 r.2.2.2.2.2.2.2.2.1) 5 r.2.2.2.2.2.2.2.2.2.1) 6 r.2.2.2.2.2.2.2.2.2.2.1) 0 r.2.2.2.2.2.2.2.2.2.2.2.1) 29 r.2.2.2.2.2.2.2.2.2.2.2.2.2.2.1) 30 r.2.2.2.2.2.2.2.2.2.2.2.2.2.2.2.1) 31 r.2.2.2.2.2.2.2.2.2.2.2.2.2.2.2.2.1) 32 r.2.2.2.2.2.2.2.2.2.2.2.2.2.2.2.2.2.1) 33 r.2.2.2.2.2.2.2.2.2.2.2.2.2.2.2.2.2.2.1) 34 r.2.2.2.2.2.2.2.2.2.2.2.2.2.2.2.2.2.2.2.1) 35 r.2.2.2.2.2.2.2.2.2.2.2.2.2.2.2.2.2.2.2.2.1) 36 r.2.2.2.2.2.2.2.2.2.2.2.2.2.2.2.2.2.2.2.2.2.2.2.2.2.2.1) (va_up (va_up (va_up (va_up (va_up (va_up (va_up (va_up ms 1 q.2.1) 2 q.2.2.1) 4 q.2.2.2.1) 7 q.2.2.2.2.1) 8 q.2.2.2.2.2.1) 9 q.2.2.2.2.2.2.1) 10 q.2.2.2.2.2.2.2.1) 11 q.2.2.2.2.2.2.2.2.1) (va_up (va_up (va_up (va_up ma 0 q.2.2.2.2.2.2.2.2.2.1) 1 q.2.2.2.2.2.2.2.2.2.2.1) 17 q.2.2.2.2.2.2.2.2.2.2.2.1) 18 q.2.2.2.2.2.2.2.2.2.2.2.2) (if r.1 = 0 then vp_updL fo 0 (r.2.1).toInt64 else fo) fd ++ w_pool E (h 19) hp r.2.2.2.2.2.2.2.2.2.2.2.2.2.2.2.2.2.2.2.2.2.2.2.2.2.2.2.1 r.2.2.2.2.2.2.2.2.2.2.2.2.2.2.2.2.2.2.2.2.2.2.2.2.2.2.2.2.1 r.2.2.2.2.2.2.2.2.2.2.2.2.2.2.2.2.2.2.2.2.2.2.2.2.2.2.2.2.2) H locs := hW
  refine lv_topi (fun z7 e7_ => ?_)
  refine lv_istore (lv' := [(7, .int z7), (6, .int z6), (0, .ref b), (1, .ref (h 0)), (2, .ref (g 0)), (3, .ref o), (4, .ref od), (5, .int (nI i))]) hx hb dL_law_2562 hl (by decide) rfl (fun ls hl => ?_)
  refine lv_aload_n hx hb dL_law_2564 rfl (lv_at hl 4 rfl) ?_
  refine q_callIm hF hl.1 hK hA hZ hW mv_X8_thrown ml_L_168 (c_X8_thrown l D E TXL (g 0) (g 1) (g 2) (g 3) (g 4) (g 5) (g 6) (g 7) (g 8) (g 9) (g 10) (g 11) (g 12) (g 13) (g 14) (g 15) (g 16) (g 17) (g 18) (g 19) (ms 0) q.2.1 q.2.2.1 (ms 3) q.2.2.2.1 (ms 5) (ms 6) q.2.2.2.2.1 q.2.2.2.2.2.1 q.2.2.2.2.2.2.1 q.2.2.2.2.2.2.2.1 q.2.2.2.2.2.2.2.2.1 q.2.2.2.1 rfl) [false, false, false, false, false, false, false, false, false, false, false, false, false, false, false, false, false, false, false, false, false, false, false, false, false, false, false, false, false, false, false, false, false, false, false, false, false, false, false, false, false, false, false, false, false, false, false, false, false, false, false, false, false, false, false, true] (Nat.le_of_ble_eq_true rfl) rfl rfl rfl rfl rfl ⟨Nat.le_of_ble_eq_true rfl, Nat.le_of_ble_eq_true rfl⟩ hc rfl rfl (Nat.le_of_ble_eq_true rfl) dL_law_2565 (fun H locs hW => ?_)
  have hW : WD D A s (w_LAW E h g o od (va_up (va_up (va_up (va_up (va_up (va_up (va_up (va_up (va_up (va_up ss 1 r.2.2.1) 10 r.2.2.2.1) 11 r.2.2.2.2.1) 24 r.2.2.2.2.2.2.2.2.2.2.2.2.1) 25 r.2.2.2.2.2.2.2.2.2.2.2.2.2.1) 12 r.2.2.2.2.2.2.2.2.2.2.2.2.2.2.2.2.2.2.2.2.2.1) 13 r.2.2.2.2.2.2.2.2.2.2.2.2.2.2.2.2.2.2.2.2.2.2.1) 2 r.2.2.2.2.2.2.2.2.2.2.2.2.2.2.2.2.2.2.2.2.2.2.2.1) 6 r.2.2.2.2.2.2.2.2.2.2.2.2.2.2.2.2.2.2.2.2.2.2.2.2.1) 23 r.2.2.2.2.2.2.2.2.2.2.2.2.2.2.2.2.2.2.2.2.2.2.2.2.2.1) (va_up (va_up (va_up (va_up (va_up (va_up (va_up (va_up (va_up (va_up (va_up (va_up (va_up (va_up (va_up aa 1 r.2.2.2.2.2.1) 2 r.2.2.2.2.2.2.1) 3 r.2.2.2.2.2.2.2.1) 4 r.2.2.2.2.2.2.2.2.1) 5 r.2.2.2.2.2.2.2.2.2.1) 6 r.2.2.2.2.2.2.2.2.2.2.1) 0 r.2.2.2.2.2.2.2.2.2.2.2.1) 29 r.2.2.2.2.2.2.2.2.2.2.2.2.2.2.1) 30 r.2.2.2.2.2.2.2.2.2.2.2.2.2.2.2.1) 31 r.2.2.2.2.2.2.2.2.2.2.2.2.2.2.2.2.1) 32 r.2.2.2.2.2.2.2.2.2.2.2.2.2.2.2.2.2.1) 33 r.2.2.2.2.2.2.2.2.2.2.2.2.2.2.2.2.2.2.1) 34 r.2.2.2.2.2.2.2.2.2.2.2.2.2.2.2.2.2.2.2.1) 35 r.2.2.2.2.2.2.2.2.2.2.2.2.2.2.2.2.2.2.2.2.1) 36 r.2.2.2.2.2.2.2.2.2.2.2.2.2.2.2.2.2.2.2.2.2.2.2.2.2.2.1) (va_up (va_up (va_up (va_up (va_up (va_up (va_up (va_up ms 1 q.2.1) 2 q.2.2.1) 4 q.2.2.2.1) 7 q.2.2.2.2.1) 8 q.2.2.2.2.2.1) 9 q.2.2.2.2.2.2.1) 10 q.2.2.2.2.2.2.2.1) 11 q.2.2.2.2.2.2.2.2.1) (va_up (va_up (va_up (va_up ma 0 q.2.2.2.2.2.2.2.2.2.1) 1 q.2.2.2.2.2.2.2.2.2.2.1) 17 q.2.2.2.2.2.2.2.2.2.2.2.1) 18 q.2.2.2.2.2.2.2.2.2.2.2.2) (if r.1 = 0 then vp_updL fo 0 (r.2.1).toInt64 else fo) fd ++ w_pool E (h 19) hp r.2.2.2.2.2.2.2.2.2.2.2.2.2.2.2.2.2.2.2.2.2.2.2.2.2.2.2.1 r.2.2.2.2.2.2.2.2.2.2.2.2.2.2.2.2.2.2.2.2.2.2.2.2.2.2.2.2.1 r.2.2.2.2.2.2.2.2.2.2.2.2.2.2.2.2.2.2.2.2.2.2.2.2.2.2.2.2.2) H locs := hW
  refine lv_iload hx hb dL_law_2568 (lv_at hl 1 rfl) ?_
  refine lv_icmp_eq (tgt := 2575) hx hb dL_law_2570 (by decide) (fun _ => ?_) (fun z => absurd (hth.trans e6.symm) z)
  refine lv_iload hx hb dL_law_2575 (lv_at hl 1 rfl) ?_
  have hend : ∀ (ls : Array Slot), lv_has ls 9 [(7, .int z7), (6, .int z6), (0, .ref b), (1, .ref (h 0)), (2, .ref (g 0)), (3, .ref o), (4, .ref od), (5, .int (nI i))] → W p l e room_1 s m #[.ref b] below meth c H locs (cells + 4) (slots + 24) Q (F0 m 2592 ls []) := fun ls hl => by
    refine lv_goto (tgt := 2740) hx hb dL_law_2592 (by decide) ?_
    exact kk _ _ _ ⟨_, _, _, _, _, _, _, _, _, hR1, hW⟩ (lv_sub hl [2, 3, 4, 5, 6, 7] rfl)
  refine lv_if_ne (tgt := 2592) hx hb dL_law_2577 (by decide) (fun _ => hend ls hl) (fun z9 => ?_)
  obtain ⟨hk0, hv⟩ := hans (e6.symm.trans z9)
  refine lv_aload_n hx hb dL_law_2580 rfl (lv_at hl 5 rfl) ?_
  refine lv_iconst (v := 0) hx hb dL_law_2581 (by decide) ?_
  refine va_lald hx hb hK hW.1 75 4 rfl rfl (by unfold vp_in; decide) dL_law_2582 ?_
  refine lv_topl (fun z8 e8_ => ?_)
  have e9 : z8 = (r.2.1).toInt64 := by
    rw [e8_, if_pos hk0]; rfl
  refine lv_iload hx hb dL_law_2583 (lv_at hl 0 rfl) ?_
  refine lv_i2l hx hb dL_law_2585 rfl ?_
  refine W.lcmp hx hb dL_law_2586 ?_
  refine lv_if_eq (tgt := 2592) hx hb dL_law_2587 (by decide) (fun _ => hend ls hl) (fun z => absurd ?_ z)
  rw [e9, hv, e7_]
  exact lg_cmp_self _
set_option maxHeartbeats 4000000 in
set_option maxRecDepth 100000 in
theorem k_44 {p : Program} {l : Launch} {e : Env} {s : State} {m : MethodId} {below : List Frame} {meth : Method} {c : Code} {D : va_G} {E : Nat → ClassId} {A : Nat → Prop} {b N i : Nat} {xs : Nat → Int32} {h g : Nat → Nat} {hp : Nat → Nat → Nat} {o od : Nat} {Q : State → Prop} {H : Heap} {locs : List Loc} {cells slots : Nat} {ls : Array Slot} (C : LCC p l s m c D E A b N xs) (hi : i + 4 ≤ N) (S : LSS D E A s h g hp o od H locs) (hl : lv_has ls 9 [(0, .ref b), (1, .ref (h 0)), (2, .ref (g 0)), (3, .ref o), (4, .ref od), (5, .int (nI i))]) (hc : cells + 4 ≤ room_1.cells ∧ slots + 24 ≤ room_1.slots) (kk : ∀ (H : Heap) (locs : List Loc) (ls : Array Slot), LSS D E A s h g hp o od H locs → lv_has ls 9 [(0, .ref b), (1, .ref (h 0)), (2, .ref (g 0)), (3, .ref o), (4, .ref od), (5, .int (nI i))] → W p l e room_1 s m #[.ref b] below meth c H locs (cells + 4) (slots + 24) Q (F0 m 2740 ls [])) : W p l e room_1 s m #[.ref b] below meth c H locs cells slots Q (F0 m 2595 ls []) := by
  obtain ⟨hF, hlt, hK, hA, hZ, hN, hX, hbl, hbA, hN9⟩ := C
  obtain ⟨ss, aa, pl, po, pa, ms, ma, fo, fd, hR, hW⟩ := S
  obtain ⟨i0, i1, i2, i3⟩ := ix_ok hi hN9
  have hx := hF.1
  have hb := hF.2.1
  refine lv_aload_n hx hb dL_law_2595 rfl (lv_at hl 1 rfl) ?_
  refine lv_aload_n hx hb dL_law_2596 rfl (lv_at hl 3 rfl) ?_
  obtain ⟨r, e7, q, e8, hM, hR1⟩ := call_errorPosition hR
  have hk : r.1 = 0 ∨ r.1 = 4 := by
    rcases hM with ⟨m1, m2, m3⟩ | ⟨m1, m2⟩
    · exact Or.inl m1
    · exact Or.inr (m1)
  have hth : q.2 = (if r.1 = 4 then 1 else 0) := by
    rcases hM with ⟨m1, m2, m3⟩ | ⟨m1, m2⟩
    · rw [m1, m2]; rfl
    · rw [m1, m2]; rfl
  have hans : ((if r.1 = 4 then 1 else 0) : Int32) = 0 → r.1 = 0 ∧ r.2 = q.1 := by
    intro z9
    rcases hM with ⟨m1, m2, m3⟩ | ⟨m1, m2⟩
    · exact ⟨m1, m3⟩
    · exact absurd z9 (by rw [m1]; decide)
  refine q_LWm hF hl.1 hK hA hZ hN hW mW_errorPosition ml_L_309 (v_errorPosition l D E (h 0) o _ _ r.1 r.2 fo (c_X7_errorPosition l hlt D E (h 0) (h 1) (h 2) (h 3) (h 4) (h 5) (h 6) (h 7) (h 8) (h 9) (h 10) (h 11) (ss 0) (ss 1) r.1 r.2 e7) rfl rfl hk) [true, false, false, false, false, false, false, false, false, false, false, false, false, false, false, false, false, false, false, false, false, false, false, false, false, false, false, false, false, false, false, false, false, false, false, false, false, false, false, false, false, false, false, false, false, false, false, false, false, false, false, false, false, false, false, false, false, false, false, false, false, false, false, false, false, false, false, false, false, false, false, false, false, false, false, true] (Nat.le_of_ble_eq_true rfl) rfl rfl ⟨Nat.le_of_ble_eq_true rfl, Nat.le_of_ble_eq_true rfl⟩ ⟨Nat.le_trans (Nat.add_le_add_left (Nat.le_of_ble_eq_true rfl) cells) hc.1, Nat.le_trans (Nat.add_le_add_left (Nat.le_of_ble_eq_true rfl) slots) hc.2⟩ rfl rfl (Nat.le_of_ble_eq_true rfl) dL_law_2597 (fun H locs hW => ?_)
  refine W.widen (Nat.add_le_add_left (Nat.le_of_ble_eq_true rfl : 1 ≤ 4) cells) (Nat.add_le_add_left (Nat.le_of_ble_eq_true rfl : 6 ≤ 24) slots) ?_
  have hW : WD D A s (w_LAW E h g o od ss aa ms ma (if r.1 = 0 then vp_updL fo 0 (r.2).toInt64 else fo) fd ++ w_pool E (h 19) hp pl po pa) H locs := hW
  refine lv_topi (fun z6 e6 => ?_)
  refine lv_istore (lv' := [(6, .int z6), (0, .ref b), (1, .ref (h 0)), (2, .ref (g 0)), (3, .ref o), (4, .ref od), (5, .int (nI i))]) hx hb dL_law_2600 hl (by decide) rfl (fun ls hl => ?_)
  refine lv_aload_n hx hb dL_law_2602 rfl (lv_at hl 3 rfl) ?_
  refine q_callIm hF hl.1 hK hA hZ hW mv_X8_errorPosition ml_L_311 (c_X8_errorPosition l D E TXL (g 0) (g 1) (g 2) (g 3) (g 4) (g 5) (g 6) (g 7) (g 8) (g 9) (g 10) (g 11) (g 12) (g 13) (g 14) (g 15) (g 16) (g 17) (g 18) (g 19) (ms 0) (ms 1) (ms 2) (ms 3) (ms 4) (ms 5) (ms 6) (ms 7) (ms 8) (ms 9) (ms 10) (ms 11) q.1 q.2 e8) [false, false, false, false, false, false, false, false, false, false, false, false, false, false, false, false, false, false, false, false, false, false, false, false, false, false, false, false, false, false, false, false, false, false, false, false, false, false, false, false, false, false, false, false, false, false, false, false, false, false, false, false, false, false, false, true] (Nat.le_of_ble_eq_true rfl) rfl rfl rfl rfl rfl ⟨Nat.le_of_ble_eq_true rfl, Nat.le_of_ble_eq_true rfl⟩ hc rfl rfl (Nat.le_of_ble_eq_true rfl) dL_law_2603 (fun H locs hW => ?_)
  have hW : WD D A s (w_LAW E h g o od ss aa (va_up ms 4 q.2) ma (if r.1 = 0 then vp_updL fo 0 (r.2).toInt64 else fo) fd ++ w_pool E (h 19) hp pl po pa) H locs := hW
  refine lv_topi (fun z7 e7_ => ?_)
  refine lv_istore (lv' := [(7, .int z7), (6, .int z6), (0, .ref b), (1, .ref (h 0)), (2, .ref (g 0)), (3, .ref o), (4, .ref od), (5, .int (nI i))]) hx hb dL_law_2606 hl (by decide) rfl (fun ls hl => ?_)
  refine lv_aload_n hx hb dL_law_2608 rfl (lv_at hl 4 rfl) ?_
  refine q_callIm hF hl.1 hK hA hZ hW mv_X8_thrown ml_L_168 (c_X8_thrown l D E TXL (g 0) (g 1) (g 2) (g 3) (g 4) (g 5) (g 6) (g 7) (g 8) (g 9) (g 10) (g 11) (g 12) (g 13) (g 14) (g 15) (g 16) (g 17) (g 18) (g 19) (ms 0) (ms 1) (ms 2) (ms 3) q.2 (ms 5) (ms 6) (ms 7) (ms 8) (ms 9) (ms 10) (ms 11) q.2 rfl) [false, false, false, false, false, false, false, false, false, false, false, false, false, false, false, false, false, false, false, false, false, false, false, false, false, false, false, false, false, false, false, false, false, false, false, false, false, false, false, false, false, false, false, false, false, false, false, false, false, false, false, false, false, false, false, true] (Nat.le_of_ble_eq_true rfl) rfl rfl rfl rfl rfl ⟨Nat.le_of_ble_eq_true rfl, Nat.le_of_ble_eq_true rfl⟩ hc rfl rfl (Nat.le_of_ble_eq_true rfl) dL_law_2609 (fun H locs hW => ?_)
  have hW : WD D A s (w_LAW E h g o od ss aa (va_up ms 4 q.2) ma (if r.1 = 0 then vp_updL fo 0 (r.2).toInt64 else fo) fd ++ w_pool E (h 19) hp pl po pa) H locs := hW
  refine lv_iload hx hb dL_law_2612 (lv_at hl 1 rfl) ?_
  refine lv_icmp_eq (tgt := 2619) hx hb dL_law_2614 (by decide) (fun _ => ?_) (fun z => absurd (hth.trans e6.symm) z)
  refine lv_iload hx hb dL_law_2619 (lv_at hl 1 rfl) ?_
  have hend : ∀ (ls : Array Slot), lv_has ls 9 [(7, .int z7), (6, .int z6), (0, .ref b), (1, .ref (h 0)), (2, .ref (g 0)), (3, .ref o), (4, .ref od), (5, .int (nI i))] → W p l e room_1 s m #[.ref b] below meth c H locs (cells + 4) (slots + 24) Q (F0 m 2636 ls []) := fun ls hl => by
    refine lv_goto (tgt := 2740) hx hb dL_law_2636 (by decide) ?_
    exact kk _ _ _ ⟨_, _, _, _, _, _, _, _, _, hR1, hW⟩ (lv_sub hl [2, 3, 4, 5, 6, 7] rfl)
  refine lv_if_ne (tgt := 2636) hx hb dL_law_2621 (by decide) (fun _ => hend ls hl) (fun z9 => ?_)
  obtain ⟨hk0, hv⟩ := hans (e6.symm.trans z9)
  refine lv_aload_n hx hb dL_law_2624 rfl (lv_at hl 5 rfl) ?_
  refine lv_iconst (v := 0) hx hb dL_law_2625 (by decide) ?_
  refine va_lald hx hb hK hW.1 75 4 rfl rfl (by unfold vp_in; decide) dL_law_2626 ?_
  refine lv_topl (fun z8 e8_ => ?_)
  have e9 : z8 = (r.2).toInt64 := by
    rw [e8_, if_pos hk0]; rfl
  refine lv_iload hx hb dL_law_2627 (lv_at hl 0 rfl) ?_
  refine lv_i2l hx hb dL_law_2629 rfl ?_
  refine W.lcmp hx hb dL_law_2630 ?_
  refine lv_if_eq (tgt := 2636) hx hb dL_law_2631 (by decide) (fun _ => hend ls hl) (fun z => absurd ?_ z)
  rw [e9, hv, e7_]
  exact lg_cmp_self _
set_option maxHeartbeats 4000000 in
set_option maxRecDepth 100000 in
theorem k_45 {p : Program} {l : Launch} {e : Env} {s : State} {m : MethodId} {below : List Frame} {meth : Method} {c : Code} {D : va_G} {E : Nat → ClassId} {A : Nat → Prop} {b N i : Nat} {xs : Nat → Int32} {h g : Nat → Nat} {hp : Nat → Nat → Nat} {o od : Nat} {Q : State → Prop} {H : Heap} {locs : List Loc} {cells slots : Nat} {ls : Array Slot} (C : LCC p l s m c D E A b N xs) (hi : i + 4 ≤ N) (S : LSS D E A s h g hp o od H locs) (hl : lv_has ls 9 [(0, .ref b), (1, .ref (h 0)), (2, .ref (g 0)), (3, .ref o), (4, .ref od), (5, .int (nI i))]) (hc : cells + 4 ≤ room_1.cells ∧ slots + 24 ≤ room_1.slots) (kk : ∀ (H : Heap) (locs : List Loc) (ls : Array Slot), LSS D E A s h g hp o od H locs → lv_has ls 9 [(0, .ref b), (1, .ref (h 0)), (2, .ref (g 0)), (3, .ref o), (4, .ref od), (5, .int (nI i))] → W p l e room_1 s m #[.ref b] below meth c H locs (cells + 4) (slots + 24) Q (F0 m 2740 ls [])) : W p l e room_1 s m #[.ref b] below meth c H locs cells slots Q (F0 m 2639 ls []) := by
  obtain ⟨hF, hlt, hK, hA, hZ, hN, hX, hbl, hbA, hN9⟩ := C
  obtain ⟨ss, aa, pl, po, pa, ms, ma, fo, fd, hR, hW⟩ := S
  obtain ⟨i0, i1, i2, i3⟩ := ix_ok hi hN9
  have hx := hF.1
  have hb := hF.2.1
  refine lv_aload_n hx hb dL_law_2639 rfl (lv_at hl 1 rfl) ?_
  refine lv_aload_n hx hb dL_law_2640 rfl (lv_at hl 3 rfl) ?_
  obtain ⟨r, e7, q, e8, hM, hR1⟩ := call_undo hR
  have hk : r.1 = 0 ∨ r.1 = 4 := by
    rcases hM with ⟨m1, m2, m3⟩ | ⟨m1, m2⟩
    · exact Or.inl m1
    · exact Or.inr (m1)
  have hth : q.2.2.2.1 = (if r.1 = 4 then 1 else 0) := by
    rcases hM with ⟨m1, m2, m3⟩ | ⟨m1, m2⟩
    · rw [m1, m2]; rfl
    · rw [m1, m2]; rfl
  have hans : ((if r.1 = 4 then 1 else 0) : Int32) = 0 → r.1 = 0 ∧ r.2.1 = q.1 := by
    intro z9
    rcases hM with ⟨m1, m2, m3⟩ | ⟨m1, m2⟩
    · exact ⟨m1, m3⟩
    · exact absurd z9 (by rw [m1]; decide)
  refine q_LWPm (pool_fst _ _ _ _ _ _ _ _ _) hF hl.1 hK hA hZ hN hW mW_undo ml_L_312 (v_undo l D E (h 0) o _ _ r.1 r.2.1 fo (c_X7_undo l hlt D E (h 0) (h 1) (h 2) (h 3) (h 4) (h 5) (h 6) (h 7) (h 8) (h 9) (h 10) (h 11) (h 12) (h 13) (h 14) (h 15) (h 16) (h 17) (h 18) (h 19) (h 20) (h 21) (h 22) (h 23) (h 24) (h 25) (h 26) (h 27) (h 28) hp (ss 0) (ss 1) (ss 10) (ss 11) (aa 1) (aa 2) (aa 3) (aa 4) (aa 5) (aa 6) (aa 0) (ss 12) (ss 13) (ss 2) (ss 3) (ss 4) (ss 5) (ss 6) (ss 7) (ss 8) (ss 9) pl po pa r.1 r.2.1 r.2.2.1 r.2.2.2.1 r.2.2.2.2.1 r.2.2.2.2.2.1 r.2.2.2.2.2.2.1 r.2.2.2.2.2.2.2.1 r.2.2.2.2.2.2.2.2.1 r.2.2.2.2.2.2.2.2.2.1 r.2.2.2.2.2.2.2.2.2.2.1 r.2.2.2.2.2.2.2.2.2.2.2.1 r.2.2.2.2.2.2.2.2.2.2.2.2.1 r.2.2.2.2.2.2.2.2.2.2.2.2.2 e7) rfl (by rw [List.map_append, List.map_append]; rfl) hk) [true, true, true, true, true, true, true, true, true, false, false, false, false, false, false, false, false, false, false, false, false, false, false, false, false, true, true, false, false, false, false, false, false, false, false, false, false, false, false, false, false, false, false, false, true] 75 (Nat.le_of_ble_eq_true rfl) rfl rfl (Nat.le_of_ble_eq_true rfl) rfl rfl ⟨Nat.le_of_ble_eq_true rfl, Nat.le_of_ble_eq_true rfl⟩ ⟨Nat.le_trans (Nat.add_le_add_left (Nat.le_of_ble_eq_true rfl) cells) hc.1, Nat.le_trans (Nat.add_le_add_left (Nat.le_of_ble_eq_true rfl) slots) hc.2⟩ rfl rfl (Nat.le_of_ble_eq_true rfl) dL_law_2641 (fun H locs hW => ?_)
  refine W.widen (Nat.add_le_add_left (Nat.le_of_ble_eq_true rfl : 1 ≤ 4) cells) (Nat.add_le_add_left (Nat.le_of_ble_eq_true rfl : 6 ≤ 24) slots) ?_
  have hW : WD D A s (w_LAW E h g o od (va_up (va_up (va_up (va_up (va_up ss 10 r.2.2.1) 11 r.2.2.2.1) 12 r.2.2.2.2.2.2.2.2.2.2.2.1) 2 r.2.2.2.2.2.2.2.2.2.2.2.2.1) 6 r.2.2.2.2.2.2.2.2.2.2.2.2.2) (va_up (va_up (va_up (va_up (va_up (va_up (va_up aa 1 r.2.2.2.2.1) 2 r.2.2.2.2.2.1) 3 r.2.2.2.2.2.2.1) 4 r.2.2.2.2.2.2.2.1) 5 r.2.2.2.2.2.2.2.2.1) 6 r.2.2.2.2.2.2.2.2.2.1) 0 r.2.2.2.2.2.2.2.2.2.2.1) ms ma (if r.1 = 0 then vp_updL fo 0 (r.2.1).toInt64 else fo) fd ++ w_pool E (h 19) hp pl po pa) H locs := hW
  refine lv_topi (fun z6 e6 => ?_)
  refine lv_istore (lv' := [(6, .int z6), (0, .ref b), (1, .ref (h 0)), (2, .ref (g 0)), (3, .ref o), (4, .ref od), (5, .int (nI i))]) hx hb dL_law_2644 hl (by decide) rfl (fun ls hl => ?_)
  refine lv_aload_n hx hb dL_law_2646 rfl (lv_at hl 3 rfl) ?_
  refine q_callIm hF hl.1 hK hA hZ hW mv_X8_undo ml_L_314 (c_X8_undo l D E TXL (g 0) (g 1) (g 2) (g 3) (g 4) (g 5) (g 6) (g 7) (g 8) (g 9) (g 10) (g 11) (g 12) (g 13) (g 14) (g 15) (g 16) (g 17) (g 18) (g 19) (ms 0) (ms 1) (ms 2) (ms 3) (ms 4) (ms 5) (ms 6) (ms 7) (ms 8) (ms 9) (ms 10) (ms 11) (ma 0) (ma 1) q.1 q.2.1 q.2.2.1 q.2.2.2.1 q.2.2.2.2 e8) [false, false, false, false, false, false, false, false, false, false, false, false, false, false, false, false, false, false, false, false, false, false, false, false, false, false, false, false, false, false, false, false, false, false, false, false, false, false, false, false, false, false, false, false, false, false, false, false, false, false, false, false, false, false, false, true, true, true] (Nat.le_of_ble_eq_true rfl) rfl rfl rfl rfl rfl ⟨Nat.le_of_ble_eq_true rfl, Nat.le_of_ble_eq_true rfl⟩ hc rfl rfl (Nat.le_of_ble_eq_true rfl) dL_law_2647 (fun H locs hW => ?_)
  have hW : WD D A s (w_LAW E h g o od (va_up (va_up (va_up (va_up (va_up ss 10 r.2.2.1) 11 r.2.2.2.1) 12 r.2.2.2.2.2.2.2.2.2.2.2.1) 2 r.2.2.2.2.2.2.2.2.2.2.2.2.1) 6 r.2.2.2.2.2.2.2.2.2.2.2.2.2) (va_up (va_up (va_up (va_up (va_up (va_up (va_up aa 1 r.2.2.2.2.1) 2 r.2.2.2.2.2.1) 3 r.2.2.2.2.2.2.1) 4 r.2.2.2.2.2.2.2.1) 5 r.2.2.2.2.2.2.2.2.1) 6 r.2.2.2.2.2.2.2.2.2.1) 0 r.2.2.2.2.2.2.2.2.2.2.1) (va_up (va_up (va_up ms 1 q.2.1) 2 q.2.2.1) 4 q.2.2.2.1) (va_up ma 0 q.2.2.2.2) (if r.1 = 0 then vp_updL fo 0 (r.2.1).toInt64 else fo) fd ++ w_pool E (h 19) hp pl po pa) H locs := hW
  refine lv_topi (fun z7 e7_ => ?_)
  refine lv_istore (lv' := [(7, .int z7), (6, .int z6), (0, .ref b), (1, .ref (h 0)), (2, .ref (g 0)), (3, .ref o), (4, .ref od), (5, .int (nI i))]) hx hb dL_law_2650 hl (by decide) rfl (fun ls hl => ?_)
  refine lv_aload_n hx hb dL_law_2652 rfl (lv_at hl 4 rfl) ?_
  refine q_callIm hF hl.1 hK hA hZ hW mv_X8_thrown ml_L_168 (c_X8_thrown l D E TXL (g 0) (g 1) (g 2) (g 3) (g 4) (g 5) (g 6) (g 7) (g 8) (g 9) (g 10) (g 11) (g 12) (g 13) (g 14) (g 15) (g 16) (g 17) (g 18) (g 19) (ms 0) q.2.1 q.2.2.1 (ms 3) q.2.2.2.1 (ms 5) (ms 6) (ms 7) (ms 8) (ms 9) (ms 10) (ms 11) q.2.2.2.1 rfl) [false, false, false, false, false, false, false, false, false, false, false, false, false, false, false, false, false, false, false, false, false, false, false, false, false, false, false, false, false, false, false, false, false, false, false, false, false, false, false, false, false, false, false, false, false, false, false, false, false, false, false, false, false, false, false, true] (Nat.le_of_ble_eq_true rfl) rfl rfl rfl rfl rfl ⟨Nat.le_of_ble_eq_true rfl, Nat.le_of_ble_eq_true rfl⟩ hc rfl rfl (Nat.le_of_ble_eq_true rfl) dL_law_2653 (fun H locs hW => ?_)
  have hW : WD D A s (w_LAW E h g o od (va_up (va_up (va_up (va_up (va_up ss 10 r.2.2.1) 11 r.2.2.2.1) 12 r.2.2.2.2.2.2.2.2.2.2.2.1) 2 r.2.2.2.2.2.2.2.2.2.2.2.2.1) 6 r.2.2.2.2.2.2.2.2.2.2.2.2.2) (va_up (va_up (va_up (va_up (va_up (va_up (va_up aa 1 r.2.2.2.2.1) 2 r.2.2.2.2.2.1) 3 r.2.2.2.2.2.2.1) 4 r.2.2.2.2.2.2.2.1) 5 r.2.2.2.2.2.2.2.2.1) 6 r.2.2.2.2.2.2.2.2.2.1) 0 r.2.2.2.2.2.2.2.2.2.2.1) (va_up (va_up (va_up ms 1 q.2.1) 2 q.2.2.1) 4 q.2.2.2.1) (va_up ma 0 q.2.2.2.2) (if r.1 = 0 then vp_updL fo 0 (r.2.1).toInt64 else fo) fd ++ w_pool E (h 19) hp pl po pa) H locs := hW
  refine lv_iload hx hb dL_law_2656 (lv_at hl 1 rfl) ?_
  refine lv_icmp_eq (tgt := 2663) hx hb dL_law_2658 (by decide) (fun _ => ?_) (fun z => absurd (hth.trans e6.symm) z)
  refine lv_iload hx hb dL_law_2663 (lv_at hl 1 rfl) ?_
  have hend : ∀ (ls : Array Slot), lv_has ls 9 [(7, .int z7), (6, .int z6), (0, .ref b), (1, .ref (h 0)), (2, .ref (g 0)), (3, .ref o), (4, .ref od), (5, .int (nI i))] → W p l e room_1 s m #[.ref b] below meth c H locs (cells + 4) (slots + 24) Q (F0 m 2680 ls []) := fun ls hl => by
    refine lv_goto (tgt := 2740) hx hb dL_law_2680 (by decide) ?_
    exact kk _ _ _ ⟨_, _, _, _, _, _, _, _, _, hR1, hW⟩ (lv_sub hl [2, 3, 4, 5, 6, 7] rfl)
  refine lv_if_ne (tgt := 2680) hx hb dL_law_2665 (by decide) (fun _ => hend ls hl) (fun z9 => ?_)
  obtain ⟨hk0, hv⟩ := hans (e6.symm.trans z9)
  refine lv_aload_n hx hb dL_law_2668 rfl (lv_at hl 5 rfl) ?_
  refine lv_iconst (v := 0) hx hb dL_law_2669 (by decide) ?_
  refine va_lald hx hb hK hW.1 75 4 rfl rfl (by unfold vp_in; decide) dL_law_2670 ?_
  refine lv_topl (fun z8 e8_ => ?_)
  have e9 : z8 = (r.2.1).toInt64 := by
    rw [e8_, if_pos hk0]; rfl
  refine lv_iload hx hb dL_law_2671 (lv_at hl 0 rfl) ?_
  refine lv_i2l hx hb dL_law_2673 rfl ?_
  refine W.lcmp hx hb dL_law_2674 ?_
  refine lv_if_eq (tgt := 2680) hx hb dL_law_2675 (by decide) (fun _ => hend ls hl) (fun z => absurd ?_ z)
  rw [e9, hv, e7_]
  exact lg_cmp_self _
set_option maxHeartbeats 4000000 in
set_option maxRecDepth 100000 in
theorem k_46 {p : Program} {l : Launch} {e : Env} {s : State} {m : MethodId} {below : List Frame} {meth : Method} {c : Code} {D : va_G} {E : Nat → ClassId} {A : Nat → Prop} {b N i : Nat} {xs : Nat → Int32} {h g : Nat → Nat} {hp : Nat → Nat → Nat} {o od : Nat} {Q : State → Prop} {H : Heap} {locs : List Loc} {cells slots : Nat} {ls : Array Slot} (C : LCC p l s m c D E A b N xs) (hi : i + 4 ≤ N) (S : LSS D E A s h g hp o od H locs) (hl : lv_has ls 9 [(0, .ref b), (1, .ref (h 0)), (2, .ref (g 0)), (3, .ref o), (4, .ref od), (5, .int (nI i))]) (hc : cells + 4 ≤ room_1.cells ∧ slots + 24 ≤ room_1.slots) (kk : ∀ (H : Heap) (locs : List Loc) (ls : Array Slot), LSS D E A s h g hp o od H locs → lv_has ls 9 [(0, .ref b), (1, .ref (h 0)), (2, .ref (g 0)), (3, .ref o), (4, .ref od), (5, .int (nI i))] → W p l e room_1 s m #[.ref b] below meth c H locs (cells + 4) (slots + 24) Q (F0 m 2740 ls [])) : W p l e room_1 s m #[.ref b] below meth c H locs cells slots Q (F0 m 2683 ls []) := by
  obtain ⟨hF, hlt, hK, hA, hZ, hN, hX, hbl, hbA, hN9⟩ := C
  obtain ⟨ss, aa, pl, po, pa, ms, ma, fo, fd, hR, hW⟩ := S
  obtain ⟨i0, i1, i2, i3⟩ := ix_ok hi hN9
  have hx := hF.1
  have hb := hF.2.1
  refine lv_aload_n hx hb dL_law_2683 rfl (lv_at hl 1 rfl) ?_
  obtain ⟨r, e7, q, e8, hM, hR1⟩ := call_save hR
  refine q_callIm hF hl.1 hK hA hZ hW mv_X7_save ml_L_315 (c_X7_save l D E TXL (h 0) (h 1) (h 2) (h 3) (h 4) (h 5) (h 6) (h 7) (h 8) (h 9) (h 10) (h 11) (h 12) (h 13) (h 14) (h 15) (h 16) (h 17) (h 18) (h 49) (h 50) (h 51) (h 52) (h 53) (h 54) (h 55) (ss 0) (ss 1) (ss 10) (ss 11) (aa 1) (aa 2) (aa 3) (aa 4) (aa 5) (aa 6) (aa 0) (ss 26) (ss 27) (aa 37) (aa 38) (aa 39) (aa 40) (aa 41) (aa 42) (aa 43) r.1 r.2.1 r.2.2.1 r.2.2.2.1 r.2.2.2.2.1 r.2.2.2.2.2.1 r.2.2.2.2.2.2.1 r.2.2.2.2.2.2.2.1 r.2.2.2.2.2.2.2.2.1 r.2.2.2.2.2.2.2.2.2.1 r.2.2.2.2.2.2.2.2.2.2 e7) [true, true, true, true, true, true, true, true, true, false, true, false, true, false, true, false, true, false, true, false, true, false, true, false, true] (Nat.le_of_ble_eq_true rfl) rfl rfl rfl rfl rfl ⟨Nat.le_of_ble_eq_true rfl, Nat.le_of_ble_eq_true rfl⟩ ⟨Nat.le_of_add_right_le hc.1, Nat.le_of_add_right_le hc.2⟩ rfl rfl (Nat.le_of_ble_eq_true rfl) dL_law_2684 (fun H locs hW => ?_)
  refine W.widen (Nat.le_add_right cells 4) (Nat.le_add_right slots 24) ?_
  have hW : WD D A s (w_LAW E h g o od (va_up (va_up (va_up ss 0 r.2.1) 26 r.2.2.1) 27 r.2.2.2.1) (va_up (va_up (va_up (va_up (va_up (va_up (va_up aa 37 r.2.2.2.2.1) 38 r.2.2.2.2.2.1) 39 r.2.2.2.2.2.2.1) 40 r.2.2.2.2.2.2.2.1) 41 r.2.2.2.2.2.2.2.2.1) 42 r.2.2.2.2.2.2.2.2.2.1) 43 r.2.2.2.2.2.2.2.2.2.2) ms ma fo fd ++ w_pool E (h 19) hp pl po pa) H locs := hW
  refine lv_aload_n hx hb dL_law_2687 rfl (lv_at hl 2 rfl) ?_
  refine q_callIm hF hl.1 hK hA hZ hW mv_X8_save ml_L_318 (c_X8_save l D E TXL (g 0) (g 1) (g 2) (g 3) (g 4) (g 5) (g 6) (g 7) (g 8) (g 9) (g 10) (g 11) (g 12) (g 13) (g 14) (g 15) (g 16) (g 17) (g 18) (g 19) (ms 0) (ms 1) (ms 2) (ms 3) (ms 4) (ms 5) (ms 6) (ms 7) (ms 8) (ms 9) (ms 10) (ms 11) (ma 0) (ma 2) q.1 q.2.1 q.2.2.1 q.2.2.2 e8) [false, false, false, false, false, false, false, false, false, false, false, false, false, false, false, false, false, false, false, false, false, false, false, false, false, false, false, false, false, false, false, false, false, false, false, false, false, false, false, false, false, false, false, false, false, false, false, false, false, false, false, false, false, false, false, true, true, false, false, true] (Nat.le_of_ble_eq_true rfl) rfl rfl rfl rfl rfl ⟨Nat.le_of_ble_eq_true rfl, Nat.le_of_ble_eq_true rfl⟩ hc rfl rfl (Nat.le_of_ble_eq_true rfl) dL_law_2688 (fun H locs hW => ?_)
  have hW : WD D A s (w_LAW E h g o od (va_up (va_up (va_up ss 0 r.2.1) 26 r.2.2.1) 27 r.2.2.2.1) (va_up (va_up (va_up (va_up (va_up (va_up (va_up aa 37 r.2.2.2.2.1) 38 r.2.2.2.2.2.1) 39 r.2.2.2.2.2.2.1) 40 r.2.2.2.2.2.2.2.1) 41 r.2.2.2.2.2.2.2.2.1) 42 r.2.2.2.2.2.2.2.2.2.1) 43 r.2.2.2.2.2.2.2.2.2.2) (va_up (va_up ms 0 q.2.1) 4 q.2.2.1) (va_up ma 2 q.2.2.2) fo fd ++ w_pool E (h 19) hp pl po pa) H locs := hW
  refine lv_icmp_eq (tgt := 2740) hx hb dL_law_2691 (by decide) (fun _ => ?_) (fun z => absurd hM z)
  exact kk _ _ _ ⟨_, _, _, _, _, _, _, _, _, hR1, hW⟩ hl
set_option maxHeartbeats 4000000 in
set_option maxRecDepth 100000 in
theorem k_47 {p : Program} {l : Launch} {e : Env} {s : State} {m : MethodId} {below : List Frame} {meth : Method} {c : Code} {D : va_G} {E : Nat → ClassId} {A : Nat → Prop} {b N i : Nat} {xs : Nat → Int32} {h g : Nat → Nat} {hp : Nat → Nat → Nat} {o od : Nat} {Q : State → Prop} {H : Heap} {locs : List Loc} {cells slots : Nat} {ls : Array Slot} (C : LCC p l s m c D E A b N xs) (hi : i + 4 ≤ N) (S : LSS D E A s h g hp o od H locs) (hl : lv_has ls 9 [(0, .ref b), (1, .ref (h 0)), (2, .ref (g 0)), (3, .ref o), (4, .ref od), (5, .int (nI i))]) (hc : cells + 4 ≤ room_1.cells ∧ slots + 24 ≤ room_1.slots) (kk : ∀ (H : Heap) (locs : List Loc) (ls : Array Slot), LSS D E A s h g hp o od H locs → lv_has ls 9 [(0, .ref b), (1, .ref (h 0)), (2, .ref (g 0)), (3, .ref o), (4, .ref od), (5, .int (nI i))] → W p l e room_1 s m #[.ref b] below meth c H locs (cells + 4) (slots + 24) Q (F0 m 2740 ls [])) : W p l e room_1 s m #[.ref b] below meth c H locs cells slots Q (F0 m 2696 ls []) := by
  obtain ⟨hF, hlt, hK, hA, hZ, hN, hX, hbl, hbA, hN9⟩ := C
  obtain ⟨ss, aa, pl, po, pa, ms, ma, fo, fd, hR, hW⟩ := S
  obtain ⟨i0, i1, i2, i3⟩ := ix_ok hi hN9
  have hx := hF.1
  have hb := hF.2.1
  refine lv_aload_n hx hb dL_law_2696 rfl (lv_at hl 1 rfl) ?_
  refine lv_aload_n hx hb dL_law_2697 rfl (lv_at hl 3 rfl) ?_
  obtain ⟨r, e7, q, e8, hM, hR1⟩ := call_restore hR
  have hk : r.1 = 0 ∨ r.1 = 2 := by
    rcases hM with ⟨m1, m2, m3⟩ | ⟨m1, m2⟩
    · exact Or.inl m1
    · exact Or.inr (m1)
  have hth : q.2.2.2.1 = (if r.1 = 2 then 1 else 0) := by
    rcases hM with ⟨m1, m2, m3⟩ | ⟨m1, m2⟩
    · rw [m1, m2]; rfl
    · rw [m1, m2]; rfl
  have hans : ((if r.1 = 2 then 1 else 0) : Int32) = 0 → r.1 = 0 ∧ r.2.1 = q.1 := by
    intro z9
    rcases hM with ⟨m1, m2, m3⟩ | ⟨m1, m2⟩
    · exact ⟨m1, m3⟩
    · exact absurd z9 (by rw [m1]; decide)
  refine q_LWm hF hl.1 hK hA hZ hN hW mW_restore ml_L_319 (v_restore l D E (h 0) o _ _ r.1 r.2.1 fo (c_X7_restore l hlt D E (h 0) (h 1) (h 2) (h 3) (h 4) (h 5) (h 6) (h 7) (h 8) (h 9) (h 10) (h 11) (h 12) (h 13) (h 14) (h 15) (h 16) (h 17) (h 18) (h 49) (h 50) (h 51) (h 52) (h 53) (h 54) (h 55) (h 19) (h 20) (h 21) (h 22) (h 23) (h 24) (h 25) (h 26) (h 27) (h 28) (ss 0) (ss 1) (ss 10) (ss 11) (aa 1) (aa 2) (aa 3) (aa 4) (aa 5) (aa 6) (aa 0) (ss 26) (ss 27) (aa 37) (aa 38) (aa 39) (aa 40) (aa 41) (aa 42) (aa 43) (ss 12) (ss 13) (ss 2) (ss 3) (ss 4) (ss 5) (ss 6) (ss 7) (ss 8) (ss 9) r.1 r.2.1 r.2.2.1 r.2.2.2.1 r.2.2.2.2.1 r.2.2.2.2.2.1 r.2.2.2.2.2.2.1 r.2.2.2.2.2.2.2.1 r.2.2.2.2.2.2.2.2.1 r.2.2.2.2.2.2.2.2.2.1 r.2.2.2.2.2.2.2.2.2.2.1 r.2.2.2.2.2.2.2.2.2.2.2.1 r.2.2.2.2.2.2.2.2.2.2.2.2.1 r.2.2.2.2.2.2.2.2.2.2.2.2.2 e7) rfl rfl hk) [true, true, true, true, true, true, true, true, true, false, true, false, true, false, true, false, true, false, true, false, true, false, true, false, true, true, true, false, false, false, false, false, false, false, false, false, false, false, false, false, false, false, false, false, true, false, false, false, false, false, false, false, false, false, false, false, false, false, false, false, false, false, false, false, false, false, false, false, false, false, false, false, false, false, false, true] (Nat.le_of_ble_eq_true rfl) rfl rfl ⟨Nat.le_of_ble_eq_true rfl, Nat.le_of_ble_eq_true rfl⟩ ⟨Nat.le_trans (Nat.add_le_add_left (Nat.le_of_ble_eq_true rfl) cells) hc.1, Nat.le_trans (Nat.add_le_add_left (Nat.le_of_ble_eq_true rfl) slots) hc.2⟩ rfl rfl (Nat.le_of_ble_eq_true rfl) dL_law_2698 (fun H locs hW => ?_)
  refine W.widen (Nat.add_le_add_left (Nat.le_of_ble_eq_true rfl : 1 ≤ 4) cells) (Nat.add_le_add_left (Nat.le_of_ble_eq_true rfl : 6 ≤ 24) slots) ?_
  have hW : WD D A s (w_LAW E h g o od (va_up (va_up (va_up (va_up (va_up ss 10 r.2.2.1) 11 r.2.2.2.1) 12 r.2.2.2.2.2.2.2.2.2.2.2.1) 2 r.2.2.2.2.2.2.2.2.2.2.2.2.1) 6 r.2.2.2.2.2.2.2.2.2.2.2.2.2) (va_up (va_up (va_up (va_up (va_up (va_up (va_up aa 1 r.2.2.2.2.1) 2 r.2.2.2.2.2.1) 3 r.2.2.2.2.2.2.1) 4 r.2.2.2.2.2.2.2.1) 5 r.2.2.2.2.2.2.2.2.1) 6 r.2.2.2.2.2.2.2.2.2.1) 0 r.2.2.2.2.2.2.2.2.2.2.1) ms ma (if r.1 = 0 then vp_updL fo 0 (r.2.1).toInt64 else fo) fd ++ w_pool E (h 19) hp pl po pa) H locs := hW
  refine lv_topi (fun z6 e6 => ?_)
  refine lv_istore (lv' := [(6, .int z6), (0, .ref b), (1, .ref (h 0)), (2, .ref (g 0)), (3, .ref o), (4, .ref od), (5, .int (nI i))]) hx hb dL_law_2701 hl (by decide) rfl (fun ls hl => ?_)
  refine lv_aload_n hx hb dL_law_2703 rfl (lv_at hl 3 rfl) ?_
  refine q_callIm hF hl.1 hK hA hZ hW mv_X8_restore ml_L_321 (c_X8_restore l D E TXL (g 0) (g 1) (g 2) (g 3) (g 4) (g 5) (g 6) (g 7) (g 8) (g 9) (g 10) (g 11) (g 12) (g 13) (g 14) (g 15) (g 16) (g 17) (g 18) (g 19) (ms 0) (ms 1) (ms 2) (ms 3) (ms 4) (ms 5) (ms 6) (ms 7) (ms 8) (ms 9) (ms 10) (ms 11) (ma 0) (ma 2) q.1 q.2.1 q.2.2.1 q.2.2.2.1 q.2.2.2.2 e8) [false, false, false, false, false, false, false, false, false, false, false, false, false, false, false, false, false, false, false, false, false, false, false, false, false, false, false, false, false, false, false, false, false, false, false, false, false, false, false, false, false, false, false, false, false, false, false, false, false, false, false, false, false, false, false, true, true, false, false, true] (Nat.le_of_ble_eq_true rfl) rfl rfl rfl rfl rfl ⟨Nat.le_of_ble_eq_true rfl, Nat.le_of_ble_eq_true rfl⟩ hc rfl rfl (Nat.le_of_ble_eq_true rfl) dL_law_2704 (fun H locs hW => ?_)
  have hW : WD D A s (w_LAW E h g o od (va_up (va_up (va_up (va_up (va_up ss 10 r.2.2.1) 11 r.2.2.2.1) 12 r.2.2.2.2.2.2.2.2.2.2.2.1) 2 r.2.2.2.2.2.2.2.2.2.2.2.2.1) 6 r.2.2.2.2.2.2.2.2.2.2.2.2.2) (va_up (va_up (va_up (va_up (va_up (va_up (va_up aa 1 r.2.2.2.2.1) 2 r.2.2.2.2.2.1) 3 r.2.2.2.2.2.2.1) 4 r.2.2.2.2.2.2.2.1) 5 r.2.2.2.2.2.2.2.2.1) 6 r.2.2.2.2.2.2.2.2.2.1) 0 r.2.2.2.2.2.2.2.2.2.2.1) (va_up (va_up (va_up ms 1 q.2.1) 2 q.2.2.1) 4 q.2.2.2.1) (va_up ma 0 q.2.2.2.2) (if r.1 = 0 then vp_updL fo 0 (r.2.1).toInt64 else fo) fd ++ w_pool E (h 19) hp pl po pa) H locs := hW
  refine lv_topi (fun z7 e7_ => ?_)
  refine lv_istore (lv' := [(7, .int z7), (6, .int z6), (0, .ref b), (1, .ref (h 0)), (2, .ref (g 0)), (3, .ref o), (4, .ref od), (5, .int (nI i))]) hx hb dL_law_2707 hl (by decide) rfl (fun ls hl => ?_)
  refine lv_aload_n hx hb dL_law_2709 rfl (lv_at hl 4 rfl) ?_
  refine q_callIm hF hl.1 hK hA hZ hW mv_X8_thrown ml_L_168 (c_X8_thrown l D E TXL (g 0) (g 1) (g 2) (g 3) (g 4) (g 5) (g 6) (g 7) (g 8) (g 9) (g 10) (g 11) (g 12) (g 13) (g 14) (g 15) (g 16) (g 17) (g 18) (g 19) (ms 0) q.2.1 q.2.2.1 (ms 3) q.2.2.2.1 (ms 5) (ms 6) (ms 7) (ms 8) (ms 9) (ms 10) (ms 11) q.2.2.2.1 rfl) [false, false, false, false, false, false, false, false, false, false, false, false, false, false, false, false, false, false, false, false, false, false, false, false, false, false, false, false, false, false, false, false, false, false, false, false, false, false, false, false, false, false, false, false, false, false, false, false, false, false, false, false, false, false, false, true] (Nat.le_of_ble_eq_true rfl) rfl rfl rfl rfl rfl ⟨Nat.le_of_ble_eq_true rfl, Nat.le_of_ble_eq_true rfl⟩ hc rfl rfl (Nat.le_of_ble_eq_true rfl) dL_law_2710 (fun H locs hW => ?_)
  have hW : WD D A s (w_LAW E h g o od (va_up (va_up (va_up (va_up (va_up ss 10 r.2.2.1) 11 r.2.2.2.1) 12 r.2.2.2.2.2.2.2.2.2.2.2.1) 2 r.2.2.2.2.2.2.2.2.2.2.2.2.1) 6 r.2.2.2.2.2.2.2.2.2.2.2.2.2) (va_up (va_up (va_up (va_up (va_up (va_up (va_up aa 1 r.2.2.2.2.1) 2 r.2.2.2.2.2.1) 3 r.2.2.2.2.2.2.1) 4 r.2.2.2.2.2.2.2.1) 5 r.2.2.2.2.2.2.2.2.1) 6 r.2.2.2.2.2.2.2.2.2.1) 0 r.2.2.2.2.2.2.2.2.2.2.1) (va_up (va_up (va_up ms 1 q.2.1) 2 q.2.2.1) 4 q.2.2.2.1) (va_up ma 0 q.2.2.2.2) (if r.1 = 0 then vp_updL fo 0 (r.2.1).toInt64 else fo) fd ++ w_pool E (h 19) hp pl po pa) H locs := hW
  refine lv_iload hx hb dL_law_2713 (lv_at hl 1 rfl) ?_
  refine lv_icmp_eq (tgt := 2720) hx hb dL_law_2715 (by decide) (fun _ => ?_) (fun z => absurd (hth.trans e6.symm) z)
  refine lv_iload hx hb dL_law_2720 (lv_at hl 1 rfl) ?_
  have hend : ∀ (ls : Array Slot), lv_has ls 9 [(7, .int z7), (6, .int z6), (0, .ref b), (1, .ref (h 0)), (2, .ref (g 0)), (3, .ref o), (4, .ref od), (5, .int (nI i))] → W p l e room_1 s m #[.ref b] below meth c H locs (cells + 4) (slots + 24) Q (F0 m 2737 ls []) := fun ls hl => by
    refine lv_goto (tgt := 2740) hx hb dL_law_2737 (by decide) ?_
    exact kk _ _ _ ⟨_, _, _, _, _, _, _, _, _, hR1, hW⟩ (lv_sub hl [2, 3, 4, 5, 6, 7] rfl)
  refine lv_if_ne (tgt := 2737) hx hb dL_law_2722 (by decide) (fun _ => hend ls hl) (fun z9 => ?_)
  obtain ⟨hk0, hv⟩ := hans (e6.symm.trans z9)
  refine lv_aload_n hx hb dL_law_2725 rfl (lv_at hl 5 rfl) ?_
  refine lv_iconst (v := 0) hx hb dL_law_2726 (by decide) ?_
  refine va_lald hx hb hK hW.1 75 4 rfl rfl (by unfold vp_in; decide) dL_law_2727 ?_
  refine lv_topl (fun z8 e8_ => ?_)
  have e9 : z8 = (r.2.1).toInt64 := by
    rw [e8_, if_pos hk0]; rfl
  refine lv_iload hx hb dL_law_2728 (lv_at hl 0 rfl) ?_
  refine lv_i2l hx hb dL_law_2730 rfl ?_
  refine W.lcmp hx hb dL_law_2731 ?_
  refine lv_if_eq (tgt := 2737) hx hb dL_law_2732 (by decide) (fun _ => hend ls hl) (fun z => absurd ?_ z)
  rw [e9, hv, e7_]
  exact lg_cmp_self _
