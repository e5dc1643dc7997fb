theorem nI_J {n : Nat} : nI n = J (n : Int) := rfl
theorem gt_no {i N : Nat} (hi : i + 4 ≤ N) (hN : N ≤ 2048) : ¬ nI N - 4 < nI i := by
  rw [nI_J, nI_J, show (4 : Int32) = J 4 from rfl, J_sub, J_lt (by omega)]
  omega
theorem gt_yes {i N : Nat} (hi : ¬ i + 4 ≤ N) (hN : N ≤ 2048) (h9 : i ≤ 4096) : nI N - 4 < nI i := by
  rw [nI_J, nI_J, show (4 : Int32) = J 4 from rfl, J_sub, J_lt (by omega)]
  omega
set_option maxHeartbeats 4000000 in
set_option maxRecDepth 100000 in
/-- one round: whatever the word says, the loop's end is reached with what holds at its head -/
theorem law_case {p : Program} {l : Launch} {e : Env} {s : State} {m : MethodId} {below : List Frame} {meth : Method} {c : Code} {D : va_G} {E : Nat → ClassId} {A : Nat → Prop} {b N i : Nat} {xs : Nat → Int32} {h g : Nat → Nat} {hp : Nat → Nat → Nat} {o od : Nat} {Q : State → Prop} {H : Heap} {locs : List Loc} {cells slots : Nat} {ls : Array Slot} {t : Int32} (C : LCC p l s m c D E A b N xs) (hi : i + 4 ≤ N) (S : LSS D E A s h g hp o od H locs) (hl : lv_has ls 9 [(0, .ref b), (1, .ref (h 0)), (2, .ref (g 0)), (3, .ref o), (4, .ref od), (5, .int (nI i))]) (hc : cells + 4 ≤ room_1.cells ∧ slots + 24 ≤ room_1.slots) (kk : ∀ (H : Heap) (locs : List Loc) (ls : Array Slot), LSS D E A s h g hp o od H locs → lv_has ls 9 [(0, .ref b), (1, .ref (h 0)), (2, .ref (g 0)), (3, .ref o), (4, .ref od), (5, .int (nI i))] → W p l e room_1 s m #[.ref b] below meth c H locs (cells + 4) (slots + 24) Q (F0 m 2740 ls [])) : W p l e room_1 s m #[.ref b] below meth c H locs cells slots Q (F0 m 44 ls [.int t]) := by
  have hx := C.1.1
  have hb := C.1.2.1
  by_cases c_0 : t = 0
  · refine lv_tableIn (off := 208) (tgt := 252) hx hb dL_law_44 (by rw [c_0]; decide) (by rw [c_0]; decide) (by rw [c_0]; rfl) (by decide) ?_
    exact k_0 C hi S hl hc kk
  by_cases c_1 : t = 1
  · refine lv_tableIn (off := 221) (tgt := 265) hx hb dL_law_44 (by rw [c_1]; decide) (by rw [c_1]; decide) (by rw [c_1]; rfl) (by decide) ?_
    exact k_1 C hi S hl hc kk
  by_cases c_2 : t = 2
  · refine lv_tableIn (off := 301) (tgt := 345) hx hb dL_law_44 (by rw [c_2]; decide) (by rw [c_2]; decide) (by rw [c_2]; rfl) (by decide) ?_
    exact k_2 C hi S hl hc kk
  by_cases c_3 : t = 3
  · refine lv_tableIn (off := 345) (tgt := 389) hx hb dL_law_44 (by rw [c_3]; decide) (by rw [c_3]; decide) (by rw [c_3]; rfl) (by decide) ?_
    exact k_3 C hi S hl hc kk
  by_cases c_4 : t = 4
  · refine lv_tableIn (off := 425) (tgt := 469) hx hb dL_law_44 (by rw [c_4]; decide) (by rw [c_4]; decide) (by rw [c_4]; rfl) (by decide) ?_
    exact k_4 C hi S hl hc kk
  by_cases c_5 : t = 5
  · refine lv_tableIn (off := 493) (tgt := 537) hx hb dL_law_44 (by rw [c_5]; decide) (by rw [c_5]; decide) (by rw [c_5]; rfl) (by decide) ?_
    exact k_5 C hi S hl hc kk
  by_cases c_6 : t = 6
  · refine lv_tableIn (off := 561) (tgt := 605) hx hb dL_law_44 (by rw [c_6]; decide) (by rw [c_6]; decide) (by rw [c_6]; rfl) (by decide) ?_
    exact k_6 C hi S hl hc kk
  by_cases c_7 : t = 7
  · refine lv_tableIn (off := 617) (tgt := 661) hx hb dL_law_44 (by rw [c_7]; decide) (by rw [c_7]; decide) (by rw [c_7]; rfl) (by decide) ?_
    exact k_7 C hi S hl hc kk
  by_cases c_8 : t = 8
  · refine lv_tableIn (off := 685) (tgt := 729) hx hb dL_law_44 (by rw [c_8]; decide) (by rw [c_8]; decide) (by rw [c_8]; rfl) (by decide) ?_
    exact k_8 C hi S hl hc kk
  by_cases c_9 : t = 9
  · refine lv_tableIn (off := 760) (tgt := 804) hx hb dL_law_44 (by rw [c_9]; decide) (by rw [c_9]; decide) (by rw [c_9]; rfl) (by decide) ?_
    exact k_9 C hi S hl hc kk
  by_cases c_10 : t = 10
  · refine lv_tableIn (off := 844) (tgt := 888) hx hb dL_law_44 (by rw [c_10]; decide) (by rw [c_10]; decide) (by rw [c_10]; rfl) (by decide) ?_
    exact k_10 C hi S hl hc kk
  by_cases c_11 : t = 11
  · refine lv_tableIn (off := 912) (tgt := 956) hx hb dL_law_44 (by rw [c_11]; decide) (by rw [c_11]; decide) (by rw [c_11]; rfl) (by decide) ?_
    exact k_11 C hi S hl hc kk
  by_cases c_12 : t = 12
  · refine lv_tableIn (off := 968) (tgt := 1012) hx hb dL_law_44 (by rw [c_12]; decide) (by rw [c_12]; decide) (by rw [c_12]; rfl) (by decide) ?_
    exact k_12 C hi S hl hc kk
  by_cases c_13 : t = 13
  · refine lv_tableIn (off := 981) (tgt := 1025) hx hb dL_law_44 (by rw [c_13]; decide) (by rw [c_13]; decide) (by rw [c_13]; rfl) (by decide) ?_
    exact k_13 C hi S hl hc kk
  by_cases c_14 : t = 14
  · refine lv_tableIn (off := 1022) (tgt := 1066) hx hb dL_law_44 (by rw [c_14]; decide) (by rw [c_14]; decide) (by rw [c_14]; rfl) (by decide) ?_
    exact k_14 C hi S hl hc kk
  by_cases c_15 : t = 15
  · refine lv_tableIn (off := 1035) (tgt := 1079) hx hb dL_law_44 (by rw [c_15]; decide) (by rw [c_15]; decide) (by rw [c_15]; rfl) (by decide) ?_
    exact k_15 C hi S hl hc kk
  by_cases c_16 : t = 16
  · refine lv_tableIn (off := 1079) (tgt := 1123) hx hb dL_law_44 (by rw [c_16]; decide) (by rw [c_16]; decide) (by rw [c_16]; rfl) (by decide) ?_
    exact k_16 C hi S hl hc kk
  by_cases c_17 : t = 17
  · refine lv_tableIn (off := 1147) (tgt := 1191) hx hb dL_law_44 (by rw [c_17]; decide) (by rw [c_17]; decide) (by rw [c_17]; rfl) (by decide) ?_
    exact k_17 C hi S hl hc kk
  by_cases c_18 : t = 18
  · refine lv_tableIn (off := 1160) (tgt := 1204) hx hb dL_law_44 (by rw [c_18]; decide) (by rw [c_18]; decide) (by rw [c_18]; rfl) (by decide) ?_
    exact k_18 C hi S hl hc kk
  by_cases c_19 : t = 19
  · refine lv_tableIn (off := 1204) (tgt := 1248) hx hb dL_law_44 (by rw [c_19]; decide) (by rw [c_19]; decide) (by rw [c_19]; rfl) (by decide) ?_
    exact k_19 C hi S hl hc kk
  by_cases c_20 : t = 20
  · refine lv_tableIn (off := 1217) (tgt := 1261) hx hb dL_law_44 (by rw [c_20]; decide) (by rw [c_20]; decide) (by rw [c_20]; rfl) (by decide) ?_
    exact k_20 C hi S hl hc kk
  by_cases c_21 : t = 21
  · refine lv_tableIn (off := 1261) (tgt := 1305) hx hb dL_law_44 (by rw [c_21]; decide) (by rw [c_21]; decide) (by rw [c_21]; rfl) (by decide) ?_
    exact k_21 C hi S hl hc kk
  by_cases c_22 : t = 22
  · refine lv_tableIn (off := 1329) (tgt := 1373) hx hb dL_law_44 (by rw [c_22]; decide) (by rw [c_22]; decide) (by rw [c_22]; rfl) (by decide) ?_
    exact k_22 C hi S hl hc kk
  by_cases c_23 : t = 23
  · refine lv_tableIn (off := 1392) (tgt := 1436) hx hb dL_law_44 (by rw [c_23]; decide) (by rw [c_23]; decide) (by rw [c_23]; rfl) (by decide) ?_
    exact k_23 C hi S hl hc kk
  by_cases c_24 : t = 24
  · refine lv_tableIn (off := 1460) (tgt := 1504) hx hb dL_law_44 (by rw [c_24]; decide) (by rw [c_24]; decide) (by rw [c_24]; rfl) (by decide) ?_
    exact k_24 C hi S hl hc kk
  by_cases c_25 : t = 25
  · refine lv_tableIn (off := 1504) (tgt := 1548) hx hb dL_law_44 (by rw [c_25]; decide) (by rw [c_25]; decide) (by rw [c_25]; rfl) (by decide) ?_
    exact k_25 C hi S hl hc kk
  by_cases c_26 : t = 26
  · refine lv_tableIn (off := 1548) (tgt := 1592) hx hb dL_law_44 (by rw [c_26]; decide) (by rw [c_26]; decide) (by rw [c_26]; rfl) (by decide) ?_
    exact k_26 C hi S hl hc kk
  by_cases c_27 : t = 27
  · refine lv_tableIn (off := 1620) (tgt := 1664) hx hb dL_law_44 (by rw [c_27]; decide) (by rw [c_27]; decide) (by rw [c_27]; rfl) (by decide) ?_
    exact k_27 C hi S hl hc kk
  by_cases c_28 : t = 28
  · refine lv_tableIn (off := 1664) (tgt := 1708) hx hb dL_law_44 (by rw [c_28]; decide) (by rw [c_28]; decide) (by rw [c_28]; rfl) (by decide) ?_
    exact k_28 C hi S hl hc kk
  by_cases c_29 : t = 29
  · refine lv_tableIn (off := 1708) (tgt := 1752) hx hb dL_law_44 (by rw [c_29]; decide) (by rw [c_29]; decide) (by rw [c_29]; rfl) (by decide) ?_
    exact k_29 C hi S hl hc kk
  by_cases c_30 : t = 30
  · refine lv_tableIn (off := 1773) (tgt := 1817) hx hb dL_law_44 (by rw [c_30]; decide) (by rw [c_30]; decide) (by rw [c_30]; rfl) (by decide) ?_
    exact k_30 C hi S hl hc kk
  by_cases c_31 : t = 31
  · refine lv_tableIn (off := 1829) (tgt := 1873) hx hb dL_law_44 (by rw [c_31]; decide) (by rw [c_31]; decide) (by rw [c_31]; rfl) (by decide) ?_
    exact k_31 C hi S hl hc kk
  by_cases c_32 : t = 32
  · refine lv_tableIn (off := 1897) (tgt := 1941) hx hb dL_law_44 (by rw [c_32]; decide) (by rw [c_32]; decide) (by rw [c_32]; rfl) (by decide) ?_
    exact k_32 C hi S hl hc kk
  by_cases c_33 : t = 33
  · refine lv_tableIn (off := 1965) (tgt := 2009) hx hb dL_law_44 (by rw [c_33]; decide) (by rw [c_33]; decide) (by rw [c_33]; rfl) (by decide) ?_
    exact k_33 C hi S hl hc kk
  by_cases c_34 : t = 34
  · refine lv_tableIn (off := 2033) (tgt := 2077) hx hb dL_law_44 (by rw [c_34]; decide) (by rw [c_34]; decide) (by rw [c_34]; rfl) (by decide) ?_
    exact k_34 C hi S hl hc kk
  by_cases c_35 : t = 35
  · refine lv_tableIn (off := 2077) (tgt := 2121) hx hb dL_law_44 (by rw [c_35]; decide) (by rw [c_35]; decide) (by rw [c_35]; rfl) (by decide) ?_
    exact k_35 C hi S hl hc kk
  by_cases c_36 : t = 36
  · refine lv_tableIn (off := 2133) (tgt := 2177) hx hb dL_law_44 (by rw [c_36]; decide) (by rw [c_36]; decide) (by rw [c_36]; rfl) (by decide) ?_
    exact k_36 C hi S hl hc kk
  by_cases c_37 : t = 37
  · refine lv_tableIn (off := 2177) (tgt := 2221) hx hb dL_law_44 (by rw [c_37]; decide) (by rw [c_37]; decide) (by rw [c_37]; rfl) (by decide) ?_
    exact k_37 C hi S hl hc kk
  by_cases c_38 : t = 38
  · refine lv_tableIn (off := 2233) (tgt := 2277) hx hb dL_law_44 (by rw [c_38]; decide) (by rw [c_38]; decide) (by rw [c_38]; rfl) (by decide) ?_
    exact k_38 C hi S hl hc kk
  by_cases c_39 : t = 39
  · refine lv_tableIn (off := 2289) (tgt := 2333) hx hb dL_law_44 (by rw [c_39]; decide) (by rw [c_39]; decide) (by rw [c_39]; rfl) (by decide) ?_
    exact k_39 C hi S hl hc kk
  by_cases c_40 : t = 40
  · refine lv_tableIn (off := 2333) (tgt := 2377) hx hb dL_law_44 (by rw [c_40]; decide) (by rw [c_40]; decide) (by rw [c_40]; rfl) (by decide) ?_
    exact k_40 C hi S hl hc kk
  by_cases c_41 : t = 41
  · refine lv_tableIn (off := 2391) (tgt := 2435) hx hb dL_law_44 (by rw [c_41]; decide) (by rw [c_41]; decide) (by rw [c_41]; rfl) (by decide) ?_
    exact k_41 C hi S hl hc kk
  by_cases c_42 : t = 42
  · refine lv_tableIn (off := 2449) (tgt := 2493) hx hb dL_law_44 (by rw [c_42]; decide) (by rw [c_42]; decide) (by rw [c_42]; rfl) (by decide) ?_
    exact k_42 C hi S hl hc kk
  by_cases c_43 : t = 43
  · refine lv_tableIn (off := 2507) (tgt := 2551) hx hb dL_law_44 (by rw [c_43]; decide) (by rw [c_43]; decide) (by rw [c_43]; rfl) (by decide) ?_
    exact k_43 C hi S hl hc kk
  by_cases c_44 : t = 44
  · refine lv_tableIn (off := 2551) (tgt := 2595) hx hb dL_law_44 (by rw [c_44]; decide) (by rw [c_44]; decide) (by rw [c_44]; rfl) (by decide) ?_
    exact k_44 C hi S hl hc kk
  by_cases c_45 : t = 45
  · refine lv_tableIn (off := 2595) (tgt := 2639) hx hb dL_law_44 (by rw [c_45]; decide) (by rw [c_45]; decide) (by rw [c_45]; rfl) (by decide) ?_
    exact k_45 C hi S hl hc kk
  by_cases c_46 : t = 46
  · refine lv_tableIn (off := 2639) (tgt := 2683) hx hb dL_law_44 (by rw [c_46]; decide) (by rw [c_46]; decide) (by rw [c_46]; rfl) (by decide) ?_
    exact k_46 C hi S hl hc kk
  by_cases c_47 : t = 47
  · refine lv_tableIn (off := 2652) (tgt := 2696) hx hb dL_law_44 (by rw [c_47]; decide) (by rw [c_47]; decide) (by rw [c_47]; rfl) (by decide) ?_
    exact k_47 C hi S hl hc kk
  refine lv_tableOut (tgt := 2740) hx hb dL_law_44 (tab_out [(0, 0), (1, 1), (2, 2), (3, 3), (4, 4), (5, 5), (6, 6), (7, 7), (8, 8), (9, 9), (10, 10), (11, 11), (12, 12), (13, 13), (14, 14), (15, 15), (16, 16), (17, 17), (18, 18), (19, 19), (20, 20), (21, 21), (22, 22), (23, 23), (24, 24), (25, 25), (26, 26), (27, 27), (28, 28), (29, 29), (30, 30), (31, 31), (32, 32), (33, 33), (34, 34), (35, 35), (36, 36), (37, 37), (38, 38), (39, 39), (40, 40), (41, 41), (42, 42), (43, 43), (44, 44), (45, 45), (46, 46), (47, 47)] (by decide) (List.forall_mem_cons.mpr ⟨c_0, List.forall_mem_cons.mpr ⟨c_1, List.forall_mem_cons.mpr ⟨c_2, List.forall_mem_cons.mpr ⟨c_3, List.forall_mem_cons.mpr ⟨c_4, List.forall_mem_cons.mpr ⟨c_5, List.forall_mem_cons.mpr ⟨c_6, List.forall_mem_cons.mpr ⟨c_7, List.forall_mem_cons.mpr ⟨c_8, List.forall_mem_cons.mpr ⟨c_9, List.forall_mem_cons.mpr ⟨c_10, List.forall_mem_cons.mpr ⟨c_11, List.forall_mem_cons.mpr ⟨c_12, List.forall_mem_cons.mpr ⟨c_13, List.forall_mem_cons.mpr ⟨c_14, List.forall_mem_cons.mpr ⟨c_15, List.forall_mem_cons.mpr ⟨c_16, List.forall_mem_cons.mpr ⟨c_17, List.forall_mem_cons.mpr ⟨c_18, List.forall_mem_cons.mpr ⟨c_19, List.forall_mem_cons.mpr ⟨c_20, List.forall_mem_cons.mpr ⟨c_21, List.forall_mem_cons.mpr ⟨c_22, List.forall_mem_cons.mpr ⟨c_23, List.forall_mem_cons.mpr ⟨c_24, List.forall_mem_cons.mpr ⟨c_25, List.forall_mem_cons.mpr ⟨c_26, List.forall_mem_cons.mpr ⟨c_27, List.forall_mem_cons.mpr ⟨c_28, List.forall_mem_cons.mpr ⟨c_29, List.forall_mem_cons.mpr ⟨c_30, List.forall_mem_cons.mpr ⟨c_31, List.forall_mem_cons.mpr ⟨c_32, List.forall_mem_cons.mpr ⟨c_33, List.forall_mem_cons.mpr ⟨c_34, List.forall_mem_cons.mpr ⟨c_35, List.forall_mem_cons.mpr ⟨c_36, List.forall_mem_cons.mpr ⟨c_37, List.forall_mem_cons.mpr ⟨c_38, List.forall_mem_cons.mpr ⟨c_39, List.forall_mem_cons.mpr ⟨c_40, List.forall_mem_cons.mpr ⟨c_41, List.forall_mem_cons.mpr ⟨c_42, List.forall_mem_cons.mpr ⟨c_43, List.forall_mem_cons.mpr ⟨c_44, List.forall_mem_cons.mpr ⟨c_45, List.forall_mem_cons.mpr ⟨c_46, List.forall_mem_cons.mpr ⟨c_47, (fun _ h => nomatch h)⟩⟩⟩⟩⟩⟩⟩⟩⟩⟩⟩⟩⟩⟩⟩⟩⟩⟩⟩⟩⟩⟩⟩⟩⟩⟩⟩⟩⟩⟩⟩⟩⟩⟩⟩⟩⟩⟩⟩⟩⟩⟩⟩⟩⟩⟩⟩⟩) (by decide)) (by decide) ?_
  exact W.widen (Nat.le_add_right _ _) (Nat.le_add_right _ _) (kk _ _ _ S hl)
set_option maxHeartbeats 4000000 in
set_option maxRecDepth 100000 in
/-- THE LAW'S LOOP -/
theorem law_loop {p : Program} {l : Launch} {e : Env} {s : State} {m : MethodId} {below : List Frame} {meth : Method} {c : Code} {D : va_G} {E : Nat → ClassId} {A : Nat → Prop} {b N : Nat} {xs : Nat → Int32} {h g : Nat → Nat} {hp : Nat → Nat → Nat} {o od : Nat} {Q : State → Prop} (C : LCC p l s m c D E A b N xs) (hend : ∀ (H : Heap) (locs : List Loc) (cells slots : Nat) (ls : Array Slot), LSS D E A s h g hp o od H locs → cells ≤ room_1.cells → slots ≤ room_1.slots → W p l e room_1 s m #[.ref b] below meth c H locs cells slots Q (F0 m 2746 ls [])) :
    ∀ (n i cells slots : Nat), N < i + 4 + 4 * n → i ≤ N + 3 → cells + 4 * n ≤ room_1.cells → slots + 24 * n ≤ room_1.slots → ∀ (H : Heap) (locs : List Loc) (ls : Array Slot), LSS D E A s h g hp o od H locs → lv_has ls 9 [(0, .ref b), (1, .ref (h 0)), (2, .ref (g 0)), (3, .ref o), (4, .ref od), (5, .int (nI i))] → W p l e room_1 s m #[.ref b] below meth c H locs cells slots Q (F0 m 28 ls []) := by
  obtain ⟨hF, hlt, hK, hA, hZ, hN, hX, hbl, hbA, hN9⟩ := id C
  have hx := hF.1
  have hb := hF.2.1
  intro n
  induction n with
  | zero =>
    intro i cells slots h1 h0 h2 h3 H locs ls S hl
    have S0 := S
    obtain ⟨ss, aa, pl, po, pa, ms, ma, fo, fd, hR, hW⟩ := S
    refine lv_iload hx hb dL_law_28 (lv_at hl 5 rfl) ?_
    refine lv_aload_n hx hb dL_law_30 rfl (lv_at hl 0 rfl) ?_
    refine va_slen hx hb hX hbl hbA hW.2.2 dL_law_31 ?_
    refine lv_iconst (v := 4) hx hb dL_law_32 (by decide) ?_
    refine lv_isub hx hb dL_law_33 ?_
    refine lv_icmp_gt (tgt := 2746) hx hb dL_law_34 (by decide) (fun _ => ?_) (fun z => absurd (gt_yes (by omega) hN9 (by omega)) z)
    exact hend H locs cells slots ls S0 h2 h3
  | succ n ih =>
    intro i cells slots h1 h0 h2 h3 H locs ls S hl
    have S0 := S
    obtain ⟨ss, aa, pl, po, pa, ms, ma, fo, fd, hR, hW⟩ := S
    refine lv_iload hx hb dL_law_28 (lv_at hl 5 rfl) ?_
    refine lv_aload_n hx hb dL_law_30 rfl (lv_at hl 0 rfl) ?_
    refine va_slen hx hb hX hbl hbA hW.2.2 dL_law_31 ?_
    refine lv_iconst (v := 4) hx hb dL_law_32 (by decide) ?_
    refine lv_isub hx hb dL_law_33 ?_
    by_cases hi : i + 4 ≤ N
    · refine lv_icmp_gt (tgt := 2746) hx hb dL_law_34 (by decide) (fun z => absurd z (gt_no hi hN9)) (fun _ => ?_)
      refine lv_aload_n hx hb dL_law_37 rfl (lv_at hl 0 rfl) ?_
      refine lv_iload hx hb dL_law_38 (lv_at hl 5 rfl) ?_
      refine va_sld hx hb hX hbl hbA hW.2.2 (ix_ok hi hN9).1 dL_law_40 ?_
      refine lv_bipush (v := 63) hx hb dL_law_41 (by decide) ?_
      refine lv_iand hx hb dL_law_43 ?_
      refine law_case C hi S0 hl ⟨by omega, by omega⟩ (fun H locs ls S hl => ?_)
      refine lv_iinc (v := nI (i + 4)) (lv' := [(5, .int (nI (i + 4))), (0, .ref b), (1, .ref (h 0)), (2, .ref (g 0)), (3, .ref o), (4, .ref od)]) hx hb dL_law_2740 hl (k := 5) rfl (nI_add i 4) (by decide) rfl (fun ls hl => ?_)
      refine lv_goto (tgt := 28) hx hb dL_law_2743 (by decide) ?_
      exact ih (i + 4) (cells + 4) (slots + 24) (by omega) (by omega) (by omega) (by omega) H locs ls S (lv_sub hl [1, 2, 3, 4, 5, 0] rfl)
    · refine lv_icmp_gt (tgt := 2746) hx hb dL_law_34 (by decide) (fun _ => ?_) (fun z => absurd (gt_yes hi hN9 (by omega)) z)
      exact hend H locs cells slots ls S0 (by omega) (by omega)
