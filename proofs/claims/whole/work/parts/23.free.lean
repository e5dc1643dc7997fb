/-! freedom: contracts of methods that return a double -/
def GNN {α : Type} (v : UInt64) (k : Option α) : Option α := if v &&& 0x7fffffffffffffff ≤ 0x7ff0000000000000 then k else none
theorem ob_gnn {α : Type} {v : UInt64} {k : Option α} {r : α} (h : GNN v k = some r) : vf_n64 v ∧ k = some r := by
  unfold GNN at h
  by_cases q : v &&& 0x7fffffffffffffff ≤ 0x7ff0000000000000
  · rw [if_pos q] at h; exact ⟨q, h⟩
  · rw [if_neg q] at h; cases h
def CD (l : Launch) (y : MethodName) (cc : ByteArray) (nL : Nat) (fr lo : Nat) (D : va_G) (E : Nat → ClassId) (tx : List (Nat × String)) (As : List Value) (ws ws' : va_W) (r : UInt64) : Prop :=
  ∀ sz : Nat, Met l y (GW y cc nL (some .double)) (RM fr lo) (va_Pc As (Pre D E tx ws sz)) (va_Qd (fun (r' : UInt64) (_ : Unit) => r' = r) (fun _ t => va_P D vwCl ws' t.heap) (va_A ws sz)) 0 0 (va_A ws sz)
def XD (l : Launch) (y : MethodName) (cc : ByteArray) (nL : Nat) (fr lo mc ms : Nat) (D : va_G) (E : Nat → ClassId) (tx : List (Nat × String)) (As : List Value) (ws ws' : va_W) (k : Nat) (r : UInt64) : Prop :=
  ∀ sz : Nat, vx_Met l y (GW y cc nL (some .double)) (RX_ fr lo mc ms) (va_Pc As (Pre D E tx ws sz)) (va_Qd (fun (r' : UInt64) (_ : Unit) => k = 0 ∧ r' = r) (fun _ t => va_P D vwCl ws' t.heap) (va_A ws sz)) (vx_X (fun _ : Unit => k ≠ 0) (fun E' _ t => E' = exName k ∧ va_P D vwCl ws' t.heap) (va_A ws sz)) mc ms (va_A ws sz)
theorem CD_of {l : Launch} {y : MethodName} {cc : ByteArray} {nL : Nat} {fr lo : Nat} {D : va_G} {E : Nat → ClassId} {tx : List (Nat × String)} {As : List Value} {ws ws' : va_W} {r : UInt64} (own : String) (hy : plainName y.cls = true) (ho : y.cls = own) (hn : (lg_sl As).length ≤ nL)
    (h : ∀ (p : Program) (e : Env) (s : State) (m : MethodId) (args : Array Value) (below : List Frame) (meth : Method) (c : Code) (A : Nat → Prop) (Q : State → Prop), CallFix p m c cc nL s args WG own → va_K D vwCl (TY E) s → (∀ q, s.heap.size ≤ q → A q) → SF E tx A s s.heap → WD D A s ws s.heap [] →
      (∀ {pc : Nat} {H : Heap} {locs : List Loc} {ls : Array Slot} {v : UInt64}, decode cc pc = .ok (.dreturn, 1) → v = r → WD D A s ws' H locs → W p l e (RM fr lo) s m args below meth c H locs 0 0 Q (F0 m pc ls [.double v])) →
      ∀ ls : Array Slot, lv_has ls nL (lv_args 0 As) → W p l e (RM fr lo) s m args below meth c s.heap [] 0 0 Q (F0 m 0 ls [])) : CD l y cc nL fr lo D E tx As ws ws' r := by
  intro sz
  refine Met.ofW (cc := cc) (maxL := nL) (ret := some .double) hy rfl ?_
  intro p e s m args below meth c s₁ B hml hv
  obtain ⟨rfl, hsz, hP, hK, hD0, hZ⟩ := hv
  subst hsz
  have hts := atoms_spec (ws := GW y cc nL (some .double)) B.pre
  have hown : s.vm.findClass own = some m.cls := by rw [← ho]; exact findClass_of_methodNamed B.named
  have hlocks := B.notSynchronized
  have hr := B.returns
  rw [lg_entry_eq]
  refine h p e s m _ below meth c (va_A ws s.heap.size) _ ⟨B.exec, B.bytes, hml, hown, fun w hw => hts w (List.mem_cons_of_mem _ hw)⟩ hK (fun q h => Or.inr h) hZ ⟨hP, hD0.self, va_S.rf⟩ ?_ _ (lv_entry As hn)
  intro pc H locs ls v hd hv hW
  subst hv
  exact W.dret B.exec B.bytes hr (fun t ht _ => ⟨⟨v, (), rfl, rfl, by show va_P D vwCl ws' t.heap; rw [ht]; exact hW.1⟩, hW.2.2.F ht⟩) hW.2.2.2.2 hd
theorem XD_of {l : Launch} {y : MethodName} {cc : ByteArray} {nL : Nat} {fr lo mc ms : Nat} {D : va_G} {E : Nat → ClassId} {tx : List (Nat × String)} {As : List Value} {ws ws' : va_W} {k : Nat} {r : UInt64} (own : String) (hlt : l.stackTraces = false) (hfr : 6 ≤ fr) (hy : plainName y.cls = true) (ho : y.cls = own) (hn : (lg_sl As).length ≤ nL)
    (h : ∀ (p : Program) (e : Env) (s : State) (m : MethodId) (args : Array Value) (below : List Frame) (meth : Method) (c : Code) (A : Nat → Prop) (Q : State → Prop), CallFix p m c cc nL s args WG own → va_K D vwCl (TY E) s → (∀ q, s.heap.size ≤ q → A q) → SF E tx A s s.heap → WD D A s ws s.heap [] →
      (∀ {pc : Nat} {H : Heap} {locs : List Loc} {ls : Array Slot} {v : UInt64} {cells slots : Nat}, decode cc pc = .ok (.dreturn, 1) → k = 0 → v = r → cells ≤ mc → slots ≤ ms → WD D A s ws' H locs → W p l e (RX_ fr lo mc ms) s m args below meth c H locs cells slots Q (F0 m pc ls [.double v])) →
      Thru p l e (RX_ fr lo mc ms) s m args below meth c D A ws' k mc ms Q → Thrs p l e (RX_ fr lo mc ms) s m args below meth c cc own tx nL D A ws' k mc ms Q → ThrsW p l e (RX_ fr lo mc ms) s m args below meth c cc own tx nL D A ws' k mc ms Q →
      ∀ ls : Array Slot, lv_has ls nL (lv_args 0 As) → W p l e (RX_ fr lo mc ms) s m args below meth c s.heap [] 0 0 Q (F0 m 0 ls [])) : XD l y cc nL fr lo mc ms D E tx As ws ws' k r := by
  intro sz
  refine vx_ofW (cc := cc) (maxL := nL) (ret := some .double) hy rfl ?_
  intro p e s m args below meth c s₁ B hml hnone hv
  obtain ⟨rfl, hsz, hP, hK, hD0, hZ⟩ := hv
  subst hsz
  have hts := atoms_spec (ws := GW y cc nL (some .double)) B.pre
  have hown : s.vm.findClass own = some m.cls := by rw [← ho]; exact findClass_of_methodNamed B.named
  have hlocks := B.notSynchronized
  have hr := B.returns
  have hF : CallFix p m c cc nL s As.toArray WG own := ⟨B.exec, B.bytes, hml, hown, fun w hw => hts w (List.mem_cons_of_mem _ hw)⟩
  rw [lg_entry_eq]
  refine h p e s m _ below meth c (va_A ws s.heap.size) _ hF hK (fun q h => Or.inr h) hZ ⟨hP, hD0.self, va_S.rf⟩ ?_ (thru_of hnone hlocks) (thrs_of hF hlt hfr hZ hnone hlocks) (thrsW_of hF hlt hfr hZ hnone hlocks) _ (lv_entry As hn)
  intro pc H locs ls v cells slots hd hk hv hc hs hW
  subst hv
  refine vx_ret (W.widen hc hs ?_)
  exact W.dret B.exec B.bytes hr (fun t ht _ => ⟨⟨v, (), rfl, ⟨hk, rfl⟩, by show va_P D vwCl ws' t.heap; rw [ht]; exact hW.1⟩, hW.2.2.F ht⟩) hW.2.2.2.2 hd
def f_X7_freedom_B10 (s_now_links_10 : Int32) (s_now_length_10 : Nat → Int32) (s_now_lower_10 : Nat → Int32) (s_now_upper_10 : Nat → Int32) (s_now_blocked_10 : Nat → Int32) (s_space_known_10 : Int32) (s_space_poses_10 : Int32) (s_space_links_10 : Int32) (s_space_span_10 : Nat → Int32) (s_space_stride_10 : Nat → Int32) (s_space_tip_10 : Nat → Int32) (s_space_walk_firstFault_10 : Int32) (s_space_walk_firstLink_10 : Int32) (s_space_walk_tipX_10 : Int32) (s_space_walk_tipY_10 : Int32) (s_space_walk_beginX_10 : Nat → Int32) (s_space_walk_beginY_10 : Nat → Int32) (s_space_walk_direction_10 : Nat → Int32) (s_space_walk_trodden_10 : Nat → Int32) (s_space_values_10 : Nat → Int32) (z1_10 : Int32) (z2_10 : Int32) (z3_10 : Int32) : Option ((Int32 × Int32 × Int32) ⊕ (Int32 × Int32)) := if s_space_poses_10 ≤ z3_10 then (some (.inr ((z1_10, z2_10)))) else ((f_X5_isFree s_space_poses_10 s_space_tip_10 z3_10).bind fun o_2 => if o_2 = 0 then (LET (z3_10 + 1 : Int32) fun v_3 => some (.inl ((z1_10, z2_10, v_3)))) else (LET (z1_10 + 1 : Int32) fun v_4 => (f_X5_movesFrom s_space_poses_10 s_space_links_10 s_space_span_10 s_space_stride_10 s_space_tip_10 z3_10).bind fun o_5 => LET (z2_10 + o_5 : Int32) fun v_6 => LET (z3_10 + 1 : Int32) fun v_7 => some (.inl ((v_4, v_6, v_7)))))
def f_X7_freedom (s_now_links : Int32) (s_now_length : Nat → Int32) (s_now_lower : Nat → Int32) (s_now_upper : Nat → Int32) (s_now_blocked : Nat → Int32) (s_space_known : Int32) (s_space_poses : Int32) (s_space_links : Int32) (s_space_span : Nat → Int32) (s_space_stride : Nat → Int32) (s_space_tip : Nat → Int32) (s_space_walk_firstFault : Int32) (s_space_walk_firstLink : Int32) (s_space_walk_tipX : Int32) (s_space_walk_tipY : Int32) (s_space_walk_beginX : Nat → Int32) (s_space_walk_beginY : Nat → Int32) (s_space_walk_direction : Nat → Int32) (s_space_walk_trodden : Nat → Int32) (s_space_values : Nat → Int32)  : Option (Nat × UInt64 × Int32 × Int32 × Int32 × (Nat → Int32) × (Nat → Int32) × (Nat → Int32) × Int32 × Int32 × Int32 × Int32 × (Nat → Int32) × (Nat → Int32) × (Nat → Int32) × (Nat → Int32) × (Nat → Int32)) := (f_X7_surveyPoses s_now_links s_now_length s_now_lower s_now_upper s_now_blocked s_space_known s_space_poses s_space_links s_space_span s_space_stride s_space_tip s_space_walk_firstFault s_space_walk_firstLink s_space_walk_tipX s_space_walk_tipY s_space_walk_beginX s_space_walk_beginY s_space_walk_direction s_space_walk_trodden s_space_values).bind fun o_1 => if o_1.1 = 0 then ((LPF (fun z => f_X7_freedom_B10 s_now_links s_now_length s_now_lower s_now_upper s_now_blocked o_1.2.1 o_1.2.2.1 o_1.2.2.2.1 o_1.2.2.2.2.1 o_1.2.2.2.2.2.1 o_1.2.2.2.2.2.2.1 o_1.2.2.2.2.2.2.2.1 o_1.2.2.2.2.2.2.2.2.1 o_1.2.2.2.2.2.2.2.2.2.1 o_1.2.2.2.2.2.2.2.2.2.2.1 o_1.2.2.2.2.2.2.2.2.2.2.2.1 o_1.2.2.2.2.2.2.2.2.2.2.2.2.1 o_1.2.2.2.2.2.2.2.2.2.2.2.2.2.1 o_1.2.2.2.2.2.2.2.2.2.2.2.2.2.2.1 o_1.2.2.2.2.2.2.2.2.2.2.2.2.2.2.2 z.1 z.2.1 z.2.2) lfuel (0, 0, 0)).bind fun e_8 => if e_8.1 = 0 then (some ((5, 0, o_1.2.1, o_1.2.2.1, o_1.2.2.2.1, o_1.2.2.2.2.1, o_1.2.2.2.2.2.1, o_1.2.2.2.2.2.2.1, o_1.2.2.2.2.2.2.2.1, o_1.2.2.2.2.2.2.2.2.1, o_1.2.2.2.2.2.2.2.2.2.1, o_1.2.2.2.2.2.2.2.2.2.2.1, o_1.2.2.2.2.2.2.2.2.2.2.2.1, o_1.2.2.2.2.2.2.2.2.2.2.2.2.1, o_1.2.2.2.2.2.2.2.2.2.2.2.2.2.1, o_1.2.2.2.2.2.2.2.2.2.2.2.2.2.2.1, o_1.2.2.2.2.2.2.2.2.2.2.2.2.2.2.2))) else (GNN (FP.ddiv (FP.i2d e_8.2) (FP.i2d e_8.1)) <| some ((0, FP.ddiv (FP.i2d e_8.2) (FP.i2d e_8.1), o_1.2.1, o_1.2.2.1, o_1.2.2.2.1, o_1.2.2.2.2.1, o_1.2.2.2.2.2.1, o_1.2.2.2.2.2.2.1, o_1.2.2.2.2.2.2.2.1, o_1.2.2.2.2.2.2.2.2.1, o_1.2.2.2.2.2.2.2.2.2.1, o_1.2.2.2.2.2.2.2.2.2.2.1, o_1.2.2.2.2.2.2.2.2.2.2.2.1, o_1.2.2.2.2.2.2.2.2.2.2.2.2.1, o_1.2.2.2.2.2.2.2.2.2.2.2.2.2.1, o_1.2.2.2.2.2.2.2.2.2.2.2.2.2.2.1, o_1.2.2.2.2.2.2.2.2.2.2.2.2.2.2.2)))) else (some ((o_1.1, 0, o_1.2.1, o_1.2.2.1, o_1.2.2.2.1, o_1.2.2.2.2.1, o_1.2.2.2.2.2.1, o_1.2.2.2.2.2.2.1, o_1.2.2.2.2.2.2.2.1, o_1.2.2.2.2.2.2.2.2.1, o_1.2.2.2.2.2.2.2.2.2.1, o_1.2.2.2.2.2.2.2.2.2.2.1, o_1.2.2.2.2.2.2.2.2.2.2.2.1, o_1.2.2.2.2.2.2.2.2.2.2.2.2.1, o_1.2.2.2.2.2.2.2.2.2.2.2.2.2.1, o_1.2.2.2.2.2.2.2.2.2.2.2.2.2.2.1, o_1.2.2.2.2.2.2.2.2.2.2.2.2.2.2.2)))
def w_X7_freedom (E : Nat → ClassId) (h_ h_now h_saved h_draft h_history h_walk h_space h_route h_bookmarks h_input h_trial h_tally h_now_length h_now_lower h_now_upper h_now_value h_now_obstacleX h_now_obstacleY h_now_blocked h_space_span h_space_stride h_space_tip h_space_distance h_space_found h_space_changes h_space_walk h_space_values h_space_walk_beginX h_space_walk_beginY h_space_walk_direction h_space_walk_trodden : Nat) (s_hasSaved : Int32) (s_keptError : Int32) (s_now_links : Int32) (s_now_obstacles : Int32) (s_now_length : Nat → Int32) (s_now_lower : Nat → Int32) (s_now_upper : Nat → Int32) (s_now_blocked : Nat → Int32) (s_space_known : Int32) (s_space_poses : Int32) (s_space_links : Int32) (s_space_reached : Int32) (s_space_span : Nat → Int32) (s_space_stride : Nat → Int32) (s_space_tip : Nat → Int32) (s_space_walk_firstFault : Int32) (s_space_walk_firstLink : Int32) (s_space_walk_tipX : Int32) (s_space_walk_tipY : Int32) (s_space_walk_beginX : Nat → Int32) (s_space_walk_beginY : Nat → Int32) (s_space_walk_direction : Nat → Int32) (s_space_walk_trodden : Nat → Int32) (s_space_values : Nat → Int32) : va_W := [(h_, .inr (9, [.ref h_now, .ref h_saved, .ref h_draft, .ref h_history, .ref h_walk, .ref h_space, .ref h_route, .ref h_bookmarks, .ref h_input, .ref h_trial, .ref h_tally, .int s_hasSaved, .int s_keptError])), (h_now, .inr (6, [.int s_now_links, .ref h_now_length, .ref h_now_lower, .ref h_now_upper, .ref h_now_value, .int s_now_obstacles, .ref h_now_obstacleX, .ref h_now_obstacleY, .ref h_now_blocked])), (h_now_length, .inl (E 0, 4, .inl s_now_length)), (h_now_lower, .inl (E 0, 4, .inl s_now_lower)), (h_now_upper, .inl (E 0, 4, .inl s_now_upper)), (h_now_blocked, .inl (E 0, 21, .inl s_now_blocked)), (h_space, .inr (7, [.int s_space_known, .int s_space_poses, .int s_space_links, .ref h_space_span, .ref h_space_stride, .ref h_space_tip, .ref h_space_distance, .ref h_space_found, .int s_space_reached, .ref h_space_changes, .ref h_space_walk, .ref h_space_values])), (h_space_span, .inl (E 0, 4, .inl s_space_span)), (h_space_stride, .inl (E 0, 4, .inl s_space_stride)), (h_space_tip, .inl (E 0, 5000, .inl s_space_tip)), (h_space_walk, .inr (8, [.int s_space_walk_firstFault, .int s_space_walk_firstLink, .int s_space_walk_tipX, .int s_space_walk_tipY, .ref h_space_walk_beginX, .ref h_space_walk_beginY, .ref h_space_walk_direction, .ref h_space_walk_trodden])), (h_space_walk_beginX, .inl (E 0, 4, .inl s_space_walk_beginX)), (h_space_walk_beginY, .inl (E 0, 4, .inl s_space_walk_beginY)), (h_space_walk_direction, .inl (E 0, 4, .inl s_space_walk_direction)), (h_space_walk_trodden, .inl (E 0, 21, .inl s_space_walk_trodden)), (h_space_values, .inl (E 0, 4, .inl s_space_values))]
set_option maxHeartbeats 4000000 in
set_option maxRecDepth 100000 in
theorem c_X7_freedom (l : Launch) (hlt : l.stackTraces = false) (D : va_G) (E : Nat → ClassId) (h_ h_now h_saved h_draft h_history h_walk h_space h_route h_bookmarks h_input h_trial h_tally h_now_length h_now_lower h_now_upper h_now_value h_now_obstacleX h_now_obstacleY h_now_blocked h_space_span h_space_stride h_space_tip h_space_distance h_space_found h_space_changes h_space_walk h_space_values h_space_walk_beginX h_space_walk_beginY h_space_walk_direction h_space_walk_trodden : Nat) (s_hasSaved : Int32) (s_keptError : Int32) (s_now_links : Int32) (s_now_obstacles : Int32) (s_now_length : Nat → Int32) (s_now_lower : Nat → Int32) (s_now_upper : Nat → Int32) (s_now_blocked : Nat → Int32) (s_space_known : Int32) (s_space_poses : Int32) (s_space_links : Int32) (s_space_reached : Int32) (s_space_span : Nat → Int32) (s_space_stride : Nat → Int32) (s_space_tip : Nat → Int32) (s_space_walk_firstFault : Int32) (s_space_walk_firstLink : Int32) (s_space_walk_tipX : Int32) (s_space_walk_tipY : Int32) (s_space_walk_beginX : Nat → Int32) (s_space_walk_beginY : Nat → Int32) (s_space_walk_direction : Nat → Int32) (s_space_walk_trodden : Nat → Int32) (s_space_values : Nat → Int32)  (r0 : Nat) (r1 : UInt64) (r2 : Int32) (r3 : Int32) (r4 : Int32) (r5 : Nat → Int32) (r6 : Nat → Int32) (r7 : Nat → Int32) (r8 : Int32) (r9 : Int32) (r10 : Int32) (r11 : Int32) (r12 : Nat → Int32) (r13 : Nat → Int32) (r14 : Nat → Int32) (r15 : Nat → Int32) (r16 : Nat → Int32) (hf : f_X7_freedom s_now_links s_now_length s_now_lower s_now_upper s_now_blocked s_space_known s_space_poses s_space_links s_space_span s_space_stride s_space_tip s_space_walk_firstFault s_space_walk_firstLink s_space_walk_tipX s_space_walk_tipY s_space_walk_beginX s_space_walk_beginY s_space_walk_direction s_space_walk_trodden s_space_values = some (r0, r1, r2, r3, r4, r5, r6, r7, r8, r9, r10, r11, r12, r13, r14, r15, r16)) : XD l yX7_freedom cX7_freedom 4 7 153 2 12 D E TXL [.ref h_] (w_X7_freedom E h_ h_now h_saved h_draft h_history h_walk h_space h_route h_bookmarks h_input h_trial h_tally h_now_length h_now_lower h_now_upper h_now_value h_now_obstacleX h_now_obstacleY h_now_blocked h_space_span h_space_stride h_space_tip h_space_distance h_space_found h_space_changes h_space_walk h_space_values h_space_walk_beginX h_space_walk_beginY h_space_walk_direction h_space_walk_trodden s_hasSaved s_keptError s_now_links s_now_obstacles s_now_length s_now_lower s_now_upper s_now_blocked s_space_known s_space_poses s_space_links s_space_reached s_space_span s_space_stride s_space_tip s_space_walk_firstFault s_space_walk_firstLink s_space_walk_tipX s_space_walk_tipY s_space_walk_beginX s_space_walk_beginY s_space_walk_direction s_space_walk_trodden s_space_values) (w_X7_freedom E h_ h_now h_saved h_draft h_history h_walk h_space h_route h_bookmarks h_input h_trial h_tally h_now_length h_now_lower h_now_upper h_now_value h_now_obstacleX h_now_obstacleY h_now_blocked h_space_span h_space_stride h_space_tip h_space_distance h_space_found h_space_changes h_space_walk h_space_values h_space_walk_beginX h_space_walk_beginY h_space_walk_direction h_space_walk_trodden s_hasSaved s_keptError s_now_links s_now_obstacles s_now_length s_now_lower s_now_upper s_now_blocked r2 r3 r4 s_space_reached r5 r6 r7 r8 r9 r10 r11 r12 r13 r14 r15 r16) r0 r1 := by
  refine XD_of RX7 hlt (Nat.le_of_ble_eq_true rfl) pn_X7 rfl (Nat.le_of_ble_eq_true rfl) (fun p e s m args below meth c A Q hF hK hA hZ hW hret hthru hthr hthrw ls hl => ?_)
  have hx := hF.1
  have hb := hF.2.1
  have hl : lv_has ls 4 [(0, .ref h_)] := hl
  unfold f_X7_freedom at hf
  refine lv_aload_n hx hb dX7_freedom_0 rfl (lv_at hl 0 rfl) ?_
  obtain ⟨o_1, hc_1, hf⟩ := ob_bind hf
  refine q_xV hF hl.1 hK hA hZ hW mv_X7_surveyPoses ml_X7_280 (c_X7_surveyPoses l hlt D E h_ h_now h_saved h_draft h_history h_walk h_space h_route h_bookmarks h_input h_trial h_tally h_now_length h_now_lower h_now_upper h_now_value h_now_obstacleX h_now_obstacleY h_now_blocked h_space_span h_space_stride h_space_tip h_space_distance h_space_found h_space_changes h_space_walk h_space_values h_space_walk_beginX h_space_walk_beginY h_space_walk_direction h_space_walk_trodden s_hasSaved s_keptError s_now_links s_now_obstacles s_now_length s_now_lower s_now_upper s_now_blocked s_space_known s_space_poses s_space_links s_space_reached s_space_span s_space_stride s_space_tip s_space_walk_firstFault s_space_walk_firstLink s_space_walk_tipX s_space_walk_tipY s_space_walk_beginX s_space_walk_beginY s_space_walk_direction s_space_walk_trodden s_space_values o_1.1 o_1.2.1 o_1.2.2.1 o_1.2.2.2.1 o_1.2.2.2.2.1 o_1.2.2.2.2.2.1 o_1.2.2.2.2.2.2.1 o_1.2.2.2.2.2.2.2.1 o_1.2.2.2.2.2.2.2.2.1 o_1.2.2.2.2.2.2.2.2.2.1 o_1.2.2.2.2.2.2.2.2.2.2.1 o_1.2.2.2.2.2.2.2.2.2.2.2.1 o_1.2.2.2.2.2.2.2.2.2.2.2.2.1 o_1.2.2.2.2.2.2.2.2.2.2.2.2.2.1 o_1.2.2.2.2.2.2.2.2.2.2.2.2.2.2.1 o_1.2.2.2.2.2.2.2.2.2.2.2.2.2.2.2 hc_1) [0, 1, 2, 3, 4, 5, 6, 7, 8, 9, 10, 11, 12, 13, 14, 15] rfl rfl rfl rfl rfl rfl ⟨Nat.le_of_ble_eq_true rfl, Nat.le_of_ble_eq_true rfl⟩ ⟨Nat.le_of_ble_eq_true rfl, Nat.le_of_ble_eq_true rfl⟩ rfl rfl (Nat.le_of_ble_eq_true rfl) dX7_freedom_1 (fun hk ce q9 H locs hW g1 g2 g3 => ?_) (fun hk H locs hW => ?_)
  · have hW : WD D A s (w_X7_freedom E h_ h_now h_saved h_draft h_history h_walk h_space h_route h_bookmarks h_input h_trial h_tally h_now_length h_now_lower h_now_upper h_now_value h_now_obstacleX h_now_obstacleY h_now_blocked h_space_span h_space_stride h_space_tip h_space_distance h_space_found h_space_changes h_space_walk h_space_values h_space_walk_beginX h_space_walk_beginY h_space_walk_direction h_space_walk_trodden s_hasSaved s_keptError s_now_links s_now_obstacles s_now_length s_now_lower s_now_upper s_now_blocked o_1.2.1 o_1.2.2.1 o_1.2.2.2.1 s_space_reached o_1.2.2.2.2.1 o_1.2.2.2.2.2.1 o_1.2.2.2.2.2.2.1 o_1.2.2.2.2.2.2.2.1 o_1.2.2.2.2.2.2.2.2.1 o_1.2.2.2.2.2.2.2.2.2.1 o_1.2.2.2.2.2.2.2.2.2.2.1 o_1.2.2.2.2.2.2.2.2.2.2.2.1 o_1.2.2.2.2.2.2.2.2.2.2.2.2.1 o_1.2.2.2.2.2.2.2.2.2.2.2.2.2.1 o_1.2.2.2.2.2.2.2.2.2.2.2.2.2.2.1 o_1.2.2.2.2.2.2.2.2.2.2.2.2.2.2.2) H locs := hW
    rw [if_neg hk] at hf
    cases hf
    exact hthru rfl hk (Nat.le_of_ble_eq_true rfl) (Nat.le_of_ble_eq_true rfl) hW g1 g2 g3
  · have hW : WD D A s (w_X7_freedom E h_ h_now h_saved h_draft h_history h_walk h_space h_route h_bookmarks h_input h_trial h_tally h_now_length h_now_lower h_now_upper h_now_value h_now_obstacleX h_now_obstacleY h_now_blocked h_space_span h_space_stride h_space_tip h_space_distance h_space_found h_space_changes h_space_walk h_space_values h_space_walk_beginX h_space_walk_beginY h_space_walk_direction h_space_walk_trodden s_hasSaved s_keptError s_now_links s_now_obstacles s_now_length s_now_lower s_now_upper s_now_blocked o_1.2.1 o_1.2.2.1 o_1.2.2.2.1 s_space_reached o_1.2.2.2.2.1 o_1.2.2.2.2.2.1 o_1.2.2.2.2.2.2.1 o_1.2.2.2.2.2.2.2.1 o_1.2.2.2.2.2.2.2.2.1 o_1.2.2.2.2.2.2.2.2.2.1 o_1.2.2.2.2.2.2.2.2.2.2.1 o_1.2.2.2.2.2.2.2.2.2.2.2.1 o_1.2.2.2.2.2.2.2.2.2.2.2.2.1 o_1.2.2.2.2.2.2.2.2.2.2.2.2.2.1 o_1.2.2.2.2.2.2.2.2.2.2.2.2.2.2.1 o_1.2.2.2.2.2.2.2.2.2.2.2.2.2.2.2) H locs := hW
    rw [if_pos hk] at hf
    refine lv_iconst (v := 0) hx hb dX7_freedom_4 (by decide) ?_
    refine lv_istore_n (lv' := [(1, .int 0), (0, .ref h_)]) hx hb dX7_freedom_5 rfl hl (by decide) rfl (fun ls hl => ?_)
    refine lv_iconst (v := 0) hx hb dX7_freedom_6 (by decide) ?_
    refine lv_istore_n (lv' := [(2, .int 0), (1, .int 0), (0, .ref h_)]) hx hb dX7_freedom_7 rfl hl (by decide) rfl (fun ls hl => ?_)
    refine lv_iconst (v := 0) hx hb dX7_freedom_8 (by decide) ?_
    refine lv_istore_n (lv' := [(3, .int 0), (2, .int 0), (1, .int 0), (0, .ref h_)]) hx hb dX7_freedom_9 rfl hl (by decide) rfl (fun ls hl => ?_)
    have hB10 : ∀ (n : Nat) (z1_10 : Int32) (z2_10 : Int32) (z3_10 : Int32) (ex : Int32 × Int32) (H : Heap) (locs : List Loc) (ls : Array Slot), LPF (fun z => f_X7_freedom_B10 s_now_links s_now_length s_now_lower s_now_upper s_now_blocked o_1.2.1 o_1.2.2.1 o_1.2.2.2.1 o_1.2.2.2.2.1 o_1.2.2.2.2.2.1 o_1.2.2.2.2.2.2.1 o_1.2.2.2.2.2.2.2.1 o_1.2.2.2.2.2.2.2.2.1 o_1.2.2.2.2.2.2.2.2.2.1 o_1.2.2.2.2.2.2.2.2.2.2.1 o_1.2.2.2.2.2.2.2.2.2.2.2.1 o_1.2.2.2.2.2.2.2.2.2.2.2.2.1 o_1.2.2.2.2.2.2.2.2.2.2.2.2.2.1 o_1.2.2.2.2.2.2.2.2.2.2.2.2.2.2.1 o_1.2.2.2.2.2.2.2.2.2.2.2.2.2.2.2 z.1 z.2.1 z.2.2) n (z1_10, z2_10, z3_10) = some ex → lv_has ls 4 [(0, .ref h_), (1, .int z1_10), (2, .int z2_10), (3, .int z3_10)] → WD D A s (w_X7_freedom E h_ h_now h_saved h_draft h_history h_walk h_space h_route h_bookmarks h_input h_trial h_tally h_now_length h_now_lower h_now_upper h_now_value h_now_obstacleX h_now_obstacleY h_now_blocked h_space_span h_space_stride h_space_tip h_space_distance h_space_found h_space_changes h_space_walk h_space_values h_space_walk_beginX h_space_walk_beginY h_space_walk_direction h_space_walk_trodden s_hasSaved s_keptError s_now_links s_now_obstacles s_now_length s_now_lower s_now_upper s_now_blocked o_1.2.1 o_1.2.2.1 o_1.2.2.2.1 s_space_reached o_1.2.2.2.2.1 o_1.2.2.2.2.2.1 o_1.2.2.2.2.2.2.1 o_1.2.2.2.2.2.2.2.1 o_1.2.2.2.2.2.2.2.2.1 o_1.2.2.2.2.2.2.2.2.2.1 o_1.2.2.2.2.2.2.2.2.2.2.1 o_1.2.2.2.2.2.2.2.2.2.2.2.1 o_1.2.2.2.2.2.2.2.2.2.2.2.2.1 o_1.2.2.2.2.2.2.2.2.2.2.2.2.2.1 o_1.2.2.2.2.2.2.2.2.2.2.2.2.2.2.1 o_1.2.2.2.2.2.2.2.2.2.2.2.2.2.2.2) H locs → (∀ (H : Heap) (locs : List Loc) (ls : Array Slot), lv_has ls 4 [(1, .int ex.1), (2, .int ex.2)] → WD D A s (w_X7_freedom E h_ h_now h_saved h_draft h_history h_walk h_space h_route h_bookmarks h_input h_trial h_tally h_now_length h_now_lower h_now_upper h_now_value h_now_obstacleX h_now_obstacleY h_now_blocked h_space_span h_space_stride h_space_tip h_space_distance h_space_found h_space_changes h_space_walk h_space_values h_space_walk_beginX h_space_walk_beginY h_space_walk_direction h_space_walk_trodden s_hasSaved s_keptError s_now_links s_now_obstacles s_now_length s_now_lower s_now_upper s_now_blocked o_1.2.1 o_1.2.2.1 o_1.2.2.2.1 s_space_reached o_1.2.2.2.2.1 o_1.2.2.2.2.2.1 o_1.2.2.2.2.2.2.1 o_1.2.2.2.2.2.2.2.1 o_1.2.2.2.2.2.2.2.2.1 o_1.2.2.2.2.2.2.2.2.2.1 o_1.2.2.2.2.2.2.2.2.2.2.1 o_1.2.2.2.2.2.2.2.2.2.2.2.1 o_1.2.2.2.2.2.2.2.2.2.2.2.2.1 o_1.2.2.2.2.2.2.2.2.2.2.2.2.2.1 o_1.2.2.2.2.2.2.2.2.2.2.2.2.2.2.1 o_1.2.2.2.2.2.2.2.2.2.2.2.2.2.2.2) H locs → W p l e (RX_ 7 153 2 12) s m args below meth c H locs 1 6 Q (F0 m 52 ls [])) → W p l e (RX_ 7 153 2 12) s m args below meth c H locs 1 6 Q (F0 m 10 ls []) := by
      intro n
      induction n with
      | zero => intro z1_10 z2_10 z3_10 ex H locs ls h9; exact (ob_lp0 h9).elim
      | succ n ih =>
        intro z1_10 z2_10 z3_10 ex H locs ls h9 hl hW kx0
        obtain ⟨q9, hf, h9, k9⟩ := ob_lp h9
        have hf : f_X7_freedom_B10 s_now_links s_now_length s_now_lower s_now_upper s_now_blocked o_1.2.1 o_1.2.2.1 o_1.2.2.2.1 o_1.2.2.2.2.1 o_1.2.2.2.2.2.1 o_1.2.2.2.2.2.2.1 o_1.2.2.2.2.2.2.2.1 o_1.2.2.2.2.2.2.2.2.1 o_1.2.2.2.2.2.2.2.2.2.1 o_1.2.2.2.2.2.2.2.2.2.2.1 o_1.2.2.2.2.2.2.2.2.2.2.2.1 o_1.2.2.2.2.2.2.2.2.2.2.2.2.1 o_1.2.2.2.2.2.2.2.2.2.2.2.2.2.1 o_1.2.2.2.2.2.2.2.2.2.2.2.2.2.2.1 o_1.2.2.2.2.2.2.2.2.2.2.2.2.2.2.2 z1_10 z2_10 z3_10 = some q9 := hf
        unfold f_X7_freedom_B10 at hf
        refine lv_iload_n hx hb dX7_freedom_10 rfl (lv_at hl 3 rfl) ?_
        refine lv_aload_n hx hb dX7_freedom_11 rfl (lv_at hl 0 rfl) ?_
        refine q_get hF hK hW fl_X7_39 0 rfl rfl dX7_freedom_12 ?_
        refine q_get hF hK hW fl_X7_283 6 rfl rfl dX7_freedom_15 ?_
        refine q_icmp_ge (tgt := 52) hx hb dX7_freedom_18 (by decide) hf (fun hf => ?_) (fun hf => ?_)
        · cases hf
          have hx9 := k9 _ rfl
          subst hx9
          exact kx0 _ _ _ (lv_sub hl [1, 2] rfl) hW
        · refine lv_aload_n hx hb dX7_freedom_21 rfl (lv_at hl 0 rfl) ?_
          refine q_get hF hK hW fl_X7_39 0 rfl rfl dX7_freedom_22 ?_
          refine lv_iload_n hx hb dX7_freedom_25 rfl (lv_at hl 3 rfl) ?_
          obtain ⟨o_2, hc_2, hf⟩ := ob_bind hf
          refine q_callI hF hl.1 hK hA hZ hW mv_X5_isFree ml_X7_285 (c_X5_isFree l D E TXL h_space h_space_span h_space_stride h_space_tip h_space_distance h_space_found h_space_changes h_space_walk h_space_values o_1.2.1 o_1.2.2.1 o_1.2.2.2.1 s_space_reached o_1.2.2.2.2.2.2.1 z3_10 o_2 hc_2) [6, 9] rfl rfl rfl rfl rfl rfl ⟨Nat.le_of_ble_eq_true rfl, Nat.le_of_ble_eq_true rfl⟩ ⟨Nat.le_of_ble_eq_true rfl, Nat.le_of_ble_eq_true rfl⟩ rfl rfl (Nat.le_of_ble_eq_true rfl) dX7_freedom_26 (fun H locs hW => ?_)
          have hW : WD D A s (w_X7_freedom E h_ h_now h_saved h_draft h_history h_walk h_space h_route h_bookmarks h_input h_trial h_tally h_now_length h_now_lower h_now_upper h_now_value h_now_obstacleX h_now_obstacleY h_now_blocked h_space_span h_space_stride h_space_tip h_space_distance h_space_found h_space_changes h_space_walk h_space_values h_space_walk_beginX h_space_walk_beginY h_space_walk_direction h_space_walk_trodden s_hasSaved s_keptError s_now_links s_now_obstacles s_now_length s_now_lower s_now_upper s_now_blocked o_1.2.1 o_1.2.2.1 o_1.2.2.2.1 s_space_reached o_1.2.2.2.2.1 o_1.2.2.2.2.2.1 o_1.2.2.2.2.2.2.1 o_1.2.2.2.2.2.2.2.1 o_1.2.2.2.2.2.2.2.2.1 o_1.2.2.2.2.2.2.2.2.2.1 o_1.2.2.2.2.2.2.2.2.2.2.1 o_1.2.2.2.2.2.2.2.2.2.2.2.1 o_1.2.2.2.2.2.2.2.2.2.2.2.2.1 o_1.2.2.2.2.2.2.2.2.2.2.2.2.2.1 o_1.2.2.2.2.2.2.2.2.2.2.2.2.2.2.1 o_1.2.2.2.2.2.2.2.2.2.2.2.2.2.2.2) H locs := hW
          refine q_if_eq (tgt := 46) hx hb dX7_freedom_29 (by decide) hf (fun hf => ?_) (fun hf => ?_)
          · obtain ⟨v_3, ev_3⟩ : ∃ y : Int32, y = z3_10 + 1 := ⟨_, rfl⟩
            replace hf := ob_let hf ev_3
            refine lv_iinc (v := v_3) (lv' := [(3, .int v_3), (0, .ref h_), (1, .int z1_10), (2, .int z2_10)]) hx hb dX7_freedom_46 hl (k := 3) rfl (by rw [ev_3]; rfl) (by decide) rfl (fun ls hl => ?_)
            refine lv_goto (tgt := 10) hx hb dX7_freedom_49 (by decide) ?_
            cases hf
            exact ih z1_10 z2_10 v_3 ex _ _ _ (h9 _ rfl) (lv_sub hl [1, 2, 3, 0] rfl) hW kx0
          · obtain ⟨v_4, ev_4⟩ : ∃ y : Int32, y = z1_10 + 1 := ⟨_, rfl⟩
            replace hf := ob_let hf ev_4
            refine lv_iinc (v := v_4) (lv' := [(1, .int v_4), (0, .ref h_), (2, .int z2_10), (3, .int z3_10)]) hx hb dX7_freedom_32 hl (k := 1) rfl (by rw [ev_4]; rfl) (by decide) rfl (fun ls hl => ?_)
            refine lv_iload_n hx hb dX7_freedom_35 rfl (lv_at hl 2 rfl) ?_
            refine lv_aload_n hx hb dX7_freedom_36 rfl (lv_at hl 1 rfl) ?_
            refine q_get hF hK hW fl_X7_39 0 rfl rfl dX7_freedom_37 ?_
            refine lv_iload_n hx hb dX7_freedom_40 rfl (lv_at hl 3 rfl) ?_
            obtain ⟨o_5, hc_5, hf⟩ := ob_bind hf
            refine q_callI hF hl.1 hK hA hZ hW mv_X5_movesFrom ml_X7_335 (c_X5_movesFrom l D E TXL h_space h_space_span h_space_stride h_space_tip h_space_distance h_space_found h_space_changes h_space_walk h_space_values o_1.2.1 o_1.2.2.1 o_1.2.2.2.1 s_space_reached o_1.2.2.2.2.1 o_1.2.2.2.2.2.1 o_1.2.2.2.2.2.2.1 z3_10 o_5 hc_5) [6, 7, 8, 9] rfl rfl rfl rfl rfl rfl ⟨Nat.le_of_ble_eq_true rfl, Nat.le_of_ble_eq_true rfl⟩ ⟨Nat.le_of_ble_eq_true rfl, Nat.le_of_ble_eq_true rfl⟩ rfl rfl (Nat.le_of_ble_eq_true rfl) dX7_freedom_41 (fun H locs hW => ?_)
            have hW : WD D A s (w_X7_freedom E h_ h_now h_saved h_draft h_history h_walk h_space h_route h_bookmarks h_input h_trial h_tally h_now_length h_now_lower h_now_upper h_now_value h_now_obstacleX h_now_obstacleY h_now_blocked h_space_span h_space_stride h_space_tip h_space_distance h_space_found h_space_changes h_space_walk h_space_values h_space_walk_beginX h_space_walk_beginY h_space_walk_direction h_space_walk_trodden s_hasSaved s_keptError s_now_links s_now_obstacles s_now_length s_now_lower s_now_upper s_now_blocked o_1.2.1 o_1.2.2.1 o_1.2.2.2.1 s_space_reached o_1.2.2.2.2.1 o_1.2.2.2.2.2.1 o_1.2.2.2.2.2.2.1 o_1.2.2.2.2.2.2.2.1 o_1.2.2.2.2.2.2.2.2.1 o_1.2.2.2.2.2.2.2.2.2.1 o_1.2.2.2.2.2.2.2.2.2.2.1 o_1.2.2.2.2.2.2.2.2.2.2.2.1 o_1.2.2.2.2.2.2.2.2.2.2.2.2.1 o_1.2.2.2.2.2.2.2.2.2.2.2.2.2.1 o_1.2.2.2.2.2.2.2.2.2.2.2.2.2.2.1 o_1.2.2.2.2.2.2.2.2.2.2.2.2.2.2.2) H locs := hW
            refine lv_iadd hx hb dX7_freedom_44 ?_
            refine lv_topi (fun v_6 ev_6 => ?_)
            replace hf := ob_let hf ev_6
            refine lv_istore_n (lv' := [(2, .int v_6), (1, .int v_4), (0, .ref h_), (3, .int z3_10)]) hx hb dX7_freedom_45 rfl hl (by decide) rfl (fun ls hl => ?_)
            obtain ⟨v_7, ev_7⟩ : ∃ y : Int32, y = z3_10 + 1 := ⟨_, rfl⟩
            replace hf := ob_let hf ev_7
            refine lv_iinc (v := v_7) (lv' := [(3, .int v_7), (2, .int v_6), (1, .int v_4), (0, .ref h_)]) hx hb dX7_freedom_46 hl (k := 3) rfl (by rw [ev_7]; rfl) (by decide) rfl (fun ls hl => ?_)
            refine lv_goto (tgt := 10) hx hb dX7_freedom_49 (by decide) ?_
            cases hf
            exact ih v_4 v_6 v_7 ex _ _ _ (h9 _ rfl) (lv_sub hl [3, 2, 1, 0] rfl) hW kx0
    obtain ⟨e_8, hc_8, hf⟩ := ob_bind hf
    refine hB10 lfuel 0 0 0 e_8 _ _ _ hc_8 (lv_sub hl [3, 2, 1, 0] rfl) hW ?_
    intro H locs ls hl hW
    refine lv_iload_n hx hb dX7_freedom_52 rfl (lv_at hl 0 rfl) ?_
    refine q_if_ne (tgt := 67) hx hb dX7_freedom_53 (by decide) hf (fun hf => ?_) (fun hf => ?_)
    · refine lv_iload_n hx hb dX7_freedom_67 rfl (lv_at hl 1 rfl) ?_
      refine lv_i2d hx hb dX7_freedom_68 ?_
      refine lv_iload_n hx hb dX7_freedom_69 rfl (lv_at hl 0 rfl) ?_
      refine lv_i2d hx hb dX7_freedom_70 ?_
      refine lv_ddiv hx hb dX7_freedom_71 (ob_gnn hf).1 ?_
      replace hf := (ob_gnn hf).2
      cases hf
      exact hret dX7_freedom_72 rfl rfl (Nat.le_of_ble_eq_true rfl) (Nat.le_of_ble_eq_true rfl) hW
    · cases hf
      exact hthrw rfl th_5 (List.mem_of_getElem? (i := 21) rfl) (Nat.succ_ne_zero _) (Nat.le_of_ble_eq_true rfl) (Nat.le_of_ble_eq_true rfl) hl.1 (Nat.le_of_ble_eq_true rfl) hW dX7_freedom_56 dX7_freedom_59 dX7_freedom_60 dX7_freedom_63 dX7_freedom_66
def f_X8_freedom_L126 (s_thrown_126 : Int32) (s_faulty_126 : Int32) (s_g_126 : Nat → Int32) (s_pose_126 : Nat → Int32) (s_way_126 : Nat → Int32) (s_px_126 : Nat → Int32) (s_py_126 : Nat → Int32) (s_free_126 : Nat → Int32) (s_tips_126 : Nat → Int32) (y1_126 : Int32) (y2_126 : Int32) (k1_126 : Int32) : Option (UInt64 × Int32 × Int32 × (Nat → Int32) × (Nat → Int32) × (Nat → Int32) × (Nat → Int32) × (Nat → Int32) × (Nat → Int32)) := if k1_126 ≤ 0 then (GNN (FP.ddiv (FP.i2d y2_126) (FP.i2d y1_126)) <| some ((FP.ddiv (FP.i2d y2_126) (FP.i2d y1_126), k1_126, s_faulty_126, s_pose_126, s_way_126, s_px_126, s_py_126, s_free_126, s_tips_126))) else (some ((FP.dconst0, k1_126, s_faulty_126, s_pose_126, s_way_126, s_px_126, s_py_126, s_free_126, s_tips_126)))
def f_X8_freedom_L79 (s_thrown_79 : Int32) (s_faulty_79 : Int32) (s_g_79 : Nat → Int32) (s_pose_79 : Nat → Int32) (s_way_79 : Nat → Int32) (s_px_79 : Nat → Int32) (s_py_79 : Nat → Int32) (s_free_79 : Nat → Int32) (s_tips_79 : Nat → Int32) (y1_79 : Int32) (y2_79 : Int32) (y3_79 : Int32) (y4_79 : Int32) (k0_79 : Int32) : Option ((Int32 × Int32) ⊕ (Int32)) := if k0_79 < 0 then (LET (y2_79 + 0 : Int32) fun v_3 => LET (y4_79 + 1 : Int32) fun v_4 => some (.inl ((v_3, v_4)))) else (GD k0_79 5000 <| if (s_free_79 k0_79.toNatClampNeg) = 0 then (LET (y2_79 + 0 : Int32) fun v_5 => LET (y4_79 + 1 : Int32) fun v_6 => some (.inl ((v_5, v_6)))) else (LET (y2_79 + 1 : Int32) fun v_7 => LET (y4_79 + 1 : Int32) fun v_8 => some (.inl ((v_7, v_8)))))
def f_X8_freedom_B46 (s_thrown_46 : Int32) (s_faulty_46 : Int32) (s_g_46 : Nat → Int32) (s_pose_46 : Nat → Int32) (s_way_46 : Nat → Int32) (s_px_46 : Nat → Int32) (s_py_46 : Nat → Int32) (s_free_46 : Nat → Int32) (s_tips_46 : Nat → Int32) (z1_46 : Int32) (z2_46 : Int32) (z3_46 : Int32) (z4_46 : Int32) : Option ((Int32 × Int32) ⊕ (Int32)) := GD 0 141 <| if (2 * (s_g_46 (0 : Int32).toNatClampNeg)) ≤ z4_46 then (some (.inr z2_46)) else (GD z3_46 5000 <| if (s_free_46 z3_46.toNatClampNeg) = 0 then (f_X8_freedom_L79 s_thrown_46 s_faulty_46 s_g_46 s_pose_46 s_way_46 s_px_46 s_py_46 s_free_46 s_tips_46 z1_46 z2_46 z3_46 z4_46 ((-1))) else ((f_X8_behind s_g_46 z3_46 z4_46).bind fun o_9 => f_X8_freedom_L79 s_thrown_46 s_faulty_46 s_g_46 s_pose_46 s_way_46 s_px_46 s_py_46 s_free_46 s_tips_46 z1_46 z2_46 z3_46 z4_46 o_9))
def f_X8_freedom_B35 (s_thrown_35 : Int32) (s_faulty_35 : Int32) (s_g_35 : Nat → Int32) (s_pose_35 : Nat → Int32) (s_way_35 : Nat → Int32) (s_px_35 : Nat → Int32) (s_py_35 : Nat → Int32) (s_free_35 : Nat → Int32) (s_tips_35 : Nat → Int32) (z1_35 : Int32) (z2_35 : Int32) (z3_35 : Int32) : Option ((Int32 × Int32) ⊕ (Int32)) := (f_X8_poses s_g_35).bind fun o_2 => if o_2 ≤ z3_35 then (some (.inr z2_35)) else ((LPF (fun z => f_X8_freedom_B46 s_thrown_35 s_faulty_35 s_g_35 s_pose_35 s_way_35 s_px_35 s_py_35 s_free_35 s_tips_35 z1_35 z.1 z3_35 z.2) lfuel (z2_35, 0)).bind fun e_10 => LET (z3_35 + 1 : Int32) fun v_11 => some (.inl ((e_10, v_11))))
def f_X8_freedom_L13 (s_thrown_13 : Int32) (s_faulty_13 : Int32) (s_g_13 : Nat → Int32) (s_pose_13 : Nat → Int32) (s_way_13 : Nat → Int32) (s_px_13 : Nat → Int32) (s_py_13 : Nat → Int32) (s_free_13 : Nat → Int32) (s_tips_13 : Nat → Int32) (k1_13 : Int32) : Option (UInt64 × Int32 × Int32 × (Nat → Int32) × (Nat → Int32) × (Nat → Int32) × (Nat → Int32) × (Nat → Int32) × (Nat → Int32)) := if k1_13 ≤ 0 then ((f_X8_freeAt s_faulty_13 s_g_13 s_pose_13 s_way_13 s_px_13 s_py_13 s_free_13 s_tips_13 ((-1))).bind fun o_1 => (LPF (fun z => f_X8_freedom_B35 k1_13 o_1.2.1 s_g_13 o_1.2.2.1 o_1.2.2.2.1 o_1.2.2.2.2.1 o_1.2.2.2.2.2.1 o_1.2.2.2.2.2.2.1 o_1.2.2.2.2.2.2.2 o_1.1 z.1 z.2) lfuel (0, 0)).bind fun e_12 => if o_1.1 = 0 then (f_X8_freedom_L126 k1_13 o_1.2.1 s_g_13 o_1.2.2.1 o_1.2.2.2.1 o_1.2.2.2.2.1 o_1.2.2.2.2.2.1 o_1.2.2.2.2.2.2.1 o_1.2.2.2.2.2.2.2 o_1.1 e_12 2) else (f_X8_freedom_L126 k1_13 o_1.2.1 s_g_13 o_1.2.2.1 o_1.2.2.2.1 o_1.2.2.2.2.1 o_1.2.2.2.2.2.1 o_1.2.2.2.2.2.2.1 o_1.2.2.2.2.2.2.2 o_1.1 e_12 0)) else (some ((FP.dconst0, k1_13, s_faulty_13, s_pose_13, s_way_13, s_px_13, s_py_13, s_free_13, s_tips_13)))
def f_X8_freedom (s_thrown : Int32) (s_faulty : Int32) (s_g : Nat → Int32) (s_pose : Nat → Int32) (s_way : Nat → Int32) (s_px : Nat → Int32) (s_py : Nat → Int32) (s_free : Nat → Int32) (s_tips : Nat → Int32)  : Option (UInt64 × Int32 × Int32 × (Nat → Int32) × (Nat → Int32) × (Nat → Int32) × (Nat → Int32) × (Nat → Int32) × (Nat → Int32)) := (f_X8_isMany s_g).bind fun o_13 => if o_13 = 0 then (f_X8_freedom_L13 s_thrown s_faulty s_g s_pose s_way s_px s_py s_free s_tips 0) else (f_X8_freedom_L13 s_thrown s_faulty s_g s_pose s_way s_px s_py s_free s_tips 1)
def w_X8_freedom (E : Nat → ClassId) (h_ h_g h_kept h_past h_path h_pose h_way h_px h_py h_free h_tips h_far h_queue h_times h_turns h_names h_named h_text h_told h_spare : Nat) (s_hasKept : Int32) (s_pasts : Int32) (s_pathMoves : Int32) (s_spot : Int32) (s_thrown : Int32) (s_faulty : Int32) (s_queued : Int32) (s_length : Int32) (s_at : Int32) (s_error : Int32) (s_tolds : Int32) (s_number : Int32) (s_g : Nat → Int32) (s_pose : Nat → Int32) (s_way : Nat → Int32) (s_px : Nat → Int32) (s_py : Nat → Int32) (s_free : Nat → Int32) (s_tips : Nat → Int32) : va_W := [(h_, .inr (10, [.ref h_g, .ref h_kept, .int s_hasKept, .ref h_past, .int s_pasts, .ref h_path, .int s_pathMoves, .int s_spot, .int s_thrown, .ref h_pose, .ref h_way, .ref h_px, .ref h_py, .int s_faulty, .ref h_free, .ref h_tips, .ref h_far, .ref h_queue, .int s_queued, .ref h_times, .ref h_turns, .ref h_names, .ref h_named, .ref h_text, .int s_length, .int s_at, .int s_error, .ref h_told, .int s_tolds, .int s_number, .ref h_spare])), (h_g, .inl (E 0, 141, .inl s_g)), (h_pose, .inl (E 0, 4, .inl s_pose)), (h_way, .inl (E 0, 4, .inl s_way)), (h_px, .inl (E 0, 5, .inl s_px)), (h_py, .inl (E 0, 5, .inl s_py)), (h_free, .inl (E 1, 5000, .inl s_free)), (h_tips, .inl (E 0, 5000, .inl s_tips))]
set_option maxHeartbeats 4000000 in
set_option maxRecDepth 100000 in
theorem c_X8_freedom (l : Launch) (D : va_G) (E : Nat → ClassId) (tx : List (Nat × String)) (h_ h_g h_kept h_past h_path h_pose h_way h_px h_py h_free h_tips h_far h_queue h_times h_turns h_names h_named h_text h_told h_spare : Nat) (s_hasKept : Int32) (s_pasts : Int32) (s_pathMoves : Int32) (s_spot : Int32) (s_thrown : Int32) (s_faulty : Int32) (s_queued : Int32) (s_length : Int32) (s_at : Int32) (s_error : Int32) (s_tolds : Int32) (s_number : Int32) (s_g : Nat → Int32) (s_pose : Nat → Int32) (s_way : Nat → Int32) (s_px : Nat → Int32) (s_py : Nat → Int32) (s_free : Nat → Int32) (s_tips : Nat → Int32)  (r0 : UInt64) (r1 : Int32) (r2 : Int32) (r3 : Nat → Int32) (r4 : Nat → Int32) (r5 : Nat → Int32) (r6 : Nat → Int32) (r7 : Nat → Int32) (r8 : Nat → Int32) (hf : f_X8_freedom s_thrown s_faulty s_g s_pose s_way s_px s_py s_free s_tips = some (r0, r1, r2, r3, r4, r5, r6, r7, r8)) : CD l yX8_freedom cX8_freedom 6 8 178 D E tx [.ref h_] (w_X8_freedom E h_ h_g h_kept h_past h_path h_pose h_way h_px h_py h_free h_tips h_far h_queue h_times h_turns h_names h_named h_text h_told h_spare s_hasKept s_pasts s_pathMoves s_spot s_thrown s_faulty s_queued s_length s_at s_error s_tolds s_number s_g s_pose s_way s_px s_py s_free s_tips) (w_X8_freedom E h_ h_g h_kept h_past h_path h_pose h_way h_px h_py h_free h_tips h_far h_queue h_times h_turns h_names h_named h_text h_told h_spare s_hasKept s_pasts s_pathMoves s_spot r1 r2 s_queued s_length s_at s_error s_tolds s_number s_g r3 r4 r5 r6 r7 r8) r0 := by
  refine CD_of RX8 pn_X8 rfl (Nat.le_of_ble_eq_true rfl) (fun p e s m args below meth c A Q hF hK hA hZ hW hret ls hl => ?_)
  have hx := hF.1
  have hb := hF.2.1
  have hl : lv_has ls 6 [(0, .ref h_)] := hl
  unfold f_X8_freedom at hf
  have hL126 : ∀ (s_thrown_126 : Int32) (s_faulty_126 : Int32) (s_pose_126 : Nat → Int32) (s_way_126 : Nat → Int32) (s_px_126 : Nat → Int32) (s_py_126 : Nat → Int32) (s_free_126 : Nat → Int32) (s_tips_126 : Nat → Int32) (y1_126 : Int32) (y2_126 : Int32) (k1_126 : Int32) (H : Heap) (locs : List Loc) (ls : Array Slot), f_X8_freedom_L126 s_thrown_126 s_faulty_126 s_g s_pose_126 s_way_126 s_px_126 s_py_126 s_free_126 s_tips_126 y1_126 y2_126 k1_126 = some (r0, r1, r2, r3, r4, r5, r6, r7, r8) → lv_has ls 6 [(0, .ref h_), (1, .int y1_126), (2, .int y2_126)] → WD D A s (w_X8_freedom E h_ h_g h_kept h_past h_path h_pose h_way h_px h_py h_free h_tips h_far h_queue h_times h_turns h_names h_named h_text h_told h_spare s_hasKept s_pasts s_pathMoves s_spot s_thrown_126 s_faulty_126 s_queued s_length s_at s_error s_tolds s_number s_g s_pose_126 s_way_126 s_px_126 s_py_126 s_free_126 s_tips_126) H locs → W p l e (RM 8 178) s m args below meth c H locs 0 0 Q (F0 m 126 ls [.int k1_126, .ref h_]) := by
    intro s_thrown_126 s_faulty_126 s_pose_126 s_way_126 s_px_126 s_py_126 s_free_126 s_tips_126 y1_126 y2_126 k1_126 H locs ls hf hl hW
    unfold f_X8_freedom_L126 at hf
    refine q_put hF hK hW fl_X8_76 ft_X8 rfl 0 rfl rfl rfl (Nat.le_of_ble_eq_true rfl) dX8_freedom_126 (fun H locs hW => ?_)
    have hW : WD D A s (w_X8_freedom E h_ h_g h_kept h_past h_path h_pose h_way h_px h_py h_free h_tips h_far h_queue h_times h_turns h_names h_named h_text h_told h_spare s_hasKept s_pasts s_pathMoves s_spot k1_126 s_faulty_126 s_queued s_length s_at s_error s_tolds s_number s_g s_pose_126 s_way_126 s_px_126 s_py_126 s_free_126 s_tips_126) H locs := hW
    refine lv_aload_n hx hb dX8_freedom_129 rfl (lv_at hl 0 rfl) ?_
    refine q_get hF hK hW fl_X8_76 0 rfl rfl dX8_freedom_130 ?_
    refine q_if_le (tgt := 140) hx hb dX8_freedom_133 (by decide) hf (fun hf => ?_) (fun hf => ?_)
    · refine lv_iload_n hx hb dX8_freedom_140 rfl (lv_at hl 2 rfl) ?_
      refine lv_i2d hx hb dX8_freedom_141 ?_
      refine lv_iload_n hx hb dX8_freedom_142 rfl (lv_at hl 1 rfl) ?_
      refine lv_i2d hx hb dX8_freedom_143 ?_
      refine lv_ddiv hx hb dX8_freedom_144 (ob_gnn hf).1 ?_
      replace hf := (ob_gnn hf).2
      cases hf
      exact hret dX8_freedom_145 rfl hW
    · refine lv_dconst0 hx hb dX8_freedom_136 ?_
      refine lv_goto (tgt := 145) hx hb dX8_freedom_137 (by decide) ?_
      cases hf
      exact hret dX8_freedom_145 rfl hW
  have hL13 : ∀ (s_thrown_13 : Int32) (s_faulty_13 : Int32) (s_pose_13 : Nat → Int32) (s_way_13 : Nat → Int32) (s_px_13 : Nat → Int32) (s_py_13 : Nat → Int32) (s_free_13 : Nat → Int32) (s_tips_13 : Nat → Int32) (k1_13 : Int32) (H : Heap) (locs : List Loc) (ls : Array Slot), f_X8_freedom_L13 s_thrown_13 s_faulty_13 s_g s_pose_13 s_way_13 s_px_13 s_py_13 s_free_13 s_tips_13 k1_13 = some (r0, r1, r2, r3, r4, r5, r6, r7, r8) → lv_has ls 6 [(0, .ref h_)] → WD D A s (w_X8_freedom E h_ h_g h_kept h_past h_path h_pose h_way h_px h_py h_free h_tips h_far h_queue h_times h_turns h_names h_named h_text h_told h_spare s_hasKept s_pasts s_pathMoves s_spot s_thrown_13 s_faulty_13 s_queued s_length s_at s_error s_tolds s_number s_g s_pose_13 s_way_13 s_px_13 s_py_13 s_free_13 s_tips_13) H locs → W p l e (RM 8 178) s m args below meth c H locs 0 0 Q (F0 m 13 ls [.int k1_13, .ref h_]) := by
    intro s_thrown_13 s_faulty_13 s_pose_13 s_way_13 s_px_13 s_py_13 s_free_13 s_tips_13 k1_13 H locs ls hf hl hW
    unfold f_X8_freedom_L13 at hf
    refine q_put hF hK hW fl_X8_76 ft_X8 rfl 0 rfl rfl rfl (Nat.le_of_ble_eq_true rfl) dX8_freedom_13 (fun H locs hW => ?_)
    have hW : WD D A s (w_X8_freedom E h_ h_g h_kept h_past h_path h_pose h_way h_px h_py h_free h_tips h_far h_queue h_times h_turns h_names h_named h_text h_told h_spare s_hasKept s_pasts s_pathMoves s_spot k1_13 s_faulty_13 s_queued s_length s_at s_error s_tolds s_number s_g s_pose_13 s_way_13 s_px_13 s_py_13 s_free_13 s_tips_13) H locs := hW
    refine lv_aload_n hx hb dX8_freedom_16 rfl (lv_at hl 0 rfl) ?_
    refine q_get hF hK hW fl_X8_76 0 rfl rfl dX8_freedom_17 ?_
    refine q_if_le (tgt := 25) hx hb dX8_freedom_20 (by decide) hf (fun hf => ?_) (fun hf => ?_)
    · refine lv_aload_n hx hb dX8_freedom_25 rfl (lv_at hl 0 rfl) ?_
      refine lv_iconst (v := (-1)) hx hb dX8_freedom_26 (by decide) ?_
      obtain ⟨o_1, hc_1, hf⟩ := ob_bind hf
      refine q_callI hF hl.1 hK hA hZ hW mv_X8_freeAt ml_X8_225 (c_X8_freeAt l D E tx h_ h_g h_kept h_past h_path h_pose h_way h_px h_py h_free h_tips h_far h_queue h_times h_turns h_names h_named h_text h_told h_spare s_hasKept s_pasts s_pathMoves s_spot k1_13 s_faulty_13 s_queued s_length s_at s_error s_tolds s_number s_g s_pose_13 s_way_13 s_px_13 s_py_13 s_free_13 s_tips_13 ((-1)) o_1.1 o_1.2.1 o_1.2.2.1 o_1.2.2.2.1 o_1.2.2.2.2.1 o_1.2.2.2.2.2.1 o_1.2.2.2.2.2.2.1 o_1.2.2.2.2.2.2.2 hc_1) [0, 1, 2, 3, 4, 5, 6, 7] rfl rfl rfl rfl rfl rfl ⟨Nat.le_of_ble_eq_true rfl, Nat.le_of_ble_eq_true rfl⟩ ⟨Nat.le_of_ble_eq_true rfl, Nat.le_of_ble_eq_true rfl⟩ rfl rfl (Nat.le_of_ble_eq_true rfl) dX8_freedom_27 (fun H locs hW => ?_)
      have hW : WD D A s (w_X8_freedom E h_ h_g h_kept h_past h_path h_pose h_way h_px h_py h_free h_tips h_far h_queue h_times h_turns h_names h_named h_text h_told h_spare s_hasKept s_pasts s_pathMoves s_spot k1_13 o_1.2.1 s_queued s_length s_at s_error s_tolds s_number s_g o_1.2.2.1 o_1.2.2.2.1 o_1.2.2.2.2.1 o_1.2.2.2.2.2.1 o_1.2.2.2.2.2.2.1 o_1.2.2.2.2.2.2.2) H locs := hW
      refine lv_istore_n (lv' := [(1, .int o_1.1), (0, .ref h_)]) hx hb dX8_freedom_30 rfl hl (by decide) rfl (fun ls hl => ?_)
      refine lv_iconst (v := 0) hx hb dX8_freedom_31 (by decide) ?_
      refine lv_istore_n (lv' := [(2, .int 0), (1, .int o_1.1), (0, .ref h_)]) hx hb dX8_freedom_32 rfl hl (by decide) rfl (fun ls hl => ?_)
      refine lv_iconst (v := 0) hx hb dX8_freedom_33 (by decide) ?_
      refine lv_istore_n (lv' := [(3, .int 0), (2, .int 0), (1, .int o_1.1), (0, .ref h_)]) hx hb dX8_freedom_34 rfl hl (by decide) rfl (fun ls hl => ?_)
      have hB35 : ∀ (n : Nat) (z2_35 : Int32) (z3_35 : Int32) (ex : Int32) (H : Heap) (locs : List Loc) (ls : Array Slot), LPF (fun z => f_X8_freedom_B35 k1_13 o_1.2.1 s_g o_1.2.2.1 o_1.2.2.2.1 o_1.2.2.2.2.1 o_1.2.2.2.2.2.1 o_1.2.2.2.2.2.2.1 o_1.2.2.2.2.2.2.2 o_1.1 z.1 z.2) n (z2_35, z3_35) = some ex → lv_has ls 6 [(0, .ref h_), (1, .int o_1.1), (2, .int z2_35), (3, .int z3_35)] → WD D A s (w_X8_freedom E h_ h_g h_kept h_past h_path h_pose h_way h_px h_py h_free h_tips h_far h_queue h_times h_turns h_names h_named h_text h_told h_spare s_hasKept s_pasts s_pathMoves s_spot k1_13 o_1.2.1 s_queued s_length s_at s_error s_tolds s_number s_g o_1.2.2.1 o_1.2.2.2.1 o_1.2.2.2.2.1 o_1.2.2.2.2.2.1 o_1.2.2.2.2.2.2.1 o_1.2.2.2.2.2.2.2) H locs → (∀ (H : Heap) (locs : List Loc) (ls : Array Slot), lv_has ls 6 [(0, .ref h_), (1, .int o_1.1), (2, .int ex)] → WD D A s (w_X8_freedom E h_ h_g h_kept h_past h_path h_pose h_way h_px h_py h_free h_tips h_far h_queue h_times h_turns h_names h_named h_text h_told h_spare s_hasKept s_pasts s_pathMoves s_spot k1_13 o_1.2.1 s_queued s_length s_at s_error s_tolds s_number s_g o_1.2.2.1 o_1.2.2.2.1 o_1.2.2.2.2.1 o_1.2.2.2.2.2.1 o_1.2.2.2.2.2.2.1 o_1.2.2.2.2.2.2.2) H locs → W p l e (RM 8 178) s m args below meth c H locs 0 0 Q (F0 m 116 ls [])) → W p l e (RM 8 178) s m args below meth c H locs 0 0 Q (F0 m 35 ls []) := by
        intro n
        induction n with
        | zero => intro z2_35 z3_35 ex H locs ls h9; exact (ob_lp0 h9).elim
        | succ n ih =>
          intro z2_35 z3_35 ex H locs ls h9 hl hW kx0
          obtain ⟨q9, hf, h9, k9⟩ := ob_lp h9
          have hf : f_X8_freedom_B35 k1_13 o_1.2.1 s_g o_1.2.2.1 o_1.2.2.2.1 o_1.2.2.2.2.1 o_1.2.2.2.2.2.1 o_1.2.2.2.2.2.2.1 o_1.2.2.2.2.2.2.2 o_1.1 z2_35 z3_35 = some q9 := hf
          unfold f_X8_freedom_B35 at hf
          refine lv_iload_n hx hb dX8_freedom_35 rfl (lv_at hl 3 rfl) ?_
          refine lv_aload_n hx hb dX8_freedom_36 rfl (lv_at hl 0 rfl) ?_
          obtain ⟨o_2, hc_2, hf⟩ := ob_bind hf
          refine q_callI hF hl.1 hK hA hZ hW mv_X8_poses ml_X8_133 (c_X8_poses l D E tx h_ h_g h_kept h_past h_path h_pose h_way h_px h_py h_free h_tips h_far h_queue h_times h_turns h_names h_named h_text h_told h_spare s_hasKept s_pasts s_pathMoves s_spot k1_13 o_1.2.1 s_queued s_length s_at s_error s_tolds s_number s_g o_2 hc_2) [0, 1] rfl rfl rfl rfl rfl rfl ⟨Nat.le_of_ble_eq_true rfl, Nat.le_of_ble_eq_true rfl⟩ ⟨Nat.le_of_ble_eq_true rfl, Nat.le_of_ble_eq_true rfl⟩ rfl rfl (Nat.le_of_ble_eq_true rfl) dX8_freedom_37 (fun H locs hW => ?_)
          have hW : WD D A s (w_X8_freedom E h_ h_g h_kept h_past h_path h_pose h_way h_px h_py h_free h_tips h_far h_queue h_times h_turns h_names h_named h_text h_told h_spare s_hasKept s_pasts s_pathMoves s_spot k1_13 o_1.2.1 s_queued s_length s_at s_error s_tolds s_number s_g o_1.2.2.1 o_1.2.2.2.1 o_1.2.2.2.2.1 o_1.2.2.2.2.2.1 o_1.2.2.2.2.2.2.1 o_1.2.2.2.2.2.2.2) H locs := hW
          refine q_icmp_ge (tgt := 116) hx hb dX8_freedom_40 (by decide) hf (fun hf => ?_) (fun hf => ?_)
          · cases hf
            have hx9 := k9 _ rfl
            subst hx9
            exact kx0 _ _ _ (lv_sub hl [0, 1, 2] rfl) hW
          · refine lv_iconst (v := 0) hx hb dX8_freedom_43 (by decide) ?_
            refine lv_istore (lv' := [(4, .int 0), (0, .ref h_), (1, .int o_1.1), (2, .int z2_35), (3, .int z3_35)]) hx hb dX8_freedom_44 hl (by decide) rfl (fun ls hl => ?_)
            have hB46 : ∀ (n : Nat) (z2_46 : Int32) (z4_46 : Int32) (ex : Int32) (H : Heap) (locs : List Loc) (ls : Array Slot), LPF (fun z => f_X8_freedom_B46 k1_13 o_1.2.1 s_g o_1.2.2.1 o_1.2.2.2.1 o_1.2.2.2.2.1 o_1.2.2.2.2.2.1 o_1.2.2.2.2.2.2.1 o_1.2.2.2.2.2.2.2 o_1.1 z.1 z3_35 z.2) n (z2_46, z4_46) = some ex → lv_has ls 6 [(0, .ref h_), (1, .int o_1.1), (2, .int z2_46), (3, .int z3_35), (4, .int z4_46)] → WD D A s (w_X8_freedom E h_ h_g h_kept h_past h_path h_pose h_way h_px h_py h_free h_tips h_far h_queue h_times h_turns h_names h_named h_text h_told h_spare s_hasKept s_pasts s_pathMoves s_spot k1_13 o_1.2.1 s_queued s_length s_at s_error s_tolds s_number s_g o_1.2.2.1 o_1.2.2.2.1 o_1.2.2.2.2.1 o_1.2.2.2.2.2.1 o_1.2.2.2.2.2.2.1 o_1.2.2.2.2.2.2.2) H locs → (∀ (H : Heap) (locs : List Loc) (ls : Array Slot), lv_has ls 6 [(0, .ref h_), (1, .int o_1.1), (2, .int ex), (3, .int z3_35)] → WD D A s (w_X8_freedom E h_ h_g h_kept h_past h_path h_pose h_way h_px h_py h_free h_tips h_far h_queue h_times h_turns h_names h_named h_text h_told h_spare s_hasKept s_pasts s_pathMoves s_spot k1_13 o_1.2.1 s_queued s_length s_at s_error s_tolds s_number s_g o_1.2.2.1 o_1.2.2.2.1 o_1.2.2.2.2.1 o_1.2.2.2.2.2.1 o_1.2.2.2.2.2.2.1 o_1.2.2.2.2.2.2.2) H locs → W p l e (RM 8 178) s m args below meth c H locs 0 0 Q (F0 m 110 ls [])) → W p l e (RM 8 178) s m args below meth c H locs 0 0 Q (F0 m 46 ls []) := by
              intro n
              induction n with
              | zero => intro z2_46 z4_46 ex H locs ls h9; exact (ob_lp0 h9).elim
              | succ n ih =>
                intro z2_46 z4_46 ex H locs ls h9 hl hW kx0
                obtain ⟨q9, hf, h9, k9⟩ := ob_lp h9
                have hf : f_X8_freedom_B46 k1_13 o_1.2.1 s_g o_1.2.2.1 o_1.2.2.2.1 o_1.2.2.2.2.1 o_1.2.2.2.2.2.1 o_1.2.2.2.2.2.2.1 o_1.2.2.2.2.2.2.2 o_1.1 z2_46 z3_35 z4_46 = some q9 := hf
                unfold f_X8_freedom_B46 at hf
                have hL79 : ∀ (y2_79 : Int32) (y4_79 : Int32) (k0_79 : Int32) (H : Heap) (locs : List Loc) (ls : Array Slot), f_X8_freedom_L79 k1_13 o_1.2.1 s_g o_1.2.2.1 o_1.2.2.2.1 o_1.2.2.2.2.1 o_1.2.2.2.2.2.1 o_1.2.2.2.2.2.2.1 o_1.2.2.2.2.2.2.2 o_1.1 y2_79 z3_35 y4_79 k0_79 = some q9 → lv_has ls 6 [(0, .ref h_), (1, .int o_1.1), (2, .int y2_79), (3, .int z3_35), (4, .int y4_79)] → WD D A s (w_X8_freedom E h_ h_g h_kept h_past h_path h_pose h_way h_px h_py h_free h_tips h_far h_queue h_times h_turns h_names h_named h_text h_told h_spare s_hasKept s_pasts s_pathMoves s_spot k1_13 o_1.2.1 s_queued s_length s_at s_error s_tolds s_number s_g o_1.2.2.1 o_1.2.2.2.1 o_1.2.2.2.2.1 o_1.2.2.2.2.2.1 o_1.2.2.2.2.2.2.1 o_1.2.2.2.2.2.2.2) H locs → W p l e (RM 8 178) s m args below meth c H locs 0 0 Q (F0 m 79 ls [.int k0_79]) := by
                  intro y2_79 y4_79 k0_79 H locs ls hf hl hW
                  unfold f_X8_freedom_L79 at hf
                  refine lv_istore (lv' := [(5, .int k0_79), (0, .ref h_), (1, .int o_1.1), (2, .int y2_79), (3, .int z3_35), (4, .int y4_79)]) hx hb dX8_freedom_79 hl (by decide) rfl (fun ls hl => ?_)
                  refine lv_iload_n hx hb dX8_freedom_81 rfl (lv_at hl 3 rfl) ?_
                  refine lv_iload hx hb dX8_freedom_82 (lv_at hl 0 rfl) ?_
                  refine q_if_lt (tgt := 101) hx hb dX8_freedom_84 (by decide) hf (fun hf => ?_) (fun hf => ?_)
                  · refine lv_iconst (v := 0) hx hb dX8_freedom_101 (by decide) ?_
                    refine lv_iadd hx hb dX8_freedom_102 ?_
                    refine lv_topi (fun v_3 ev_3 => ?_)
                    replace hf := ob_let hf ev_3
                    refine lv_istore_n (lv' := [(2, .int v_3), (5, .int k0_79), (0, .ref h_), (1, .int o_1.1), (3, .int z3_35), (4, .int y4_79)]) hx hb dX8_freedom_103 rfl hl (by decide) rfl (fun ls hl => ?_)
                    obtain ⟨v_4, ev_4⟩ : ∃ y : Int32, y = y4_79 + 1 := ⟨_, rfl⟩
                    replace hf := ob_let hf ev_4
                    refine lv_iinc (v := v_4) (lv' := [(4, .int v_4), (2, .int v_3), (5, .int k0_79), (0, .ref h_), (1, .int o_1.1), (3, .int z3_35)]) hx hb dX8_freedom_104 hl (k := 5) rfl (by rw [ev_4]; rfl) (by decide) rfl (fun ls hl => ?_)
                    refine lv_goto (tgt := 46) hx hb dX8_freedom_107 (by decide) ?_
                    cases hf
                    exact ih v_3 v_4 ex _ _ _ (h9 _ rfl) (lv_sub hl [3, 4, 1, 5, 0] rfl) hW kx0
                  · refine lv_aload_n hx hb dX8_freedom_87 rfl (lv_at hl 1 rfl) ?_
                    refine q_get hF hK hW fl_X8_38 0 rfl rfl dX8_freedom_88 ?_
                    refine lv_iload hx hb dX8_freedom_91 (lv_at hl 0 rfl) ?_
                    refine q_zald hx hb hK hW 6 1 rfl rfl dX8_freedom_93 hf (fun hf => ?_)
                    refine q_if_eq (tgt := 101) hx hb dX8_freedom_94 (by decide) hf (fun hf => ?_) (fun hf => ?_)
                    · refine lv_iconst (v := 0) hx hb dX8_freedom_101 (by decide) ?_
                      refine lv_iadd hx hb dX8_freedom_102 ?_
                      refine lv_topi (fun v_5 ev_5 => ?_)
                      replace hf := ob_let hf ev_5
                      refine lv_istore_n (lv' := [(2, .int v_5), (5, .int k0_79), (0, .ref h_), (1, .int o_1.1), (3, .int z3_35), (4, .int y4_79)]) hx hb dX8_freedom_103 rfl hl (by decide) rfl (fun ls hl => ?_)
                      obtain ⟨v_6, ev_6⟩ : ∃ y : Int32, y = y4_79 + 1 := ⟨_, rfl⟩
                      replace hf := ob_let hf ev_6
                      refine lv_iinc (v := v_6) (lv' := [(4, .int v_6), (2, .int v_5), (5, .int k0_79), (0, .ref h_), (1, .int o_1.1), (3, .int z3_35)]) hx hb dX8_freedom_104 hl (k := 5) rfl (by rw [ev_6]; rfl) (by decide) rfl (fun ls hl => ?_)
                      refine lv_goto (tgt := 46) hx hb dX8_freedom_107 (by decide) ?_
                      cases hf
                      exact ih v_5 v_6 ex _ _ _ (h9 _ rfl) (lv_sub hl [3, 4, 1, 5, 0] rfl) hW kx0
                    · refine lv_iconst (v := 1) hx hb dX8_freedom_97 (by decide) ?_
                      refine lv_goto (tgt := 102) hx hb dX8_freedom_98 (by decide) ?_
                      refine lv_iadd hx hb dX8_freedom_102 ?_
                      refine lv_topi (fun v_7 ev_7 => ?_)
                      replace hf := ob_let hf ev_7
                      refine lv_istore_n (lv' := [(2, .int v_7), (5, .int k0_79), (0, .ref h_), (1, .int o_1.1), (3, .int z3_35), (4, .int y4_79)]) hx hb dX8_freedom_103 rfl hl (by decide) rfl (fun ls hl => ?_)
                      obtain ⟨v_8, ev_8⟩ : ∃ y : Int32, y = y4_79 + 1 := ⟨_, rfl⟩
                      replace hf := ob_let hf ev_8
                      refine lv_iinc (v := v_8) (lv' := [(4, .int v_8), (2, .int v_7), (5, .int k0_79), (0, .ref h_), (1, .int o_1.1), (3, .int z3_35)]) hx hb dX8_freedom_104 hl (k := 5) rfl (by rw [ev_8]; rfl) (by decide) rfl (fun ls hl => ?_)
                      refine lv_goto (tgt := 46) hx hb dX8_freedom_107 (by decide) ?_
                      cases hf
                      exact ih v_7 v_8 ex _ _ _ (h9 _ rfl) (lv_sub hl [3, 4, 1, 5, 0] rfl) hW kx0
                refine lv_iload hx hb dX8_freedom_46 (lv_at hl 4 rfl) ?_
                refine lv_iconst (v := 2) hx hb dX8_freedom_48 (by decide) ?_
                refine lv_aload_n hx hb dX8_freedom_49 rfl (lv_at hl 0 rfl) ?_
                refine q_get hF hK hW fl_X8_7 0 rfl rfl dX8_freedom_50 ?_
                refine lv_iconst (v := 0) hx hb dX8_freedom_53 (by decide) ?_
                refine q_iald hx hb hK hW 1 0 rfl rfl dX8_freedom_54 hf (fun hf => ?_)
                refine lv_imul hx hb dX8_freedom_55 ?_
                refine q_icmp_ge (tgt := 110) hx hb dX8_freedom_56 (by decide) hf (fun hf => ?_) (fun hf => ?_)
                · cases hf
                  have hx9 := k9 _ rfl
                  subst hx9
                  exact kx0 _ _ _ (lv_sub hl [0, 1, 2, 3] rfl) hW
                · refine lv_aload_n hx hb dX8_freedom_59 rfl (lv_at hl 0 rfl) ?_
                  refine q_get hF hK hW fl_X8_38 0 rfl rfl dX8_freedom_60 ?_
                  refine lv_iload_n hx hb dX8_freedom_63 rfl (lv_at hl 3 rfl) ?_
                  refine q_zald hx hb hK hW 6 1 rfl rfl dX8_freedom_64 hf (fun hf => ?_)
                  refine q_if_eq (tgt := 78) hx hb dX8_freedom_65 (by decide) hf (fun hf => ?_) (fun hf => ?_)
                  · refine lv_iconst (v := (-1)) hx hb dX8_freedom_78 (by decide) ?_
                    exact hL79 z2_46 z4_46 ((-1)) _ _ _ hf (lv_sub hl [0, 1, 2, 3, 4] rfl) hW
                  · refine lv_aload_n hx hb dX8_freedom_68 rfl (lv_at hl 0 rfl) ?_
                    refine lv_iload_n hx hb dX8_freedom_69 rfl (lv_at hl 3 rfl) ?_
                    refine lv_iload hx hb dX8_freedom_70 (lv_at hl 4 rfl) ?_
                    obtain ⟨o_9, hc_9, hf⟩ := ob_bind hf
                    refine q_callI hF hl.1 hK hA hZ hW mv_X8_behind ml_X8_196 (c_X8_behind l D E tx h_ h_g h_kept h_past h_path h_pose h_way h_px h_py h_free h_tips h_far h_queue h_times h_turns h_names h_named h_text h_told h_spare s_hasKept s_pasts s_pathMoves s_spot k1_13 o_1.2.1 s_queued s_length s_at s_error s_tolds s_number s_g z3_35 z4_46 o_9 hc_9) [0, 1] rfl rfl rfl rfl rfl rfl ⟨Nat.le_of_ble_eq_true rfl, Nat.le_of_ble_eq_true rfl⟩ ⟨Nat.le_of_ble_eq_true rfl, Nat.le_of_ble_eq_true rfl⟩ rfl rfl (Nat.le_of_ble_eq_true rfl) dX8_freedom_72 (fun H locs hW => ?_)
                    have hW : WD D A s (w_X8_freedom E h_ h_g h_kept h_past h_path h_pose h_way h_px h_py h_free h_tips h_far h_queue h_times h_turns h_names h_named h_text h_told h_spare s_hasKept s_pasts s_pathMoves s_spot k1_13 o_1.2.1 s_queued s_length s_at s_error s_tolds s_number s_g o_1.2.2.1 o_1.2.2.2.1 o_1.2.2.2.2.1 o_1.2.2.2.2.2.1 o_1.2.2.2.2.2.2.1 o_1.2.2.2.2.2.2.2) H locs := hW
                    refine lv_goto (tgt := 79) hx hb dX8_freedom_75 (by decide) ?_
                    exact hL79 z2_46 z4_46 o_9 _ _ _ hf (lv_sub hl [0, 1, 2, 3, 4] rfl) hW
            obtain ⟨e_10, hc_10, hf⟩ := ob_bind hf
            refine hB46 lfuel z2_35 0 e_10 _ _ _ hc_10 (lv_sub hl [1, 2, 3, 4, 0] rfl) hW ?_
            intro H locs ls hl hW
            obtain ⟨v_11, ev_11⟩ : ∃ y : Int32, y = z3_35 + 1 := ⟨_, rfl⟩
            replace hf := ob_let hf ev_11
            refine lv_iinc (v := v_11) (lv' := [(3, .int v_11), (0, .ref h_), (1, .int o_1.1), (2, .int e_10)]) hx hb dX8_freedom_110 hl (k := 3) rfl (by rw [ev_11]; rfl) (by decide) rfl (fun ls hl => ?_)
            refine lv_goto (tgt := 35) hx hb dX8_freedom_113 (by decide) ?_
            cases hf
            exact ih e_10 v_11 ex _ _ _ (h9 _ rfl) (lv_sub hl [1, 2, 3, 0] rfl) hW kx0
      obtain ⟨e_12, hc_12, hf⟩ := ob_bind hf
      refine hB35 lfuel 0 0 e_12 _ _ _ hc_12 (lv_sub hl [3, 2, 1, 0] rfl) hW ?_
      intro H locs ls hl hW
      refine lv_aload_n hx hb dX8_freedom_116 rfl (lv_at hl 0 rfl) ?_
      refine lv_iload_n hx hb dX8_freedom_117 rfl (lv_at hl 1 rfl) ?_
      refine q_if_ne (tgt := 125) hx hb dX8_freedom_118 (by decide) hf (fun hf => ?_) (fun hf => ?_)
      · refine lv_iconst (v := 0) hx hb dX8_freedom_125 (by decide) ?_
        exact hL126 k1_13 o_1.2.1 o_1.2.2.1 o_1.2.2.2.1 o_1.2.2.2.2.1 o_1.2.2.2.2.2.1 o_1.2.2.2.2.2.2.1 o_1.2.2.2.2.2.2.2 o_1.1 e_12 0 _ _ _ hf (lv_sub hl [0, 1, 2] rfl) hW
      · refine lv_iconst (v := 2) hx hb dX8_freedom_121 (by decide) ?_
        refine lv_goto (tgt := 126) hx hb dX8_freedom_122 (by decide) ?_
        exact hL126 k1_13 o_1.2.1 o_1.2.2.1 o_1.2.2.2.1 o_1.2.2.2.2.1 o_1.2.2.2.2.2.1 o_1.2.2.2.2.2.2.1 o_1.2.2.2.2.2.2.2 o_1.1 e_12 2 _ _ _ hf (lv_sub hl [0, 1, 2] rfl) hW
    · refine lv_dconst0 hx hb dX8_freedom_23 ?_
      cases hf
      exact hret dX8_freedom_24 rfl hW
  refine lv_aload_n hx hb dX8_freedom_0 rfl (lv_at hl 0 rfl) ?_
  refine lv_aload_n hx hb dX8_freedom_1 rfl (lv_at hl 0 rfl) ?_
  obtain ⟨o_13, hc_13, hf⟩ := ob_bind hf
  refine q_callI hF hl.1 hK hA hZ hW mv_X8_isMany ml_X8_222 (c_X8_isMany l D E tx h_ h_g h_kept h_past h_path h_pose h_way h_px h_py h_free h_tips h_far h_queue h_times h_turns h_names h_named h_text h_told h_spare s_hasKept s_pasts s_pathMoves s_spot s_thrown s_faulty s_queued s_length s_at s_error s_tolds s_number s_g o_13 hc_13) [0, 1] rfl rfl rfl rfl rfl rfl ⟨Nat.le_of_ble_eq_true rfl, Nat.le_of_ble_eq_true rfl⟩ ⟨Nat.le_of_ble_eq_true rfl, Nat.le_of_ble_eq_true rfl⟩ rfl rfl (Nat.le_of_ble_eq_true rfl) dX8_freedom_2 (fun H locs hW => ?_)
  have hW : WD D A s (w_X8_freedom E h_ h_g h_kept h_past h_path h_pose h_way h_px h_py h_free h_tips h_far h_queue h_times h_turns h_names h_named h_text h_told h_spare s_hasKept s_pasts s_pathMoves s_spot s_thrown s_faulty s_queued s_length s_at s_error s_tolds s_number s_g s_pose s_way s_px s_py s_free s_tips) H locs := hW
  refine q_if_eq (tgt := 12) hx hb dX8_freedom_5 (by decide) hf (fun hf => ?_) (fun hf => ?_)
  · refine lv_iconst (v := 0) hx hb dX8_freedom_12 (by decide) ?_
    exact hL13 s_thrown s_faulty s_pose s_way s_px s_py s_free s_tips 0 _ _ _ hf (lv_sub hl [0] rfl) hW
  · refine lv_iconst (v := 1) hx hb dX8_freedom_8 (by decide) ?_
    refine lv_goto (tgt := 13) hx hb dX8_freedom_9 (by decide) ?_
    exact hL13 s_thrown s_faulty s_pose s_way s_px s_py s_free s_tips 1 _ _ _ hf (lv_sub hl [0] rfl) hW
