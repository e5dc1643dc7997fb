/-! constructors: what a new object's cells are -/
theorem ac_int : Cond.arrayClass .int ∈ WG := WG_of (tb_1 _ (List.mem_of_getElem? (i := 80) rfl)) rfl
theorem ac_bool : Cond.arrayClass .boolean ∈ WG := WG_of (tb_1 _ (List.mem_of_getElem? (i := 238) rfl)) rfl
theorem ac_char : Cond.arrayClass .char ∈ WG := WG_of (tb_2 _ (List.mem_of_getElem? (i := 16) rfl)) rfl
theorem ac_long : Cond.arrayClass .long ∈ WG := WG_of (tb_8 _ (List.mem_of_getElem? (i := 89) rfl)) rfl
theorem ac_dbl : Cond.arrayClass .double ∈ WG := WG_of (tb_8 _ (List.mem_of_getElem? (i := 90) rfl)) rfl
theorem oi_inst : Cond.instanceMethod objectInit ∈ WG := WG_of (tb_1 _ (List.mem_of_getElem? (i := 30) rfl)) rfl
theorem oi_code : Cond.code objectInit ⟨#[0xb1]⟩ 1 none ∈ WG := WG_of (tb_1 _ (List.mem_of_getElem? (i := 31) rfl)) rfl
def NWc (own : String) (index : Nat) (C : String) (N : Nat) : Prop := Cond.classLink own index C ∈ WG ∧ Cond.instantiable C N ∈ WG ∧ Cond.initialized C ∈ WG
def MI (y : MethodName) (cc : ByteArray) (nL : Nat) : Prop := Cond.code y cc nL none ∈ WG ∧ Cond.instanceMethod y ∈ WG ∧ Cond.initialized y.cls ∈ WG ∧ y.name = "<init>" ∧ (y.cls ≠ "java/lang/invoke/MethodHandle" ∧ y.cls ≠ "java/lang/invoke/VarHandle" ∧ (parseMethodDescriptor y.desc).map (fun d => d.parameters.length) = some 0)
theorem apart_iff {A : Nat → Prop} {ws : va_W} : va_D A ws ↔ (ws.map (·.1)).Nodup ∧ ∀ q ∈ ws, A q.1 := by
  constructor
  · intro h
    refine ⟨?_, fun q hq => ?_⟩
    · rw [List.nodup_iff_pairwise_ne, List.pairwise_iff_getElem]
      intro i j hi hj hij e
      rw [List.length_map] at hi hj
      rw [List.getElem_map, List.getElem_map] at e
      have := h.1 i j ws[i] ws[j] (List.getElem?_eq_getElem hi) (List.getElem?_eq_getElem hj) e
      omega
    · obtain ⟨k, hk⟩ := List.mem_iff_getElem?.mp hq
      exact h.2 k q hk
  · intro h
    refine ⟨fun i j p q hp hq e => ?_, fun k q hk => h.2 q (List.mem_of_getElem? hk)⟩
    obtain ⟨hi, ei⟩ := List.getElem?_eq_some_iff.mp hp
    obtain ⟨hj, ej⟩ := List.getElem?_eq_some_iff.mp hq
    have hn := List.pairwise_iff_getElem.mp (List.nodup_iff_pairwise_ne.mp h.1)
    rcases Nat.lt_trichotomy i j with z | z | z
    · exact absurd (by rw [List.getElem_map, List.getElem_map, ei, ej]; exact e) (hn i j (by rw [List.length_map]; exact hi) (by rw [List.length_map]; exact hj) z)
    · exact z
    · exact absurd (by rw [List.getElem_map, List.getElem_map, ei, ej]; exact e.symm) (hn j i (by rw [List.length_map]; exact hj) (by rw [List.length_map]; exact hi) z)
theorem WD_perm {D : va_G} {A : Nat → Prop} {s : State} {ws ws' : va_W} {H : Heap} {locs : List Loc} (h : ws.Perm ws') (hW : WD D A s ws H locs) : WD D A s ws' H locs := by
  obtain ⟨h1, h2, h3⟩ := hW
  refine ⟨fun k q hk => ?_, ?_, h3⟩
  · obtain ⟨j, hj⟩ := List.mem_iff_getElem?.mp (h.mem_iff.mpr (List.mem_of_getElem? hk))
    exact h1 j q hj
  · rw [apart_iff] at h2 ⊢
    exact ⟨(h.map (·.1)).nodup_iff.mp h2.1, fun q hq => h2.2 q (h.mem_iff.mpr hq)⟩
theorem WD_join {D : va_G} {A : Nat → Prop} {s : State} {c0 : Nat × va_E} {R0 u : va_W} {H H1 : Heap} {locs locs1 : List Loc} (hA : ∀ q, s.heap.size ≤ q → A q) (hW : WD D A s (c0 :: R0) H locs) (hk : ∀ q : Nat, q < H.size → ¬ va_A [c0] H.size q → H1[q]? = H[q]?) (hP1 : va_P D vwCl u H1) (hD1 : va_D (va_A [c0] H.size) u) (hS1 : va_S A s.heap H1 locs1) : WD D A s (R0 ++ u) H1 locs1 := by
  obtain ⟨h1, h2, h3⟩ := hW
  have h2' := apart_iff.mp h2
  have hn : c0.1 ∉ R0.map (·.1) ∧ (R0.map (·.1)).Nodup := List.nodup_cons.mp h2'.1
  have hlt : ∀ q ∈ R0, q.1 < H.size := fun q hq => by
    obtain ⟨j, hj⟩ := List.mem_iff_getElem?.mp hq
    exact (h1 (j + 1) q hj).lt
  have hne : ∀ q ∈ R0, ¬ va_A [c0] H.size q.1 := fun q hq z => by
    rcases z with ⟨k, e, hz⟩ | hz
    · have hm := List.mem_of_getElem? hz
      have e1 := List.mem_singleton.mp hm
      refine hn.1 (List.mem_map.mpr ⟨q, hq, ?_⟩)
      rw [← e1]
    · exact absurd (hlt q hq) (Nat.not_lt.mpr hz)
  have hPr : va_P D vwCl R0 H1 := fun k q hq => ((h1 (k + 1) q hq).kept (hk q.1 (hlt q (List.mem_of_getElem? hq)) (hne q (List.mem_of_getElem? hq))))
  refine ⟨hPr.app hP1, ?_, hS1⟩
  have hD1' := apart_iff.mp hD1
  refine apart_iff.mpr ⟨?_, fun q hq => ?_⟩
  · rw [List.map_append, List.nodup_append]
    refine ⟨hn.2, hD1'.1, fun a ha b hb e => ?_⟩
    obtain ⟨qa, hqa, rfl⟩ := List.mem_map.mp ha
    obtain ⟨qb, hqb, rfl⟩ := List.mem_map.mp hb
    exact hne qa hqa (by rw [e]; exact hD1'.2 qb hqb)
  · rcases List.mem_append.mp hq with z | z
    · exact h2'.2 q (List.mem_cons_of_mem _ z)
    · rcases hD1'.2 q z with ⟨k, e, hz⟩ | hz
      · have e1 := List.mem_singleton.mp (List.mem_of_getElem? hz)
        have := h2'.2 c0 List.mem_cons_self
        rw [← e1] at this
        exact this
      · exact hA _ (Nat.le_trans h3.1 hz)
/-- a constructor: from the new cell alone to the cells P that it makes -/
def NC (l : Launch) (y : MethodName) (cc : ByteArray) (nL fr lo mc ms : Nat) (D : va_G) (E : Nat → ClassId) (tx : List (Nat × String)) (X : State → Prop) (c0 : Nat × va_E) (P : va_W → Prop) : Prop :=
  ∀ sz : Nat, Met l y (GW y cc nL none) (RX_ fr lo mc ms) (va_Pc [.ref c0.1] (fun U => Pre D E tx [c0] sz U ∧ X U)) (va_Qv P (fun (u : va_W) t => va_P D vwCl u t.heap ∧ va_D (va_A [c0] sz) u) (va_A [c0] sz)) mc ms (va_A [c0] sz)
theorem NC_of {l : Launch} {y : MethodName} {cc : ByteArray} {nL fr lo mc ms : Nat} {D : va_G} {E : Nat → ClassId} {tx : List (Nat × String)} {X : State → Prop} {c0 : Nat × va_E} {P : va_W → Prop} (own : String) (hy : plainName y.cls = true) (ho : y.cls = own) (hyn : y.name = "<init>") (hn : 1 ≤ nL)
    (h : ∀ (p : Program) (e : Env) (s : State) (m : MethodId) (args : Array Value) (below : List Frame) (meth : Method) (c : Code) (A : Nat → Prop) (Q : State → Prop), CallFix p m c cc nL s args WG own → meth.name = "<init>" → va_K D vwCl (TY E) s → (∀ q, s.heap.size ≤ q → A q) → SF E tx A s s.heap → X s → WD D A s [c0] s.heap [] →
      (∀ {pc : Nat} {H : Heap} {locs : List Loc} {ls : Array Slot} {cells slots : Nat} {u : va_W}, decode cc pc = .ok (.return_, 1) → P u → cells ≤ mc → slots ≤ ms → WD D A s u H locs → W p l e (RX_ fr lo mc ms) s m args below meth c H locs cells slots Q (F0 m pc ls [])) →
      ∀ ls : Array Slot, lv_has ls nL [(0, .ref c0.1)] → W p l e (RX_ fr lo mc ms) s m args below meth c s.heap [] 0 0 Q (F0 m 0 ls [])) : NC l y cc nL fr lo mc ms D E tx X c0 P := by
  intro sz
  refine Met.ofW (cc := cc) (maxL := nL) (ret := none) hy rfl ?_
  intro p e s m args below meth c s₁ B hml hv
  obtain ⟨rfl, ⟨hsz, hP, hK, hD0, hZ⟩, hX⟩ := hv
  subst hsz
  have hts := atoms_spec (ws := GW y cc nL none) B.pre
  have hown : s.vm.findClass own = some m.cls := by rw [← ho]; exact findClass_of_methodNamed B.named
  have hin : meth.name = "<init>" := (name_of_methodNamed B.named B.method).1.trans hyn
  have hlocks := B.notSynchronized
  have hr := B.returns
  rw [lg_entry_eq]
  refine h p e s m _ below meth c (va_A [c0] s.heap.size) _ ⟨B.exec, B.bytes, hml, hown, fun w hw => hts w (List.mem_cons_of_mem _ hw)⟩ hin hK (fun q h => Or.inr h) hZ hX ⟨hP, hD0.self, va_S.rf⟩ ?_ _ (lv_entry [.ref c0.1] hn)
  intro pc H locs ls cells slots u hd hu hc hs hW
  refine W.widen hc hs ?_
  exact W.vret B.exec B.bytes hr (fun t ht _ => ⟨⟨u, rfl, hu, by show va_P D vwCl u t.heap ∧ _; rw [ht]; exact ⟨hW.1, hW.2.1⟩⟩, hW.2.2.F ht⟩) hW.2.2.2.2 hd
section QN
variable {p : Program} {l : Launch} {e : Env} {R : Room} {s : State} {m : MethodId} {args : Array Value} {below : List Frame} {meth : Method} {c : Code} {H : Heap} {locs : List Loc} {cells slots : Nat} {Q : State → Prop} {cc : ByteArray} {pc : Nat} {ls : Array Slot} {rest : List Value}
variable {D : va_G} {E : Nat → ClassId} {tx : List (Nat × String)} {A : Nat → Prop} {ws R0 : va_W} {own : String} {nL nM fr lo mc ms : Nat} {y : MethodName} {cb : ByteArray} {c0 : Nat × va_E} {X : State → Prop} {P : va_W → Prop}
theorem q_obj (hF : CallFix p m c cc nL s args WG own) (hsz : ls.size = nL) {index a : Nat} (hlk : Cond.methodLink own index objectInit ∈ WG) (hrest : (rest.map fun v => v.category).sum ≤ 8) (hR : 1 ≤ R.frames ∧ 20 ≤ R.locals) (hd : decode cc pc = .ok (.invokespecial index, 3)) (kk : W p l e R s m args below meth c H locs cells slots Q (F0 m (pc + 3) ls rest)) : W p l e R s m args below meth c H locs cells slots Q (F0 m pc ls (.ref a :: rest)) := by
  refine W.objInit hF.1 hF.2.1 hF.2.2.2.1 (hF.2.2.2.2 _ hlk) (hF.2.2.2.2 _ oi_inst) (hF.2.2.2.2 _ oi_code) (g := F0 m pc ls (.ref a :: rest)) rfl (hsz.trans hF.2.2.1.symm) rfl hd hR.1 (Nat.le_trans (Nat.add_le_add_right (lv_room hrest) 12) hR.2) ?_
  exact W.eq (g2 := F0 m (pc + 3) ls rest) rfl kk
theorem q_newO (hF : CallFix p m c cc nL s args WG own) (hK : va_K D vwCl (TY E) s) (hA : ∀ q, s.heap.size ≤ q → A q) (hW : WD D A s ws H locs) {C : String} {T : u_T} {N ci index : Nat} (hn : NWc own index C N) (hu : ∀ w ∈ u_ws C T N, w ∈ WG) (hc : vwCl[ci]? = some (C, T, N)) {ty : Nat → FieldType} (hT : FT C T N ty) {fs : List Value} (hfs : ∀ j, j < N → defaultValue (ty j) = vp_V fs j) (hcells : cells + 1 ≤ R.cells) (hslots : slots + N ≤ R.slots) (hd : decode cc pc = .ok (.new index, 3))
    (kk : ∀ (q : Nat) (H : Heap), WD D A s ((q, .inr (ci, fs)) :: ws) H locs → W p l e R s m args below meth c H locs (cells + 1) (slots + N) Q (F0 m (pc + 3) ls (.ref q :: rest))) : W p l e R s m args below meth c H locs cells slots Q (F0 m pc ls rest) := by
  refine va_new (D := D) (ci := ci) (fs := fs) (C := C) (T := T) (N := N) hF.1 hF.2.1 hF.2.2.2.2 hu ty hT.1 hF.2.2.2.1 (hF.2.2.2.2 _ hn.1) (hF.2.2.2.2 _ hn.2.1) (hF.2.2.2.2 _ hn.2.2) hK hW.1 hW.2.1 hW.2.2 hA hc hfs hcells hslots hd (fun q H1 h1 h2 h3 => ?_)
  exact kk q H1 (WD_perm (List.perm_append_singleton _ _) ⟨h1, h2, h3⟩)
theorem q_newA (hF : CallFix p m c cc nL s args WG own) (hK : va_K D vwCl (TY E) s) (hA : ∀ q, s.heap.size ≤ q → A q) (hW : WD D A s ws H locs) {atype : ArrayType} {ty : FieldType} (hw : Cond.arrayClass ty ∈ WG) (hty : newarray.typeOf atype = ty) (t0 : Nat) {cE : ClassId} (ht : (TY E)[t0]? = some (cE, ty)) (hra : ∀ cA : ClassId, va_RA s cA ty = (s.vm.findClass ("[" ++ ty.toString) = some cA))
    {n : Int32} {N' : Nat} {a0 : vp_A} (ha : ∀ cA : ClassId, vp_cell cA a0 = arrV cA N' (fun _ => defaultValue ty)) (hn : ¬ n < 0) (hN : n.toNatClampNeg = N') (hbytes : N' * componentBytes ty ≤ 536870912) (hcells : cells + 1 ≤ R.cells) (hslots : slots + N' ≤ R.slots) (hd : decode cc pc = .ok (.newarray atype, 2))
    (kk : ∀ (q : Nat) (H : Heap), WD D A s (ws ++ [(q, .inl (cE, a0))]) H locs → W p l e R s m args below meth c H locs (cells + 1) (slots + N') Q (F0 m (pc + 2) ls (.ref q :: rest))) : W p l e R s m args below meth c H locs cells slots Q (F0 m pc ls (.int n :: rest)) := by
  refine va_newa hF.1 hF.2.1 (by rw [hty]; exact hF.2.2.2.2 _ hw) hty hK hW.1 hW.2.1 hW.2.2 hA ha hn hN hbytes hcells hslots hd (fun q cA H1 hK1 h1 h2 h3 => ?_)
  have e1 : va_RA s cA ty := (hK1.2 (TY E).length (cA, ty) (by rw [List.getElem?_append_right (Nat.le_refl _), Nat.sub_self]; rfl)).2
  have e2 : va_RA s cE ty := (hK.2 t0 _ ht).2
  rw [hra] at e1 e2
  cases Option.some.inj (e1.symm.trans e2)
  exact kk q H1 ⟨h1, h2, h3⟩
theorem pre_one (hK : va_K D vwCl (TY E) s) (hA : ∀ q, s.heap.size ≤ q → A q) (hZ : SF E tx A s s.heap) (hW : WD D A s (c0 :: R0) H locs) (hX : ∀ U : State, s.WarmedH U.vm → X U) (hXb : FrameBlind (va_Pc [.ref c0.1] X)) : PreS s H (va_Pc [.ref c0.1] (fun U => Pre D E tx [c0] H.size U ∧ X U)) [.ref c0.1] := by
  have h := pre_of (As := [.ref c0.1]) (wc := [c0]) hK hA hZ hW [0] rfl rfl
  refine ⟨fun a U g mk q => ?_, fun U hU hWm => ?_⟩
  · obtain ⟨q1, q2, q3⟩ := q
    have a1 := fb_pre (As := [.ref c0.1]) a U g mk ⟨q1, q2⟩
    have a2 := hXb a U g mk ⟨q1, q3⟩
    exact ⟨a1.1, a1.2, a2.2⟩
  · have a1 := h.2 U hU hWm
    exact ⟨a1.1, a1.2, hX U hWm⟩
theorem q_initN (hF : CallFix p m c cc nL s args WG own) (hsz : ls.size = nL) (hK : va_K D vwCl (TY E) s) (hA : ∀ q, s.heap.size ≤ q → A q) (hZ : SF E tx A s s.heap) (hW : WD D A s (c0 :: R0) H locs) (hm : MI y cb nM) {index : Nat} (hnw : Cond.methodLinkNest own index y RX7 ∈ NW) (hX : ∀ U : State, s.WarmedH U.vm → X U) (hXb : FrameBlind (va_Pc [.ref c0.1] X)) (hC : NC l y cb nM fr lo mc ms D E tx X c0 P) (hR : fr + 1 ≤ R.frames ∧ 8 + (nM + 11) + lo ≤ R.locals) (hcs : cells + mc ≤ R.cells ∧ slots + ms ≤ R.slots) (hrest : (rest.map fun v => v.category).sum ≤ 8) (hd : decode cc pc = .ok (.invokespecial index, 3))
    (kk : ∀ (u : va_W) (H : Heap) (locs : List Loc), P u → WD D A s (R0 ++ u) H locs → W p l e R s m args below meth c H locs (cells + mc) (slots + ms) Q (F0 m (pc + 3) ls rest)) : W p l e R s m args below meth c H locs cells slots Q (F0 m pc ls (.ref c0.1 :: rest)) := by
  have hFc := va_free (wc := [c0]) hW.2.1 hW.2.2 hA [0] rfl
  refine va_callv (va_runIN (As := []) (rest := rest) hF (hC H.size) ⟨va_cnB (ws' := WG) 0 hF.2.2.2.2 (g_sub (y := y) (cc := cb) (nL := nM) (ret := none) hm.1) rfl rfl rfl (hZ.2.2.2.2.2 _ hnw) (hF.2.2.2.2 _ hm.2.2.1) hm.2.2.2.2 hR, hm.2.2.2.1, hF.2.2.2.2 _ hm.2.1⟩ (pre_one hK hA hZ hW hX hXb) rfl rfl hsz rfl (lv_room hrest) hd hcs) hW.2.2 (fun q _ h => hFc q h) hFc (fun u t H1 locs1 ht hvm hw hB hz1 hk1 hS1 => ?_)
  obtain ⟨hB1, hB2⟩ := hB
  rw [ht] at hB1
  exact kk u H1 locs1 hw (WD_join hA hW hk1 hB1 hB2 hS1)
theorem q_initP (hF : CallFix p m c cc nL s args WG own) (hsz : ls.size = nL) (hK : va_K D vwCl (TY E) s) (hA : ∀ q, s.heap.size ≤ q → A q) (hZ : SF E tx A s s.heap) (hW : WD D A s (c0 :: R0) H locs) (hm : MI y cb nM) {index : Nat} (hlk : Cond.methodLink own index y ∈ WG) (hX : ∀ U : State, s.WarmedH U.vm → X U) (hXb : FrameBlind (va_Pc [.ref c0.1] X)) (hC : NC l y cb nM fr lo mc ms D E tx X c0 P) (hR : fr + 1 ≤ R.frames ∧ 8 + (nM + 11) + lo ≤ R.locals) (hcs : cells + mc ≤ R.cells ∧ slots + ms ≤ R.slots) (hrest : (rest.map fun v => v.category).sum ≤ 8) (hd : decode cc pc = .ok (.invokespecial index, 3))
    (kk : ∀ (u : va_W) (H : Heap) (locs : List Loc), P u → WD D A s (R0 ++ u) H locs → W p l e R s m args below meth c H locs (cells + mc) (slots + ms) Q (F0 m (pc + 3) ls rest)) : W p l e R s m args below meth c H locs cells slots Q (F0 m pc ls (.ref c0.1 :: rest)) := by
  have hFc := va_free (wc := [c0]) hW.2.1 hW.2.2 hA [0] rfl
  refine va_callv (va_runI (As := []) (rest := rest) hF (hC H.size) ⟨callB_of (ws' := WG) 0 hF.2.2.2.2 (g_sub (y := y) (cc := cb) (nL := nM) (ret := none) hm.1) rfl rfl rfl (hF.2.2.2.2 _ hm.2.2.1) (hF.2.2.2.2 _ hlk) hm.2.2.2.2 hR, hm.2.2.2.1, hF.2.2.2.2 _ hm.2.1⟩ (pre_one hK hA hZ hW hX hXb) rfl rfl hsz rfl (lv_room hrest) hd hcs) hW.2.2 (fun q _ h => hFc q h) hFc (fun u t H1 locs1 ht hvm hw hB hz1 hk1 hS1 => ?_)
  obtain ⟨hB1, hB2⟩ := hB
  rw [ht] at hB1
  exact kk u H1 locs1 hw (WD_join hA hW hk1 hB1 hB2 hS1)
theorem q_putF (hF : CallFix p m c cc nL s args WG own) (hin : meth.name = "<init>") (hK : va_K D vwCl (TY E) s) (hW : WD D A s ws H locs) {C : String} {T : u_T} {N ci index k a : Nat} {ty0 : Nat → FieldType} (hl : FL own index ci C T N k) (hT : FT C T N ty0) (hfin : (T k).2.2.2 = true) (hdecl : (T k).1 = own) (q0 : Nat) {fs : List Value} {v : Value} (he : ws[q0]? = some (a, .inr (ci, fs))) (hn : narrow (ty0 k) v = v) (hfit : fits (ty0 k) v = true) (hlen : k < fs.length) (hd : decode cc pc = .ok (.putfield index, 3))
    (kk : ∀ (H : Heap) (locs : List Loc), WD D A s (ws.set q0 (a, .inr (ci, fs.set k v))) H locs → W p l e R s m args below meth c H locs cells slots Q (F0 m (pc + 3) ls rest)) : W p l e R s m args below meth c H locs cells slots Q (F0 m pc ls (v :: .ref a :: rest)) :=
  va_putF (C := C) (T := T) (N := N) hF.1 hF.2.1 hF.2.2.2.2 hl.1 ty0 hT.1 hT.2 hF.2.2.2.1 hK hW.1 hW.2.1 hW.2.2 q0 he hl.2.1 k hl.2.2.1 (hF.2.2.2.2 _ hl.2.2.2) (fun _ h => h) hfin hin hdecl (hT.1 k hl.2.2.1) hn hfit hlen hd (fun H1 l1 h1 h2 h3 => kk H1 l1 ⟨h1, h2, h3⟩)
end QN
theorem cellq (n : Nat) (f g : Nat → Option Nat) (h : ∀ j, j < n → f j = g j) (cA : ClassId) : vp_cell cA (n, .inr (.inr (.inr (.inr f)))) = vp_cell cA (n, .inr (.inr (.inr (.inr g)))) := by
  have e : (fun j : Fin n => va_rf (f j.val)) = (fun j : Fin n => va_rf (g j.val)) := funext fun j => by rw [h j.1 j.2]
  show ({ cls := cA, slots := Array.ofFn (n := n) fun j => va_rf (f j.val), vm := .none } : Cell) = { cls := cA, slots := Array.ofFn (n := n) fun j => va_rf (g j.val), vm := .none }
  rw [e]
theorem celli (n : Nat) (f g : Nat → Int32) (h : ∀ j, j < n → f j = g j) (cA : ClassId) : vp_cell cA (n, .inl f) = vp_cell cA (n, .inl g) := by
  have e : (fun j : Fin n => Value.int (f j.val)) = (fun j : Fin n => Value.int (g j.val)) := funext fun j => by rw [h j.1 j.2]
  show ({ cls := cA, slots := Array.ofFn (n := n) fun j => Value.int (f j.val), vm := .none } : Cell) = { cls := cA, slots := Array.ofFn (n := n) fun j => Value.int (g j.val), vm := .none }
  rw [e]
theorem WD_cell {D : va_G} {A : Nat → Prop} {s : State} {ws : va_W} {H : Heap} {locs : List Loc} (hW : WD D A s ws H locs) (k : Nat) {a : Nat} {cA : ClassId} {x : vp_A} (he : ws[k]? = some (a, .inl (cA, x))) {y : vp_A} (hy : vp_cell cA x = vp_cell cA y) : WD D A s (ws.set k (a, .inl (cA, y))) H locs :=
  ⟨hW.1.set hW.2.1 he (show H[a]? = some (vp_cell cA y) from ((hW.1 k _ he : H[a]? = some (vp_cell cA x)).trans (congrArg some hy))) (fun _ _ => rfl), hW.2.1.set he, hW.2.2⟩
section QN2
variable {p : Program} {l : Launch} {e : Env} {R : Room} {s : State} {m : MethodId} {args : Array Value} {below : List Frame} {meth : Method} {c : Code} {H : Heap} {locs : List Loc} {cells slots : Nat} {Q : State → Prop} {cc : ByteArray} {pc : Nat} {ls : Array Slot} {rest : List Value}
variable {D : va_G} {E : Nat → ClassId} {A : Nat → Prop} {ws : va_W} {own : String} {nL : Nat} {a : Nat}
theorem q_newS (hF : CallFix p m c cc nL s args WG own) (hK : va_K D vwCl (TY E) s) (hA : ∀ q, s.heap.size ≤ q → A q) (hW : WD D A s ws H locs) {C : String} {N index : Nat} (hn : NWc own index C N) (hX : va_AO C s) (t0 : Nat) {cE : ClassId} (ht : (TY E)[t0]? = some (cE, .object C))
    {n : Int32} {N' : Nat} (hn0 : ¬ n < 0) (hN : n.toNatClampNeg = N') (hbytes : N' * 4 ≤ 536870912) (hcells : cells + 1 ≤ R.cells) (hslots : slots + N' ≤ R.slots) (hd : decode cc pc = .ok (.anewarray index, 3))
    (kk : ∀ (q : Nat) (H : Heap), WD D A s (ws ++ [(q, .inl (cE, N', .inr (.inr (.inr (.inr fun _ => none)))))]) H locs → W p l e R s m args below meth c H locs (cells + 1) (slots + N') Q (F0 m (pc + 3) ls (.ref q :: rest))) : W p l e R s m args below meth c H locs cells slots Q (F0 m pc ls (.int n :: rest)) := by
  refine va_newq hF.1 hF.2.1 hF.2.2.2.1 (hF.2.2.2.2 _ hn.1) hX hK hW.1 hW.2.1 hW.2.2 hA hn0 hN hbytes hcells hslots hd (fun q cA H1 hK1 h1 h2 h3 => ?_)
  have e1 : va_RA s cA (.object C) := (hK1.2 (TY E).length (cA, .object C) (by rw [List.getElem?_append_right (Nat.le_refl _), Nat.sub_self]; rfl)).2
  have e2 : va_RA s cE (.object C) := (hK.2 t0 _ ht).2
  obtain ⟨_, _, -, -, -, f1⟩ := e1
  obtain ⟨_, _, -, -, -, f2⟩ := e2
  cases Option.some.inj (f1.symm.trans f2)
  exact kk q H1 ⟨h1, h2, h3⟩
theorem q_astS (hF : CallFix p m c cc nL s args WG own) (hK : va_K D vwCl (TY E) s) (hW : WD D A s ws H locs) (q0 t0 qk ci : Nat) {cA : ClassId} {r : vw_C} {n v : Nat} {vs : List Value} {f : Nat → Option Nat} (ha : ws[q0]? = some (a, .inl (cA, n, .inr (.inr (.inr (.inr f)))))) (ht : (TY E)[t0]? = some (cA, .object r.1)) (hv : ws[qk]? = some (v, .inr (ci, vs))) (hc : vwCl[ci]? = some r) {i : Int32} (hin : vp_in i n) (hd : decode cc pc = .ok (.aastore, 1))
    (kk : ∀ (H : Heap) (locs : List Loc), WD D A s (ws.set q0 (a, .inl (cA, n, .inr (.inr (.inr (.inr (va_up f i.toNatClampNeg (some v)))))))) H locs → W p l e R s m args below meth c H locs cells slots Q (F0 m (pc + 1) ls rest)) : W p l e R s m args below meth c H locs cells slots Q (F0 m pc ls (.ref v :: .int i :: .ref a :: rest)) :=
  va_astq hF.1 hF.2.1 hK hW.1 hW.2.1 hW.2.2 q0 t0 qk ci ha ht hv hc hin hd (fun H1 l1 h1 h2 h3 => kk H1 l1 ⟨h1, h2, h3⟩)
theorem q_iastC (hF : CallFix p m c cc nL s args WG own) (hK : va_K D vwCl (TY E) s) (hW : WD D A s ws H locs) (q0 t0 : Nat) {cA : ClassId} {n : Nat} {f : Nat → Int32} (ha : ws[q0]? = some (a, .inl (cA, n, .inl f))) (ht : (TY E)[t0]? = some (cA, .int)) {i x : Int32} (hin : vp_in i n) (hd : decode cc pc = .ok (.iastore, 1)) (kk : ∀ (H : Heap) (locs : List Loc), WD D A s (ws.set q0 (a, .inl (cA, n, .inl (upd f i.toNatClampNeg x)))) H locs → W p l e R s m args below meth c H locs cells slots Q (F0 m (pc + 1) ls rest)) : W p l e R s m args below meth c H locs cells slots Q (F0 m pc ls (.int x :: .int i :: .ref a :: rest)) :=
  va_iast hF.1 hF.2.1 hK hW.1 hW.2.1 hW.2.2 q0 t0 ha ht hin hd (fun H1 l1 h1 h2 h3 => kk H1 l1 ⟨h1, h2, h3⟩)
end QN2
