/-! the law's own methods: they call, and catch -/
theorem pn_L : plainName RL = true := by decide +kernel
def NCX (U : State) : Prop := ∀ i j : Nat, (1 ≤ i ∧ i ≤ 6) → (1 ≤ j ∧ j ≤ 6) → i ≠ j → va_Nc (exName i) (exName j) U
theorem NCX.moved {u U : State} (hvm : u.vm.Alike U.vm) (h : NCX u) : NCX U := fun i j a b c => (h i j a b c).moved hvm
def PreN (D : va_G) (E : Nat → ClassId) (tx : List (Nat × String)) (ws : va_W) (sz : Nat) (U : State) : Prop := Pre D E tx ws sz U ∧ NCX U
theorem fb_preN {D : va_G} {E : Nat → ClassId} {tx : List (Nat × String)} {ws : va_W} {sz : Nat} {As : List Value} : FrameBlind (va_Pc As (PreN D E tx ws sz)) := by
  intro a U g mk q
  obtain ⟨q1, q2, q3⟩ := q
  have a1 := fb_pre (As := As) a U g mk ⟨q1, q2⟩
  exact ⟨a1.1, a1.2, NCX.moved (u := U) (U := U.calling g mk a) (Vm.Alike.refl U.vm) q3⟩
def LW (l : Launch) (y : MethodName) (cc : ByteArray) (nL : Nat) (hh : List (Nat × Nat × Nat × Nat)) (fr lo mc ms : Nat) (D : va_G) (E : Nat → ClassId) (tx : List (Nat × String)) (As : List Value) (ws ws' : va_W) (r : Int32) : Prop :=
  ∀ sz : Nat, Met l y (Cond.codeWith y cc nL (some .int) hh :: WG) (RX_ fr lo mc ms) (va_Pc As (PreN D E tx ws sz)) (va_Qi (fun (r' : Int32) (_ : Unit) => r' = r) (fun _ t => va_P D vwCl ws' t.heap) (va_A ws sz)) mc ms (va_A ws sz)
theorem LW_of {l : Launch} {y : MethodName} {cc : ByteArray} {nL : Nat} {hh : List (Nat × Nat × Nat × Nat)} {fr lo mc ms : Nat} {D : va_G} {E : Nat → ClassId} {tx : List (Nat × String)} {As : List Value} {ws ws' : va_W} {r : Int32} (hy : plainName y.cls = true) (ho : y.cls = RL) (hn : (lg_sl As).length ≤ nL)
    (h : ∀ (p : Program) (e : Env) (s : State) (m : MethodId) (args : Array Value) (below : List Frame) (meth : Method) (c : Code) (A : Nat → Prop) (Q : State → Prop), CallFix p m c cc nL s args WG RL → c.exceptionTable.toList = tableOf hh → va_K D vwCl (TY E) s → (∀ q, s.heap.size ≤ q → A q) → SF E tx A s s.heap → NCX s → WD D A s ws s.heap [] →
      (∀ {pc : Nat} {H : Heap} {locs : List Loc} {ls : Array Slot} {v : Int32} {cells slots : Nat}, decode cc pc = .ok (.ireturn, 1) → v = r → cells ≤ mc → slots ≤ ms → WD D A s ws' H locs → W p l e (RX_ fr lo mc ms) s m args below meth c H locs cells slots Q (F0 m pc ls [.int v])) →
      ∀ ls : Array Slot, lv_has ls nL (lv_args 0 As) → W p l e (RX_ fr lo mc ms) s m args below meth c s.heap [] 0 0 Q (F0 m 0 ls [])) : LW l y cc nL hh fr lo mc ms D E tx As ws ws' r := by
  intro sz
  refine va_MetW (cc := cc) (maxL := nL) (ret := some .int) (hh := hh) hy rfl ?_
  intro p e s m args below meth c s₁ B hml hv
  obtain ⟨rfl, ⟨hsz, hP, hK, hD0, hZ⟩, hN⟩ := hv
  subst hsz
  have hts := atoms_spec (ws := Cond.codeWith y cc nL (some .int) hh :: WG) B.pre
  have htab := vx_table (x := y) B (hts _ List.mem_cons_self)
  have hown : s.vm.findClass RL = some m.cls := by rw [← ho]; exact findClass_of_methodNamed B.named
  have hlocks := B.notSynchronized
  have hr := B.returns
  have hF : CallFix p m c cc nL s As.toArray WG RL := ⟨B.exec, B.bytes, hml, hown, fun w hw => hts w (List.mem_cons_of_mem _ hw)⟩
  rw [lg_entry_eq]
  refine h p e s m _ below meth c (va_A ws s.heap.size) _ hF htab hK (fun q h => Or.inr h) hZ hN ⟨hP, hD0.self, va_S.rf⟩ ?_ _ (lv_entry As hn)
  intro pc H locs ls v cells slots hd hv hc hs hW
  subst hv
  refine W.widen hc hs ?_
  exact W.zret B.exec B.bytes hr rfl (fun t ht _ => ⟨⟨v, (), rfl, rfl, by show va_P D vwCl ws' t.heap; rw [ht]; exact hW.1⟩, hW.2.2.F ht⟩) hW.2.2.2.2 hd
theorem rng_map (wc u : va_W) : (List.range wc.length).map (fun i => (wc ++ u)[i]?) = wc.map some := by
  refine List.ext_getElem? fun i => ?_
  rw [List.getElem?_map, List.getElem?_map]
  by_cases h : i < wc.length
  · rw [List.getElem?_range h, List.getElem?_eq_getElem h]
    show some ((wc ++ u)[i]?) = some (some _)
    rw [List.getElem?_append_left h, List.getElem?_eq_getElem h]
  · rw [List.getElem?_eq_none (by rw [List.length_range]; omega), List.getElem?_eq_none (by omega)]
    rfl
theorem rng_pa (wc u wc' : va_W) (h : wc'.length = wc.length) : va_pa (wc ++ u) (List.range wc.length) wc' = wc' ++ u := by
  rw [va_pa_left _ wc wc' u (fun i hi => List.mem_range.mp hi)]
  have h1 := va_pa_blk wc' [] [] wc h
  rw [List.range_eq_range']
  exact congrArg (· ++ u) h1
def PASS (s : State) (args : Array Value) (own E : String) (pc : Nat) (pre : List ExceptionTableEntry) : Prop := ∀ z ∈ pre, covers z pc = false ∨ (z.catchType ≠ 0 ∧ ∃ nm : String, (Cond.classLink own z.catchType nm).before args s = true ∧ va_Nc E nm s)
theorem pass_nil {s : State} {args : Array Value} {own E : String} {pc : Nat} : PASS s args own E pc [] := fun _ h => by cases h
theorem pass_cons {s : State} {args : Array Value} {own E nm : String} {pc : Nat} {x : ExceptionTableEntry} {pre : List ExceptionTableEntry} (h0 : x.catchType ≠ 0) (hl : (Cond.classLink own x.catchType nm).before args s = true) (hn : va_Nc E nm s) (h : PASS s args own E pc pre) : PASS s args own E pc (x :: pre) := fun z hz => by
  rcases List.mem_cons.mp hz with e | e
  · subst e; exact Or.inr ⟨h0, nm, hl, hn⟩
  · exact h z e
section QL
variable {p : Program} {l : Launch} {e : Env} {R : Room} {s : State} {m : MethodId} {args : Array Value} {below : List Frame} {meth : Method} {c : Code} {H : Heap} {locs : List Loc} {cells slots : Nat} {Q : State → Prop} {cc : ByteArray} {pc : Nat} {ls : Array Slot} {rest : List Value}
variable {D : va_G} {E : Nat → ClassId} {tx : List (Nat × String)} {A : Nat → Prop} {ws wc wc' : va_W} {b : Nat} {own : String} {nL nM fr lo mc ms n k : Nat} {y : MethodName} {cb : ByteArray} {As st0 : List Value} {o : Nat × va_E}
theorem q_wI (hF : CallFix p m c cc nL s args WG own) (hsz : ls.size = nL) (hK : va_K D vwCl (TY E) s) (hA : ∀ q, s.heap.size ≤ q → A q) (hZ : SF E tx A s s.heap) (hW : WD D A s (wc ++ [o]) H locs) {ret : Option FieldType} (hm : MV y cb nM ret n) {index : Nat} (hlk : Cond.methodLink own index y ∈ WG) {rv : Int32} (hC : XI l y cb nM ret fr lo mc ms D E tx (.ref b :: As) wc wc' k rv)
    {ci : Nat} {q : vw_C} {fs : List Value} (hc : vwCl[ci]? = some q) (he : wc[0]? = some (b, .inr (ci, fs))) (hq : q.1 = y.cls) (ha : wc'.map (·.1) = wc.map (·.1)) (hR : fr + 1 ≤ R.frames ∧ 8 + (nM + 11) + lo ≤ R.locals) (hcs : cells + mc ≤ R.cells ∧ slots + ms ≤ R.slots)
    (hAs : As.length = n) (hst : st0 = As.reverse ++ .ref b :: rest) (hrest : (rest.map fun v => v.category).sum ≤ 8) (hd : decode cc pc = .ok (.invokevirtual index, 3))
    (kx : k ≠ 0 → ∀ (ce : Cell) (q9 : Addr) (H : Heap) (locs : List Loc), WD D A s (wc' ++ [o]) H locs → H[q9]? = some ce → ce.vm = .none → s.vm.findClass (exName k) = some ce.cls → vx_W p l e R s m args below meth c H locs (cells + mc) (slots + ms) Q (F0 m pc ls rest) q9)
    (kk : k = 0 → ∀ (H : Heap) (locs : List Loc), WD D A s (wc' ++ [o]) H locs → W p l e R s m args below meth c H locs (cells + mc) (slots + ms) Q (F0 m (pc + 3) ls (.int rv :: rest))) : W p l e R s m args below meth c H locs cells slots Q (F0 m pc ls st0) := by
  have hl : wc'.length = wc.length := by have := congrArg List.length ha; simpa using this
  refine q_xI hF hsz hK hA hZ hW hm hlk hC (List.range wc.length) (rng_map wc [o]) ((nd_iff _).mpr List.nodup_range) hc he hq ha hR hcs hAs hst hrest hd (fun h0 ce q9 H locs hW => ?_) (fun h0 H locs hW => ?_)
  · rw [rng_pa wc [o] wc' hl] at hW
    exact kx h0 ce q9 H locs hW
  · rw [rng_pa wc [o] wc' hl] at hW
    exact kk h0 H locs hW
theorem q_wD (hF : CallFix p m c cc nL s args WG own) (hsz : ls.size = nL) (hK : va_K D vwCl (TY E) s) (hA : ∀ q, s.heap.size ≤ q → A q) (hZ : SF E tx A s s.heap) (hW : WD D A s (wc ++ [o]) H locs) (hm : MV y cb nM (some .double) n) {index : Nat} (hlk : Cond.methodLink own index y ∈ WG) {rv : UInt64} (hC : XD l y cb nM fr lo mc ms D E tx (.ref b :: As) wc wc' k rv)
    {ci : Nat} {q : vw_C} {fs : List Value} (hc : vwCl[ci]? = some q) (he : wc[0]? = some (b, .inr (ci, fs))) (hq : q.1 = y.cls) (ha : wc'.map (·.1) = wc.map (·.1)) (hR : fr + 1 ≤ R.frames ∧ 8 + (nM + 11) + lo ≤ R.locals) (hcs : cells + mc ≤ R.cells ∧ slots + ms ≤ R.slots)
    (hAs : As.length = n) (hst : st0 = As.reverse ++ .ref b :: rest) (hrest : (rest.map fun v => v.category).sum ≤ 8) (hd : decode cc pc = .ok (.invokevirtual index, 3))
    (kx : k ≠ 0 → ∀ (ce : Cell) (q9 : Addr) (H : Heap) (locs : List Loc), WD D A s (wc' ++ [o]) H locs → H[q9]? = some ce → ce.vm = .none → s.vm.findClass (exName k) = some ce.cls → vx_W p l e R s m args below meth c H locs (cells + mc) (slots + ms) Q (F0 m pc ls rest) q9)
    (kk : k = 0 → ∀ (H : Heap) (locs : List Loc), WD D A s (wc' ++ [o]) H locs → W p l e R s m args below meth c H locs (cells + mc) (slots + ms) Q (F0 m (pc + 3) ls (.double rv :: rest))) : W p l e R s m args below meth c H locs cells slots Q (F0 m pc ls st0) := by
  subst hst
  have hl : wc'.length = wc.length := by have := congrArg List.length ha; simpa using this
  have h1 := rng_map wc [o]
  have hpre := pre_of (As := .ref b :: As) hK hA hZ hW (List.range wc.length) h1 ((nd_iff _).mpr List.nodup_range)
  have hPc : va_P D vwCl wc H := fun k q hq => by obtain ⟨i, -, hi⟩ := va_at2 h1 hq; exact hW.1 i q hi
  have hrc := va_recv hK hPc hc he
  rw [hq] at hrc
  have hFc := va_free hW.2.1 hW.2.2 hA (List.range wc.length) h1
  refine vx_calld (vx_runV (As := As) (rest := rest) hF (hC H.size) ⟨callB_of (ws' := WG) n hF.2.2.2.2 (g_sub (y := y) (cc := cb) (nL := nM) (ret := some .double) hm.1) rfl rfl rfl (hF.2.2.2.2 _ hm.2.2.2.1) (hF.2.2.2.2 _ hlk) hm.2.2.2.2 hR, hF.2.2.2.2 _ hm.2.1, hF.2.2.2.2 _ hm.2.2.1⟩ ⟨hpre.1, hrc, hpre.2⟩ rfl hAs hsz rfl (lv_room hrest) hd hcs) hW.2.2 (fun q _ h => hFc q h) hFc (fun q _ h => hFc q h) ?_ ?_
  · intro E' ce q9 u t H1 locs1 ht hvm hp hB hz1 hk1 hS1 hce hcv hcl
    obtain ⟨hE, hB⟩ := hB
    subst hE
    rw [ht] at hB
    obtain ⟨g1, g2⟩ := va_backA hW.1 hW.2.1 (List.range wc.length) h1 ha hk1 hB
    rw [rng_pa wc [o] wc' hl] at g1 g2
    exact kx hp ce q9 H1 locs1 ⟨g1, g2, hS1⟩ hce hcv hcl
  · intro r u t H1 locs1 ht hvm hw hB hz1 hk1 hS1
    obtain ⟨hk0, hw⟩ := hw
    subst hw
    rw [ht] at hB
    obtain ⟨g1, g2⟩ := va_backA hW.1 hW.2.1 (List.range wc.length) h1 ha hk1 hB
    rw [rng_pa wc [o] wc' hl] at g1 g2
    exact kk hk0 H1 locs1 ⟨g1, g2, hS1⟩
theorem set_last (ws : va_W) (x y : Nat × va_E) : (ws ++ [x]).set ws.length y = ws ++ [y] := by
  rw [List.set_append_right _ _ (Nat.le_refl _), Nat.sub_self]
  rfl
theorem get_last (ws : va_W) (x : Nat × va_E) : (ws ++ [x])[ws.length]? = some x := by
  rw [List.getElem?_append_right (Nat.le_refl _), Nat.sub_self]
  rfl
theorem q_lastE (hF : CallFix p m c cc nL s args WG own) (hK : va_K D vwCl (TY E) s) {a : Nat} {f : Nat → Int64} (hW : WD D A s (ws ++ [(a, .inl (E 4, 1, .inr (.inl f)))]) H locs) {x : Int64} (hd : decode cc pc = .ok (.lastore, 1))
    (kk : ∀ (H : Heap) (locs : List Loc), WD D A s (ws ++ [(a, .inl (E 4, 1, .inr (.inl (vp_updL f 0 x))))]) H locs → W p l e R s m args below meth c H locs cells slots Q (F0 m (pc + 1) ls rest)) : W p l e R s m args below meth c H locs cells slots Q (F0 m pc ls (.long x :: .int 0 :: .ref a :: rest)) := by
  refine va_last hF.1 hF.2.1 hK hW.1 hW.2.1 hW.2.2 ws.length 4 (get_last _ _) rfl (by unfold vp_in; decide) hd (fun H1 l1 h1 h2 h3 => ?_)
  rw [set_last] at h1 h2
  exact kk H1 l1 ⟨h1, h2, h3⟩
theorem q_dastE (hF : CallFix p m c cc nL s args WG own) (hK : va_K D vwCl (TY E) s) {a : Nat} {f : Nat → UInt64} (hW : WD D A s (ws ++ [(a, .inl (E 5, 1, .inr (.inr (.inr (.inl f)))))]) H locs) {x : UInt64} (hd : decode cc pc = .ok (.dastore, 1))
    (kk : ∀ (H : Heap) (locs : List Loc), WD D A s (ws ++ [(a, .inl (E 5, 1, .inr (.inr (.inr (.inl (vf_upd f 0 x))))))]) H locs → W p l e R s m args below meth c H locs cells slots Q (F0 m (pc + 1) ls rest)) : W p l e R s m args below meth c H locs cells slots Q (F0 m pc ls (.double x :: .int 0 :: .ref a :: rest)) := by
  refine va_dast hF.1 hF.2.1 hK hW.1 hW.2.1 hW.2.2 ws.length 5 (get_last _ _) rfl (by unfold vp_in; decide) hd (fun H1 l1 h1 h2 h3 => ?_)
  rw [set_last] at h1 h2
  exact kk H1 l1 ⟨h1, h2, h3⟩
theorem q_catch (hF : CallFix p m c cc nL s args WG own) (hZ : SF E tx A s s.heap) {hh : List (Nat × Nat × Nat × Nat)} (htab : c.exceptionTable.toList = tableOf hh) (pre : List ExceptionTableEntry) (x : ExceptionTableEntry) (suf : List ExceptionTableEntry) (hsplit : tableOf hh = pre ++ x :: suf) {name E' : String} {ce : Cell} {q : Addr} (hp : PASS s args own E' pc pre) (hx : covers x pc = true) (h0 : x.catchType ≠ 0) (hlink : Cond.classLink own x.catchType name ∈ WG) (hcast : Cond.castable E' name ∈ NW) (hcell : H[q]? = some ce) (hv : ce.vm = .none) (hcl : s.vm.findClass E' = some ce.cls)
    (kk : W p l e R s m args below meth c H locs cells slots Q (F0 m x.handlerPc ls [.ref q])) : vx_W p l e R s m args below meth c H locs cells slots Q (F0 m pc ls rest) q :=
  vx_catch hF.2.2.2.1 pre x suf (htab.trans hsplit) hp hx h0 (hF.2.2.2.2 _ hlink) (va_Nw.use (NW_on _ hcast) (hZ.2.2.2.2.2 _ hcast)) hcell hv hcl kk
end QL
theorem cl_13 : Cond.classLink RL 13 (exName 1) ∈ WG := WG_of (tb_2 _ (List.mem_of_getElem? (i := 171) rfl)) rfl
theorem cl_15 : Cond.classLink RL 15 (exName 2) ∈ WG := WG_of (tb_2 _ (List.mem_of_getElem? (i := 172) rfl)) rfl
theorem cl_24 : Cond.classLink RL 24 (exName 3) ∈ WG := WG_of (tb_3 _ (List.mem_of_getElem? (i := 56) rfl)) rfl
theorem cl_33 : Cond.classLink RL 33 (exName 4) ∈ WG := WG_of (tb_3 _ (List.mem_of_getElem? (i := 133) rfl)) rfl
theorem cl_98 : Cond.classLink RL 98 (exName 5) ∈ WG := WG_of (tb_4 _ (List.mem_of_getElem? (i := 193) rfl)) rfl
theorem cl_137 : Cond.classLink RL 137 (exName 6) ∈ WG := WG_of (tb_5 _ (List.mem_of_getElem? (i := 142) rfl)) rfl
theorem ca_1 : Cond.castable (exName 1) (exName 1) ∈ NW := List.mem_of_getElem? (i := 15) rfl
theorem ca_2 : Cond.castable (exName 2) (exName 2) ∈ NW := List.mem_of_getElem? (i := 16) rfl
theorem ca_3 : Cond.castable (exName 3) (exName 3) ∈ NW := List.mem_of_getElem? (i := 17) rfl
theorem ca_4 : Cond.castable (exName 4) (exName 4) ∈ NW := List.mem_of_getElem? (i := 18) rfl
theorem ca_5 : Cond.castable (exName 5) (exName 5) ∈ NW := List.mem_of_getElem? (i := 19) rfl
theorem ca_6 : Cond.castable (exName 6) (exName 6) ∈ NW := List.mem_of_getElem? (i := 20) rfl
def hh_addLink : List (Nat × Nat × Nat × Nat) := [(0, 12, 15, 13), (0, 12, 19, 15)]
theorem mw_addLink : Cond.codeWith yL_addLink cL_addLink 6 (some .int) hh_addLink ∈ WG := WG_of (tb_2 _ (List.mem_of_getElem? (i := 170) rfl)) rfl
set_option maxHeartbeats 4000000 in
set_option maxRecDepth 100000 in
theorem v_addLink (l : Launch) (D : va_G) (E : Nat → ClassId) (h_ ho : Nat) (x1 x2 x3 : Int32) (wc wc' : va_W) (k : Nat) (rv : Int32) (f : Nat → Int64) {fs : List Value} (hC : XI l yX7_addLink cX7_addLink 4 (some .int) 6 127 1 6 D E TXL [.ref h_, .int x1, .int x2, .int x3] wc wc' k rv) (he : wc[0]? = some (h_, .inr (9, fs))) (ha : wc'.map (·.1) = wc.map (·.1)) (hk : k = 0 ∨ k = 1 ∨ k = 2) : LW l yL_addLink cL_addLink 6 hh_addLink 7 150 1 6 D E TXL [.ref h_, .int x1, .int x2, .int x3, .ref ho] (wc ++ [(ho, .inl (E 4, 1, .inr (.inl f)))]) (wc' ++ [(ho, .inl (E 4, 1, .inr (.inl (if k = 0 then vp_updL f 0 rv.toInt64 else f))))]) (if k = 1 then 1 else (if k = 2 then 2 else 0)) := by
  refine LW_of pn_L rfl (Nat.le_of_ble_eq_true rfl) (fun p e s m args below meth c A Q hF htab hK hA hZ hN hW hret ls hl => ?_)
  have hx := hF.1
  have hb := hF.2.1
  have hl : lv_has ls 6 [(0, .ref h_), (1, .int x1), (2, .int x2), (3, .int x3), (4, .ref ho)] := hl
  refine lv_aload hx hb dL_addLink_0 (lv_at hl 4 rfl) ?_
  refine lv_iconst (v := 0) hx hb dL_addLink_2 (by decide) ?_
  refine lv_aload_n hx hb dL_addLink_3 rfl (lv_at hl 0 rfl) ?_
  refine lv_iload_n hx hb dL_addLink_4 rfl (lv_at hl 1 rfl) ?_
  refine lv_iload_n hx hb dL_addLink_5 rfl (lv_at hl 2 rfl) ?_
  refine lv_iload_n hx hb dL_addLink_6 rfl (lv_at hl 3 rfl) ?_
  refine q_wI hF hl.1 hK hA hZ hW mv_X7_addLink ml_L_7 hC (q := (RX7, TX7, 13)) rfl he rfl ha ⟨Nat.le_of_ble_eq_true rfl, Nat.le_of_ble_eq_true rfl⟩ ⟨Nat.le_of_ble_eq_true rfl, Nat.le_of_ble_eq_true rfl⟩ rfl rfl (Nat.le_of_ble_eq_true rfl) dL_addLink_7 (fun hk0 ce q9 H locs hW hce hcv hcl => ?_) (fun hk0 H locs hW => ?_)
  · rcases hk with rfl | rfl | rfl
    · exact absurd rfl hk0
    · refine q_catch hF hZ htab [] ⟨0, 12, 15, 13⟩ [⟨0, 12, 19, 15⟩] rfl pass_nil (by decide) (by decide) cl_13 ca_1 hce hcv hcl ?_
      refine lv_astore (lv' := [(5, .ref q9), (0, .ref h_), (1, .int x1), (2, .int x2), (3, .int x3), (4, .ref ho)]) hx hb dL_addLink_15 hl (by decide) rfl (fun ls hl => ?_)
      refine lv_iconst (v := 1) hx hb dL_addLink_17 (by decide) ?_
      exact hret dL_addLink_18 rfl (Nat.le_of_ble_eq_true rfl) (Nat.le_of_ble_eq_true rfl) hW
    · refine q_catch hF hZ htab [⟨0, 12, 15, 13⟩] ⟨0, 12, 19, 15⟩ [] rfl (pass_cons (by decide) (hF.2.2.2.2 _ cl_13) (hN 2 1 (by decide) (by decide) (by decide)) pass_nil) (by decide) (by decide) cl_15 ca_2 hce hcv hcl ?_
      refine lv_astore (lv' := [(5, .ref q9), (0, .ref h_), (1, .int x1), (2, .int x2), (3, .int x3), (4, .ref ho)]) hx hb dL_addLink_19 hl (by decide) rfl (fun ls hl => ?_)
      refine lv_iconst (v := 2) hx hb dL_addLink_21 (by decide) ?_
      exact hret dL_addLink_22 rfl (Nat.le_of_ble_eq_true rfl) (Nat.le_of_ble_eq_true rfl) hW
  · subst hk0
    refine lv_i2l hx hb dL_addLink_10 rfl ?_
    refine q_lastE hF hK hW dL_addLink_11 (fun H locs hW => ?_)
    refine lv_goto (tgt := 23) hx hb dL_addLink_12 (by decide) ?_
    refine lv_iconst (v := 0) hx hb dL_addLink_23 (by decide) ?_
    exact hret dL_addLink_24 rfl (Nat.le_of_ble_eq_true rfl) (Nat.le_of_ble_eq_true rfl) hW
def hh_removeLink : List (Nat × Nat × Nat × Nat) := [(0, 8, 11, 15)]
theorem mw_removeLink : Cond.codeWith yL_removeLink cL_removeLink 3 (some .int) hh_removeLink ∈ WG := WG_of (tb_3 _ (List.mem_of_getElem? (i := 43) rfl)) rfl
set_option maxHeartbeats 4000000 in
set_option maxRecDepth 100000 in
theorem v_removeLink (l : Launch) (D : va_G) (E : Nat → ClassId) (h_ ho : Nat) (wc wc' : va_W) (k : Nat) (rv : Int32) (f : Nat → Int64) {fs : List Value} (hC : XI l yX7_removeLink cX7_removeLink 1 (some .int) 6 127 1 6 D E TXL [.ref h_] wc wc' k rv) (he : wc[0]? = some (h_, .inr (9, fs))) (ha : wc'.map (·.1) = wc.map (·.1)) (hk : k = 0 ∨ k = 2) : LW l yL_removeLink cL_removeLink 3 hh_removeLink 7 147 1 6 D E TXL [.ref h_, .ref ho] (wc ++ [(ho, .inl (E 4, 1, .inr (.inl f)))]) (wc' ++ [(ho, .inl (E 4, 1, .inr (.inl (if k = 0 then vp_updL f 0 rv.toInt64 else f))))]) (if k = 2 then 1 else 0) := by
  refine LW_of pn_L rfl (Nat.le_of_ble_eq_true rfl) (fun p e s m args below meth c A Q hF htab hK hA hZ hN hW hret ls hl => ?_)
  have hx := hF.1
  have hb := hF.2.1
  have hl : lv_has ls 3 [(0, .ref h_), (1, .ref ho)] := hl
  refine lv_aload_n hx hb dL_removeLink_0 rfl (lv_at hl 1 rfl) ?_
  refine lv_iconst (v := 0) hx hb dL_removeLink_1 (by decide) ?_
  refine lv_aload_n hx hb dL_removeLink_2 rfl (lv_at hl 0 rfl) ?_
  refine q_wI hF hl.1 hK hA hZ hW mv_X7_removeLink ml_L_17 hC (q := (RX7, TX7, 13)) rfl he rfl ha ⟨Nat.le_of_ble_eq_true rfl, Nat.le_of_ble_eq_true rfl⟩ ⟨Nat.le_of_ble_eq_true rfl, Nat.le_of_ble_eq_true rfl⟩ rfl rfl (Nat.le_of_ble_eq_true rfl) dL_removeLink_3 (fun hk0 ce q9 H locs hW hce hcv hcl => ?_) (fun hk0 H locs hW => ?_)
  · rcases hk with rfl | rfl
    · exact absurd rfl hk0
    · refine q_catch hF hZ htab [] ⟨0, 8, 11, 15⟩ [] rfl pass_nil (by decide) (by decide) cl_15 ca_2 hce hcv hcl ?_
      refine lv_astore_n (lv' := [(2, .ref q9), (0, .ref h_), (1, .ref ho)]) hx hb dL_removeLink_11 rfl hl (by decide) rfl (fun ls hl => ?_)
      refine lv_iconst (v := 1) hx hb dL_removeLink_12 (by decide) ?_
      exact hret dL_removeLink_13 rfl (Nat.le_of_ble_eq_true rfl) (Nat.le_of_ble_eq_true rfl) hW
  · subst hk0
    refine lv_i2l hx hb dL_removeLink_6 rfl ?_
    refine q_lastE hF hK hW dL_removeLink_7 (fun H locs hW => ?_)
    refine lv_goto (tgt := 14) hx hb dL_removeLink_8 (by decide) ?_
    refine lv_iconst (v := 0) hx hb dL_removeLink_14 (by decide) ?_
    exact hret dL_removeLink_15 rfl (Nat.le_of_ble_eq_true rfl) (Nat.le_of_ble_eq_true rfl) hW
def hh_setLimits : List (Nat × Nat × Nat × Nat) := [(0, 12, 15, 24), (0, 12, 19, 13)]
theorem mw_setLimits : Cond.codeWith yL_setLimits cL_setLimits 6 (some .int) hh_setLimits ∈ WG := WG_of (tb_3 _ (List.mem_of_getElem? (i := 55) rfl)) rfl
set_option maxHeartbeats 4000000 in
set_option maxRecDepth 100000 in
theorem v_setLimits (l : Launch) (D : va_G) (E : Nat → ClassId) (h_ ho : Nat) (x1 x2 x3 : Int32) (wc wc' : va_W) (k : Nat) (rv : Int32) (f : Nat → Int64) {fs : List Value} (hC : XI l yX7_setLimits cX7_setLimits 4 (some .int) 6 127 1 6 D E TXL [.ref h_, .int x1, .int x2, .int x3] wc wc' k rv) (he : wc[0]? = some (h_, .inr (9, fs))) (ha : wc'.map (·.1) = wc.map (·.1)) (hk : k = 0 ∨ k = 3 ∨ k = 1) : LW l yL_setLimits cL_setLimits 6 hh_setLimits 7 150 1 6 D E TXL [.ref h_, .int x1, .int x2, .int x3, .ref ho] (wc ++ [(ho, .inl (E 4, 1, .inr (.inl f)))]) (wc' ++ [(ho, .inl (E 4, 1, .inr (.inl (if k = 0 then vp_updL f 0 rv.toInt64 else f))))]) (if k = 3 then 1 else (if k = 1 then 2 else 0)) := by
  refine LW_of pn_L rfl (Nat.le_of_ble_eq_true rfl) (fun p e s m args below meth c A Q hF htab hK hA hZ hN hW hret ls hl => ?_)
  have hx := hF.1
  have hb := hF.2.1
  have hl : lv_has ls 6 [(0, .ref h_), (1, .int x1), (2, .int x2), (3, .int x3), (4, .ref ho)] := hl
  refine lv_aload hx hb dL_setLimits_0 (lv_at hl 4 rfl) ?_
  refine lv_iconst (v := 0) hx hb dL_setLimits_2 (by decide) ?_
  refine lv_aload_n hx hb dL_setLimits_3 rfl (lv_at hl 0 rfl) ?_
  refine lv_iload_n hx hb dL_setLimits_4 rfl (lv_at hl 1 rfl) ?_
  refine lv_iload_n hx hb dL_setLimits_5 rfl (lv_at hl 2 rfl) ?_
  refine lv_iload_n hx hb dL_setLimits_6 rfl (lv_at hl 3 rfl) ?_
  refine q_wI hF hl.1 hK hA hZ hW mv_X7_setLimits ml_L_21 hC (q := (RX7, TX7, 13)) rfl he rfl ha ⟨Nat.le_of_ble_eq_true rfl, Nat.le_of_ble_eq_true rfl⟩ ⟨Nat.le_of_ble_eq_true rfl, Nat.le_of_ble_eq_true rfl⟩ rfl rfl (Nat.le_of_ble_eq_true rfl) dL_setLimits_7 (fun hk0 ce q9 H locs hW hce hcv hcl => ?_) (fun hk0 H locs hW => ?_)
  · rcases hk with rfl | rfl | rfl
    · exact absurd rfl hk0
    · refine q_catch hF hZ htab [] ⟨0, 12, 15, 24⟩ [⟨0, 12, 19, 13⟩] rfl pass_nil (by decide) (by decide) cl_24 ca_3 hce hcv hcl ?_
      refine lv_astore (lv' := [(5, .ref q9), (0, .ref h_), (1, .int x1), (2, .int x2), (3, .int x3), (4, .ref ho)]) hx hb dL_setLimits_15 hl (by decide) rfl (fun ls hl => ?_)
      refine lv_iconst (v := 1) hx hb dL_setLimits_17 (by decide) ?_
      exact hret dL_setLimits_18 rfl (Nat.le_of_ble_eq_true rfl) (Nat.le_of_ble_eq_true rfl) hW
    · refine q_catch hF hZ htab [⟨0, 12, 15, 24⟩] ⟨0, 12, 19, 13⟩ [] rfl (pass_cons (by decide) (hF.2.2.2.2 _ cl_24) (hN 1 3 (by decide) (by decide) (by decide)) pass_nil) (by decide) (by decide) cl_13 ca_1 hce hcv hcl ?_
      refine lv_astore (lv' := [(5, .ref q9), (0, .ref h_), (1, .int x1), (2, .int x2), (3, .int x3), (4, .ref ho)]) hx hb dL_setLimits_19 hl (by decide) rfl (fun ls hl => ?_)
      refine lv_iconst (v := 2) hx hb dL_setLimits_21 (by decide) ?_
      exact hret dL_setLimits_22 rfl (Nat.le_of_ble_eq_true rfl) (Nat.le_of_ble_eq_true rfl) hW
  · subst hk0
    refine lv_i2l hx hb dL_setLimits_10 rfl ?_
    refine q_lastE hF hK hW dL_setLimits_11 (fun H locs hW => ?_)
    refine lv_goto (tgt := 23) hx hb dL_setLimits_12 (by decide) ?_
    refine lv_iconst (v := 0) hx hb dL_setLimits_23 (by decide) ?_
    exact hret dL_setLimits_24 rfl (Nat.le_of_ble_eq_true rfl) (Nat.le_of_ble_eq_true rfl) hW
def hh_addObstacle : List (Nat × Nat × Nat × Nat) := [(0, 10, 13, 24), (0, 10, 17, 13), (0, 10, 21, 15)]
theorem mw_addObstacle : Cond.codeWith yL_addObstacle cL_addObstacle 5 (some .int) hh_addObstacle ∈ WG := WG_of (tb_3 _ (List.mem_of_getElem? (i := 108) rfl)) rfl
set_option maxHeartbeats 4000000 in
set_option maxRecDepth 100000 in
theorem v_addObstacle (l : Launch) (D : va_G) (E : Nat → ClassId) (h_ ho : Nat) (x1 x2 : Int32) (wc wc' : va_W) (k : Nat) (rv : Int32) (f : Nat → Int64) {fs : List Value} (hC : XI l yX7_addObstacle cX7_addObstacle 3 (some .int) 7 127 2 12 D E TXL [.ref h_, .int x1, .int x2] wc wc' k rv) (he : wc[0]? = some (h_, .inr (9, fs))) (ha : wc'.map (·.1) = wc.map (·.1)) (hk : k = 0 ∨ k = 3 ∨ k = 1 ∨ k = 2) : LW l yL_addObstacle cL_addObstacle 5 hh_addObstacle 8 149 2 12 D E TXL [.ref h_, .int x1, .int x2, .ref ho] (wc ++ [(ho, .inl (E 4, 1, .inr (.inl f)))]) (wc' ++ [(ho, .inl (E 4, 1, .inr (.inl (if k = 0 then vp_updL f 0 rv.toInt64 else f))))]) (if k = 3 then 1 else (if k = 1 then 2 else (if k = 2 then 3 else 0))) := by
  refine LW_of pn_L rfl (Nat.le_of_ble_eq_true rfl) (fun p e s m args below meth c A Q hF htab hK hA hZ hN hW hret ls hl => ?_)
  have hx := hF.1
  have hb := hF.2.1
  have hl : lv_has ls 5 [(0, .ref h_), (1, .int x1), (2, .int x2), (3, .ref ho)] := hl
  refine lv_aload_n hx hb dL_addObstacle_0 rfl (lv_at hl 3 rfl) ?_
  refine lv_iconst (v := 0) hx hb dL_addObstacle_1 (by decide) ?_
  refine lv_aload_n hx hb dL_addObstacle_2 rfl (lv_at hl 0 rfl) ?_
  refine lv_iload_n hx hb dL_addObstacle_3 rfl (lv_at hl 1 rfl) ?_
  refine lv_iload_n hx hb dL_addObstacle_4 rfl (lv_at hl 2 rfl) ?_
  refine q_wI hF hl.1 hK hA hZ hW mv_X7_addObstacle ml_L_26 hC (q := (RX7, TX7, 13)) rfl he rfl ha ⟨Nat.le_of_ble_eq_true rfl, Nat.le_of_ble_eq_true rfl⟩ ⟨Nat.le_of_ble_eq_true rfl, Nat.le_of_ble_eq_true rfl⟩ rfl rfl (Nat.le_of_ble_eq_true rfl) dL_addObstacle_5 (fun hk0 ce q9 H locs hW hce hcv hcl => ?_) (fun hk0 H locs hW => ?_)
  · rcases hk with rfl | rfl | rfl | rfl
    · exact absurd rfl hk0
    · refine q_catch hF hZ htab [] ⟨0, 10, 13, 24⟩ [⟨0, 10, 17, 13⟩, ⟨0, 10, 21, 15⟩] rfl pass_nil (by decide) (by decide) cl_24 ca_3 hce hcv hcl ?_
      refine lv_astore (lv' := [(4, .ref q9), (0, .ref h_), (1, .int x1), (2, .int x2), (3, .ref ho)]) hx hb dL_addObstacle_13 hl (by decide) rfl (fun ls hl => ?_)
      refine lv_iconst (v := 1) hx hb dL_addObstacle_15 (by decide) ?_
      exact hret dL_addObstacle_16 rfl (Nat.le_of_ble_eq_true rfl) (Nat.le_of_ble_eq_true rfl) hW
    · refine q_catch hF hZ htab [⟨0, 10, 13, 24⟩] ⟨0, 10, 17, 13⟩ [⟨0, 10, 21, 15⟩] rfl (pass_cons (by decide) (hF.2.2.2.2 _ cl_24) (hN 1 3 (by decide) (by decide) (by decide)) pass_nil) (by decide) (by decide) cl_13 ca_1 hce hcv hcl ?_
      refine lv_astore (lv' := [(4, .ref q9), (0, .ref h_), (1, .int x1), (2, .int x2), (3, .ref ho)]) hx hb dL_addObstacle_17 hl (by decide) rfl (fun ls hl => ?_)
      refine lv_iconst (v := 2) hx hb dL_addObstacle_19 (by decide) ?_
      exact hret dL_addObstacle_20 rfl (Nat.le_of_ble_eq_true rfl) (Nat.le_of_ble_eq_true rfl) hW
    · refine q_catch hF hZ htab [⟨0, 10, 13, 24⟩, ⟨0, 10, 17, 13⟩] ⟨0, 10, 21, 15⟩ [] rfl (pass_cons (by decide) (hF.2.2.2.2 _ cl_24) (hN 2 3 (by decide) (by decide) (by decide)) (pass_cons (by decide) (hF.2.2.2.2 _ cl_13) (hN 2 1 (by decide) (by decide) (by decide)) pass_nil)) (by decide) (by decide) cl_15 ca_2 hce hcv hcl ?_
      refine lv_astore (lv' := [(4, .ref q9), (0, .ref h_), (1, .int x1), (2, .int x2), (3, .ref ho)]) hx hb dL_addObstacle_21 hl (by decide) rfl (fun ls hl => ?_)
      refine lv_iconst (v := 3) hx hb dL_addObstacle_23 (by decide) ?_
      exact hret dL_addObstacle_24 rfl (Nat.le_of_ble_eq_true rfl) (Nat.le_of_ble_eq_true rfl) hW
  · subst hk0
    refine lv_i2l hx hb dL_addObstacle_8 rfl ?_
    refine q_lastE hF hK hW dL_addObstacle_9 (fun H locs hW => ?_)
    refine lv_goto (tgt := 25) hx hb dL_addObstacle_10 (by decide) ?_
    refine lv_iconst (v := 0) hx hb dL_addObstacle_25 (by decide) ?_
    exact hret dL_addObstacle_26 rfl (Nat.le_of_ble_eq_true rfl) (Nat.le_of_ble_eq_true rfl) hW
def hh_removeObstacle : List (Nat × Nat × Nat × Nat) := [(0, 10, 13, 24), (0, 10, 17, 33)]
theorem mw_removeObstacle : Cond.codeWith yL_removeObstacle cL_removeObstacle 5 (some .int) hh_removeObstacle ∈ WG := WG_of (tb_3 _ (List.mem_of_getElem? (i := 132) rfl)) rfl
set_option maxHeartbeats 4000000 in
set_option maxRecDepth 100000 in
theorem v_removeObstacle (l : Launch) (D : va_G) (E : Nat → ClassId) (h_ ho : Nat) (x1 x2 : Int32) (wc wc' : va_W) (k : Nat) (rv : Int32) (f : Nat → Int64) {fs : List Value} (hC : XI l yX7_removeObstacle cX7_removeObstacle 3 (some .int) 7 127 2 12 D E TXL [.ref h_, .int x1, .int x2] wc wc' k rv) (he : wc[0]? = some (h_, .inr (9, fs))) (ha : wc'.map (·.1) = wc.map (·.1)) (hk : k = 0 ∨ k = 3 ∨ k = 4) : LW l yL_removeObstacle cL_removeObstacle 5 hh_removeObstacle 8 149 2 12 D E TXL [.ref h_, .int x1, .int x2, .ref ho] (wc ++ [(ho, .inl (E 4, 1, .inr (.inl f)))]) (wc' ++ [(ho, .inl (E 4, 1, .inr (.inl (if k = 0 then vp_updL f 0 rv.toInt64 else f))))]) (if k = 3 then 1 else (if k = 4 then 2 else 0)) := by
  refine LW_of pn_L rfl (Nat.le_of_ble_eq_true rfl) (fun p e s m args below meth c A Q hF htab hK hA hZ hN hW hret ls hl => ?_)
  have hx := hF.1
  have hb := hF.2.1
  have hl : lv_has ls 5 [(0, .ref h_), (1, .int x1), (2, .int x2), (3, .ref ho)] := hl
  refine lv_aload_n hx hb dL_removeObstacle_0 rfl (lv_at hl 3 rfl) ?_
  refine lv_iconst (v := 0) hx hb dL_removeObstacle_1 (by decide) ?_
  refine lv_aload_n hx hb dL_removeObstacle_2 rfl (lv_at hl 0 rfl) ?_
  refine lv_iload_n hx hb dL_removeObstacle_3 rfl (lv_at hl 1 rfl) ?_
  refine lv_iload_n hx hb dL_removeObstacle_4 rfl (lv_at hl 2 rfl) ?_
  refine q_wI hF hl.1 hK hA hZ hW mv_X7_removeObstacle ml_L_30 hC (q := (RX7, TX7, 13)) rfl he rfl ha ⟨Nat.le_of_ble_eq_true rfl, Nat.le_of_ble_eq_true rfl⟩ ⟨Nat.le_of_ble_eq_true rfl, Nat.le_of_ble_eq_true rfl⟩ rfl rfl (Nat.le_of_ble_eq_true rfl) dL_removeObstacle_5 (fun hk0 ce q9 H locs hW hce hcv hcl => ?_) (fun hk0 H locs hW => ?_)
  · rcases hk with rfl | rfl | rfl
    · exact absurd rfl hk0
    · refine q_catch hF hZ htab [] ⟨0, 10, 13, 24⟩ [⟨0, 10, 17, 33⟩] rfl pass_nil (by decide) (by decide) cl_24 ca_3 hce hcv hcl ?_
      refine lv_astore (lv' := [(4, .ref q9), (0, .ref h_), (1, .int x1), (2, .int x2), (3, .ref ho)]) hx hb dL_removeObstacle_13 hl (by decide) rfl (fun ls hl => ?_)
      refine lv_iconst (v := 1) hx hb dL_removeObstacle_15 (by decide) ?_
      exact hret dL_removeObstacle_16 rfl (Nat.le_of_ble_eq_true rfl) (Nat.le_of_ble_eq_true rfl) hW
    · refine q_catch hF hZ htab [⟨0, 10, 13, 24⟩] ⟨0, 10, 17, 33⟩ [] rfl (pass_cons (by decide) (hF.2.2.2.2 _ cl_24) (hN 4 3 (by decide) (by decide) (by decide)) pass_nil) (by decide) (by decide) cl_33 ca_4 hce hcv hcl ?_
      refine lv_astore (lv' := [(4, .ref q9), (0, .ref h_), (1, .int x1), (2, .int x2), (3, .ref ho)]) hx hb dL_removeObstacle_17 hl (by decide) rfl (fun ls hl => ?_)
      refine lv_iconst (v := 2) hx hb dL_removeObstacle_19 (by decide) ?_
      exact hret dL_removeObstacle_20 rfl (Nat.le_of_ble_eq_true rfl) (Nat.le_of_ble_eq_true rfl) hW
  · subst hk0
    refine lv_i2l hx hb dL_removeObstacle_8 rfl ?_
    refine q_lastE hF hK hW dL_removeObstacle_9 (fun H locs hW => ?_)
    refine lv_goto (tgt := 21) hx hb dL_removeObstacle_10 (by decide) ?_
    refine lv_iconst (v := 0) hx hb dL_removeObstacle_21 (by decide) ?_
    exact hret dL_removeObstacle_22 rfl (Nat.le_of_ble_eq_true rfl) (Nat.le_of_ble_eq_true rfl) hW
def hh_count : List (Nat × Nat × Nat × Nat) := [(0, 9, 12, 13)]
theorem mw_count : Cond.codeWith yL_count cL_count 4 (some .int) hh_count ∈ WG := WG_of (tb_3 _ (List.mem_of_getElem? (i := 160) rfl)) rfl
set_option maxHeartbeats 4000000 in
set_option maxRecDepth 100000 in
theorem v_count (l : Launch) (D : va_G) (E : Nat → ClassId) (h_ ho : Nat) (x1 : Int32) (wc wc' : va_W) (k : Nat) (rv : Int32) (f : Nat → Int64) {fs : List Value} (hC : XI l yX7_count cX7_count 2 (some .int) 6 107 1 6 D E TXL [.ref h_, .int x1] wc wc' k rv) (he : wc[0]? = some (h_, .inr (9, fs))) (ha : wc'.map (·.1) = wc.map (·.1)) (hk : k = 0 ∨ k = 1) : LW l yL_count cL_count 4 hh_count 7 128 1 6 D E TXL [.ref h_, .int x1, .ref ho] (wc ++ [(ho, .inl (E 4, 1, .inr (.inl f)))]) (wc' ++ [(ho, .inl (E 4, 1, .inr (.inl (if k = 0 then vp_updL f 0 rv.toInt64 else f))))]) (if k = 1 then 1 else 0) := by
  refine LW_of pn_L rfl (Nat.le_of_ble_eq_true rfl) (fun p e s m args below meth c A Q hF htab hK hA hZ hN hW hret ls hl => ?_)
  have hx := hF.1
  have hb := hF.2.1
  have hl : lv_has ls 4 [(0, .ref h_), (1, .int x1), (2, .ref ho)] := hl
  refine lv_aload_n hx hb dL_count_0 rfl (lv_at hl 2 rfl) ?_
  refine lv_iconst (v := 0) hx hb dL_count_1 (by decide) ?_
  refine lv_aload_n hx hb dL_count_2 rfl (lv_at hl 0 rfl) ?_
  refine lv_iload_n hx hb dL_count_3 rfl (lv_at hl 1 rfl) ?_
  refine q_wI hF hl.1 hK hA hZ hW mv_X7_count ml_L_35 hC (q := (RX7, TX7, 13)) rfl he rfl ha ⟨Nat.le_of_ble_eq_true rfl, Nat.le_of_ble_eq_true rfl⟩ ⟨Nat.le_of_ble_eq_true rfl, Nat.le_of_ble_eq_true rfl⟩ rfl rfl (Nat.le_of_ble_eq_true rfl) dL_count_4 (fun hk0 ce q9 H locs hW hce hcv hcl => ?_) (fun hk0 H locs hW => ?_)
  · rcases hk with rfl | rfl
    · exact absurd rfl hk0
    · refine q_catch hF hZ htab [] ⟨0, 9, 12, 13⟩ [] rfl pass_nil (by decide) (by decide) cl_13 ca_1 hce hcv hcl ?_
      refine lv_astore_n (lv' := [(3, .ref q9), (0, .ref h_), (1, .int x1), (2, .ref ho)]) hx hb dL_count_12 rfl hl (by decide) rfl (fun ls hl => ?_)
      refine lv_iconst (v := 1) hx hb dL_count_13 (by decide) ?_
      exact hret dL_count_14 rfl (Nat.le_of_ble_eq_true rfl) (Nat.le_of_ble_eq_true rfl) hW
  · subst hk0
    refine lv_i2l hx hb dL_count_7 rfl ?_
    refine q_lastE hF hK hW dL_count_8 (fun H locs hW => ?_)
    refine lv_goto (tgt := 15) hx hb dL_count_9 (by decide) ?_
    refine lv_iconst (v := 0) hx hb dL_count_15 (by decide) ?_
    exact hret dL_count_16 rfl (Nat.le_of_ble_eq_true rfl) (Nat.le_of_ble_eq_true rfl) hW
def hh_joint : List (Nat × Nat × Nat × Nat) := [(0, 10, 13, 24), (0, 10, 17, 13)]
theorem mw_joint : Cond.codeWith yL_joint cL_joint 5 (some .int) hh_joint ∈ WG := WG_of (tb_3 _ (List.mem_of_getElem? (i := 176) rfl)) rfl
set_option maxHeartbeats 4000000 in
set_option maxRecDepth 100000 in
theorem v_joint (l : Launch) (D : va_G) (E : Nat → ClassId) (h_ ho : Nat) (x1 x2 : Int32) (wc wc' : va_W) (k : Nat) (rv : Int32) (f : Nat → Int64) {fs : List Value} (hC : XI l yX7_joint cX7_joint 3 (some .int) 6 96 1 6 D E TXL [.ref h_, .int x1, .int x2] wc wc' k rv) (he : wc[0]? = some (h_, .inr (9, fs))) (ha : wc'.map (·.1) = wc.map (·.1)) (hk : k = 0 ∨ k = 3 ∨ k = 1) : LW l yL_joint cL_joint 5 hh_joint 7 118 1 6 D E TXL [.ref h_, .int x1, .int x2, .ref ho] (wc ++ [(ho, .inl (E 4, 1, .inr (.inl f)))]) (wc' ++ [(ho, .inl (E 4, 1, .inr (.inl (if k = 0 then vp_updL f 0 rv.toInt64 else f))))]) (if k = 3 then 1 else (if k = 1 then 2 else 0)) := by
  refine LW_of pn_L rfl (Nat.le_of_ble_eq_true rfl) (fun p e s m args below meth c A Q hF htab hK hA hZ hN hW hret ls hl => ?_)
  have hx := hF.1
  have hb := hF.2.1
  have hl : lv_has ls 5 [(0, .ref h_), (1, .int x1), (2, .int x2), (3, .ref ho)] := hl
  refine lv_aload_n hx hb dL_joint_0 rfl (lv_at hl 3 rfl) ?_
  refine lv_iconst (v := 0) hx hb dL_joint_1 (by decide) ?_
  refine lv_aload_n hx hb dL_joint_2 rfl (lv_at hl 0 rfl) ?_
  refine lv_iload_n hx hb dL_joint_3 rfl (lv_at hl 1 rfl) ?_
  refine lv_iload_n hx hb dL_joint_4 rfl (lv_at hl 2 rfl) ?_
  refine q_wI hF hl.1 hK hA hZ hW mv_X7_joint ml_L_39 hC (q := (RX7, TX7, 13)) rfl he rfl ha ⟨Nat.le_of_ble_eq_true rfl, Nat.le_of_ble_eq_true rfl⟩ ⟨Nat.le_of_ble_eq_true rfl, Nat.le_of_ble_eq_true rfl⟩ rfl rfl (Nat.le_of_ble_eq_true rfl) dL_joint_5 (fun hk0 ce q9 H locs hW hce hcv hcl => ?_) (fun hk0 H locs hW => ?_)
  · rcases hk with rfl | rfl | rfl
    · exact absurd rfl hk0
    · refine q_catch hF hZ htab [] ⟨0, 10, 13, 24⟩ [⟨0, 10, 17, 13⟩] rfl pass_nil (by decide) (by decide) cl_24 ca_3 hce hcv hcl ?_
      refine lv_astore (lv' := [(4, .ref q9), (0, .ref h_), (1, .int x1), (2, .int x2), (3, .ref ho)]) hx hb dL_joint_13 hl (by decide) rfl (fun ls hl => ?_)
      refine lv_iconst (v := 1) hx hb dL_joint_15 (by decide) ?_
      exact hret dL_joint_16 rfl (Nat.le_of_ble_eq_true rfl) (Nat.le_of_ble_eq_true rfl) hW
    · refine q_catch hF hZ htab [⟨0, 10, 13, 24⟩] ⟨0, 10, 17, 13⟩ [] rfl (pass_cons (by decide) (hF.2.2.2.2 _ cl_24) (hN 1 3 (by decide) (by decide) (by decide)) pass_nil) (by decide) (by decide) cl_13 ca_1 hce hcv hcl ?_
      refine lv_astore (lv' := [(4, .ref q9), (0, .ref h_), (1, .int x1), (2, .int x2), (3, .ref ho)]) hx hb dL_joint_17 hl (by decide) rfl (fun ls hl => ?_)
      refine lv_iconst (v := 2) hx hb dL_joint_19 (by decide) ?_
      exact hret dL_joint_20 rfl (Nat.le_of_ble_eq_true rfl) (Nat.le_of_ble_eq_true rfl) hW
  · subst hk0
    refine lv_i2l hx hb dL_joint_8 rfl ?_
    refine q_lastE hF hK hW dL_joint_9 (fun H locs hW => ?_)
    refine lv_goto (tgt := 21) hx hb dL_joint_10 (by decide) ?_
    refine lv_iconst (v := 0) hx hb dL_joint_21 (by decide) ?_
    exact hret dL_joint_22 rfl (Nat.le_of_ble_eq_true rfl) (Nat.le_of_ble_eq_true rfl) hW
def hh_isObstacle : List (Nat × Nat × Nat × Nat) := [(0, 17, 20, 24)]
theorem mw_isObstacle : Cond.codeWith yL_isObstacle cL_isObstacle 5 (some .int) hh_isObstacle ∈ WG := WG_of (tb_3 _ (List.mem_of_getElem? (i := 187) rfl)) rfl
set_option maxHeartbeats 4000000 in
set_option maxRecDepth 100000 in
theorem v_isObstacle (l : Launch) (D : va_G) (E : Nat → ClassId) (h_ ho : Nat) (x1 x2 : Int32) (wc wc' : va_W) (k : Nat) (rv : Int32) (f : Nat → Int64) {fs : List Value} (hC : XI l yX7_isObstacle cX7_isObstacle 3 (some .boolean) 7 117 1 6 D E TXL [.ref h_, .int x1, .int x2] wc wc' k rv) (he : wc[0]? = some (h_, .inr (9, fs))) (ha : wc'.map (·.1) = wc.map (·.1)) (hk : k = 0 ∨ k = 3) : LW l yL_isObstacle cL_isObstacle 5 hh_isObstacle 8 139 1 6 D E TXL [.ref h_, .int x1, .int x2, .ref ho] (wc ++ [(ho, .inl (E 4, 1, .inr (.inl f)))]) (wc' ++ [(ho, .inl (E 4, 1, .inr (.inl (if k = 0 then vp_updL f 0 (if rv = 0 then 0 else 1) else f))))]) (if k = 3 then 1 else 0) := by
  refine LW_of pn_L rfl (Nat.le_of_ble_eq_true rfl) (fun p e s m args below meth c A Q hF htab hK hA hZ hN hW hret ls hl => ?_)
  have hx := hF.1
  have hb := hF.2.1
  have hl : lv_has ls 5 [(0, .ref h_), (1, .int x1), (2, .int x2), (3, .ref ho)] := hl
  refine lv_aload_n hx hb dL_isObstacle_0 rfl (lv_at hl 3 rfl) ?_
  refine lv_iconst (v := 0) hx hb dL_isObstacle_1 (by decide) ?_
  refine lv_aload_n hx hb dL_isObstacle_2 rfl (lv_at hl 0 rfl) ?_
  refine lv_iload_n hx hb dL_isObstacle_3 rfl (lv_at hl 1 rfl) ?_
  refine lv_iload_n hx hb dL_isObstacle_4 rfl (lv_at hl 2 rfl) ?_
  refine q_wI hF hl.1 hK hA hZ hW mv_X7_isObstacle ml_L_42 hC (q := (RX7, TX7, 13)) rfl he rfl ha ⟨Nat.le_of_ble_eq_true rfl, Nat.le_of_ble_eq_true rfl⟩ ⟨Nat.le_of_ble_eq_true rfl, Nat.le_of_ble_eq_true rfl⟩ rfl rfl (Nat.le_of_ble_eq_true rfl) dL_isObstacle_5 (fun hk0 ce q9 H locs hW hce hcv hcl => ?_) (fun hk0 H locs hW => ?_)
  · rcases hk with rfl | rfl
    · exact absurd rfl hk0
    · refine q_catch hF hZ htab [] ⟨0, 17, 20, 24⟩ [] rfl pass_nil (by decide) (by decide) cl_24 ca_3 hce hcv hcl ?_
      refine lv_astore (lv' := [(4, .ref q9), (0, .ref h_), (1, .int x1), (2, .int x2), (3, .ref ho)]) hx hb dL_isObstacle_20 hl (by decide) rfl (fun ls hl => ?_)
      refine lv_iconst (v := 1) hx hb dL_isObstacle_22 (by decide) ?_
      exact hret dL_isObstacle_23 rfl (Nat.le_of_ble_eq_true rfl) (Nat.le_of_ble_eq_true rfl) hW
  · subst hk0
    refine lv_if_eq (tgt := 15) hx hb dL_isObstacle_8 (by decide) (fun hz => ?_) (fun hz => ?_)
    · rw [if_pos hz] at hret
      refine lv_lconst (v := 0) hx hb dL_isObstacle_15 (by decide) ?_
      refine q_lastE hF hK hW dL_isObstacle_16 (fun H locs hW => ?_)
      refine lv_goto (tgt := 24) hx hb dL_isObstacle_17 (by decide) ?_
      refine lv_iconst (v := 0) hx hb dL_isObstacle_24 (by decide) ?_
      exact hret dL_isObstacle_25 rfl (Nat.le_of_ble_eq_true rfl) (Nat.le_of_ble_eq_true rfl) hW
    · rw [if_neg hz] at hret
      refine lv_lconst (v := 1) hx hb dL_isObstacle_11 (by decide) ?_
      refine lv_goto (tgt := 16) hx hb dL_isObstacle_12 (by decide) ?_
      refine q_lastE hF hK hW dL_isObstacle_16 (fun H locs hW => ?_)
      refine lv_goto (tgt := 24) hx hb dL_isObstacle_17 (by decide) ?_
      refine lv_iconst (v := 0) hx hb dL_isObstacle_24 (by decide) ?_
      exact hret dL_isObstacle_25 rfl (Nat.le_of_ble_eq_true rfl) (Nat.le_of_ble_eq_true rfl) hW
def hh_obstacle : List (Nat × Nat × Nat × Nat) := [(0, 10, 13, 24)]
theorem mw_obstacle : Cond.codeWith yL_obstacle cL_obstacle 5 (some .int) hh_obstacle ∈ WG := WG_of (tb_3 _ (List.mem_of_getElem? (i := 194) rfl)) rfl
set_option maxHeartbeats 4000000 in
set_option maxRecDepth 100000 in
theorem v_obstacle (l : Launch) (D : va_G) (E : Nat → ClassId) (h_ ho : Nat) (x1 x2 : Int32) (wc wc' : va_W) (k : Nat) (rv : Int32) (f : Nat → Int64) {fs : List Value} (hC : XI l yX7_obstacle cX7_obstacle 3 (some .int) 6 96 1 6 D E TXL [.ref h_, .int x1, .int x2] wc wc' k rv) (he : wc[0]? = some (h_, .inr (9, fs))) (ha : wc'.map (·.1) = wc.map (·.1)) (hk : k = 0 ∨ k = 3) : LW l yL_obstacle cL_obstacle 5 hh_obstacle 7 118 1 6 D E TXL [.ref h_, .int x1, .int x2, .ref ho] (wc ++ [(ho, .inl (E 4, 1, .inr (.inl f)))]) (wc' ++ [(ho, .inl (E 4, 1, .inr (.inl (if k = 0 then vp_updL f 0 rv.toInt64 else f))))]) (if k = 3 then 1 else 0) := by
  refine LW_of pn_L rfl (Nat.le_of_ble_eq_true rfl) (fun p e s m args below meth c A Q hF htab hK hA hZ hN hW hret ls hl => ?_)
  have hx := hF.1
  have hb := hF.2.1
  have hl : lv_has ls 5 [(0, .ref h_), (1, .int x1), (2, .int x2), (3, .ref ho)] := hl
  refine lv_aload_n hx hb dL_obstacle_0 rfl (lv_at hl 3 rfl) ?_
  refine lv_iconst (v := 0) hx hb dL_obstacle_1 (by decide) ?_
  refine lv_aload_n hx hb dL_obstacle_2 rfl (lv_at hl 0 rfl) ?_
  refine lv_iload_n hx hb dL_obstacle_3 rfl (lv_at hl 1 rfl) ?_
  refine lv_iload_n hx hb dL_obstacle_4 rfl (lv_at hl 2 rfl) ?_
  refine q_wI hF hl.1 hK hA hZ hW mv_X7_obstacle ml_L_46 hC (q := (RX7, TX7, 13)) rfl he rfl ha ⟨Nat.le_of_ble_eq_true rfl, Nat.le_of_ble_eq_true rfl⟩ ⟨Nat.le_of_ble_eq_true rfl, Nat.le_of_ble_eq_true rfl⟩ rfl rfl (Nat.le_of_ble_eq_true rfl) dL_obstacle_5 (fun hk0 ce q9 H locs hW hce hcv hcl => ?_) (fun hk0 H locs hW => ?_)
  · rcases hk with rfl | rfl
    · exact absurd rfl hk0
    · refine q_catch hF hZ htab [] ⟨0, 10, 13, 24⟩ [] rfl pass_nil (by decide) (by decide) cl_24 ca_3 hce hcv hcl ?_
      refine lv_astore (lv' := [(4, .ref q9), (0, .ref h_), (1, .int x1), (2, .int x2), (3, .ref ho)]) hx hb dL_obstacle_13 hl (by decide) rfl (fun ls hl => ?_)
      refine lv_iconst (v := 1) hx hb dL_obstacle_15 (by decide) ?_
      exact hret dL_obstacle_16 rfl (Nat.le_of_ble_eq_true rfl) (Nat.le_of_ble_eq_true rfl) hW
  · subst hk0
    refine lv_i2l hx hb dL_obstacle_8 rfl ?_
    refine q_lastE hF hK hW dL_obstacle_9 (fun H locs hW => ?_)
    refine lv_goto (tgt := 17) hx hb dL_obstacle_10 (by decide) ?_
    refine lv_iconst (v := 0) hx hb dL_obstacle_17 (by decide) ?_
    exact hret dL_obstacle_18 rfl (Nat.le_of_ble_eq_true rfl) (Nat.le_of_ble_eq_true rfl) hW
def hh_setValue : List (Nat × Nat × Nat × Nat) := [(0, 10, 13, 24), (0, 10, 17, 13)]
theorem mw_setValue : Cond.codeWith yL_setValue cL_setValue 5 (some .int) hh_setValue ∈ WG := WG_of (tb_3 _ (List.mem_of_getElem? (i := 202) rfl)) rfl
set_option maxHeartbeats 4000000 in
set_option maxRecDepth 100000 in
theorem v_setValue (l : Launch) (D : va_G) (E : Nat → ClassId) (h_ ho : Nat) (x1 x2 : Int32) (wc wc' : va_W) (k : Nat) (rv : Int32) (f : Nat → Int64) {fs : List Value} (hC : XI l yX7_setValue cX7_setValue 4 (some .int) 6 127 1 6 D E TXL [.ref h_, .int x1, .int x2] wc wc' k rv) (he : wc[0]? = some (h_, .inr (9, fs))) (ha : wc'.map (·.1) = wc.map (·.1)) (hk : k = 0 ∨ k = 3 ∨ k = 1) : LW l yL_setValue cL_setValue 5 hh_setValue 7 150 1 6 D E TXL [.ref h_, .int x1, .int x2, .ref ho] (wc ++ [(ho, .inl (E 4, 1, .inr (.inl f)))]) (wc' ++ [(ho, .inl (E 4, 1, .inr (.inl (if k = 0 then vp_updL f 0 rv.toInt64 else f))))]) (if k = 3 then 1 else (if k = 1 then 2 else 0)) := by
  refine LW_of pn_L rfl (Nat.le_of_ble_eq_true rfl) (fun p e s m args below meth c A Q hF htab hK hA hZ hN hW hret ls hl => ?_)
  have hx := hF.1
  have hb := hF.2.1
  have hl : lv_has ls 5 [(0, .ref h_), (1, .int x1), (2, .int x2), (3, .ref ho)] := hl
  refine lv_aload_n hx hb dL_setValue_0 rfl (lv_at hl 3 rfl) ?_
  refine lv_iconst (v := 0) hx hb dL_setValue_1 (by decide) ?_
  refine lv_aload_n hx hb dL_setValue_2 rfl (lv_at hl 0 rfl) ?_
  refine lv_iload_n hx hb dL_setValue_3 rfl (lv_at hl 1 rfl) ?_
  refine lv_iload_n hx hb dL_setValue_4 rfl (lv_at hl 2 rfl) ?_
  refine q_wI hF hl.1 hK hA hZ hW mv_X7_setValue ml_L_50 hC (q := (RX7, TX7, 13)) rfl he rfl ha ⟨Nat.le_of_ble_eq_true rfl, Nat.le_of_ble_eq_true rfl⟩ ⟨Nat.le_of_ble_eq_true rfl, Nat.le_of_ble_eq_true rfl⟩ rfl rfl (Nat.le_of_ble_eq_true rfl) dL_setValue_5 (fun hk0 ce q9 H locs hW hce hcv hcl => ?_) (fun hk0 H locs hW => ?_)
  · rcases hk with rfl | rfl | rfl
    · exact absurd rfl hk0
    · refine q_catch hF hZ htab [] ⟨0, 10, 13, 24⟩ [⟨0, 10, 17, 13⟩] rfl pass_nil (by decide) (by decide) cl_24 ca_3 hce hcv hcl ?_
      refine lv_astore (lv' := [(4, .ref q9), (0, .ref h_), (1, .int x1), (2, .int x2), (3, .ref ho)]) hx hb dL_setValue_13 hl (by decide) rfl (fun ls hl => ?_)
      refine lv_iconst (v := 1) hx hb dL_setValue_15 (by decide) ?_
      exact hret dL_setValue_16 rfl (Nat.le_of_ble_eq_true rfl) (Nat.le_of_ble_eq_true rfl) hW
    · refine q_catch hF hZ htab [⟨0, 10, 13, 24⟩] ⟨0, 10, 17, 13⟩ [] rfl (pass_cons (by decide) (hF.2.2.2.2 _ cl_24) (hN 1 3 (by decide) (by decide) (by decide)) pass_nil) (by decide) (by decide) cl_13 ca_1 hce hcv hcl ?_
      refine lv_astore (lv' := [(4, .ref q9), (0, .ref h_), (1, .int x1), (2, .int x2), (3, .ref ho)]) hx hb dL_setValue_17 hl (by decide) rfl (fun ls hl => ?_)
      refine lv_iconst (v := 2) hx hb dL_setValue_19 (by decide) ?_
      exact hret dL_setValue_20 rfl (Nat.le_of_ble_eq_true rfl) (Nat.le_of_ble_eq_true rfl) hW
  · subst hk0
    refine lv_i2l hx hb dL_setValue_8 rfl ?_
    refine q_lastE hF hK hW dL_setValue_9 (fun H locs hW => ?_)
    refine lv_goto (tgt := 21) hx hb dL_setValue_10 (by decide) ?_
    refine lv_iconst (v := 0) hx hb dL_setValue_21 (by decide) ?_
    exact hret dL_setValue_22 rfl (Nat.le_of_ble_eq_true rfl) (Nat.le_of_ble_eq_true rfl) hW
def hh_move : List (Nat × Nat × Nat × Nat) := [(0, 9, 12, 13), (0, 9, 15, 15)]
theorem mw_move : Cond.codeWith yL_move cL_move 4 (some .int) hh_move ∈ WG := WG_of (tb_3 _ (List.mem_of_getElem? (i := 218) rfl)) rfl
set_option maxHeartbeats 4000000 in
set_option maxRecDepth 100000 in
theorem v_move (l : Launch) (D : va_G) (E : Nat → ClassId) (h_ ho : Nat) (x1 : Int32) (wc wc' : va_W) (k : Nat) (rv : Int32) (f : Nat → Int64) {fs : List Value} (hC : XI l yX7_move cX7_move 2 (some .int) 6 127 1 6 D E TXL [.ref h_, .int x1] wc wc' k rv) (he : wc[0]? = some (h_, .inr (9, fs))) (ha : wc'.map (·.1) = wc.map (·.1)) (hk : k = 0 ∨ k = 1 ∨ k = 2) : LW l yL_move cL_move 4 hh_move 7 148 1 6 D E TXL [.ref h_, .int x1, .ref ho] (wc ++ [(ho, .inl (E 4, 1, .inr (.inl f)))]) (wc' ++ [(ho, .inl (E 4, 1, .inr (.inl (if k = 0 then vp_updL f 0 rv.toInt64 else f))))]) (if k = 1 then 1 else (if k = 2 then 2 else 0)) := by
  refine LW_of pn_L rfl (Nat.le_of_ble_eq_true rfl) (fun p e s m args below meth c A Q hF htab hK hA hZ hN hW hret ls hl => ?_)
  have hx := hF.1
  have hb := hF.2.1
  have hl : lv_has ls 4 [(0, .ref h_), (1, .int x1), (2, .ref ho)] := hl
  refine lv_aload_n hx hb dL_move_0 rfl (lv_at hl 2 rfl) ?_
  refine lv_iconst (v := 0) hx hb dL_move_1 (by decide) ?_
  refine lv_aload_n hx hb dL_move_2 rfl (lv_at hl 0 rfl) ?_
  refine lv_iload_n hx hb dL_move_3 rfl (lv_at hl 1 rfl) ?_
  refine q_wI hF hl.1 hK hA hZ hW mv_X7_move ml_L_53 hC (q := (RX7, TX7, 13)) rfl he rfl ha ⟨Nat.le_of_ble_eq_true rfl, Nat.le_of_ble_eq_true rfl⟩ ⟨Nat.le_of_ble_eq_true rfl, Nat.le_of_ble_eq_true rfl⟩ rfl rfl (Nat.le_of_ble_eq_true rfl) dL_move_4 (fun hk0 ce q9 H locs hW hce hcv hcl => ?_) (fun hk0 H locs hW => ?_)
  · rcases hk with rfl | rfl | rfl
    · exact absurd rfl hk0
    · refine q_catch hF hZ htab [] ⟨0, 9, 12, 13⟩ [⟨0, 9, 15, 15⟩] rfl pass_nil (by decide) (by decide) cl_13 ca_1 hce hcv hcl ?_
      refine lv_astore_n (lv' := [(3, .ref q9), (0, .ref h_), (1, .int x1), (2, .ref ho)]) hx hb dL_move_12 rfl hl (by decide) rfl (fun ls hl => ?_)
      refine lv_iconst (v := 1) hx hb dL_move_13 (by decide) ?_
      exact hret dL_move_14 rfl (Nat.le_of_ble_eq_true rfl) (Nat.le_of_ble_eq_true rfl) hW
    · refine q_catch hF hZ htab [⟨0, 9, 12, 13⟩] ⟨0, 9, 15, 15⟩ [] rfl (pass_cons (by decide) (hF.2.2.2.2 _ cl_13) (hN 2 1 (by decide) (by decide) (by decide)) pass_nil) (by decide) (by decide) cl_15 ca_2 hce hcv hcl ?_
      refine lv_astore_n (lv' := [(3, .ref q9), (0, .ref h_), (1, .int x1), (2, .ref ho)]) hx hb dL_move_15 rfl hl (by decide) rfl (fun ls hl => ?_)
      refine lv_iconst (v := 2) hx hb dL_move_16 (by decide) ?_
      exact hret dL_move_17 rfl (Nat.le_of_ble_eq_true rfl) (Nat.le_of_ble_eq_true rfl) hW
  · subst hk0
    refine lv_i2l hx hb dL_move_7 rfl ?_
    refine q_lastE hF hK hW dL_move_8 (fun H locs hW => ?_)
    refine lv_goto (tgt := 18) hx hb dL_move_9 (by decide) ?_
    refine lv_iconst (v := 0) hx hb dL_move_18 (by decide) ?_
    exact hret dL_move_19 rfl (Nat.le_of_ble_eq_true rfl) (Nat.le_of_ble_eq_true rfl) hW
def hh_faultyLink : List (Nat × Nat × Nat × Nat) := [(0, 8, 11, 33)]
theorem mw_faultyLink : Cond.codeWith yL_faultyLink cL_faultyLink 3 (some .int) hh_faultyLink ∈ WG := WG_of (tb_3 _ (List.mem_of_getElem? (i := 231) rfl)) rfl
set_option maxHeartbeats 4000000 in
set_option maxRecDepth 100000 in
theorem v_faultyLink (l : Launch) (D : va_G) (E : Nat → ClassId) (h_ ho : Nat) (wc wc' : va_W) (k : Nat) (rv : Int32) (f : Nat → Int64) {fs : List Value} (hC : XI l yX7_faultyLink cX7_faultyLink 1 (some .int) 6 96 1 6 D E TXL [.ref h_] wc wc' k rv) (he : wc[0]? = some (h_, .inr (9, fs))) (ha : wc'.map (·.1) = wc.map (·.1)) (hk : k = 0 ∨ k = 4) : LW l yL_faultyLink cL_faultyLink 3 hh_faultyLink 7 116 1 6 D E TXL [.ref h_, .ref ho] (wc ++ [(ho, .inl (E 4, 1, .inr (.inl f)))]) (wc' ++ [(ho, .inl (E 4, 1, .inr (.inl (if k = 0 then vp_updL f 0 rv.toInt64 else f))))]) (if k = 4 then 1 else 0) := by
  refine LW_of pn_L rfl (Nat.le_of_ble_eq_true rfl) (fun p e s m args below meth c A Q hF htab hK hA hZ hN hW hret ls hl => ?_)
  have hx := hF.1
  have hb := hF.2.1
  have hl : lv_has ls 3 [(0, .ref h_), (1, .ref ho)] := hl
  refine lv_aload_n hx hb dL_faultyLink_0 rfl (lv_at hl 1 rfl) ?_
  refine lv_iconst (v := 0) hx hb dL_faultyLink_1 (by decide) ?_
  refine lv_aload_n hx hb dL_faultyLink_2 rfl (lv_at hl 0 rfl) ?_
  refine q_wI hF hl.1 hK hA hZ hW mv_X7_faultyLink ml_L_56 hC (q := (RX7, TX7, 13)) rfl he rfl ha ⟨Nat.le_of_ble_eq_true rfl, Nat.le_of_ble_eq_true rfl⟩ ⟨Nat.le_of_ble_eq_true rfl, Nat.le_of_ble_eq_true rfl⟩ rfl rfl (Nat.le_of_ble_eq_true rfl) dL_faultyLink_3 (fun hk0 ce q9 H locs hW hce hcv hcl => ?_) (fun hk0 H locs hW => ?_)
  · rcases hk with rfl | rfl
    · exact absurd rfl hk0
    · refine q_catch hF hZ htab [] ⟨0, 8, 11, 33⟩ [] rfl pass_nil (by decide) (by decide) cl_33 ca_4 hce hcv hcl ?_
      refine lv_astore_n (lv' := [(2, .ref q9), (0, .ref h_), (1, .ref ho)]) hx hb dL_faultyLink_11 rfl hl (by decide) rfl (fun ls hl => ?_)
      refine lv_iconst (v := 1) hx hb dL_faultyLink_12 (by decide) ?_
      exact hret dL_faultyLink_13 rfl (Nat.le_of_ble_eq_true rfl) (Nat.le_of_ble_eq_true rfl) hW
  · subst hk0
    refine lv_i2l hx hb dL_faultyLink_6 rfl ?_
    refine q_lastE hF hK hW dL_faultyLink_7 (fun H locs hW => ?_)
    refine lv_goto (tgt := 14) hx hb dL_faultyLink_8 (by decide) ?_
    refine lv_iconst (v := 0) hx hb dL_faultyLink_14 (by decide) ?_
    exact hret dL_faultyLink_15 rfl (Nat.le_of_ble_eq_true rfl) (Nat.le_of_ble_eq_true rfl) hW
def hh_linksAt : List (Nat × Nat × Nat × Nat) := [(0, 10, 13, 24)]
theorem mw_linksAt : Cond.codeWith yL_linksAt cL_linksAt 5 (some .int) hh_linksAt ∈ WG := WG_of (tb_3 _ (List.mem_of_getElem? (i := 239) rfl)) rfl
set_option maxHeartbeats 4000000 in
set_option maxRecDepth 100000 in
theorem v_linksAt (l : Launch) (D : va_G) (E : Nat → ClassId) (h_ ho : Nat) (x1 x2 : Int32) (wc wc' : va_W) (k : Nat) (rv : Int32) (f : Nat → Int64) {fs : List Value} (hC : XI l yX7_linksAt cX7_linksAt 6 (some .int) 7 117 1 6 D E TXL [.ref h_, .int x1, .int x2] wc wc' k rv) (he : wc[0]? = some (h_, .inr (9, fs))) (ha : wc'.map (·.1) = wc.map (·.1)) (hk : k = 0 ∨ k = 3) : LW l yL_linksAt cL_linksAt 5 hh_linksAt 8 142 1 6 D E TXL [.ref h_, .int x1, .int x2, .ref ho] (wc ++ [(ho, .inl (E 4, 1, .inr (.inl f)))]) (wc' ++ [(ho, .inl (E 4, 1, .inr (.inl (if k = 0 then vp_updL f 0 rv.toInt64 else f))))]) (if k = 3 then 1 else 0) := by
  refine LW_of pn_L rfl (Nat.le_of_ble_eq_true rfl) (fun p e s m args below meth c A Q hF htab hK hA hZ hN hW hret ls hl => ?_)
  have hx := hF.1
  have hb := hF.2.1
  have hl : lv_has ls 5 [(0, .ref h_), (1, .int x1), (2, .int x2), (3, .ref ho)] := hl
  refine lv_aload_n hx hb dL_linksAt_0 rfl (lv_at hl 3 rfl) ?_
  refine lv_iconst (v := 0) hx hb dL_linksAt_1 (by decide) ?_
  refine lv_aload_n hx hb dL_linksAt_2 rfl (lv_at hl 0 rfl) ?_
  refine lv_iload_n hx hb dL_linksAt_3 rfl (lv_at hl 1 rfl) ?_
  refine lv_iload_n hx hb dL_linksAt_4 rfl (lv_at hl 2 rfl) ?_
  refine q_wI hF hl.1 hK hA hZ hW mv_X7_linksAt ml_L_59 hC (q := (RX7, TX7, 13)) rfl he rfl ha ⟨Nat.le_of_ble_eq_true rfl, Nat.le_of_ble_eq_true rfl⟩ ⟨Nat.le_of_ble_eq_true rfl, Nat.le_of_ble_eq_true rfl⟩ rfl rfl (Nat.le_of_ble_eq_true rfl) dL_linksAt_5 (fun hk0 ce q9 H locs hW hce hcv hcl => ?_) (fun hk0 H locs hW => ?_)
  · rcases hk with rfl | rfl
    · exact absurd rfl hk0
    · refine q_catch hF hZ htab [] ⟨0, 10, 13, 24⟩ [] rfl pass_nil (by decide) (by decide) cl_24 ca_3 hce hcv hcl ?_
      refine lv_astore (lv' := [(4, .ref q9), (0, .ref h_), (1, .int x1), (2, .int x2), (3, .ref ho)]) hx hb dL_linksAt_13 hl (by decide) rfl (fun ls hl => ?_)
      refine lv_iconst (v := 1) hx hb dL_linksAt_15 (by decide) ?_
      exact hret dL_linksAt_16 rfl (Nat.le_of_ble_eq_true rfl) (Nat.le_of_ble_eq_true rfl) hW
  · subst hk0
    refine lv_i2l hx hb dL_linksAt_8 rfl ?_
    refine q_lastE hF hK hW dL_linksAt_9 (fun H locs hW => ?_)
    refine lv_goto (tgt := 17) hx hb dL_linksAt_10 (by decide) ?_
    refine lv_iconst (v := 0) hx hb dL_linksAt_17 (by decide) ?_
    exact hret dL_linksAt_18 rfl (Nat.le_of_ble_eq_true rfl) (Nat.le_of_ble_eq_true rfl) hW
def hh_clearance : List (Nat × Nat × Nat × Nat) := [(0, 8, 11, 33)]
theorem mw_clearance : Cond.codeWith yL_clearance cL_clearance 3 (some .int) hh_clearance ∈ WG := WG_of (tb_4 _ (List.mem_of_getElem? (i := 14) rfl)) rfl
set_option maxHeartbeats 4000000 in
set_option maxRecDepth 100000 in
theorem v_clearance (l : Launch) (D : va_G) (E : Nat → ClassId) (h_ ho : Nat) (wc wc' : va_W) (k : Nat) (rv : Int32) (f : Nat → Int64) {fs : List Value} (hC : XI l yX7_clearance cX7_clearance 4 (some .int) 6 111 1 6 D E TXL [.ref h_] wc wc' k rv) (he : wc[0]? = some (h_, .inr (9, fs))) (ha : wc'.map (·.1) = wc.map (·.1)) (hk : k = 0 ∨ k = 4) : LW l yL_clearance cL_clearance 3 hh_clearance 7 134 1 6 D E TXL [.ref h_, .ref ho] (wc ++ [(ho, .inl (E 4, 1, .inr (.inl f)))]) (wc' ++ [(ho, .inl (E 4, 1, .inr (.inl (if k = 0 then vp_updL f 0 rv.toInt64 else f))))]) (if k = 4 then 1 else 0) := by
  refine LW_of pn_L rfl (Nat.le_of_ble_eq_true rfl) (fun p e s m args below meth c A Q hF htab hK hA hZ hN hW hret ls hl => ?_)
  have hx := hF.1
  have hb := hF.2.1
  have hl : lv_has ls 3 [(0, .ref h_), (1, .ref ho)] := hl
  refine lv_aload_n hx hb dL_clearance_0 rfl (lv_at hl 1 rfl) ?_
  refine lv_iconst (v := 0) hx hb dL_clearance_1 (by decide) ?_
  refine lv_aload_n hx hb dL_clearance_2 rfl (lv_at hl 0 rfl) ?_
  refine q_wI hF hl.1 hK hA hZ hW mv_X7_clearance ml_L_62 hC (q := (RX7, TX7, 13)) rfl he rfl ha ⟨Nat.le_of_ble_eq_true rfl, Nat.le_of_ble_eq_true rfl⟩ ⟨Nat.le_of_ble_eq_true rfl, Nat.le_of_ble_eq_true rfl⟩ rfl rfl (Nat.le_of_ble_eq_true rfl) dL_clearance_3 (fun hk0 ce q9 H locs hW hce hcv hcl => ?_) (fun hk0 H locs hW => ?_)
  · rcases hk with rfl | rfl
    · exact absurd rfl hk0
    · refine q_catch hF hZ htab [] ⟨0, 8, 11, 33⟩ [] rfl pass_nil (by decide) (by decide) cl_33 ca_4 hce hcv hcl ?_
      refine lv_astore_n (lv' := [(2, .ref q9), (0, .ref h_), (1, .ref ho)]) hx hb dL_clearance_11 rfl hl (by decide) rfl (fun ls hl => ?_)
      refine lv_iconst (v := 1) hx hb dL_clearance_12 (by decide) ?_
      exact hret dL_clearance_13 rfl (Nat.le_of_ble_eq_true rfl) (Nat.le_of_ble_eq_true rfl) hW
  · subst hk0
    refine lv_i2l hx hb dL_clearance_6 rfl ?_
    refine q_lastE hF hK hW dL_clearance_7 (fun H locs hW => ?_)
    refine lv_goto (tgt := 14) hx hb dL_clearance_8 (by decide) ?_
    refine lv_iconst (v := 0) hx hb dL_clearance_14 (by decide) ?_
    exact hret dL_clearance_15 rfl (Nat.le_of_ble_eq_true rfl) (Nat.le_of_ble_eq_true rfl) hW
def hh_freePoses : List (Nat × Nat × Nat × Nat) := [(0, 8, 11, 15)]
theorem mw_freePoses : Cond.codeWith yL_freePoses cL_freePoses 3 (some .int) hh_freePoses ∈ WG := WG_of (tb_4 _ (List.mem_of_getElem? (i := 35) rfl)) rfl
set_option maxHeartbeats 4000000 in
set_option maxRecDepth 100000 in
theorem v_freePoses (l : Launch) (D : va_G) (E : Nat → ClassId) (h_ ho : Nat) (wc wc' : va_W) (k : Nat) (rv : Int32) (f : Nat → Int64) {fs : List Value} (hC : XI l yX7_freePoses cX7_freePoses 3 (some .int) 7 153 1 6 D E TXL [.ref h_] wc wc' k rv) (he : wc[0]? = some (h_, .inr (9, fs))) (ha : wc'.map (·.1) = wc.map (·.1)) (hk : k = 0 ∨ k = 2) : LW l yL_freePoses cL_freePoses 3 hh_freePoses 8 175 1 6 D E TXL [.ref h_, .ref ho] (wc ++ [(ho, .inl (E 4, 1, .inr (.inl f)))]) (wc' ++ [(ho, .inl (E 4, 1, .inr (.inl (if k = 0 then vp_updL f 0 rv.toInt64 else f))))]) (if k = 2 then 1 else 0) := by
  refine LW_of pn_L rfl (Nat.le_of_ble_eq_true rfl) (fun p e s m args below meth c A Q hF htab hK hA hZ hN hW hret ls hl => ?_)
  have hx := hF.1
  have hb := hF.2.1
  have hl : lv_has ls 3 [(0, .ref h_), (1, .ref ho)] := hl
  refine lv_aload_n hx hb dL_freePoses_0 rfl (lv_at hl 1 rfl) ?_
  refine lv_iconst (v := 0) hx hb dL_freePoses_1 (by decide) ?_
  refine lv_aload_n hx hb dL_freePoses_2 rfl (lv_at hl 0 rfl) ?_
  refine q_wI hF hl.1 hK hA hZ hW mv_X7_freePoses ml_L_65 hC (q := (RX7, TX7, 13)) rfl he rfl ha ⟨Nat.le_of_ble_eq_true rfl, Nat.le_of_ble_eq_true rfl⟩ ⟨Nat.le_of_ble_eq_true rfl, Nat.le_of_ble_eq_true rfl⟩ rfl rfl (Nat.le_of_ble_eq_true rfl) dL_freePoses_3 (fun hk0 ce q9 H locs hW hce hcv hcl => ?_) (fun hk0 H locs hW => ?_)
  · rcases hk with rfl | rfl
    · exact absurd rfl hk0
    · refine q_catch hF hZ htab [] ⟨0, 8, 11, 15⟩ [] rfl pass_nil (by decide) (by decide) cl_15 ca_2 hce hcv hcl ?_
      refine lv_astore_n (lv' := [(2, .ref q9), (0, .ref h_), (1, .ref ho)]) hx hb dL_freePoses_11 rfl hl (by decide) rfl (fun ls hl => ?_)
      refine lv_iconst (v := 1) hx hb dL_freePoses_12 (by decide) ?_
      exact hret dL_freePoses_13 rfl (Nat.le_of_ble_eq_true rfl) (Nat.le_of_ble_eq_true rfl) hW
  · subst hk0
    refine lv_i2l hx hb dL_freePoses_6 rfl ?_
    refine q_lastE hF hK hW dL_freePoses_7 (fun H locs hW => ?_)
    refine lv_goto (tgt := 14) hx hb dL_freePoses_8 (by decide) ?_
    refine lv_iconst (v := 0) hx hb dL_freePoses_14 (by decide) ?_
    exact hret dL_freePoses_15 rfl (Nat.le_of_ble_eq_true rfl) (Nat.le_of_ble_eq_true rfl) hW
def hh_poseValue : List (Nat × Nat × Nat × Nat) := [(0, 10, 13, 24)]
theorem mw_poseValue : Cond.codeWith yL_poseValue cL_poseValue 5 (some .int) hh_poseValue ∈ WG := WG_of (tb_4 _ (List.mem_of_getElem? (i := 74) rfl)) rfl
set_option maxHeartbeats 4000000 in
set_option maxRecDepth 100000 in
theorem v_poseValue (l : Launch) (D : va_G) (E : Nat → ClassId) (h_ ho : Nat) (x1 x2 : Int32) (wc wc' : va_W) (k : Nat) (rv : Int32) (f : Nat → Int64) {fs : List Value} (hC : XI l yX7_poseValue cX7_poseValue 3 (some .int) 6 110 1 6 D E TXL [.ref h_, .int x1, .int x2] wc wc' k rv) (he : wc[0]? = some (h_, .inr (9, fs))) (ha : wc'.map (·.1) = wc.map (·.1)) (hk : k = 0 ∨ k = 3) : LW l yL_poseValue cL_poseValue 5 hh_poseValue 7 132 1 6 D E TXL [.ref h_, .int x1, .int x2, .ref ho] (wc ++ [(ho, .inl (E 4, 1, .inr (.inl f)))]) (wc' ++ [(ho, .inl (E 4, 1, .inr (.inl (if k = 0 then vp_updL f 0 rv.toInt64 else f))))]) (if k = 3 then 1 else 0) := by
  refine LW_of pn_L rfl (Nat.le_of_ble_eq_true rfl) (fun p e s m args below meth c A Q hF htab hK hA hZ hN hW hret ls hl => ?_)
  have hx := hF.1
  have hb := hF.2.1
  have hl : lv_has ls 5 [(0, .ref h_), (1, .int x1), (2, .int x2), (3, .ref ho)] := hl
  refine lv_aload_n hx hb dL_poseValue_0 rfl (lv_at hl 3 rfl) ?_
  refine lv_iconst (v := 0) hx hb dL_poseValue_1 (by decide) ?_
  refine lv_aload_n hx hb dL_poseValue_2 rfl (lv_at hl 0 rfl) ?_
  refine lv_iload_n hx hb dL_poseValue_3 rfl (lv_at hl 1 rfl) ?_
  refine lv_iload_n hx hb dL_poseValue_4 rfl (lv_at hl 2 rfl) ?_
  refine q_wI hF hl.1 hK hA hZ hW mv_X7_poseValue ml_L_68 hC (q := (RX7, TX7, 13)) rfl he rfl ha ⟨Nat.le_of_ble_eq_true rfl, Nat.le_of_ble_eq_true rfl⟩ ⟨Nat.le_of_ble_eq_true rfl, Nat.le_of_ble_eq_true rfl⟩ rfl rfl (Nat.le_of_ble_eq_true rfl) dL_poseValue_5 (fun hk0 ce q9 H locs hW hce hcv hcl => ?_) (fun hk0 H locs hW => ?_)
  · rcases hk with rfl | rfl
    · exact absurd rfl hk0
    · refine q_catch hF hZ htab [] ⟨0, 10, 13, 24⟩ [] rfl pass_nil (by decide) (by decide) cl_24 ca_3 hce hcv hcl ?_
      refine lv_astore (lv' := [(4, .ref q9), (0, .ref h_), (1, .int x1), (2, .int x2), (3, .ref ho)]) hx hb dL_poseValue_13 hl (by decide) rfl (fun ls hl => ?_)
      refine lv_iconst (v := 1) hx hb dL_poseValue_15 (by decide) ?_
      exact hret dL_poseValue_16 rfl (Nat.le_of_ble_eq_true rfl) (Nat.le_of_ble_eq_true rfl) hW
  · subst hk0
    refine lv_i2l hx hb dL_poseValue_8 rfl ?_
    refine q_lastE hF hK hW dL_poseValue_9 (fun H locs hW => ?_)
    refine lv_goto (tgt := 17) hx hb dL_poseValue_10 (by decide) ?_
    refine lv_iconst (v := 0) hx hb dL_poseValue_17 (by decide) ?_
    exact hret dL_poseValue_18 rfl (Nat.le_of_ble_eq_true rfl) (Nat.le_of_ble_eq_true rfl) hW
def hh_isFreePose : List (Nat × Nat × Nat × Nat) := [(0, 16, 19, 24)]
theorem mw_isFreePose : Cond.codeWith yL_isFreePose cL_isFreePose 4 (some .int) hh_isFreePose ∈ WG := WG_of (tb_4 _ (List.mem_of_getElem? (i := 83) rfl)) rfl
set_option maxHeartbeats 4000000 in
set_option maxRecDepth 100000 in
theorem v_isFreePose (l : Launch) (D : va_G) (E : Nat → ClassId) (h_ ho : Nat) (x1 : Int32) (wc wc' : va_W) (k : Nat) (rv : Int32) (f : Nat → Int64) {fs : List Value} (hC : XI l yX7_isFreePose cX7_isFreePose 2 (some .boolean) 7 128 1 6 D E TXL [.ref h_, .int x1] wc wc' k rv) (he : wc[0]? = some (h_, .inr (9, fs))) (ha : wc'.map (·.1) = wc.map (·.1)) (hk : k = 0 ∨ k = 3) : LW l yL_isFreePose cL_isFreePose 4 hh_isFreePose 8 149 1 6 D E TXL [.ref h_, .int x1, .ref ho] (wc ++ [(ho, .inl (E 4, 1, .inr (.inl f)))]) (wc' ++ [(ho, .inl (E 4, 1, .inr (.inl (if k = 0 then vp_updL f 0 (if rv = 0 then 0 else 1) else f))))]) (if k = 3 then 1 else 0) := by
  refine LW_of pn_L rfl (Nat.le_of_ble_eq_true rfl) (fun p e s m args below meth c A Q hF htab hK hA hZ hN hW hret ls hl => ?_)
  have hx := hF.1
  have hb := hF.2.1
  have hl : lv_has ls 4 [(0, .ref h_), (1, .int x1), (2, .ref ho)] := hl
  refine lv_aload_n hx hb dL_isFreePose_0 rfl (lv_at hl 2 rfl) ?_
  refine lv_iconst (v := 0) hx hb dL_isFreePose_1 (by decide) ?_
  refine lv_aload_n hx hb dL_isFreePose_2 rfl (lv_at hl 0 rfl) ?_
  refine lv_iload_n hx hb dL_isFreePose_3 rfl (lv_at hl 1 rfl) ?_
  refine q_wI hF hl.1 hK hA hZ hW mv_X7_isFreePose ml_L_71 hC (q := (RX7, TX7, 13)) rfl he rfl ha ⟨Nat.le_of_ble_eq_true rfl, Nat.le_of_ble_eq_true rfl⟩ ⟨Nat.le_of_ble_eq_true rfl, Nat.le_of_ble_eq_true rfl⟩ rfl rfl (Nat.le_of_ble_eq_true rfl) dL_isFreePose_4 (fun hk0 ce q9 H locs hW hce hcv hcl => ?_) (fun hk0 H locs hW => ?_)
  · rcases hk with rfl | rfl
    · exact absurd rfl hk0
    · refine q_catch hF hZ htab [] ⟨0, 16, 19, 24⟩ [] rfl pass_nil (by decide) (by decide) cl_24 ca_3 hce hcv hcl ?_
      refine lv_astore_n (lv' := [(3, .ref q9), (0, .ref h_), (1, .int x1), (2, .ref ho)]) hx hb dL_isFreePose_19 rfl hl (by decide) rfl (fun ls hl => ?_)
      refine lv_iconst (v := 1) hx hb dL_isFreePose_20 (by decide) ?_
      exact hret dL_isFreePose_21 rfl (Nat.le_of_ble_eq_true rfl) (Nat.le_of_ble_eq_true rfl) hW
  · subst hk0
    refine lv_if_eq (tgt := 14) hx hb dL_isFreePose_7 (by decide) (fun hz => ?_) (fun hz => ?_)
    · rw [if_pos hz] at hret
      refine lv_lconst (v := 0) hx hb dL_isFreePose_14 (by decide) ?_
      refine q_lastE hF hK hW dL_isFreePose_15 (fun H locs hW => ?_)
      refine lv_goto (tgt := 22) hx hb dL_isFreePose_16 (by decide) ?_
      refine lv_iconst (v := 0) hx hb dL_isFreePose_22 (by decide) ?_
      exact hret dL_isFreePose_23 rfl (Nat.le_of_ble_eq_true rfl) (Nat.le_of_ble_eq_true rfl) hW
    · rw [if_neg hz] at hret
      refine lv_lconst (v := 1) hx hb dL_isFreePose_10 (by decide) ?_
      refine lv_goto (tgt := 15) hx hb dL_isFreePose_11 (by decide) ?_
      refine q_lastE hF hK hW dL_isFreePose_15 (fun H locs hW => ?_)
      refine lv_goto (tgt := 22) hx hb dL_isFreePose_16 (by decide) ?_
      refine lv_iconst (v := 0) hx hb dL_isFreePose_22 (by decide) ?_
      exact hret dL_isFreePose_23 rfl (Nat.le_of_ble_eq_true rfl) (Nat.le_of_ble_eq_true rfl) hW
def hh_posesAt : List (Nat × Nat × Nat × Nat) := [(0, 10, 13, 24), (0, 10, 17, 15)]
theorem mw_posesAt : Cond.codeWith yL_posesAt cL_posesAt 5 (some .int) hh_posesAt ∈ WG := WG_of (tb_4 _ (List.mem_of_getElem? (i := 95) rfl)) rfl
set_option maxHeartbeats 4000000 in
set_option maxRecDepth 100000 in
theorem v_posesAt (l : Launch) (D : va_G) (E : Nat → ClassId) (h_ ho : Nat) (x1 x2 : Int32) (wc wc' : va_W) (k : Nat) (rv : Int32) (f : Nat → Int64) {fs : List Value} (hC : XI l yX7_posesAt cX7_posesAt 5 (some .int) 7 153 2 12 D E TXL [.ref h_, .int x1, .int x2] wc wc' k rv) (he : wc[0]? = some (h_, .inr (9, fs))) (ha : wc'.map (·.1) = wc.map (·.1)) (hk : k = 0 ∨ k = 3 ∨ k = 2) : LW l yL_posesAt cL_posesAt 5 hh_posesAt 8 177 2 12 D E TXL [.ref h_, .int x1, .int x2, .ref ho] (wc ++ [(ho, .inl (E 4, 1, .inr (.inl f)))]) (wc' ++ [(ho, .inl (E 4, 1, .inr (.inl (if k = 0 then vp_updL f 0 rv.toInt64 else f))))]) (if k = 3 then 1 else (if k = 2 then 2 else 0)) := by
  refine LW_of pn_L rfl (Nat.le_of_ble_eq_true rfl) (fun p e s m args below meth c A Q hF htab hK hA hZ hN hW hret ls hl => ?_)
  have hx := hF.1
  have hb := hF.2.1
  have hl : lv_has ls 5 [(0, .ref h_), (1, .int x1), (2, .int x2), (3, .ref ho)] := hl
  refine lv_aload_n hx hb dL_posesAt_0 rfl (lv_at hl 3 rfl) ?_
  refine lv_iconst (v := 0) hx hb dL_posesAt_1 (by decide) ?_
  refine lv_aload_n hx hb dL_posesAt_2 rfl (lv_at hl 0 rfl) ?_
  refine lv_iload_n hx hb dL_posesAt_3 rfl (lv_at hl 1 rfl) ?_
  refine lv_iload_n hx hb dL_posesAt_4 rfl (lv_at hl 2 rfl) ?_
  refine q_wI hF hl.1 hK hA hZ hW mv_X7_posesAt ml_L_75 hC (q := (RX7, TX7, 13)) rfl he rfl ha ⟨Nat.le_of_ble_eq_true rfl, Nat.le_of_ble_eq_true rfl⟩ ⟨Nat.le_of_ble_eq_true rfl, Nat.le_of_ble_eq_true rfl⟩ rfl rfl (Nat.le_of_ble_eq_true rfl) dL_posesAt_5 (fun hk0 ce q9 H locs hW hce hcv hcl => ?_) (fun hk0 H locs hW => ?_)
  · rcases hk with rfl | rfl | rfl
    · exact absurd rfl hk0
    · refine q_catch hF hZ htab [] ⟨0, 10, 13, 24⟩ [⟨0, 10, 17, 15⟩] rfl pass_nil (by decide) (by decide) cl_24 ca_3 hce hcv hcl ?_
      refine lv_astore (lv' := [(4, .ref q9), (0, .ref h_), (1, .int x1), (2, .int x2), (3, .ref ho)]) hx hb dL_posesAt_13 hl (by decide) rfl (fun ls hl => ?_)
      refine lv_iconst (v := 1) hx hb dL_posesAt_15 (by decide) ?_
      exact hret dL_posesAt_16 rfl (Nat.le_of_ble_eq_true rfl) (Nat.le_of_ble_eq_true rfl) hW
    · refine q_catch hF hZ htab [⟨0, 10, 13, 24⟩] ⟨0, 10, 17, 15⟩ [] rfl (pass_cons (by decide) (hF.2.2.2.2 _ cl_24) (hN 2 3 (by decide) (by decide) (by decide)) pass_nil) (by decide) (by decide) cl_15 ca_2 hce hcv hcl ?_
      refine lv_astore (lv' := [(4, .ref q9), (0, .ref h_), (1, .int x1), (2, .int x2), (3, .ref ho)]) hx hb dL_posesAt_17 hl (by decide) rfl (fun ls hl => ?_)
      refine lv_iconst (v := 2) hx hb dL_posesAt_19 (by decide) ?_
      exact hret dL_posesAt_20 rfl (Nat.le_of_ble_eq_true rfl) (Nat.le_of_ble_eq_true rfl) hW
  · subst hk0
    refine lv_i2l hx hb dL_posesAt_8 rfl ?_
    refine q_lastE hF hK hW dL_posesAt_9 (fun H locs hW => ?_)
    refine lv_goto (tgt := 21) hx hb dL_posesAt_10 (by decide) ?_
    refine lv_iconst (v := 0) hx hb dL_posesAt_21 (by decide) ?_
    exact hret dL_posesAt_22 rfl (Nat.le_of_ble_eq_true rfl) (Nat.le_of_ble_eq_true rfl) hW
def hh_connected : List (Nat × Nat × Nat × Nat) := [(0, 8, 11, 15)]
theorem mw_connected : Cond.codeWith yL_connected cL_connected 3 (some .int) hh_connected ∈ WG := WG_of (tb_4 _ (List.mem_of_getElem? (i := 104) rfl)) rfl
set_option maxHeartbeats 4000000 in
set_option maxRecDepth 100000 in
theorem v_connected (l : Launch) (D : va_G) (E : Nat → ClassId) (h_ ho : Nat) (wc wc' : va_W) (k : Nat) (rv : Int32) (f : Nat → Int64) {fs : List Value} (hC : XI l yX7_connected cX7_connected 1 (some .int) 8 173 1 6 D E TXL [.ref h_] wc wc' k rv) (he : wc[0]? = some (h_, .inr (9, fs))) (ha : wc'.map (·.1) = wc.map (·.1)) (hk : k = 0 ∨ k = 2) : LW l yL_connected cL_connected 3 hh_connected 9 193 1 6 D E TXL [.ref h_, .ref ho] (wc ++ [(ho, .inl (E 4, 1, .inr (.inl f)))]) (wc' ++ [(ho, .inl (E 4, 1, .inr (.inl (if k = 0 then vp_updL f 0 rv.toInt64 else f))))]) (if k = 2 then 1 else 0) := by
  refine LW_of pn_L rfl (Nat.le_of_ble_eq_true rfl) (fun p e s m args below meth c A Q hF htab hK hA hZ hN hW hret ls hl => ?_)
  have hx := hF.1
  have hb := hF.2.1
  have hl : lv_has ls 3 [(0, .ref h_), (1, .ref ho)] := hl
  refine lv_aload_n hx hb dL_connected_0 rfl (lv_at hl 1 rfl) ?_
  refine lv_iconst (v := 0) hx hb dL_connected_1 (by decide) ?_
  refine lv_aload_n hx hb dL_connected_2 rfl (lv_at hl 0 rfl) ?_
  refine q_wI hF hl.1 hK hA hZ hW mv_X7_connected ml_L_78 hC (q := (RX7, TX7, 13)) rfl he rfl ha ⟨Nat.le_of_ble_eq_true rfl, Nat.le_of_ble_eq_true rfl⟩ ⟨Nat.le_of_ble_eq_true rfl, Nat.le_of_ble_eq_true rfl⟩ rfl rfl (Nat.le_of_ble_eq_true rfl) dL_connected_3 (fun hk0 ce q9 H locs hW hce hcv hcl => ?_) (fun hk0 H locs hW => ?_)
  · rcases hk with rfl | rfl
    · exact absurd rfl hk0
    · refine q_catch hF hZ htab [] ⟨0, 8, 11, 15⟩ [] rfl pass_nil (by decide) (by decide) cl_15 ca_2 hce hcv hcl ?_
      refine lv_astore_n (lv' := [(2, .ref q9), (0, .ref h_), (1, .ref ho)]) hx hb dL_connected_11 rfl hl (by decide) rfl (fun ls hl => ?_)
      refine lv_iconst (v := 1) hx hb dL_connected_12 (by decide) ?_
      exact hret dL_connected_13 rfl (Nat.le_of_ble_eq_true rfl) (Nat.le_of_ble_eq_true rfl) hW
  · subst hk0
    refine lv_i2l hx hb dL_connected_6 rfl ?_
    refine q_lastE hF hK hW dL_connected_7 (fun H locs hW => ?_)
    refine lv_goto (tgt := 14) hx hb dL_connected_8 (by decide) ?_
    refine lv_iconst (v := 0) hx hb dL_connected_14 (by decide) ?_
    exact hret dL_connected_15 rfl (Nat.le_of_ble_eq_true rfl) (Nat.le_of_ble_eq_true rfl) hW
def hh_reachableCells : List (Nat × Nat × Nat × Nat) := [(0, 8, 11, 15)]
theorem mw_reachableCells : Cond.codeWith yL_reachableCells cL_reachableCells 3 (some .int) hh_reachableCells ∈ WG := WG_of (tb_4 _ (List.mem_of_getElem? (i := 140) rfl)) rfl
set_option maxHeartbeats 4000000 in
set_option maxRecDepth 100000 in
theorem v_reachableCells (l : Launch) (D : va_G) (E : Nat → ClassId) (h_ ho : Nat) (wc wc' : va_W) (k : Nat) (rv : Int32) (f : Nat → Int64) {fs : List Value} (hC : XI l yX7_reachableCells cX7_reachableCells 3 (some .int) 8 173 1 6 D E TXL [.ref h_] wc wc' k rv) (he : wc[0]? = some (h_, .inr (9, fs))) (ha : wc'.map (·.1) = wc.map (·.1)) (hk : k = 0 ∨ k = 2) : LW l yL_reachableCells cL_reachableCells 3 hh_reachableCells 9 195 1 6 D E TXL [.ref h_, .ref ho] (wc ++ [(ho, .inl (E 4, 1, .inr (.inl f)))]) (wc' ++ [(ho, .inl (E 4, 1, .inr (.inl (if k = 0 then vp_updL f 0 rv.toInt64 else f))))]) (if k = 2 then 1 else 0) := by
  refine LW_of pn_L rfl (Nat.le_of_ble_eq_true rfl) (fun p e s m args below meth c A Q hF htab hK hA hZ hN hW hret ls hl => ?_)
  have hx := hF.1
  have hb := hF.2.1
  have hl : lv_has ls 3 [(0, .ref h_), (1, .ref ho)] := hl
  refine lv_aload_n hx hb dL_reachableCells_0 rfl (lv_at hl 1 rfl) ?_
  refine lv_iconst (v := 0) hx hb dL_reachableCells_1 (by decide) ?_
  refine lv_aload_n hx hb dL_reachableCells_2 rfl (lv_at hl 0 rfl) ?_
  refine q_wI hF hl.1 hK hA hZ hW mv_X7_reachableCells ml_L_81 hC (q := (RX7, TX7, 13)) rfl he rfl ha ⟨Nat.le_of_ble_eq_true rfl, Nat.le_of_ble_eq_true rfl⟩ ⟨Nat.le_of_ble_eq_true rfl, Nat.le_of_ble_eq_true rfl⟩ rfl rfl (Nat.le_of_ble_eq_true rfl) dL_reachableCells_3 (fun hk0 ce q9 H locs hW hce hcv hcl => ?_) (fun hk0 H locs hW => ?_)
  · rcases hk with rfl | rfl
    · exact absurd rfl hk0
    · refine q_catch hF hZ htab [] ⟨0, 8, 11, 15⟩ [] rfl pass_nil (by decide) (by decide) cl_15 ca_2 hce hcv hcl ?_
      refine lv_astore_n (lv' := [(2, .ref q9), (0, .ref h_), (1, .ref ho)]) hx hb dL_reachableCells_11 rfl hl (by decide) rfl (fun ls hl => ?_)
      refine lv_iconst (v := 1) hx hb dL_reachableCells_12 (by decide) ?_
      exact hret dL_reachableCells_13 rfl (Nat.le_of_ble_eq_true rfl) (Nat.le_of_ble_eq_true rfl) hW
  · subst hk0
    refine lv_i2l hx hb dL_reachableCells_6 rfl ?_
    refine q_lastE hF hK hW dL_reachableCells_7 (fun H locs hW => ?_)
    refine lv_goto (tgt := 14) hx hb dL_reachableCells_8 (by decide) ?_
    refine lv_iconst (v := 0) hx hb dL_reachableCells_14 (by decide) ?_
    exact hret dL_reachableCells_15 rfl (Nat.le_of_ble_eq_true rfl) (Nat.le_of_ble_eq_true rfl) hW
def hh_favorite : List (Nat × Nat × Nat × Nat) := [(0, 9, 12, 15), (0, 9, 15, 33)]
theorem mw_favorite : Cond.codeWith yL_favorite cL_favorite 4 (some .int) hh_favorite ∈ WG := WG_of (tb_4 _ (List.mem_of_getElem? (i := 159) rfl)) rfl
set_option maxHeartbeats 4000000 in
set_option maxRecDepth 100000 in
theorem v_favorite (l : Launch) (D : va_G) (E : Nat → ClassId) (h_ ho : Nat) (x1 : Int32) (wc wc' : va_W) (k : Nat) (rv : Int32) (f : Nat → Int64) {fs : List Value} (hC : XI l yX7_favorite cX7_favorite 4 (some .int) 8 173 2 12 D E TXL [.ref h_, .int x1] wc wc' k rv) (he : wc[0]? = some (h_, .inr (9, fs))) (ha : wc'.map (·.1) = wc.map (·.1)) (hk : k = 0 ∨ k = 2 ∨ k = 4) : LW l yL_favorite cL_favorite 4 hh_favorite 9 196 2 12 D E TXL [.ref h_, .int x1, .ref ho] (wc ++ [(ho, .inl (E 4, 1, .inr (.inl f)))]) (wc' ++ [(ho, .inl (E 4, 1, .inr (.inl (if k = 0 then vp_updL f 0 rv.toInt64 else f))))]) (if k = 2 then 1 else (if k = 4 then 2 else 0)) := by
  refine LW_of pn_L rfl (Nat.le_of_ble_eq_true rfl) (fun p e s m args below meth c A Q hF htab hK hA hZ hN hW hret ls hl => ?_)
  have hx := hF.1
  have hb := hF.2.1
  have hl : lv_has ls 4 [(0, .ref h_), (1, .int x1), (2, .ref ho)] := hl
  refine lv_aload_n hx hb dL_favorite_0 rfl (lv_at hl 2 rfl) ?_
  refine lv_iconst (v := 0) hx hb dL_favorite_1 (by decide) ?_
  refine lv_aload_n hx hb dL_favorite_2 rfl (lv_at hl 0 rfl) ?_
  refine lv_iload_n hx hb dL_favorite_3 rfl (lv_at hl 1 rfl) ?_
  refine q_wI hF hl.1 hK hA hZ hW mv_X7_favorite ml_L_84 hC (q := (RX7, TX7, 13)) rfl he rfl ha ⟨Nat.le_of_ble_eq_true rfl, Nat.le_of_ble_eq_true rfl⟩ ⟨Nat.le_of_ble_eq_true rfl, Nat.le_of_ble_eq_true rfl⟩ rfl rfl (Nat.le_of_ble_eq_true rfl) dL_favorite_4 (fun hk0 ce q9 H locs hW hce hcv hcl => ?_) (fun hk0 H locs hW => ?_)
  · rcases hk with rfl | rfl | rfl
    · exact absurd rfl hk0
    · refine q_catch hF hZ htab [] ⟨0, 9, 12, 15⟩ [⟨0, 9, 15, 33⟩] rfl pass_nil (by decide) (by decide) cl_15 ca_2 hce hcv hcl ?_
      refine lv_astore_n (lv' := [(3, .ref q9), (0, .ref h_), (1, .int x1), (2, .ref ho)]) hx hb dL_favorite_12 rfl hl (by decide) rfl (fun ls hl => ?_)
      refine lv_iconst (v := 1) hx hb dL_favorite_13 (by decide) ?_
      exact hret dL_favorite_14 rfl (Nat.le_of_ble_eq_true rfl) (Nat.le_of_ble_eq_true rfl) hW
    · refine q_catch hF hZ htab [⟨0, 9, 12, 15⟩] ⟨0, 9, 15, 33⟩ [] rfl (pass_cons (by decide) (hF.2.2.2.2 _ cl_15) (hN 4 2 (by decide) (by decide) (by decide)) pass_nil) (by decide) (by decide) cl_33 ca_4 hce hcv hcl ?_
      refine lv_astore_n (lv' := [(3, .ref q9), (0, .ref h_), (1, .int x1), (2, .ref ho)]) hx hb dL_favorite_15 rfl hl (by decide) rfl (fun ls hl => ?_)
      refine lv_iconst (v := 2) hx hb dL_favorite_16 (by decide) ?_
      exact hret dL_favorite_17 rfl (Nat.le_of_ble_eq_true rfl) (Nat.le_of_ble_eq_true rfl) hW
  · subst hk0
    refine lv_i2l hx hb dL_favorite_7 rfl ?_
    refine q_lastE hF hK hW dL_favorite_8 (fun H locs hW => ?_)
    refine lv_goto (tgt := 18) hx hb dL_favorite_9 (by decide) ?_
    refine lv_iconst (v := 0) hx hb dL_favorite_18 (by decide) ?_
    exact hret dL_favorite_19 rfl (Nat.le_of_ble_eq_true rfl) (Nat.le_of_ble_eq_true rfl) hW
def hh_farthest : List (Nat × Nat × Nat × Nat) := [(0, 8, 11, 15), (0, 8, 14, 33)]
theorem mw_farthest : Cond.codeWith yL_farthest cL_farthest 3 (some .int) hh_farthest ∈ WG := WG_of (tb_4 _ (List.mem_of_getElem? (i := 177) rfl)) rfl
set_option maxHeartbeats 4000000 in
set_option maxRecDepth 100000 in
theorem v_farthest (l : Launch) (D : va_G) (E : Nat → ClassId) (h_ ho : Nat) (wc wc' : va_W) (k : Nat) (rv : Int32) (f : Nat → Int64) {fs : List Value} (hC : XI l yX7_farthest cX7_farthest 1 (some .int) 8 173 2 12 D E TXL [.ref h_] wc wc' k rv) (he : wc[0]? = some (h_, .inr (9, fs))) (ha : wc'.map (·.1) = wc.map (·.1)) (hk : k = 0 ∨ k = 2 ∨ k = 4) : LW l yL_farthest cL_farthest 3 hh_farthest 9 193 2 12 D E TXL [.ref h_, .ref ho] (wc ++ [(ho, .inl (E 4, 1, .inr (.inl f)))]) (wc' ++ [(ho, .inl (E 4, 1, .inr (.inl (if k = 0 then vp_updL f 0 rv.toInt64 else f))))]) (if k = 2 then 1 else (if k = 4 then 2 else 0)) := by
  refine LW_of pn_L rfl (Nat.le_of_ble_eq_true rfl) (fun p e s m args below meth c A Q hF htab hK hA hZ hN hW hret ls hl => ?_)
  have hx := hF.1
  have hb := hF.2.1
  have hl : lv_has ls 3 [(0, .ref h_), (1, .ref ho)] := hl
  refine lv_aload_n hx hb dL_farthest_0 rfl (lv_at hl 1 rfl) ?_
  refine lv_iconst (v := 0) hx hb dL_farthest_1 (by decide) ?_
  refine lv_aload_n hx hb dL_farthest_2 rfl (lv_at hl 0 rfl) ?_
  refine q_wI hF hl.1 hK hA hZ hW mv_X7_farthest ml_L_88 hC (q := (RX7, TX7, 13)) rfl he rfl ha ⟨Nat.le_of_ble_eq_true rfl, Nat.le_of_ble_eq_true rfl⟩ ⟨Nat.le_of_ble_eq_true rfl, Nat.le_of_ble_eq_true rfl⟩ rfl rfl (Nat.le_of_ble_eq_true rfl) dL_farthest_3 (fun hk0 ce q9 H locs hW hce hcv hcl => ?_) (fun hk0 H locs hW => ?_)
  · rcases hk with rfl | rfl | rfl
    · exact absurd rfl hk0
    · refine q_catch hF hZ htab [] ⟨0, 8, 11, 15⟩ [⟨0, 8, 14, 33⟩] rfl pass_nil (by decide) (by decide) cl_15 ca_2 hce hcv hcl ?_
      refine lv_astore_n (lv' := [(2, .ref q9), (0, .ref h_), (1, .ref ho)]) hx hb dL_farthest_11 rfl hl (by decide) rfl (fun ls hl => ?_)
      refine lv_iconst (v := 1) hx hb dL_farthest_12 (by decide) ?_
      exact hret dL_farthest_13 rfl (Nat.le_of_ble_eq_true rfl) (Nat.le_of_ble_eq_true rfl) hW
    · refine q_catch hF hZ htab [⟨0, 8, 11, 15⟩] ⟨0, 8, 14, 33⟩ [] rfl (pass_cons (by decide) (hF.2.2.2.2 _ cl_15) (hN 4 2 (by decide) (by decide) (by decide)) pass_nil) (by decide) (by decide) cl_33 ca_4 hce hcv hcl ?_
      refine lv_astore_n (lv' := [(2, .ref q9), (0, .ref h_), (1, .ref ho)]) hx hb dL_farthest_14 rfl hl (by decide) rfl (fun ls hl => ?_)
      refine lv_iconst (v := 2) hx hb dL_farthest_15 (by decide) ?_
      exact hret dL_farthest_16 rfl (Nat.le_of_ble_eq_true rfl) (Nat.le_of_ble_eq_true rfl) hW
  · subst hk0
    refine lv_i2l hx hb dL_farthest_6 rfl ?_
    refine q_lastE hF hK hW dL_farthest_7 (fun H locs hW => ?_)
    refine lv_goto (tgt := 17) hx hb dL_farthest_8 (by decide) ?_
    refine lv_iconst (v := 0) hx hb dL_farthest_17 (by decide) ?_
    exact hret dL_farthest_18 rfl (Nat.le_of_ble_eq_true rfl) (Nat.le_of_ble_eq_true rfl) hW
def hh_groups : List (Nat × Nat × Nat × Nat) := [(0, 8, 11, 15)]
theorem mw_groups : Cond.codeWith yL_groups cL_groups 3 (some .int) hh_groups ∈ WG := WG_of (tb_4 _ (List.mem_of_getElem? (i := 185) rfl)) rfl
set_option maxHeartbeats 4000000 in
set_option maxRecDepth 100000 in
theorem v_groups (l : Launch) (D : va_G) (E : Nat → ClassId) (h_ ho : Nat) (wc wc' : va_W) (k : Nat) (rv : Int32) (f : Nat → Int64) {fs : List Value} (hC : XI l yX7_groups cX7_groups 4 (some .int) 7 153 1 6 D E TXL [.ref h_] wc wc' k rv) (he : wc[0]? = some (h_, .inr (9, fs))) (ha : wc'.map (·.1) = wc.map (·.1)) (hk : k = 0 ∨ k = 2) : LW l yL_groups cL_groups 3 hh_groups 8 176 1 6 D E TXL [.ref h_, .ref ho] (wc ++ [(ho, .inl (E 4, 1, .inr (.inl f)))]) (wc' ++ [(ho, .inl (E 4, 1, .inr (.inl (if k = 0 then vp_updL f 0 rv.toInt64 else f))))]) (if k = 2 then 1 else 0) := by
  refine LW_of pn_L rfl (Nat.le_of_ble_eq_true rfl) (fun p e s m args below meth c A Q hF htab hK hA hZ hN hW hret ls hl => ?_)
  have hx := hF.1
  have hb := hF.2.1
  have hl : lv_has ls 3 [(0, .ref h_), (1, .ref ho)] := hl
  refine lv_aload_n hx hb dL_groups_0 rfl (lv_at hl 1 rfl) ?_
  refine lv_iconst (v := 0) hx hb dL_groups_1 (by decide) ?_
  refine lv_aload_n hx hb dL_groups_2 rfl (lv_at hl 0 rfl) ?_
  refine q_wI hF hl.1 hK hA hZ hW mv_X7_groups ml_L_91 hC (q := (RX7, TX7, 13)) rfl he rfl ha ⟨Nat.le_of_ble_eq_true rfl, Nat.le_of_ble_eq_true rfl⟩ ⟨Nat.le_of_ble_eq_true rfl, Nat.le_of_ble_eq_true rfl⟩ rfl rfl (Nat.le_of_ble_eq_true rfl) dL_groups_3 (fun hk0 ce q9 H locs hW hce hcv hcl => ?_) (fun hk0 H locs hW => ?_)
  · rcases hk with rfl | rfl
    · exact absurd rfl hk0
    · refine q_catch hF hZ htab [] ⟨0, 8, 11, 15⟩ [] rfl pass_nil (by decide) (by decide) cl_15 ca_2 hce hcv hcl ?_
      refine lv_astore_n (lv' := [(2, .ref q9), (0, .ref h_), (1, .ref ho)]) hx hb dL_groups_11 rfl hl (by decide) rfl (fun ls hl => ?_)
      refine lv_iconst (v := 1) hx hb dL_groups_12 (by decide) ?_
      exact hret dL_groups_13 rfl (Nat.le_of_ble_eq_true rfl) (Nat.le_of_ble_eq_true rfl) hW
  · subst hk0
    refine lv_i2l hx hb dL_groups_6 rfl ?_
    refine q_lastE hF hK hW dL_groups_7 (fun H locs hW => ?_)
    refine lv_goto (tgt := 14) hx hb dL_groups_8 (by decide) ?_
    refine lv_iconst (v := 0) hx hb dL_groups_14 (by decide) ?_
    exact hret dL_groups_15 rfl (Nat.le_of_ble_eq_true rfl) (Nat.le_of_ble_eq_true rfl) hW
def hh_freedom : List (Nat × Nat × Nat × Nat) := [(0, 7, 10, 15), (0, 7, 13, 98)]
theorem mw_freedom : Cond.codeWith yL_freedom cL_freedom 3 (some .int) hh_freedom ∈ WG := WG_of (tb_4 _ (List.mem_of_getElem? (i := 192) rfl)) rfl
set_option maxHeartbeats 4000000 in
set_option maxRecDepth 100000 in
theorem v_freedom (l : Launch) (D : va_G) (E : Nat → ClassId) (h_ ho : Nat) (wc wc' : va_W) (k : Nat) (rv : UInt64) (f : Nat → UInt64) {fs : List Value} (hC : XD l yX7_freedom cX7_freedom 4 7 153 2 12 D E TXL [.ref h_] wc wc' k rv) (he : wc[0]? = some (h_, .inr (9, fs))) (ha : wc'.map (·.1) = wc.map (·.1)) (hk : k = 0 ∨ k = 2 ∨ k = 5) : LW l yL_freedom cL_freedom 3 hh_freedom 8 176 2 12 D E TXL [.ref h_, .ref ho] (wc ++ [(ho, .inl (E 5, 1, .inr (.inr (.inr (.inl f)))))]) (wc' ++ [(ho, .inl (E 5, 1, .inr (.inr (.inr (.inl (if k = 0 then vf_upd f 0 rv else f))))))]) (if k = 2 then 1 else (if k = 5 then 2 else 0)) := by
  refine LW_of pn_L rfl (Nat.le_of_ble_eq_true rfl) (fun p e s m args below meth c A Q hF htab hK hA hZ hN hW hret ls hl => ?_)
  have hx := hF.1
  have hb := hF.2.1
  have hl : lv_has ls 3 [(0, .ref h_), (1, .ref ho)] := hl
  refine lv_aload_n hx hb dL_freedom_0 rfl (lv_at hl 1 rfl) ?_
  refine lv_iconst (v := 0) hx hb dL_freedom_1 (by decide) ?_
  refine lv_aload_n hx hb dL_freedom_2 rfl (lv_at hl 0 rfl) ?_
  refine q_wD hF hl.1 hK hA hZ hW mv_X7_freedom ml_L_94 hC (q := (RX7, TX7, 13)) rfl he rfl ha ⟨Nat.le_of_ble_eq_true rfl, Nat.le_of_ble_eq_true rfl⟩ ⟨Nat.le_of_ble_eq_true rfl, Nat.le_of_ble_eq_true rfl⟩ rfl rfl (Nat.le_of_ble_eq_true rfl) dL_freedom_3 (fun hk0 ce q9 H locs hW hce hcv hcl => ?_) (fun hk0 H locs hW => ?_)
  · rcases hk with rfl | rfl | rfl
    · exact absurd rfl hk0
    · refine q_catch hF hZ htab [] ⟨0, 7, 10, 15⟩ [⟨0, 7, 13, 98⟩] rfl pass_nil (by decide) (by decide) cl_15 ca_2 hce hcv hcl ?_
      refine lv_astore_n (lv' := [(2, .ref q9), (0, .ref h_), (1, .ref ho)]) hx hb dL_freedom_10 rfl hl (by decide) rfl (fun ls hl => ?_)
      refine lv_iconst (v := 1) hx hb dL_freedom_11 (by decide) ?_
      exact hret dL_freedom_12 rfl (Nat.le_of_ble_eq_true rfl) (Nat.le_of_ble_eq_true rfl) hW
    · refine q_catch hF hZ htab [⟨0, 7, 10, 15⟩] ⟨0, 7, 13, 98⟩ [] rfl (pass_cons (by decide) (hF.2.2.2.2 _ cl_15) (hN 5 2 (by decide) (by decide) (by decide)) pass_nil) (by decide) (by decide) cl_98 ca_5 hce hcv hcl ?_
      refine lv_astore_n (lv' := [(2, .ref q9), (0, .ref h_), (1, .ref ho)]) hx hb dL_freedom_13 rfl hl (by decide) rfl (fun ls hl => ?_)
      refine lv_iconst (v := 2) hx hb dL_freedom_14 (by decide) ?_
      exact hret dL_freedom_15 rfl (Nat.le_of_ble_eq_true rfl) (Nat.le_of_ble_eq_true rfl) hW
  · subst hk0
    refine q_dastE hF hK hW dL_freedom_6 (fun H locs hW => ?_)
    refine lv_goto (tgt := 16) hx hb dL_freedom_7 (by decide) ?_
    refine lv_iconst (v := 0) hx hb dL_freedom_16 (by decide) ?_
    exact hret dL_freedom_17 rfl (Nat.le_of_ble_eq_true rfl) (Nat.le_of_ble_eq_true rfl) hW
def hh_planToPose : List (Nat × Nat × Nat × Nat) := [(0, 9, 12, 24), (0, 9, 15, 15), (0, 9, 18, 33)]
theorem mw_planToPose : Cond.codeWith yL_planToPose cL_planToPose 4 (some .int) hh_planToPose ∈ WG := WG_of (tb_4 _ (List.mem_of_getElem? (i := 220) rfl)) rfl
set_option maxHeartbeats 4000000 in
set_option maxRecDepth 100000 in
theorem v_planToPose (l : Launch) (D : va_G) (E : Nat → ClassId) (h_ ho : Nat) (x1 : Int32) (wc wc' : va_W) (k : Nat) (rv : Int32) (f : Nat → Int64) {fs : List Value} (hC : XI l yX7_planToPose cX7_planToPose 2 (some .int) 9 169 3 18 D E TXL [.ref h_, .int x1] wc wc' k rv) (he : wc[0]? = some (h_, .inr (9, fs))) (ha : wc'.map (·.1) = wc.map (·.1)) (hk : k = 0 ∨ k = 3 ∨ k = 2 ∨ k = 4) : LW l yL_planToPose cL_planToPose 4 hh_planToPose 10 190 3 18 D E TXL [.ref h_, .int x1, .ref ho] (wc ++ [(ho, .inl (E 4, 1, .inr (.inl f)))]) (wc' ++ [(ho, .inl (E 4, 1, .inr (.inl (if k = 0 then vp_updL f 0 rv.toInt64 else f))))]) (if k = 3 then 1 else (if k = 2 then 2 else (if k = 4 then 3 else 0))) := by
  refine LW_of pn_L rfl (Nat.le_of_ble_eq_true rfl) (fun p e s m args below meth c A Q hF htab hK hA hZ hN hW hret ls hl => ?_)
  have hx := hF.1
  have hb := hF.2.1
  have hl : lv_has ls 4 [(0, .ref h_), (1, .int x1), (2, .ref ho)] := hl
  refine lv_aload_n hx hb dL_planToPose_0 rfl (lv_at hl 2 rfl) ?_
  refine lv_iconst (v := 0) hx hb dL_planToPose_1 (by decide) ?_
  refine lv_aload_n hx hb dL_planToPose_2 rfl (lv_at hl 0 rfl) ?_
  refine lv_iload_n hx hb dL_planToPose_3 rfl (lv_at hl 1 rfl) ?_
  refine q_wI hF hl.1 hK hA hZ hW mv_X7_planToPose ml_L_100 hC (q := (RX7, TX7, 13)) rfl he rfl ha ⟨Nat.le_of_ble_eq_true rfl, Nat.le_of_ble_eq_true rfl⟩ ⟨Nat.le_of_ble_eq_true rfl, Nat.le_of_ble_eq_true rfl⟩ rfl rfl (Nat.le_of_ble_eq_true rfl) dL_planToPose_4 (fun hk0 ce q9 H locs hW hce hcv hcl => ?_) (fun hk0 H locs hW => ?_)
  · rcases hk with rfl | rfl | rfl | rfl
    · exact absurd rfl hk0
    · refine q_catch hF hZ htab [] ⟨0, 9, 12, 24⟩ [⟨0, 9, 15, 15⟩, ⟨0, 9, 18, 33⟩] rfl pass_nil (by decide) (by decide) cl_24 ca_3 hce hcv hcl ?_
      refine lv_astore_n (lv' := [(3, .ref q9), (0, .ref h_), (1, .int x1), (2, .ref ho)]) hx hb dL_planToPose_12 rfl hl (by decide) rfl (fun ls hl => ?_)
      refine lv_iconst (v := 1) hx hb dL_planToPose_13 (by decide) ?_
      exact hret dL_planToPose_14 rfl (Nat.le_of_ble_eq_true rfl) (Nat.le_of_ble_eq_true rfl) hW
    · refine q_catch hF hZ htab [⟨0, 9, 12, 24⟩] ⟨0, 9, 15, 15⟩ [⟨0, 9, 18, 33⟩] rfl (pass_cons (by decide) (hF.2.2.2.2 _ cl_24) (hN 2 3 (by decide) (by decide) (by decide)) pass_nil) (by decide) (by decide) cl_15 ca_2 hce hcv hcl ?_
      refine lv_astore_n (lv' := [(3, .ref q9), (0, .ref h_), (1, .int x1), (2, .ref ho)]) hx hb dL_planToPose_15 rfl hl (by decide) rfl (fun ls hl => ?_)
      refine lv_iconst (v := 2) hx hb dL_planToPose_16 (by decide) ?_
      exact hret dL_planToPose_17 rfl (Nat.le_of_ble_eq_true rfl) (Nat.le_of_ble_eq_true rfl) hW
    · refine q_catch hF hZ htab [⟨0, 9, 12, 24⟩, ⟨0, 9, 15, 15⟩] ⟨0, 9, 18, 33⟩ [] rfl (pass_cons (by decide) (hF.2.2.2.2 _ cl_24) (hN 4 3 (by decide) (by decide) (by decide)) (pass_cons (by decide) (hF.2.2.2.2 _ cl_15) (hN 4 2 (by decide) (by decide) (by decide)) pass_nil)) (by decide) (by decide) cl_33 ca_4 hce hcv hcl ?_
      refine lv_astore_n (lv' := [(3, .ref q9), (0, .ref h_), (1, .int x1), (2, .ref ho)]) hx hb dL_planToPose_18 rfl hl (by decide) rfl (fun ls hl => ?_)
      refine lv_iconst (v := 3) hx hb dL_planToPose_19 (by decide) ?_
      exact hret dL_planToPose_20 rfl (Nat.le_of_ble_eq_true rfl) (Nat.le_of_ble_eq_true rfl) hW
  · subst hk0
    refine lv_i2l hx hb dL_planToPose_7 rfl ?_
    refine q_lastE hF hK hW dL_planToPose_8 (fun H locs hW => ?_)
    refine lv_goto (tgt := 21) hx hb dL_planToPose_9 (by decide) ?_
    refine lv_iconst (v := 0) hx hb dL_planToPose_21 (by decide) ?_
    exact hret dL_planToPose_22 rfl (Nat.le_of_ble_eq_true rfl) (Nat.le_of_ble_eq_true rfl) hW
def hh_planToCell : List (Nat × Nat × Nat × Nat) := [(0, 10, 13, 24), (0, 10, 17, 15), (0, 10, 21, 33)]
theorem mw_planToCell : Cond.codeWith yL_planToCell cL_planToCell 5 (some .int) hh_planToCell ∈ WG := WG_of (tb_5 _ (List.mem_of_getElem? (i := 16) rfl)) rfl
set_option maxHeartbeats 4000000 in
set_option maxRecDepth 100000 in
theorem v_planToCell (l : Launch) (D : va_G) (E : Nat → ClassId) (h_ ho : Nat) (x1 x2 : Int32) (wc wc' : va_W) (k : Nat) (rv : Int32) (f : Nat → Int64) {fs : List Value} (hC : XI l yX7_planToCell cX7_planToCell 3 (some .int) 8 153 3 18 D E TXL [.ref h_, .int x1, .int x2] wc wc' k rv) (he : wc[0]? = some (h_, .inr (9, fs))) (ha : wc'.map (·.1) = wc.map (·.1)) (hk : k = 0 ∨ k = 3 ∨ k = 2 ∨ k = 4) : LW l yL_planToCell cL_planToCell 5 hh_planToCell 9 175 3 18 D E TXL [.ref h_, .int x1, .int x2, .ref ho] (wc ++ [(ho, .inl (E 4, 1, .inr (.inl f)))]) (wc' ++ [(ho, .inl (E 4, 1, .inr (.inl (if k = 0 then vp_updL f 0 rv.toInt64 else f))))]) (if k = 3 then 1 else (if k = 2 then 2 else (if k = 4 then 3 else 0))) := by
  refine LW_of pn_L rfl (Nat.le_of_ble_eq_true rfl) (fun p e s m args below meth c A Q hF htab hK hA hZ hN hW hret ls hl => ?_)
  have hx := hF.1
  have hb := hF.2.1
  have hl : lv_has ls 5 [(0, .ref h_), (1, .int x1), (2, .int x2), (3, .ref ho)] := hl
  refine lv_aload_n hx hb dL_planToCell_0 rfl (lv_at hl 3 rfl) ?_
  refine lv_iconst (v := 0) hx hb dL_planToCell_1 (by decide) ?_
  refine lv_aload_n hx hb dL_planToCell_2 rfl (lv_at hl 0 rfl) ?_
  refine lv_iload_n hx hb dL_planToCell_3 rfl (lv_at hl 1 rfl) ?_
  refine lv_iload_n hx hb dL_planToCell_4 rfl (lv_at hl 2 rfl) ?_
  refine q_wI hF hl.1 hK hA hZ hW mv_X7_planToCell ml_L_103 hC (q := (RX7, TX7, 13)) rfl he rfl ha ⟨Nat.le_of_ble_eq_true rfl, Nat.le_of_ble_eq_true rfl⟩ ⟨Nat.le_of_ble_eq_true rfl, Nat.le_of_ble_eq_true rfl⟩ rfl rfl (Nat.le_of_ble_eq_true rfl) dL_planToCell_5 (fun hk0 ce q9 H locs hW hce hcv hcl => ?_) (fun hk0 H locs hW => ?_)
  · rcases hk with rfl | rfl | rfl | rfl
    · exact absurd rfl hk0
    · refine q_catch hF hZ htab [] ⟨0, 10, 13, 24⟩ [⟨0, 10, 17, 15⟩, ⟨0, 10, 21, 33⟩] rfl pass_nil (by decide) (by decide) cl_24 ca_3 hce hcv hcl ?_
      refine lv_astore (lv' := [(4, .ref q9), (0, .ref h_), (1, .int x1), (2, .int x2), (3, .ref ho)]) hx hb dL_planToCell_13 hl (by decide) rfl (fun ls hl => ?_)
      refine lv_iconst (v := 1) hx hb dL_planToCell_15 (by decide) ?_
      exact hret dL_planToCell_16 rfl (Nat.le_of_ble_eq_true rfl) (Nat.le_of_ble_eq_true rfl) hW
    · refine q_catch hF hZ htab [⟨0, 10, 13, 24⟩] ⟨0, 10, 17, 15⟩ [⟨0, 10, 21, 33⟩] rfl (pass_cons (by decide) (hF.2.2.2.2 _ cl_24) (hN 2 3 (by decide) (by decide) (by decide)) pass_nil) (by decide) (by decide) cl_15 ca_2 hce hcv hcl ?_
      refine lv_astore (lv' := [(4, .ref q9), (0, .ref h_), (1, .int x1), (2, .int x2), (3, .ref ho)]) hx hb dL_planToCell_17 hl (by decide) rfl (fun ls hl => ?_)
      refine lv_iconst (v := 2) hx hb dL_planToCell_19 (by decide) ?_
      exact hret dL_planToCell_20 rfl (Nat.le_of_ble_eq_true rfl) (Nat.le_of_ble_eq_true rfl) hW
    · refine q_catch hF hZ htab [⟨0, 10, 13, 24⟩, ⟨0, 10, 17, 15⟩] ⟨0, 10, 21, 33⟩ [] rfl (pass_cons (by decide) (hF.2.2.2.2 _ cl_24) (hN 4 3 (by decide) (by decide) (by decide)) (pass_cons (by decide) (hF.2.2.2.2 _ cl_15) (hN 4 2 (by decide) (by decide) (by decide)) pass_nil)) (by decide) (by decide) cl_33 ca_4 hce hcv hcl ?_
      refine lv_astore (lv' := [(4, .ref q9), (0, .ref h_), (1, .int x1), (2, .int x2), (3, .ref ho)]) hx hb dL_planToCell_21 hl (by decide) rfl (fun ls hl => ?_)
      refine lv_iconst (v := 3) hx hb dL_planToCell_23 (by decide) ?_
      exact hret dL_planToCell_24 rfl (Nat.le_of_ble_eq_true rfl) (Nat.le_of_ble_eq_true rfl) hW
  · subst hk0
    refine lv_i2l hx hb dL_planToCell_8 rfl ?_
    refine q_lastE hF hK hW dL_planToCell_9 (fun H locs hW => ?_)
    refine lv_goto (tgt := 25) hx hb dL_planToCell_10 (by decide) ?_
    refine lv_iconst (v := 0) hx hb dL_planToCell_25 (by decide) ?_
    exact hret dL_planToCell_26 rfl (Nat.le_of_ble_eq_true rfl) (Nat.le_of_ble_eq_true rfl) hW
def hh_planSmooth : List (Nat × Nat × Nat × Nat) := [(0, 10, 13, 24), (0, 10, 17, 15), (0, 10, 21, 33)]
theorem mw_planSmooth : Cond.codeWith yL_planSmooth cL_planSmooth 5 (some .int) hh_planSmooth ∈ WG := WG_of (tb_5 _ (List.mem_of_getElem? (i := 27) rfl)) rfl
set_option maxHeartbeats 4000000 in
set_option maxRecDepth 100000 in
theorem v_planSmooth (l : Launch) (D : va_G) (E : Nat → ClassId) (h_ ho : Nat) (x1 x2 : Int32) (wc wc' : va_W) (k : Nat) (rv : Int32) (f : Nat → Int64) {fs : List Value} (hC : XI l yX7_planSmooth cX7_planSmooth 3 (some .int) 7 153 3 18 D E TXL [.ref h_, .int x1, .int x2] wc wc' k rv) (he : wc[0]? = some (h_, .inr (9, fs))) (ha : wc'.map (·.1) = wc.map (·.1)) (hk : k = 0 ∨ k = 3 ∨ k = 2 ∨ k = 4) : LW l yL_planSmooth cL_planSmooth 5 hh_planSmooth 8 175 3 18 D E TXL [.ref h_, .int x1, .int x2, .ref ho] (wc ++ [(ho, .inl (E 4, 1, .inr (.inl f)))]) (wc' ++ [(ho, .inl (E 4, 1, .inr (.inl (if k = 0 then vp_updL f 0 rv.toInt64 else f))))]) (if k = 3 then 1 else (if k = 2 then 2 else (if k = 4 then 3 else 0))) := by
  refine LW_of pn_L rfl (Nat.le_of_ble_eq_true rfl) (fun p e s m args below meth c A Q hF htab hK hA hZ hN hW hret ls hl => ?_)
  have hx := hF.1
  have hb := hF.2.1
  have hl : lv_has ls 5 [(0, .ref h_), (1, .int x1), (2, .int x2), (3, .ref ho)] := hl
  refine lv_aload_n hx hb dL_planSmooth_0 rfl (lv_at hl 3 rfl) ?_
  refine lv_iconst (v := 0) hx hb dL_planSmooth_1 (by decide) ?_
  refine lv_aload_n hx hb dL_planSmooth_2 rfl (lv_at hl 0 rfl) ?_
  refine lv_iload_n hx hb dL_planSmooth_3 rfl (lv_at hl 1 rfl) ?_
  refine lv_iload_n hx hb dL_planSmooth_4 rfl (lv_at hl 2 rfl) ?_
  refine q_wI hF hl.1 hK hA hZ hW mv_X7_planSmooth ml_L_106 hC (q := (RX7, TX7, 13)) rfl he rfl ha ⟨Nat.le_of_ble_eq_true rfl, Nat.le_of_ble_eq_true rfl⟩ ⟨Nat.le_of_ble_eq_true rfl, Nat.le_of_ble_eq_true rfl⟩ rfl rfl (Nat.le_of_ble_eq_true rfl) dL_planSmooth_5 (fun hk0 ce q9 H locs hW hce hcv hcl => ?_) (fun hk0 H locs hW => ?_)
  · rcases hk with rfl | rfl | rfl | rfl
    · exact absurd rfl hk0
    · refine q_catch hF hZ htab [] ⟨0, 10, 13, 24⟩ [⟨0, 10, 17, 15⟩, ⟨0, 10, 21, 33⟩] rfl pass_nil (by decide) (by decide) cl_24 ca_3 hce hcv hcl ?_
      refine lv_astore (lv' := [(4, .ref q9), (0, .ref h_), (1, .int x1), (2, .int x2), (3, .ref ho)]) hx hb dL_planSmooth_13 hl (by decide) rfl (fun ls hl => ?_)
      refine lv_iconst (v := 1) hx hb dL_planSmooth_15 (by decide) ?_
      exact hret dL_planSmooth_16 rfl (Nat.le_of_ble_eq_true rfl) (Nat.le_of_ble_eq_true rfl) hW
    · refine q_catch hF hZ htab [⟨0, 10, 13, 24⟩] ⟨0, 10, 17, 15⟩ [⟨0, 10, 21, 33⟩] rfl (pass_cons (by decide) (hF.2.2.2.2 _ cl_24) (hN 2 3 (by decide) (by decide) (by decide)) pass_nil) (by decide) (by decide) cl_15 ca_2 hce hcv hcl ?_
      refine lv_astore (lv' := [(4, .ref q9), (0, .ref h_), (1, .int x1), (2, .int x2), (3, .ref ho)]) hx hb dL_planSmooth_17 hl (by decide) rfl (fun ls hl => ?_)
      refine lv_iconst (v := 2) hx hb dL_planSmooth_19 (by decide) ?_
      exact hret dL_planSmooth_20 rfl (Nat.le_of_ble_eq_true rfl) (Nat.le_of_ble_eq_true rfl) hW
    · refine q_catch hF hZ htab [⟨0, 10, 13, 24⟩, ⟨0, 10, 17, 15⟩] ⟨0, 10, 21, 33⟩ [] rfl (pass_cons (by decide) (hF.2.2.2.2 _ cl_24) (hN 4 3 (by decide) (by decide) (by decide)) (pass_cons (by decide) (hF.2.2.2.2 _ cl_15) (hN 4 2 (by decide) (by decide) (by decide)) pass_nil)) (by decide) (by decide) cl_33 ca_4 hce hcv hcl ?_
      refine lv_astore (lv' := [(4, .ref q9), (0, .ref h_), (1, .int x1), (2, .int x2), (3, .ref ho)]) hx hb dL_planSmooth_21 hl (by decide) rfl (fun ls hl => ?_)
      refine lv_iconst (v := 3) hx hb dL_planSmooth_23 (by decide) ?_
      exact hret dL_planSmooth_24 rfl (Nat.le_of_ble_eq_true rfl) (Nat.le_of_ble_eq_true rfl) hW
  · subst hk0
    refine lv_i2l hx hb dL_planSmooth_8 rfl ?_
    refine q_lastE hF hK hW dL_planSmooth_9 (fun H locs hW => ?_)
    refine lv_goto (tgt := 25) hx hb dL_planSmooth_10 (by decide) ?_
    refine lv_iconst (v := 0) hx hb dL_planSmooth_25 (by decide) ?_
    exact hret dL_planSmooth_26 rfl (Nat.le_of_ble_eq_true rfl) (Nat.le_of_ble_eq_true rfl) hW
def hh_planNear : List (Nat × Nat × Nat × Nat) := [(0, 10, 13, 24), (0, 10, 17, 15), (0, 10, 21, 33)]
theorem mw_planNear : Cond.codeWith yL_planNear cL_planNear 5 (some .int) hh_planNear ∈ WG := WG_of (tb_5 _ (List.mem_of_getElem? (i := 63) rfl)) rfl
set_option maxHeartbeats 4000000 in
set_option maxRecDepth 100000 in
theorem v_planNear (l : Launch) (D : va_G) (E : Nat → ClassId) (h_ ho : Nat) (x1 x2 : Int32) (wc wc' : va_W) (k : Nat) (rv : Int32) (f : Nat → Int64) {fs : List Value} (hC : XI l yX7_planNear cX7_planNear 6 (some .int) 8 173 4 24 D E TXL [.ref h_, .int x1, .int x2] wc wc' k rv) (he : wc[0]? = some (h_, .inr (9, fs))) (ha : wc'.map (·.1) = wc.map (·.1)) (hk : k = 0 ∨ k = 3 ∨ k = 2 ∨ k = 4) : LW l yL_planNear cL_planNear 5 hh_planNear 9 198 4 24 D E TXL [.ref h_, .int x1, .int x2, .ref ho] (wc ++ [(ho, .inl (E 4, 1, .inr (.inl f)))]) (wc' ++ [(ho, .inl (E 4, 1, .inr (.inl (if k = 0 then vp_updL f 0 rv.toInt64 else f))))]) (if k = 3 then 1 else (if k = 2 then 2 else (if k = 4 then 3 else 0))) := by
  refine LW_of pn_L rfl (Nat.le_of_ble_eq_true rfl) (fun p e s m args below meth c A Q hF htab hK hA hZ hN hW hret ls hl => ?_)
  have hx := hF.1
  have hb := hF.2.1
  have hl : lv_has ls 5 [(0, .ref h_), (1, .int x1), (2, .int x2), (3, .ref ho)] := hl
  refine lv_aload_n hx hb dL_planNear_0 rfl (lv_at hl 3 rfl) ?_
  refine lv_iconst (v := 0) hx hb dL_planNear_1 (by decide) ?_
  refine lv_aload_n hx hb dL_planNear_2 rfl (lv_at hl 0 rfl) ?_
  refine lv_iload_n hx hb dL_planNear_3 rfl (lv_at hl 1 rfl) ?_
  refine lv_iload_n hx hb dL_planNear_4 rfl (lv_at hl 2 rfl) ?_
  refine q_wI hF hl.1 hK hA hZ hW mv_X7_planNear ml_L_109 hC (q := (RX7, TX7, 13)) rfl he rfl ha ⟨Nat.le_of_ble_eq_true rfl, Nat.le_of_ble_eq_true rfl⟩ ⟨Nat.le_of_ble_eq_true rfl, Nat.le_of_ble_eq_true rfl⟩ rfl rfl (Nat.le_of_ble_eq_true rfl) dL_planNear_5 (fun hk0 ce q9 H locs hW hce hcv hcl => ?_) (fun hk0 H locs hW => ?_)
  · rcases hk with rfl | rfl | rfl | rfl
    · exact absurd rfl hk0
    · refine q_catch hF hZ htab [] ⟨0, 10, 13, 24⟩ [⟨0, 10, 17, 15⟩, ⟨0, 10, 21, 33⟩] rfl pass_nil (by decide) (by decide) cl_24 ca_3 hce hcv hcl ?_
      refine lv_astore (lv' := [(4, .ref q9), (0, .ref h_), (1, .int x1), (2, .int x2), (3, .ref ho)]) hx hb dL_planNear_13 hl (by decide) rfl (fun ls hl => ?_)
      refine lv_iconst (v := 1) hx hb dL_planNear_15 (by decide) ?_
      exact hret dL_planNear_16 rfl (Nat.le_of_ble_eq_true rfl) (Nat.le_of_ble_eq_true rfl) hW
    · refine q_catch hF hZ htab [⟨0, 10, 13, 24⟩] ⟨0, 10, 17, 15⟩ [⟨0, 10, 21, 33⟩] rfl (pass_cons (by decide) (hF.2.2.2.2 _ cl_24) (hN 2 3 (by decide) (by decide) (by decide)) pass_nil) (by decide) (by decide) cl_15 ca_2 hce hcv hcl ?_
      refine lv_astore (lv' := [(4, .ref q9), (0, .ref h_), (1, .int x1), (2, .int x2), (3, .ref ho)]) hx hb dL_planNear_17 hl (by decide) rfl (fun ls hl => ?_)
      refine lv_iconst (v := 2) hx hb dL_planNear_19 (by decide) ?_
      exact hret dL_planNear_20 rfl (Nat.le_of_ble_eq_true rfl) (Nat.le_of_ble_eq_true rfl) hW
    · refine q_catch hF hZ htab [⟨0, 10, 13, 24⟩, ⟨0, 10, 17, 15⟩] ⟨0, 10, 21, 33⟩ [] rfl (pass_cons (by decide) (hF.2.2.2.2 _ cl_24) (hN 4 3 (by decide) (by decide) (by decide)) (pass_cons (by decide) (hF.2.2.2.2 _ cl_15) (hN 4 2 (by decide) (by decide) (by decide)) pass_nil)) (by decide) (by decide) cl_33 ca_4 hce hcv hcl ?_
      refine lv_astore (lv' := [(4, .ref q9), (0, .ref h_), (1, .int x1), (2, .int x2), (3, .ref ho)]) hx hb dL_planNear_21 hl (by decide) rfl (fun ls hl => ?_)
      refine lv_iconst (v := 3) hx hb dL_planNear_23 (by decide) ?_
      exact hret dL_planNear_24 rfl (Nat.le_of_ble_eq_true rfl) (Nat.le_of_ble_eq_true rfl) hW
  · subst hk0
    refine lv_i2l hx hb dL_planNear_8 rfl ?_
    refine q_lastE hF hK hW dL_planNear_9 (fun H locs hW => ?_)
    refine lv_goto (tgt := 25) hx hb dL_planNear_10 (by decide) ?_
    refine lv_iconst (v := 0) hx hb dL_planNear_25 (by decide) ?_
    exact hret dL_planNear_26 rfl (Nat.le_of_ble_eq_true rfl) (Nat.le_of_ble_eq_true rfl) hW
def hh_pathLength : List (Nat × Nat × Nat × Nat) := [(0, 8, 11, 33)]
theorem mw_pathLength : Cond.codeWith yL_pathLength cL_pathLength 3 (some .int) hh_pathLength ∈ WG := WG_of (tb_5 _ (List.mem_of_getElem? (i := 70) rfl)) rfl
set_option maxHeartbeats 4000000 in
set_option maxRecDepth 100000 in
theorem v_pathLength (l : Launch) (D : va_G) (E : Nat → ClassId) (h_ ho : Nat) (wc wc' : va_W) (k : Nat) (rv : Int32) (f : Nat → Int64) {fs : List Value} (hC : XI l yX7_pathLength cX7_pathLength 1 (some .int) 7 116 1 6 D E TXL [.ref h_] wc wc' k rv) (he : wc[0]? = some (h_, .inr (9, fs))) (ha : wc'.map (·.1) = wc.map (·.1)) (hk : k = 0 ∨ k = 4) : LW l yL_pathLength cL_pathLength 3 hh_pathLength 8 136 1 6 D E TXL [.ref h_, .ref ho] (wc ++ [(ho, .inl (E 4, 1, .inr (.inl f)))]) (wc' ++ [(ho, .inl (E 4, 1, .inr (.inl (if k = 0 then vp_updL f 0 rv.toInt64 else f))))]) (if k = 4 then 1 else 0) := by
  refine LW_of pn_L rfl (Nat.le_of_ble_eq_true rfl) (fun p e s m args below meth c A Q hF htab hK hA hZ hN hW hret ls hl => ?_)
  have hx := hF.1
  have hb := hF.2.1
  have hl : lv_has ls 3 [(0, .ref h_), (1, .ref ho)] := hl
  refine lv_aload_n hx hb dL_pathLength_0 rfl (lv_at hl 1 rfl) ?_
  refine lv_iconst (v := 0) hx hb dL_pathLength_1 (by decide) ?_
  refine lv_aload_n hx hb dL_pathLength_2 rfl (lv_at hl 0 rfl) ?_
  refine q_wI hF hl.1 hK hA hZ hW mv_X7_pathLength ml_L_112 hC (q := (RX7, TX7, 13)) rfl he rfl ha ⟨Nat.le_of_ble_eq_true rfl, Nat.le_of_ble_eq_true rfl⟩ ⟨Nat.le_of_ble_eq_true rfl, Nat.le_of_ble_eq_true rfl⟩ rfl rfl (Nat.le_of_ble_eq_true rfl) dL_pathLength_3 (fun hk0 ce q9 H locs hW hce hcv hcl => ?_) (fun hk0 H locs hW => ?_)
  · rcases hk with rfl | rfl
    · exact absurd rfl hk0
    · refine q_catch hF hZ htab [] ⟨0, 8, 11, 33⟩ [] rfl pass_nil (by decide) (by decide) cl_33 ca_4 hce hcv hcl ?_
      refine lv_astore_n (lv' := [(2, .ref q9), (0, .ref h_), (1, .ref ho)]) hx hb dL_pathLength_11 rfl hl (by decide) rfl (fun ls hl => ?_)
      refine lv_iconst (v := 1) hx hb dL_pathLength_12 (by decide) ?_
      exact hret dL_pathLength_13 rfl (Nat.le_of_ble_eq_true rfl) (Nat.le_of_ble_eq_true rfl) hW
  · subst hk0
    refine lv_i2l hx hb dL_pathLength_6 rfl ?_
    refine q_lastE hF hK hW dL_pathLength_7 (fun H locs hW => ?_)
    refine lv_goto (tgt := 14) hx hb dL_pathLength_8 (by decide) ?_
    refine lv_iconst (v := 0) hx hb dL_pathLength_14 (by decide) ?_
    exact hret dL_pathLength_15 rfl (Nat.le_of_ble_eq_true rfl) (Nat.le_of_ble_eq_true rfl) hW
def hh_pathMove : List (Nat × Nat × Nat × Nat) := [(0, 9, 12, 33)]
theorem mw_pathMove : Cond.codeWith yL_pathMove cL_pathMove 4 (some .int) hh_pathMove ∈ WG := WG_of (tb_5 _ (List.mem_of_getElem? (i := 81) rfl)) rfl
set_option maxHeartbeats 4000000 in
set_option maxRecDepth 100000 in
theorem v_pathMove (l : Launch) (D : va_G) (E : Nat → ClassId) (h_ ho : Nat) (x1 : Int32) (wc wc' : va_W) (k : Nat) (rv : Int32) (f : Nat → Int64) {fs : List Value} (hC : XI l yX7_pathMove cX7_pathMove 2 (some .int) 7 116 2 12 D E TXL [.ref h_, .int x1] wc wc' k rv) (he : wc[0]? = some (h_, .inr (9, fs))) (ha : wc'.map (·.1) = wc.map (·.1)) (hk : k = 0 ∨ k = 4) : LW l yL_pathMove cL_pathMove 4 hh_pathMove 8 137 2 12 D E TXL [.ref h_, .int x1, .ref ho] (wc ++ [(ho, .inl (E 4, 1, .inr (.inl f)))]) (wc' ++ [(ho, .inl (E 4, 1, .inr (.inl (if k = 0 then vp_updL f 0 rv.toInt64 else f))))]) (if k = 4 then 1 else 0) := by
  refine LW_of pn_L rfl (Nat.le_of_ble_eq_true rfl) (fun p e s m args below meth c A Q hF htab hK hA hZ hN hW hret ls hl => ?_)
  have hx := hF.1
  have hb := hF.2.1
  have hl : lv_has ls 4 [(0, .ref h_), (1, .int x1), (2, .ref ho)] := hl
  refine lv_aload_n hx hb dL_pathMove_0 rfl (lv_at hl 2 rfl) ?_
  refine lv_iconst (v := 0) hx hb dL_pathMove_1 (by decide) ?_
  refine lv_aload_n hx hb dL_pathMove_2 rfl (lv_at hl 0 rfl) ?_
  refine lv_iload_n hx hb dL_pathMove_3 rfl (lv_at hl 1 rfl) ?_
  refine q_wI hF hl.1 hK hA hZ hW mv_X7_pathMove ml_L_115 hC (q := (RX7, TX7, 13)) rfl he rfl ha ⟨Nat.le_of_ble_eq_true rfl, Nat.le_of_ble_eq_true rfl⟩ ⟨Nat.le_of_ble_eq_true rfl, Nat.le_of_ble_eq_true rfl⟩ rfl rfl (Nat.le_of_ble_eq_true rfl) dL_pathMove_4 (fun hk0 ce q9 H locs hW hce hcv hcl => ?_) (fun hk0 H locs hW => ?_)
  · rcases hk with rfl | rfl
    · exact absurd rfl hk0
    · refine q_catch hF hZ htab [] ⟨0, 9, 12, 33⟩ [] rfl pass_nil (by decide) (by decide) cl_33 ca_4 hce hcv hcl ?_
      refine lv_astore_n (lv' := [(3, .ref q9), (0, .ref h_), (1, .int x1), (2, .ref ho)]) hx hb dL_pathMove_12 rfl hl (by decide) rfl (fun ls hl => ?_)
      refine lv_iconst (v := 1) hx hb dL_pathMove_13 (by decide) ?_
      exact hret dL_pathMove_14 rfl (Nat.le_of_ble_eq_true rfl) (Nat.le_of_ble_eq_true rfl) hW
  · subst hk0
    refine lv_i2l hx hb dL_pathMove_7 rfl ?_
    refine q_lastE hF hK hW dL_pathMove_8 (fun H locs hW => ?_)
    refine lv_goto (tgt := 15) hx hb dL_pathMove_9 (by decide) ?_
    refine lv_iconst (v := 0) hx hb dL_pathMove_15 (by decide) ?_
    exact hret dL_pathMove_16 rfl (Nat.le_of_ble_eq_true rfl) (Nat.le_of_ble_eq_true rfl) hW
def hh_pathChanges : List (Nat × Nat × Nat × Nat) := [(0, 8, 11, 33)]
theorem mw_pathChanges : Cond.codeWith yL_pathChanges cL_pathChanges 3 (some .int) hh_pathChanges ∈ WG := WG_of (tb_5 _ (List.mem_of_getElem? (i := 90) rfl)) rfl
set_option maxHeartbeats 4000000 in
set_option maxRecDepth 100000 in
theorem v_pathChanges (l : Launch) (D : va_G) (E : Nat → ClassId) (h_ ho : Nat) (wc wc' : va_W) (k : Nat) (rv : Int32) (f : Nat → Int64) {fs : List Value} (hC : XI l yX7_pathChanges cX7_pathChanges 1 (some .int) 7 116 1 6 D E TXL [.ref h_] wc wc' k rv) (he : wc[0]? = some (h_, .inr (9, fs))) (ha : wc'.map (·.1) = wc.map (·.1)) (hk : k = 0 ∨ k = 4) : LW l yL_pathChanges cL_pathChanges 3 hh_pathChanges 8 136 1 6 D E TXL [.ref h_, .ref ho] (wc ++ [(ho, .inl (E 4, 1, .inr (.inl f)))]) (wc' ++ [(ho, .inl (E 4, 1, .inr (.inl (if k = 0 then vp_updL f 0 rv.toInt64 else f))))]) (if k = 4 then 1 else 0) := by
  refine LW_of pn_L rfl (Nat.le_of_ble_eq_true rfl) (fun p e s m args below meth c A Q hF htab hK hA hZ hN hW hret ls hl => ?_)
  have hx := hF.1
  have hb := hF.2.1
  have hl : lv_has ls 3 [(0, .ref h_), (1, .ref ho)] := hl
  refine lv_aload_n hx hb dL_pathChanges_0 rfl (lv_at hl 1 rfl) ?_
  refine lv_iconst (v := 0) hx hb dL_pathChanges_1 (by decide) ?_
  refine lv_aload_n hx hb dL_pathChanges_2 rfl (lv_at hl 0 rfl) ?_
  refine q_wI hF hl.1 hK hA hZ hW mv_X7_pathChanges ml_L_118 hC (q := (RX7, TX7, 13)) rfl he rfl ha ⟨Nat.le_of_ble_eq_true rfl, Nat.le_of_ble_eq_true rfl⟩ ⟨Nat.le_of_ble_eq_true rfl, Nat.le_of_ble_eq_true rfl⟩ rfl rfl (Nat.le_of_ble_eq_true rfl) dL_pathChanges_3 (fun hk0 ce q9 H locs hW hce hcv hcl => ?_) (fun hk0 H locs hW => ?_)
  · rcases hk with rfl | rfl
    · exact absurd rfl hk0
    · refine q_catch hF hZ htab [] ⟨0, 8, 11, 33⟩ [] rfl pass_nil (by decide) (by decide) cl_33 ca_4 hce hcv hcl ?_
      refine lv_astore_n (lv' := [(2, .ref q9), (0, .ref h_), (1, .ref ho)]) hx hb dL_pathChanges_11 rfl hl (by decide) rfl (fun ls hl => ?_)
      refine lv_iconst (v := 1) hx hb dL_pathChanges_12 (by decide) ?_
      exact hret dL_pathChanges_13 rfl (Nat.le_of_ble_eq_true rfl) (Nat.le_of_ble_eq_true rfl) hW
  · subst hk0
    refine lv_i2l hx hb dL_pathChanges_6 rfl ?_
    refine q_lastE hF hK hW dL_pathChanges_7 (fun H locs hW => ?_)
    refine lv_goto (tgt := 14) hx hb dL_pathChanges_8 (by decide) ?_
    refine lv_iconst (v := 0) hx hb dL_pathChanges_14 (by decide) ?_
    exact hret dL_pathChanges_15 rfl (Nat.le_of_ble_eq_true rfl) (Nat.le_of_ble_eq_true rfl) hW
def hh_follow : List (Nat × Nat × Nat × Nat) := [(0, 9, 12, 13), (0, 9, 15, 33)]
theorem mw_follow : Cond.codeWith yL_follow cL_follow 4 (some .int) hh_follow ∈ WG := WG_of (tb_5 _ (List.mem_of_getElem? (i := 97) rfl)) rfl
set_option maxHeartbeats 4000000 in
set_option maxRecDepth 100000 in
theorem v_follow (l : Launch) (D : va_G) (E : Nat → ClassId) (h_ ho : Nat) (x1 : Int32) (wc wc' : va_W) (k : Nat) (rv : Int32) (f : Nat → Int64) {fs : List Value} (hC : XI l yX7_follow cX7_follow 5 (some .int) 7 116 1 6 D E TXL [.ref h_, .int x1] wc wc' k rv) (he : wc[0]? = some (h_, .inr (9, fs))) (ha : wc'.map (·.1) = wc.map (·.1)) (hk : k = 0 ∨ k = 1 ∨ k = 4) : LW l yL_follow cL_follow 4 hh_follow 8 140 1 6 D E TXL [.ref h_, .int x1, .ref ho] (wc ++ [(ho, .inl (E 4, 1, .inr (.inl f)))]) (wc' ++ [(ho, .inl (E 4, 1, .inr (.inl (if k = 0 then vp_updL f 0 rv.toInt64 else f))))]) (if k = 1 then 1 else (if k = 4 then 2 else 0)) := by
  refine LW_of pn_L rfl (Nat.le_of_ble_eq_true rfl) (fun p e s m args below meth c A Q hF htab hK hA hZ hN hW hret ls hl => ?_)
  have hx := hF.1
  have hb := hF.2.1
  have hl : lv_has ls 4 [(0, .ref h_), (1, .int x1), (2, .ref ho)] := hl
  refine lv_aload_n hx hb dL_follow_0 rfl (lv_at hl 2 rfl) ?_
  refine lv_iconst (v := 0) hx hb dL_follow_1 (by decide) ?_
  refine lv_aload_n hx hb dL_follow_2 rfl (lv_at hl 0 rfl) ?_
  refine lv_iload_n hx hb dL_follow_3 rfl (lv_at hl 1 rfl) ?_
  refine q_wI hF hl.1 hK hA hZ hW mv_X7_follow ml_L_121 hC (q := (RX7, TX7, 13)) rfl he rfl ha ⟨Nat.le_of_ble_eq_true rfl, Nat.le_of_ble_eq_true rfl⟩ ⟨Nat.le_of_ble_eq_true rfl, Nat.le_of_ble_eq_true rfl⟩ rfl rfl (Nat.le_of_ble_eq_true rfl) dL_follow_4 (fun hk0 ce q9 H locs hW hce hcv hcl => ?_) (fun hk0 H locs hW => ?_)
  · rcases hk with rfl | rfl | rfl
    · exact absurd rfl hk0
    · refine q_catch hF hZ htab [] ⟨0, 9, 12, 13⟩ [⟨0, 9, 15, 33⟩] rfl pass_nil (by decide) (by decide) cl_13 ca_1 hce hcv hcl ?_
      refine lv_astore_n (lv' := [(3, .ref q9), (0, .ref h_), (1, .int x1), (2, .ref ho)]) hx hb dL_follow_12 rfl hl (by decide) rfl (fun ls hl => ?_)
      refine lv_iconst (v := 1) hx hb dL_follow_13 (by decide) ?_
      exact hret dL_follow_14 rfl (Nat.le_of_ble_eq_true rfl) (Nat.le_of_ble_eq_true rfl) hW
    · refine q_catch hF hZ htab [⟨0, 9, 12, 13⟩] ⟨0, 9, 15, 33⟩ [] rfl (pass_cons (by decide) (hF.2.2.2.2 _ cl_13) (hN 4 1 (by decide) (by decide) (by decide)) pass_nil) (by decide) (by decide) cl_33 ca_4 hce hcv hcl ?_
      refine lv_astore_n (lv' := [(3, .ref q9), (0, .ref h_), (1, .int x1), (2, .ref ho)]) hx hb dL_follow_15 rfl hl (by decide) rfl (fun ls hl => ?_)
      refine lv_iconst (v := 2) hx hb dL_follow_16 (by decide) ?_
      exact hret dL_follow_17 rfl (Nat.le_of_ble_eq_true rfl) (Nat.le_of_ble_eq_true rfl) hW
  · subst hk0
    refine lv_i2l hx hb dL_follow_7 rfl ?_
    refine q_lastE hF hK hW dL_follow_8 (fun H locs hW => ?_)
    refine lv_goto (tgt := 18) hx hb dL_follow_9 (by decide) ?_
    refine lv_iconst (v := 0) hx hb dL_follow_18 (by decide) ?_
    exact hret dL_follow_19 rfl (Nat.le_of_ble_eq_true rfl) (Nat.le_of_ble_eq_true rfl) hW
def hh_back : List (Nat × Nat × Nat × Nat) := [(0, 9, 12, 13), (0, 9, 15, 33)]
theorem mw_back : Cond.codeWith yL_back cL_back 4 (some .int) hh_back ∈ WG := WG_of (tb_5 _ (List.mem_of_getElem? (i := 105) rfl)) rfl
set_option maxHeartbeats 4000000 in
set_option maxRecDepth 100000 in
theorem v_back (l : Launch) (D : va_G) (E : Nat → ClassId) (h_ ho : Nat) (x1 : Int32) (wc wc' : va_W) (k : Nat) (rv : Int32) (f : Nat → Int64) {fs : List Value} (hC : XI l yX7_back cX7_back 5 (some .int) 7 116 1 6 D E TXL [.ref h_, .int x1] wc wc' k rv) (he : wc[0]? = some (h_, .inr (9, fs))) (ha : wc'.map (·.1) = wc.map (·.1)) (hk : k = 0 ∨ k = 1 ∨ k = 4) : LW l yL_back cL_back 4 hh_back 8 140 1 6 D E TXL [.ref h_, .int x1, .ref ho] (wc ++ [(ho, .inl (E 4, 1, .inr (.inl f)))]) (wc' ++ [(ho, .inl (E 4, 1, .inr (.inl (if k = 0 then vp_updL f 0 rv.toInt64 else f))))]) (if k = 1 then 1 else (if k = 4 then 2 else 0)) := by
  refine LW_of pn_L rfl (Nat.le_of_ble_eq_true rfl) (fun p e s m args below meth c A Q hF htab hK hA hZ hN hW hret ls hl => ?_)
  have hx := hF.1
  have hb := hF.2.1
  have hl : lv_has ls 4 [(0, .ref h_), (1, .int x1), (2, .ref ho)] := hl
  refine lv_aload_n hx hb dL_back_0 rfl (lv_at hl 2 rfl) ?_
  refine lv_iconst (v := 0) hx hb dL_back_1 (by decide) ?_
  refine lv_aload_n hx hb dL_back_2 rfl (lv_at hl 0 rfl) ?_
  refine lv_iload_n hx hb dL_back_3 rfl (lv_at hl 1 rfl) ?_
  refine q_wI hF hl.1 hK hA hZ hW mv_X7_back ml_L_124 hC (q := (RX7, TX7, 13)) rfl he rfl ha ⟨Nat.le_of_ble_eq_true rfl, Nat.le_of_ble_eq_true rfl⟩ ⟨Nat.le_of_ble_eq_true rfl, Nat.le_of_ble_eq_true rfl⟩ rfl rfl (Nat.le_of_ble_eq_true rfl) dL_back_4 (fun hk0 ce q9 H locs hW hce hcv hcl => ?_) (fun hk0 H locs hW => ?_)
  · rcases hk with rfl | rfl | rfl
    · exact absurd rfl hk0
    · refine q_catch hF hZ htab [] ⟨0, 9, 12, 13⟩ [⟨0, 9, 15, 33⟩] rfl pass_nil (by decide) (by decide) cl_13 ca_1 hce hcv hcl ?_
      refine lv_astore_n (lv' := [(3, .ref q9), (0, .ref h_), (1, .int x1), (2, .ref ho)]) hx hb dL_back_12 rfl hl (by decide) rfl (fun ls hl => ?_)
      refine lv_iconst (v := 1) hx hb dL_back_13 (by decide) ?_
      exact hret dL_back_14 rfl (Nat.le_of_ble_eq_true rfl) (Nat.le_of_ble_eq_true rfl) hW
    · refine q_catch hF hZ htab [⟨0, 9, 12, 13⟩] ⟨0, 9, 15, 33⟩ [] rfl (pass_cons (by decide) (hF.2.2.2.2 _ cl_13) (hN 4 1 (by decide) (by decide) (by decide)) pass_nil) (by decide) (by decide) cl_33 ca_4 hce hcv hcl ?_
      refine lv_astore_n (lv' := [(3, .ref q9), (0, .ref h_), (1, .int x1), (2, .ref ho)]) hx hb dL_back_15 rfl hl (by decide) rfl (fun ls hl => ?_)
      refine lv_iconst (v := 2) hx hb dL_back_16 (by decide) ?_
      exact hret dL_back_17 rfl (Nat.le_of_ble_eq_true rfl) (Nat.le_of_ble_eq_true rfl) hW
  · subst hk0
    refine lv_i2l hx hb dL_back_7 rfl ?_
    refine q_lastE hF hK hW dL_back_8 (fun H locs hW => ?_)
    refine lv_goto (tgt := 18) hx hb dL_back_9 (by decide) ?_
    refine lv_iconst (v := 0) hx hb dL_back_18 (by decide) ?_
    exact hret dL_back_19 rfl (Nat.le_of_ble_eq_true rfl) (Nat.le_of_ble_eq_true rfl) hW
def hh_pathCells : List (Nat × Nat × Nat × Nat) := [(0, 8, 11, 33)]
theorem mw_pathCells : Cond.codeWith yL_pathCells cL_pathCells 3 (some .int) hh_pathCells ∈ WG := WG_of (tb_5 _ (List.mem_of_getElem? (i := 112) rfl)) rfl
set_option maxHeartbeats 4000000 in
set_option maxRecDepth 100000 in
theorem v_pathCells (l : Launch) (D : va_G) (E : Nat → ClassId) (h_ ho : Nat) (wc wc' : va_W) (k : Nat) (rv : Int32) (f : Nat → Int64) {fs : List Value} (hC : XI l yX7_pathCells cX7_pathCells 5 (some .int) 7 116 1 6 D E TXL [.ref h_] wc wc' k rv) (he : wc[0]? = some (h_, .inr (9, fs))) (ha : wc'.map (·.1) = wc.map (·.1)) (hk : k = 0 ∨ k = 4) : LW l yL_pathCells cL_pathCells 3 hh_pathCells 8 140 1 6 D E TXL [.ref h_, .ref ho] (wc ++ [(ho, .inl (E 4, 1, .inr (.inl f)))]) (wc' ++ [(ho, .inl (E 4, 1, .inr (.inl (if k = 0 then vp_updL f 0 rv.toInt64 else f))))]) (if k = 4 then 1 else 0) := by
  refine LW_of pn_L rfl (Nat.le_of_ble_eq_true rfl) (fun p e s m args below meth c A Q hF htab hK hA hZ hN hW hret ls hl => ?_)
  have hx := hF.1
  have hb := hF.2.1
  have hl : lv_has ls 3 [(0, .ref h_), (1, .ref ho)] := hl
  refine lv_aload_n hx hb dL_pathCells_0 rfl (lv_at hl 1 rfl) ?_
  refine lv_iconst (v := 0) hx hb dL_pathCells_1 (by decide) ?_
  refine lv_aload_n hx hb dL_pathCells_2 rfl (lv_at hl 0 rfl) ?_
  refine q_wI hF hl.1 hK hA hZ hW mv_X7_pathCells ml_L_127 hC (q := (RX7, TX7, 13)) rfl he rfl ha ⟨Nat.le_of_ble_eq_true rfl, Nat.le_of_ble_eq_true rfl⟩ ⟨Nat.le_of_ble_eq_true rfl, Nat.le_of_ble_eq_true rfl⟩ rfl rfl (Nat.le_of_ble_eq_true rfl) dL_pathCells_3 (fun hk0 ce q9 H locs hW hce hcv hcl => ?_) (fun hk0 H locs hW => ?_)
  · rcases hk with rfl | rfl
    · exact absurd rfl hk0
    · refine q_catch hF hZ htab [] ⟨0, 8, 11, 33⟩ [] rfl pass_nil (by decide) (by decide) cl_33 ca_4 hce hcv hcl ?_
      refine lv_astore_n (lv' := [(2, .ref q9), (0, .ref h_), (1, .ref ho)]) hx hb dL_pathCells_11 rfl hl (by decide) rfl (fun ls hl => ?_)
      refine lv_iconst (v := 1) hx hb dL_pathCells_12 (by decide) ?_
      exact hret dL_pathCells_13 rfl (Nat.le_of_ble_eq_true rfl) (Nat.le_of_ble_eq_true rfl) hW
  · subst hk0
    refine lv_i2l hx hb dL_pathCells_6 rfl ?_
    refine q_lastE hF hK hW dL_pathCells_7 (fun H locs hW => ?_)
    refine lv_goto (tgt := 14) hx hb dL_pathCells_8 (by decide) ?_
    refine lv_iconst (v := 0) hx hb dL_pathCells_14 (by decide) ?_
    exact hret dL_pathCells_15 rfl (Nat.le_of_ble_eq_true rfl) (Nat.le_of_ble_eq_true rfl) hW
def hh_bookmark : List (Nat × Nat × Nat × Nat) := [(0, 9, 12, 13), (0, 9, 15, 15)]
theorem mw_bookmark : Cond.codeWith yL_bookmark cL_bookmark 4 (some .int) hh_bookmark ∈ WG := WG_of (tb_5 _ (List.mem_of_getElem? (i := 120) rfl)) rfl
set_option maxHeartbeats 4000000 in
set_option maxRecDepth 100000 in
theorem v_bookmark (l : Launch) (D : va_G) (E : Nat → ClassId) (h_ ho : Nat) (x1 : Int32) (wc wc' : va_W) (k : Nat) (rv : Int32) (f : Nat → Int64) {fs : List Value} (hC : XI l yX7_bookmark cX7_bookmark 2 (some .int) 7 116 2 12 D E TXL [.ref h_, .int x1] wc wc' k rv) (he : wc[0]? = some (h_, .inr (9, fs))) (ha : wc'.map (·.1) = wc.map (·.1)) (hk : k = 0 ∨ k = 1 ∨ k = 2) : LW l yL_bookmark cL_bookmark 4 hh_bookmark 8 137 2 12 D E TXL [.ref h_, .int x1, .ref ho] (wc ++ [(ho, .inl (E 4, 1, .inr (.inl f)))]) (wc' ++ [(ho, .inl (E 4, 1, .inr (.inl (if k = 0 then vp_updL f 0 rv.toInt64 else f))))]) (if k = 1 then 1 else (if k = 2 then 2 else 0)) := by
  refine LW_of pn_L rfl (Nat.le_of_ble_eq_true rfl) (fun p e s m args below meth c A Q hF htab hK hA hZ hN hW hret ls hl => ?_)
  have hx := hF.1
  have hb := hF.2.1
  have hl : lv_has ls 4 [(0, .ref h_), (1, .int x1), (2, .ref ho)] := hl
  refine lv_aload_n hx hb dL_bookmark_0 rfl (lv_at hl 2 rfl) ?_
  refine lv_iconst (v := 0) hx hb dL_bookmark_1 (by decide) ?_
  refine lv_aload_n hx hb dL_bookmark_2 rfl (lv_at hl 0 rfl) ?_
  refine lv_iload_n hx hb dL_bookmark_3 rfl (lv_at hl 1 rfl) ?_
  refine q_wI hF hl.1 hK hA hZ hW mv_X7_bookmark ml_L_130 hC (q := (RX7, TX7, 13)) rfl he rfl ha ⟨Nat.le_of_ble_eq_true rfl, Nat.le_of_ble_eq_true rfl⟩ ⟨Nat.le_of_ble_eq_true rfl, Nat.le_of_ble_eq_true rfl⟩ rfl rfl (Nat.le_of_ble_eq_true rfl) dL_bookmark_4 (fun hk0 ce q9 H locs hW hce hcv hcl => ?_) (fun hk0 H locs hW => ?_)
  · rcases hk with rfl | rfl | rfl
    · exact absurd rfl hk0
    · refine q_catch hF hZ htab [] ⟨0, 9, 12, 13⟩ [⟨0, 9, 15, 15⟩] rfl pass_nil (by decide) (by decide) cl_13 ca_1 hce hcv hcl ?_
      refine lv_astore_n (lv' := [(3, .ref q9), (0, .ref h_), (1, .int x1), (2, .ref ho)]) hx hb dL_bookmark_12 rfl hl (by decide) rfl (fun ls hl => ?_)
      refine lv_iconst (v := 1) hx hb dL_bookmark_13 (by decide) ?_
      exact hret dL_bookmark_14 rfl (Nat.le_of_ble_eq_true rfl) (Nat.le_of_ble_eq_true rfl) hW
    · refine q_catch hF hZ htab [⟨0, 9, 12, 13⟩] ⟨0, 9, 15, 15⟩ [] rfl (pass_cons (by decide) (hF.2.2.2.2 _ cl_13) (hN 2 1 (by decide) (by decide) (by decide)) pass_nil) (by decide) (by decide) cl_15 ca_2 hce hcv hcl ?_
      refine lv_astore_n (lv' := [(3, .ref q9), (0, .ref h_), (1, .int x1), (2, .ref ho)]) hx hb dL_bookmark_15 rfl hl (by decide) rfl (fun ls hl => ?_)
      refine lv_iconst (v := 2) hx hb dL_bookmark_16 (by decide) ?_
      exact hret dL_bookmark_17 rfl (Nat.le_of_ble_eq_true rfl) (Nat.le_of_ble_eq_true rfl) hW
  · subst hk0
    refine lv_i2l hx hb dL_bookmark_7 rfl ?_
    refine q_lastE hF hK hW dL_bookmark_8 (fun H locs hW => ?_)
    refine lv_goto (tgt := 18) hx hb dL_bookmark_9 (by decide) ?_
    refine lv_iconst (v := 0) hx hb dL_bookmark_18 (by decide) ?_
    exact hret dL_bookmark_19 rfl (Nat.le_of_ble_eq_true rfl) (Nat.le_of_ble_eq_true rfl) hW
def hh_planToName : List (Nat × Nat × Nat × Nat) := [(0, 9, 12, 13), (0, 9, 15, 137), (0, 9, 18, 15), (0, 9, 21, 33)]
theorem mw_planToName : Cond.codeWith yL_planToName cL_planToName 4 (some .int) hh_planToName ∈ WG := WG_of (tb_5 _ (List.mem_of_getElem? (i := 141) rfl)) rfl
set_option maxHeartbeats 4000000 in
set_option maxRecDepth 100000 in
theorem v_planToName (l : Launch) (D : va_G) (E : Nat → ClassId) (h_ ho : Nat) (x1 : Int32) (wc wc' : va_W) (k : Nat) (rv : Int32) (f : Nat → Int64) {fs : List Value} (hC : XI l yX7_planToName cX7_planToName 2 (some .int) 9 169 3 18 D E TXL [.ref h_, .int x1] wc wc' k rv) (he : wc[0]? = some (h_, .inr (9, fs))) (ha : wc'.map (·.1) = wc.map (·.1)) (hk : k = 0 ∨ k = 1 ∨ k = 6 ∨ k = 2 ∨ k = 4) : LW l yL_planToName cL_planToName 4 hh_planToName 10 190 3 18 D E TXL [.ref h_, .int x1, .ref ho] (wc ++ [(ho, .inl (E 4, 1, .inr (.inl f)))]) (wc' ++ [(ho, .inl (E 4, 1, .inr (.inl (if k = 0 then vp_updL f 0 rv.toInt64 else f))))]) (if k = 1 then 1 else (if k = 6 then 2 else (if k = 2 then 3 else (if k = 4 then 4 else 0)))) := by
  refine LW_of pn_L rfl (Nat.le_of_ble_eq_true rfl) (fun p e s m args below meth c A Q hF htab hK hA hZ hN hW hret ls hl => ?_)
  have hx := hF.1
  have hb := hF.2.1
  have hl : lv_has ls 4 [(0, .ref h_), (1, .int x1), (2, .ref ho)] := hl
  refine lv_aload_n hx hb dL_planToName_0 rfl (lv_at hl 2 rfl) ?_
  refine lv_iconst (v := 0) hx hb dL_planToName_1 (by decide) ?_
  refine lv_aload_n hx hb dL_planToName_2 rfl (lv_at hl 0 rfl) ?_
  refine lv_iload_n hx hb dL_planToName_3 rfl (lv_at hl 1 rfl) ?_
  refine q_wI hF hl.1 hK hA hZ hW mv_X7_planToName ml_L_134 hC (q := (RX7, TX7, 13)) rfl he rfl ha ⟨Nat.le_of_ble_eq_true rfl, Nat.le_of_ble_eq_true rfl⟩ ⟨Nat.le_of_ble_eq_true rfl, Nat.le_of_ble_eq_true rfl⟩ rfl rfl (Nat.le_of_ble_eq_true rfl) dL_planToName_4 (fun hk0 ce q9 H locs hW hce hcv hcl => ?_) (fun hk0 H locs hW => ?_)
  · rcases hk with rfl | rfl | rfl | rfl | rfl
    · exact absurd rfl hk0
    · refine q_catch hF hZ htab [] ⟨0, 9, 12, 13⟩ [⟨0, 9, 15, 137⟩, ⟨0, 9, 18, 15⟩, ⟨0, 9, 21, 33⟩] rfl pass_nil (by decide) (by decide) cl_13 ca_1 hce hcv hcl ?_
      refine lv_astore_n (lv' := [(3, .ref q9), (0, .ref h_), (1, .int x1), (2, .ref ho)]) hx hb dL_planToName_12 rfl hl (by decide) rfl (fun ls hl => ?_)
      refine lv_iconst (v := 1) hx hb dL_planToName_13 (by decide) ?_
      exact hret dL_planToName_14 rfl (Nat.le_of_ble_eq_true rfl) (Nat.le_of_ble_eq_true rfl) hW
    · refine q_catch hF hZ htab [⟨0, 9, 12, 13⟩] ⟨0, 9, 15, 137⟩ [⟨0, 9, 18, 15⟩, ⟨0, 9, 21, 33⟩] rfl (pass_cons (by decide) (hF.2.2.2.2 _ cl_13) (hN 6 1 (by decide) (by decide) (by decide)) pass_nil) (by decide) (by decide) cl_137 ca_6 hce hcv hcl ?_
      refine lv_astore_n (lv' := [(3, .ref q9), (0, .ref h_), (1, .int x1), (2, .ref ho)]) hx hb dL_planToName_15 rfl hl (by decide) rfl (fun ls hl => ?_)
      refine lv_iconst (v := 2) hx hb dL_planToName_16 (by decide) ?_
      exact hret dL_planToName_17 rfl (Nat.le_of_ble_eq_true rfl) (Nat.le_of_ble_eq_true rfl) hW
    · refine q_catch hF hZ htab [⟨0, 9, 12, 13⟩, ⟨0, 9, 15, 137⟩] ⟨0, 9, 18, 15⟩ [⟨0, 9, 21, 33⟩] rfl (pass_cons (by decide) (hF.2.2.2.2 _ cl_13) (hN 2 1 (by decide) (by decide) (by decide)) (pass_cons (by decide) (hF.2.2.2.2 _ cl_137) (hN 2 6 (by decide) (by decide) (by decide)) pass_nil)) (by decide) (by decide) cl_15 ca_2 hce hcv hcl ?_
      refine lv_astore_n (lv' := [(3, .ref q9), (0, .ref h_), (1, .int x1), (2, .ref ho)]) hx hb dL_planToName_18 rfl hl (by decide) rfl (fun ls hl => ?_)
      refine lv_iconst (v := 3) hx hb dL_planToName_19 (by decide) ?_
      exact hret dL_planToName_20 rfl (Nat.le_of_ble_eq_true rfl) (Nat.le_of_ble_eq_true rfl) hW
    · refine q_catch hF hZ htab [⟨0, 9, 12, 13⟩, ⟨0, 9, 15, 137⟩, ⟨0, 9, 18, 15⟩] ⟨0, 9, 21, 33⟩ [] rfl (pass_cons (by decide) (hF.2.2.2.2 _ cl_13) (hN 4 1 (by decide) (by decide) (by decide)) (pass_cons (by decide) (hF.2.2.2.2 _ cl_137) (hN 4 6 (by decide) (by decide) (by decide)) (pass_cons (by decide) (hF.2.2.2.2 _ cl_15) (hN 4 2 (by decide) (by decide) (by decide)) pass_nil))) (by decide) (by decide) cl_33 ca_4 hce hcv hcl ?_
      refine lv_astore_n (lv' := [(3, .ref q9), (0, .ref h_), (1, .int x1), (2, .ref ho)]) hx hb dL_planToName_21 rfl hl (by decide) rfl (fun ls hl => ?_)
      refine lv_iconst (v := 4) hx hb dL_planToName_22 (by decide) ?_
      exact hret dL_planToName_23 rfl (Nat.le_of_ble_eq_true rfl) (Nat.le_of_ble_eq_true rfl) hW
  · subst hk0
    refine lv_i2l hx hb dL_planToName_7 rfl ?_
    refine q_lastE hF hK hW dL_planToName_8 (fun H locs hW => ?_)
    refine lv_goto (tgt := 24) hx hb dL_planToName_9 (by decide) ?_
    refine lv_iconst (v := 0) hx hb dL_planToName_24 (by decide) ?_
    exact hret dL_planToName_25 rfl (Nat.le_of_ble_eq_true rfl) (Nat.le_of_ble_eq_true rfl) hW
def hh_append : List (Nat × Nat × Nat × Nat) := [(0, 9, 12, 13), (0, 9, 15, 15)]
theorem mw_append : Cond.codeWith yL_append cL_append 4 (some .int) hh_append ∈ WG := WG_of (tb_5 _ (List.mem_of_getElem? (i := 175) rfl)) rfl
set_option maxHeartbeats 4000000 in
set_option maxRecDepth 100000 in
theorem v_append (l : Launch) (D : va_G) (E : Nat → ClassId) (h_ ho : Nat) (x1 : Int32) (wc wc' : va_W) (k : Nat) (rv : Int32) (f : Nat → Int64) {fs : List Value} (hC : XI l yX7_append cX7_append 2 (some .int) 6 96 1 6 D E TXL [.ref h_, .int x1] wc wc' k rv) (he : wc[0]? = some (h_, .inr (9, fs))) (ha : wc'.map (·.1) = wc.map (·.1)) (hk : k = 0 ∨ k = 1 ∨ k = 2) : LW l yL_append cL_append 4 hh_append 7 117 1 6 D E TXL [.ref h_, .int x1, .ref ho] (wc ++ [(ho, .inl (E 4, 1, .inr (.inl f)))]) (wc' ++ [(ho, .inl (E 4, 1, .inr (.inl (if k = 0 then vp_updL f 0 rv.toInt64 else f))))]) (if k = 1 then 1 else (if k = 2 then 2 else 0)) := by
  refine LW_of pn_L rfl (Nat.le_of_ble_eq_true rfl) (fun p e s m args below meth c A Q hF htab hK hA hZ hN hW hret ls hl => ?_)
  have hx := hF.1
  have hb := hF.2.1
  have hl : lv_has ls 4 [(0, .ref h_), (1, .int x1), (2, .ref ho)] := hl
  refine lv_aload_n hx hb dL_append_0 rfl (lv_at hl 2 rfl) ?_
  refine lv_iconst (v := 0) hx hb dL_append_1 (by decide) ?_
  refine lv_aload_n hx hb dL_append_2 rfl (lv_at hl 0 rfl) ?_
  refine lv_iload_n hx hb dL_append_3 rfl (lv_at hl 1 rfl) ?_
  refine q_wI hF hl.1 hK hA hZ hW mv_X7_append ml_L_139 hC (q := (RX7, TX7, 13)) rfl he rfl ha ⟨Nat.le_of_ble_eq_true rfl, Nat.le_of_ble_eq_true rfl⟩ ⟨Nat.le_of_ble_eq_true rfl, Nat.le_of_ble_eq_true rfl⟩ rfl rfl (Nat.le_of_ble_eq_true rfl) dL_append_4 (fun hk0 ce q9 H locs hW hce hcv hcl => ?_) (fun hk0 H locs hW => ?_)
  · rcases hk with rfl | rfl | rfl
    · exact absurd rfl hk0
    · refine q_catch hF hZ htab [] ⟨0, 9, 12, 13⟩ [⟨0, 9, 15, 15⟩] rfl pass_nil (by decide) (by decide) cl_13 ca_1 hce hcv hcl ?_
      refine lv_astore_n (lv' := [(3, .ref q9), (0, .ref h_), (1, .int x1), (2, .ref ho)]) hx hb dL_append_12 rfl hl (by decide) rfl (fun ls hl => ?_)
      refine lv_iconst (v := 1) hx hb dL_append_13 (by decide) ?_
      exact hret dL_append_14 rfl (Nat.le_of_ble_eq_true rfl) (Nat.le_of_ble_eq_true rfl) hW
    · refine q_catch hF hZ htab [⟨0, 9, 12, 13⟩] ⟨0, 9, 15, 15⟩ [] rfl (pass_cons (by decide) (hF.2.2.2.2 _ cl_13) (hN 2 1 (by decide) (by decide) (by decide)) pass_nil) (by decide) (by decide) cl_15 ca_2 hce hcv hcl ?_
      refine lv_astore_n (lv' := [(3, .ref q9), (0, .ref h_), (1, .int x1), (2, .ref ho)]) hx hb dL_append_15 rfl hl (by decide) rfl (fun ls hl => ?_)
      refine lv_iconst (v := 2) hx hb dL_append_16 (by decide) ?_
      exact hret dL_append_17 rfl (Nat.le_of_ble_eq_true rfl) (Nat.le_of_ble_eq_true rfl) hW
  · subst hk0
    refine lv_i2l hx hb dL_append_7 rfl ?_
    refine q_lastE hF hK hW dL_append_8 (fun H locs hW => ?_)
    refine lv_goto (tgt := 18) hx hb dL_append_9 (by decide) ?_
    refine lv_iconst (v := 0) hx hb dL_append_18 (by decide) ?_
    exact hret dL_append_19 rfl (Nat.le_of_ble_eq_true rfl) (Nat.le_of_ble_eq_true rfl) hW
def hh_read : List (Nat × Nat × Nat × Nat) := [(0, 8, 11, 13), (0, 8, 14, 15)]
theorem mw_read : Cond.codeWith yL_read cL_read 3 (some .int) hh_read ∈ WG := WG_of (tb_5 _ (List.mem_of_getElem? (i := 188) rfl)) rfl
set_option maxHeartbeats 4000000 in
set_option maxRecDepth 100000 in
theorem v_read (l : Launch) (D : va_G) (E : Nat → ClassId) (h_ ho : Nat) (wc wc' : va_W) (k : Nat) (rv : Int32) (f : Nat → Int64) {fs : List Value} (hC : XI l yX7_read cX7_read 3 (some .int) 6 127 1 6 D E TXL [.ref h_] wc wc' k rv) (he : wc[0]? = some (h_, .inr (9, fs))) (ha : wc'.map (·.1) = wc.map (·.1)) (hk : k = 0 ∨ k = 1 ∨ k = 2) : LW l yL_read cL_read 3 hh_read 7 149 1 6 D E TXL [.ref h_, .ref ho] (wc ++ [(ho, .inl (E 4, 1, .inr (.inl f)))]) (wc' ++ [(ho, .inl (E 4, 1, .inr (.inl (if k = 0 then vp_updL f 0 rv.toInt64 else f))))]) (if k = 1 then 1 else (if k = 2 then 2 else 0)) := by
  refine LW_of pn_L rfl (Nat.le_of_ble_eq_true rfl) (fun p e s m args below meth c A Q hF htab hK hA hZ hN hW hret ls hl => ?_)
  have hx := hF.1
  have hb := hF.2.1
  have hl : lv_has ls 3 [(0, .ref h_), (1, .ref ho)] := hl
  refine lv_aload_n hx hb dL_read_0 rfl (lv_at hl 1 rfl) ?_
  refine lv_iconst (v := 0) hx hb dL_read_1 (by decide) ?_
  refine lv_aload_n hx hb dL_read_2 rfl (lv_at hl 0 rfl) ?_
  refine q_wI hF hl.1 hK hA hZ hW mv_X7_read ml_L_142 hC (q := (RX7, TX7, 13)) rfl he rfl ha ⟨Nat.le_of_ble_eq_true rfl, Nat.le_of_ble_eq_true rfl⟩ ⟨Nat.le_of_ble_eq_true rfl, Nat.le_of_ble_eq_true rfl⟩ rfl rfl (Nat.le_of_ble_eq_true rfl) dL_read_3 (fun hk0 ce q9 H locs hW hce hcv hcl => ?_) (fun hk0 H locs hW => ?_)
  · rcases hk with rfl | rfl | rfl
    · exact absurd rfl hk0
    · refine q_catch hF hZ htab [] ⟨0, 8, 11, 13⟩ [⟨0, 8, 14, 15⟩] rfl pass_nil (by decide) (by decide) cl_13 ca_1 hce hcv hcl ?_
      refine lv_astore_n (lv' := [(2, .ref q9), (0, .ref h_), (1, .ref ho)]) hx hb dL_read_11 rfl hl (by decide) rfl (fun ls hl => ?_)
      refine lv_iconst (v := 1) hx hb dL_read_12 (by decide) ?_
      exact hret dL_read_13 rfl (Nat.le_of_ble_eq_true rfl) (Nat.le_of_ble_eq_true rfl) hW
    · refine q_catch hF hZ htab [⟨0, 8, 11, 13⟩] ⟨0, 8, 14, 15⟩ [] rfl (pass_cons (by decide) (hF.2.2.2.2 _ cl_13) (hN 2 1 (by decide) (by decide) (by decide)) pass_nil) (by decide) (by decide) cl_15 ca_2 hce hcv hcl ?_
      refine lv_astore_n (lv' := [(2, .ref q9), (0, .ref h_), (1, .ref ho)]) hx hb dL_read_14 rfl hl (by decide) rfl (fun ls hl => ?_)
      refine lv_iconst (v := 2) hx hb dL_read_15 (by decide) ?_
      exact hret dL_read_16 rfl (Nat.le_of_ble_eq_true rfl) (Nat.le_of_ble_eq_true rfl) hW
  · subst hk0
    refine lv_i2l hx hb dL_read_6 rfl ?_
    refine q_lastE hF hK hW dL_read_7 (fun H locs hW => ?_)
    refine lv_goto (tgt := 17) hx hb dL_read_8 (by decide) ?_
    refine lv_iconst (v := 0) hx hb dL_read_17 (by decide) ?_
    exact hret dL_read_18 rfl (Nat.le_of_ble_eq_true rfl) (Nat.le_of_ble_eq_true rfl) hW
def hh_errorPosition : List (Nat × Nat × Nat × Nat) := [(0, 8, 11, 33)]
theorem mw_errorPosition : Cond.codeWith yL_errorPosition cL_errorPosition 3 (some .int) hh_errorPosition ∈ WG := WG_of (tb_5 _ (List.mem_of_getElem? (i := 225) rfl)) rfl
set_option maxHeartbeats 4000000 in
set_option maxRecDepth 100000 in
theorem v_errorPosition (l : Launch) (D : va_G) (E : Nat → ClassId) (h_ ho : Nat) (wc wc' : va_W) (k : Nat) (rv : Int32) (f : Nat → Int64) {fs : List Value} (hC : XI l yX7_errorPosition cX7_errorPosition 1 (some .int) 6 96 1 6 D E TXL [.ref h_] wc wc' k rv) (he : wc[0]? = some (h_, .inr (9, fs))) (ha : wc'.map (·.1) = wc.map (·.1)) (hk : k = 0 ∨ k = 4) : LW l yL_errorPosition cL_errorPosition 3 hh_errorPosition 7 116 1 6 D E TXL [.ref h_, .ref ho] (wc ++ [(ho, .inl (E 4, 1, .inr (.inl f)))]) (wc' ++ [(ho, .inl (E 4, 1, .inr (.inl (if k = 0 then vp_updL f 0 rv.toInt64 else f))))]) (if k = 4 then 1 else 0) := by
  refine LW_of pn_L rfl (Nat.le_of_ble_eq_true rfl) (fun p e s m args below meth c A Q hF htab hK hA hZ hN hW hret ls hl => ?_)
  have hx := hF.1
  have hb := hF.2.1
  have hl : lv_has ls 3 [(0, .ref h_), (1, .ref ho)] := hl
  refine lv_aload_n hx hb dL_errorPosition_0 rfl (lv_at hl 1 rfl) ?_
  refine lv_iconst (v := 0) hx hb dL_errorPosition_1 (by decide) ?_
  refine lv_aload_n hx hb dL_errorPosition_2 rfl (lv_at hl 0 rfl) ?_
  refine q_wI hF hl.1 hK hA hZ hW mv_X7_errorPosition ml_L_145 hC (q := (RX7, TX7, 13)) rfl he rfl ha ⟨Nat.le_of_ble_eq_true rfl, Nat.le_of_ble_eq_true rfl⟩ ⟨Nat.le_of_ble_eq_true rfl, Nat.le_of_ble_eq_true rfl⟩ rfl rfl (Nat.le_of_ble_eq_true rfl) dL_errorPosition_3 (fun hk0 ce q9 H locs hW hce hcv hcl => ?_) (fun hk0 H locs hW => ?_)
  · rcases hk with rfl | rfl
    · exact absurd rfl hk0
    · refine q_catch hF hZ htab [] ⟨0, 8, 11, 33⟩ [] rfl pass_nil (by decide) (by decide) cl_33 ca_4 hce hcv hcl ?_
      refine lv_astore_n (lv' := [(2, .ref q9), (0, .ref h_), (1, .ref ho)]) hx hb dL_errorPosition_11 rfl hl (by decide) rfl (fun ls hl => ?_)
      refine lv_iconst (v := 1) hx hb dL_errorPosition_12 (by decide) ?_
      exact hret dL_errorPosition_13 rfl (Nat.le_of_ble_eq_true rfl) (Nat.le_of_ble_eq_true rfl) hW
  · subst hk0
    refine lv_i2l hx hb dL_errorPosition_6 rfl ?_
    refine q_lastE hF hK hW dL_errorPosition_7 (fun H locs hW => ?_)
    refine lv_goto (tgt := 14) hx hb dL_errorPosition_8 (by decide) ?_
    refine lv_iconst (v := 0) hx hb dL_errorPosition_14 (by decide) ?_
    exact hret dL_errorPosition_15 rfl (Nat.le_of_ble_eq_true rfl) (Nat.le_of_ble_eq_true rfl) hW
def hh_undo : List (Nat × Nat × Nat × Nat) := [(0, 8, 11, 33)]
theorem mw_undo : Cond.codeWith yL_undo cL_undo 3 (some .int) hh_undo ∈ WG := WG_of (tb_5 _ (List.mem_of_getElem? (i := 233) rfl)) rfl
set_option maxHeartbeats 4000000 in
set_option maxRecDepth 100000 in
theorem v_undo (l : Launch) (D : va_G) (E : Nat → ClassId) (h_ ho : Nat) (wc wc' : va_W) (k : Nat) (rv : Int32) (f : Nat → Int64) {fs : List Value} (hC : XI l yX7_undo cX7_undo 1 (some .int) 6 106 1 6 D E TXL [.ref h_] wc wc' k rv) (he : wc[0]? = some (h_, .inr (9, fs))) (ha : wc'.map (·.1) = wc.map (·.1)) (hk : k = 0 ∨ k = 4) : LW l yL_undo cL_undo 3 hh_undo 7 126 1 6 D E TXL [.ref h_, .ref ho] (wc ++ [(ho, .inl (E 4, 1, .inr (.inl f)))]) (wc' ++ [(ho, .inl (E 4, 1, .inr (.inl (if k = 0 then vp_updL f 0 rv.toInt64 else f))))]) (if k = 4 then 1 else 0) := by
  refine LW_of pn_L rfl (Nat.le_of_ble_eq_true rfl) (fun p e s m args below meth c A Q hF htab hK hA hZ hN hW hret ls hl => ?_)
  have hx := hF.1
  have hb := hF.2.1
  have hl : lv_has ls 3 [(0, .ref h_), (1, .ref ho)] := hl
  refine lv_aload_n hx hb dL_undo_0 rfl (lv_at hl 1 rfl) ?_
  refine lv_iconst (v := 0) hx hb dL_undo_1 (by decide) ?_
  refine lv_aload_n hx hb dL_undo_2 rfl (lv_at hl 0 rfl) ?_
  refine q_wI hF hl.1 hK hA hZ hW mv_X7_undo ml_L_148 hC (q := (RX7, TX7, 13)) rfl he rfl ha ⟨Nat.le_of_ble_eq_true rfl, Nat.le_of_ble_eq_true rfl⟩ ⟨Nat.le_of_ble_eq_true rfl, Nat.le_of_ble_eq_true rfl⟩ rfl rfl (Nat.le_of_ble_eq_true rfl) dL_undo_3 (fun hk0 ce q9 H locs hW hce hcv hcl => ?_) (fun hk0 H locs hW => ?_)
  · rcases hk with rfl | rfl
    · exact absurd rfl hk0
    · refine q_catch hF hZ htab [] ⟨0, 8, 11, 33⟩ [] rfl pass_nil (by decide) (by decide) cl_33 ca_4 hce hcv hcl ?_
      refine lv_astore_n (lv' := [(2, .ref q9), (0, .ref h_), (1, .ref ho)]) hx hb dL_undo_11 rfl hl (by decide) rfl (fun ls hl => ?_)
      refine lv_iconst (v := 1) hx hb dL_undo_12 (by decide) ?_
      exact hret dL_undo_13 rfl (Nat.le_of_ble_eq_true rfl) (Nat.le_of_ble_eq_true rfl) hW
  · subst hk0
    refine lv_i2l hx hb dL_undo_6 rfl ?_
    refine q_lastE hF hK hW dL_undo_7 (fun H locs hW => ?_)
    refine lv_goto (tgt := 14) hx hb dL_undo_8 (by decide) ?_
    refine lv_iconst (v := 0) hx hb dL_undo_14 (by decide) ?_
    exact hret dL_undo_15 rfl (Nat.le_of_ble_eq_true rfl) (Nat.le_of_ble_eq_true rfl) hW
def hh_restore : List (Nat × Nat × Nat × Nat) := [(0, 8, 11, 15)]
theorem mw_restore : Cond.codeWith yL_restore cL_restore 3 (some .int) hh_restore ∈ WG := WG_of (tb_6 _ (List.mem_of_getElem? (i := 5) rfl)) rfl
set_option maxHeartbeats 4000000 in
set_option maxRecDepth 100000 in
theorem v_restore (l : Launch) (D : va_G) (E : Nat → ClassId) (h_ ho : Nat) (wc wc' : va_W) (k : Nat) (rv : Int32) (f : Nat → Int64) {fs : List Value} (hC : XI l yX7_restore cX7_restore 1 (some .int) 6 96 1 6 D E TXL [.ref h_] wc wc' k rv) (he : wc[0]? = some (h_, .inr (9, fs))) (ha : wc'.map (·.1) = wc.map (·.1)) (hk : k = 0 ∨ k = 2) : LW l yL_restore cL_restore 3 hh_restore 7 116 1 6 D E TXL [.ref h_, .ref ho] (wc ++ [(ho, .inl (E 4, 1, .inr (.inl f)))]) (wc' ++ [(ho, .inl (E 4, 1, .inr (.inl (if k = 0 then vp_updL f 0 rv.toInt64 else f))))]) (if k = 2 then 1 else 0) := by
  refine LW_of pn_L rfl (Nat.le_of_ble_eq_true rfl) (fun p e s m args below meth c A Q hF htab hK hA hZ hN hW hret ls hl => ?_)
  have hx := hF.1
  have hb := hF.2.1
  have hl : lv_has ls 3 [(0, .ref h_), (1, .ref ho)] := hl
  refine lv_aload_n hx hb dL_restore_0 rfl (lv_at hl 1 rfl) ?_
  refine lv_iconst (v := 0) hx hb dL_restore_1 (by decide) ?_
  refine lv_aload_n hx hb dL_restore_2 rfl (lv_at hl 0 rfl) ?_
  refine q_wI hF hl.1 hK hA hZ hW mv_X7_restore ml_L_151 hC (q := (RX7, TX7, 13)) rfl he rfl ha ⟨Nat.le_of_ble_eq_true rfl, Nat.le_of_ble_eq_true rfl⟩ ⟨Nat.le_of_ble_eq_true rfl, Nat.le_of_ble_eq_true rfl⟩ rfl rfl (Nat.le_of_ble_eq_true rfl) dL_restore_3 (fun hk0 ce q9 H locs hW hce hcv hcl => ?_) (fun hk0 H locs hW => ?_)
  · rcases hk with rfl | rfl
    · exact absurd rfl hk0
    · refine q_catch hF hZ htab [] ⟨0, 8, 11, 15⟩ [] rfl pass_nil (by decide) (by decide) cl_15 ca_2 hce hcv hcl ?_
      refine lv_astore_n (lv' := [(2, .ref q9), (0, .ref h_), (1, .ref ho)]) hx hb dL_restore_11 rfl hl (by decide) rfl (fun ls hl => ?_)
      refine lv_iconst (v := 1) hx hb dL_restore_12 (by decide) ?_
      exact hret dL_restore_13 rfl (Nat.le_of_ble_eq_true rfl) (Nat.le_of_ble_eq_true rfl) hW
  · subst hk0
    refine lv_i2l hx hb dL_restore_6 rfl ?_
    refine q_lastE hF hK hW dL_restore_7 (fun H locs hW => ?_)
    refine lv_goto (tgt := 14) hx hb dL_restore_8 (by decide) ?_
    refine lv_iconst (v := 0) hx hb dL_restore_14 (by decide) ?_
    exact hret dL_restore_15 rfl (Nat.le_of_ble_eq_true rfl) (Nat.le_of_ble_eq_true rfl) hW
