/-! calls of the law's own methods -/
theorem g_subW {y : MethodName} {cc : ByteArray} {nL : Nat} {ret : Option FieldType} {hh : List (Nat × Nat × Nat × Nat)} (h : Cond.codeWith y cc nL ret hh ∈ WG) : GoodIn WG (Cond.codeWith y cc nL ret hh :: WG) := by
  intro w hw
  rcases List.mem_cons.mp hw with e | e
  · rw [e]; exact g_law _ h
  · exact g_law w e
def MW (y : MethodName) (cc : ByteArray) (nL : Nat) (hh : List (Nat × Nat × Nat × Nat)) (n : Nat) : Prop := Cond.codeWith y cc nL (some .int) hh ∈ WG ∧ Cond.static y ∈ WG ∧ Cond.initialized y.cls ∈ WG ∧ (y.cls ≠ "java/lang/invoke/MethodHandle" ∧ y.cls ≠ "java/lang/invoke/VarHandle" ∧ (parseMethodDescriptor y.desc).map (fun d => d.parameters.length) = some n)
theorem lg_cmp_self (x : Int64) : lg_cmp x x = 0 := by
  unfold lg_cmp
  simp
/-! masks: which cells of a world a call takes -/
def selB : va_W → List Bool → va_W
  | x :: xs, true :: ms => x :: selB xs ms
  | _ :: xs, false :: ms => selB xs ms
  | _, _ => []
def mrgB : va_W → List Bool → va_W → va_W
  | _ :: xs, true :: ms, y :: ys => y :: mrgB xs ms ys
  | x :: xs, false :: ms, ys => x :: mrgB xs ms ys
  | xs, _, _ => xs
def idxB : Nat → List Bool → List Nat
  | k, true :: ms => k :: idxB (k + 1) ms
  | k, false :: ms => idxB (k + 1) ms
  | _, [] => []
theorem mid_get (pre xs : va_W) (x : Nat × va_E) : (pre ++ x :: xs)[pre.length]? = some x := by
  rw [List.getElem?_append_right (Nat.le_refl _), Nat.sub_self]
  rfl
theorem mid_set (pre xs : va_W) (x y : Nat × va_E) : (pre ++ x :: xs).set pre.length y = pre ++ y :: xs := by
  rw [List.set_append_right _ _ (Nat.le_refl _), Nat.sub_self]
  rfl
theorem idx_map : ∀ (ms : List Bool) (ws pre : va_W), ms.length ≤ ws.length → (idxB pre.length ms).map (fun i => (pre ++ ws)[i]?) = (selB ws ms).map some
  | [], ws, pre, _ => by cases ws <;> rfl
  | _ :: ms, [], pre, h => absurd h (by simp)
  | true :: ms, x :: xs, pre, h => by
    have h2 := idx_map ms xs (pre ++ [x]) (Nat.le_of_succ_le_succ h)
    rw [List.append_assoc, List.length_append] at h2
    show (pre ++ x :: xs)[pre.length]? :: _ = some x :: _
    rw [mid_get]
    exact congrArg (some x :: ·) h2
  | false :: ms, x :: xs, pre, h => by
    have h2 := idx_map ms xs (pre ++ [x]) (Nat.le_of_succ_le_succ h)
    rw [List.append_assoc, List.length_append] at h2
    exact h2
theorem idx_ge : ∀ (ms : List Bool) (k i : Nat), i ∈ idxB k ms → k ≤ i ∧ i < k + ms.length
  | [], k, i, h => by cases h
  | true :: ms, k, i, h => by
    rcases List.mem_cons.mp h with e | e
    · subst e; exact ⟨Nat.le_refl _, by simp⟩
    · have := idx_ge ms (k + 1) i e
      simp only [List.length_cons]
      omega
  | false :: ms, k, i, h => by
    have := idx_ge ms (k + 1) i h
    simp only [List.length_cons]
    omega
theorem idx_nd : ∀ (ms : List Bool) (k : Nat), (idxB k ms).Nodup
  | [], k => List.nodup_nil
  | true :: ms, k => List.nodup_cons.mpr ⟨fun h => by have := (idx_ge ms (k + 1) k h).1; omega, idx_nd ms (k + 1)⟩
  | false :: ms, k => idx_nd ms (k + 1)
theorem idx_pa : ∀ (ms : List Bool) (ws pre w : va_W), ms.length ≤ ws.length → w.length = (selB ws ms).length → va_pa (pre ++ ws) (idxB pre.length ms) w = pre ++ mrgB ws ms w
  | [], ws, pre, w, _, _ => by cases ws <;> cases w <;> rfl
  | _ :: ms, [], pre, w, h, _ => absurd h (by simp)
  | true :: ms, x :: xs, pre, [], _, h => by cases h
  | true :: ms, x :: xs, pre, y :: ys, h, hl => by
    have h2 := idx_pa ms xs (pre ++ [y]) ys (Nat.le_of_succ_le_succ h) (Nat.succ.inj hl)
    rw [List.append_assoc, List.append_assoc, List.length_append] at h2
    show va_pa ((pre ++ x :: xs).set pre.length y) (idxB (pre.length + 1) ms) ys = pre ++ y :: mrgB xs ms ys
    rw [mid_set]
    exact h2
  | false :: ms, x :: xs, pre, w, h, hl => by
    have h2 := idx_pa ms xs (pre ++ [x]) w (Nat.le_of_succ_le_succ h) hl
    rw [List.append_assoc, List.append_assoc, List.length_append] at h2
    have e : mrgB (x :: xs) (false :: ms) w = x :: mrgB xs ms w := by cases w <;> rfl
    rw [e]
    exact h2
section QLW
variable {p : Program} {l : Launch} {e : Env} {R : Room} {s : State} {m : MethodId} {args : Array Value} {below : List Frame} {meth : Method} {c : Code} {H : Heap} {locs : List Loc} {cells slots : Nat} {Q : State → Prop} {cc : ByteArray} {pc : Nat} {ls : Array Slot} {rest : List Value}
variable {D : va_G} {E : Nat → ClassId} {tx : List (Nat × String)} {A : Nat → Prop} {ws wc wc' : va_W} {own : String} {nL nM fr lo mc ms n : Nat} {y : MethodName} {cb : ByteArray} {hh : List (Nat × Nat × Nat × Nat)} {As st0 : List Value}
theorem q_LW (hF : CallFix p m c cc nL s args WG own) (hsz : ls.size = nL) (hK : va_K D vwCl (TY E) s) (hA : ∀ q, s.heap.size ≤ q → A q) (hZ : SF E tx A s s.heap) (hN : NCX s) (hW : WD D A s ws H locs) (hm : MW y cb nM hh n) {index : Nat} (hlk : Cond.methodLink own index y ∈ WG) {rv : Int32} (hC : LW l y cb nM hh fr lo mc ms D E tx As wc wc' rv)
    (is : List Nat) (h1 : is.map (fun i => ws[i]?) = wc.map some) (hn : va_nd is = true) (ha : wc'.map (·.1) = wc.map (·.1)) (hR : fr + 1 ≤ R.frames ∧ 8 + (nM + 11) + lo ≤ R.locals) (hcs : cells + mc ≤ R.cells ∧ slots + ms ≤ R.slots)
    (hAs : As.length = n) (hst : st0 = As.reverse ++ rest) (hrest : (rest.map fun v => v.category).sum ≤ 8) (hd : decode cc pc = .ok (.invokestatic index, 3))
    (kk : ∀ (H : Heap) (locs : List Loc), WD D A s (va_pa ws is wc') H locs → W p l e R s m args below meth c H locs (cells + mc) (slots + ms) Q (F0 m (pc + 3) ls (.int rv :: rest))) : W p l e R s m args below meth c H locs cells slots Q (F0 m pc ls st0) := by
  subst hst
  have hpre := pre_of (As := As) hK hA hZ hW is h1 hn
  have hpreN : PreS s H (va_Pc As (PreN D E tx wc H.size)) As := ⟨fb_preN, fun U hU hWm => ⟨(hpre.2 U hU hWm).1, (hpre.2 U hU hWm).2, hN.moved hWm.alike⟩⟩
  have hFc := va_free hW.2.1 hW.2.2 hA is h1
  have hG := g_subW hm.1
  refine va_calli (vx_runSW (As := As) (rest := rest) (hh := hh) (bytes := cb) (maxL := nM) (ret := some .int) (n := n) hF (hC H.size) ⟨⟨rfl, rfl, hR.1, hR.2, pay_in hF.2.2.2.2 hG, List.mem_cons_self⟩, hF.2.2.2.2 _ hm.1, hF.2.2.2.2 _ hm.2.2.1, ⟨hm.2.2.2.1, hm.2.2.2.2.1⟩, fun sig h => by
    have h2 := hm.2.2.2.2.2
    rw [h] at h2
    exact (Option.some.inj h2).symm, hF.2.2.2.2 _ hlk, hF.2.2.2.2 _ hm.2.1⟩ hpreN rfl hAs hsz rfl (lv_room hrest) hd hcs) hW.2.2 (fun q _ h => hFc q h) hFc ?_
  intro r u t H1 locs1 ht hvm hw hB hz1 hk1 hS1
  subst hw
  rw [ht] at hB
  obtain ⟨g1, g2⟩ := va_backA hW.1 hW.2.1 is h1 ha hk1 hB
  exact kk H1 locs1 ⟨g1, g2, hS1⟩
theorem q_LWP {X pool pool' wcx wcx' : va_W} {o o' : Nat × va_E} (hpf : pool'.map (·.1) = pool.map (·.1)) (hF : CallFix p m c cc nL s args WG own) (hsz : ls.size = nL) (hK : va_K D vwCl (TY E) s) (hA : ∀ q, s.heap.size ≤ q → A q) (hZ : SF E tx A s s.heap) (hN : NCX s) (hW : WD D A s (X ++ pool) H locs) (hm : MW y cb nM hh n) {index : Nat} (hlk : Cond.methodLink own index y ∈ WG) {rv : Int32} (hC : LW l y cb nM hh fr lo mc ms D E tx As (wcx ++ pool ++ [o]) (wcx' ++ pool' ++ [o']) rv)
    (is : List Nat) (ko : Nat) (h1 : is.map (fun i => X[i]?) = wcx.map some) (hko : X[ko]? = some o) (hn : va_nd (is ++ [ko]) = true) (ha : wcx'.map (·.1) = wcx.map (·.1)) (hao : o'.1 = o.1) (hR : fr + 1 ≤ R.frames ∧ 8 + (nM + 11) + lo ≤ R.locals) (hcs : cells + mc ≤ R.cells ∧ slots + ms ≤ R.slots)
    (hAs : As.length = n) (hst : st0 = As.reverse ++ rest) (hrest : (rest.map fun v => v.category).sum ≤ 8) (hd : decode cc pc = .ok (.invokestatic index, 3))
    (kk : ∀ (H : Heap) (locs : List Loc), WD D A s ((va_pa X is wcx').set ko o' ++ pool') H locs → W p l e R s m args below meth c H locs (cells + mc) (slots + ms) Q (F0 m (pc + 3) ls (.int rv :: rest))) : W p l e R s m args below meth c H locs cells slots Q (F0 m pc ls st0) := by
  have hkl : ko < X.length := (List.getElem?_eq_some_iff.mp hko).1
  have hlt := is_lt h1
  have hnn := (nd_iff _).mp hn
  have hdis := List.nodup_append.mp hnn
  have hpl : pool'.length = pool.length := by have := congrArg List.length hpf; simpa using this
  have hwl : wcx'.length = wcx.length := by have := congrArg List.length ha; simpa using this
  have hil : is.length = wcx.length := by have := congrArg List.length h1; simpa using this
  have hb := (nd_iff _).mp (blk_nd (k := pool.length) ((nd_iff _).mpr hdis.1) hlt)
  refine q_LW hF hsz hK hA hZ hN hW hm hlk hC (is ++ bk X.length pool.length ++ [ko]) ?_ ?_ ?_ hR hcs hAs hst hrest hd (fun H locs hW => ?_)
  · rw [List.map_append (l₁ := is ++ bk X.length pool.length), List.map_append (l₁ := wcx ++ pool), blk_map pool h1]
    show _ ++ [(X ++ pool)[ko]?] = _ ++ [some o]
    rw [List.getElem?_append_left hkl, hko]
  · refine (nd_iff _).mpr (List.nodup_append.mpr ⟨hb, List.nodup_cons.mpr ⟨List.not_mem_nil, List.nodup_nil⟩, fun a ha9 b hb9 e => ?_⟩)
    have e2 := List.mem_singleton.mp hb9
    subst e2
    subst e
    rcases List.mem_append.mp ha9 with z | z
    · exact hdis.2.2 a z a List.mem_cons_self rfl
    · have h8 : a ∈ List.range' X.length pool.length := z
      rw [List.mem_range'] at h8
      obtain ⟨j, -, h9⟩ := h8
      omega
  · rw [List.map_append, List.map_append, List.map_append, List.map_append, ha, hpf]
    show _ ++ [o'.1] = _ ++ [o.1]
    rw [hao]
  · have e1 : va_pa (X ++ pool) (is ++ bk X.length pool.length ++ [ko]) (wcx' ++ pool' ++ [o']) = (va_pa X is wcx').set ko o' ++ pool' := by
      rw [va_pa_app _ _ _ _ _ (by rw [List.length_append, List.length_append, hil, hwl, hpl]; show _ + (List.range' X.length pool.length).length = _; rw [List.length_range']), blk_pa hlt (hil.trans hwl.symm) hpl]
      show (va_pa X is wcx' ++ pool').set ko o' = _
      rw [List.set_append_left _ _ (by rw [va_pa_len]; exact hkl)]
    rw [e1] at hW
    exact kk H locs hW
end QLW
section QCD
variable {p : Program} {l : Launch} {e : Env} {R : Room} {s : State} {m : MethodId} {args : Array Value} {below : List Frame} {meth : Method} {c : Code} {H : Heap} {locs : List Loc} {cells slots : Nat} {Q : State → Prop} {cc : ByteArray} {pc : Nat} {ls : Array Slot} {rest : List Value}
variable {D : va_G} {E : Nat → ClassId} {tx : List (Nat × String)} {A : Nat → Prop} {ws wc wc' : va_W} {b : Nat} {own : String} {nL nM fr lo n : Nat} {y : MethodName} {cb : ByteArray} {As st0 : List Value}
theorem q_callD (hF : CallFix p m c cc nL s args WG own) (hsz : ls.size = nL) (hK : va_K D vwCl (TY E) s) (hA : ∀ q, s.heap.size ≤ q → A q) (hZ : SF E tx A s s.heap) (hW : WD D A s ws H locs) (hm : MV y cb nM (some .double) n) {index : Nat} (hlk : Cond.methodLink own index y ∈ WG) {rv : UInt64} (hC : CD l y cb nM fr lo D E tx (.ref b :: As) wc wc' rv)
    (is : List Nat) (h1 : is.map (fun i => ws[i]?) = wc.map some) (hn : va_nd is = true) {ci : Nat} {q : vw_C} {fs : List Value} (hc : vwCl[ci]? = some q) (he : wc[0]? = some (b, .inr (ci, fs))) (hq : q.1 = y.cls) (ha : wc'.map (·.1) = wc.map (·.1)) (hR : fr + 1 ≤ R.frames ∧ 8 + (nM + 11) + lo ≤ R.locals) (hcs : cells ≤ R.cells ∧ slots ≤ R.slots)
    (hAs : As.length = n) (hst : st0 = As.reverse ++ .ref b :: rest) (hrest : (rest.map fun v => v.category).sum ≤ 8) (hd : decode cc pc = .ok (.invokevirtual index, 3))
    (kk : ∀ (H : Heap) (locs : List Loc), WD D A s (va_pa ws is wc') H locs → W p l e R s m args below meth c H locs cells slots Q (F0 m (pc + 3) ls (.double rv :: rest))) : W p l e R s m args below meth c H locs cells slots Q (F0 m pc ls st0) := by
  subst hst
  have hpre := pre_of (As := .ref b :: As) hK hA hZ hW is h1 hn
  have hPc : va_P D vwCl wc H := fun k q hq => by obtain ⟨i, -, hi⟩ := va_at2 h1 hq; exact hW.1 i q hi
  have hrc := va_recv hK hPc hc he
  rw [hq] at hrc
  have hFc := va_free hW.2.1 hW.2.2 hA is h1
  refine va_calld (va_runV (As := As) (rest := rest) hF (hC H.size) ⟨callB_of (ws' := WG) n hF.2.2.2.2 (g_sub (y := y) (cc := cb) (nL := nM) (ret := some .double) hm.1) rfl rfl rfl (hF.2.2.2.2 _ hm.2.2.2.1) (hF.2.2.2.2 _ hlk) hm.2.2.2.2 hR, hF.2.2.2.2 _ hm.2.1, hF.2.2.2.2 _ hm.2.2.1⟩ ⟨hpre.1, hrc, hpre.2⟩ rfl hAs hsz rfl (lv_room hrest) hd hcs) hW.2.2 (fun q _ h => hFc q h) hFc ?_
  intro r u t H1 locs1 ht hvm hw hB hz1 hk1 hS1
  subst hw
  rw [ht] at hB
  obtain ⟨g1, g2⟩ := va_backA hW.1 hW.2.1 is h1 ha hk1 hB
  exact kk H1 locs1 ⟨g1, g2, hS1⟩
end QCD
section QM
variable {p : Program} {l : Launch} {e : Env} {R : Room} {s : State} {m : MethodId} {args : Array Value} {below : List Frame} {meth : Method} {c : Code} {H : Heap} {locs : List Loc} {cells slots : Nat} {Q : State → Prop} {cc : ByteArray} {pc : Nat} {ls : Array Slot} {rest : List Value}
variable {D : va_G} {E : Nat → ClassId} {tx : List (Nat × String)} {A : Nat → Prop} {ws wc wc' : va_W} {b : Nat} {own : String} {nL nM fr lo mc ms n : Nat} {y : MethodName} {cb : ByteArray} {hh : List (Nat × Nat × Nat × Nat)} {As st0 : List Value}
theorem mk_pa (mk : List Bool) (hm : mk.length ≤ ws.length) (h1 : selB ws mk = wc) (ha : wc'.map (·.1) = wc.map (·.1)) : va_pa ws (idxB 0 mk) wc' = mrgB ws mk wc' :=
  idx_pa mk ws [] wc' hm (by rw [h1]; have := congrArg List.length ha; simpa using this)
theorem mk_map (mk : List Bool) (hm : mk.length ≤ ws.length) (h1 : selB ws mk = wc) : (idxB 0 mk).map (fun i => ws[i]?) = wc.map some := by
  rw [← h1]; exact idx_map mk ws [] hm
theorem q_LWm (hF : CallFix p m c cc nL s args WG own) (hsz : ls.size = nL) (hK : va_K D vwCl (TY E) s) (hA : ∀ q, s.heap.size ≤ q → A q) (hZ : SF E tx A s s.heap) (hN : NCX s) (hW : WD D A s ws H locs) (hm : MW y cb nM hh n) {index : Nat} (hlk : Cond.methodLink own index y ∈ WG) {rv : Int32} (hC : LW l y cb nM hh fr lo mc ms D E tx As wc wc' rv)
    (mk : List Bool) (hml : mk.length ≤ ws.length) (h1 : selB ws mk = wc) (ha : wc'.map (·.1) = wc.map (·.1)) (hR : fr + 1 ≤ R.frames ∧ 8 + (nM + 11) + lo ≤ R.locals) (hcs : cells + mc ≤ R.cells ∧ slots + ms ≤ R.slots)
    (hAs : As.length = n) (hst : st0 = As.reverse ++ rest) (hrest : (rest.map fun v => v.category).sum ≤ 8) (hd : decode cc pc = .ok (.invokestatic index, 3))
    (kk : ∀ (H : Heap) (locs : List Loc), WD D A s (mrgB ws mk wc') H locs → W p l e R s m args below meth c H locs (cells + mc) (slots + ms) Q (F0 m (pc + 3) ls (.int rv :: rest))) : W p l e R s m args below meth c H locs cells slots Q (F0 m pc ls st0) :=
  q_LW hF hsz hK hA hZ hN hW hm hlk hC (idxB 0 mk) (mk_map mk hml h1) ((nd_iff _).mpr (idx_nd mk 0)) ha hR hcs hAs hst hrest hd (fun H locs hW => kk H locs (mk_pa mk hml h1 ha ▸ hW))
theorem q_LWPm {X pool pool' wcx wcx' : va_W} {o o' : Nat × va_E} (hpf : pool'.map (·.1) = pool.map (·.1)) (hF : CallFix p m c cc nL s args WG own) (hsz : ls.size = nL) (hK : va_K D vwCl (TY E) s) (hA : ∀ q, s.heap.size ≤ q → A q) (hZ : SF E tx A s s.heap) (hN : NCX s) (hW : WD D A s (X ++ pool) H locs) (hm : MW y cb nM hh n) {index : Nat} (hlk : Cond.methodLink own index y ∈ WG) {rv : Int32} (hC : LW l y cb nM hh fr lo mc ms D E tx As (wcx ++ pool ++ [o]) (wcx' ++ pool' ++ [o']) rv)
    (mk : List Bool) (ko : Nat) (hml : mk.length ≤ X.length) (h1 : selB X mk = wcx) (hko : X[ko]? = some o) (hn : mk.length ≤ ko) (ha : wcx'.map (·.1) = wcx.map (·.1)) (hao : o'.1 = o.1) (hR : fr + 1 ≤ R.frames ∧ 8 + (nM + 11) + lo ≤ R.locals) (hcs : cells + mc ≤ R.cells ∧ slots + ms ≤ R.slots)
    (hAs : As.length = n) (hst : st0 = As.reverse ++ rest) (hrest : (rest.map fun v => v.category).sum ≤ 8) (hd : decode cc pc = .ok (.invokestatic index, 3))
    (kk : ∀ (H : Heap) (locs : List Loc), WD D A s ((mrgB X mk wcx').set ko o' ++ pool') H locs → W p l e R s m args below meth c H locs (cells + mc) (slots + ms) Q (F0 m (pc + 3) ls (.int rv :: rest))) : W p l e R s m args below meth c H locs cells slots Q (F0 m pc ls st0) :=
  q_LWP hpf hF hsz hK hA hZ hN hW hm hlk hC (idxB 0 mk) ko (mk_map mk hml h1) hko ((nd_iff _).mpr (List.nodup_append.mpr ⟨idx_nd mk 0, List.nodup_cons.mpr ⟨List.not_mem_nil, List.nodup_nil⟩, fun a ha9 b hb9 e => by
    have h3 := (idx_ge mk 0 a ha9).2
    have h4 := List.mem_singleton.mp hb9
    omega⟩)) ha hao hR hcs hAs hst hrest hd (fun H locs hW => kk H locs (mk_pa mk hml h1 ha ▸ hW))
theorem q_callIm (hF : CallFix p m c cc nL s args WG own) (hsz : ls.size = nL) (hK : va_K D vwCl (TY E) s) (hA : ∀ q, s.heap.size ≤ q → A q) (hZ : SF E tx A s s.heap) (hW : WD D A s ws H locs) {ret : Option FieldType} (hm : MV y cb nM ret n) {index : Nat} (hlk : Cond.methodLink own index y ∈ WG) {rv : Int32} (hC : CI l y cb nM ret fr lo D E tx (.ref b :: As) wc wc' rv)
    (mk : List Bool) (hml : mk.length ≤ ws.length) (h1 : selB ws mk = wc) {ci : Nat} {q : vw_C} {fs : List Value} (hc : vwCl[ci]? = some q) (he : wc[0]? = some (b, .inr (ci, fs))) (hq : q.1 = y.cls) (ha : wc'.map (·.1) = wc.map (·.1)) (hR : fr + 1 ≤ R.frames ∧ 8 + (nM + 11) + lo ≤ R.locals) (hcs : cells ≤ R.cells ∧ slots ≤ R.slots)
    (hAs : As.length = n) (hst : st0 = As.reverse ++ .ref b :: rest) (hrest : (rest.map fun v => v.category).sum ≤ 8) (hd : decode cc pc = .ok (.invokevirtual index, 3))
    (kk : ∀ (H : Heap) (locs : List Loc), WD D A s (mrgB ws mk wc') H locs → W p l e R s m args below meth c H locs cells slots Q (F0 m (pc + 3) ls (.int rv :: rest))) : W p l e R s m args below meth c H locs cells slots Q (F0 m pc ls st0) :=
  q_callI hF hsz hK hA hZ hW hm hlk hC (idxB 0 mk) (mk_map mk hml h1) ((nd_iff _).mpr (idx_nd mk 0)) hc he hq ha hR hcs hAs hst hrest hd (fun H locs hW => kk H locs (mk_pa mk hml h1 ha ▸ hW))
theorem q_callDm (hF : CallFix p m c cc nL s args WG own) (hsz : ls.size = nL) (hK : va_K D vwCl (TY E) s) (hA : ∀ q, s.heap.size ≤ q → A q) (hZ : SF E tx A s s.heap) (hW : WD D A s ws H locs) (hm : MV y cb nM (some .double) n) {index : Nat} (hlk : Cond.methodLink own index y ∈ WG) {rv : UInt64} (hC : CD l y cb nM fr lo D E tx (.ref b :: As) wc wc' rv)
    (mk : List Bool) (hml : mk.length ≤ ws.length) (h1 : selB ws mk = wc) {ci : Nat} {q : vw_C} {fs : List Value} (hc : vwCl[ci]? = some q) (he : wc[0]? = some (b, .inr (ci, fs))) (hq : q.1 = y.cls) (ha : wc'.map (·.1) = wc.map (·.1)) (hR : fr + 1 ≤ R.frames ∧ 8 + (nM + 11) + lo ≤ R.locals) (hcs : cells ≤ R.cells ∧ slots ≤ R.slots)
    (hAs : As.length = n) (hst : st0 = As.reverse ++ .ref b :: rest) (hrest : (rest.map fun v => v.category).sum ≤ 8) (hd : decode cc pc = .ok (.invokevirtual index, 3))
    (kk : ∀ (H : Heap) (locs : List Loc), WD D A s (mrgB ws mk wc') H locs → W p l e R s m args below meth c H locs cells slots Q (F0 m (pc + 3) ls (.double rv :: rest))) : W p l e R s m args below meth c H locs cells slots Q (F0 m pc ls st0) :=
  q_callD hF hsz hK hA hZ hW hm hlk hC (idxB 0 mk) (mk_map mk hml h1) ((nd_iff _).mpr (idx_nd mk 0)) hc he hq ha hR hcs hAs hst hrest hd (fun H locs hW => kk H locs (mk_pa mk hml h1 ha ▸ hW))
end QM
/-! the world of the law's loop -/
def w_LAW (E : Nat → ClassId) (h g : Nat → Nat) (o od : Nat) (ss : Nat → Int32) (aa : Nat → Nat → Int32) (ms : Nat → Int32) (ma : Nat → Nat → Int32) (fo : Nat → Int64) (fd : Nat → UInt64) : va_W := [((h 0), .inr (9, [.ref (h 1), .ref (h 2), .ref (h 3), .ref (h 4), .ref (h 5), .ref (h 6), .ref (h 7), .ref (h 8), .ref (h 9), .ref (h 10), .ref (h 11), .int (ss 0), .int (ss 1)])), ((h 1), .inr (6, [.int (ss 10), .ref (h 12), .ref (h 13), .ref (h 14), .ref (h 15), .int (ss 11), .ref (h 16), .ref (h 17), .ref (h 18)])), ((h 12), .inl (E 0, 4, .inl (aa 1))), ((h 13), .inl (E 0, 4, .inl (aa 2))), ((h 14), .inl (E 0, 4, .inl (aa 3))), ((h 15), .inl (E 0, 4, .inl (aa 4))), ((h 16), .inl (E 0, 60, .inl (aa 5))), ((h 17), .inl (E 0, 60, .inl (aa 6))), ((h 18), .inl (E 0, 21, .inl (aa 0))), ((h 3), .inr (6, [.int (ss 24), .ref (h 42), .ref (h 43), .ref (h 44), .ref (h 45), .int (ss 25), .ref (h 46), .ref (h 47), .ref (h 48)])), ((h 2), .inr (6, [.int (ss 26), .ref (h 49), .ref (h 50), .ref (h 51), .ref (h 52), .int (ss 27), .ref (h 53), .ref (h 54), .ref (h 55)])), ((h 42), .inl (E 0, 4, .inl (aa 29))), ((h 49), .inl (E 0, 4, .inl (aa 37))), ((h 43), .inl (E 0, 4, .inl (aa 30))), ((h 50), .inl (E 0, 4, .inl (aa 38))), ((h 44), .inl (E 0, 4, .inl (aa 31))), ((h 51), .inl (E 0, 4, .inl (aa 39))), ((h 45), .inl (E 0, 4, .inl (aa 32))), ((h 52), .inl (E 0, 4, .inl (aa 40))), ((h 46), .inl (E 0, 60, .inl (aa 33))), ((h 53), .inl (E 0, 60, .inl (aa 41))), ((h 47), .inl (E 0, 60, .inl (aa 34))), ((h 54), .inl (E 0, 60, .inl (aa 42))), ((h 48), .inl (E 0, 21, .inl (aa 35))), ((h 55), .inl (E 0, 21, .inl (aa 43))), ((h 4), .inr (3, [.int (ss 12), .int (ss 13), .ref (h 19)])), ((h 6), .inr (7, [.int (ss 2), .int (ss 3), .int (ss 4), .ref (h 20), .ref (h 21), .ref (h 22), .ref (h 23), .ref (h 24), .int (ss 5), .ref (h 25), .ref (h 26), .ref (h 27)])), ((h 5), .inr (8, [.int (ss 14), .int (ss 15), .int (ss 16), .int (ss 17), .ref (h 29), .ref (h 30), .ref (h 31), .ref (h 32)])), ((h 20), .inl (E 0, 4, .inl (aa 12))), ((h 29), .inl (E 0, 4, .inl (aa 7))), ((h 21), .inl (E 0, 4, .inl (aa 13))), ((h 30), .inl (E 0, 4, .inl (aa 8))), ((h 22), .inl (E 0, 5000, .inl (aa 14))), ((h 31), .inl (E 0, 4, .inl (aa 9))), ((h 23), .inl (E 0, 5000, .inl (aa 20))), ((h 32), .inl (E 0, 21, .inl (aa 10))), ((h 24), .inl (E 0, 5000, .inl (aa 21))), ((h 25), .inl (E 0, 40000, .inl (aa 24))), ((h 26), .inr (8, [.int (ss 18), .int (ss 19), .int (ss 20), .int (ss 21), .ref (h 33), .ref (h 34), .ref (h 35), .ref (h 36)])), ((h 33), .inl (E 0, 4, .inl (aa 15))), ((h 34), .inl (E 0, 4, .inl (aa 16))), ((h 35), .inl (E 0, 4, .inl (aa 17))), ((h 36), .inl (E 0, 21, .inl (aa 18))), ((h 27), .inl (E 0, 4, .inl (aa 19))), ((h 7), .inr (5, [.int (ss 6), .int (ss 7), .int (ss 8), .int (ss 9), .ref (h 28)])), ((h 28), .inl (E 0, 5000, .inl (aa 23))), ((h 9), .inr (4, [.int (ss 23), .ref (h 40), .ref (h 41)])), ((h 11), .inl (E 0, 441, .inl (aa 22))), ((h 8), .inr (2, [.int (ss 22), .ref (h 37), .ref (h 38), .ref (h 39)])), ((h 40), .inl (E 2, 60, .inl (aa 28))), ((h 37), .inl (E 1, 26, .inl (aa 25))), ((h 41), .inl (E 0, 3, .inl (aa 36))), ((h 38), .inl (E 0, 26, .inl (aa 26))), ((h 39), .inl (E 0, 104, .inl (aa 27))), ((h 10), .inl (E 0, 4, .inl (aa 11))), ((g 0), .inr (10, [.ref (g 1), .ref (g 2), .int (ms 0), .ref (g 3), .int (ms 1), .ref (g 4), .int (ms 2), .int (ms 3), .int (ms 4), .ref (g 5), .ref (g 6), .ref (g 7), .ref (g 8), .int (ms 5), .ref (g 9), .ref (g 10), .ref (g 11), .ref (g 12), .int (ms 6), .ref (g 13), .ref (g 14), .ref (g 15), .ref (g 16), .ref (g 17), .int (ms 7), .int (ms 8), .int (ms 9), .ref (g 18), .int (ms 10), .int (ms 11), .ref (g 19)])), ((g 1), .inl (E 0, 141, .inl (ma 0))), ((g 3), .inl (E 0, 1128, .inl (ma 1))), ((g 4), .inl (E 0, 5000, .inl (ma 12))), ((g 2), .inl (E 0, 141, .inl (ma 2))), ((g 17), .inl (E 0, 60, .inl (ma 16))), ((g 5), .inl (E 0, 4, .inl (ma 3))), ((g 18), .inl (E 0, 60, .inl (ma 17))), ((g 6), .inl (E 0, 4, .inl (ma 4))), ((g 19), .inl (E 0, 141, .inl (ma 18))), ((g 7), .inl (E 0, 5, .inl (ma 5))), ((g 8), .inl (E 0, 5, .inl (ma 6))), ((g 9), .inl (E 1, 5000, .inl (ma 7))), ((g 10), .inl (E 0, 5000, .inl (ma 8))), ((g 11), .inl (E 0, 5000, .inl (ma 9))), ((g 12), .inl (E 0, 5000, .inl (ma 10))), ((g 13), .inl (E 0, 441, .inl (ma 11))), ((g 14), .inl (E 0, 45000, .inl (ma 13))), ((g 15), .inl (E 0, 26, .inl (ma 14))), ((g 16), .inl (E 0, 104, .inl (ma 15))), (o, .inl (E 4, 1, .inr (.inl fo))), (od, .inl (E 5, 1, .inr (.inr (.inr (.inl fd)))))]
/-- what stays, all along the loop -/
def LCC (p : Program) (l : Launch) (s : State) (m : MethodId) (c : Code) (D : va_G) (E : Nat → ClassId) (A : Nat → Prop) (b N : Nat) (xs : Nat → Int32) : Prop := CallFix p m c cL_law 9 s #[.ref b] WG RL ∧ l.stackTraces = false ∧ va_K D vwCl (TY E) s ∧ (∀ q, s.heap.size ≤ q → A q) ∧ SF E TXL A s s.heap ∧ NCX s ∧ va_X b N xs s s.heap ∧ b < s.heap.size ∧ ¬ A b ∧ N ≤ 2048
/-- what holds at the loop's head -/
def LSS (D : va_G) (E : Nat → ClassId) (A : Nat → Prop) (s : State) (h g : Nat → Nat) (hp : Nat → Nat → Nat) (o od : Nat) (H : Heap) (locs : List Loc) : Prop := ∃ (ss : Nat → Int32) (aa : Nat → Nat → Int32) (pl po : Nat → Int32) (pa : Nat → Nat → Nat → Int32) (ms : Nat → Int32) (ma : Nat → Nat → Int32) (fo : Nat → Int64) (fd : Nat → UInt64), REL ss aa pl po pa ms ma ∧ WD D A s (w_LAW E h g o od ss aa ms ma fo fd ++ w_pool E (h 19) hp pl po pa) H locs
theorem ix_ok {i N : Nat} (hi : i + 4 ≤ N) (hN : N ≤ 2048) : vp_in (nI i) N ∧ vp_in (nI i + 1) N ∧ vp_in (nI i + 2) N ∧ vp_in (nI i + 3) N := ⟨vp_in_nI (by omega) (by omega), by rw [show nI i + 1 = nI (i + 1) from nI_add i 1]; exact vp_in_nI (by omega) (by omega), by rw [show nI i + 2 = nI (i + 2) from nI_add i 2]; exact vp_in_nI (by omega) (by omega), by rw [show nI i + 3 = nI (i + 3) from nI_add i 3]; exact vp_in_nI (by omega) (by omega)⟩
theorem in_L : Cond.initialized RL ∈ WG := WG_of (tb_1 _ (List.mem_of_getElem? (i := 0) rfl)) rfl
theorem mW_addLink : MW yL_addLink cL_addLink 6 hh_addLink 5 := ⟨mw_addLink, WG_of (tb_2 _ (List.mem_of_getElem? (i := 169) rfl)) rfl, in_L, by decide +kernel⟩
theorem mW_removeLink : MW yL_removeLink cL_removeLink 3 hh_removeLink 2 := ⟨mw_removeLink, WG_of (tb_3 _ (List.mem_of_getElem? (i := 42) rfl)) rfl, in_L, by decide +kernel⟩
theorem mW_setLimits : MW yL_setLimits cL_setLimits 6 hh_setLimits 5 := ⟨mw_setLimits, WG_of (tb_3 _ (List.mem_of_getElem? (i := 54) rfl)) rfl, in_L, by decide +kernel⟩
theorem mW_addObstacle : MW yL_addObstacle cL_addObstacle 5 hh_addObstacle 4 := ⟨mw_addObstacle, WG_of (tb_3 _ (List.mem_of_getElem? (i := 107) rfl)) rfl, in_L, by decide +kernel⟩
theorem mW_removeObstacle : MW yL_removeObstacle cL_removeObstacle 5 hh_removeObstacle 4 := ⟨mw_removeObstacle, WG_of (tb_3 _ (List.mem_of_getElem? (i := 131) rfl)) rfl, in_L, by decide +kernel⟩
theorem mW_count : MW yL_count cL_count 4 hh_count 3 := ⟨mw_count, WG_of (tb_3 _ (List.mem_of_getElem? (i := 159) rfl)) rfl, in_L, by decide +kernel⟩
theorem mW_joint : MW yL_joint cL_joint 5 hh_joint 4 := ⟨mw_joint, WG_of (tb_3 _ (List.mem_of_getElem? (i := 175) rfl)) rfl, in_L, by decide +kernel⟩
theorem mW_isObstacle : MW yL_isObstacle cL_isObstacle 5 hh_isObstacle 4 := ⟨mw_isObstacle, WG_of (tb_3 _ (List.mem_of_getElem? (i := 186) rfl)) rfl, in_L, by decide +kernel⟩
theorem mW_obstacle : MW yL_obstacle cL_obstacle 5 hh_obstacle 4 := ⟨mw_obstacle, WG_of (tb_3 _ (List.mem_of_getElem? (i := 193) rfl)) rfl, in_L, by decide +kernel⟩
theorem mW_setValue : MW yL_setValue cL_setValue 5 hh_setValue 4 := ⟨mw_setValue, WG_of (tb_3 _ (List.mem_of_getElem? (i := 201) rfl)) rfl, in_L, by decide +kernel⟩
theorem mW_move : MW yL_move cL_move 4 hh_move 3 := ⟨mw_move, WG_of (tb_3 _ (List.mem_of_getElem? (i := 217) rfl)) rfl, in_L, by decide +kernel⟩
theorem mW_faultyLink : MW yL_faultyLink cL_faultyLink 3 hh_faultyLink 2 := ⟨mw_faultyLink, WG_of (tb_3 _ (List.mem_of_getElem? (i := 230) rfl)) rfl, in_L, by decide +kernel⟩
theorem mW_linksAt : MW yL_linksAt cL_linksAt 5 hh_linksAt 4 := ⟨mw_linksAt, WG_of (tb_3 _ (List.mem_of_getElem? (i := 238) rfl)) rfl, in_L, by decide +kernel⟩
theorem mW_clearance : MW yL_clearance cL_clearance 3 hh_clearance 2 := ⟨mw_clearance, WG_of (tb_4 _ (List.mem_of_getElem? (i := 13) rfl)) rfl, in_L, by decide +kernel⟩
theorem mW_freePoses : MW yL_freePoses cL_freePoses 3 hh_freePoses 2 := ⟨mw_freePoses, WG_of (tb_4 _ (List.mem_of_getElem? (i := 34) rfl)) rfl, in_L, by decide +kernel⟩
theorem mW_poseValue : MW yL_poseValue cL_poseValue 5 hh_poseValue 4 := ⟨mw_poseValue, WG_of (tb_4 _ (List.mem_of_getElem? (i := 73) rfl)) rfl, in_L, by decide +kernel⟩
theorem mW_isFreePose : MW yL_isFreePose cL_isFreePose 4 hh_isFreePose 3 := ⟨mw_isFreePose, WG_of (tb_4 _ (List.mem_of_getElem? (i := 82) rfl)) rfl, in_L, by decide +kernel⟩
theorem mW_posesAt : MW yL_posesAt cL_posesAt 5 hh_posesAt 4 := ⟨mw_posesAt, WG_of (tb_4 _ (List.mem_of_getElem? (i := 94) rfl)) rfl, in_L, by decide +kernel⟩
theorem mW_connected : MW yL_connected cL_connected 3 hh_connected 2 := ⟨mw_connected, WG_of (tb_4 _ (List.mem_of_getElem? (i := 103) rfl)) rfl, in_L, by decide +kernel⟩
theorem mW_reachableCells : MW yL_reachableCells cL_reachableCells 3 hh_reachableCells 2 := ⟨mw_reachableCells, WG_of (tb_4 _ (List.mem_of_getElem? (i := 139) rfl)) rfl, in_L, by decide +kernel⟩
theorem mW_favorite : MW yL_favorite cL_favorite 4 hh_favorite 3 := ⟨mw_favorite, WG_of (tb_4 _ (List.mem_of_getElem? (i := 158) rfl)) rfl, in_L, by decide +kernel⟩
theorem mW_farthest : MW yL_farthest cL_farthest 3 hh_farthest 2 := ⟨mw_farthest, WG_of (tb_4 _ (List.mem_of_getElem? (i := 176) rfl)) rfl, in_L, by decide +kernel⟩
theorem mW_groups : MW yL_groups cL_groups 3 hh_groups 2 := ⟨mw_groups, WG_of (tb_4 _ (List.mem_of_getElem? (i := 184) rfl)) rfl, in_L, by decide +kernel⟩
theorem mW_freedom : MW yL_freedom cL_freedom 3 hh_freedom 2 := ⟨mw_freedom, WG_of (tb_4 _ (List.mem_of_getElem? (i := 191) rfl)) rfl, in_L, by decide +kernel⟩
theorem mW_planToPose : MW yL_planToPose cL_planToPose 4 hh_planToPose 3 := ⟨mw_planToPose, WG_of (tb_4 _ (List.mem_of_getElem? (i := 219) rfl)) rfl, in_L, by decide +kernel⟩
theorem mW_planToCell : MW yL_planToCell cL_planToCell 5 hh_planToCell 4 := ⟨mw_planToCell, WG_of (tb_5 _ (List.mem_of_getElem? (i := 15) rfl)) rfl, in_L, by decide +kernel⟩
theorem mW_planSmooth : MW yL_planSmooth cL_planSmooth 5 hh_planSmooth 4 := ⟨mw_planSmooth, WG_of (tb_5 _ (List.mem_of_getElem? (i := 26) rfl)) rfl, in_L, by decide +kernel⟩
theorem mW_planNear : MW yL_planNear cL_planNear 5 hh_planNear 4 := ⟨mw_planNear, WG_of (tb_5 _ (List.mem_of_getElem? (i := 62) rfl)) rfl, in_L, by decide +kernel⟩
theorem mW_pathLength : MW yL_pathLength cL_pathLength 3 hh_pathLength 2 := ⟨mw_pathLength, WG_of (tb_5 _ (List.mem_of_getElem? (i := 69) rfl)) rfl, in_L, by decide +kernel⟩
theorem mW_pathMove : MW yL_pathMove cL_pathMove 4 hh_pathMove 3 := ⟨mw_pathMove, WG_of (tb_5 _ (List.mem_of_getElem? (i := 80) rfl)) rfl, in_L, by decide +kernel⟩
theorem mW_pathChanges : MW yL_pathChanges cL_pathChanges 3 hh_pathChanges 2 := ⟨mw_pathChanges, WG_of (tb_5 _ (List.mem_of_getElem? (i := 89) rfl)) rfl, in_L, by decide +kernel⟩
theorem mW_follow : MW yL_follow cL_follow 4 hh_follow 3 := ⟨mw_follow, WG_of (tb_5 _ (List.mem_of_getElem? (i := 96) rfl)) rfl, in_L, by decide +kernel⟩
theorem mW_back : MW yL_back cL_back 4 hh_back 3 := ⟨mw_back, WG_of (tb_5 _ (List.mem_of_getElem? (i := 104) rfl)) rfl, in_L, by decide +kernel⟩
theorem mW_pathCells : MW yL_pathCells cL_pathCells 3 hh_pathCells 2 := ⟨mw_pathCells, WG_of (tb_5 _ (List.mem_of_getElem? (i := 111) rfl)) rfl, in_L, by decide +kernel⟩
theorem mW_bookmark : MW yL_bookmark cL_bookmark 4 hh_bookmark 3 := ⟨mw_bookmark, WG_of (tb_5 _ (List.mem_of_getElem? (i := 119) rfl)) rfl, in_L, by decide +kernel⟩
theorem mW_planToName : MW yL_planToName cL_planToName 4 hh_planToName 3 := ⟨mw_planToName, WG_of (tb_5 _ (List.mem_of_getElem? (i := 140) rfl)) rfl, in_L, by decide +kernel⟩
theorem mW_append : MW yL_append cL_append 4 hh_append 3 := ⟨mw_append, WG_of (tb_5 _ (List.mem_of_getElem? (i := 174) rfl)) rfl, in_L, by decide +kernel⟩
theorem mW_read : MW yL_read cL_read 3 hh_read 2 := ⟨mw_read, WG_of (tb_5 _ (List.mem_of_getElem? (i := 187) rfl)) rfl, in_L, by decide +kernel⟩
theorem mW_errorPosition : MW yL_errorPosition cL_errorPosition 3 hh_errorPosition 2 := ⟨mw_errorPosition, WG_of (tb_5 _ (List.mem_of_getElem? (i := 224) rfl)) rfl, in_L, by decide +kernel⟩
theorem mW_undo : MW yL_undo cL_undo 3 hh_undo 2 := ⟨mw_undo, WG_of (tb_5 _ (List.mem_of_getElem? (i := 232) rfl)) rfl, in_L, by decide +kernel⟩
theorem mW_restore : MW yL_restore cL_restore 3 hh_restore 2 := ⟨mw_restore, WG_of (tb_6 _ (List.mem_of_getElem? (i := 4) rfl)) rfl, in_L, by decide +kernel⟩
theorem ch_ok (x : Int32) : ∃ c : Int, (x.toUInt32 % 65536).toInt32 = J c ∧ 0 ≤ c ∧ c ≤ 65535 := by
  have h : (x.toUInt32 % 65536).toNat < 65536 := by rw [UInt32.toNat_mod]; exact Nat.mod_lt _ (by decide)
  have hv : ((x.toUInt32 % 65536).toInt32).toInt = ((x.toUInt32 % 65536).toNat : Int) := by
    show (x.toUInt32 % 65536).toBitVec.toInt = _
    rw [BitVec.toInt_eq_toNat_of_lt (show 2 * (x.toUInt32 % 65536).toNat < 2 ^ 32 by omega)]
    rfl
  refine ⟨((x.toUInt32 % 65536).toInt32).toInt, (J_of _).symm, ?_, ?_⟩
  · omega
  · omega
