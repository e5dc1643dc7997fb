/-! the texts of the throws; what each kind of throw rests on; the scenes of the history as one block of cells -/
def TXL : List (Nat × String) := [(97, "a number is out of range"), (104, "there are 4 links"), (114, "there are no links"), (124, "no such joint"), (127, "a limit is out of range"), (496, "the cell is outside of the area"), (141, "the cell is the base"), (150, "there are 60 obstacles, or the cell is one"), (157, "the cell is no obstacle"), (170, "what is not 0 to 3"), (203, "what is not 0 to 7"), (205, "no such obstacle"), (216, "value is not within the limits"), (227, "there is no joint for the move"), (236, "the move is not possible"), (253, "the pose is free"), (268, "there are no links or no obstacles"), (473, "there are more than 5000 poses"), (288, "no such pose or joint"), (485, "no such pose"), (483, "the present pose is not free"), (340, "there is no free pose"), (481, "there is no path"), (378, "the path has no such move"), (383, "moves is negative"), (498, "the name is out of range"), (413, "6 other names are used"), (425, "the name is not used, or its pose does not suit"), (431, "the character code is out of range"), (434, "the input has 60 characters"), (449, "the input is not a text of this kind"), (451, "a link or an obstacle cannot be added"), (453, "no error position was kept"), (457, "no change is remembered"), (462, "nothing was saved")]
set_option maxRecDepth 100000 in
theorem th_1 : TH RX7 (exName 1) 95 99 := Or.inl ⟨by decide +kernel, WG_of (tb_2 _ (List.mem_of_getElem? (i := 180) rfl)) rfl, WG_of (tb_1 _ (List.mem_of_getElem? (i := 14) rfl)) rfl, by decide +kernel, by decide +kernel, by decide +kernel⟩
set_option maxRecDepth 100000 in
theorem th_2 : TH RX7 (exName 2) 102 106 := Or.inl ⟨by decide +kernel, WG_of (tb_3 _ (List.mem_of_getElem? (i := 12) rfl)) rfl, WG_of (tb_1 _ (List.mem_of_getElem? (i := 15) rfl)) rfl, by decide +kernel, by decide +kernel, by decide +kernel⟩
set_option maxRecDepth 100000 in
theorem th_3 : TH RX7 (exName 3) 122 126 := Or.inl ⟨by decide +kernel, WG_of (tb_3 _ (List.mem_of_getElem? (i := 85) rfl)) rfl, WG_of (tb_1 _ (List.mem_of_getElem? (i := 17) rfl)) rfl, by decide +kernel, by decide +kernel, by decide +kernel⟩
set_option maxRecDepth 100000 in
theorem th_5 : TH RX7 (exName 5) 338 342 := Or.inl ⟨by decide +kernel, WG_of (tb_4 _ (List.mem_of_getElem? (i := 215) rfl)) rfl, WG_of (tb_1 _ (List.mem_of_getElem? (i := 22) rfl)) rfl, by decide +kernel, by decide +kernel, by decide +kernel⟩
set_option maxRecDepth 100000 in
theorem th_6 : TH RX7 (exName 6) 423 427 := Or.inl ⟨by decide +kernel, WG_of (tb_5 _ (List.mem_of_getElem? (i := 153) rfl)) rfl, WG_of (tb_1 _ (List.mem_of_getElem? (i := 23) rfl)) rfl, by decide +kernel, by decide +kernel, by decide +kernel⟩
set_option maxRecDepth 100000 in
theorem th_4 : TH RX7 (exName 4) 155 159 := Or.inr ⟨rfl, by decide, WG_of (tb_3 _ (List.mem_of_getElem? (i := 138) rfl)) rfl, WG_of (tb_1 _ (List.mem_of_getElem? (i := 21) rfl)) rfl, by decide +kernel, by decide +kernel, by decide +kernel⟩
theorem Met_ofWF {l : Launch} {y : MethodName} {ws ws' : List Cond} {rm : Room} {Pc : Array Value → State → Prop} {Qc : Array Value → State → Outcome → State → Prop} {mc ms : Nat} {free : Addr → Prop} {cc : ByteArray} {maxL : Nat} {ret : Option FieldType} (hy : plainFor y = true) (hw : ws = Cond.code y cc maxL ret :: ws')
    (body : ∀ p e s m args below meth c s₁, BodyLoose p l y (headSpec ws rm) cc maxL ret e s m args below meth c s₁ → c.maxLocals = maxL → Pc args s → W p l e (headSpec ws rm).room s m args below meth c s.heap [] 0 0 (MQ below Qc args s mc ms free) (entryFrame m args maxL)) : Met l y ws rm Pc Qc mc ms free := by
  refine MetFree.of_bodySF (code := cc) (maxLocals := maxL) (ret := ret) hy (fun args s m h hn => ?_) (fun p e s m args below meth c s₁ B hml hP _ => ?_)
  · obtain ⟨meth, c, h1, h2, h3, h4, h5, h6, -, -⟩ := Cond.code_spec hn (atoms_spec (ws := ws) h _ (by rw [hw]; exact List.mem_cons_self))
    exact ⟨meth, c, h1, h2, h3, h4, h5, h6⟩
  · obtain ⟨t, a1, o, b1, b2, b3⟩ := body p e s m args below meth c s₁ B hml hP s₁ (by rw [B.state]; rfl) (Stand.of_body B)
    exact ⟨t, o, a1, b1, b2, ⟨b3.1, b3.2⟩⟩
theorem CI_ofF {l : Launch} {y : MethodName} {cc : ByteArray} {nL : Nat} {ret : FieldType} {fr lo : Nat} {D : va_G} {E : Nat → ClassId} {tx : List (Nat × String)} {As : List Value} {ws ws' : va_W} {r : Int32} (own : String) (hy : plainFor y = true) (ho : y.cls = own) (hn : (lg_sl As).length ≤ nL)
    (h : ∀ (p : Program) (e : Env) (s : State) (m : MethodId) (args : Array Value) (below : List Frame) (meth : Method) (c : Code) (A : Nat → Prop) (Q : State → Prop), CallFix p m c cc nL s args WG own → va_K D vwCl (TY E) s → (∀ q, s.heap.size ≤ q → A q) → SF E tx A s s.heap → WD D A s ws s.heap [] →
      (∀ {pc : Nat} {H : Heap} {locs : List Loc} {ls : Array Slot} {v : Int32}, decode cc pc = .ok (.ireturn, 1) → narrow ret (.int v) = .int v → v = r → WD D A s ws' H locs → W p l e (RM fr lo) s m args below meth c H locs 0 0 Q (F0 m pc ls [.int v])) →
      ∀ ls : Array Slot, lv_has ls nL (lv_args 0 As) → W p l e (RM fr lo) s m args below meth c s.heap [] 0 0 Q (F0 m 0 ls [])) : CI l y cc nL (some ret) fr lo D E tx As ws ws' r := by
  intro sz
  refine Met_ofWF (cc := cc) (maxL := nL) (ret := some ret) hy rfl ?_
  intro p e s m args below meth c s₁ B hml hv
  obtain ⟨rfl, hsz, hP, hK, hD0, hZ⟩ := hv
  subst hsz
  have hts := atoms_spec (ws := GW y cc nL (some ret)) B.pre
  have hown : s.vm.findClass own = some m.cls := by rw [← ho]; exact findClass_of_methodNamed B.named
  have hlocks := B.notSynchronized
  have hr := B.returns
  rw [lg_entry_eq]
  refine h p e s m _ below meth c (va_A ws s.heap.size) _ ⟨B.exec, B.bytes, hml, hown, fun w hw => hts w (List.mem_cons_of_mem _ hw)⟩ hK (fun q h => Or.inr h) hZ ⟨hP, hD0.self, va_S.rf⟩ ?_ _ (lv_entry As hn)
  intro pc H locs ls v hd hr9 hv hW
  subst hv
  exact W.zret B.exec B.bytes hr hr9 (fun t ht _ => ⟨⟨v, (), rfl, rfl, by show va_P D vwCl ws' t.heap; rw [ht]; exact hW.1⟩, hW.2.2.F ht⟩) hW.2.2.2.2 hd
theorem pf_J9_floorMod_7cf53 : plainFor yJ9_floorMod_7cf53 = true := by decide +kernel
theorem pf_J9_floorDiv_7cf53 : plainFor yJ9_floorDiv_7cf53 = true := by decide +kernel
def w_sc (E : Nat → ClassId) (a : Nat → Nat) (x y : Int32) (f : Nat → Nat → Int32) : va_W := [(a 0, .inr (6, [.int x, .ref (a 1), .ref (a 2), .ref (a 3), .ref (a 4), .int y, .ref (a 5), .ref (a 6), .ref (a 7)])), (a 1, .inl (E 0, 4, .inl (f 0))), (a 2, .inl (E 0, 4, .inl (f 1))), (a 3, .inl (E 0, 4, .inl (f 2))), (a 4, .inl (E 0, 4, .inl (f 3))), (a 5, .inl (E 0, 60, .inl (f 4))), (a 6, .inl (E 0, 60, .inl (f 5))), (a 7, .inl (E 0, 21, .inl (f 6)))]
def w_pool (E : Nat → ClassId) (h : Nat) (hp : Nat → Nat → Nat) (pl po : Nat → Int32) (pa : Nat → Nat → Nat → Int32) : va_W := (h, .inl (E 3, 8, .inr (.inr (.inr (.inr fun i => some (hp i 0)))))) :: ([0, 1, 2, 3, 4, 5, 6, 7].flatMap fun i => w_sc E (hp i) (pl i) (po i) (pa i))
section QP
variable {p : Program} {l : Launch} {e : Env} {R : Room} {s : State} {m : MethodId} {args : Array Value} {below : List Frame} {meth : Method} {c : Code} {H : Heap} {locs : List Loc} {cells slots : Nat} {Q : State → Prop} {cc : ByteArray} {pc : Nat} {ls : Array Slot} {rest : List Value} {ρ : Type} {r : ρ} {D : va_G} {E : Nat → ClassId} {A : Nat → Prop} {ws : va_W} {a : Nat}
theorem q_aald8 (hx : p.tables.exec = Jvm.exec) (hb : c.code = cc) (hK : va_K D vwCl (TY E) s) (hW : WD D A s ws H locs) (q0 t0 : Nat) {g : Nat → Nat} (ha : ws[q0]? = some (a, .inl (E 3, 8, .inr (.inr (.inr (.inr fun i => some (g i))))))) (ht : (TY E)[t0]? = some (E 3, .object "LatticeArm$Scene")) {i : Int32} (hd : decode cc pc = .ok (.aaload, 1)) {k0 k1 k2 k3 k4 k5 k6 k7 : Option ρ} (hf : SW8 i k0 k1 k2 k3 k4 k5 k6 k7 = some r)
    (h0 : k0 = some r → W p l e R s m args below meth c H locs cells slots Q (F0 m (pc + 1) ls (.ref (g 0) :: rest)))
    (h1 : k1 = some r → W p l e R s m args below meth c H locs cells slots Q (F0 m (pc + 1) ls (.ref (g 1) :: rest)))
    (h2 : k2 = some r → W p l e R s m args below meth c H locs cells slots Q (F0 m (pc + 1) ls (.ref (g 2) :: rest)))
    (h3 : k3 = some r → W p l e R s m args below meth c H locs cells slots Q (F0 m (pc + 1) ls (.ref (g 3) :: rest)))
    (h4 : k4 = some r → W p l e R s m args below meth c H locs cells slots Q (F0 m (pc + 1) ls (.ref (g 4) :: rest)))
    (h5 : k5 = some r → W p l e R s m args below meth c H locs cells slots Q (F0 m (pc + 1) ls (.ref (g 5) :: rest)))
    (h6 : k6 = some r → W p l e R s m args below meth c H locs cells slots Q (F0 m (pc + 1) ls (.ref (g 6) :: rest)))
    (h7 : k7 = some r → W p l e R s m args below meth c H locs cells slots Q (F0 m (pc + 1) ls (.ref (g 7) :: rest)))
    : W p l e R s m args below meth c H locs cells slots Q (F0 m pc ls (.int i :: .ref a :: rest)) := by
  unfold SW8 at hf
  by_cases c0 : i = 0
  · rw [if_pos c0] at hf
    subst c0
    exact va_aldq hx hb hK hW.1 q0 t0 ha ht (by rw [vp_in_iff]; decide) hd (h0 hf)
  · rw [if_neg c0] at hf
    by_cases c1 : i = 1
    · rw [if_pos c1] at hf
      subst c1
      exact va_aldq hx hb hK hW.1 q0 t0 ha ht (by rw [vp_in_iff]; decide) hd (h1 hf)
    · rw [if_neg c1] at hf
      by_cases c2 : i = 2
      · rw [if_pos c2] at hf
        subst c2
        exact va_aldq hx hb hK hW.1 q0 t0 ha ht (by rw [vp_in_iff]; decide) hd (h2 hf)
      · rw [if_neg c2] at hf
        by_cases c3 : i = 3
        · rw [if_pos c3] at hf
          subst c3
          exact va_aldq hx hb hK hW.1 q0 t0 ha ht (by rw [vp_in_iff]; decide) hd (h3 hf)
        · rw [if_neg c3] at hf
          by_cases c4 : i = 4
          · rw [if_pos c4] at hf
            subst c4
            exact va_aldq hx hb hK hW.1 q0 t0 ha ht (by rw [vp_in_iff]; decide) hd (h4 hf)
          · rw [if_neg c4] at hf
            by_cases c5 : i = 5
            · rw [if_pos c5] at hf
              subst c5
              exact va_aldq hx hb hK hW.1 q0 t0 ha ht (by rw [vp_in_iff]; decide) hd (h5 hf)
            · rw [if_neg c5] at hf
              by_cases c6 : i = 6
              · rw [if_pos c6] at hf
                subst c6
                exact va_aldq hx hb hK hW.1 q0 t0 ha ht (by rw [vp_in_iff]; decide) hd (h6 hf)
              · rw [if_neg c6] at hf
                by_cases c7 : i = 7
                · rw [if_pos c7] at hf
                  subst c7
                  exact va_aldq hx hb hK hW.1 q0 t0 ha ht (by rw [vp_in_iff]; decide) hd (h7 hf)
                · rw [if_neg c7] at hf
                  cases hf
end QP
/-! a block of cells at a world's end, handed on whole -/
theorem pool_fst (E : Nat → ClassId) (h : Nat) (hp : Nat → Nat → Nat) (pl po pl' po' : Nat → Int32) (pa pa' : Nat → Nat → Nat → Int32) : (w_pool E h hp pl' po' pa').map (·.1) = (w_pool E h hp pl po pa).map (·.1) := rfl
def bk (n k : Nat) : List Nat := List.range' n k
theorem is_lt {ws wc : va_W} {is : List Nat} (h : is.map (fun i => ws[i]?) = wc.map some) : ∀ i ∈ is, i < ws.length := by
  intro i hi
  obtain ⟨j, hj⟩ := List.getElem?_of_mem hi
  have h1 : (is.map (fun i => ws[i]?))[j]? = some (ws[i]?) := by rw [List.getElem?_map, hj]; rfl
  rw [h, List.getElem?_map] at h1
  cases hq : wc[j]? with
  | none => rw [hq] at h1; cases h1
  | some q =>
    rw [hq] at h1
    exact (List.getElem?_eq_some_iff.mp (Option.some.inj h1).symm).1
theorem blk_map {ws wc : va_W} {is : List Nat} (pool : va_W) (h : is.map (fun i => ws[i]?) = wc.map some) : (is ++ bk ws.length pool.length).map (fun i => (ws ++ pool)[i]?) = (wc ++ pool).map some := by
  rw [List.map_append, List.map_append]
  congr 1
  · rw [← h]
    exact List.map_congr_left fun i hi => List.getElem?_append_left (is_lt h i hi)
  · unfold bk
    refine List.ext_getElem? fun i => ?_
    rw [List.getElem?_map, List.getElem?_map]
    by_cases hi : i < pool.length
    · rw [List.getElem?_range' hi, List.getElem?_eq_getElem hi]
      show some ((ws ++ pool)[ws.length + 1 * i]?) = some (some _)
      rw [List.getElem?_append_right (by omega), show ws.length + 1 * i - ws.length = i by omega, List.getElem?_eq_getElem hi]
    · rw [List.getElem?_eq_none (by rw [List.length_range']; omega), List.getElem?_eq_none (by omega)]
      rfl
theorem nd_iff : ∀ l : List Nat, va_nd l = true ↔ l.Nodup
  | [] => by simp [va_nd]
  | a :: l => by simp only [va_nd, Bool.and_eq_true, decide_eq_true_eq, List.nodup_cons, nd_iff l]
theorem blk_nd {is : List Nat} {n k : Nat} (h : va_nd is = true) (hl : ∀ i ∈ is, i < n) : va_nd (is ++ bk n k) = true := by
  rw [nd_iff] at h ⊢
  refine List.nodup_append.mpr ⟨h, ?_, fun a ha b hb e => ?_⟩
  · exact List.nodup_range'
  · have h1 := hl a ha
    have h2 := (List.mem_range'_1.mp hb).1
    omega
theorem va_pa_left : ∀ (is : List Nat) (ws w pool : va_W), (∀ i ∈ is, i < ws.length) → va_pa (ws ++ pool) is w = va_pa ws is w ++ pool
  | [], ws, w, pool, _ => by cases w <;> rfl
  | i :: is, ws, [], pool, _ => rfl
  | i :: is, ws, x :: xs, pool, h => by
    show va_pa ((ws ++ pool).set i x) is xs = va_pa (ws.set i x) is xs ++ pool
    rw [List.set_append_left _ _ (h i List.mem_cons_self)]
    exact va_pa_left is (ws.set i x) xs pool (fun j hj => by rw [List.length_set]; exact h j (List.mem_cons_of_mem _ hj))
theorem va_pa_app : ∀ (is js : List Nat) (ws w v : va_W), is.length = w.length → va_pa ws (is ++ js) (w ++ v) = va_pa (va_pa ws is w) js v
  | [], js, ws, [], v, _ => rfl
  | i :: is, js, ws, x :: xs, v, h => va_pa_app is js (ws.set i x) xs v (Nat.succ.inj h)
  | [], js, ws, x :: xs, v, h => by cases h
  | i :: is, js, ws, [], v, h => by cases h
theorem va_pa_blk : ∀ (pool' : va_W) (ws pre pool : va_W), pool'.length = pool.length → va_pa (ws ++ pre ++ pool) ((List.range' (ws ++ pre).length pool.length)) pool' = ws ++ pre ++ pool'
  | [], ws, pre, [], _ => by simp [va_pa]
  | x :: xs, ws, pre, y :: ys, h => by
    have hl : xs.length = ys.length := Nat.succ.inj h
    show va_pa ((ws ++ pre ++ y :: ys).set (ws ++ pre).length x) (List.range' ((ws ++ pre).length + 1) ys.length) xs = _
    have e1 : (ws ++ pre ++ y :: ys).set (ws ++ pre).length x = ws ++ (pre ++ [x]) ++ ys := by
      rw [List.set_append_right _ _ (Nat.le_refl _), Nat.sub_self]
      simp
    have e2 : (ws ++ pre).length + 1 = (ws ++ (pre ++ [x])).length := by simp [Nat.add_assoc]
    rw [e1, e2, va_pa_blk xs ws (pre ++ [x]) ys hl]
    simp
  | [], ws, pre, y :: ys, h => by cases h
  | x :: xs, ws, pre, [], h => by cases h
theorem va_pa_len : ∀ (is : List Nat) (ws w : va_W), (va_pa ws is w).length = ws.length
  | [], ws, w => by cases w <;> rfl
  | i :: is, ws, [] => rfl
  | i :: is, ws, x :: xs => by
    show (va_pa (ws.set i x) is xs).length = _
    rw [va_pa_len is (ws.set i x) xs, List.length_set]
theorem blk_pa {ws w pool pool' : va_W} {is : List Nat} (hl : ∀ i ∈ is, i < ws.length) (hw : is.length = w.length) (hp : pool'.length = pool.length) : va_pa (ws ++ pool) (is ++ bk ws.length pool.length) (w ++ pool') = va_pa ws is w ++ pool' := by
  rw [va_pa_app is _ _ w pool' hw, va_pa_left is ws w pool hl]
  have h := va_pa_blk pool' (va_pa ws is w) [] pool hp
  rw [List.append_nil, va_pa_len] at h
  exact h
section QCP
variable {p : Program} {l : Launch} {e : Env} {R : Room} {s : State} {m : MethodId} {args : Array Value} {below : List Frame} {meth : Method} {c : Code} {H : Heap} {locs : List Loc} {cells slots : Nat} {Q : State → Prop} {cc : ByteArray} {pc : Nat} {ls : Array Slot} {rest : List Value} {ρ : Type} {X Y : Option ρ} {r : ρ}
variable {D : va_G} {E : Nat → ClassId} {tx : List (Nat × String)} {A : Nat → Prop} {ws wc wc' : va_W} {b : Nat} {own : String} {nL nM fr lo n mc ms k : Nat} {y : MethodName} {cb : ByteArray} {As st0 : List Value}
theorem q_callIP {pool pool' : va_W} (hpf : pool'.map (·.1) = pool.map (·.1)) (hF : CallFix p m c cc nL s args WG own) (hsz : ls.size = nL) (hK : va_K D vwCl (TY E) s) (hA : ∀ q, s.heap.size ≤ q → A q) (hZ : SF E tx A s s.heap) (hW : WD D A s (ws ++ pool) H locs) {ret : Option FieldType} (hm : MV y cb nM ret n) {index : Nat} (hlk : Cond.methodLink own index y ∈ WG) {rv : Int32} (hC : CI l y cb nM ret fr lo D E tx (.ref b :: As) (wc ++ pool) (wc' ++ pool') rv)
    (is : List Nat) (h1 : is.map (fun i => ws[i]?) = wc.map some) (hn : va_nd is = true) {ci : Nat} {q : vw_C} {fs : List Value} (hc : vwCl[ci]? = some q) (he : wc[0]? = some (b, .inr (ci, fs))) (hq : q.1 = y.cls) (ha : wc'.map (·.1) = wc.map (·.1)) (hR : fr + 1 ≤ R.frames ∧ 8 + (nM + 11) + lo ≤ R.locals) (hcs : cells ≤ R.cells ∧ slots ≤ R.slots)
    (hAs : As.length = n) (hst : st0 = As.reverse ++ .ref b :: rest) (hrest : (rest.map fun v => v.category).sum ≤ 8) (hd : decode cc pc = .ok (.invokevirtual index, 3))
    (kk : ∀ (H : Heap) (locs : List Loc), WD D A s (va_pa ws is wc' ++ pool') H locs → W p l e R s m args below meth c H locs cells slots Q (F0 m (pc + 3) ls (.int rv :: rest))) : W p l e R s m args below meth c H locs cells slots Q (F0 m pc ls st0) := by
  have hpl : pool'.length = pool.length := by have := congrArg List.length hpf; simpa using this
  have hwl : is.length = wc'.length := by have h2 := congrArg List.length h1; have h3 := congrArg List.length ha; simp at h2 h3; omega
  have e9 := blk_pa (w := wc') (is_lt h1) hwl hpl
  exact q_callI hF hsz hK hA hZ hW hm hlk hC (is ++ bk ws.length pool.length) (blk_map pool h1) (blk_nd hn (is_lt h1)) hc (by rw [List.getElem?_append_left (List.getElem?_eq_some_iff.mp he).1]; exact he) hq (by rw [List.map_append, List.map_append, ha, hpf]) hR hcs hAs hst hrest hd (fun H locs h => kk H locs (by rw [← e9]; exact h))
theorem q_callVP {pool pool' : va_W} (hpf : pool'.map (·.1) = pool.map (·.1)) (hF : CallFix p m c cc nL s args WG own) (hsz : ls.size = nL) (hK : va_K D vwCl (TY E) s) (hA : ∀ q, s.heap.size ≤ q → A q) (hZ : SF E tx A s s.heap) (hW : WD D A s (ws ++ pool) H locs) (hm : MV y cb nM none n) {index : Nat} (hlk : Cond.methodLink own index y ∈ WG) (hC : CV l y cb nM fr lo D E tx (.ref b :: As) (wc ++ pool) (wc' ++ pool'))
    (is : List Nat) (h1 : is.map (fun i => ws[i]?) = wc.map some) (hn : va_nd is = true) {ci : Nat} {q : vw_C} {fs : List Value} (hc : vwCl[ci]? = some q) (he : wc[0]? = some (b, .inr (ci, fs))) (hq : q.1 = y.cls) (ha : wc'.map (·.1) = wc.map (·.1)) (hR : fr + 1 ≤ R.frames ∧ 8 + (nM + 11) + lo ≤ R.locals) (hcs : cells ≤ R.cells ∧ slots ≤ R.slots)
    (hAs : As.length = n) (hst : st0 = As.reverse ++ .ref b :: rest) (hrest : (rest.map fun v => v.category).sum ≤ 8) (hd : decode cc pc = .ok (.invokevirtual index, 3))
    (kk : ∀ (H : Heap) (locs : List Loc), WD D A s (va_pa ws is wc' ++ pool') H locs → W p l e R s m args below meth c H locs cells slots Q (F0 m (pc + 3) ls rest)) : W p l e R s m args below meth c H locs cells slots Q (F0 m pc ls st0) := by
  have hpl : pool'.length = pool.length := by have := congrArg List.length hpf; simpa using this
  have hwl : is.length = wc'.length := by have h2 := congrArg List.length h1; have h3 := congrArg List.length ha; simp at h2 h3; omega
  have e9 := blk_pa (w := wc') (is_lt h1) hwl hpl
  exact q_callV hF hsz hK hA hZ hW hm hlk hC (is ++ bk ws.length pool.length) (blk_map pool h1) (blk_nd hn (is_lt h1)) hc (by rw [List.getElem?_append_left (List.getElem?_eq_some_iff.mp he).1]; exact he) hq (by rw [List.map_append, List.map_append, ha, hpf]) hR hcs hAs hst hrest hd (fun H locs h => kk H locs (by rw [← e9]; exact h))
theorem q_xIP {pool pool' : va_W} (hpf : pool'.map (·.1) = pool.map (·.1)) (hF : CallFix p m c cc nL s args WG own) (hsz : ls.size = nL) (hK : va_K D vwCl (TY E) s) (hA : ∀ q, s.heap.size ≤ q → A q) (hZ : SF E tx A s s.heap) (hW : WD D A s (ws ++ pool) H locs) {ret : Option FieldType} (hm : MV y cb nM ret n) {index : Nat} (hlk : Cond.methodLink own index y ∈ WG) {rv : Int32} (hC : XI l y cb nM ret fr lo mc ms D E tx (.ref b :: As) (wc ++ pool) (wc' ++ pool') k rv)
    (is : List Nat) (h1 : is.map (fun i => ws[i]?) = wc.map some) (hn : va_nd is = true) {ci : Nat} {q : vw_C} {fs : List Value} (hc : vwCl[ci]? = some q) (he : wc[0]? = some (b, .inr (ci, fs))) (hq : q.1 = y.cls) (ha : wc'.map (·.1) = wc.map (·.1)) (hR : fr + 1 ≤ R.frames ∧ 8 + (nM + 11) + lo ≤ R.locals) (hcs : cells + mc ≤ R.cells ∧ slots + ms ≤ R.slots)
    (hAs : As.length = n) (hst : st0 = As.reverse ++ .ref b :: rest) (hrest : (rest.map fun v => v.category).sum ≤ 8) (hd : decode cc pc = .ok (.invokevirtual index, 3))
    (kx : k ≠ 0 → ∀ (ce : Cell) (q9 : Addr) (H : Heap) (locs : List Loc), WD D A s (va_pa ws is wc' ++ pool') H locs → H[q9]? = some ce → ce.vm = .none → s.vm.findClass (exName k) = some ce.cls → vx_W p l e R s m args below meth c H locs (cells + mc) (slots + ms) Q (F0 m pc ls rest) q9)
    (kk : k = 0 → ∀ (H : Heap) (locs : List Loc), WD D A s (va_pa ws is wc' ++ pool') H locs → W p l e R s m args below meth c H locs (cells + mc) (slots + ms) Q (F0 m (pc + 3) ls (.int rv :: rest))) : W p l e R s m args below meth c H locs cells slots Q (F0 m pc ls st0) := by
  have hpl : pool'.length = pool.length := by have := congrArg List.length hpf; simpa using this
  have hwl : is.length = wc'.length := by have h2 := congrArg List.length h1; have h3 := congrArg List.length ha; simp at h2 h3; omega
  have e9 := blk_pa (w := wc') (is_lt h1) hwl hpl
  exact q_xI hF hsz hK hA hZ hW hm hlk hC (is ++ bk ws.length pool.length) (blk_map pool h1) (blk_nd hn (is_lt h1)) hc (by rw [List.getElem?_append_left (List.getElem?_eq_some_iff.mp he).1]; exact he) hq (by rw [List.map_append, List.map_append, ha, hpf]) hR hcs hAs hst hrest hd (fun k0 ce q9 H locs h => kx k0 ce q9 H locs (by rw [← e9]; exact h)) (fun k0 H locs h => kk k0 H locs (by rw [← e9]; exact h))
theorem q_xVP {pool pool' : va_W} (hpf : pool'.map (·.1) = pool.map (·.1)) (hF : CallFix p m c cc nL s args WG own) (hsz : ls.size = nL) (hK : va_K D vwCl (TY E) s) (hA : ∀ q, s.heap.size ≤ q → A q) (hZ : SF E tx A s s.heap) (hW : WD D A s (ws ++ pool) H locs) (hm : MV y cb nM none n) {index : Nat} (hlk : Cond.methodLink own index y ∈ WG) (hC : XV l y cb nM fr lo mc ms D E tx (.ref b :: As) (wc ++ pool) (wc' ++ pool') k)
    (is : List Nat) (h1 : is.map (fun i => ws[i]?) = wc.map some) (hn : va_nd is = true) {ci : Nat} {q : vw_C} {fs : List Value} (hc : vwCl[ci]? = some q) (he : wc[0]? = some (b, .inr (ci, fs))) (hq : q.1 = y.cls) (ha : wc'.map (·.1) = wc.map (·.1)) (hR : fr + 1 ≤ R.frames ∧ 8 + (nM + 11) + lo ≤ R.locals) (hcs : cells + mc ≤ R.cells ∧ slots + ms ≤ R.slots)
    (hAs : As.length = n) (hst : st0 = As.reverse ++ .ref b :: rest) (hrest : (rest.map fun v => v.category).sum ≤ 8) (hd : decode cc pc = .ok (.invokevirtual index, 3))
    (kx : k ≠ 0 → ∀ (ce : Cell) (q9 : Addr) (H : Heap) (locs : List Loc), WD D A s (va_pa ws is wc' ++ pool') H locs → H[q9]? = some ce → ce.vm = .none → s.vm.findClass (exName k) = some ce.cls → vx_W p l e R s m args below meth c H locs (cells + mc) (slots + ms) Q (F0 m pc ls rest) q9)
    (kk : k = 0 → ∀ (H : Heap) (locs : List Loc), WD D A s (va_pa ws is wc' ++ pool') H locs → W p l e R s m args below meth c H locs (cells + mc) (slots + ms) Q (F0 m (pc + 3) ls rest)) : W p l e R s m args below meth c H locs cells slots Q (F0 m pc ls st0) := by
  have hpl : pool'.length = pool.length := by have := congrArg List.length hpf; simpa using this
  have hwl : is.length = wc'.length := by have h2 := congrArg List.length h1; have h3 := congrArg List.length ha; simp at h2 h3; omega
  have e9 := blk_pa (w := wc') (is_lt h1) hwl hpl
  exact q_xV hF hsz hK hA hZ hW hm hlk hC (is ++ bk ws.length pool.length) (blk_map pool h1) (blk_nd hn (is_lt h1)) hc (by rw [List.getElem?_append_left (List.getElem?_eq_some_iff.mp he).1]; exact he) hq (by rw [List.map_append, List.map_append, ha, hpf]) hR hcs hAs hst hrest hd (fun k0 ce q9 H locs h => kx k0 ce q9 H locs (by rw [← e9]; exact h)) (fun k0 H locs h => kk k0 H locs (by rw [← e9]; exact h))
end QCP
