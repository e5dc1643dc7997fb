/-! the pure words that the functions of the methods are made of -/
theorem ob_gd {α : Type} {i : Int32} {n : Nat} {k : Option α} {r : α} (h : GD i n k = some r) : vp_in i n ∧ k = some r := by
  unfold GD at h
  by_cases q : i < 0 ∨ n ≤ i.toNatClampNeg
  · rw [if_pos q] at h; cases h
  · rw [if_neg q] at h; exact ⟨q, h⟩
theorem ob_gn {α : Type} {y : Int32} {k : Option α} {r : α} (h : GN y k = some r) : ¬ y = 0 ∧ k = some r := by
  unfold GN at h
  by_cases q : y = 0
  · rw [if_pos q] at h; cases h
  · rw [if_neg q] at h; exact ⟨q, h⟩
theorem ob_gb {α : Type} {v : Int32} {k : Option α} {r : α} (h : GB v k = some r) : (v = 0 ∨ v = 1) ∧ k = some r := by
  unfold GB at h
  by_cases q : v = 0 ∨ v = 1
  · rw [if_pos q] at h; exact ⟨q, h⟩
  · rw [if_neg q] at h; cases h
theorem ob_gc {α : Type} {v : Int32} {k : Option α} {r : α} (h : GC v k = some r) : (v.toUInt32 % 65536).toInt32 = v ∧ k = some r := by
  unfold GC at h
  by_cases q : (v.toUInt32 % 65536).toInt32 = v
  · rw [if_pos q] at h; exact ⟨q, h⟩
  · rw [if_neg q] at h; cases h
theorem ob_gcp {α : Type} {sp dp n : Int32} {n0 n1 : Nat} {k : Option α} {r : α} (h : GCP sp dp n n0 n1 k = some r) : (¬ sp < 0 ∧ ¬ dp < 0 ∧ ¬ n < 0 ∧ sp.toNatClampNeg + n.toNatClampNeg ≤ n0 ∧ dp.toNatClampNeg + n.toNatClampNeg ≤ n1) ∧ k = some r := by
  unfold GCP at h
  by_cases q : sp < 0 ∨ dp < 0 ∨ n < 0 ∨ n0 < sp.toNatClampNeg + n.toNatClampNeg ∨ n1 < dp.toNatClampNeg + n.toNatClampNeg
  · rw [if_pos q] at h; cases h
  · rw [if_neg q] at h
    refine ⟨⟨fun z => q (Or.inl z), fun z => q (Or.inr (Or.inl z)), fun z => q (Or.inr (Or.inr (Or.inl z))), ?_, ?_⟩, h⟩
    · exact Nat.not_lt.mp fun z => q (Or.inr (Or.inr (Or.inr (Or.inl z))))
    · exact Nat.not_lt.mp fun z => q (Or.inr (Or.inr (Or.inr (Or.inr z))))
theorem ob_let {α β : Type} {a x : α} {f : α → Option β} {r : β} (h : LET a f = some r) (hx : x = a) : f x = some r := by subst hx; exact h
theorem ob_bind {α β : Type} {o : Option α} {f : α → Option β} {r : β} (h : o.bind f = some r) : ∃ v, o = some v ∧ f v = some r := by
  cases o with
  | none => cases h
  | some v => exact ⟨v, rfl, h⟩
theorem ob_lp {σ ε : Type} {b : σ → Option (σ ⊕ ε)} {n : Nat} {s : σ} {e : ε} (h : LPF b (n + 1) s = some e) : ∃ q, b s = some q ∧ (∀ s', q = .inl s' → LPF b n s' = some e) ∧ (∀ e', q = .inr e' → e = e') := by
  rw [LPF] at h
  obtain ⟨q, h1, h2⟩ := ob_bind h
  refine ⟨q, h1, fun s' hs => ?_, fun e' he => ?_⟩
  · subst hs; exact h2
  · subst he; exact (Option.some.inj h2).symm
theorem nar_b {v : Int32} (h : v = 0 ∨ v = 1) : narrow .boolean (.int v) = .int v ∧ fits .boolean (.int v) = true := by
  rcases h with rfl | rfl <;> exact ⟨rfl, rfl⟩
theorem nar_c {v : Int32} (h : (v.toUInt32 % 65536).toInt32 = v) : narrow .char (.int v) = .int v ∧ True := ⟨congrArg Value.int ((show v.toUInt32.toUInt16.toUInt32.toInt32 = (v.toUInt32 % 65536).toInt32 by
    congr 1).trans h), trivial⟩
theorem ne_toInt {x : Int32} {k : Int} (h : ¬ x = Int32.ofInt k) (hk : (Int32.ofInt k).toInt = k) : x.toInt ≠ k := fun z => h (Int32.toInt_inj.mp (z.trans hk.symm))
theorem tab_out {x : Int32} {lo hi : Int} (l : List (Int32 × Int)) (hl : ∀ q ∈ l, q.1.toInt = q.2) (h : ∀ q ∈ l, ¬ x = q.1) (hc : ∀ i : Nat, i < (hi - lo + 1).toNat → ∃ q ∈ l, q.2 = lo + i) : x.toInt < lo ∨ hi < x.toInt := by
  rcases Int.lt_or_le x.toInt lo with h1 | h1
  · exact Or.inl h1
  rcases Int.lt_or_le hi x.toInt with h2 | h2
  · exact Or.inr h2
  obtain ⟨q, hq, e⟩ := hc (x.toInt - lo).toNat (by omega)
  exact absurd (Int32.toInt_inj.mp (by rw [hl q hq, e]; omega)) (h q hq)
theorem ob_lp0 {σ ε : Type} {b : σ → Option (σ ⊕ ε)} {s : σ} {e : ε} (h : LPF b 0 s = some e) : False := by cases h

/-! the words of every method: its own code, and the law's list -/
abbrev GW (y : MethodName) (cc : ByteArray) (nL : Nat) (ret : Option FieldType) : List Cond := .code y cc nL ret :: WG
abbrev TY (E : Nat → ClassId) : List (ClassId × FieldType) := [(E 0, .int), (E 1, .boolean), (E 2, .char), (E 3, .object "LatticeArm$Scene"), (E 4, .long), (E 5, .double)]
theorem g_law : ∀ w ∈ WG, w ∈ WG ∧ ((w.onTables && w.keeps) = true ∨ ∃ ty, w = .arrayClass ty) := fun _ h => ⟨h, good_of_word (List.mem_filter.mp h).2⟩
theorem g_sub {y y' : MethodName} {cc cc' : ByteArray} {nL nL' : Nat} {ret ret' : Option FieldType} (h : Cond.code y' cc' nL' ret' ∈ WG) : GoodIn WG (GW y' cc' nL' ret') := by
  intro w hw
  rcases List.mem_cons.mp hw with e | e
  · rw [e]; exact g_law _ h
  · exact g_law w e
/-! where cells of a part come back to -/
def va_pa : va_W → List Nat → va_W → va_W
  | ws, i :: is, x :: xs => va_pa (ws.set i x) is xs
  | ws, _, _ => ws
theorem va_pa_get : ∀ (is : List Nat) (ws w : va_W) (k : Nat) (q : Nat × va_E), (va_pa ws is w)[k]? = some q → (∃ j : Nat, is[j]? = some k ∧ w[j]? = some q) ∨ (k ∉ is.take w.length ∧ ws[k]? = some q)
  | [], ws, w, k, q, h => by
    refine Or.inr ⟨by simp, ?_⟩
    cases w <;> exact h
  | i :: is, ws, [], k, q, h => Or.inr ⟨by simp, h⟩
  | i :: is, ws, x :: xs, k, q, h => by
    have h : (va_pa (ws.set i x) is xs)[k]? = some q := h
    rcases va_pa_get is (ws.set i x) xs k q h with ⟨j, h1, h2⟩ | ⟨h1, h2⟩
    · exact Or.inl ⟨j + 1, h1, h2⟩
    · by_cases hk : k = i
      · subst hk
        have hl := (List.getElem?_eq_some_iff.mp h2).1
        rw [List.length_set] at hl
        rw [List.getElem?_set_self hl] at h2
        exact Or.inl ⟨0, rfl, h2⟩
      · rw [List.getElem?_set_ne (Ne.symm hk)] at h2
        refine Or.inr ⟨?_, h2⟩
        simp only [List.length_cons, List.take_succ_cons, List.mem_cons, not_or]
        exact ⟨hk, h1⟩
theorem va_at2 {ws w : va_W} {is : List Nat} (hs : is.map (fun i => ws[i]?) = w.map some) {k : Nat} {q : Nat × va_E} (hq : w[k]? = some q) : ∃ i, is[k]? = some i ∧ ws[i]? = some q := by
  have h1 : (is.map (fun i => ws[i]?))[k]? = some (some q) := by rw [hs, List.getElem?_map, hq]; rfl
  rw [List.getElem?_map] at h1
  cases hi : is[k]? with
  | none => rw [hi] at h1; cases h1
  | some i => rw [hi] at h1; exact ⟨i, rfl, Option.some.inj h1⟩
theorem va_backA {A0 : Nat → Prop} {D : va_G} {cl : List vw_C} {ws wc wc' : va_W} {H H1 : Heap} (hP : va_P D cl ws H) (hD : va_D A0 ws) (is : List Nat) (hC : is.map (fun i => ws[i]?) = wc.map some) (ha : wc'.map (·.1) = wc.map (·.1))
    (hk : ∀ q : Nat, q < H.size → ¬ va_A wc H.size q → H1[q]? = H[q]?) (hP1 : va_P D cl wc' H1) : va_P D cl (va_pa ws is wc') H1 ∧ va_D A0 (va_pa ws is wc') := by
  have hlen : is.length = wc.length := by have := congrArg List.length hC; simpa using this
  have hlen' : wc'.length = wc.length := by have := congrArg List.length ha; simpa using this
  have old : ∀ (k : Nat) (q : Nat × va_E), (va_pa ws is wc')[k]? = some q → ∃ q0, ws[k]? = some q0 ∧ q0.1 = q.1 := by
    intro k q hq
    rcases va_pa_get is ws wc' k q hq with ⟨j, h1, h2⟩ | ⟨-, h2⟩
    · have hj := (List.getElem?_eq_some_iff.mp h2).1
      obtain ⟨q0, hq0⟩ : ∃ q0, wc[j]? = some q0 := ⟨_, List.getElem?_eq_getElem (by omega)⟩
      obtain ⟨i, hi1, hi2⟩ := va_at2 hC hq0
      cases Option.some.inj (h1.symm.trans hi1)
      refine ⟨q0, hi2, ?_⟩
      have h3 : (wc'.map (·.1))[j]? = some q.1 := by rw [List.getElem?_map, h2]; rfl
      rw [ha, List.getElem?_map, hq0] at h3
      exact Option.some.inj h3
    · exact ⟨q, h2, rfl⟩
  refine ⟨fun k q hq => ?_, fun i j x y hi hj hxy => ?_, fun k q hq => ?_⟩
  · rcases va_pa_get is ws wc' k q hq with ⟨j, -, h2⟩ | ⟨h1, h2⟩
    · exact hP1 j q h2
    · refine (hP k q h2).kept (hk q.1 (hP k q h2).lt fun z => ?_)
      rcases z with ⟨j, e, hz⟩ | hz
      · obtain ⟨i, hi1, hi2⟩ := va_at2 hC hz
        cases hD.1 k i q (q.1, e) h2 hi2 rfl
        refine h1 ?_
        rw [hlen', ← hlen, List.take_length]
        exact List.mem_of_getElem? hi1
      · exact absurd (hP k q h2).lt (Nat.not_lt.mpr hz)
  · obtain ⟨x0, a1, a2⟩ := old i x hi
    obtain ⟨y0, b1, b2⟩ := old j y hj
    exact hD.1 i j x0 y0 a1 b1 (a2.trans (hxy.trans b2.symm))
  · obtain ⟨q0, a1, a2⟩ := old k q hq
    rw [← a2]; exact hD.2 k q0 a1
/-! what lies in statics: the rows of steps, what a throw needs, the texts of the throws -/
def SA (E : Nat → ClassId) (n : String) (f : Nat → Int32) (A : Nat → Prop) (U : State) (H : Heap) : Prop := ∃ b, va_Z RX7 n "[I" (.ref b) A U H ∧ va_T .int b 8 (fun j => .int (f j)) A U H
def SF (E : Nat → ClassId) (tx : List (Nat × String)) (A : Nat → Prop) (U : State) (H : Heap) : Prop :=
  SA E "STEP_X" stepX A U H ∧ SA E "STEP_Y" stepY A U H ∧ vx_Zq Bundle.tN "UNASSIGNED_STACK" Bundle.steD A U H ∧ vx_Zq Bundle.tN "SUPPRESSED_SENTINEL" Bundle.listD A U H ∧ (∀ q ∈ tx, ∃ sa, vk_R RX7 q.1 q.2 sa U) ∧ ∀ w ∈ NW, va_Nw w U
theorem SA.moved {E : Nat → ClassId} {n : String} {f : Nat → Int32} {A : Nat → Prop} {u U : State} {H : Heap} (hvm : u.vm.Alike U.vm) (h : SA E n f A u H) : SA E n f A U H := by
  obtain ⟨b, h1, h2⟩ := h
  exact ⟨b, va_Z.moved hvm h1, va_T.moved hvm h2⟩
theorem SA.kept {E : Nat → ClassId} {n : String} {f : Nat → Int32} {A : Nat → Prop} {U : State} {H H1 : Heap} (h : SA E n f A U H) (hq : ∀ a : Nat, a < H.size → ¬ A a → H1[a]? = H[a]?) : SA E n f A U H1 := by
  obtain ⟨b, h1, h2⟩ := h
  exact ⟨b, h1.kept hq, h2.kept hq⟩
theorem SA.narrow {E : Nat → ClassId} {n : String} {f : Nat → Int32} {A B : Nat → Prop} {U : State} {H : Heap} (h : SA E n f A U H) (hAB : ∀ q, B q → A q) : SA E n f B U H := by
  obtain ⟨b, h1, h2⟩ := h
  exact ⟨b, h1.narrow hAB, h2.narrow hAB⟩
theorem SF.warm {E : Nat → ClassId} {tx : List (Nat × String)} {A : Nat → Prop} {u U : State} {H : Heap} (hW : u.WarmedH U.vm) (h : SF E tx A u H) : SF E tx A U H :=
  ⟨h.1.moved hW.alike, h.2.1.moved hW.alike, h.2.2.1.moved hW.alike, h.2.2.2.1.moved hW.alike, fun q hq => by obtain ⟨sa, h9⟩ := h.2.2.2.2.1 q hq; exact ⟨sa, vk_R.warm hW h9⟩, fun w hw => NW_warm hW w hw (h.2.2.2.2.2 w hw)⟩
theorem SF.same {E : Nat → ClassId} {tx : List (Nat × String)} {A : Nat → Prop} {u U : State} {H : Heap} (hv : U.vm = u.vm) (h : SF E tx A u H) : SF E tx A U H := by
  have ha : u.vm.Alike U.vm := by rw [hv]; exact Vm.Alike.refl _
  exact ⟨h.1.moved ha, h.2.1.moved ha, h.2.2.1.moved ha, h.2.2.2.1.moved ha, fun q hq => by obtain ⟨sa, h9⟩ := h.2.2.2.2.1 q hq; exact ⟨sa, vk_R.same hv h9⟩, fun w hw => va_Nw.same (NW_on w hw) hv.symm (h.2.2.2.2.2 w hw)⟩
theorem SF.kept {E : Nat → ClassId} {tx : List (Nat × String)} {A : Nat → Prop} {U : State} {H H1 : Heap} (h : SF E tx A U H) (hq : ∀ a : Nat, a < H.size → ¬ A a → H1[a]? = H[a]?) : SF E tx A U H1 :=
  ⟨h.1.kept hq, h.2.1.kept hq, h.2.2.1.kept hq, h.2.2.2.1.kept hq, h.2.2.2.2⟩
theorem SF.narrow {E : Nat → ClassId} {tx : List (Nat × String)} {A B : Nat → Prop} {U : State} {H : Heap} (h : SF E tx A U H) (hAB : ∀ q, B q → A q) : SF E tx B U H :=
  ⟨h.1.narrow hAB, h.2.1.narrow hAB, h.2.2.1.narrow hAB, h.2.2.2.1.narrow hAB, h.2.2.2.2⟩
/-! the world of a walk, and the standard contracts -/
def WD (D : va_G) (A : Nat → Prop) (s : State) (ws : va_W) (H : Heap) (locs : List Loc) : Prop := va_P D vwCl ws H ∧ va_D A ws ∧ va_S A s.heap H locs
def Pre (D : va_G) (E : Nat → ClassId) (tx : List (Nat × String)) (ws : va_W) (sz : Nat) (U : State) : Prop := U.heap.size = sz ∧ va_P D vwCl ws U.heap ∧ va_K D vwCl (TY E) U ∧ va_D (fun _ => True) ws ∧ SF E tx (va_A ws sz) U U.heap
abbrev RM (fr lo : Nat) : Room := { frames := fr, cells := 0, slots := 0, locals := lo }
theorem fb_pre {D : va_G} {E : Nat → ClassId} {tx : List (Nat × String)} {ws : va_W} {sz : Nat} {As : List Value} : FrameBlind (va_Pc As (Pre D E tx ws sz)) := by
  intro a U g mk q
  obtain ⟨q0, q1, qP, qK, qD, qZ⟩ := q
  exact ⟨q0, q1, qP, va_K.moved (u := U) (U := U.calling g mk a) (Vm.Alike.refl U.vm) qK, qD, SF.same (u := U) rfl qZ⟩
def CI (l : Launch) (y : MethodName) (cc : ByteArray) (nL : Nat) (ret : Option FieldType) (fr lo : Nat) (D : va_G) (E : Nat → ClassId) (tx : List (Nat × String)) (As : List Value) (ws ws' : va_W) (r : Int32) : Prop :=
  ∀ sz : Nat, Met l y (GW y cc nL ret) (RM fr lo) (va_Pc As (Pre D E tx ws sz)) (va_Qi (fun (r' : Int32) (_ : Unit) => r' = r) (fun _ t => va_P D vwCl ws' t.heap) (va_A ws sz)) 0 0 (va_A ws sz)
def CV (l : Launch) (y : MethodName) (cc : ByteArray) (nL : Nat) (fr lo : Nat) (D : va_G) (E : Nat → ClassId) (tx : List (Nat × String)) (As : List Value) (ws ws' : va_W) : Prop :=
  ∀ sz : Nat, Met l y (GW y cc nL none) (RM fr lo) (va_Pc As (Pre D E tx ws sz)) (va_Qv (fun (_ : Unit) => True) (fun _ t => va_P D vwCl ws' t.heap) (va_A ws sz)) 0 0 (va_A ws sz)
theorem va_S_A {A : Nat → Prop} {H0 H : Heap} {locs : List Loc} (h : va_S A H0 H locs) : ∀ q ∈ locs, A q.base := h.2.2
theorem CI_of {l : Launch} {y : MethodName} {cc : ByteArray} {nL : Nat} {ret : FieldType} {fr lo : Nat} {D : va_G} {E : Nat → ClassId} {tx : List (Nat × String)} {As : List Value} {ws ws' : va_W} {r : Int32} (own : String) (hy : plainName y.cls = true) (ho : y.cls = own) (hn : (lg_sl As).length ≤ nL)
    (h : ∀ (p : Program) (e : Env) (s : State) (m : MethodId) (args : Array Value) (below : List Frame) (meth : Method) (c : Code) (A : Nat → Prop) (Q : State → Prop), CallFix p m c cc nL s args WG own → va_K D vwCl (TY E) s → (∀ q, s.heap.size ≤ q → A q) → SF E tx A s s.heap → WD D A s ws s.heap [] →
      (∀ {pc : Nat} {H : Heap} {locs : List Loc} {ls : Array Slot} {v : Int32}, decode cc pc = .ok (.ireturn, 1) → narrow ret (.int v) = .int v → v = r → WD D A s ws' H locs → W p l e (RM fr lo) s m args below meth c H locs 0 0 Q (F0 m pc ls [.int v])) →
      ∀ ls : Array Slot, lv_has ls nL (lv_args 0 As) → W p l e (RM fr lo) s m args below meth c s.heap [] 0 0 Q (F0 m 0 ls [])) : CI l y cc nL (some ret) fr lo D E tx As ws ws' r := by
  intro sz
  refine Met.ofW (cc := cc) (maxL := nL) (ret := some ret) hy rfl ?_
  intro p e s m args below meth c s₁ B hml hv
  obtain ⟨rfl, hsz, hP, hK, hD0, hZ⟩ := hv
  subst hsz
  have hts := atoms_spec (ws := GW y cc nL (some ret)) B.pre
  have hown : s.vm.findClass own = some m.cls := by rw [← ho]; exact findClass_of_methodNamed B.named
  have hlocks := B.notSynchronized
  have hr := B.returns
  rw [lg_entry_eq]
  refine h p e s m _ below meth c (va_A ws s.heap.size) _ ⟨B.exec, B.bytes, hml, hown, fun w hw => hts w (List.mem_cons_of_mem _ hw)⟩ hK (fun q h => Or.inr h) hZ ⟨hP, hD0.self, va_S.rf⟩ ?_ _ (lv_entry As hn)
  intro pc H locs ls v hd hr9 hv hW
  subst hv
  exact W.zret B.exec B.bytes hr hr9 (fun t ht _ => ⟨⟨v, (), rfl, rfl, by show va_P D vwCl ws' t.heap; rw [ht]; exact hW.1⟩, hW.2.2.F ht⟩) hW.2.2.2.2 hd
theorem CV_of {l : Launch} {y : MethodName} {cc : ByteArray} {nL : Nat} {fr lo : Nat} {D : va_G} {E : Nat → ClassId} {tx : List (Nat × String)} {As : List Value} {ws ws' : va_W} (own : String) (hy : plainName y.cls = true) (ho : y.cls = own) (hn : (lg_sl As).length ≤ nL)
    (h : ∀ (p : Program) (e : Env) (s : State) (m : MethodId) (args : Array Value) (below : List Frame) (meth : Method) (c : Code) (A : Nat → Prop) (Q : State → Prop), CallFix p m c cc nL s args WG own → va_K D vwCl (TY E) s → (∀ q, s.heap.size ≤ q → A q) → SF E tx A s s.heap → WD D A s ws s.heap [] →
      (∀ {pc : Nat} {H : Heap} {locs : List Loc} {ls : Array Slot}, decode cc pc = .ok (.return_, 1) → WD D A s ws' H locs → W p l e (RM fr lo) s m args below meth c H locs 0 0 Q (F0 m pc ls [])) →
      ∀ ls : Array Slot, lv_has ls nL (lv_args 0 As) → W p l e (RM fr lo) s m args below meth c s.heap [] 0 0 Q (F0 m 0 ls [])) : CV l y cc nL fr lo D E tx As ws ws' := by
  intro sz
  refine Met.ofW (cc := cc) (maxL := nL) (ret := none) hy rfl ?_
  intro p e s m args below meth c s₁ B hml hv
  obtain ⟨rfl, hsz, hP, hK, hD0, hZ⟩ := hv
  subst hsz
  have hts := atoms_spec (ws := GW y cc nL none) B.pre
  have hown : s.vm.findClass own = some m.cls := by rw [← ho]; exact findClass_of_methodNamed B.named
  have hlocks := B.notSynchronized
  have hr := B.returns
  rw [lg_entry_eq]
  refine h p e s m _ below meth c (va_A ws s.heap.size) _ ⟨B.exec, B.bytes, hml, hown, fun w hw => hts w (List.mem_cons_of_mem _ hw)⟩ hK (fun q h => Or.inr h) hZ ⟨hP, hD0.self, va_S.rf⟩ ?_ _ (lv_entry As hn)
  intro pc H locs ls hd hW
  exact W.vret B.exec B.bytes hr (fun t ht _ => ⟨⟨(), rfl, trivial, by show va_P D vwCl ws' t.heap; rw [ht]; exact hW.1⟩, hW.2.2.F ht⟩) hW.2.2.2.2 hd
section QR
variable {p : Program} {l : Launch} {e : Env} {R : Room} {s : State} {m : MethodId} {args : Array Value} {below : List Frame} {meth : Method} {c : Code} {H : Heap} {locs : List Loc} {cells slots : Nat} {Q : State → Prop} {cc : ByteArray} {pc : Nat} {ls : Array Slot} {rest : List Value} {ρ : Type} {X Y : Option ρ} {r : ρ}
theorem q_if_eq (hx : p.tables.exec = Jvm.exec) (hb : c.code = cc) {x : Int32} {off : Int} {tgt : Nat} (hd : decode cc pc = .ok (.ifCond .eq off, 3)) (ht : (pc : Int) + off = (tgt : Int)) (hf : (if x = 0 then X else Y) = some r) (kt : X = some r → W p l e R s m args below meth c H locs cells slots Q (F0 m tgt ls rest)) (kf : Y = some r → W p l e R s m args below meth c H locs cells slots Q (F0 m (pc + 3) ls rest)) : W p l e R s m args below meth c H locs cells slots Q (F0 m pc ls (.int x :: rest)) :=
  lv_if_eq hx hb hd ht (fun z => kt (by rw [if_pos z] at hf; exact hf)) (fun z => kf (by rw [if_neg z] at hf; exact hf))
theorem q_if_ne (hx : p.tables.exec = Jvm.exec) (hb : c.code = cc) {x : Int32} {off : Int} {tgt : Nat} (hd : decode cc pc = .ok (.ifCond .ne off, 3)) (ht : (pc : Int) + off = (tgt : Int)) (hf : (if x = 0 then X else Y) = some r) (kt : Y = some r → W p l e R s m args below meth c H locs cells slots Q (F0 m tgt ls rest)) (kf : X = some r → W p l e R s m args below meth c H locs cells slots Q (F0 m (pc + 3) ls rest)) : W p l e R s m args below meth c H locs cells slots Q (F0 m pc ls (.int x :: rest)) :=
  lv_if_ne hx hb hd ht (fun z => kt (by rw [if_neg z] at hf; exact hf)) (fun z => kf (by rw [if_pos z] at hf; exact hf))
theorem q_if_lt (hx : p.tables.exec = Jvm.exec) (hb : c.code = cc) {x : Int32} {off : Int} {tgt : Nat} (hd : decode cc pc = .ok (.ifCond .lt off, 3)) (ht : (pc : Int) + off = (tgt : Int)) (hf : (if x < 0 then X else Y) = some r) (kt : X = some r → W p l e R s m args below meth c H locs cells slots Q (F0 m tgt ls rest)) (kf : Y = some r → W p l e R s m args below meth c H locs cells slots Q (F0 m (pc + 3) ls rest)) : W p l e R s m args below meth c H locs cells slots Q (F0 m pc ls (.int x :: rest)) :=
  lv_if_lt hx hb hd ht (fun z => kt (by rw [if_pos z] at hf; exact hf)) (fun z => kf (by rw [if_neg z] at hf; exact hf))
theorem q_if_ge (hx : p.tables.exec = Jvm.exec) (hb : c.code = cc) {x : Int32} {off : Int} {tgt : Nat} (hd : decode cc pc = .ok (.ifCond .ge off, 3)) (ht : (pc : Int) + off = (tgt : Int)) (hf : (if 0 ≤ x then X else Y) = some r) (kt : X = some r → W p l e R s m args below meth c H locs cells slots Q (F0 m tgt ls rest)) (kf : Y = some r → W p l e R s m args below meth c H locs cells slots Q (F0 m (pc + 3) ls rest)) : W p l e R s m args below meth c H locs cells slots Q (F0 m pc ls (.int x :: rest)) :=
  lv_if_ge hx hb hd ht (fun z => kt (by rw [if_pos z] at hf; exact hf)) (fun z => kf (by rw [if_neg z] at hf; exact hf))
theorem q_if_gt (hx : p.tables.exec = Jvm.exec) (hb : c.code = cc) {x : Int32} {off : Int} {tgt : Nat} (hd : decode cc pc = .ok (.ifCond .gt off, 3)) (ht : (pc : Int) + off = (tgt : Int)) (hf : (if 0 < x then X else Y) = some r) (kt : X = some r → W p l e R s m args below meth c H locs cells slots Q (F0 m tgt ls rest)) (kf : Y = some r → W p l e R s m args below meth c H locs cells slots Q (F0 m (pc + 3) ls rest)) : W p l e R s m args below meth c H locs cells slots Q (F0 m pc ls (.int x :: rest)) :=
  lv_if_gt hx hb hd ht (fun z => kt (by rw [if_pos z] at hf; exact hf)) (fun z => kf (by rw [if_neg z] at hf; exact hf))
theorem q_if_le (hx : p.tables.exec = Jvm.exec) (hb : c.code = cc) {x : Int32} {off : Int} {tgt : Nat} (hd : decode cc pc = .ok (.ifCond .le off, 3)) (ht : (pc : Int) + off = (tgt : Int)) (hf : (if x ≤ 0 then X else Y) = some r) (kt : X = some r → W p l e R s m args below meth c H locs cells slots Q (F0 m tgt ls rest)) (kf : Y = some r → W p l e R s m args below meth c H locs cells slots Q (F0 m (pc + 3) ls rest)) : W p l e R s m args below meth c H locs cells slots Q (F0 m pc ls (.int x :: rest)) :=
  lv_if_le hx hb hd ht (fun z => kt (by rw [if_pos z] at hf; exact hf)) (fun z => kf (by rw [if_neg z] at hf; exact hf))
theorem q_icmp_eq (hx : p.tables.exec = Jvm.exec) (hb : c.code = cc) {x y : Int32} {off : Int} {tgt : Nat} (hd : decode cc pc = .ok (.if_icmp .eq off, 3)) (ht : (pc : Int) + off = (tgt : Int)) (hf : (if x = y then X else Y) = some r) (kt : X = some r → W p l e R s m args below meth c H locs cells slots Q (F0 m tgt ls rest)) (kf : Y = some r → W p l e R s m args below meth c H locs cells slots Q (F0 m (pc + 3) ls rest)) : W p l e R s m args below meth c H locs cells slots Q (F0 m pc ls (.int y :: .int x :: rest)) :=
  lv_icmp_eq hx hb hd ht (fun z => kt (by rw [if_pos z] at hf; exact hf)) (fun z => kf (by rw [if_neg z] at hf; exact hf))
theorem q_icmp_ne (hx : p.tables.exec = Jvm.exec) (hb : c.code = cc) {x y : Int32} {off : Int} {tgt : Nat} (hd : decode cc pc = .ok (.if_icmp .ne off, 3)) (ht : (pc : Int) + off = (tgt : Int)) (hf : (if x = y then X else Y) = some r) (kt : Y = some r → W p l e R s m args below meth c H locs cells slots Q (F0 m tgt ls rest)) (kf : X = some r → W p l e R s m args below meth c H locs cells slots Q (F0 m (pc + 3) ls rest)) : W p l e R s m args below meth c H locs cells slots Q (F0 m pc ls (.int y :: .int x :: rest)) :=
  lv_icmp_ne hx hb hd ht (fun z => kt (by rw [if_neg z] at hf; exact hf)) (fun z => kf (by rw [if_pos z] at hf; exact hf))
theorem q_icmp_lt (hx : p.tables.exec = Jvm.exec) (hb : c.code = cc) {x y : Int32} {off : Int} {tgt : Nat} (hd : decode cc pc = .ok (.if_icmp .lt off, 3)) (ht : (pc : Int) + off = (tgt : Int)) (hf : (if x < y then X else Y) = some r) (kt : X = some r → W p l e R s m args below meth c H locs cells slots Q (F0 m tgt ls rest)) (kf : Y = some r → W p l e R s m args below meth c H locs cells slots Q (F0 m (pc + 3) ls rest)) : W p l e R s m args below meth c H locs cells slots Q (F0 m pc ls (.int y :: .int x :: rest)) :=
  lv_icmp_lt hx hb hd ht (fun z => kt (by rw [if_pos z] at hf; exact hf)) (fun z => kf (by rw [if_neg z] at hf; exact hf))
theorem q_icmp_ge (hx : p.tables.exec = Jvm.exec) (hb : c.code = cc) {x y : Int32} {off : Int} {tgt : Nat} (hd : decode cc pc = .ok (.if_icmp .ge off, 3)) (ht : (pc : Int) + off = (tgt : Int)) (hf : (if y ≤ x then X else Y) = some r) (kt : X = some r → W p l e R s m args below meth c H locs cells slots Q (F0 m tgt ls rest)) (kf : Y = some r → W p l e R s m args below meth c H locs cells slots Q (F0 m (pc + 3) ls rest)) : W p l e R s m args below meth c H locs cells slots Q (F0 m pc ls (.int y :: .int x :: rest)) :=
  lv_icmp_ge hx hb hd ht (fun z => kt (by rw [if_pos z] at hf; exact hf)) (fun z => kf (by rw [if_neg z] at hf; exact hf))
theorem q_icmp_gt (hx : p.tables.exec = Jvm.exec) (hb : c.code = cc) {x y : Int32} {off : Int} {tgt : Nat} (hd : decode cc pc = .ok (.if_icmp .gt off, 3)) (ht : (pc : Int) + off = (tgt : Int)) (hf : (if y < x then X else Y) = some r) (kt : X = some r → W p l e R s m args below meth c H locs cells slots Q (F0 m tgt ls rest)) (kf : Y = some r → W p l e R s m args below meth c H locs cells slots Q (F0 m (pc + 3) ls rest)) : W p l e R s m args below meth c H locs cells slots Q (F0 m pc ls (.int y :: .int x :: rest)) :=
  lv_icmp_gt hx hb hd ht (fun z => kt (by rw [if_pos z] at hf; exact hf)) (fun z => kf (by rw [if_neg z] at hf; exact hf))
theorem q_icmp_le (hx : p.tables.exec = Jvm.exec) (hb : c.code = cc) {x y : Int32} {off : Int} {tgt : Nat} (hd : decode cc pc = .ok (.if_icmp .le off, 3)) (ht : (pc : Int) + off = (tgt : Int)) (hf : (if x ≤ y then X else Y) = some r) (kt : X = some r → W p l e R s m args below meth c H locs cells slots Q (F0 m tgt ls rest)) (kf : Y = some r → W p l e R s m args below meth c H locs cells slots Q (F0 m (pc + 3) ls rest)) : W p l e R s m args below meth c H locs cells slots Q (F0 m pc ls (.int y :: .int x :: rest)) :=
  lv_icmp_le hx hb hd ht (fun z => kt (by rw [if_pos z] at hf; exact hf)) (fun z => kf (by rw [if_neg z] at hf; exact hf))
end QR
section QW
variable {p : Program} {l : Launch} {e : Env} {R : Room} {s : State} {m : MethodId} {args : Array Value} {below : List Frame} {meth : Method} {c : Code} {H : Heap} {locs : List Loc} {cells slots : Nat} {Q : State → Prop} {cc : ByteArray} {pc : Nat} {ls : Array Slot} {rest : List Value} {ρ : Type} {X Y : Option ρ} {r : ρ}
variable {D : va_G} {E : Nat → ClassId} {tx : List (Nat × String)} {A : Nat → Prop} {ws : va_W} {a : Nat} {own : String} {nL : Nat}
theorem q_get (hF : CallFix p m c cc nL s args WG own) (hK : va_K D vwCl (TY E) s) (hW : WD D A s ws H locs) {C : String} {T : u_T} {N ci index k : Nat} (hl : FL own index ci C T N k) (q0 : Nat) {fs : List Value} {v : Value} (he : ws[q0]? = some (a, .inr (ci, fs))) (hv : fs[k]? = some v) (hd : decode cc pc = .ok (.getfield index, 3))
    (kk : W p l e R s m args below meth c H locs cells slots Q (F0 m (pc + 3) ls (v :: rest))) : W p l e R s m args below meth c H locs cells slots Q (F0 m pc ls (.ref a :: rest)) :=
  va_get (C := C) (T := T) (N := N) hF.1 hF.2.1 hF.2.2.2.2 hl.1 hF.2.2.2.1 hK hW.1 q0 he hl.2.1 k hl.2.2.1 (hF.2.2.2.2 _ hl.2.2.2) (fun _ h => h) hv hd kk
theorem q_put (hF : CallFix p m c cc nL s args WG own) (hK : va_K D vwCl (TY E) s) (hW : WD D A s ws H locs) {C : String} {T : u_T} {N ci index k : Nat} {ty0 : Nat → FieldType} (hl : FL own index ci C T N k) (hT : FT C T N ty0) (hfin : (T k).2.2.2 = false) (q0 : Nat) {fs : List Value} {v : Value} (he : ws[q0]? = some (a, .inr (ci, fs))) (hn : narrow (ty0 k) v = v) (hfit : fits (ty0 k) v = true) (hlen : k < fs.length) (hd : decode cc pc = .ok (.putfield index, 3))
    (kk : ∀ (H : Heap) (locs : List Loc), WD D A s (ws.set q0 (a, .inr (ci, fs.set k v))) H locs → W p l e R s m args below meth c H locs cells slots Q (F0 m (pc + 3) ls rest)) : W p l e R s m args below meth c H locs cells slots Q (F0 m pc ls (v :: .ref a :: rest)) :=
  va_put (C := C) (T := T) (N := N) hF.1 hF.2.1 hF.2.2.2.2 hl.1 ty0 hT.1 hT.2 hF.2.2.2.1 hK hW.1 hW.2.1 hW.2.2 q0 he hl.2.1 k hl.2.2.1 (hF.2.2.2.2 _ hl.2.2.2) (fun _ h => h) hfin (hT.1 k hl.2.2.1) hn hfit hlen hd (fun H1 l1 h1 h2 h3 => kk H1 l1 ⟨h1, h2, h3⟩)
theorem q_alen (hx : p.tables.exec = Jvm.exec) (hb : c.code = cc) (hK : va_K D vwCl (TY E) s) (hW : WD D A s ws H locs) (q0 t0 : Nat) {cA : ClassId} {x : vp_A} (ha : ws[q0]? = some (a, .inl (cA, x))) {ty : FieldType} (ht : (TY E)[t0]? = some (cA, ty)) {v : Int32} (hv : Int32.ofNat x.1 = v) (hd : decode cc pc = .ok (.arraylength, 1)) (kk : W p l e R s m args below meth c H locs cells slots Q (F0 m (pc + 1) ls (.int v :: rest))) : W p l e R s m args below meth c H locs cells slots Q (F0 m pc ls (.ref a :: rest)) :=
  va_alen hx hb hK hW.1 q0 t0 ha ht hv hd kk

theorem q_iald (hx : p.tables.exec = Jvm.exec) (hb : c.code = cc) (hK : va_K D vwCl (TY E) s) (hW : WD D A s ws H locs) (q0 t0 : Nat) {cA : ClassId} {n : Nat} {f : Nat → Int32} (ha : ws[q0]? = some (a, .inl (cA, n, .inl f))) (ht : (TY E)[t0]? = some (cA, .int)) {i : Int32} (hd : decode cc pc = .ok (.iaload, 1)) (hf : GD i n X = some r) (kk : X = some r → W p l e R s m args below meth c H locs cells slots Q (F0 m (pc + 1) ls (.int (f i.toNatClampNeg) :: rest))) : W p l e R s m args below meth c H locs cells slots Q (F0 m pc ls (.int i :: .ref a :: rest)) :=
  va_iald hx hb hK hW.1 q0 t0 ha ht (ob_gd hf).1 hd (kk (ob_gd hf).2)
theorem q_zald (hx : p.tables.exec = Jvm.exec) (hb : c.code = cc) (hK : va_K D vwCl (TY E) s) (hW : WD D A s ws H locs) (q0 t0 : Nat) {cA : ClassId} {n : Nat} {f : Nat → Int32} (ha : ws[q0]? = some (a, .inl (cA, n, .inl f))) (ht : (TY E)[t0]? = some (cA, .boolean)) {i : Int32} (hd : decode cc pc = .ok (.baload, 1)) (hf : GD i n X = some r) (kk : X = some r → W p l e R s m args below meth c H locs cells slots Q (F0 m (pc + 1) ls (.int (f i.toNatClampNeg) :: rest))) : W p l e R s m args below meth c H locs cells slots Q (F0 m pc ls (.int i :: .ref a :: rest)) :=
  va_zald hx hb hK hW.1 q0 t0 ha ht (ob_gd hf).1 hd (kk (ob_gd hf).2)
theorem q_cald (hx : p.tables.exec = Jvm.exec) (hb : c.code = cc) (hK : va_K D vwCl (TY E) s) (hW : WD D A s ws H locs) (q0 t0 : Nat) {cA : ClassId} {n : Nat} {f : Nat → Int32} (ha : ws[q0]? = some (a, .inl (cA, n, .inl f))) (ht : (TY E)[t0]? = some (cA, .char)) {i : Int32} (hd : decode cc pc = .ok (.caload, 1)) (hf : GD i n X = some r) (kk : X = some r → W p l e R s m args below meth c H locs cells slots Q (F0 m (pc + 1) ls (.int (f i.toNatClampNeg) :: rest))) : W p l e R s m args below meth c H locs cells slots Q (F0 m pc ls (.int i :: .ref a :: rest)) :=
  va_cald hx hb hK hW.1 q0 t0 ha ht (ob_gd hf).1 hd (kk (ob_gd hf).2)
theorem q_iast (hx : p.tables.exec = Jvm.exec) (hb : c.code = cc) (hK : va_K D vwCl (TY E) s) (hW : WD D A s ws H locs) (q0 t0 : Nat) {cA : ClassId} {n : Nat} {f : Nat → Int32} (ha : ws[q0]? = some (a, .inl (cA, n, .inl f))) (ht : (TY E)[t0]? = some (cA, .int)) {i x : Int32} (hd : decode cc pc = .ok (.iastore, 1)) {K : (Nat → Int32) → Option ρ} (hf : GD i n (LET (upd f i.toNatClampNeg x) K) = some r) (kk : ∀ g, K g = some r → ∀ (H : Heap) (locs : List Loc), WD D A s (ws.set q0 (a, .inl (cA, n, .inl g))) H locs → W p l e R s m args below meth c H locs cells slots Q (F0 m (pc + 1) ls rest)) : W p l e R s m args below meth c H locs cells slots Q (F0 m pc ls (.int x :: .int i :: .ref a :: rest)) :=
  va_iast hx hb hK hW.1 hW.2.1 hW.2.2 q0 t0 ha ht (ob_gd hf).1 hd (fun H1 l1 h1 h2 h3 => kk _ (ob_gd hf).2 H1 l1 ⟨h1, h2, h3⟩)
theorem q_zast (hx : p.tables.exec = Jvm.exec) (hb : c.code = cc) (hK : va_K D vwCl (TY E) s) (hW : WD D A s ws H locs) (q0 t0 : Nat) {cA : ClassId} {n : Nat} {f : Nat → Int32} (ha : ws[q0]? = some (a, .inl (cA, n, .inl f))) (ht : (TY E)[t0]? = some (cA, .boolean)) {i x : Int32} (hd : decode cc pc = .ok (.bastore, 1)) {K : (Nat → Int32) → Option ρ} (hf : GD i n (LET (upd f i.toNatClampNeg (vp_nar .boolean x)) K) = some r) (kk : ∀ g, K g = some r → ∀ (H : Heap) (locs : List Loc), WD D A s (ws.set q0 (a, .inl (cA, n, .inl g))) H locs → W p l e R s m args below meth c H locs cells slots Q (F0 m (pc + 1) ls rest)) : W p l e R s m args below meth c H locs cells slots Q (F0 m pc ls (.int x :: .int i :: .ref a :: rest)) :=
  va_zast hx hb hK hW.1 hW.2.1 hW.2.2 q0 t0 ha ht (ob_gd hf).1 hd (fun H1 l1 h1 h2 h3 => kk _ (ob_gd hf).2 H1 l1 ⟨h1, h2, h3⟩)
theorem q_cast (hx : p.tables.exec = Jvm.exec) (hb : c.code = cc) (hK : va_K D vwCl (TY E) s) (hW : WD D A s ws H locs) (q0 t0 : Nat) {cA : ClassId} {n : Nat} {f : Nat → Int32} (ha : ws[q0]? = some (a, .inl (cA, n, .inl f))) (ht : (TY E)[t0]? = some (cA, .char)) {i x : Int32} (hd : decode cc pc = .ok (.castore, 1)) {K : (Nat → Int32) → Option ρ} (hf : GD i n (LET (upd f i.toNatClampNeg (vp_nar .char x)) K) = some r) (kk : ∀ g, K g = some r → ∀ (H : Heap) (locs : List Loc), WD D A s (ws.set q0 (a, .inl (cA, n, .inl g))) H locs → W p l e R s m args below meth c H locs cells slots Q (F0 m (pc + 1) ls rest)) : W p l e R s m args below meth c H locs cells slots Q (F0 m pc ls (.int x :: .int i :: .ref a :: rest)) :=
  va_cast hx hb hK hW.1 hW.2.1 hW.2.2 q0 t0 ha ht (ob_gd hf).1 hd (fun H1 l1 h1 h2 h3 => kk _ (ob_gd hf).2 H1 l1 ⟨h1, h2, h3⟩)
theorem q_let {α : Type} {v : α} {K : α → Option ρ} (hf : LET v K = some r) {P : α → Prop} (kk : ∀ x, K x = some r → P x) : P v := kk v hf
theorem q_idiv (hx : p.tables.exec = Jvm.exec) (hb : c.code = cc) {x y : Int32} (hd : decode cc pc = .ok (.idiv, 1)) (hf : GN y X = some r) (kk : X = some r → W p l e R s m args below meth c H locs cells slots Q (F0 m (pc + 1) ls (.int (x / y) :: rest))) : W p l e R s m args below meth c H locs cells slots Q (F0 m pc ls (.int y :: .int x :: rest)) :=
  lv_idiv hx hb hd (ob_gn hf).1 (kk (ob_gn hf).2)
theorem q_copyi (hF : CallFix p m c cc nL s args WG own) (hsz : ls.size = nL) (hK : va_K D vwCl (TY E) s) (hW : WD D A s ws H locs) {index : Nat} (hlk : Cond.methodLink own index arraycopyName ∈ WG) (q0 q1 : Nat) {a0 : Nat} {n0 n1 : Nat} {f g : Nat → Int32} (ha0 : ws[q0]? = some (a0, .inl (E 0, n0, .inl f))) (ha1 : ws[q1]? = some (a, .inl (E 0, n1, .inl g)))
    {sp dp n : Int32} (hR : 1 ≤ R.frames ∧ (rest.map fun v => v.category).sum + (nativeFrameWords "java/lang/System" "arraycopy" 5 + 11) ≤ R.locals) (hd : decode cc pc = .ok (.invokestatic index, 3)) {K : (Nat → Int32) → Option ρ} (hf : GCP sp dp n n0 n1 (LET (va_cpy f g sp.toNatClampNeg dp.toNatClampNeg n.toNatClampNeg) K) = some r)
    (kk : ∀ g', K g' = some r → ∀ (H : Heap) (locs : List Loc), WD D A s (ws.set q1 (a, .inl (E 0, n1, .inl g'))) H locs → W p l e R s m args below meth c H locs cells slots Q (F0 m (pc + 3) ls rest)) : W p l e R s m args below meth c H locs cells slots Q (F0 m pc ls (.int n :: .int dp :: .ref a :: .int sp :: .ref a0 :: rest)) := by
  obtain ⟨⟨h1, h2, h3, h4, h5⟩, hf⟩ := ob_gcp hf
  exact va_copyi hF.1 hF.2.1 (hF.2.2.1.trans hsz.symm) hF.2.2.2.1 (hF.2.2.2.2 _ hlk) (hF.2.2.2.2 _ m_ac_nat) (hF.2.2.2.2 _ m_ac_stat) (hF.2.2.2.2 _ m_ac_ini) hK hW.1 hW.2.1 hW.2.2 q0 q1 0 0 ha0 ha1 rfl rfl rfl h1 h2 h3 h4 h5 (fun _ _ => rfl) hR.1 hR.2 hd (fun H1 l1 p1 p2 p3 => kk _ hf H1 l1 ⟨p1, p2, p3⟩)
theorem q_max (hF : CallFix p m c cc nL s args WG own) (hsz : ls.size = nL) {index : Nat} (hlk : Cond.methodLink own index Lib.Math.max.name ∈ WG) (hR : 1 ≤ R.frames ∧ (rest.map fun v => v.category).sum + 13 ≤ R.locals) (hc : cells ≤ R.cells ∧ slots ≤ R.slots) {x y : Int32} (hd : decode cc pc = .ok (.invokestatic index, 3))
    (kk : W p l e R s m args below meth c H locs cells slots Q (F0 m (pc + 3) ls (.int (imax x y) :: rest))) : W p l e R s m args below meth c H locs cells slots Q (F0 m pc ls (.int y :: .int x :: rest)) :=
  va_mmax hF.1 hF.2.1 (hF.2.2.1.trans hsz.symm) hF.2.2.2.1 (hF.2.2.2.2 _ hlk) (hF.2.2.2.2 _ m_max_stat) (hF.2.2.2.2 _ m_math_ini) (hF.2.2.2.2 _ m_max_code) hR.1 hR.2 hc.1 hc.2 hd kk
theorem q_min (hF : CallFix p m c cc nL s args WG own) (hsz : ls.size = nL) {index : Nat} (hlk : Cond.methodLink own index Lib.Math.min.name ∈ WG) (hR : 1 ≤ R.frames ∧ (rest.map fun v => v.category).sum + 13 ≤ R.locals) (hc : cells ≤ R.cells ∧ slots ≤ R.slots) {x y : Int32} (hd : decode cc pc = .ok (.invokestatic index, 3))
    (kk : W p l e R s m args below meth c H locs cells slots Q (F0 m (pc + 3) ls (.int (imin x y) :: rest))) : W p l e R s m args below meth c H locs cells slots Q (F0 m pc ls (.int y :: .int x :: rest)) :=
  va_mmin hF.1 hF.2.1 (hF.2.2.1.trans hsz.symm) hF.2.2.2.1 (hF.2.2.2.2 _ hlk) (hF.2.2.2.2 _ m_min_stat) (hF.2.2.2.2 _ m_math_ini) (hF.2.2.2.2 _ m_min_code) hR.1 hR.2 hc.1 hc.2 hd kk
theorem q_abs (hF : CallFix p m c cc nL s args WG own) (hsz : ls.size = nL) {index : Nat} (hlk : Cond.methodLink own index Lib.Math.abs.name ∈ WG) (hR : 1 ≤ R.frames ∧ (rest.map fun v => v.category).sum + 13 ≤ R.locals) (hc : cells ≤ R.cells ∧ slots ≤ R.slots) {x : Int32} (hd : decode cc pc = .ok (.invokestatic index, 3))
    (kk : W p l e R s m args below meth c H locs cells slots Q (F0 m (pc + 3) ls (.int (iabs x) :: rest))) : W p l e R s m args below meth c H locs cells slots Q (F0 m pc ls (.int x :: rest)) :=
  va_mabs hF.1 hF.2.1 (hF.2.2.1.trans hsz.symm) hF.2.2.2.1 (hF.2.2.2.2 _ hlk) (hF.2.2.2.2 _ m_abs_stat) (hF.2.2.2.2 _ m_math_ini) (hF.2.2.2.2 _ m_abs_code) hR.1 hR.2 hc.1 hc.2 hd kk
theorem q_gets (hF : CallFix p m c cc nL s args WG own) (hW : WD D A s ws H locs) {n : String} {f : Nat → Int32} {index : Nat} (hS : SA E n f A s s.heap) (hZ : SF E tx A s s.heap) (hlk : Cond.fieldLinkNest own index RX7 n "[I" RX7 ∈ NW) (hd : decode cc pc = .ok (.getstatic index, 3))
    (kk : ∀ b, ¬ A b → va_T .int b 8 (fun j => .int (f j)) A s H → W p l e R s m args below meth c H locs cells slots Q (F0 m (pc + 3) ls (.ref b :: rest))) : W p l e R s m args below meth c H locs cells slots Q (F0 m pc ls rest) := by
  obtain ⟨b, h1, h2⟩ := hS
  exact va_getsN hF.1 hF.2.1 h1 hW.2.2 hF.2.2.2.1 (va_Nw.use rfl (hZ.2.2.2.2.2 _ hlk)) (fun _ h => h) hd (kk b h2.out (h2.kept (fun a h3 h4 => hW.2.2.2.1 a h3 h4)))
theorem q_sald (hx : p.tables.exec = Jvm.exec) (hb : c.code = cc) (hK : va_K D vwCl (TY E) s) {n : Nat} {f : Nat → Int32} (hH : va_T .int a n (fun j => .int (f j)) A s H) {i : Int32} (hd : decode cc pc = .ok (.iaload, 1)) (hf : GD i n X = some r) (kk : X = some r → W p l e R s m args below meth c H locs cells slots Q (F0 m (pc + 1) ls (.int (f i.toNatClampNeg) :: rest))) : W p l e R s m args below meth c H locs cells slots Q (F0 m pc ls (.int i :: .ref a :: rest)) := by
  obtain ⟨cell, h1, h2, h3, h4, h5, h6, h7⟩ := hH
  have hin := (ob_gd hf).1
  have hlt : i.toNatClampNeg < n := Nat.not_le.mp fun q => hin (Or.inr q)
  exact W.iald (v := .int (f i.toNatClampNeg)) hx hb h1 h2 h3 (fun z => hin (z.elim Or.inl (fun q => Or.inr (Nat.le_trans h4 q)))) (h6 _ hlt) rfl rfl hd (kk (ob_gd hf).2)
end QW
section QC
variable {p : Program} {l : Launch} {e : Env} {R : Room} {s : State} {m : MethodId} {args : Array Value} {below : List Frame} {meth : Method} {c : Code} {H : Heap} {locs : List Loc} {cells slots : Nat} {Q : State → Prop} {cc : ByteArray} {pc : Nat} {ls : Array Slot} {rest : List Value} {ρ : Type} {X Y : Option ρ} {r : ρ}
variable {D : va_G} {E : Nat → ClassId} {tx : List (Nat × String)} {A : Nat → Prop} {ws wc wc' : va_W} {b : Nat} {own : String} {nL nM fr lo n : Nat} {y : MethodName} {cb : ByteArray} {As st0 : List Value}
theorem pre_of (hK : va_K D vwCl (TY E) s) (hA : ∀ q, s.heap.size ≤ q → A q) (hZ : SF E tx A s s.heap) (hW : WD D A s ws H locs) (is : List Nat) (hC : is.map (fun i => ws[i]?) = wc.map some) (hn : va_nd is = true) : PreS s H (va_Pc As (Pre D E tx wc H.size)) As := by
  refine ⟨fb_pre, fun U hU hWm => ⟨rfl, by rw [hU], ?_, va_K.moved hWm.alike hK, (hW.2.1.sub is hn hC).weaken (fun _ _ _ _ => trivial), ?_⟩⟩
  · rw [hU]
    intro k q hq
    obtain ⟨i, -, hi⟩ := va_at2 hC hq
    exact hW.1 i q hi
  · rw [hU]
    exact ((hZ.kept (fun a h1 h2 => hW.2.2.2.1 a h1 h2)).narrow (va_free hW.2.1 hW.2.2 hA is hC)).warm hWm
theorem q_callI (hF : CallFix p m c cc nL s args WG own) (hsz : ls.size = nL) (hK : va_K D vwCl (TY E) s) (hA : ∀ q, s.heap.size ≤ q → A q) (hZ : SF E tx A s s.heap) (hW : WD D A s ws H locs) {ret : Option FieldType} (hm : MV y cb nM ret n) {index : Nat} (hlk : Cond.methodLink own index y ∈ WG) {rv : Int32} (hC : CI l y cb nM ret fr lo D E tx (.ref b :: As) wc wc' rv)
    (is : List Nat) (h1 : is.map (fun i => ws[i]?) = wc.map some) (hn : va_nd is = true) {ci : Nat} {q : vw_C} {fs : List Value} (hc : vwCl[ci]? = some q) (he : wc[0]? = some (b, .inr (ci, fs))) (hq : q.1 = y.cls) (ha : wc'.map (·.1) = wc.map (·.1)) (hR : fr + 1 ≤ R.frames ∧ 8 + (nM + 11) + lo ≤ R.locals) (hcs : cells ≤ R.cells ∧ slots ≤ R.slots)
    (hAs : As.length = n) (hst : st0 = As.reverse ++ .ref b :: rest) (hrest : (rest.map fun v => v.category).sum ≤ 8) (hd : decode cc pc = .ok (.invokevirtual index, 3))
    (kk : ∀ (H : Heap) (locs : List Loc), WD D A s (va_pa ws is wc') H locs → W p l e R s m args below meth c H locs cells slots Q (F0 m (pc + 3) ls (.int rv :: rest))) : W p l e R s m args below meth c H locs cells slots Q (F0 m pc ls st0) := by
  subst hst
  have hpre := pre_of (As := .ref b :: As) hK hA hZ hW is h1 hn
  have hPc : va_P D vwCl wc H := fun k q hq => by obtain ⟨i, -, hi⟩ := va_at2 h1 hq; exact hW.1 i q hi
  have hrc := va_recv hK hPc hc he
  rw [hq] at hrc
  have hFc := va_free hW.2.1 hW.2.2 hA is h1
  refine va_calli (va_runV (As := As) (rest := rest) hF (hC H.size) ⟨callB_of (ws' := WG) n hF.2.2.2.2 (g_sub (y := y) (cc := cb) (nL := nM) (ret := ret) hm.1) rfl rfl rfl (hF.2.2.2.2 _ hm.2.2.2.1) (hF.2.2.2.2 _ hlk) hm.2.2.2.2 hR, hF.2.2.2.2 _ hm.2.1, hF.2.2.2.2 _ hm.2.2.1⟩ ⟨hpre.1, hrc, hpre.2⟩ rfl hAs hsz rfl (lv_room hrest) hd hcs) hW.2.2 (fun q _ h => hFc q h) hFc ?_
  intro r u t H1 locs1 ht hvm hw hB hz1 hk1 hS1
  subst hw
  rw [ht] at hB
  obtain ⟨g1, g2⟩ := va_backA hW.1 hW.2.1 is h1 ha hk1 hB
  exact kk H1 locs1 ⟨g1, g2, hS1⟩
theorem q_callV (hF : CallFix p m c cc nL s args WG own) (hsz : ls.size = nL) (hK : va_K D vwCl (TY E) s) (hA : ∀ q, s.heap.size ≤ q → A q) (hZ : SF E tx A s s.heap) (hW : WD D A s ws H locs) (hm : MV y cb nM none n) {index : Nat} (hlk : Cond.methodLink own index y ∈ WG) (hC : CV l y cb nM fr lo D E tx (.ref b :: As) wc wc')
    (is : List Nat) (h1 : is.map (fun i => ws[i]?) = wc.map some) (hn : va_nd is = true) {ci : Nat} {q : vw_C} {fs : List Value} (hc : vwCl[ci]? = some q) (he : wc[0]? = some (b, .inr (ci, fs))) (hq : q.1 = y.cls) (ha : wc'.map (·.1) = wc.map (·.1)) (hR : fr + 1 ≤ R.frames ∧ 8 + (nM + 11) + lo ≤ R.locals) (hcs : cells ≤ R.cells ∧ slots ≤ R.slots)
    (hAs : As.length = n) (hst : st0 = As.reverse ++ .ref b :: rest) (hrest : (rest.map fun v => v.category).sum ≤ 8) (hd : decode cc pc = .ok (.invokevirtual index, 3))
    (kk : ∀ (H : Heap) (locs : List Loc), WD D A s (va_pa ws is wc') H locs → W p l e R s m args below meth c H locs cells slots Q (F0 m (pc + 3) ls rest)) : W p l e R s m args below meth c H locs cells slots Q (F0 m pc ls st0) := by
  subst hst
  have hpre := pre_of (As := .ref b :: As) hK hA hZ hW is h1 hn
  have hPc : va_P D vwCl wc H := fun k q hq => by obtain ⟨i, -, hi⟩ := va_at2 h1 hq; exact hW.1 i q hi
  have hrc := va_recv hK hPc hc he
  rw [hq] at hrc
  have hFc := va_free hW.2.1 hW.2.2 hA is h1
  refine va_callv (va_runV (As := As) (rest := rest) hF (hC H.size) ⟨callB_of (ws' := WG) n hF.2.2.2.2 (g_sub (y := y) (cc := cb) (nL := nM) (ret := none) hm.1) rfl rfl rfl (hF.2.2.2.2 _ hm.2.2.2.1) (hF.2.2.2.2 _ hlk) hm.2.2.2.2 hR, hF.2.2.2.2 _ hm.2.1, hF.2.2.2.2 _ hm.2.2.1⟩ ⟨hpre.1, hrc, hpre.2⟩ rfl hAs hsz rfl (lv_room hrest) hd hcs) hW.2.2 (fun q _ h => hFc q h) hFc ?_
  intro u t H1 locs1 ht hvm hw hB hz1 hk1 hS1
  rw [ht] at hB
  obtain ⟨g1, g2⟩ := va_backA hW.1 hW.2.1 is h1 ha hk1 hB
  exact kk H1 locs1 ⟨g1, g2, hS1⟩
theorem q_callSI (hF : CallFix p m c cc nL s args WG own) (hsz : ls.size = nL) (hK : va_K D vwCl (TY E) s) (hA : ∀ q, s.heap.size ≤ q → A q) (hZ : SF E tx A s s.heap) (hW : WD D A s ws H locs) {ret : Option FieldType} (hm : MS y cb nM ret n) {index : Nat} (hlk : Cond.methodLink own index y ∈ WG) {rv : Int32} (hC : CI l y cb nM ret fr lo D E tx As wc wc' rv)
    (is : List Nat) (h1 : is.map (fun i => ws[i]?) = wc.map some) (hn : va_nd is = true) (ha : wc'.map (·.1) = wc.map (·.1)) (hR : fr + 1 ≤ R.frames ∧ 8 + (nM + 11) + lo ≤ R.locals) (hcs : cells ≤ R.cells ∧ slots ≤ R.slots)
    (hAs : As.length = n) (hst : st0 = As.reverse ++ rest) (hrest : (rest.map fun v => v.category).sum ≤ 8) (hd : decode cc pc = .ok (.invokestatic index, 3))
    (kk : ∀ (H : Heap) (locs : List Loc), WD D A s (va_pa ws is wc') H locs → W p l e R s m args below meth c H locs cells slots Q (F0 m (pc + 3) ls (.int rv :: rest))) : W p l e R s m args below meth c H locs cells slots Q (F0 m pc ls st0) := by
  subst hst
  have hpre := pre_of (As := As) hK hA hZ hW is h1 hn
  have hFc := va_free hW.2.1 hW.2.2 hA is h1
  refine va_calli (va_runS (As := As) (rest := rest) hF (hC H.size) ⟨callB_of (ws' := WG) n hF.2.2.2.2 (g_sub (y := y) (cc := cb) (nL := nM) (ret := ret) hm.1) rfl rfl rfl (hF.2.2.2.2 _ hm.2.2.1) (hF.2.2.2.2 _ hlk) hm.2.2.2 hR, hF.2.2.2.2 _ hm.2.1⟩ hpre rfl hAs hsz rfl (lv_room hrest) hd hcs) hW.2.2 (fun q _ h => hFc q h) hFc ?_
  intro r u t H1 locs1 ht hvm hw hB hz1 hk1 hS1
  subst hw
  rw [ht] at hB
  obtain ⟨g1, g2⟩ := va_backA hW.1 hW.2.1 is h1 ha hk1 hB
  exact kk H1 locs1 ⟨g1, g2, hS1⟩
theorem q_callNI (hF : CallFix p m c cc nL s args WG own) (hsz : ls.size = nL) (hK : va_K D vwCl (TY E) s) (hA : ∀ q, s.heap.size ≤ q → A q) (hZ : SF E tx A s s.heap) (hW : WD D A s ws H locs) {ret : Option FieldType} (hm : MS y cb nM ret n) {index : Nat} {host : String} (hlk : Cond.methodLinkNest own index y host ∈ NW) {rv : Int32} (hC : CI l y cb nM ret fr lo D E tx As wc wc' rv)
    (is : List Nat) (h1 : is.map (fun i => ws[i]?) = wc.map some) (hn : va_nd is = true) (ha : wc'.map (·.1) = wc.map (·.1)) (hR : fr + 1 ≤ R.frames ∧ 8 + (nM + 11) + lo ≤ R.locals) (hcs : cells ≤ R.cells ∧ slots ≤ R.slots)
    (hAs : As.length = n) (hst : st0 = As.reverse ++ rest) (hrest : (rest.map fun v => v.category).sum ≤ 8) (hd : decode cc pc = .ok (.invokestatic index, 3))
    (kk : ∀ (H : Heap) (locs : List Loc), WD D A s (va_pa ws is wc') H locs → W p l e R s m args below meth c H locs cells slots Q (F0 m (pc + 3) ls (.int rv :: rest))) : W p l e R s m args below meth c H locs cells slots Q (F0 m pc ls st0) := by
  subst hst
  have hpre := pre_of (As := As) hK hA hZ hW is h1 hn
  have hFc := va_free hW.2.1 hW.2.2 hA is h1
  refine va_calli (va_runSN (As := As) (rest := rest) hF (hC H.size) ⟨va_cnB (ws' := WG) (host := host) n hF.2.2.2.2 (g_sub (y := y) (cc := cb) (nL := nM) (ret := ret) hm.1) rfl rfl rfl (hZ.2.2.2.2.2 _ hlk) (hF.2.2.2.2 _ hm.2.2.1) hm.2.2.2 hR, hF.2.2.2.2 _ hm.2.1, trivial⟩ hpre rfl hAs hsz rfl (lv_room hrest) hd hcs) hW.2.2 (fun q _ h => hFc q h) hFc ?_
  intro r u t H1 locs1 ht hvm hw hB hz1 hk1 hS1
  subst hw
  rw [ht] at hB
  obtain ⟨g1, g2⟩ := va_backA hW.1 hW.2.1 is h1 ha hk1 hB
  exact kk H1 locs1 ⟨g1, g2, hS1⟩
theorem q_callSV (hF : CallFix p m c cc nL s args WG own) (hsz : ls.size = nL) (hK : va_K D vwCl (TY E) s) (hA : ∀ q, s.heap.size ≤ q → A q) (hZ : SF E tx A s s.heap) (hW : WD D A s ws H locs) (hm : MS y cb nM none n) {index : Nat} (hlk : Cond.methodLink own index y ∈ WG) (hC : CV l y cb nM fr lo D E tx As wc wc')
    (is : List Nat) (h1 : is.map (fun i => ws[i]?) = wc.map some) (hn : va_nd is = true) (ha : wc'.map (·.1) = wc.map (·.1)) (hR : fr + 1 ≤ R.frames ∧ 8 + (nM + 11) + lo ≤ R.locals) (hcs : cells ≤ R.cells ∧ slots ≤ R.slots)
    (hAs : As.length = n) (hst : st0 = As.reverse ++ rest) (hrest : (rest.map fun v => v.category).sum ≤ 8) (hd : decode cc pc = .ok (.invokestatic index, 3))
    (kk : ∀ (H : Heap) (locs : List Loc), WD D A s (va_pa ws is wc') H locs → W p l e R s m args below meth c H locs cells slots Q (F0 m (pc + 3) ls rest)) : W p l e R s m args below meth c H locs cells slots Q (F0 m pc ls st0) := by
  subst hst
  have hpre := pre_of (As := As) hK hA hZ hW is h1 hn
  have hFc := va_free hW.2.1 hW.2.2 hA is h1
  refine va_callv (va_runS (As := As) (rest := rest) hF (hC H.size) ⟨callB_of (ws' := WG) n hF.2.2.2.2 (g_sub (y := y) (cc := cb) (nL := nM) (ret := none) hm.1) rfl rfl rfl (hF.2.2.2.2 _ hm.2.2.1) (hF.2.2.2.2 _ hlk) hm.2.2.2 hR, hF.2.2.2.2 _ hm.2.1⟩ hpre rfl hAs hsz rfl (lv_room hrest) hd hcs) hW.2.2 (fun q _ h => hFc q h) hFc ?_
  intro u t H1 locs1 ht hvm hw hB hz1 hk1 hS1
  rw [ht] at hB
  obtain ⟨g1, g2⟩ := va_backA hW.1 hW.2.1 is h1 ha hk1 hB
  exact kk H1 locs1 ⟨g1, g2, hS1⟩
end QC
