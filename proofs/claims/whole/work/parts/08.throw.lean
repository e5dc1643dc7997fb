/-! throws: the names by number, what a row of a throw rests on -/
def exName : Nat → String
  | 1 => "java/lang/IllegalArgumentException"
  | 2 => "java/lang/IllegalStateException"
  | 3 => "java/lang/IndexOutOfBoundsException"
  | 4 => "java/util/NoSuchElementException"
  | 5 => "java/lang/ArithmeticException"
  | _ => "java/lang/UnsupportedOperationException"
abbrev exUp : List String := ["java/lang/RuntimeException", "java/lang/Exception"]
def THa (own cls : String) (ik ic : Nat) : Prop := Bundle.fit cls = true ∧ Cond.classLink own ik cls ∈ WG ∧ Cond.initialized cls ∈ WG ∧ (∀ w ∈ Cond.classLink own ik cls :: Cond.initialized cls :: vx_atS own ic cls exUp, vx_ot w = true) ∧ (∀ w ∈ (vx_atS own ic cls exUp).filter goodWord, w ∈ lw_tbl) ∧ (∀ w ∈ (vx_atS own ic cls exUp).filter (fun w => !goodWord w), w ∈ NW)
def nsB : ByteArray := prog_25_method_4_code
theorem ns_0 : decode nsB 0 = .ok (.aload_n 0, 1) := by decide +kernel
theorem ns_1 : decode nsB 1 = .ok (.aload_n 1, 1) := by decide +kernel
theorem ns_2 : decode nsB 2 = .ok (.invokespecial 13, 3) := by decide +kernel
theorem ns_5 : decode nsB 5 = .ok (.return_, 1) := by decide +kernel
def THn (own cls : String) (ik ic : Nat) : Prop := cls = vy_N ∧ (Cond.methodLink own ic (Bundle.initS vy_N)) ≠ .methodLink vy_N 7 (Bundle.initS Bundle.tN) ∧ Cond.classLink own ik vy_N ∈ WG ∧ Cond.initialized vy_N ∈ WG ∧ (∀ w ∈ Cond.classLink own ik vy_N :: Cond.initialized vy_N :: vy_at own ic 13 nsB, vx_ot w = true) ∧ (∀ w ∈ (vy_at own ic 13 nsB).filter goodWord, w ∈ lw_tbl) ∧ (∀ w ∈ (vy_at own ic 13 nsB).filter (fun w => !goodWord w), w ∈ NW)
def TH (own cls : String) (ik ic : Nat) : Prop := THa own cls ik ic ∨ THn own cls ik ic
theorem th_words {L : List Cond} (h1 : ∀ w ∈ L.filter goodWord, w ∈ lw_tbl) (h2 : ∀ w ∈ L.filter (fun w => !goodWord w), w ∈ NW) {s : State} {args : Array Value} (hts : ∀ w ∈ WG, w.before args s = true) (hn : ∀ w ∈ NW, va_Nw w s) : ∀ w ∈ L, w.before args s = true := by
  intro w hw
  by_cases g : goodWord w = true
  · exact hts w (WG_of (h1 w (List.mem_filter.mpr ⟨hw, g⟩)) g)
  · have hm := h2 w (List.mem_filter.mpr ⟨hw, by cases q : goodWord w; rfl; exact absurd q g⟩)
    exact va_Nw.use (NW_on w hm) (hn w hm)
theorem exUp_fit : ∀ n ∈ exUp, Bundle.fit n = true := by decide +kernel
/-! contracts of methods that return (k = 0) or throw the exception of number k -/
abbrev RX_ (fr lo mc ms : Nat) : Room := { frames := fr, cells := mc, slots := ms, locals := lo }
def XI (l : Launch) (y : MethodName) (cc : ByteArray) (nL : Nat) (ret : Option FieldType) (fr lo mc ms : Nat) (D : va_G) (E : Nat → ClassId) (tx : List (Nat × String)) (As : List Value) (ws ws' : va_W) (k : Nat) (r : Int32) : Prop :=
  ∀ sz : Nat, vx_Met l y (GW y cc nL ret) (RX_ fr lo mc ms) (va_Pc As (Pre D E tx ws sz)) (va_Qi (fun (r' : Int32) (_ : Unit) => k = 0 ∧ r' = r) (fun _ t => va_P D vwCl ws' t.heap) (va_A ws sz)) (vx_X (fun _ : Unit => k ≠ 0) (fun E' _ t => E' = exName k ∧ va_P D vwCl ws' t.heap) (va_A ws sz)) mc ms (va_A ws sz)
def XV (l : Launch) (y : MethodName) (cc : ByteArray) (nL : Nat) (fr lo mc ms : Nat) (D : va_G) (E : Nat → ClassId) (tx : List (Nat × String)) (As : List Value) (ws ws' : va_W) (k : Nat) : Prop :=
  ∀ sz : Nat, vx_Met l y (GW y cc nL none) (RX_ fr lo mc ms) (va_Pc As (Pre D E tx ws sz)) (va_Qv (fun (_ : Unit) => k = 0) (fun _ t => va_P D vwCl ws' t.heap) (va_A ws sz)) (vx_X (fun _ : Unit => k ≠ 0) (fun E' _ t => E' = exName k ∧ va_P D vwCl ws' t.heap) (va_A ws sz)) mc ms (va_A ws sz)
def Thru (p : Program) (l : Launch) (e : Env) (R : Room) (s : State) (m : MethodId) (args : Array Value) (below : List Frame) (meth : Method) (c : Code) (D : va_G) (A : Nat → Prop) (ws' : va_W) (k mc ms : Nat) (Q : State → Prop) : Prop :=
  ∀ {pc : Nat} {ls : Array Slot} {rest : List Value} {H : Heap} {locs : List Loc} {cells slots : Nat} {k' : Nat} {ce : Cell} {q9 : Addr}, k' = k → k ≠ 0 → cells ≤ mc → slots ≤ ms → WD D A s ws' H locs → H[q9]? = some ce → ce.vm = .none → s.vm.findClass (exName k') = some ce.cls → vx_W p l e R s m args below meth c H locs cells slots Q (F0 m pc ls rest) q9
def Thrs (p : Program) (l : Launch) (e : Env) (R : Room) (s : State) (m : MethodId) (args : Array Value) (below : List Frame) (meth : Method) (c : Code) (cc : ByteArray) (own : String) (tx : List (Nat × String)) (nL : Nat) (D : va_G) (A : Nat → Prop) (ws' : va_W) (k mc ms : Nat) (Q : State → Prop) : Prop :=
  ∀ {pc : Nat} {ls : Array Slot} {rest : List Value} {H : Heap} {locs : List Loc} {cells slots : Nat} {ik is ic : Nat} {text : String}, own = RX7 → TH own (exName k) ik ic → (is, text) ∈ tx → k ≠ 0 → cells + 1 ≤ mc → slots + 6 ≤ ms → ls.size = nL → (rest.map fun v => v.category).sum + 82 ≤ R.locals → WD D A s ws' H locs →
    decode cc pc = .ok (.new ik, 3) → decode cc (pc + 3) = .ok (.dup, 1) → decode cc (pc + 4) = .ok (.ldc is, 2) → decode cc (pc + 6) = .ok (.invokespecial ic, 3) → decode cc (pc + 9) = .ok (.athrow, 1) → W p l e R s m args below meth c H locs cells slots Q (F0 m pc ls rest)
def ThrsW (p : Program) (l : Launch) (e : Env) (R : Room) (s : State) (m : MethodId) (args : Array Value) (below : List Frame) (meth : Method) (c : Code) (cc : ByteArray) (own : String) (tx : List (Nat × String)) (nL : Nat) (D : va_G) (A : Nat → Prop) (ws' : va_W) (k mc ms : Nat) (Q : State → Prop) : Prop :=
  ∀ {pc : Nat} {ls : Array Slot} {rest : List Value} {H : Heap} {locs : List Loc} {cells slots : Nat} {ik is ic : Nat} {text : String}, own = RX7 → TH own (exName k) ik ic → (is, text) ∈ tx → k ≠ 0 → cells + 1 ≤ mc → slots + 6 ≤ ms → ls.size = nL → (rest.map fun v => v.category).sum + 82 ≤ R.locals → WD D A s ws' H locs →
    decode cc pc = .ok (.new ik, 3) → decode cc (pc + 3) = .ok (.dup, 1) → decode cc (pc + 4) = .ok (.ldc_w is, 3) → decode cc (pc + 7) = .ok (.invokespecial ic, 3) → decode cc (pc + 10) = .ok (.athrow, 1) → W p l e R s m args below meth c H locs cells slots Q (F0 m pc ls rest)
theorem xc_of {D : va_G} {A : Nat → Prop} {s t : State} {ws' : va_W} {H : Heap} {locs : List Loc} {k : Nat} (hk : k ≠ 0) (hW : WD D A s ws' H locs) (h1 : H.size ≤ t.heap.size) (h2 : ∀ q : Nat, q < H.size → t.heap[q]? = H[q]?) :
    vx_X (fun _ : Unit => k ≠ 0) (fun E' _ t => E' = exName k ∧ va_P D vwCl ws' t.heap) A (exName k) s t :=
  ⟨(), hk, ⟨rfl, hW.1.kept fun k q hq => h2 q.1 (hW.1 k q hq).lt⟩, ⟨Nat.le_trans hW.2.2.1 h1, fun q g1 g2 => by rw [h2 q (Nat.lt_of_lt_of_le g1 hW.2.2.1)]; exact hW.2.2.2.1 q g1 g2⟩⟩
section XO
variable {p : Program} {l : Launch} {e : Env} {s : State} {m : MethodId} {args : Array Value} {below : List Frame} {meth : Method} {c : Code} {cc : ByteArray} {own : String} {nL fr lo mc ms k sz : Nat} {D : va_G} {E : Nat → ClassId} {tx : List (Nat × String)} {A : Nat → Prop} {ws' : va_W} {Qc : Array Value → State → Outcome → State → Prop}
theorem thru_of (hnone : ∀ x ∈ c.exceptionTable.toList, False) (hlocks : meth.locks = false) : Thru p l e (RX_ fr lo mc ms) s m args below meth c D A ws' k mc ms (vx_MQ below Qc (vx_X (fun _ : Unit => k ≠ 0) (fun E' _ t => E' = exName k ∧ va_P D vwCl ws' t.heap) A) args s mc ms A) := by
  intro pc ls rest H locs cells slots k' ce q9 hk' hk hc hs hW hcell hv hcl
  subst hk'
  exact vx_out (fun x hx => (hnone x hx).elim) hlocks hcell hv hcl (fun t ht _ => xc_of hk hW (by rw [ht]; exact Nat.le_refl _) (fun q _ => by rw [ht])) hW.2.2.2.2 hc hs
theorem thrs_of (hF : CallFix p m c cc nL s args WG own) (hlt : l.stackTraces = false) (hfr : 6 ≤ fr) (hZ : SF E tx A s s.heap) (hnone : ∀ x ∈ c.exceptionTable.toList, False) (hlocks : meth.locks = false) : Thrs p l e (RX_ fr lo mc ms) s m args below meth c cc own tx nL D A ws' k mc ms (vx_MQ below Qc (vx_X (fun _ : Unit => k ≠ 0) (fun E' _ t => E' = exName k ∧ va_P D vwCl ws' t.heap) A) args s mc ms A) := by
  intro pc ls rest H locs cells slots ik is ic text ho hT htx hk hc hs hsz hro hW d0 d3 d4 d6 d9
  obtain ⟨sa, hstr⟩ := hZ.2.2.2.2.1 _ htx
  rw [← ho] at hstr
  rcases hT with hT | hT
  · exact vx_throwS hF.1 hF.2.1 hlt hF.2.2.2.1 hT.1 exUp_fit (hF.2.2.2.2 _ hT.2.1) (hF.2.2.2.2 _ hT.2.2.1) hstr (th_words hT.2.2.2.2.1 hT.2.2.2.2.2 hF.2.2.2.2 hZ.2.2.2.2.2) hT.2.2.2.1 hZ.2.2.1 hZ.2.2.2.1 hW.2.2 (hsz.trans hF.2.2.1.symm) d0 d3 d4 d6 d9 (fun x hx => (hnone x hx).elim) (show 2 + 3 < fr by omega) hro hc hs hlocks (fun t _ h1 h2 => xc_of hk hW h1 h2) hW.2.2.2.2 hc hs
  · obtain ⟨hcl, hmx, q1, q2, q3, q4, q5⟩ := hT
    exact vy_throwS hF.1 hF.2.1 hlt ns_0 ns_1 ns_2 ns_5 hmx hF.2.2.2.1 (hF.2.2.2.2 _ q1) (hF.2.2.2.2 _ q2) hstr (th_words q4 q5 hF.2.2.2.2 hZ.2.2.2.2.2) q3 hZ.2.2.1 hZ.2.2.2.1 hW.2.2 (hsz.trans hF.2.2.1.symm) d0 d3 d4 d6 d9 (fun x hx => (hnone x hx).elim) (show 5 < fr by omega) hro hc hs hlocks (fun t _ h1 h2 => by rw [← hcl]; exact xc_of hk hW h1 h2) hW.2.2.2.2 hc hs
theorem thrsW_of (hF : CallFix p m c cc nL s args WG own) (hlt : l.stackTraces = false) (hfr : 6 ≤ fr) (hZ : SF E tx A s s.heap) (hnone : ∀ x ∈ c.exceptionTable.toList, False) (hlocks : meth.locks = false) : ThrsW p l e (RX_ fr lo mc ms) s m args below meth c cc own tx nL D A ws' k mc ms (vx_MQ below Qc (vx_X (fun _ : Unit => k ≠ 0) (fun E' _ t => E' = exName k ∧ va_P D vwCl ws' t.heap) A) args s mc ms A) := by
  intro pc ls rest H locs cells slots ik is ic text ho hT htx hk hc hs hsz hro hW d0 d3 d4 d6 d9
  obtain ⟨sa, hstr⟩ := hZ.2.2.2.2.1 _ htx
  rw [← ho] at hstr
  rcases hT with hT | hT
  · exact vx_throwSW hF.1 hF.2.1 hlt hF.2.2.2.1 hT.1 exUp_fit (hF.2.2.2.2 _ hT.2.1) (hF.2.2.2.2 _ hT.2.2.1) hstr (th_words hT.2.2.2.2.1 hT.2.2.2.2.2 hF.2.2.2.2 hZ.2.2.2.2.2) hT.2.2.2.1 hZ.2.2.1 hZ.2.2.2.1 hW.2.2 (hsz.trans hF.2.2.1.symm) d0 d3 d4 d6 d9 (fun x hx => (hnone x hx).elim) (show 2 + 3 < fr by omega) hro hc hs hlocks (fun t _ h1 h2 => xc_of hk hW h1 h2) hW.2.2.2.2 hc hs
  · obtain ⟨hcl, hmx, q1, q2, q3, q4, q5⟩ := hT
    exact vy_throwSW hF.1 hF.2.1 hlt ns_0 ns_1 ns_2 ns_5 hmx hF.2.2.2.1 (hF.2.2.2.2 _ q1) (hF.2.2.2.2 _ q2) hstr (th_words q4 q5 hF.2.2.2.2 hZ.2.2.2.2.2) q3 hZ.2.2.1 hZ.2.2.2.1 hW.2.2 (hsz.trans hF.2.2.1.symm) d0 d3 d4 d6 d9 (fun x hx => (hnone x hx).elim) (show 5 < fr by omega) hro hc hs hlocks (fun t _ h1 h2 => by rw [← hcl]; exact xc_of hk hW h1 h2) hW.2.2.2.2 hc hs
end XO
theorem XI_of {l : Launch} {y : MethodName} {cc : ByteArray} {nL : Nat} {ret : FieldType} {fr lo mc ms : Nat} {D : va_G} {E : Nat → ClassId} {tx : List (Nat × String)} {As : List Value} {ws ws' : va_W} {k : Nat} {r : Int32} (own : String) (hlt : l.stackTraces = false) (hfr : 6 ≤ fr) (hy : plainName y.cls = true) (ho : y.cls = own) (hn : (lg_sl As).length ≤ nL)
    (h : ∀ (p : Program) (e : Env) (s : State) (m : MethodId) (args : Array Value) (below : List Frame) (meth : Method) (c : Code) (A : Nat → Prop) (Q : State → Prop), CallFix p m c cc nL s args WG own → va_K D vwCl (TY E) s → (∀ q, s.heap.size ≤ q → A q) → SF E tx A s s.heap → WD D A s ws s.heap [] →
      (∀ {pc : Nat} {H : Heap} {locs : List Loc} {ls : Array Slot} {v : Int32} {cells slots : Nat}, decode cc pc = .ok (.ireturn, 1) → narrow ret (.int v) = .int v → k = 0 → v = r → cells ≤ mc → slots ≤ ms → WD D A s ws' H locs → W p l e (RX_ fr lo mc ms) s m args below meth c H locs cells slots Q (F0 m pc ls [.int v])) →
      Thru p l e (RX_ fr lo mc ms) s m args below meth c D A ws' k mc ms Q → Thrs p l e (RX_ fr lo mc ms) s m args below meth c cc own tx nL D A ws' k mc ms Q → ThrsW p l e (RX_ fr lo mc ms) s m args below meth c cc own tx nL D A ws' k mc ms Q →
      ∀ ls : Array Slot, lv_has ls nL (lv_args 0 As) → W p l e (RX_ fr lo mc ms) s m args below meth c s.heap [] 0 0 Q (F0 m 0 ls [])) : XI l y cc nL (some ret) fr lo mc ms D E tx As ws ws' k r := by
  intro sz
  refine vx_ofW (cc := cc) (maxL := nL) (ret := some ret) hy rfl ?_
  intro p e s m args below meth c s₁ B hml hnone hv
  obtain ⟨rfl, hsz, hP, hK, hD0, hZ⟩ := hv
  subst hsz
  have hts := atoms_spec (ws := GW y cc nL (some ret)) B.pre
  have hown : s.vm.findClass own = some m.cls := by rw [← ho]; exact findClass_of_methodNamed B.named
  have hlocks := B.notSynchronized
  have hr := B.returns
  have hF : CallFix p m c cc nL s As.toArray WG own := ⟨B.exec, B.bytes, hml, hown, fun w hw => hts w (List.mem_cons_of_mem _ hw)⟩
  rw [lg_entry_eq]
  refine h p e s m _ below meth c (va_A ws s.heap.size) _ hF hK (fun q h => Or.inr h) hZ ⟨hP, hD0.self, va_S.rf⟩ ?_ (thru_of hnone hlocks) (thrs_of hF hlt hfr hZ hnone hlocks) (thrsW_of hF hlt hfr hZ hnone hlocks) _ (lv_entry As hn)
  intro pc H locs ls v cells slots hd hr9 hk hv hc hs hW
  subst hv
  refine vx_ret (W.widen hc hs ?_)
  exact W.zret B.exec B.bytes hr hr9 (fun t ht _ => ⟨⟨v, (), rfl, ⟨hk, rfl⟩, by show va_P D vwCl ws' t.heap; rw [ht]; exact hW.1⟩, hW.2.2.F ht⟩) hW.2.2.2.2 hd
theorem XV_of {l : Launch} {y : MethodName} {cc : ByteArray} {nL : Nat} {fr lo mc ms : Nat} {D : va_G} {E : Nat → ClassId} {tx : List (Nat × String)} {As : List Value} {ws ws' : va_W} {k : Nat} (own : String) (hlt : l.stackTraces = false) (hfr : 6 ≤ fr) (hy : plainName y.cls = true) (ho : y.cls = own) (hn : (lg_sl As).length ≤ nL)
    (h : ∀ (p : Program) (e : Env) (s : State) (m : MethodId) (args : Array Value) (below : List Frame) (meth : Method) (c : Code) (A : Nat → Prop) (Q : State → Prop), CallFix p m c cc nL s args WG own → va_K D vwCl (TY E) s → (∀ q, s.heap.size ≤ q → A q) → SF E tx A s s.heap → WD D A s ws s.heap [] →
      (∀ {pc : Nat} {H : Heap} {locs : List Loc} {ls : Array Slot} {cells slots : Nat}, decode cc pc = .ok (.return_, 1) → k = 0 → cells ≤ mc → slots ≤ ms → WD D A s ws' H locs → W p l e (RX_ fr lo mc ms) s m args below meth c H locs cells slots Q (F0 m pc ls [])) →
      Thru p l e (RX_ fr lo mc ms) s m args below meth c D A ws' k mc ms Q → Thrs p l e (RX_ fr lo mc ms) s m args below meth c cc own tx nL D A ws' k mc ms Q → ThrsW p l e (RX_ fr lo mc ms) s m args below meth c cc own tx nL D A ws' k mc ms Q →
      ∀ ls : Array Slot, lv_has ls nL (lv_args 0 As) → W p l e (RX_ fr lo mc ms) s m args below meth c s.heap [] 0 0 Q (F0 m 0 ls [])) : XV l y cc nL fr lo mc ms D E tx As ws ws' k := by
  intro sz
  refine vx_ofW (cc := cc) (maxL := nL) (ret := none) hy rfl ?_
  intro p e s m args below meth c s₁ B hml hnone hv
  obtain ⟨rfl, hsz, hP, hK, hD0, hZ⟩ := hv
  subst hsz
  have hts := atoms_spec (ws := GW y cc nL none) B.pre
  have hown : s.vm.findClass own = some m.cls := by rw [← ho]; exact findClass_of_methodNamed B.named
  have hlocks := B.notSynchronized
  have hr := B.returns
  have hF : CallFix p m c cc nL s As.toArray WG own := ⟨B.exec, B.bytes, hml, hown, fun w hw => hts w (List.mem_cons_of_mem _ hw)⟩
  rw [lg_entry_eq]
  refine h p e s m _ below meth c (va_A ws s.heap.size) _ hF hK (fun q h => Or.inr h) hZ ⟨hP, hD0.self, va_S.rf⟩ ?_ (thru_of hnone hlocks) (thrs_of hF hlt hfr hZ hnone hlocks) (thrsW_of hF hlt hfr hZ hnone hlocks) _ (lv_entry As hn)
  intro pc H locs ls cells slots hd hk hc hs hW
  refine vx_ret (W.widen hc hs ?_)
  exact W.vret B.exec B.bytes hr (fun t ht _ => ⟨⟨(), rfl, hk, by show va_P D vwCl ws' t.heap; rw [ht]; exact hW.1⟩, hW.2.2.F ht⟩) hW.2.2.2.2 hd
/-! calls of them -/
section QX
variable {p : Program} {l : Launch} {e : Env} {R : Room} {s : State} {m : MethodId} {args : Array Value} {below : List Frame} {meth : Method} {c : Code} {H : Heap} {locs : List Loc} {cells slots : Nat} {Q : State → Prop} {cc : ByteArray} {pc : Nat} {ls : Array Slot} {rest : List Value}
variable {D : va_G} {E : Nat → ClassId} {tx : List (Nat × String)} {A : Nat → Prop} {ws wc wc' : va_W} {b : Nat} {own : String} {nL nM fr lo mc ms n k : Nat} {y : MethodName} {cb : ByteArray} {As st0 : List Value}
theorem q_xI (hF : CallFix p m c cc nL s args WG own) (hsz : ls.size = nL) (hK : va_K D vwCl (TY E) s) (hA : ∀ q, s.heap.size ≤ q → A q) (hZ : SF E tx A s s.heap) (hW : WD D A s ws H locs) {ret : Option FieldType} (hm : MV y cb nM ret n) {index : Nat} (hlk : Cond.methodLink own index y ∈ WG) {rv : Int32} (hC : XI l y cb nM ret fr lo mc ms D E tx (.ref b :: As) wc wc' k rv)
    (is : List Nat) (h1 : is.map (fun i => ws[i]?) = wc.map some) (hn : va_nd is = true) {ci : Nat} {q : vw_C} {fs : List Value} (hc : vwCl[ci]? = some q) (he : wc[0]? = some (b, .inr (ci, fs))) (hq : q.1 = y.cls) (ha : wc'.map (·.1) = wc.map (·.1)) (hR : fr + 1 ≤ R.frames ∧ 8 + (nM + 11) + lo ≤ R.locals) (hcs : cells + mc ≤ R.cells ∧ slots + ms ≤ R.slots)
    (hAs : As.length = n) (hst : st0 = As.reverse ++ .ref b :: rest) (hrest : (rest.map fun v => v.category).sum ≤ 8) (hd : decode cc pc = .ok (.invokevirtual index, 3))
    (kx : k ≠ 0 → ∀ (ce : Cell) (q9 : Addr) (H : Heap) (locs : List Loc), WD D A s (va_pa ws is wc') H locs → H[q9]? = some ce → ce.vm = .none → s.vm.findClass (exName k) = some ce.cls → vx_W p l e R s m args below meth c H locs (cells + mc) (slots + ms) Q (F0 m pc ls rest) q9)
    (kk : k = 0 → ∀ (H : Heap) (locs : List Loc), WD D A s (va_pa ws is wc') H locs → W p l e R s m args below meth c H locs (cells + mc) (slots + ms) Q (F0 m (pc + 3) ls (.int rv :: rest))) : W p l e R s m args below meth c H locs cells slots Q (F0 m pc ls st0) := by
  subst hst
  have hpre := pre_of (As := .ref b :: As) hK hA hZ hW is h1 hn
  have hPc : va_P D vwCl wc H := fun k q hq => by obtain ⟨i, -, hi⟩ := va_at2 h1 hq; exact hW.1 i q hi
  have hrc := va_recv hK hPc hc he
  rw [hq] at hrc
  have hFc := va_free hW.2.1 hW.2.2 hA is h1
  refine vx_calli (vx_runV (As := As) (rest := rest) hF (hC H.size) ⟨callB_of (ws' := WG) n hF.2.2.2.2 (g_sub (y := y) (cc := cb) (nL := nM) (ret := ret) hm.1) rfl rfl rfl (hF.2.2.2.2 _ hm.2.2.2.1) (hF.2.2.2.2 _ hlk) hm.2.2.2.2 hR, hF.2.2.2.2 _ hm.2.1, hF.2.2.2.2 _ hm.2.2.1⟩ ⟨hpre.1, hrc, hpre.2⟩ rfl hAs hsz rfl (lv_room hrest) hd hcs) hW.2.2 (fun q _ h => hFc q h) hFc (fun q _ h => hFc q h) ?_ ?_
  · intro E' ce q9 u t H1 locs1 ht hvm hp hB hz1 hk1 hS1 hce hcv hcl
    obtain ⟨hE, hB⟩ := hB
    subst hE
    rw [ht] at hB
    obtain ⟨g1, g2⟩ := va_backA hW.1 hW.2.1 is h1 ha hk1 hB
    exact kx hp ce q9 H1 locs1 ⟨g1, g2, hS1⟩ hce hcv hcl
  · intro r u t H1 locs1 ht hvm hw hB hz1 hk1 hS1
    obtain ⟨hk0, hw⟩ := hw
    subst hw
    rw [ht] at hB
    obtain ⟨g1, g2⟩ := va_backA hW.1 hW.2.1 is h1 ha hk1 hB
    exact kk hk0 H1 locs1 ⟨g1, g2, hS1⟩
theorem q_xV (hF : CallFix p m c cc nL s args WG own) (hsz : ls.size = nL) (hK : va_K D vwCl (TY E) s) (hA : ∀ q, s.heap.size ≤ q → A q) (hZ : SF E tx A s s.heap) (hW : WD D A s ws H locs) (hm : MV y cb nM none n) {index : Nat} (hlk : Cond.methodLink own index y ∈ WG) (hC : XV l y cb nM fr lo mc ms D E tx (.ref b :: As) wc wc' k)
    (is : List Nat) (h1 : is.map (fun i => ws[i]?) = wc.map some) (hn : va_nd is = true) {ci : Nat} {q : vw_C} {fs : List Value} (hc : vwCl[ci]? = some q) (he : wc[0]? = some (b, .inr (ci, fs))) (hq : q.1 = y.cls) (ha : wc'.map (·.1) = wc.map (·.1)) (hR : fr + 1 ≤ R.frames ∧ 8 + (nM + 11) + lo ≤ R.locals) (hcs : cells + mc ≤ R.cells ∧ slots + ms ≤ R.slots)
    (hAs : As.length = n) (hst : st0 = As.reverse ++ .ref b :: rest) (hrest : (rest.map fun v => v.category).sum ≤ 8) (hd : decode cc pc = .ok (.invokevirtual index, 3))
    (kx : k ≠ 0 → ∀ (ce : Cell) (q9 : Addr) (H : Heap) (locs : List Loc), WD D A s (va_pa ws is wc') H locs → H[q9]? = some ce → ce.vm = .none → s.vm.findClass (exName k) = some ce.cls → vx_W p l e R s m args below meth c H locs (cells + mc) (slots + ms) Q (F0 m pc ls rest) q9)
    (kk : k = 0 → ∀ (H : Heap) (locs : List Loc), WD D A s (va_pa ws is wc') H locs → W p l e R s m args below meth c H locs (cells + mc) (slots + ms) Q (F0 m (pc + 3) ls rest)) : W p l e R s m args below meth c H locs cells slots Q (F0 m pc ls st0) := by
  subst hst
  have hpre := pre_of (As := .ref b :: As) hK hA hZ hW is h1 hn
  have hPc : va_P D vwCl wc H := fun k q hq => by obtain ⟨i, -, hi⟩ := va_at2 h1 hq; exact hW.1 i q hi
  have hrc := va_recv hK hPc hc he
  rw [hq] at hrc
  have hFc := va_free hW.2.1 hW.2.2 hA is h1
  refine vx_callv (vx_runV (As := As) (rest := rest) hF (hC H.size) ⟨callB_of (ws' := WG) n hF.2.2.2.2 (g_sub (y := y) (cc := cb) (nL := nM) (ret := none) hm.1) rfl rfl rfl (hF.2.2.2.2 _ hm.2.2.2.1) (hF.2.2.2.2 _ hlk) hm.2.2.2.2 hR, hF.2.2.2.2 _ hm.2.1, hF.2.2.2.2 _ hm.2.2.1⟩ ⟨hpre.1, hrc, hpre.2⟩ rfl hAs hsz rfl (lv_room hrest) hd hcs) hW.2.2 (fun q _ h => hFc q h) hFc (fun q _ h => hFc q h) ?_ ?_
  · intro E' ce q9 u t H1 locs1 ht hvm hp hB hz1 hk1 hS1 hce hcv hcl
    obtain ⟨hE, hB⟩ := hB
    subst hE
    rw [ht] at hB
    obtain ⟨g1, g2⟩ := va_backA hW.1 hW.2.1 is h1 ha hk1 hB
    exact kx hp ce q9 H1 locs1 ⟨g1, g2, hS1⟩ hce hcv hcl
  · intro u t H1 locs1 ht hvm hk0 hB hz1 hk1 hS1
    rw [ht] at hB
    obtain ⟨g1, g2⟩ := va_backA hW.1 hW.2.1 is h1 ha hk1 hB
    exact kk hk0 H1 locs1 ⟨g1, g2, hS1⟩
theorem q_xSI (hF : CallFix p m c cc nL s args WG own) (hsz : ls.size = nL) (hK : va_K D vwCl (TY E) s) (hA : ∀ q, s.heap.size ≤ q → A q) (hZ : SF E tx A s s.heap) (hW : WD D A s ws H locs) {ret : Option FieldType} (hm : MS y cb nM ret n) {index : Nat} (hlk : Cond.methodLink own index y ∈ WG) {rv : Int32} (hC : XI l y cb nM ret fr lo mc ms D E tx As wc wc' k rv)
    (is : List Nat) (h1 : is.map (fun i => ws[i]?) = wc.map some) (hn : va_nd is = true) (ha : wc'.map (·.1) = wc.map (·.1)) (hR : fr + 1 ≤ R.frames ∧ 8 + (nM + 11) + lo ≤ R.locals) (hcs : cells + mc ≤ R.cells ∧ slots + ms ≤ R.slots)
    (hAs : As.length = n) (hst : st0 = As.reverse ++ rest) (hrest : (rest.map fun v => v.category).sum ≤ 8) (hd : decode cc pc = .ok (.invokestatic index, 3))
    (kx : k ≠ 0 → ∀ (ce : Cell) (q9 : Addr) (H : Heap) (locs : List Loc), WD D A s (va_pa ws is wc') H locs → H[q9]? = some ce → ce.vm = .none → s.vm.findClass (exName k) = some ce.cls → vx_W p l e R s m args below meth c H locs (cells + mc) (slots + ms) Q (F0 m pc ls rest) q9)
    (kk : k = 0 → ∀ (H : Heap) (locs : List Loc), WD D A s (va_pa ws is wc') H locs → W p l e R s m args below meth c H locs (cells + mc) (slots + ms) Q (F0 m (pc + 3) ls (.int rv :: rest))) : W p l e R s m args below meth c H locs cells slots Q (F0 m pc ls st0) := by
  subst hst
  have hpre := pre_of (As := As) hK hA hZ hW is h1 hn
  have hFc := va_free hW.2.1 hW.2.2 hA is h1
  refine vx_calli (vx_runS (As := As) (rest := rest) hF (hC H.size) ⟨callB_of (ws' := WG) n hF.2.2.2.2 (g_sub (y := y) (cc := cb) (nL := nM) (ret := ret) hm.1) rfl rfl rfl (hF.2.2.2.2 _ hm.2.2.1) (hF.2.2.2.2 _ hlk) hm.2.2.2 hR, hF.2.2.2.2 _ hm.2.1⟩ hpre rfl hAs hsz rfl (lv_room hrest) hd hcs) hW.2.2 (fun q _ h => hFc q h) hFc (fun q _ h => hFc q h) ?_ ?_
  · intro E' ce q9 u t H1 locs1 ht hvm hp hB hz1 hk1 hS1 hce hcv hcl
    obtain ⟨hE, hB⟩ := hB
    subst hE
    rw [ht] at hB
    obtain ⟨g1, g2⟩ := va_backA hW.1 hW.2.1 is h1 ha hk1 hB
    exact kx hp ce q9 H1 locs1 ⟨g1, g2, hS1⟩ hce hcv hcl
  · intro r u t H1 locs1 ht hvm hw hB hz1 hk1 hS1
    obtain ⟨hk0, hw⟩ := hw
    subst hw
    rw [ht] at hB
    obtain ⟨g1, g2⟩ := va_backA hW.1 hW.2.1 is h1 ha hk1 hB
    exact kk hk0 H1 locs1 ⟨g1, g2, hS1⟩
theorem q_xSV (hF : CallFix p m c cc nL s args WG own) (hsz : ls.size = nL) (hK : va_K D vwCl (TY E) s) (hA : ∀ q, s.heap.size ≤ q → A q) (hZ : SF E tx A s s.heap) (hW : WD D A s ws H locs) (hm : MS y cb nM none n) {index : Nat} (hlk : Cond.methodLink own index y ∈ WG) (hC : XV l y cb nM fr lo mc ms D E tx As wc wc' k)
    (is : List Nat) (h1 : is.map (fun i => ws[i]?) = wc.map some) (hn : va_nd is = true) (ha : wc'.map (·.1) = wc.map (·.1)) (hR : fr + 1 ≤ R.frames ∧ 8 + (nM + 11) + lo ≤ R.locals) (hcs : cells + mc ≤ R.cells ∧ slots + ms ≤ R.slots)
    (hAs : As.length = n) (hst : st0 = As.reverse ++ rest) (hrest : (rest.map fun v => v.category).sum ≤ 8) (hd : decode cc pc = .ok (.invokestatic index, 3))
    (kx : k ≠ 0 → ∀ (ce : Cell) (q9 : Addr) (H : Heap) (locs : List Loc), WD D A s (va_pa ws is wc') H locs → H[q9]? = some ce → ce.vm = .none → s.vm.findClass (exName k) = some ce.cls → vx_W p l e R s m args below meth c H locs (cells + mc) (slots + ms) Q (F0 m pc ls rest) q9)
    (kk : k = 0 → ∀ (H : Heap) (locs : List Loc), WD D A s (va_pa ws is wc') H locs → W p l e R s m args below meth c H locs (cells + mc) (slots + ms) Q (F0 m (pc + 3) ls rest)) : W p l e R s m args below meth c H locs cells slots Q (F0 m pc ls st0) := by
  subst hst
  have hpre := pre_of (As := As) hK hA hZ hW is h1 hn
  have hFc := va_free hW.2.1 hW.2.2 hA is h1
  refine vx_callv (vx_runS (As := As) (rest := rest) hF (hC H.size) ⟨callB_of (ws' := WG) n hF.2.2.2.2 (g_sub (y := y) (cc := cb) (nL := nM) (ret := none) hm.1) rfl rfl rfl (hF.2.2.2.2 _ hm.2.2.1) (hF.2.2.2.2 _ hlk) hm.2.2.2 hR, hF.2.2.2.2 _ hm.2.1⟩ hpre rfl hAs hsz rfl (lv_room hrest) hd hcs) hW.2.2 (fun q _ h => hFc q h) hFc (fun q _ h => hFc q h) ?_ ?_
  · intro E' ce q9 u t H1 locs1 ht hvm hp hB hz1 hk1 hS1 hce hcv hcl
    obtain ⟨hE, hB⟩ := hB
    subst hE
    rw [ht] at hB
    obtain ⟨g1, g2⟩ := va_backA hW.1 hW.2.1 is h1 ha hk1 hB
    exact kx hp ce q9 H1 locs1 ⟨g1, g2, hS1⟩ hce hcv hcl
  · intro u t H1 locs1 ht hvm hk0 hB hz1 hk1 hS1
    rw [ht] at hB
    obtain ⟨g1, g2⟩ := va_backA hW.1 hW.2.1 is h1 ha hk1 hB
    exact kk hk0 H1 locs1 ⟨g1, g2, hS1⟩
end QX
