/-! a scene of the class (rows S 0 .. S 6) and the reference's row G -/
def WF (G : Int → Int) : Prop := WL G ∧ LIM G (GV G) ∧ WS G
def SC (G : Int → Int) (S : Nat → Int → Int) : Prop := (∀ k : Int, 0 ≤ k → k < G 0 → S 0 k = G (1 + 4 * k) ∧ S 1 k = -G (2 + 4 * k) ∧ S 2 k = G (3 + 4 * k) ∧ S 3 k = G (4 + 4 * k)) ∧ RS G (S 4) (S 5) (S 6)
def CP (n : Int) (F D : Int → Int) : Int → Int := fun i => if 0 ≤ i ∧ i < n then F i else D i
def CPS (S D : Nat → Int → Int) : Nat → Int → Int := fun q => CP (if q < 4 then 4 else if q < 6 then 60 else 21) (S q) (D q)
section
variable {G G' : Int → Int} {S D : Nat → Int → Int}
theorem SC.rb (h : SC G S) : RB G (S 1) (S 2) := fun k h0 h1 => ⟨(h.1 k h0 h1).2.1, (h.1 k h0 h1).2.2.1⟩
theorem same_ix (h : ∀ k : Int, 0 ≤ k → k < 141 → G' k = G k) (hw : WF G) : (G' 0 = G 0 ∧ G' 20 = G 20) ∧ (∀ k : Int, 0 ≤ k → k < G 0 → G' (1 + 4 * k) = G (1 + 4 * k) ∧ G' (2 + 4 * k) = G (2 + 4 * k) ∧ G' (3 + 4 * k) = G (3 + 4 * k) ∧ G' (4 + 4 * k) = G (4 + 4 * k)) ∧ ∀ i : Int, 0 ≤ i → i < G 20 → G' (21 + 2 * i) = G (21 + 2 * i) ∧ G' (21 + 2 * i + 1) = G (21 + 2 * i + 1) := by
  have h1 := hw.1.1
  have h2 := hw.2.2.1
  exact ⟨⟨h 0 (by omega) (by omega), h 20 (by omega) (by omega)⟩, fun k h3 h4 => ⟨h _ (by omega) (by omega), h _ (by omega) (by omega), h _ (by omega) (by omega), h _ (by omega) (by omega)⟩, fun i h3 h4 => ⟨h _ (by omega) (by omega), h _ (by omega) (by omega)⟩⟩
theorem WL_congr (h0 : G' 0 = G 0) (h : ∀ k : Int, 0 ≤ k → k < G 0 → G' (1 + 4 * k) = G (1 + 4 * k) ∧ G' (2 + 4 * k) = G (2 + 4 * k) ∧ G' (3 + 4 * k) = G (3 + 4 * k)) (hl : WL G) : WL G' := by
  refine ⟨by rw [h0]; exact hl.1, fun k h1 h2 => ?_⟩
  rw [h0] at h2
  have h3 := h k h1 h2
  rw [h3.1, h3.2.1, h3.2.2]
  exact hl.2 k h1 h2
theorem OS_congr (h0 : G' 20 = G 20) (h : ∀ i : Int, 0 ≤ i → i < G 20 → G' (21 + 2 * i) = G (21 + 2 * i) ∧ G' (21 + 2 * i + 1) = G (21 + 2 * i + 1)) (x y : Int) : OS G' x y ↔ OS G x y := by
  unfold OS
  rw [h0]
  constructor
  · rintro ⟨i, h1, h2, h3⟩
    have h4 := h i h1.1 h1.2
    exact ⟨i, h1, h4.1.symm.trans h2, h4.2.symm.trans h3⟩
  · rintro ⟨i, h1, h2, h3⟩
    have h4 := h i h1.1 h1.2
    exact ⟨i, h1, h4.1.trans h2, h4.2.trans h3⟩
theorem WS_congr (h0 : G' 20 = G 20) (h : ∀ i : Int, 0 ≤ i → i < G 20 → G' (21 + 2 * i) = G (21 + 2 * i) ∧ G' (21 + 2 * i + 1) = G (21 + 2 * i + 1)) (hs : WS G) : WS G' := by
  refine ⟨by rw [h0]; exact hs.1, fun i h1 h2 => ?_, fun i j h1 h2 h3 => ?_⟩
  · rw [h0] at h2
    have h4 := h i h1 h2
    rw [h4.1, h4.2]
    exact hs.2.1 i h1 h2
  · rw [h0] at h3
    have h4 := h i h1 (by omega)
    have h5 := h j (by omega) h3
    rw [h4.1, h4.2, h5.1, h5.2]
    exact hs.2.2 i j h1 h2 h3
theorem RS_congr {ox oy BL : Int → Int} (h0 : G' 20 = G 20) (h : ∀ i : Int, 0 ≤ i → i < G 20 → G' (21 + 2 * i) = G (21 + 2 * i) ∧ G' (21 + 2 * i + 1) = G (21 + 2 * i + 1)) (hr : RS G ox oy BL) : RS G' ox oy BL := by
  refine ⟨fun i h1 h2 => ?_, fun x y h1 => ?_⟩
  · rw [h0] at h2
    have h4 := h i h1 h2
    rw [h4.1, h4.2]
    exact hr.1 i h1 h2
  · rw [OS_congr h0 h, hr.2 x y h1]
theorem WF_congr (h : ∀ k : Int, 0 ≤ k → k < 141 → G' k = G k) (hw : WF G) : WF G' := by
  obtain ⟨h1, h2, h3⟩ := same_ix h hw
  refine ⟨WL_congr h1.1 (fun k a b => ⟨(h2 k a b).1, (h2 k a b).2.1, (h2 k a b).2.2.1⟩) hw.1, fun k a b => ?_, WS_congr h1.2 h3 hw.2.2⟩
  rw [h1.1] at b
  have h4 := h2 k a b
  show -G' (2 + 4 * k) ≤ G' (4 + 4 * k) ∧ G' (4 + 4 * k) ≤ G' (3 + 4 * k)
  rw [h4.2.1, h4.2.2.1, h4.2.2.2]
  exact hw.2.1 k a b
theorem SC_congr (h : ∀ k : Int, 0 ≤ k → k < 141 → G' k = G k) (hw : WF G) (hs : SC G S) : SC G' S := by
  obtain ⟨h1, h2, h3⟩ := same_ix h hw
  refine ⟨fun k a b => ?_, RS_congr h1.2 h3 hs.2⟩
  rw [h1.1] at b
  have h4 := h2 k a b
  rw [h4.1, h4.2.1, h4.2.2.1, h4.2.2.2]
  exact hs.1 k a b
theorem CP_in {n : Int} {F D : Int → Int} {i : Int} (h : 0 ≤ i ∧ i < n) : CP n F D i = F i := if_pos h
theorem SC_CPS (hw : WF G) (hs : SC G S) : SC G (CPS S D) := by
  have h1 := hw.1.1
  have h2 := hw.2.2.1
  refine ⟨fun k a b => ?_, fun i a b => ?_, fun x y a => ?_⟩
  · have h4 := hs.1 k a b
    have e0 : CPS S D 0 k = S 0 k := CP_in (n := 4) (by omega)
    have e1 : CPS S D 1 k = S 1 k := CP_in (n := 4) (by omega)
    have e2 : CPS S D 2 k = S 2 k := CP_in (n := 4) (by omega)
    have e3 : CPS S D 3 k = S 3 k := CP_in (n := 4) (by omega)
    rw [e0, e1, e2, e3]
    exact h4
  · have e0 : CPS S D 4 i = S 4 i := CP_in (n := 60) (by omega)
    have e1 : CPS S D 5 i = S 5 i := CP_in (n := 60) (by omega)
    rw [e0, e1]
    exact hs.2.1 i a b
  · rw [← hs.2.2 x y a]
    unfold ST
    have e0 : CPS S D 6 (y + 10) = S 6 (y + 10) := CP_in (n := 21) (by omega)
    rw [e0]
theorem gcp4 {α : Type} {k : Option α} : GCP 0 0 4 4 4 k = k := if_neg (by decide)
theorem gcp60 {α : Type} {k : Option α} : GCP 0 0 60 60 60 k = k := if_neg (by decide)
theorem gcp21 {α : Type} {k : Option α} : GCP 0 0 21 21 21 k = k := if_neg (by decide)
theorem cpy_n (F D : Int → Int) (n : Nat) : va_cpy (JA F) (JA D) 0 0 n = JA (CP n F D) := by
  funext k
  show (if 0 ≤ k ∧ k < 0 + n then J (F ((0 + (k - 0) : Nat) : Int)) else J (D k)) = J (if 0 ≤ (k : Int) ∧ (k : Int) < n then F k else D k)
  by_cases q : k < n
  · rw [if_pos (by omega), if_pos (by omega)]
    exact congrArg J (congrArg F (by omega))
  · rw [if_neg (by omega), if_neg (by omega)]
theorem cpy4 (F D : Int → Int) : va_cpy (JA F) (JA D) (0 : Int32).toNatClampNeg (0 : Int32).toNatClampNeg (4 : Int32).toNatClampNeg = JA (CP 4 F D) := cpy_n F D 4
theorem cpy60 (F D : Int → Int) : va_cpy (JA F) (JA D) (0 : Int32).toNatClampNeg (0 : Int32).toNatClampNeg (60 : Int32).toNatClampNeg = JA (CP 60 F D) := cpy_n F D 60
theorem cpy21 (F D : Int → Int) : va_cpy (JA F) (JA D) (0 : Int32).toNatClampNeg (0 : Int32).toNatClampNeg (21 : Int32).toNatClampNeg = JA (CP 21 F D) := cpy_n F D 21
theorem e_copyFrom (l o l' o' : Int32) : f_X4_copyFrom l o (JA (D 0)) (JA (D 1)) (JA (D 2)) (JA (D 3)) (JA (D 4)) (JA (D 5)) (JA (D 6)) l' o' (JA (S 0)) (JA (S 1)) (JA (S 2)) (JA (S 3)) (JA (S 4)) (JA (S 5)) (JA (S 6)) =
    some (l', o', JA (CPS S D 0), JA (CPS S D 1), JA (CPS S D 2), JA (CPS S D 3), JA (CPS S D 4), JA (CPS S D 5), JA (CPS S D 6)) := by
  unfold f_X4_copyFrom
  simp only [gcp4, gcp60, gcp21, LET, cpy4, cpy60, cpy21]
  rfl
/-! history: the class's ring, the reference's rows -/
def GP (P : Int → Int) (i : Int) : Int → Int := fun k => P (141 * i + k)
def HR (c o : Int) (pl po : Nat → Int32) (pa : Nat → Nat → Nat → Int32) (P : Int → Int) : Prop := (0 ≤ c ∧ c ≤ 8 ∧ 0 ≤ o ∧ o < 8) ∧ ∀ i : Int, 0 ≤ i → i < c → ∃ S : Nat → Int → Int, pl ((o + i) % 8).toNat = J (GP P i 0) ∧ po ((o + i) % 8).toNat = J (GP P i 20) ∧ (∀ q : Nat, q < 7 → pa ((o + i) % 8).toNat q = JA (S q)) ∧ SC (GP P i) S ∧ WF (GP P i)
theorem sw8 {α : Type} (A : Nat → Option α) {j : Int} (h : 0 ≤ j ∧ j < 8) : SW8 (J j) (A 0) (A 1) (A 2) (A 3) (A 4) (A 5) (A 6) (A 7) = A j.toNat := by
  have h1 : j = 0 ∨ j = 1 ∨ j = 2 ∨ j = 3 ∨ j = 4 ∨ j = 5 ∨ j = 6 ∨ j = 7 := by omega
  rcases h1 with e | e | e | e | e | e | e | e <;> subst e <;> rfl
theorem e_remember {c o : Int} {pl po : Nat → Int32} {pa : Nat → Nat → Nat → Int32} {P : Int → Int} (hw : WF G) (hs : SC G S) (h : HR c o pl po pa P) :
    ∃ pl' po' pa' o', f_X1_remember (J c) (J o) (J (G 0)) (J (G 20)) (JA (S 0)) (JA (S 1)) (JA (S 2)) (JA (S 3)) (JA (S 4)) (JA (S 5)) (JA (S 6)) pl po pa = some (J (if c = 8 then 8 else c + 1), J o', pl', po', pa') ∧
      ∀ P' : Int → Int, (∀ i k : Int, 0 ≤ i → i < 8 → 0 ≤ k → k < 141 → P' (141 * i + k) = if i = (if c = 8 then 7 else c) then G k else if c = 8 then P (141 * (i + 1) + k) else P (141 * i + k)) → HR (if c = 8 then 8 else c + 1) o' pl' po' pa' P' := by
  obtain ⟨h0, h1⟩ := h
  obtain ⟨D, hD⟩ : ∃ D : Nat → Int → Int, ∀ q : Nat, pa ((o + c) % 8).toNat q = JA (D q) := ⟨fun q => Classical.choose (JA_ex (pa ((o + c) % 8).toNat q)), fun q => (Classical.choose_spec (JA_ex (pa ((o + c) % 8).toNat q))).1⟩
  refine ⟨va_up pl ((o + c) % 8).toNat (J (G 0)), va_up po ((o + c) % 8).toNat (J (G 20)), va_up pa ((o + c) % 8).toNat (f7 (JA (CPS S D 0)) (JA (CPS S D 1)) (JA (CPS S D 2)) (JA (CPS S D 3)) (JA (CPS S D 4)) (JA (CPS S D 5)) (JA (CPS S D 6))), if c = 8 then (o + 1) % 8 else o, ?_, fun P' hP => ?_⟩
  · have e1 : (J o + J c) &&& 7 = J ((o + c) % 8) := by
      rw [J_add]
      exact J_and7 _
    unfold f_X1_remember
    rw [e1]
    refine (sw8 (fun s => (f_X4_copyFrom (pl s) (po s) (pa s 0) (pa s 1) (pa s 2) (pa s 3) (pa s 4) (pa s 5) (pa s 6) (J (G 0)) (J (G 20)) (JA (S 0)) (JA (S 1)) (JA (S 2)) (JA (S 3)) (JA (S 4)) (JA (S 5)) (JA (S 6))).bind fun o_3 => f_X1_remember_L27 (J c) (J o) (J (G 0)) (J (G 20)) (JA (S 0)) (JA (S 1)) (JA (S 2)) (JA (S 3)) (JA (S 4)) (JA (S 5)) (JA (S 6)) (va_up pl s o_3.1) (va_up po s o_3.2.1) (va_up pa s (f7 o_3.2.2.1 o_3.2.2.2.1 o_3.2.2.2.2.1 o_3.2.2.2.2.2.1 o_3.2.2.2.2.2.2.1 o_3.2.2.2.2.2.2.2.1 o_3.2.2.2.2.2.2.2.2))) (by omega)).trans ?_
    simp only [hD]
    refine ob _ (e_copyFrom _ _ _ _) ?_
    unfold f_X1_remember_L27
    by_cases q : c = 8
    · subst q
      simp (disch := omega) only [↓reduceIte, j_lits, J_add, J_sub, J_mul, J_neg, J_le, J_lt, J_eqv, J_div, J_imax, J_imin, JA_get, JG, JA_upd, LET, Option.bind_some, lt_T, lt_F, le_T, le_F, eq_T, eq_F, and_true, true_and, Int.sub_neg, Int.natCast_add, n_lits, J_and7]
    · simp (disch := omega) only [↓reduceIte, j_lits, J_add, J_sub, J_mul, J_neg, J_le, J_lt, J_eqv, J_div, J_imax, J_imin, JA_get, JG, JA_upd, LET, Option.bind_some, lt_T, lt_F, le_T, le_F, eq_T, eq_F, and_true, true_and, Int.sub_neg, Int.natCast_add, n_lits, q]
  · refine ⟨by by_cases q : c = 8 <;> simp only [q, if_true, if_false] <;> omega, fun i i0 i1 => ?_⟩
    have hg : ∀ k : Int, 0 ≤ k → k < 141 → GP P' i k = if i = (if c = 8 then 7 else c) then G k else if c = 8 then P (141 * (i + 1) + k) else P (141 * i + k) := fun k k0 k1 => hP i k i0 (by by_cases q : c = 8 <;> simp only [q, if_true, if_false] at i1 <;> omega) k0 k1
    by_cases q : i = (if c = 8 then 7 else c)
    · have hg : ∀ k : Int, 0 ≤ k → k < 141 → GP P' i k = G k := fun k k0 k1 => by rw [hg k k0 k1, if_pos q]
      have e1 : ((if c = 8 then (o + 1) % 8 else o) + i) % 8 = (o + c) % 8 := by by_cases z : c = 8 <;> simp only [z, if_true, if_false] at q ⊢ <;> omega
      refine ⟨CPS S D, ?_, ?_, ?_, SC_congr hg hw (SC_CPS hw hs), WF_congr hg hw⟩
      · rw [e1, hg 0 (by omega) (by omega)]; exact if_pos rfl
      · rw [e1, hg 20 (by omega) (by omega)]; exact if_pos rfl
      · intro z hz
        rw [e1]
        refine (congrFun (if_pos rfl) z).trans ?_
        have hz : z = 0 ∨ z = 1 ∨ z = 2 ∨ z = 3 ∨ z = 4 ∨ z = 5 ∨ z = 6 := by omega
        rcases hz with e | e | e | e | e | e | e <;> subst e <;> rfl
    · obtain ⟨i', hi', hs', hg⟩ : ∃ i' : Int, (0 ≤ i' ∧ i' < c) ∧ (((if c = 8 then (o + 1) % 8 else o) + i) % 8 = (o + i') % 8 ∧ ¬ (o + i') % 8 = (o + c) % 8) ∧ ∀ k : Int, 0 ≤ k → k < 141 → GP P' i k = GP P i' k := by
        by_cases z : c = 8
        · simp only [z, if_true] at q i1 hg ⊢
          simp only [q, if_false] at hg
          exact ⟨i + 1, by omega, by omega, hg⟩
        · simp only [z, if_false] at q i1 hg ⊢
          simp only [q, if_false] at hg
          exact ⟨i, by omega, by omega, hg⟩
      obtain ⟨S', a1, a2, a3, a4, a5⟩ := h1 i' hi'.1 hi'.2
      have hne : ¬ ((o + i') % 8).toNat = ((o + c) % 8).toNat := by omega
      refine ⟨S', ?_, ?_, ?_, SC_congr hg a5 a4, WF_congr hg a5⟩
      · rw [hs'.1, hg 0 (by omega) (by omega), ← a1]; exact if_neg hne
      · rw [hs'.1, hg 20 (by omega) (by omega), ← a2]; exact if_neg hne
      · intro z hz
        rw [hs'.1, ← a3 z hz]
        exact congrFun (if_neg hne) z
theorem e_takeLatest {c o : Int} {pl po : Nat → Int32} {pa : Nat → Nat → Nat → Int32} {P : Int → Int} (h : HR c o pl po pa P) (hc : 0 < c) (l' o' : Int32) :
    ∃ S' : Nat → Int → Int, f_X1_takeLatest (J c) (J o) l' o' (JA (D 0)) (JA (D 1)) (JA (D 2)) (JA (D 3)) (JA (D 4)) (JA (D 5)) (JA (D 6)) pl po pa = some (J (c - 1), J (GP P (c - 1) 0), J (GP P (c - 1) 20), JA (S' 0), JA (S' 1), JA (S' 2), JA (S' 3), JA (S' 4), JA (S' 5), JA (S' 6)) ∧ SC (GP P (c - 1)) S' ∧ WF (GP P (c - 1)) ∧ HR (c - 1) o pl po pa P := by
  obtain ⟨h0, h1⟩ := h
  obtain ⟨S, a1, a2, a3, a4, a5⟩ := h1 (c - 1) (by omega) (by omega)
  refine ⟨CPS S D, ?_, SC_CPS a5 a4, a5, by omega, fun i i0 i1 => h1 i i0 (by omega)⟩
  have e1 : (J o + (J c - J 1)) &&& 7 = J ((o + (c - 1)) % 8) := by
    rw [J_sub, J_add]
    exact J_and7 _
  unfold f_X1_takeLatest
  rw [if_neg (by rw [show (0 : Int32) = J 0 from rfl, J_le (by omega)]; omega)]
  simp only [LET]
  rw [show (1 : Int32) = J 1 from rfl, e1]
  refine (sw8 (fun s => (f_X4_copyFrom l' o' (JA (D 0)) (JA (D 1)) (JA (D 2)) (JA (D 3)) (JA (D 4)) (JA (D 5)) (JA (D 6)) (pl s) (po s) (pa s 0) (pa s 1) (pa s 2) (pa s 3) (pa s 4) (pa s 5) (pa s 6)).bind fun o_2 => some ((J c - J 1, o_2.1, o_2.2.1, o_2.2.2.1, o_2.2.2.2.1, o_2.2.2.2.2.1, o_2.2.2.2.2.2.1, o_2.2.2.2.2.2.2.1, o_2.2.2.2.2.2.2.2.1, o_2.2.2.2.2.2.2.2.2))) (by omega)).trans ?_
  simp only [a1, a2, a3 0 (by decide), a3 1 (by decide), a3 2 (by decide), a3 3 (by decide), a3 4 (by decide), a3 5 (by decide), a3 6 (by decide)]
  refine ob _ (e_copyFrom _ _ _ _) ?_
  rw [J_sub]
/-! the reference's rows -/
theorem e_copyLoop8 {P F : Int → Int} {a : Int} (ha : 0 ≤ a ∧ a ≤ 987) : ∀ pm : Int32, ∀ c : Int, a = 141 * c → LPF (fun z => f_X8_changes_B52 (J c) pm (JA F) z.1 z.2) lfuel (JA P, (0 : Int32)) = some (JA (fun j => if a ≤ j ∧ j < a + 141 then F (j - a) else P j)) := by
  intro pm c hc
  subst hc
  refine lp_for (fun k : Nat => (JA (fun j => if 141 * c ≤ j ∧ j < 141 * c + k then F (j - 141 * c) else P j), J k)) 141 ?_ (by decide) (fun k hk => ?_) ?_
  · refine pr2 (congrArg JA (funext fun j => ?_)) rfl
    exact (if_neg (by omega)).symm
  · have e1 : up (fun j => if 141 * c ≤ j ∧ j < 141 * c + k then F (j - 141 * c) else P j) (141 * c + k) (F k) = fun j => if 141 * c ≤ j ∧ j < 141 * c + ((k + 1 : Nat) : Int) then F (j - 141 * c) else P j := by
      funext j
      by_cases q : j = 141 * c + k
      · rw [q, up_same, if_pos (by omega)]
        exact congrArg F (by omega)
      · rw [up_ne _ _ q]
        by_cases q2 : 141 * c ≤ j ∧ j < 141 * c + k
        · rw [if_pos q2, if_pos (by omega)]
        · rw [if_neg q2, if_neg (by omega)]
    rw [← e1]
    unfold f_X8_changes_B52
    simp (disch := omega) only [↓reduceIte, j_lits, J_add, J_sub, J_mul, J_neg, J_le, J_lt, J_eqv, J_div, J_imax, J_imin, JA_get, JG, JA_upd, LET, Option.bind_some, lt_T, lt_F, le_T, le_F, eq_T, eq_F, and_true, true_and, Int.sub_neg, Int.natCast_add, n_lits]
  · unfold f_X8_changes_B52
    simp (disch := omega) only [↓reduceIte, j_lits, J_add, J_sub, J_mul, J_neg, J_le, J_lt, J_eqv, J_div, J_imax, J_imin, JA_get, JG, JA_upd, LET, Option.bind_some, lt_T, lt_F, le_T, le_F, eq_T, eq_F, and_true, true_and, Int.sub_neg, Int.natCast_add, n_lits]
theorem e_changes8 {c : Int} {P : Int → Int} (hc : 0 ≤ c ∧ c ≤ 8) (pm : Int32) :
    ∃ P' : Int → Int, f_X8_changes (J c) pm (JA G) (JA P) = some (J (if c = 8 then 8 else c + 1), J (-1), JA P') ∧ ∀ i k : Int, 0 ≤ i → i < 8 → 0 ≤ k → k < 141 → P' (141 * i + k) = if i = (if c = 8 then 7 else c) then G k else if c = 8 then P (141 * (i + 1) + k) else P (141 * i + k) := by
  by_cases q : c = 8
  · subst q
    refine ⟨fun j => if 987 ≤ j ∧ j < 987 + 141 then G (j - 987) else if 0 ≤ j ∧ j < 987 then P (j + 141) else P j, ?_, ?_⟩
    · unfold f_X8_changes
      rw [if_pos (show J 8 = 8 from rfl)]
      obtain ⟨N, hN⟩ : ∃ N : Nat, N = 987 := ⟨_, rfl⟩
      have hN' : (N : Int) = 987 := by omega
      refine lp_bind (fun k : Nat => (JA (fun j => if 0 ≤ j ∧ j < k then P (j + 141) else P j), J k)) N (e := JA (fun j => if 0 ≤ j ∧ j < 987 then P (j + 141) else P j)) ?_ (by omega) (fun k hk => ?_) ?_ ?_
      · refine pr2 (congrArg JA (funext fun j => ?_)) rfl
        exact (if_neg (by omega)).symm
      · have e1 : up (fun j => if 0 ≤ j ∧ j < k then P (j + 141) else P j) k (P (k + 141)) = fun j => if 0 ≤ j ∧ j < ((k + 1 : Nat) : Int) then P (j + 141) else P j := by
          funext j
          by_cases q : j = k
          · rw [q, up_same, if_pos (by omega)]
          · rw [up_ne _ _ q]
            by_cases q2 : 0 ≤ j ∧ j < k
            · rw [if_pos q2, if_pos (by omega)]
            · rw [if_neg q2, if_neg (by omega)]
        have e2 : (if 0 ≤ (k : Int) + 141 ∧ (k : Int) + 141 < k then P ((k : Int) + 141 + 141) else P ((k : Int) + 141)) = P (k + 141) := if_neg (by omega)
        rw [← e1]
        unfold f_X8_changes_B11
        simp (disch := omega) only [↓reduceIte, j_lits, J_add, J_sub, J_mul, J_neg, J_le, J_lt, J_eqv, J_div, J_imax, J_imin, JA_get, JG, JA_upd, LET, Option.bind_some, lt_T, lt_F, le_T, le_F, eq_T, eq_F, and_true, true_and, Int.sub_neg, Int.natCast_add, n_lits, e2]
      · unfold f_X8_changes_B11
        simp (disch := omega) only [↓reduceIte, j_lits, J_add, J_sub, J_mul, J_neg, J_le, J_lt, J_eqv, J_div, J_imax, J_imin, JA_get, JG, JA_upd, LET, Option.bind_some, lt_T, lt_F, le_T, le_F, eq_T, eq_F, and_true, true_and, Int.sub_neg, Int.natCast_add, n_lits, hN']
      · simp only [LET]
        rw [show J 8 - 1 = J 7 from rfl]
        unfold f_X8_changes_L50
        refine ob _ (e_copyLoop8 (F := G) (a := 987) (by decide) pm 7 rfl) ?_
        simp (disch := omega) only [↓reduceIte, j_lits, J_add, J_sub, J_mul, J_neg, J_le, J_lt, J_eqv, J_div, J_imax, J_imin, JA_get, JG, JA_upd, LET, Option.bind_some, lt_T, lt_F, le_T, le_F, eq_T, eq_F, and_true, true_and, Int.sub_neg, Int.natCast_add, n_lits]
        rfl
    · intro i k i0 i1 k0 k1
      by_cases z : i = 7
      · refine ((if_pos (by omega)).trans ?_).trans (if_pos (z.trans (if_pos rfl).symm)).symm
        exact congrArg G (by omega)
      · refine ((if_neg (by omega)).trans ((if_pos (by omega)).trans ?_)).trans ((if_neg (fun w => z (w.trans (if_pos rfl)))).trans (if_pos rfl)).symm
        exact congrArg P (by omega)
  · refine ⟨fun j => if 141 * c ≤ j ∧ j < 141 * c + 141 then G (j - 141 * c) else P j, ?_, ?_⟩
    · unfold f_X8_changes
      rw [if_neg (by rw [show (8 : Int32) = J 8 from rfl, J_eqv (by omega)]; exact q)]
      unfold f_X8_changes_L50
      refine ob _ (e_copyLoop8 (F := G) (a := 141 * c) (by omega) pm c rfl) ?_
      simp (disch := omega) only [↓reduceIte, j_lits, J_add, J_sub, J_mul, J_neg, J_le, J_lt, J_eqv, J_div, J_imax, J_imin, JA_get, JG, JA_upd, LET, Option.bind_some, lt_T, lt_F, le_T, le_F, eq_T, eq_F, and_true, true_and, Int.sub_neg, Int.natCast_add, n_lits]
    · intro i k i0 i1 k0 k1
      rw [if_neg q]
      by_cases z : i = c
      · rw [if_pos z]
        refine (if_pos (by omega)).trans ?_
        exact congrArg G (by omega)
      · rw [if_neg z, if_neg q]
        exact if_neg (by omega)
theorem e_undo8 {c : Int} {P : Int → Int} (hc : 0 < c ∧ c ≤ 8) (pm th : Int32) :
    ∃ G' : Int → Int, f_X8_undo (J c) pm th (JA G) (JA P) = some (J (c - 1), J (c - 1), J (-1), J 0, JA G') ∧ ∀ k : Int, 0 ≤ k → k < 141 → G' k = GP P (c - 1) k := by
  refine ⟨fun j => if 0 ≤ j ∧ j < 141 then P (141 * (c - 1) + j) else G j, ?_, fun k k0 k1 => if_pos ⟨k0, k1⟩⟩
  unfold f_X8_undo
  rw [if_neg (by rw [show (0 : Int32) = J 0 from rfl, J_eqv (by omega)]; omega)]
  simp only [LET]
  rw [show (1 : Int32) = J 1 from rfl, J_sub]
  refine lp_bind (fun k : Nat => (JA (fun j => if 0 ≤ j ∧ j < k then P (141 * (c - 1) + j) else G j), J k)) 141 (e := JA (fun j => if 0 ≤ j ∧ j < 141 then P (141 * (c - 1) + j) else G j)) ?_ (by decide) (fun k hk => ?_) ?_ rfl
  · refine pr2 (congrArg JA (funext fun j => ?_)) rfl
    exact (if_neg (by omega)).symm
  · have e1 : up (fun j => if 0 ≤ j ∧ j < k then P (141 * (c - 1) + j) else G j) k (P (141 * (c - 1) + k)) = fun j => if 0 ≤ j ∧ j < ((k + 1 : Nat) : Int) then P (141 * (c - 1) + j) else G j := by
      funext j
      by_cases q : j = k
      · rw [q, up_same, if_pos (by omega)]
      · rw [up_ne _ _ q]
        by_cases q2 : 0 ≤ j ∧ j < k
        · rw [if_pos q2, if_pos (by omega)]
        · rw [if_neg q2, if_neg (by omega)]
    rw [← e1]
    unfold f_X8_undo_B30
    simp (disch := omega) only [↓reduceIte, j_lits, J_add, J_sub, J_mul, J_neg, J_le, J_lt, J_eqv, J_div, J_imax, J_imin, JA_get, JG, JA_upd, LET, Option.bind_some, lt_T, lt_F, le_T, le_F, eq_T, eq_F, and_true, true_and, Int.sub_neg, Int.natCast_add, n_lits]
  · unfold f_X8_undo_B30
    simp (disch := omega) only [↓reduceIte, j_lits, J_add, J_sub, J_mul, J_neg, J_le, J_lt, J_eqv, J_div, J_imax, J_imin, JA_get, JG, JA_upd, LET, Option.bind_some, lt_T, lt_F, le_T, le_F, eq_T, eq_F, and_true, true_and, Int.sub_neg, Int.natCast_add, n_lits]
theorem e_undo8_no {P : Int → Int} (pm th : Int32) : f_X8_undo (J 0) pm th (JA G) (JA P) = some (J 0, J 0, pm, J 1, JA G) := rfl
theorem e_save8 {K : Int → Int} (hk th : Int32) : ∃ K' : Int → Int, f_X8_save hk th (JA G) (JA K) = some (J (G 0), J 1, J 0, JA K') ∧ ∀ k : Int, 0 ≤ k → k < 141 → K' k = G k := by
  refine ⟨fun j => if 0 ≤ j ∧ j < 141 then G j else K j, ?_, fun k k0 k1 => if_pos ⟨k0, k1⟩⟩
  unfold f_X8_save
  refine lp_bind (fun k : Nat => (JA (fun j => if 0 ≤ j ∧ j < k then G j else K j), J k)) 141 (e := JA (fun j => if 0 ≤ j ∧ j < 141 then G j else K j)) ?_ (by decide) (fun k hk => ?_) ?_ rfl
  · refine pr2 (congrArg JA (funext fun j => ?_)) rfl
    exact (if_neg (by omega)).symm
  · have e1 : up (fun j => if 0 ≤ j ∧ j < k then G j else K j) k (G k) = fun j => if 0 ≤ j ∧ j < ((k + 1 : Nat) : Int) then G j else K j := by
      funext j
      by_cases q : j = k
      · rw [q, up_same, if_pos (by omega)]
      · rw [up_ne _ _ q]
        by_cases q2 : 0 ≤ j ∧ j < k
        · rw [if_pos q2, if_pos (by omega)]
        · rw [if_neg q2, if_neg (by omega)]
    rw [← e1]
    unfold f_X8_save_B12
    simp (disch := omega) only [↓reduceIte, j_lits, J_add, J_sub, J_mul, J_neg, J_le, J_lt, J_eqv, J_div, J_imax, J_imin, JA_get, JG, JA_upd, LET, Option.bind_some, lt_T, lt_F, le_T, le_F, eq_T, eq_F, and_true, true_and, Int.sub_neg, Int.natCast_add, n_lits]
  · unfold f_X8_save_B12
    simp (disch := omega) only [↓reduceIte, j_lits, J_add, J_sub, J_mul, J_neg, J_le, J_lt, J_eqv, J_div, J_imax, J_imin, JA_get, JG, JA_upd, LET, Option.bind_some, lt_T, lt_F, le_T, le_F, eq_T, eq_F, and_true, true_and, Int.sub_neg, Int.natCast_add, n_lits]
theorem e_restore8 {K : Int → Int} (c pm th : Int32) : ∃ G' : Int → Int, f_X8_restore (J 1) c pm th (JA G) (JA K) = some (J (G' 0), J 0, J (-1), J 0, JA G') ∧ ∀ k : Int, 0 ≤ k → k < 141 → G' k = K k := by
  refine ⟨fun j => if 0 ≤ j ∧ j < 141 then K j else G j, ?_, fun k k0 k1 => if_pos ⟨k0, k1⟩⟩
  unfold f_X8_restore
  rw [if_neg (by decide)]
  refine lp_bind (fun k : Nat => (JA (fun j => if 0 ≤ j ∧ j < k then K j else G j), J k)) 141 (e := JA (fun j => if 0 ≤ j ∧ j < 141 then K j else G j)) ?_ (by decide) (fun k hk => ?_) ?_ rfl
  · refine pr2 (congrArg JA (funext fun j => ?_)) rfl
    exact (if_neg (by omega)).symm
  · have e1 : up (fun j => if 0 ≤ j ∧ j < k then K j else G j) k (K k) = fun j => if 0 ≤ j ∧ j < ((k + 1 : Nat) : Int) then K j else G j := by
      funext j
      by_cases q : j = k
      · rw [q, up_same, if_pos (by omega)]
      · rw [up_ne _ _ q]
        by_cases q2 : 0 ≤ j ∧ j < k
        · rw [if_pos q2, if_pos (by omega)]
        · rw [if_neg q2, if_neg (by omega)]
    rw [← e1]
    unfold f_X8_restore_B20
    simp (disch := omega) only [↓reduceIte, j_lits, J_add, J_sub, J_mul, J_neg, J_le, J_lt, J_eqv, J_div, J_imax, J_imin, JA_get, JG, JA_upd, LET, Option.bind_some, lt_T, lt_F, le_T, le_F, eq_T, eq_F, and_true, true_and, Int.sub_neg, Int.natCast_add, n_lits]
  · unfold f_X8_restore_B20
    simp (disch := omega) only [↓reduceIte, j_lits, J_add, J_sub, J_mul, J_neg, J_le, J_lt, J_eqv, J_div, J_imax, J_imin, JA_get, JG, JA_upd, LET, Option.bind_some, lt_T, lt_F, le_T, le_F, eq_T, eq_F, and_true, true_and, Int.sub_neg, Int.natCast_add, n_lits]
theorem e_restore8_no {K : Int → Int} (c pm th : Int32) : f_X8_restore (J 0) c pm th (JA G) (JA K) = some (J 0, c, pm, J 1, JA G) := rfl
end
