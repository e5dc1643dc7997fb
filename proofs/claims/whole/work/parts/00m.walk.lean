/-! the class's walk -/
def PRC (G : Int → Int) (k : Nat) (i : Int) (a : Nat) (j : Int) : Prop := (a < k ∧ 1 ≤ j ∧ j ≤ G (1 + 4 * a)) ∨ (a = k ∧ 1 ≤ j ∧ j ≤ i)
def P1 (G v : Int → Int) (a : Nat) (j : Int) : Prop := ¬ ((-10 ≤ CX G v a j ∧ CX G v a j ≤ 10) ∧ -10 ≤ CY G v a j ∧ CY G v a j ≤ 10)
def P2 (G v : Int → Int) (a : Nat) (j : Int) : Prop := OS G (CX G v a j) (CY G v a j)
def P3 (G v : Int → Int) (a : Nat) (j : Int) : Prop := (CX G v a j = 0 ∧ CY G v a j = 0) ∨ ∃ (b : Nat) (i : Int), PRC G a (j - 1) b i ∧ CX G v b i = CX G v a j ∧ CY G v b i = CY G v a j
def TRD (G v : Int → Int) (k : Nat) (i : Int) (TR : Int → Int) : Prop := ∀ x y : Int, (-10 ≤ x ∧ x ≤ 10) ∧ -10 ≤ y ∧ y ≤ 10 → (ST TR x y ↔ (x = 0 ∧ y = 0) ∨ ∃ (a : Nat) (j : Int), PRC G k i a j ∧ CX G v a j = x ∧ CY G v a j = y)
def WK (Q R1 R2 R3 : Nat → Int → Prop) (f : Int) (l : Nat) : Prop :=
  (f = 0 ∧ ∀ (a : Nat) (j : Int), Q a j → ¬ R1 a j ∧ ¬ R2 a j ∧ ¬ R3 a j)
  ∨ (f = 1 ∧ (∃ j : Int, Q l j ∧ R1 l j) ∧ ∀ (a : Nat) (j : Int), Q a j → a < l → ¬ R1 a j)
  ∨ (f = 2 ∧ (∀ (a : Nat) (j : Int), Q a j → ¬ R1 a j) ∧ (∃ j : Int, Q l j ∧ R2 l j) ∧ ∀ (a : Nat) (j : Int), Q a j → a < l → ¬ R2 a j)
  ∨ (f = 3 ∧ (∀ (a : Nat) (j : Int), Q a j → ¬ R1 a j ∧ ¬ R2 a j) ∧ (∃ j : Int, Q l j ∧ R3 l j) ∧ ∀ (a : Nat) (j : Int), Q a j → a < l → ¬ R3 a j)
def ntF (f c : Int) : Int := if f = 0 then c else if f ≤ c then f else c
def ntL (f : Int) (l : Nat) (c : Int) (k : Nat) : Nat := if f = 0 then k else if f ≤ c then l else k
section
variable {Q Q' R1 R2 R3 : Nat → Int → Prop} {f : Int} {l k : Nat} {m : Int}
theorem WK_iff (h : ∀ (a : Nat) (j : Int), Q' a j ↔ Q a j) (w : WK Q R1 R2 R3 f l) : WK Q' R1 R2 R3 f l := by
  have e : Q' = Q := funext fun a => funext fun j => propext (h a j)
  rw [e]; exact w
theorem WK_f (w : WK Q R1 R2 R3 f l) : 0 ≤ f ∧ f ≤ 3 := by
  rcases w with ⟨e, -⟩ | ⟨e, -⟩ | ⟨e, -⟩ | ⟨e, -⟩ <;> omega
theorem WK_0 (hQ : ∀ (a : Nat) (j : Int), Q' a j ↔ Q a j ∨ (a = k ∧ j = m)) (hle : ∀ (a : Nat) (j : Int), Q a j → a ≤ k) (h1 : ¬ R1 k m) (h2 : ¬ R2 k m) (h3 : ¬ R3 k m) (w : WK Q R1 R2 R3 f l) : WK Q' R1 R2 R3 f l := by
  rcases w with ⟨e, a1⟩ | ⟨e, ⟨j, b1, b2⟩, a2⟩ | ⟨e, a1, ⟨j, b1, b2⟩, a3⟩ | ⟨e, a1, ⟨j, b1, b2⟩, a3⟩
  · refine Or.inl ⟨e, fun a j q => ?_⟩
    rcases (hQ a j).mp q with q | ⟨e1, e2⟩
    · exact a1 a j q
    · subst e1 e2; exact ⟨h1, h2, h3⟩
  · refine Or.inr (Or.inl ⟨e, ⟨j, (hQ _ _).mpr (Or.inl b1), b2⟩, fun a j q z => ?_⟩)
    rcases (hQ a j).mp q with q | ⟨e1, e2⟩
    · exact a2 a j q z
    · subst e1 e2; exact h1
  · refine Or.inr (Or.inr (Or.inl ⟨e, fun a j q => ?_, ⟨j, (hQ _ _).mpr (Or.inl b1), b2⟩, fun a j q z => ?_⟩))
    · rcases (hQ a j).mp q with q | ⟨e1, e2⟩
      · exact a1 a j q
      · subst e1 e2; exact h1
    · rcases (hQ a j).mp q with q | ⟨e1, e2⟩
      · exact a3 a j q z
      · subst e1 e2; exact h2
  · refine Or.inr (Or.inr (Or.inr ⟨e, fun a j q => ?_, ⟨j, (hQ _ _).mpr (Or.inl b1), b2⟩, fun a j q z => ?_⟩))
    · rcases (hQ a j).mp q with q | ⟨e1, e2⟩
      · exact a1 a j q
      · subst e1 e2; exact ⟨h1, h2⟩
    · rcases (hQ a j).mp q with q | ⟨e1, e2⟩
      · exact a3 a j q z
      · subst e1 e2; exact h3
theorem WK_1 (hQ : ∀ (a : Nat) (j : Int), Q' a j ↔ Q a j ∨ (a = k ∧ j = m)) (hle : ∀ (a : Nat) (j : Int), Q a j → a ≤ k) (h1 : R1 k m) (w : WK Q R1 R2 R3 f l) : WK Q' R1 R2 R3 (ntF f 1) (ntL f l 1 k) := by
  have new : ∀ (hn : ∀ (a : Nat) (j : Int), Q a j → ¬ R1 a j), WK Q' R1 R2 R3 1 k := by
    intro hn
    refine Or.inr (Or.inl ⟨rfl, ⟨m, (hQ _ _).mpr (Or.inr ⟨rfl, rfl⟩), h1⟩, fun a j q z => ?_⟩)
    rcases (hQ a j).mp q with q | ⟨e1, e2⟩
    · exact hn a j q
    · subst e1; exact absurd z (Nat.lt_irrefl _)
  rcases w with ⟨e, a1⟩ | ⟨e, ⟨j, b1, b2⟩, a2⟩ | ⟨e, a1, ⟨j, b1, b2⟩, a3⟩ | ⟨e, a1, ⟨j, b1, b2⟩, a3⟩ <;> subst e
  · exact new fun a j q => (a1 a j q).1
  · refine Or.inr (Or.inl ⟨rfl, ⟨j, (hQ _ _).mpr (Or.inl b1), b2⟩, fun a j' q z => ?_⟩)
    rcases (hQ a j').mp q with q | ⟨e1, e2⟩
    · exact a2 a j' q z
    · subst e1; exact absurd z (Nat.not_lt.mpr (hle _ _ b1))
  · exact new a1
  · exact new fun a j q => (a1 a j q).1
theorem WK_2 (hQ : ∀ (a : Nat) (j : Int), Q' a j ↔ Q a j ∨ (a = k ∧ j = m)) (hle : ∀ (a : Nat) (j : Int), Q a j → a ≤ k) (h1 : ¬ R1 k m) (h2 : R2 k m) (w : WK Q R1 R2 R3 f l) : WK Q' R1 R2 R3 (ntF f 2) (ntL f l 2 k) := by
  have new : ∀ (hn : ∀ (a : Nat) (j : Int), Q a j → ¬ R1 a j ∧ ¬ R2 a j), WK Q' R1 R2 R3 2 k := by
    intro hn
    refine Or.inr (Or.inr (Or.inl ⟨rfl, fun a j q => ?_, ⟨m, (hQ _ _).mpr (Or.inr ⟨rfl, rfl⟩), h2⟩, fun a j q z => ?_⟩))
    · rcases (hQ a j).mp q with q | ⟨e1, e2⟩
      · exact (hn a j q).1
      · subst e1 e2; exact h1
    · rcases (hQ a j).mp q with q | ⟨e1, e2⟩
      · exact (hn a j q).2
      · subst e1; exact absurd z (Nat.lt_irrefl _)
  rcases w with ⟨e, a1⟩ | ⟨e, ⟨j, b1, b2⟩, a2⟩ | ⟨e, a1, ⟨j, b1, b2⟩, a3⟩ | ⟨e, a1, ⟨j, b1, b2⟩, a3⟩ <;> subst e
  · exact new fun a j q => ⟨(a1 a j q).1, (a1 a j q).2.1⟩
  · refine Or.inr (Or.inl ⟨rfl, ⟨j, (hQ _ _).mpr (Or.inl b1), b2⟩, fun a j' q z => ?_⟩)
    rcases (hQ a j').mp q with q | ⟨e1, e2⟩
    · exact a2 a j' q z
    · subst e1 e2; exact h1
  · refine Or.inr (Or.inr (Or.inl ⟨rfl, fun a j' q => ?_, ⟨j, (hQ _ _).mpr (Or.inl b1), b2⟩, fun a j' q z => ?_⟩))
    · rcases (hQ a j').mp q with q | ⟨e1, e2⟩
      · exact a1 a j' q
      · subst e1 e2; exact h1
    · rcases (hQ a j').mp q with q | ⟨e1, e2⟩
      · exact a3 a j' q z
      · subst e1; exact absurd z (Nat.not_lt.mpr (hle _ _ b1))
  · exact new a1
theorem WK_3 (hQ : ∀ (a : Nat) (j : Int), Q' a j ↔ Q a j ∨ (a = k ∧ j = m)) (hle : ∀ (a : Nat) (j : Int), Q a j → a ≤ k) (h1 : ¬ R1 k m) (h2 : ¬ R2 k m) (h3 : R3 k m) (w : WK Q R1 R2 R3 f l) : WK Q' R1 R2 R3 (ntF f 3) (ntL f l 3 k) := by
  rcases w with ⟨e, a1⟩ | ⟨e, ⟨j, b1, b2⟩, a2⟩ | ⟨e, a1, ⟨j, b1, b2⟩, a3⟩ | ⟨e, a1, ⟨j, b1, b2⟩, a3⟩ <;> subst e
  · refine Or.inr (Or.inr (Or.inr ⟨rfl, fun a j q => ?_, ⟨m, (hQ _ _).mpr (Or.inr ⟨rfl, rfl⟩), h3⟩, fun a j q z => ?_⟩))
    · rcases (hQ a j).mp q with q | ⟨e1, e2⟩
      · exact ⟨(a1 a j q).1, (a1 a j q).2.1⟩
      · subst e1 e2; exact ⟨h1, h2⟩
    · rcases (hQ a j).mp q with q | ⟨e1, e2⟩
      · exact (a1 a j q).2.2
      · subst e1; exact absurd z (Nat.lt_irrefl _)
  · refine Or.inr (Or.inl ⟨rfl, ⟨j, (hQ _ _).mpr (Or.inl b1), b2⟩, fun a j' q z => ?_⟩)
    rcases (hQ a j').mp q with q | ⟨e1, e2⟩
    · exact a2 a j' q z
    · subst e1 e2; exact h1
  · refine Or.inr (Or.inr (Or.inl ⟨rfl, fun a j' q => ?_, ⟨j, (hQ _ _).mpr (Or.inl b1), b2⟩, fun a j' q z => ?_⟩))
    · rcases (hQ a j').mp q with q | ⟨e1, e2⟩
      · exact a1 a j' q
      · subst e1 e2; exact h1
    · rcases (hQ a j').mp q with q | ⟨e1, e2⟩
      · exact a3 a j' q z
      · subst e1 e2; exact h2
  · refine Or.inr (Or.inr (Or.inr ⟨rfl, fun a j' q => ?_, ⟨j, (hQ _ _).mpr (Or.inl b1), b2⟩, fun a j' q z => ?_⟩))
    · rcases (hQ a j').mp q with q | ⟨e1, e2⟩
      · exact a1 a j' q
      · subst e1 e2; exact ⟨h1, h2⟩
    · rcases (hQ a j').mp q with q | ⟨e1, e2⟩
      · exact a3 a j' q z
      · subst e1; exact absurd z (Nat.not_lt.mpr (hle _ _ b1))
end
section
variable {G v BL TR : Int → Int} {f x y : Int} {l k : Nat} {i : Int}
theorem e_note {c : Int} (hf : 0 ≤ f ∧ f ≤ 3) (hc : 0 ≤ c ∧ c ≤ 3) : f_X6_note (J f) (J l) (J c) (J k) = some (J (ntF f c), J (ntL f l c k)) := by
  unfold f_X6_note f_X6_note_L15 ntF ntL
  by_cases q1 : f = 0
  · subst q1; rfl
  · by_cases q2 : f ≤ c
    · simp (disch := omega) only [↓reduceIte, j_lits, J_add, J_sub, J_mul, J_neg, J_le, J_lt, J_eqv, J_div, J_imax, J_imin, JA_get, JG, JA_upd, LET, Option.bind_some, lt_T, lt_F, le_T, le_F, eq_T, eq_F, and_true, true_and, Int.sub_neg, Int.natCast_add, n_lits]
    · simp (disch := omega) only [↓reduceIte, j_lits, J_add, J_sub, J_mul, J_neg, J_le, J_lt, J_eqv, J_div, J_imax, J_imin, JA_get, JG, JA_upd, LET, Option.bind_some, lt_T, lt_F, le_T, le_F, eq_T, eq_F, and_true, true_and, Int.sub_neg, Int.natCast_add, n_lits]
theorem ST_or (hx : (-10 ≤ x ∧ x ≤ 10) ∧ -10 ≤ y ∧ y ≤ 10) {x' y' : Int} (hx' : (-10 ≤ x' ∧ x' ≤ 10) ∧ -10 ≤ y' ∧ y' ≤ 10) : ST (up TR (y + 10) (J (TR (y + 10)) ||| (J 1 <<< (J (x + 10) &&& J 31))).toInt) x' y' ↔ ST TR x' y' ∨ (x' = x ∧ y' = y) := by
  rw [ST_up]
  by_cases q1 : y' = y
  · rw [if_pos q1, tb_or (by omega), q1]
    exact or_congr Iff.rfl ⟨fun z => ⟨by omega, rfl⟩, fun z => by omega⟩
  · rw [if_neg q1]
    exact ⟨Or.inl, fun z => z.elim id fun z => absurd z.2 q1⟩
theorem e_enter_L79 (hx : (-10 ≤ x ∧ x ≤ 10) ∧ -10 ≤ y ∧ y ≤ 10) (f l tx ty : Int32) (B : Nat → Int32) : f_X6_enterCell_L79 f l tx ty (JA TR) B (J (y + 10)) (J 1 <<< (J (x + 10) &&& J 31)) = some (f, l, JA (up TR (y + 10) (J (TR (y + 10)) ||| (J 1 <<< (J (x + 10) &&& J 31))).toInt)) := by
  unfold f_X6_enterCell_L79
  simp (disch := omega) only [↓reduceIte, j_lits, J_add, J_sub, J_mul, J_neg, J_le, J_lt, J_eqv, J_div, J_imax, J_imin, JA_get, JG, JA_upd, LET, Option.bind_some, lt_T, lt_F, le_T, le_F, eq_T, eq_F, and_true, true_and, Int.sub_neg, Int.natCast_add, n_lits, JA_upd2 TR]
theorem e_enter1 (hf : 0 ≤ f ∧ f ≤ 3) (hx : (-2147483648 ≤ x ∧ x ≤ 2147483647) ∧ (-2147483648 ≤ y ∧ y ≤ 2147483647) ∧ ¬ ((-10 ≤ x ∧ x ≤ 10) ∧ -10 ≤ y ∧ y ≤ 10)) : f_X6_enterCell (J f) (J l) (J x) (J y) (JA TR) (JA BL) (J k) = some (J (ntF f 1), J (ntL f l 1 k), JA TR) := by
  unfold f_X6_enterCell
  refine ob _ (e_isInside0 hx) ?_
  rw [if_pos (show J 0 = 0 from rfl)]
  exact ob _ (e_note hf (c := 1) (by decide)) rfl
theorem e_enterIn (hx : (-10 ≤ x ∧ x ≤ 10) ∧ -10 ≤ y ∧ y ≤ 10) {r : Option (Int32 × Int32 × (Nat → Int32))} (f0 : Int32)
    (h : (if (J (BL (y + 10)) &&& (J 1 <<< (J (x + 10) &&& J 31))) = J 0 then (if (J (TR (y + 10)) &&& (J 1 <<< (J (x + 10) &&& J 31))) = J 0 then (f_X6_enterCell_L79 f0 (J l) (J x) (J y) (JA TR) (JA BL) (J (y + 10)) (J 1 <<< (J (x + 10) &&& J 31))) else ((f_X6_note f0 (J l) 3 (J k)).bind fun o_5 => f_X6_enterCell_L79 o_5.1 o_5.2 (J x) (J y) (JA TR) (JA BL) (J (y + 10)) (J 1 <<< (J (x + 10) &&& J 31)))) else ((f_X6_note f0 (J l) 2 (J k)).bind fun o_6 => f_X6_enterCell_L79 o_6.1 o_6.2 (J x) (J y) (JA TR) (JA BL) (J (y + 10)) (J 1 <<< (J (x + 10) &&& J 31)))) = r) :
    f_X6_enterCell f0 (J l) (J x) (J y) (JA TR) (JA BL) (J k) = r := by
  unfold f_X6_enterCell
  refine ob _ (e_isInside1 hx) ?_
  rw [if_neg (by decide)]
  simp only [LET]
  rw [show (10 : Int32) = J 10 from rfl, J_add, J_add, JG (by omega), JG (by omega), JA_get _ (by omega), JA_get _ (by omega)]
  exact h
theorem e_enter2 (hf : 0 ≤ f ∧ f ≤ 3) (hx : (-10 ≤ x ∧ x ≤ 10) ∧ -10 ≤ y ∧ y ≤ 10) (hb : ST BL x y) : f_X6_enterCell (J f) (J l) (J x) (J y) (JA TR) (JA BL) (J k) = some (J (ntF f 2), J (ntL f l 2 k), JA (up TR (y + 10) (J (TR (y + 10)) ||| (J 1 <<< (J (x + 10) &&& J 31))).toInt)) := by
  refine e_enterIn hx _ ?_
  rw [if_neg (tb_bit1 (by omega) hb)]
  exact ob _ (e_note hf (c := 2) (by decide)) (e_enter_L79 hx _ _ _ _ _)
theorem e_enter3 (hf : 0 ≤ f ∧ f ≤ 3) (hx : (-10 ≤ x ∧ x ≤ 10) ∧ -10 ≤ y ∧ y ≤ 10) (hb : ¬ ST BL x y) (ht : ST TR x y) : f_X6_enterCell (J f) (J l) (J x) (J y) (JA TR) (JA BL) (J k) = some (J (ntF f 3), J (ntL f l 3 k), JA (up TR (y + 10) (J (TR (y + 10)) ||| (J 1 <<< (J (x + 10) &&& J 31))).toInt)) := by
  refine e_enterIn hx _ ?_
  rw [if_pos (tb_bit0 (by omega) hb), if_neg (tb_bit1 (by omega) ht)]
  exact ob _ (e_note hf (c := 3) (by decide)) (e_enter_L79 hx _ _ _ _ _)
theorem e_enter0 (hx : (-10 ≤ x ∧ x ≤ 10) ∧ -10 ≤ y ∧ y ≤ 10) (hb : ¬ ST BL x y) (ht : ¬ ST TR x y) : f_X6_enterCell (J f) (J l) (J x) (J y) (JA TR) (JA BL) (J k) = some (J f, J l, JA (up TR (y + 10) (J (TR (y + 10)) ||| (J 1 <<< (J (x + 10) &&& J 31))).toInt)) := by
  refine e_enterIn hx _ ?_
  rw [if_pos (tb_bit0 (by omega) hb), if_pos (tb_bit0 (by omega) ht)]
  exact e_enter_L79 hx _ _ _ _ _
theorem PRC_s (hi : 0 ≤ i) (a : Nat) (j : Int) : PRC G k (i + 1) a j ↔ PRC G k i a j ∨ (a = k ∧ j = i + 1) := by
  unfold PRC
  constructor
  · rintro (h | ⟨h1, h2, h3⟩)
    · exact Or.inl (Or.inl h)
    · by_cases q : j = i + 1
      · exact Or.inr ⟨h1, q⟩
      · exact Or.inl (Or.inr ⟨h1, h2, by omega⟩)
  · rintro ((h | ⟨h1, h2, h3⟩) | ⟨h1, h2⟩)
    · exact Or.inl h
    · exact Or.inr ⟨h1, h2, by omega⟩
    · exact Or.inr ⟨h1, by omega, by omega⟩
theorem PRC_le (a : Nat) (j : Int) (h : PRC G k i a j) : a ≤ k := by
  rcases h with h | h <;> omega
theorem PRC_n (a : Nat) (j : Int) : PRC G (k + 1) 0 a j ↔ PRC G k (G (1 + 4 * k)) a j := by
  unfold PRC
  constructor
  · rintro (⟨h1, h2, h3⟩ | ⟨h1, h2, h3⟩)
    · by_cases q : a = k
      · subst q; exact Or.inr ⟨rfl, h2, h3⟩
      · exact Or.inl ⟨by omega, h2, h3⟩
    · omega
  · rintro (⟨h1, h2, h3⟩ | ⟨h1, h2, h3⟩)
    · exact Or.inl ⟨by omega, h2, h3⟩
    · subst h1; exact Or.inl ⟨by omega, h2, h3⟩
theorem TRD_s (hi : 0 ≤ i) (h : TRD G v k i TR) (hx : (-10 ≤ CX G v k (i + 1) ∧ CX G v k (i + 1) ≤ 10) ∧ -10 ≤ CY G v k (i + 1) ∧ CY G v k (i + 1) ≤ 10) :
    TRD G v k (i + 1) (up TR (CY G v k (i + 1) + 10) (J (TR (CY G v k (i + 1) + 10)) ||| (J 1 <<< (J (CX G v k (i + 1) + 10) &&& J 31))).toInt) := by
  intro x y hxy
  rw [ST_or hx hxy, h x y hxy]
  constructor
  · rintro ((h1 | ⟨a, j, h1, h2⟩) | ⟨h1, h2⟩)
    · exact Or.inl h1
    · exact Or.inr ⟨a, j, (PRC_s hi a j).mpr (Or.inl h1), h2⟩
    · exact Or.inr ⟨k, i + 1, (PRC_s hi k (i + 1)).mpr (Or.inr ⟨rfl, rfl⟩), h1.symm, h2.symm⟩
  · rintro (h1 | ⟨a, j, h1, h2⟩)
    · exact Or.inl (Or.inl h1)
    · rcases (PRC_s hi a j).mp h1 with h1 | ⟨e1, e2⟩
      · exact Or.inl (Or.inr ⟨a, j, h1, h2⟩)
      · subst e1 e2
        exact Or.inr ⟨h2.1.symm, h2.2.symm⟩
theorem TRD_out (hi : 0 ≤ i) (h : TRD G v k i TR) (hx : ¬ ((-10 ≤ CX G v k (i + 1) ∧ CX G v k (i + 1) ≤ 10) ∧ -10 ≤ CY G v k (i + 1) ∧ CY G v k (i + 1) ≤ 10)) : TRD G v k (i + 1) TR := by
  intro x y hxy
  rw [h x y hxy]
  constructor
  · rintro (h1 | ⟨a, j, h1, h2⟩)
    · exact Or.inl h1
    · exact Or.inr ⟨a, j, (PRC_s hi a j).mpr (Or.inl h1), h2⟩
  · rintro (h1 | ⟨a, j, h1, h2⟩)
    · exact Or.inl h1
    · rcases (PRC_s hi a j).mp h1 with h1 | ⟨e1, e2⟩
      · exact Or.inr ⟨a, j, h1, h2⟩
      · subst e1 e2
        rw [h2.1, h2.2] at hx
        exact absurd hxy hx
theorem TRD_P3 (h : TRD G v k i TR) (hx : (-10 ≤ CX G v k (i + 1) ∧ CX G v k (i + 1) ≤ 10) ∧ -10 ≤ CY G v k (i + 1) ∧ CY G v k (i + 1) ≤ 10) : ST TR (CX G v k (i + 1)) (CY G v k (i + 1)) ↔ P3 G v k (i + 1) := by
  rw [h _ _ hx]
  unfold P3
  rw [show i + 1 - 1 = i by omega]
theorem e_cell_step (hw : WS G) (hb : ∀ x y : Int, (-10 ≤ x ∧ x ≤ 10) ∧ -10 ≤ y ∧ y ≤ 10 → (ST BL x y ↔ OS G x y)) (hi : 0 ≤ i) (hr : (-25 ≤ CX G v k (i + 1) ∧ CX G v k (i + 1) ≤ 25) ∧ -25 ≤ CY G v k (i + 1) ∧ CY G v k (i + 1) ≤ 25)
    (w : WK (PRC G k i) (P1 G v) (P2 G v) (P3 G v) f l) (t : TRD G v k i TR) :
    ∃ f' l' TR', f_X6_enterCell (J f) (J l) (J (CX G v k (i + 1))) (J (CY G v k (i + 1))) (JA TR) (JA BL) (J k) = some (J f', J (l' : Nat), JA TR') ∧ WK (PRC G k (i + 1)) (P1 G v) (P2 G v) (P3 G v) f' l' ∧ TRD G v k (i + 1) TR' := by
  have hf := WK_f w
  have hQ := PRC_s (G := G) (k := k) hi
  have hle := PRC_le (G := G) (k := k) (i := i)
  by_cases q1 : (-10 ≤ CX G v k (i + 1) ∧ CX G v k (i + 1) ≤ 10) ∧ -10 ≤ CY G v k (i + 1) ∧ CY G v k (i + 1) ≤ 10
  · have n1 : ¬ P1 G v k (i + 1) := fun z => z q1
    by_cases q2 : OS G (CX G v k (i + 1)) (CY G v k (i + 1))
    · exact ⟨_, _, _, e_enter2 hf q1 ((hb _ _ q1).mpr q2), WK_2 hQ hle n1 q2 w, TRD_s hi t q1⟩
    · have q2' : ¬ ST BL (CX G v k (i + 1)) (CY G v k (i + 1)) := fun z => q2 ((hb _ _ q1).mp z)
      by_cases q3 : ST TR (CX G v k (i + 1)) (CY G v k (i + 1))
      · exact ⟨_, _, _, e_enter3 hf q1 q2' q3, WK_3 hQ hle n1 q2 ((TRD_P3 t q1).mp q3) w, TRD_s hi t q1⟩
      · exact ⟨_, _, _, e_enter0 q1 q2' q3, WK_0 hQ hle n1 q2 (fun z => q3 ((TRD_P3 t q1).mpr z)) w, TRD_s hi t q1⟩
  · exact ⟨_, _, _, e_enter1 hf ⟨by omega, by omega, q1⟩, WK_1 hQ hle q1 w, TRD_out hi t q1⟩
end
section
variable {G v BL TR ln F : Int → Int} {f x y : Int} {l k : Nat} {i : Int}
def FLL (n x : Int) (F : Int → Int) : Int → Int := fun j => if 0 ≤ j ∧ j < n then x else F j
theorem FL_s (k : Nat) : up (FLL k x F) k x = FLL ((k + 1 : Nat) : Int) x F := by
  funext j
  unfold FLL
  by_cases q : j = k
  · rw [q, up_same, if_pos (by omega)]
  · rw [up_ne _ _ q]
    by_cases q2 : 0 ≤ j ∧ j < k
    · rw [if_pos q2, if_pos (by omega)]
    · rw [if_neg q2, if_neg (by omega)]
theorem FL_0 : FLL ((0 : Nat) : Int) x F = F := funext fun j => if_neg (by omega)
theorem e_fill3 : f_J7_fill_53178_3 (JA F) (J x) = some (JA (FLL 3 x F)) := by
  obtain ⟨N, hN⟩ : ∃ N : Nat, N = 3 := ⟨_, rfl⟩
  have hN' : (N : Int) = 3 := by omega
  unfold f_J7_fill_53178_3
  refine lp_bind (fun k : Nat => (JA (FLL k x F), J k)) N (by rw [FL_0]; rfl) (by omega) (fun k hk => ?_) (e := JA (FLL 3 x F)) ?_ rfl
  · rw [← FL_s]
    unfold f_J7_fill_53178_3_B5
    simp (disch := omega) only [↓reduceIte, j_lits, J_add, J_sub, J_mul, J_neg, J_le, J_lt, J_eqv, J_div, J_imax, J_imin, JA_get, JG, JA_upd, LET, Option.bind_some, lt_T, lt_F, le_T, le_F, eq_T, eq_F, and_true, true_and, Int.sub_neg, Int.natCast_add, n_lits]
  · rw [hN']
    unfold f_J7_fill_53178_3_B5
    simp (disch := omega) only [↓reduceIte, j_lits, J_add, J_sub, J_mul, J_neg, J_le, J_lt, J_eqv, J_div, J_imax, J_imin, JA_get, JG, JA_upd, LET, Option.bind_some, lt_T, lt_F, le_T, le_F, eq_T, eq_F, and_true, true_and, Int.sub_neg, Int.natCast_add, n_lits]
theorem e_fill21 : f_J7_fill_53178_21 (JA F) (J x) = some (JA (FLL 21 x F)) := by
  obtain ⟨N, hN⟩ : ∃ N : Nat, N = 21 := ⟨_, rfl⟩
  have hN' : (N : Int) = 21 := by omega
  unfold f_J7_fill_53178_21
  refine lp_bind (fun k : Nat => (JA (FLL k x F), J k)) N (by rw [FL_0]; rfl) (by omega) (fun k hk => ?_) (e := JA (FLL 21 x F)) ?_ rfl
  · rw [← FL_s]
    unfold f_J7_fill_53178_21_B5
    simp (disch := omega) only [↓reduceIte, j_lits, J_add, J_sub, J_mul, J_neg, J_le, J_lt, J_eqv, J_div, J_imax, J_imin, JA_get, JG, JA_upd, LET, Option.bind_some, lt_T, lt_F, le_T, le_F, eq_T, eq_F, and_true, true_and, Int.sub_neg, Int.natCast_add, n_lits]
  · rw [hN']
    unfold f_J7_fill_53178_21_B5
    simp (disch := omega) only [↓reduceIte, j_lits, J_add, J_sub, J_mul, J_neg, J_le, J_lt, J_eqv, J_div, J_imax, J_imin, JA_get, JG, JA_upd, LET, Option.bind_some, lt_T, lt_F, le_T, le_F, eq_T, eq_F, and_true, true_and, Int.sub_neg, Int.natCast_add, n_lits]
theorem e_fill441 : f_J7_fill_53178_441 (JA F) (J x) = some (JA (FLL 441 x F)) := by
  obtain ⟨N, hN⟩ : ∃ N : Nat, N = 441 := ⟨_, rfl⟩
  have hN' : (N : Int) = 441 := by omega
  unfold f_J7_fill_53178_441
  refine lp_bind (fun k : Nat => (JA (FLL k x F), J k)) N (by rw [FL_0]; rfl) (by omega) (fun k hk => ?_) (e := JA (FLL 441 x F)) ?_ rfl
  · rw [← FL_s]
    unfold f_J7_fill_53178_441_B5
    simp (disch := omega) only [↓reduceIte, j_lits, J_add, J_sub, J_mul, J_neg, J_le, J_lt, J_eqv, J_div, J_imax, J_imin, JA_get, JG, JA_upd, LET, Option.bind_some, lt_T, lt_F, le_T, le_F, eq_T, eq_F, and_true, true_and, Int.sub_neg, Int.natCast_add, n_lits]
  · rw [hN']
    unfold f_J7_fill_53178_441_B5
    simp (disch := omega) only [↓reduceIte, j_lits, J_add, J_sub, J_mul, J_neg, J_le, J_lt, J_eqv, J_div, J_imax, J_imin, JA_get, JG, JA_upd, LET, Option.bind_some, lt_T, lt_F, le_T, le_F, eq_T, eq_F, and_true, true_and, Int.sub_neg, Int.natCast_add, n_lits]
theorem e_fill5000 : f_J7_fill_53178_5000 (JA F) (J x) = some (JA (FLL 5000 x F)) := by
  obtain ⟨N, hN⟩ : ∃ N : Nat, N = 5000 := ⟨_, rfl⟩
  have hN' : (N : Int) = 5000 := by omega
  unfold f_J7_fill_53178_5000
  refine lp_bind (fun k : Nat => (JA (FLL k x F), J k)) N (by rw [FL_0]; rfl) (by omega) (fun k hk => ?_) (e := JA (FLL 5000 x F)) ?_ rfl
  · rw [← FL_s]
    unfold f_J7_fill_53178_5000_B5
    simp (disch := omega) only [↓reduceIte, j_lits, J_add, J_sub, J_mul, J_neg, J_le, J_lt, J_eqv, J_div, J_imax, J_imin, JA_get, JG, JA_upd, LET, Option.bind_some, lt_T, lt_F, le_T, le_F, eq_T, eq_F, and_true, true_and, Int.sub_neg, Int.natCast_add, n_lits]
  · rw [hN']
    unfold f_J7_fill_53178_5000_B5
    simp (disch := omega) only [↓reduceIte, j_lits, J_add, J_sub, J_mul, J_neg, J_le, J_lt, J_eqv, J_div, J_imax, J_imin, JA_get, JG, JA_upd, LET, Option.bind_some, lt_T, lt_F, le_T, le_F, eq_T, eq_F, and_true, true_and, Int.sub_neg, Int.natCast_add, n_lits]
theorem e_inner_own (hl : WL G) (hw : WS G) (hln : ∀ k : Int, 0 ≤ k → k < G 0 → ln k = G (1 + 4 * k)) (hb : ∀ x y : Int, (-10 ≤ x ∧ x ≤ 10) ∧ -10 ≤ y ∧ y ≤ 10 → (ST BL x y ↔ OS G x y)) (hk : (k : Int) < G 0) (w : WK (PRC G k 0) (P1 G v) (P2 G v) (P3 G v) f l) (t : TRD G v k 0 TR) (b1 b2 b3 : Nat → Int32) :
    WP (LPF (fun z => f_X6_along_own_B108 z.1 z.2.1 z.2.2.1 z.2.2.2.1 b1 b2 b3 z.2.2.2.2.1 (J (G 0)) (JA ln) (JA F) (JA BL) (J (WY v k)) (J k) z.2.2.2.2.2) lfuel (J f, J l, J (PX G v k), J (PY G v k), JA TR, J 0))
      (fun e => ∃ (f' : Int) (l' : Nat) (TR' : Int → Int), e = (J f', J l', J (PX G v (k + 1)), J (PY G v (k + 1)), JA TR') ∧ WK (PRC G (k + 1) 0) (P1 G v) (P2 G v) (P3 G v) f' l' ∧ TRD G v (k + 1) 0 TR') := by
  have h0 := hl.1
  have h1 := hl.2 k (by omega) hk
  have h2 := WY_b v k
  have h3 := hln k (by omega) hk
  refine lp_inv (fun i s => ∃ (f' : Int) (l' : Nat) (TR' : Int → Int), (i : Int) ≤ G (1 + 4 * k) ∧ s = (J f', J l', J (CX G v k i), J (CY G v k i), JA TR', J i) ∧ WK (PRC G k i) (P1 G v) (P2 G v) (P3 G v) f' l' ∧ TRD G v k i TR') (G (1 + 4 * k)).toNat (by omega) ?_ (fun i s hi hI => ?_)
  · exact ⟨f, l, TR, by omega, by rw [c0, (CX_0 G v k).1, (CX_0 G v k).2], w, t⟩
  · obtain ⟨f', l', TR', hi2, rfl, w, t⟩ := hI
    by_cases q : (i : Int) = G (1 + 4 * k)
    · refine Or.inr ⟨_, ?_, ⟨f', l', TR', rfl, WK_iff PRC_n (by rw [← q]; exact w), fun x y hxy => ?_⟩⟩
      · have e1 : CX G v k i = PX G v (k + 1) := by rw [q]; rfl
        have e2 : CY G v k i = PY G v (k + 1) := by rw [q]; rfl
        rw [← e1, ← e2]
        unfold f_X6_along_own_B108
        simp (disch := omega) only [↓reduceIte, j_lits, J_add, J_sub, J_mul, J_neg, J_le, J_lt, J_eqv, J_div, J_imax, J_imin, JA_get, JG, JA_upd, LET, Option.bind_some, lt_T, lt_F, le_T, le_F, eq_T, eq_F, and_true, true_and, Int.sub_neg, Int.natCast_add, n_lits, h3]
      · rw [t x y hxy, q]
        refine or_congr Iff.rfl ⟨fun z => ?_, fun z => ?_⟩
        · obtain ⟨a, j, z1, z2⟩ := z
          exact ⟨a, j, (PRC_n a j).mpr z1, z2⟩
        · obtain ⟨a, j, z1, z2⟩ := z
          exact ⟨a, j, (PRC_n a j).mp z1, z2⟩
    · have hr := CX_r hl v hk (i := (i : Int) + 1) (by omega)
      obtain ⟨f2, l2, TR2, h4, h5, h6⟩ := e_cell_step (BL := BL) (TR := TR') hw hb (i := i) (by omega) hr w t
      refine Or.inl ⟨by omega, _, ?_, f2, l2, TR2, by omega, rfl, h5, h6⟩
      have hs := CX_s G v k i
      rw [hs.1, hs.2] at h4
      rw [cs, hs.1, hs.2]
      unfold f_X6_along_own_B108
      simp (disch := omega) only [↓reduceIte, j_lits, J_add, J_sub, J_mul, J_neg, J_le, J_lt, J_eqv, J_div, J_imax, J_imin, JA_get, JG, JA_upd, LET, Option.bind_some, lt_T, lt_F, le_T, le_F, eq_T, eq_F, and_true, true_and, Int.sub_neg, Int.natCast_add, n_lits, h3, e_stepX7, e_stepY7, h4]
theorem e_inner_row (hl : WL G) (hw : WS G) (hln : ∀ k : Int, 0 ≤ k → k < G 0 → ln k = G (1 + 4 * k)) (hb : ∀ x y : Int, (-10 ≤ x ∧ x ≤ 10) ∧ -10 ≤ y ∧ y ≤ 10 → (ST BL x y ↔ OS G x y)) (hk : (k : Int) < G 0) (w : WK (PRC G k 0) (P1 G v) (P2 G v) (P3 G v) f l) (t : TRD G v k 0 TR) (b1 b2 b3 : Nat → Int32) :
    WP (LPF (fun z => f_X6_along_row_B108 z.1 z.2.1 z.2.2.1 z.2.2.2.1 b1 b2 b3 z.2.2.2.2.1 (J (G 0)) (JA ln) (JA BL) (JA F) (J (WY v k)) (J k) z.2.2.2.2.2) lfuel (J f, J l, J (PX G v k), J (PY G v k), JA TR, J 0))
      (fun e => ∃ (f' : Int) (l' : Nat) (TR' : Int → Int), e = (J f', J l', J (PX G v (k + 1)), J (PY G v (k + 1)), JA TR') ∧ WK (PRC G (k + 1) 0) (P1 G v) (P2 G v) (P3 G v) f' l' ∧ TRD G v (k + 1) 0 TR') := by
  have h0 := hl.1
  have h1 := hl.2 k (by omega) hk
  have h2 := WY_b v k
  have h3 := hln k (by omega) hk
  refine lp_inv (fun i s => ∃ (f' : Int) (l' : Nat) (TR' : Int → Int), (i : Int) ≤ G (1 + 4 * k) ∧ s = (J f', J l', J (CX G v k i), J (CY G v k i), JA TR', J i) ∧ WK (PRC G k i) (P1 G v) (P2 G v) (P3 G v) f' l' ∧ TRD G v k i TR') (G (1 + 4 * k)).toNat (by omega) ?_ (fun i s hi hI => ?_)
  · exact ⟨f, l, TR, by omega, by rw [c0, (CX_0 G v k).1, (CX_0 G v k).2], w, t⟩
  · obtain ⟨f', l', TR', hi2, rfl, w, t⟩ := hI
    by_cases q : (i : Int) = G (1 + 4 * k)
    · refine Or.inr ⟨_, ?_, ⟨f', l', TR', rfl, WK_iff PRC_n (by rw [← q]; exact w), fun x y hxy => ?_⟩⟩
      · have e1 : CX G v k i = PX G v (k + 1) := by rw [q]; rfl
        have e2 : CY G v k i = PY G v (k + 1) := by rw [q]; rfl
        rw [← e1, ← e2]
        unfold f_X6_along_row_B108
        simp (disch := omega) only [↓reduceIte, j_lits, J_add, J_sub, J_mul, J_neg, J_le, J_lt, J_eqv, J_div, J_imax, J_imin, JA_get, JG, JA_upd, LET, Option.bind_some, lt_T, lt_F, le_T, le_F, eq_T, eq_F, and_true, true_and, Int.sub_neg, Int.natCast_add, n_lits, h3]
      · rw [t x y hxy, q]
        refine or_congr Iff.rfl ⟨fun z => ?_, fun z => ?_⟩
        · obtain ⟨a, j, z1, z2⟩ := z
          exact ⟨a, j, (PRC_n a j).mpr z1, z2⟩
        · obtain ⟨a, j, z1, z2⟩ := z
          exact ⟨a, j, (PRC_n a j).mp z1, z2⟩
    · have hr := CX_r hl v hk (i := (i : Int) + 1) (by omega)
      obtain ⟨f2, l2, TR2, h4, h5, h6⟩ := e_cell_step (BL := BL) (TR := TR') hw hb (i := i) (by omega) hr w t
      refine Or.inl ⟨by omega, _, ?_, f2, l2, TR2, by omega, rfl, h5, h6⟩
      have hs := CX_s G v k i
      rw [hs.1, hs.2] at h4
      rw [cs, hs.1, hs.2]
      unfold f_X6_along_row_B108
      simp (disch := omega) only [↓reduceIte, j_lits, J_add, J_sub, J_mul, J_neg, J_le, J_lt, J_eqv, J_div, J_imax, J_imin, JA_get, JG, JA_upd, LET, Option.bind_some, lt_T, lt_F, le_T, le_F, eq_T, eq_F, and_true, true_and, Int.sub_neg, Int.natCast_add, n_lits, h3, e_stepX7, e_stepY7, h4]
end
