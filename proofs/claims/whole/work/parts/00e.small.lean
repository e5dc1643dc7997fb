/-! the small functions -/
def DI (x y a b : Int) : Int := max (max (x - a) (a - x)) (max (y - b) (b - y))
def CN (x y : Int) : Int := (x + 10) * 21 + y + 10
section
variable {x y a b k n m : Int}
theorem J_iabs (h : -2147483647 ≤ a ∧ a ≤ 2147483647) : iabs (J a) = J (max a (-a)) := by
  unfold iabs
  by_cases q : 0 ≤ a
  · rw [if_pos (by rw [show (0 : Int32) = J 0 from rfl, J_le (by omega)]; exact q)]; exact congrArg J (by omega)
  · rw [if_neg (by rw [show (0 : Int32) = J 0 from rfl, J_le (by omega)]; exact q), show (0 : Int32) = J 0 from rfl, J_sub]; exact congrArg J (by omega)
theorem e_in1 (h : (-2147483648 ≤ x ∧ x ≤ 2147483647) ∧ (-2147483648 ≤ a ∧ a ≤ 2147483647) ∧ (-2147483648 ≤ b ∧ b ≤ 2147483647) ∧ a ≤ x ∧ x ≤ b) : f_X8_in (J x) (J a) (J b) = some (J 1) := by
  unfold f_X8_in
  simp (disch := omega) only [↓reduceIte, j_lits, J_add, J_sub, J_mul, J_neg, J_le, J_lt, J_eqv, J_div, J_imax, J_imin, JA_get, JG, JA_upd, LET, Option.bind_some, lt_T, lt_F, le_T, le_F, eq_T, eq_F, and_true, true_and, Int.sub_neg, Int.natCast_add, n_lits]
theorem e_in0 (h : (-2147483648 ≤ x ∧ x ≤ 2147483647) ∧ (-2147483648 ≤ a ∧ a ≤ 2147483647) ∧ (-2147483648 ≤ b ∧ b ≤ 2147483647) ∧ (x < a ∨ b < x)) : f_X8_in (J x) (J a) (J b) = some (J 0) := by
  unfold f_X8_in
  by_cases q : x < a
  · simp (disch := omega) only [↓reduceIte, j_lits, J_add, J_sub, J_mul, J_neg, J_le, J_lt, J_eqv, J_div, J_imax, J_imin, JA_get, JG, JA_upd, LET, Option.bind_some, lt_T, lt_F, le_T, le_F, eq_T, eq_F, and_true, true_and, Int.sub_neg, Int.natCast_add, n_lits]
  · simp (disch := omega) only [↓reduceIte, j_lits, J_add, J_sub, J_mul, J_neg, J_le, J_lt, J_eqv, J_div, J_imax, J_imin, JA_get, JG, JA_upd, LET, Option.bind_some, lt_T, lt_F, le_T, le_F, eq_T, eq_F, and_true, true_and, Int.sub_neg, Int.natCast_add, n_lits]
theorem e_isCell1 (h : (-10 ≤ x ∧ x ≤ 10) ∧ -10 ≤ y ∧ y ≤ 10) : f_X8_isCell (J x) (J y) = some (J 1) := by
  unfold f_X8_isCell
  simp (disch := omega) only [↓reduceIte, j_lits, J_add, J_sub, J_mul, J_neg, J_le, J_lt, J_eqv, J_div, J_imax, J_imin, JA_get, JG, JA_upd, LET, Option.bind_some, lt_T, lt_F, le_T, le_F, eq_T, eq_F, and_true, true_and, Int.sub_neg, Int.natCast_add, n_lits, e_in1]
theorem e_isCell0 (h : (-2147483648 ≤ x ∧ x ≤ 2147483647) ∧ (-2147483648 ≤ y ∧ y ≤ 2147483647) ∧ ¬ ((-10 ≤ x ∧ x ≤ 10) ∧ -10 ≤ y ∧ y ≤ 10)) : f_X8_isCell (J x) (J y) = some (J 0) := by
  unfold f_X8_isCell
  by_cases q : -10 ≤ x ∧ x ≤ 10
  · simp (disch := omega) only [↓reduceIte, j_lits, J_add, J_sub, J_mul, J_neg, J_le, J_lt, J_eqv, J_div, J_imax, J_imin, JA_get, JG, JA_upd, LET, Option.bind_some, lt_T, lt_F, le_T, le_F, eq_T, eq_F, and_true, true_and, Int.sub_neg, Int.natCast_add, n_lits, e_in1, e_in0]
  · simp (disch := omega) only [↓reduceIte, j_lits, J_add, J_sub, J_mul, J_neg, J_le, J_lt, J_eqv, J_div, J_imax, J_imin, JA_get, JG, JA_upd, LET, Option.bind_some, lt_T, lt_F, le_T, le_F, eq_T, eq_F, and_true, true_and, Int.sub_neg, Int.natCast_add, n_lits, e_in0]
theorem e_isInside1 (h : (-10 ≤ x ∧ x ≤ 10) ∧ -10 ≤ y ∧ y ≤ 10) : f_X7_isInside (J x) (J y) = some (J 1) := by
  unfold f_X7_isInside
  simp (disch := omega) only [↓reduceIte, j_lits, J_add, J_sub, J_mul, J_neg, J_le, J_lt, J_eqv, J_div, J_imax, J_imin, JA_get, JG, JA_upd, LET, Option.bind_some, lt_T, lt_F, le_T, le_F, eq_T, eq_F, and_true, true_and, Int.sub_neg, Int.natCast_add, n_lits]
theorem e_isInside0 (h : (-2147483648 ≤ x ∧ x ≤ 2147483647) ∧ (-2147483648 ≤ y ∧ y ≤ 2147483647) ∧ ¬ ((-10 ≤ x ∧ x ≤ 10) ∧ -10 ≤ y ∧ y ≤ 10)) : f_X7_isInside (J x) (J y) = some (J 0) := by
  unfold f_X7_isInside
  by_cases q1 : x < -10
  · simp (disch := omega) only [↓reduceIte, j_lits, J_add, J_sub, J_mul, J_neg, J_le, J_lt, J_eqv, J_div, J_imax, J_imin, JA_get, JG, JA_upd, LET, Option.bind_some, lt_T, lt_F, le_T, le_F, eq_T, eq_F, and_true, true_and, Int.sub_neg, Int.natCast_add, n_lits]
  · by_cases q2 : 10 < x
    · simp (disch := omega) only [↓reduceIte, j_lits, J_add, J_sub, J_mul, J_neg, J_le, J_lt, J_eqv, J_div, J_imax, J_imin, JA_get, JG, JA_upd, LET, Option.bind_some, lt_T, lt_F, le_T, le_F, eq_T, eq_F, and_true, true_and, Int.sub_neg, Int.natCast_add, n_lits]
    · by_cases q3 : y < -10
      · simp (disch := omega) only [↓reduceIte, j_lits, J_add, J_sub, J_mul, J_neg, J_le, J_lt, J_eqv, J_div, J_imax, J_imin, JA_get, JG, JA_upd, LET, Option.bind_some, lt_T, lt_F, le_T, le_F, eq_T, eq_F, and_true, true_and, Int.sub_neg, Int.natCast_add, n_lits]
      · simp (disch := omega) only [↓reduceIte, j_lits, J_add, J_sub, J_mul, J_neg, J_le, J_lt, J_eqv, J_div, J_imax, J_imin, JA_get, JG, JA_upd, LET, Option.bind_some, lt_T, lt_F, le_T, le_F, eq_T, eq_F, and_true, true_and, Int.sub_neg, Int.natCast_add, n_lits]
theorem e_jointOf (h : (-2147483648 ≤ m ∧ m ≤ 2147483647)) : f_X7_jointOf (J m) = some (J (m / 2)) := by
  unfold f_X7_jointOf
  simp (disch := omega) only [↓reduceIte, j_lits, J_add, J_sub, J_mul, J_neg, J_le, J_lt, J_eqv, J_div, J_imax, J_imin, JA_get, JG, JA_upd, LET, Option.bind_some, lt_T, lt_F, le_T, le_F, eq_T, eq_F, and_true, true_and, Int.sub_neg, Int.natCast_add, n_lits, J_shr1]
theorem e_turnOf (m : Int) : f_X7_turnOf (J m) = some (J (TU m)) := by
  unfold f_X7_turnOf TU
  by_cases q : m % 2 = 0
  · simp (disch := omega) only [↓reduceIte, j_lits, J_add, J_sub, J_mul, J_neg, J_le, J_lt, J_eqv, J_div, J_imax, J_imin, JA_get, JG, JA_upd, LET, Option.bind_some, lt_T, lt_F, le_T, le_F, eq_T, eq_F, and_true, true_and, Int.sub_neg, Int.natCast_add, n_lits, J_and1]
  · simp (disch := omega) only [↓reduceIte, j_lits, J_add, J_sub, J_mul, J_neg, J_le, J_lt, J_eqv, J_div, J_imax, J_imin, JA_get, JG, JA_upd, LET, Option.bind_some, lt_T, lt_F, le_T, le_F, eq_T, eq_F, and_true, true_and, Int.sub_neg, Int.natCast_add, n_lits, J_and1]
theorem e_cellNumber (x y : Int) : f_X7_cellNumber (J x) (J y) = some (J (CN x y)) := by
  unfold f_X7_cellNumber
  simp (disch := omega) only [↓reduceIte, j_lits, J_add, J_sub, J_mul, J_neg, J_le, J_lt, J_eqv, J_div, J_imax, J_imin, JA_get, JG, JA_upd, LET, Option.bind_some, lt_T, lt_F, le_T, le_F, eq_T, eq_F, and_true, true_and, Int.sub_neg, Int.natCast_add, n_lits]
  rfl
theorem e_cellOf (x y : Int) : f_X8_cellOf (J x) (J y) = some (J (CN x y)) := by
  unfold f_X8_cellOf
  simp (disch := omega) only [↓reduceIte, j_lits, J_add, J_sub, J_mul, J_neg, J_le, J_lt, J_eqv, J_div, J_imax, J_imin, JA_get, JG, JA_upd, LET, Option.bind_some, lt_T, lt_F, le_T, le_F, eq_T, eq_F, and_true, true_and, Int.sub_neg, Int.natCast_add, n_lits]
  exact congrArg some (congrArg J (by unfold CN; omega))
theorem e_cellX (h : 0 ≤ x ∧ x ≤ 2147483647) : f_X7_cellX (J x) = some (J (x / 21 - 10)) := by
  unfold f_X7_cellX
  simp (disch := omega) only [↓reduceIte, j_lits, J_add, J_sub, J_mul, J_neg, J_le, J_lt, J_eqv, J_div, J_imax, J_imin, JA_get, JG, JA_upd, LET, Option.bind_some, lt_T, lt_F, le_T, le_F, eq_T, eq_F, and_true, true_and, Int.sub_neg, Int.natCast_add, n_lits]
theorem e_cellY (h : 0 ≤ x ∧ x ≤ 2147483647) : f_X7_cellY (J x) = some (J (x % 21 - 10)) := by
  unfold f_X7_cellY
  simp (disch := omega) only [↓reduceIte, j_lits, J_add, J_sub, J_mul, J_neg, J_le, J_lt, J_eqv, J_div, J_imax, J_imin, JA_get, JG, JA_upd, LET, Option.bind_some, lt_T, lt_F, le_T, le_F, eq_T, eq_F, and_true, true_and, Int.sub_neg, Int.natCast_add, n_lits, J_mod]
theorem e_distance (h : (-1000000000 ≤ x ∧ x ≤ 1000000000) ∧ (-1000000000 ≤ y ∧ y ≤ 1000000000) ∧ (-1000000000 ≤ a ∧ a ≤ 1000000000) ∧ (-1000000000 ≤ b ∧ b ≤ 1000000000)) : f_X7_distance (J x) (J y) (J a) (J b) = some (J (DI x y a b)) := by
  unfold f_X7_distance
  simp (disch := omega) only [↓reduceIte, j_lits, J_add, J_sub, J_mul, J_neg, J_le, J_lt, J_eqv, J_div, J_imax, J_imin, JA_get, JG, JA_upd, LET, Option.bind_some, lt_T, lt_F, le_T, le_F, eq_T, eq_F, and_true, true_and, Int.sub_neg, Int.natCast_add, n_lits, J_iabs]
  exact congrArg some (congrArg J (by unfold DI; omega))
theorem e_size (h : -2147483647 ≤ a ∧ a ≤ 2147483647) : f_X8_size (J a) = some (J (max a (-a))) := by
  unfold f_X8_size
  by_cases q : a < 0
  · simp (disch := omega) only [↓reduceIte, j_lits, J_add, J_sub, J_mul, J_neg, J_le, J_lt, J_eqv, J_div, J_imax, J_imin, JA_get, JG, JA_upd, LET, Option.bind_some, lt_T, lt_F, le_T, le_F, eq_T, eq_F, and_true, true_and, Int.sub_neg, Int.natCast_add, n_lits]
    exact congrArg some (congrArg J (by omega))
  · simp (disch := omega) only [↓reduceIte, j_lits, J_add, J_sub, J_mul, J_neg, J_le, J_lt, J_eqv, J_div, J_imax, J_imin, JA_get, JG, JA_upd, LET, Option.bind_some, lt_T, lt_F, le_T, le_F, eq_T, eq_F, and_true, true_and, Int.sub_neg, Int.natCast_add, n_lits]
    exact congrArg some (congrArg J (by omega))
theorem e_distance8 (h : (-1000000000 ≤ x ∧ x ≤ 1000000000) ∧ (-1000000000 ≤ y ∧ y ≤ 1000000000) ∧ (-1000000000 ≤ a ∧ a ≤ 1000000000) ∧ (-1000000000 ≤ b ∧ b ≤ 1000000000)) : f_X8_distance (J x) (J y) (J a) (J b) = some (J (DI x y a b)) := by
  unfold f_X8_distance
  by_cases q : max (x - a) (-(x - a)) ≤ max (y - b) (-(y - b))
  · simp (disch := omega) only [↓reduceIte, j_lits, J_add, J_sub, J_mul, J_neg, J_le, J_lt, J_eqv, J_div, J_imax, J_imin, JA_get, JG, JA_upd, LET, Option.bind_some, lt_T, lt_F, le_T, le_F, eq_T, eq_F, and_true, true_and, Int.sub_neg, Int.natCast_add, n_lits, e_size]
    exact congrArg some (congrArg J (by unfold DI; omega))
  · simp (disch := omega) only [↓reduceIte, j_lits, J_add, J_sub, J_mul, J_neg, J_le, J_lt, J_eqv, J_div, J_imax, J_imin, JA_get, JG, JA_upd, LET, Option.bind_some, lt_T, lt_F, le_T, le_F, eq_T, eq_F, and_true, true_and, Int.sub_neg, Int.natCast_add, n_lits, e_size]
    exact congrArg some (congrArg J (by unfold DI; omega))
theorem e_isLimit1 (h : 0 ≤ x ∧ x ≤ 8) : f_X7_isLimit (J x) = some (J 1) := by
  unfold f_X7_isLimit
  simp (disch := omega) only [↓reduceIte, j_lits, J_add, J_sub, J_mul, J_neg, J_le, J_lt, J_eqv, J_div, J_imax, J_imin, JA_get, JG, JA_upd, LET, Option.bind_some, lt_T, lt_F, le_T, le_F, eq_T, eq_F, and_true, true_and, Int.sub_neg, Int.natCast_add, n_lits]
theorem e_isLimit0 (h : (-2147483648 ≤ x ∧ x ≤ 2147483647) ∧ ¬ (0 ≤ x ∧ x ≤ 8)) : f_X7_isLimit (J x) = some (J 0) := by
  unfold f_X7_isLimit
  by_cases q : x < 0
  · simp (disch := omega) only [↓reduceIte, j_lits, J_add, J_sub, J_mul, J_neg, J_le, J_lt, J_eqv, J_div, J_imax, J_imin, JA_get, JG, JA_upd, LET, Option.bind_some, lt_T, lt_F, le_T, le_F, eq_T, eq_F, and_true, true_and, Int.sub_neg, Int.natCast_add, n_lits]
  · simp (disch := omega) only [↓reduceIte, j_lits, J_add, J_sub, J_mul, J_neg, J_le, J_lt, J_eqv, J_div, J_imax, J_imin, JA_get, JG, JA_upd, LET, Option.bind_some, lt_T, lt_F, le_T, le_F, eq_T, eq_F, and_true, true_and, Int.sub_neg, Int.natCast_add, n_lits]
theorem e_isCellNumber1 (h : 0 ≤ x ∧ x < 441) : f_X7_isCellNumber (J x) = some (J 1) := by
  unfold f_X7_isCellNumber
  simp (disch := omega) only [↓reduceIte, j_lits, J_add, J_sub, J_mul, J_neg, J_le, J_lt, J_eqv, J_div, J_imax, J_imin, JA_get, JG, JA_upd, LET, Option.bind_some, lt_T, lt_F, le_T, le_F, eq_T, eq_F, and_true, true_and, Int.sub_neg, Int.natCast_add, n_lits]
theorem e_isCellNumber0 (h : (-2147483648 ≤ x ∧ x ≤ 2147483647) ∧ ¬ (0 ≤ x ∧ x < 441)) : f_X7_isCellNumber (J x) = some (J 0) := by
  unfold f_X7_isCellNumber
  by_cases q : x < 0
  · simp (disch := omega) only [↓reduceIte, j_lits, J_add, J_sub, J_mul, J_neg, J_le, J_lt, J_eqv, J_div, J_imax, J_imin, JA_get, JG, JA_upd, LET, Option.bind_some, lt_T, lt_F, le_T, le_F, eq_T, eq_F, and_true, true_and, Int.sub_neg, Int.natCast_add, n_lits]
  · simp (disch := omega) only [↓reduceIte, j_lits, J_add, J_sub, J_mul, J_neg, J_le, J_lt, J_eqv, J_div, J_imax, J_imin, JA_get, JG, JA_upd, LET, Option.bind_some, lt_T, lt_F, le_T, le_F, eq_T, eq_F, and_true, true_and, Int.sub_neg, Int.natCast_add, n_lits]
theorem e_hasLink1 (h : n ≤ 4 ∧ 0 ≤ k ∧ k < n) : f_X4_hasLink (J n) (J k) = some (J 1) := by
  unfold f_X4_hasLink
  simp (disch := omega) only [↓reduceIte, j_lits, J_add, J_sub, J_mul, J_neg, J_le, J_lt, J_eqv, J_div, J_imax, J_imin, JA_get, JG, JA_upd, LET, Option.bind_some, lt_T, lt_F, le_T, le_F, eq_T, eq_F, and_true, true_and, Int.sub_neg, Int.natCast_add, n_lits]
theorem e_hasLink0 (h : (0 ≤ n ∧ n ≤ 4) ∧ (-2147483648 ≤ k ∧ k ≤ 2147483647) ∧ ¬ (0 ≤ k ∧ k < n)) : f_X4_hasLink (J n) (J k) = some (J 0) := by
  unfold f_X4_hasLink
  by_cases q : k < 0
  · simp (disch := omega) only [↓reduceIte, j_lits, J_add, J_sub, J_mul, J_neg, J_le, J_lt, J_eqv, J_div, J_imax, J_imin, JA_get, JG, JA_upd, LET, Option.bind_some, lt_T, lt_F, le_T, le_F, eq_T, eq_F, and_true, true_and, Int.sub_neg, Int.natCast_add, n_lits]
  · simp (disch := omega) only [↓reduceIte, j_lits, J_add, J_sub, J_mul, J_neg, J_le, J_lt, J_eqv, J_div, J_imax, J_imin, JA_get, JG, JA_upd, LET, Option.bind_some, lt_T, lt_F, le_T, le_F, eq_T, eq_F, and_true, true_and, Int.sub_neg, Int.natCast_add, n_lits]
/-! the reference's looks into its row -/
variable {G : Int → Int}
theorem e_isJoint1 (h : 0 ≤ G 0 ∧ G 0 ≤ 4) (h2 : 0 ≤ k ∧ k < G 0) : f_X8_isJoint (JA G) (J k) = some (J 1) := by
  unfold f_X8_isJoint
  simp (disch := omega) only [↓reduceIte, j_lits, J_add, J_sub, J_mul, J_neg, J_le, J_lt, J_eqv, J_div, J_imax, J_imin, JA_get, JG, JA_upd, LET, Option.bind_some, lt_T, lt_F, le_T, le_F, eq_T, eq_F, and_true, true_and, Int.sub_neg, Int.natCast_add, n_lits, e_in1, JB1]
theorem e_isJoint0 (h : 0 ≤ G 0 ∧ G 0 ≤ 4) (h2 : (-2147483648 ≤ k ∧ k ≤ 2147483647) ∧ ¬ (0 ≤ k ∧ k < G 0)) : f_X8_isJoint (JA G) (J k) = some (J 0) := by
  unfold f_X8_isJoint
  simp (disch := omega) only [↓reduceIte, j_lits, J_add, J_sub, J_mul, J_neg, J_le, J_lt, J_eqv, J_div, J_imax, J_imin, JA_get, JG, JA_upd, LET, Option.bind_some, lt_T, lt_F, le_T, le_F, eq_T, eq_F, and_true, true_and, Int.sub_neg, Int.natCast_add, n_lits, e_in0, JB0]
theorem e_lengthOf (h : 0 ≤ k ∧ k ≤ 4) : f_X8_lengthOf (JA G) (J k) = some (J (G (1 + 4 * k))) := by
  unfold f_X8_lengthOf
  simp (disch := omega) only [↓reduceIte, j_lits, J_add, J_sub, J_mul, J_neg, J_le, J_lt, J_eqv, J_div, J_imax, J_imin, JA_get, JG, JA_upd, LET, Option.bind_some, lt_T, lt_F, le_T, le_F, eq_T, eq_F, and_true, true_and, Int.sub_neg, Int.natCast_add, n_lits]
theorem e_down (h : 0 ≤ k ∧ k ≤ 4) : f_X8_down (JA G) (J k) = some (J (G (2 + 4 * k))) := by
  unfold f_X8_down
  simp (disch := omega) only [↓reduceIte, j_lits, J_add, J_sub, J_mul, J_neg, J_le, J_lt, J_eqv, J_div, J_imax, J_imin, JA_get, JG, JA_upd, LET, Option.bind_some, lt_T, lt_F, le_T, le_F, eq_T, eq_F, and_true, true_and, Int.sub_neg, Int.natCast_add, n_lits]
theorem e_up (h : 0 ≤ k ∧ k ≤ 4) : f_X8_up (JA G) (J k) = some (J (G (3 + 4 * k))) := by
  unfold f_X8_up
  simp (disch := omega) only [↓reduceIte, j_lits, J_add, J_sub, J_mul, J_neg, J_le, J_lt, J_eqv, J_div, J_imax, J_imin, JA_get, JG, JA_upd, LET, Option.bind_some, lt_T, lt_F, le_T, le_F, eq_T, eq_F, and_true, true_and, Int.sub_neg, Int.natCast_add, n_lits]
theorem e_values (h : 0 ≤ k ∧ k ≤ 4) : f_X8_values (JA G) (J k) = some (J (VV G k)) := by
  unfold f_X8_values
  simp (disch := omega) only [↓reduceIte, j_lits, J_add, J_sub, J_mul, J_neg, J_le, J_lt, J_eqv, J_div, J_imax, J_imin, JA_get, JG, JA_upd, LET, Option.bind_some, lt_T, lt_F, le_T, le_F, eq_T, eq_F, and_true, true_and, Int.sub_neg, Int.natCast_add, n_lits, e_down, e_up]
  rfl
theorem e_isMove1 (h : 0 ≤ G 0 ∧ G 0 ≤ 4) (h2 : 0 ≤ k ∧ k < 2 * G 0) : f_X8_isMove (JA G) (J k) = some (J 1) := by
  unfold f_X8_isMove
  simp (disch := omega) only [↓reduceIte, j_lits, J_add, J_sub, J_mul, J_neg, J_le, J_lt, J_eqv, J_div, J_imax, J_imin, JA_get, JG, JA_upd, LET, Option.bind_some, lt_T, lt_F, le_T, le_F, eq_T, eq_F, and_true, true_and, Int.sub_neg, Int.natCast_add, n_lits, e_in1, JB1]
theorem e_isMove0 (h : 0 ≤ G 0 ∧ G 0 ≤ 4) (h2 : (-2147483648 ≤ k ∧ k ≤ 2147483647) ∧ ¬ (0 ≤ k ∧ k < 2 * G 0)) : f_X8_isMove (JA G) (J k) = some (J 0) := by
  unfold f_X8_isMove
  simp (disch := omega) only [↓reduceIte, j_lits, J_add, J_sub, J_mul, J_neg, J_le, J_lt, J_eqv, J_div, J_imax, J_imin, JA_get, JG, JA_upd, LET, Option.bind_some, lt_T, lt_F, le_T, le_F, eq_T, eq_F, and_true, true_and, Int.sub_neg, Int.natCast_add, n_lits, e_in0, JB0]
end
