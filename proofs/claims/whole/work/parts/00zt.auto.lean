/-! read: the automaton of the texts -/
def stp (s c : Int) : Int :=
  if s = 0 then (if c = 76 then 1 else (if c = 79 then 9 else -1))
  else if s = 1 then (if c < 49 then -1 else if 53 < c then -1 else 2)
  else if s = 2 then (if c = 40 then 3 else -1)
  else if s = 3 then (if c = 45 then 4 else -1)
  else if s = 4 then (if c < 48 then -1 else if 56 < c then -1 else 5)
  else if s = 5 then (if c = 44 then 6 else -1)
  else if s = 6 then (if c < 48 then -1 else if 56 < c then -1 else 7)
  else if s = 7 then (if c = 41 then 8 else -1)
  else if s = 8 then (if c = 59 then 0 else -1)
  else if s = 9 then (if c = 45 then 10 else (if c = 49 then 11 else (if c < 48 then -1 else if 57 < c then -1 else 12)))
  else if s = 10 then (if c = 49 then 11 else (if c < 48 then -1 else if 57 < c then -1 else 12))
  else if s = 11 then (if c = 48 then 12 else (if c = 44 then 13 else -1))
  else if s = 12 then (if c = 44 then 13 else -1)
  else if s = 13 then (if c = 45 then 14 else (if c = 49 then 15 else (if c < 48 then -1 else if 57 < c then -1 else 16)))
  else if s = 14 then (if c = 49 then 15 else (if c < 48 then -1 else if 57 < c then -1 else 16))
  else if s = 15 then (if c = 48 then 16 else (if c = 59 then 0 else -1))
  else if s = 16 then (if c = 59 then 0 else -1)
  else -1
section
variable {C T : Int → Int} {s c : Int} {n e : Nat}
theorem i_lits : (40 : Int32) = J 40 ∧ (41 : Int32) = J 41 ∧ (44 : Int32) = J 44 ∧ (45 : Int32) = J 45 ∧ (48 : Int32) = J 48 ∧ (49 : Int32) = J 49 ∧ (53 : Int32) = J 53 ∧ (56 : Int32) = J 56 ∧ (57 : Int32) = J 57 ∧ (59 : Int32) = J 59 ∧ (76 : Int32) = J 76 ∧ (79 : Int32) = J 79 ∧ (-1 : Int32) = J (-1) := ⟨rfl, rfl, rfl, rfl, rfl, rfl, rfl, rfl, rfl, rfl, rfl, rfl, rfl⟩
theorem isDig0 {x a b : Int} (h : (-2147483648 ≤ x ∧ x ≤ 2147483647) ∧ (-2147483648 ≤ a ∧ a ≤ 2147483647) ∧ (-2147483648 ≤ b ∧ b ≤ 2147483647) ∧ (x < a ∨ b < x)) : f_X2_isDigit (J x) (J a) (J b) = some (J 0) := by
  unfold f_X2_isDigit
  by_cases q : x < a
  · simp (disch := omega) only [↓reduceIte, j_lits, J_add, J_sub, J_mul, J_neg, J_le, J_lt, J_eqv, J_div, J_imax, J_imin, JA_get, JG, JA_upd, LET, Option.bind_some, lt_T, lt_F, le_T, le_F, eq_T, eq_F, and_true, true_and, Int.sub_neg, Int.natCast_add, n_lits]
  · simp (disch := omega) only [↓reduceIte, j_lits, J_add, J_sub, J_mul, J_neg, J_le, J_lt, J_eqv, J_div, J_imax, J_imin, JA_get, JG, JA_upd, LET, Option.bind_some, lt_T, lt_F, le_T, le_F, eq_T, eq_F, and_true, true_and, Int.sub_neg, Int.natCast_add, n_lits]
theorem isDig1 {x a b : Int} (h : (-2147483648 ≤ x ∧ x ≤ 2147483647) ∧ (-2147483648 ≤ a ∧ a ≤ 2147483647) ∧ (-2147483648 ≤ b ∧ b ≤ 2147483647) ∧ a ≤ x ∧ x ≤ b) : f_X2_isDigit (J x) (J a) (J b) = some (J 1) := by
  unfold f_X2_isDigit
  simp (disch := omega) only [↓reduceIte, j_lits, J_add, J_sub, J_mul, J_neg, J_le, J_lt, J_eqv, J_div, J_imax, J_imin, JA_get, JG, JA_upd, LET, Option.bind_some, lt_T, lt_F, le_T, le_F, eq_T, eq_F, and_true, true_and, Int.sub_neg, Int.natCast_add, n_lits]
theorem sb_0 (hc : 0 ≤ c ∧ c ≤ 65535) : f_X2_stateBehind (J 0) (J c) = some (J (stp 0 c)) := by
  by_cases z0 : c = 76
  · have e : stp 0 c = 1 := by unfold stp; omega
    rw [e]
    unfold f_X2_stateBehind
    simp (disch := omega) only [↓reduceIte, j_lits, J_add, J_sub, J_mul, J_neg, J_le, J_lt, J_eqv, J_div, J_imax, J_imin, JA_get, JG, JA_upd, LET, Option.bind_some, lt_T, lt_F, le_T, le_F, eq_T, eq_F, and_true, true_and, Int.sub_neg, Int.natCast_add, n_lits, i_lits, isDig0, isDig1]
    try rfl
  · by_cases z1 : c = 79
    · have e : stp 0 c = 9 := by unfold stp; omega
      rw [e]
      unfold f_X2_stateBehind
      simp (disch := omega) only [↓reduceIte, j_lits, J_add, J_sub, J_mul, J_neg, J_le, J_lt, J_eqv, J_div, J_imax, J_imin, JA_get, JG, JA_upd, LET, Option.bind_some, lt_T, lt_F, le_T, le_F, eq_T, eq_F, and_true, true_and, Int.sub_neg, Int.natCast_add, n_lits, i_lits, isDig0, isDig1]
      try rfl
    · have e : stp 0 c = -1 := by unfold stp; omega
      rw [e]
      unfold f_X2_stateBehind
      simp (disch := omega) only [↓reduceIte, j_lits, J_add, J_sub, J_mul, J_neg, J_le, J_lt, J_eqv, J_div, J_imax, J_imin, JA_get, JG, JA_upd, LET, Option.bind_some, lt_T, lt_F, le_T, le_F, eq_T, eq_F, and_true, true_and, Int.sub_neg, Int.natCast_add, n_lits, i_lits, isDig0, isDig1]
      try rfl
theorem sb_1 (hc : 0 ≤ c ∧ c ≤ 65535) : f_X2_stateBehind (J 1) (J c) = some (J (stp 1 c)) := by
  by_cases z0 : c < 49 ∨ 53 < c
  · have e : stp 1 c = -1 := by unfold stp; omega
    rw [e]
    unfold f_X2_stateBehind
    simp (disch := omega) only [↓reduceIte, j_lits, J_add, J_sub, J_mul, J_neg, J_le, J_lt, J_eqv, J_div, J_imax, J_imin, JA_get, JG, JA_upd, LET, Option.bind_some, lt_T, lt_F, le_T, le_F, eq_T, eq_F, and_true, true_and, Int.sub_neg, Int.natCast_add, n_lits, i_lits, isDig0, isDig1]
    try rfl
  · have e : stp 1 c = 2 := by unfold stp; omega
    rw [e]
    unfold f_X2_stateBehind
    simp (disch := omega) only [↓reduceIte, j_lits, J_add, J_sub, J_mul, J_neg, J_le, J_lt, J_eqv, J_div, J_imax, J_imin, JA_get, JG, JA_upd, LET, Option.bind_some, lt_T, lt_F, le_T, le_F, eq_T, eq_F, and_true, true_and, Int.sub_neg, Int.natCast_add, n_lits, i_lits, isDig0, isDig1]
    try rfl
theorem sb_2 (hc : 0 ≤ c ∧ c ≤ 65535) : f_X2_stateBehind (J 2) (J c) = some (J (stp 2 c)) := by
  by_cases z0 : c = 40
  · have e : stp 2 c = 3 := by unfold stp; omega
    rw [e]
    unfold f_X2_stateBehind
    simp (disch := omega) only [↓reduceIte, j_lits, J_add, J_sub, J_mul, J_neg, J_le, J_lt, J_eqv, J_div, J_imax, J_imin, JA_get, JG, JA_upd, LET, Option.bind_some, lt_T, lt_F, le_T, le_F, eq_T, eq_F, and_true, true_and, Int.sub_neg, Int.natCast_add, n_lits, i_lits, isDig0, isDig1]
    try rfl
  · have e : stp 2 c = -1 := by unfold stp; omega
    rw [e]
    unfold f_X2_stateBehind
    simp (disch := omega) only [↓reduceIte, j_lits, J_add, J_sub, J_mul, J_neg, J_le, J_lt, J_eqv, J_div, J_imax, J_imin, JA_get, JG, JA_upd, LET, Option.bind_some, lt_T, lt_F, le_T, le_F, eq_T, eq_F, and_true, true_and, Int.sub_neg, Int.natCast_add, n_lits, i_lits, isDig0, isDig1]
    try rfl
theorem sb_3 (hc : 0 ≤ c ∧ c ≤ 65535) : f_X2_stateBehind (J 3) (J c) = some (J (stp 3 c)) := by
  by_cases z0 : c = 45
  · have e : stp 3 c = 4 := by unfold stp; omega
    rw [e]
    unfold f_X2_stateBehind
    simp (disch := omega) only [↓reduceIte, j_lits, J_add, J_sub, J_mul, J_neg, J_le, J_lt, J_eqv, J_div, J_imax, J_imin, JA_get, JG, JA_upd, LET, Option.bind_some, lt_T, lt_F, le_T, le_F, eq_T, eq_F, and_true, true_and, Int.sub_neg, Int.natCast_add, n_lits, i_lits, isDig0, isDig1]
    try rfl
  · have e : stp 3 c = -1 := by unfold stp; omega
    rw [e]
    unfold f_X2_stateBehind
    simp (disch := omega) only [↓reduceIte, j_lits, J_add, J_sub, J_mul, J_neg, J_le, J_lt, J_eqv, J_div, J_imax, J_imin, JA_get, JG, JA_upd, LET, Option.bind_some, lt_T, lt_F, le_T, le_F, eq_T, eq_F, and_true, true_and, Int.sub_neg, Int.natCast_add, n_lits, i_lits, isDig0, isDig1]
    try rfl
theorem sb_4 (hc : 0 ≤ c ∧ c ≤ 65535) : f_X2_stateBehind (J 4) (J c) = some (J (stp 4 c)) := by
  by_cases z0 : c < 48 ∨ 56 < c
  · have e : stp 4 c = -1 := by unfold stp; omega
    rw [e]
    unfold f_X2_stateBehind
    simp (disch := omega) only [↓reduceIte, j_lits, J_add, J_sub, J_mul, J_neg, J_le, J_lt, J_eqv, J_div, J_imax, J_imin, JA_get, JG, JA_upd, LET, Option.bind_some, lt_T, lt_F, le_T, le_F, eq_T, eq_F, and_true, true_and, Int.sub_neg, Int.natCast_add, n_lits, i_lits, isDig0, isDig1]
    try rfl
  · have e : stp 4 c = 5 := by unfold stp; omega
    rw [e]
    unfold f_X2_stateBehind
    simp (disch := omega) only [↓reduceIte, j_lits, J_add, J_sub, J_mul, J_neg, J_le, J_lt, J_eqv, J_div, J_imax, J_imin, JA_get, JG, JA_upd, LET, Option.bind_some, lt_T, lt_F, le_T, le_F, eq_T, eq_F, and_true, true_and, Int.sub_neg, Int.natCast_add, n_lits, i_lits, isDig0, isDig1]
    try rfl
theorem sb_5 (hc : 0 ≤ c ∧ c ≤ 65535) : f_X2_stateBehind (J 5) (J c) = some (J (stp 5 c)) := by
  by_cases z0 : c = 44
  · have e : stp 5 c = 6 := by unfold stp; omega
    rw [e]
    unfold f_X2_stateBehind
    simp (disch := omega) only [↓reduceIte, j_lits, J_add, J_sub, J_mul, J_neg, J_le, J_lt, J_eqv, J_div, J_imax, J_imin, JA_get, JG, JA_upd, LET, Option.bind_some, lt_T, lt_F, le_T, le_F, eq_T, eq_F, and_true, true_and, Int.sub_neg, Int.natCast_add, n_lits, i_lits, isDig0, isDig1]
    try rfl
  · have e : stp 5 c = -1 := by unfold stp; omega
    rw [e]
    unfold f_X2_stateBehind
    simp (disch := omega) only [↓reduceIte, j_lits, J_add, J_sub, J_mul, J_neg, J_le, J_lt, J_eqv, J_div, J_imax, J_imin, JA_get, JG, JA_upd, LET, Option.bind_some, lt_T, lt_F, le_T, le_F, eq_T, eq_F, and_true, true_and, Int.sub_neg, Int.natCast_add, n_lits, i_lits, isDig0, isDig1]
    try rfl
theorem sb_6 (hc : 0 ≤ c ∧ c ≤ 65535) : f_X2_stateBehind (J 6) (J c) = some (J (stp 6 c)) := by
  by_cases z0 : c < 48 ∨ 56 < c
  · have e : stp 6 c = -1 := by unfold stp; omega
    rw [e]
    unfold f_X2_stateBehind
    simp (disch := omega) only [↓reduceIte, j_lits, J_add, J_sub, J_mul, J_neg, J_le, J_lt, J_eqv, J_div, J_imax, J_imin, JA_get, JG, JA_upd, LET, Option.bind_some, lt_T, lt_F, le_T, le_F, eq_T, eq_F, and_true, true_and, Int.sub_neg, Int.natCast_add, n_lits, i_lits, isDig0, isDig1]
    try rfl
  · have e : stp 6 c = 7 := by unfold stp; omega
    rw [e]
    unfold f_X2_stateBehind
    simp (disch := omega) only [↓reduceIte, j_lits, J_add, J_sub, J_mul, J_neg, J_le, J_lt, J_eqv, J_div, J_imax, J_imin, JA_get, JG, JA_upd, LET, Option.bind_some, lt_T, lt_F, le_T, le_F, eq_T, eq_F, and_true, true_and, Int.sub_neg, Int.natCast_add, n_lits, i_lits, isDig0, isDig1]
    try rfl
theorem sb_7 (hc : 0 ≤ c ∧ c ≤ 65535) : f_X2_stateBehind (J 7) (J c) = some (J (stp 7 c)) := by
  by_cases z0 : c = 41
  · have e : stp 7 c = 8 := by unfold stp; omega
    rw [e]
    unfold f_X2_stateBehind
    simp (disch := omega) only [↓reduceIte, j_lits, J_add, J_sub, J_mul, J_neg, J_le, J_lt, J_eqv, J_div, J_imax, J_imin, JA_get, JG, JA_upd, LET, Option.bind_some, lt_T, lt_F, le_T, le_F, eq_T, eq_F, and_true, true_and, Int.sub_neg, Int.natCast_add, n_lits, i_lits, isDig0, isDig1]
    try rfl
  · have e : stp 7 c = -1 := by unfold stp; omega
    rw [e]
    unfold f_X2_stateBehind
    simp (disch := omega) only [↓reduceIte, j_lits, J_add, J_sub, J_mul, J_neg, J_le, J_lt, J_eqv, J_div, J_imax, J_imin, JA_get, JG, JA_upd, LET, Option.bind_some, lt_T, lt_F, le_T, le_F, eq_T, eq_F, and_true, true_and, Int.sub_neg, Int.natCast_add, n_lits, i_lits, isDig0, isDig1]
    try rfl
theorem sb_8 (hc : 0 ≤ c ∧ c ≤ 65535) : f_X2_stateBehind (J 8) (J c) = some (J (stp 8 c)) := by
  by_cases z0 : c = 59
  · have e : stp 8 c = 0 := by unfold stp; omega
    rw [e]
    unfold f_X2_stateBehind
    simp (disch := omega) only [↓reduceIte, j_lits, J_add, J_sub, J_mul, J_neg, J_le, J_lt, J_eqv, J_div, J_imax, J_imin, JA_get, JG, JA_upd, LET, Option.bind_some, lt_T, lt_F, le_T, le_F, eq_T, eq_F, and_true, true_and, Int.sub_neg, Int.natCast_add, n_lits, i_lits, isDig0, isDig1]
    try rfl
  · have e : stp 8 c = -1 := by unfold stp; omega
    rw [e]
    unfold f_X2_stateBehind
    simp (disch := omega) only [↓reduceIte, j_lits, J_add, J_sub, J_mul, J_neg, J_le, J_lt, J_eqv, J_div, J_imax, J_imin, JA_get, JG, JA_upd, LET, Option.bind_some, lt_T, lt_F, le_T, le_F, eq_T, eq_F, and_true, true_and, Int.sub_neg, Int.natCast_add, n_lits, i_lits, isDig0, isDig1]
    try rfl
theorem sb_9 (hc : 0 ≤ c ∧ c ≤ 65535) : f_X2_stateBehind (J 9) (J c) = some (J (stp 9 c)) := by
  by_cases z0 : c = 45
  · have e : stp 9 c = 10 := by unfold stp; omega
    rw [e]
    unfold f_X2_stateBehind f_X2_stateInObstacle f_X2_stateInObstacle_L13 f_X2_stateInObstacle_L43 f_X2_stateInObstacle_L94
    simp (disch := omega) only [↓reduceIte, j_lits, J_add, J_sub, J_mul, J_neg, J_le, J_lt, J_eqv, J_div, J_imax, J_imin, JA_get, JG, JA_upd, LET, Option.bind_some, lt_T, lt_F, le_T, le_F, eq_T, eq_F, and_true, true_and, Int.sub_neg, Int.natCast_add, n_lits, i_lits, isDig0, isDig1]
    try rfl
  · by_cases z1 : c = 49
    · have e : stp 9 c = 11 := by unfold stp; omega
      rw [e]
      unfold f_X2_stateBehind f_X2_stateInObstacle f_X2_stateInObstacle_L13 f_X2_stateInObstacle_L43 f_X2_stateInObstacle_L94
      simp (disch := omega) only [↓reduceIte, j_lits, J_add, J_sub, J_mul, J_neg, J_le, J_lt, J_eqv, J_div, J_imax, J_imin, JA_get, JG, JA_upd, LET, Option.bind_some, lt_T, lt_F, le_T, le_F, eq_T, eq_F, and_true, true_and, Int.sub_neg, Int.natCast_add, n_lits, i_lits, isDig0, isDig1]
      try rfl
    · by_cases z2 : c < 48 ∨ 57 < c
      · have e : stp 9 c = -1 := by unfold stp; omega
        rw [e]
        unfold f_X2_stateBehind f_X2_stateInObstacle f_X2_stateInObstacle_L13 f_X2_stateInObstacle_L43 f_X2_stateInObstacle_L94
        simp (disch := omega) only [↓reduceIte, j_lits, J_add, J_sub, J_mul, J_neg, J_le, J_lt, J_eqv, J_div, J_imax, J_imin, JA_get, JG, JA_upd, LET, Option.bind_some, lt_T, lt_F, le_T, le_F, eq_T, eq_F, and_true, true_and, Int.sub_neg, Int.natCast_add, n_lits, i_lits, isDig0, isDig1]
        try rfl
      · have e : stp 9 c = 12 := by unfold stp; omega
        rw [e]
        unfold f_X2_stateBehind f_X2_stateInObstacle f_X2_stateInObstacle_L13 f_X2_stateInObstacle_L43 f_X2_stateInObstacle_L94
        simp (disch := omega) only [↓reduceIte, j_lits, J_add, J_sub, J_mul, J_neg, J_le, J_lt, J_eqv, J_div, J_imax, J_imin, JA_get, JG, JA_upd, LET, Option.bind_some, lt_T, lt_F, le_T, le_F, eq_T, eq_F, and_true, true_and, Int.sub_neg, Int.natCast_add, n_lits, i_lits, isDig0, isDig1]
        try rfl
theorem sb_10 (hc : 0 ≤ c ∧ c ≤ 65535) : f_X2_stateBehind (J 10) (J c) = some (J (stp 10 c)) := by
  by_cases z0 : c = 49
  · have e : stp 10 c = 11 := by unfold stp; omega
    rw [e]
    unfold f_X2_stateBehind f_X2_stateInObstacle f_X2_stateInObstacle_L13 f_X2_stateInObstacle_L43 f_X2_stateInObstacle_L94
    simp (disch := omega) only [↓reduceIte, j_lits, J_add, J_sub, J_mul, J_neg, J_le, J_lt, J_eqv, J_div, J_imax, J_imin, JA_get, JG, JA_upd, LET, Option.bind_some, lt_T, lt_F, le_T, le_F, eq_T, eq_F, and_true, true_and, Int.sub_neg, Int.natCast_add, n_lits, i_lits, isDig0, isDig1]
    try rfl
  · by_cases z1 : c < 48 ∨ 57 < c
    · have e : stp 10 c = -1 := by unfold stp; omega
      rw [e]
      unfold f_X2_stateBehind f_X2_stateInObstacle f_X2_stateInObstacle_L13 f_X2_stateInObstacle_L43 f_X2_stateInObstacle_L94
      simp (disch := omega) only [↓reduceIte, j_lits, J_add, J_sub, J_mul, J_neg, J_le, J_lt, J_eqv, J_div, J_imax, J_imin, JA_get, JG, JA_upd, LET, Option.bind_some, lt_T, lt_F, le_T, le_F, eq_T, eq_F, and_true, true_and, Int.sub_neg, Int.natCast_add, n_lits, i_lits, isDig0, isDig1]
      try rfl
    · have e : stp 10 c = 12 := by unfold stp; omega
      rw [e]
      unfold f_X2_stateBehind f_X2_stateInObstacle f_X2_stateInObstacle_L13 f_X2_stateInObstacle_L43 f_X2_stateInObstacle_L94
      simp (disch := omega) only [↓reduceIte, j_lits, J_add, J_sub, J_mul, J_neg, J_le, J_lt, J_eqv, J_div, J_imax, J_imin, JA_get, JG, JA_upd, LET, Option.bind_some, lt_T, lt_F, le_T, le_F, eq_T, eq_F, and_true, true_and, Int.sub_neg, Int.natCast_add, n_lits, i_lits, isDig0, isDig1]
      try rfl
theorem sb_11 (hc : 0 ≤ c ∧ c ≤ 65535) : f_X2_stateBehind (J 11) (J c) = some (J (stp 11 c)) := by
  by_cases z0 : c = 48
  · have e : stp 11 c = 12 := by unfold stp; omega
    rw [e]
    unfold f_X2_stateBehind f_X2_stateInObstacle f_X2_stateInObstacle_L13 f_X2_stateInObstacle_L43 f_X2_stateInObstacle_L94
    simp (disch := omega) only [↓reduceIte, j_lits, J_add, J_sub, J_mul, J_neg, J_le, J_lt, J_eqv, J_div, J_imax, J_imin, JA_get, JG, JA_upd, LET, Option.bind_some, lt_T, lt_F, le_T, le_F, eq_T, eq_F, and_true, true_and, Int.sub_neg, Int.natCast_add, n_lits, i_lits, isDig0, isDig1]
    try rfl
  · by_cases z1 : c = 44
    · have e : stp 11 c = 13 := by unfold stp; omega
      rw [e]
      unfold f_X2_stateBehind f_X2_stateInObstacle f_X2_stateInObstacle_L13 f_X2_stateInObstacle_L43 f_X2_stateInObstacle_L94
      simp (disch := omega) only [↓reduceIte, j_lits, J_add, J_sub, J_mul, J_neg, J_le, J_lt, J_eqv, J_div, J_imax, J_imin, JA_get, JG, JA_upd, LET, Option.bind_some, lt_T, lt_F, le_T, le_F, eq_T, eq_F, and_true, true_and, Int.sub_neg, Int.natCast_add, n_lits, i_lits, isDig0, isDig1]
      try rfl
    · have e : stp 11 c = -1 := by unfold stp; omega
      rw [e]
      unfold f_X2_stateBehind f_X2_stateInObstacle f_X2_stateInObstacle_L13 f_X2_stateInObstacle_L43 f_X2_stateInObstacle_L94
      simp (disch := omega) only [↓reduceIte, j_lits, J_add, J_sub, J_mul, J_neg, J_le, J_lt, J_eqv, J_div, J_imax, J_imin, JA_get, JG, JA_upd, LET, Option.bind_some, lt_T, lt_F, le_T, le_F, eq_T, eq_F, and_true, true_and, Int.sub_neg, Int.natCast_add, n_lits, i_lits, isDig0, isDig1]
      try rfl
theorem sb_12 (hc : 0 ≤ c ∧ c ≤ 65535) : f_X2_stateBehind (J 12) (J c) = some (J (stp 12 c)) := by
  by_cases z0 : c = 44
  · have e : stp 12 c = 13 := by unfold stp; omega
    rw [e]
    unfold f_X2_stateBehind f_X2_stateInObstacle f_X2_stateInObstacle_L13 f_X2_stateInObstacle_L43 f_X2_stateInObstacle_L94
    simp (disch := omega) only [↓reduceIte, j_lits, J_add, J_sub, J_mul, J_neg, J_le, J_lt, J_eqv, J_div, J_imax, J_imin, JA_get, JG, JA_upd, LET, Option.bind_some, lt_T, lt_F, le_T, le_F, eq_T, eq_F, and_true, true_and, Int.sub_neg, Int.natCast_add, n_lits, i_lits, isDig0, isDig1]
    try rfl
  · have e : stp 12 c = -1 := by unfold stp; omega
    rw [e]
    unfold f_X2_stateBehind f_X2_stateInObstacle f_X2_stateInObstacle_L13 f_X2_stateInObstacle_L43 f_X2_stateInObstacle_L94
    simp (disch := omega) only [↓reduceIte, j_lits, J_add, J_sub, J_mul, J_neg, J_le, J_lt, J_eqv, J_div, J_imax, J_imin, JA_get, JG, JA_upd, LET, Option.bind_some, lt_T, lt_F, le_T, le_F, eq_T, eq_F, and_true, true_and, Int.sub_neg, Int.natCast_add, n_lits, i_lits, isDig0, isDig1]
    try rfl
theorem sb_13 (hc : 0 ≤ c ∧ c ≤ 65535) : f_X2_stateBehind (J 13) (J c) = some (J (stp 13 c)) := by
  by_cases z0 : c = 45
  · have e : stp 13 c = 14 := by unfold stp; omega
    rw [e]
    unfold f_X2_stateBehind f_X2_stateInObstacle f_X2_stateInObstacle_L13 f_X2_stateInObstacle_L43 f_X2_stateInObstacle_L94
    simp (disch := omega) only [↓reduceIte, j_lits, J_add, J_sub, J_mul, J_neg, J_le, J_lt, J_eqv, J_div, J_imax, J_imin, JA_get, JG, JA_upd, LET, Option.bind_some, lt_T, lt_F, le_T, le_F, eq_T, eq_F, and_true, true_and, Int.sub_neg, Int.natCast_add, n_lits, i_lits, isDig0, isDig1]
    try rfl
  · by_cases z1 : c = 49
    · have e : stp 13 c = 15 := by unfold stp; omega
      rw [e]
      unfold f_X2_stateBehind f_X2_stateInObstacle f_X2_stateInObstacle_L13 f_X2_stateInObstacle_L43 f_X2_stateInObstacle_L94
      simp (disch := omega) only [↓reduceIte, j_lits, J_add, J_sub, J_mul, J_neg, J_le, J_lt, J_eqv, J_div, J_imax, J_imin, JA_get, JG, JA_upd, LET, Option.bind_some, lt_T, lt_F, le_T, le_F, eq_T, eq_F, and_true, true_and, Int.sub_neg, Int.natCast_add, n_lits, i_lits, isDig0, isDig1]
      try rfl
    · by_cases z2 : c < 48 ∨ 57 < c
      · have e : stp 13 c = -1 := by unfold stp; omega
        rw [e]
        unfold f_X2_stateBehind f_X2_stateInObstacle f_X2_stateInObstacle_L13 f_X2_stateInObstacle_L43 f_X2_stateInObstacle_L94
        simp (disch := omega) only [↓reduceIte, j_lits, J_add, J_sub, J_mul, J_neg, J_le, J_lt, J_eqv, J_div, J_imax, J_imin, JA_get, JG, JA_upd, LET, Option.bind_some, lt_T, lt_F, le_T, le_F, eq_T, eq_F, and_true, true_and, Int.sub_neg, Int.natCast_add, n_lits, i_lits, isDig0, isDig1]
        try rfl
      · have e : stp 13 c = 16 := by unfold stp; omega
        rw [e]
        unfold f_X2_stateBehind f_X2_stateInObstacle f_X2_stateInObstacle_L13 f_X2_stateInObstacle_L43 f_X2_stateInObstacle_L94
        simp (disch := omega) only [↓reduceIte, j_lits, J_add, J_sub, J_mul, J_neg, J_le, J_lt, J_eqv, J_div, J_imax, J_imin, JA_get, JG, JA_upd, LET, Option.bind_some, lt_T, lt_F, le_T, le_F, eq_T, eq_F, and_true, true_and, Int.sub_neg, Int.natCast_add, n_lits, i_lits, isDig0, isDig1]
        try rfl
theorem sb_14 (hc : 0 ≤ c ∧ c ≤ 65535) : f_X2_stateBehind (J 14) (J c) = some (J (stp 14 c)) := by
  by_cases z0 : c = 49
  · have e : stp 14 c = 15 := by unfold stp; omega
    rw [e]
    unfold f_X2_stateBehind f_X2_stateInObstacle f_X2_stateInObstacle_L13 f_X2_stateInObstacle_L43 f_X2_stateInObstacle_L94
    simp (disch := omega) only [↓reduceIte, j_lits, J_add, J_sub, J_mul, J_neg, J_le, J_lt, J_eqv, J_div, J_imax, J_imin, JA_get, JG, JA_upd, LET, Option.bind_some, lt_T, lt_F, le_T, le_F, eq_T, eq_F, and_true, true_and, Int.sub_neg, Int.natCast_add, n_lits, i_lits, isDig0, isDig1]
    try rfl
  · by_cases z1 : c < 48 ∨ 57 < c
    · have e : stp 14 c = -1 := by unfold stp; omega
      rw [e]
      unfold f_X2_stateBehind f_X2_stateInObstacle f_X2_stateInObstacle_L13 f_X2_stateInObstacle_L43 f_X2_stateInObstacle_L94
      simp (disch := omega) only [↓reduceIte, j_lits, J_add, J_sub, J_mul, J_neg, J_le, J_lt, J_eqv, J_div, J_imax, J_imin, JA_get, JG, JA_upd, LET, Option.bind_some, lt_T, lt_F, le_T, le_F, eq_T, eq_F, and_true, true_and, Int.sub_neg, Int.natCast_add, n_lits, i_lits, isDig0, isDig1]
      try rfl
    · have e : stp 14 c = 16 := by unfold stp; omega
      rw [e]
      unfold f_X2_stateBehind f_X2_stateInObstacle f_X2_stateInObstacle_L13 f_X2_stateInObstacle_L43 f_X2_stateInObstacle_L94
      simp (disch := omega) only [↓reduceIte, j_lits, J_add, J_sub, J_mul, J_neg, J_le, J_lt, J_eqv, J_div, J_imax, J_imin, JA_get, JG, JA_upd, LET, Option.bind_some, lt_T, lt_F, le_T, le_F, eq_T, eq_F, and_true, true_and, Int.sub_neg, Int.natCast_add, n_lits, i_lits, isDig0, isDig1]
      try rfl
theorem sb_15 (hc : 0 ≤ c ∧ c ≤ 65535) : f_X2_stateBehind (J 15) (J c) = some (J (stp 15 c)) := by
  by_cases z0 : c = 48
  · have e : stp 15 c = 16 := by unfold stp; omega
    rw [e]
    unfold f_X2_stateBehind f_X2_stateInObstacle f_X2_stateInObstacle_L13 f_X2_stateInObstacle_L43 f_X2_stateInObstacle_L94
    simp (disch := omega) only [↓reduceIte, j_lits, J_add, J_sub, J_mul, J_neg, J_le, J_lt, J_eqv, J_div, J_imax, J_imin, JA_get, JG, JA_upd, LET, Option.bind_some, lt_T, lt_F, le_T, le_F, eq_T, eq_F, and_true, true_and, Int.sub_neg, Int.natCast_add, n_lits, i_lits, isDig0, isDig1]
    try rfl
  · by_cases z1 : c = 59
    · have e : stp 15 c = 0 := by unfold stp; omega
      rw [e]
      unfold f_X2_stateBehind f_X2_stateInObstacle f_X2_stateInObstacle_L13 f_X2_stateInObstacle_L43 f_X2_stateInObstacle_L94
      simp (disch := omega) only [↓reduceIte, j_lits, J_add, J_sub, J_mul, J_neg, J_le, J_lt, J_eqv, J_div, J_imax, J_imin, JA_get, JG, JA_upd, LET, Option.bind_some, lt_T, lt_F, le_T, le_F, eq_T, eq_F, and_true, true_and, Int.sub_neg, Int.natCast_add, n_lits, i_lits, isDig0, isDig1]
      try rfl
    · have e : stp 15 c = -1 := by unfold stp; omega
      rw [e]
      unfold f_X2_stateBehind f_X2_stateInObstacle f_X2_stateInObstacle_L13 f_X2_stateInObstacle_L43 f_X2_stateInObstacle_L94
      simp (disch := omega) only [↓reduceIte, j_lits, J_add, J_sub, J_mul, J_neg, J_le, J_lt, J_eqv, J_div, J_imax, J_imin, JA_get, JG, JA_upd, LET, Option.bind_some, lt_T, lt_F, le_T, le_F, eq_T, eq_F, and_true, true_and, Int.sub_neg, Int.natCast_add, n_lits, i_lits, isDig0, isDig1]
      try rfl
theorem sb_16 (hc : 0 ≤ c ∧ c ≤ 65535) : f_X2_stateBehind (J 16) (J c) = some (J (stp 16 c)) := by
  by_cases z0 : c = 59
  · have e : stp 16 c = 0 := by unfold stp; omega
    rw [e]
    unfold f_X2_stateBehind f_X2_stateInObstacle f_X2_stateInObstacle_L13 f_X2_stateInObstacle_L43 f_X2_stateInObstacle_L94
    simp (disch := omega) only [↓reduceIte, j_lits, J_add, J_sub, J_mul, J_neg, J_le, J_lt, J_eqv, J_div, J_imax, J_imin, JA_get, JG, JA_upd, LET, Option.bind_some, lt_T, lt_F, le_T, le_F, eq_T, eq_F, and_true, true_and, Int.sub_neg, Int.natCast_add, n_lits, i_lits, isDig0, isDig1]
    try rfl
  · have e : stp 16 c = -1 := by unfold stp; omega
    rw [e]
    unfold f_X2_stateBehind f_X2_stateInObstacle f_X2_stateInObstacle_L13 f_X2_stateInObstacle_L43 f_X2_stateInObstacle_L94
    simp (disch := omega) only [↓reduceIte, j_lits, J_add, J_sub, J_mul, J_neg, J_le, J_lt, J_eqv, J_div, J_imax, J_imin, JA_get, JG, JA_upd, LET, Option.bind_some, lt_T, lt_F, le_T, le_F, eq_T, eq_F, and_true, true_and, Int.sub_neg, Int.natCast_add, n_lits, i_lits, isDig0, isDig1]
    try rfl
theorem e_stateBehind (hs : 0 ≤ s ∧ s ≤ 16) (hc : 0 ≤ c ∧ c ≤ 65535) : f_X2_stateBehind (J s) (J c) = some (J (stp s c)) := by
  have h : s = 0 ∨ s = 1 ∨ s = 2 ∨ s = 3 ∨ s = 4 ∨ s = 5 ∨ s = 6 ∨ s = 7 ∨ s = 8 ∨ s = 9 ∨ s = 10 ∨ s = 11 ∨ s = 12 ∨ s = 13 ∨ s = 14 ∨ s = 15 ∨ s = 16 := by omega
  rcases h with rfl | rfl | rfl | rfl | rfl | rfl | rfl | rfl | rfl | rfl | rfl | rfl | rfl | rfl | rfl | rfl | rfl
  · exact sb_0 hc
  · exact sb_1 hc
  · exact sb_2 hc
  · exact sb_3 hc
  · exact sb_4 hc
  · exact sb_5 hc
  · exact sb_6 hc
  · exact sb_7 hc
  · exact sb_8 hc
  · exact sb_9 hc
  · exact sb_10 hc
  · exact sb_11 hc
  · exact sb_12 hc
  · exact sb_13 hc
  · exact sb_14 hc
  · exact sb_15 hc
  · exact sb_16 hc
theorem stp_b (s c : Int) : -1 ≤ stp s c ∧ stp s c ≤ 16 := by
  unfold stp
  omega
theorem stp_n (h : s < 0) : stp s c = -1 := by
  unfold stp
  omega
def SAT (T : Int → Int) : Nat → Int
  | 0 => 0
  | k + 1 => stp (SAT T k) (T k)
theorem SA_b (T : Int → Int) : ∀ k : Nat, -1 ≤ SAT T k ∧ SAT T k ≤ 16
  | 0 => ⟨by show (-1 : Int) ≤ 0; omega, by show (0 : Int) ≤ 16; omega⟩
  | k + 1 => stp_b _ _
theorem SA_back {j : Nat} : ∀ k : Nat, 0 ≤ SAT T k → j ≤ k → 0 ≤ SAT T j
  | 0, h, hj => by
    have e : j = 0 := by omega
    rw [e]; exact h
  | k + 1, h, hj => by
    by_cases z : j = k + 1
    · rw [z]; exact h
    · refine SA_back k ?_ (by omega)
      refine Classical.byContradiction fun w => ?_
      have : stp (SAT T k) (T k) = -1 := stp_n (by omega)
      have h : 0 ≤ stp (SAT T k) (T k) := h
      omega
/-- the reading fails at place e -/
def FAT (n : Nat) (T : Int → Int) (e : Nat) : Prop := e ≤ n ∧ 0 ≤ SAT T e ∧ ((e < n ∧ SAT T (e + 1) < 0) ∨ (e = n ∧ (¬ SAT T n = 0 ∨ n = 0)))
theorem gc_c {α : Type} {k : Option α} (h : 0 ≤ c ∧ c ≤ 126) : GC (J c) k = k := by
  have h1 : ∀ n : Fin 127, ((J n.val).toUInt32 % 65536).toInt32 = J n.val := by decide
  have h2 := h1 ⟨c.toNat, by omega⟩
  rw [show ((⟨c.toNat, by omega⟩ : Fin 127).val : Int) = c by show ((c.toNat : Nat) : Int) = c; omega] at h2
  exact if_pos h2
theorem e_signAt (hn : n ≤ 60) (hC : ∀ i : Int, 0 ≤ i → i < n → C i = T i ∧ 32 ≤ T i ∧ T i ≤ 126) {i : Int} (hi : 0 ≤ i ∧ i < n) : f_X2_signAt (J n) (JA C) (J i) = some (J (T i)) := by
  have h := hC i hi.1 hi.2
  unfold f_X2_signAt
  rw [if_neg (by rw [show (0 : Int32) = J 0 from rfl, J_lt (by omega)]; omega), if_neg (by rw [J_le (by omega)]; omega), if_neg (by rw [show (60 : Int32) = J 60 from rfl, J_le (by omega)]; omega), JG (by omega), JA_get _ (by omega), h.1, gc_c (by omega)]
theorem e_err (hn : n ≤ 60) (hC : ∀ i : Int, 0 ≤ i → i < n → C i = T i ∧ 32 ≤ T i ∧ T i ≤ 126) (k : Nat) (hk : k < n) (h : 0 ≤ SAT T k) (r : Int32 × Int32 ⊕ (Int32 ⊕ Int32)) (hr : (if 0 ≤ SAT T (k + 1) then some (.inl (J (SAT T (k + 1)), J ((k + 1 : Nat) : Int))) else some (.inr (.inl (J k)))) = some r) : f_X2_errorPlace_B4 (J n) (JA C) (J (SAT T k)) (J k) = some r := by
  have h1 := hC k (by omega) (by omega)
  have h2 := SA_b T k
  have h3 := SA_b T (k + 1)
  unfold f_X2_errorPlace_B4
  rw [if_neg (by rw [J_le (by omega)]; omega)]
  refine ob _ (e_signAt hn hC (by omega)) ?_
  refine ob _ (e_stateBehind ⟨h, h2.2⟩ (by omega)) ?_
  rw [← hr]
  show (if (0 : Int32) ≤ J (SAT T (k + 1)) then _ else _) = _
  by_cases z : 0 ≤ SAT T (k + 1)
  · rw [if_pos (by rw [show (0 : Int32) = J 0 from rfl, J_le (by omega)]; exact z), if_pos z]
    simp only [LET]
    rw [show (1 : Int32) = J 1 from rfl, J_add]
    rfl
  · rw [if_neg (by rw [show (0 : Int32) = J 0 from rfl, J_le (by omega)]; exact z), if_neg z]
theorem e_err1 (hn : n ≤ 60) (hC : ∀ i : Int, 0 ≤ i → i < n → C i = T i ∧ 32 ≤ T i ∧ T i ≤ 126) (h : FAT n T e) : f_X2_errorPlace (J n) (JA C) = some (J e) := by
  obtain ⟨h1, h2, h3⟩ := h
  unfold f_X2_errorPlace
  have hs : ∀ k : Nat, k < e → (fun z : Int32 × Int32 => f_X2_errorPlace_B4 (J n) (JA C) z.1 z.2) (J (SAT T k), J k) = some (.inl (J (SAT T (k + 1)), J ((k + 1 : Nat) : Int))) := fun k hk => e_err hn hC k (by omega) (SA_back e h2 (by omega)) _ (if_pos (SA_back e h2 (by omega)))
  rcases h3 with ⟨h3, h4⟩ | ⟨h3, h4⟩
  · refine lp_bind (fun k : Nat => (J (SAT T k), J k)) e rfl (by omega) hs (e := .inl (J e)) ?_ rfl
    exact e_err hn hC e h3 h2 _ (if_neg (by omega))
  · subst h3
    refine lp_bind (fun k : Nat => (J (SAT T k), J k)) e rfl (by omega) hs (e := .inr (J (SAT T e))) ?_ ?_
    · show f_X2_errorPlace_B4 (J e) (JA C) (J (SAT T e)) (J e) = _
      unfold f_X2_errorPlace_B4
      rw [if_pos (by rw [J_le (by omega)]; omega)]
    · show (if J (e : Int) ≤ 0 then some (J (e : Int)) else if J (SAT T e) = 0 then some (-1) else some (J (e : Int))) = _
      have h5 := SA_b T e
      by_cases z : e = 0
      · rw [if_pos (by rw [show (0 : Int32) = J 0 from rfl, J_le (by omega)]; omega)]
      · rw [if_neg (by rw [show (0 : Int32) = J 0 from rfl, J_le (by omega)]; omega), if_neg (by rw [show (0 : Int32) = J 0 from rfl, J_eqv (by omega)]; exact h4.resolve_right z)]
theorem e_err0 (hn : n ≤ 60) (hC : ∀ i : Int, 0 ≤ i → i < n → C i = T i ∧ 32 ≤ T i ∧ T i ≤ 126) (h0 : 0 < n) (h : SAT T n = 0) : f_X2_errorPlace (J n) (JA C) = some (J (-1)) := by
  unfold f_X2_errorPlace
  refine lp_bind (fun k : Nat => (J (SAT T k), J k)) n rfl (by omega) (fun k hk => e_err hn hC k (by omega) (SA_back n (by omega) (by omega)) _ (if_pos (SA_back n (by omega) (by omega)))) (e := .inr (J (SAT T n))) ?_ ?_
  · show f_X2_errorPlace_B4 (J n) (JA C) (J (SAT T n)) (J n) = _
    unfold f_X2_errorPlace_B4
    rw [if_pos (by rw [J_le (by omega)]; omega)]
  · show (if J (n : Int) ≤ 0 then some (J (n : Int)) else if J (SAT T n) = 0 then some (-1) else some (J (n : Int))) = _
    rw [if_neg (by rw [show (0 : Int32) = J 0 from rfl, J_le (by omega)]; omega), h, if_pos (by rfl)]
    rfl
end
