/-! the pose behind a move; what the space tells of a pose -/
section
variable {G lo hi vl F sp st T D Q : Int → Int} {k p m x N c : Int}
theorem BH_two (hl : WL G) (hp : 0 ≤ p ∧ p < NP G) (hm : 0 ≤ m ∧ m < 2 * G 0) :
    ((0 ≤ p / PW G (m / 2 + 1) (nn G - 1 - (m / 2).toNat) % VV G (m / 2) + TU m ∧ p / PW G (m / 2 + 1) (nn G - 1 - (m / 2).toNat) % VV G (m / 2) + TU m < VV G (m / 2)) ∧ BH G p m = p + TU m * PW G (m / 2 + 1) (nn G - 1 - (m / 2).toNat) ∧ 0 ≤ BH G p m ∧ BH G p m < NP G)
    ∨ (¬ (0 ≤ p / PW G (m / 2 + 1) (nn G - 1 - (m / 2).toNat) % VV G (m / 2) + TU m ∧ p / PW G (m / 2 + 1) (nn G - 1 - (m / 2).toNat) % VV G (m / 2) + TU m < VV G (m / 2)) ∧ BH G p m = -1) := by
  have h1 := nn_eq hl
  by_cases q : 0 ≤ p / PW G (m / 2 + 1) (nn G - 1 - (m / 2).toNat) % VV G (m / 2) + TU m ∧ p / PW G (m / 2 + 1) (nn G - 1 - (m / 2).toNat) % VV G (m / 2) + TU m < VV G (m / 2)
  · have h2 : BH G p m = p + TU m * PW G (m / 2 + 1) (nn G - 1 - (m / 2).toNat) := if_pos q
    have h3 : 0 ≤ BH G p m := by
      have h4 := BH_lt hl hm.1 hm.2 hp
      have h5 := BH_eq hl p m (by omega) (by omega)
      rw [dig_w hl p (by omega) (by omega)] at q
      have h6 : VV G (m / 2) = G (2 + 4 * (m / 2)) + G (3 + 4 * (m / 2)) + 1 := rfl
      have h7 := BH_in hl (DV_lim hl p) hm.1 hm.2 (by omega)
      rw [HN_DV hl hp] at h7
      rw [h7]
      exact (HN_b hl (LIM_up (DV_lim hl p) (by omega)) (nn G) (by omega)).1
    exact Or.inl ⟨q, h2, h3, BH_b hl hp hm.1 hm.2 h3⟩
  · exact Or.inr ⟨q, if_neg q⟩
theorem e_isPose1 (h : 0 ≤ p ∧ p < N ∧ N ≤ 5000) : f_X5_isPose (J N) (J p) = some (J 1) := by
  unfold f_X5_isPose
  simp (disch := omega) only [↓reduceIte, j_lits, J_add, J_sub, J_mul, J_neg, J_le, J_lt, J_eqv, J_div, J_imax, J_imin, JA_get, JG, JA_upd, LET, Option.bind_some, lt_T, lt_F, le_T, le_F, eq_T, eq_F, and_true, true_and, Int.sub_neg, Int.natCast_add, n_lits]
theorem e_isPose0 (h : (-2147483648 ≤ p ∧ p ≤ 2147483647) ∧ 0 ≤ N ∧ N ≤ 5000 ∧ ¬ (0 ≤ p ∧ p < N)) : f_X5_isPose (J N) (J p) = some (J 0) := by
  unfold f_X5_isPose
  by_cases q : p < 0
  · simp (disch := omega) only [↓reduceIte, j_lits, J_add, J_sub, J_mul, J_neg, J_le, J_lt, J_eqv, J_div, J_imax, J_imin, JA_get, JG, JA_upd, LET, Option.bind_some, lt_T, lt_F, le_T, le_F, eq_T, eq_F, and_true, true_and, Int.sub_neg, Int.natCast_add, n_lits]
  · simp (disch := omega) only [↓reduceIte, j_lits, J_add, J_sub, J_mul, J_neg, J_le, J_lt, J_eqv, J_div, J_imax, J_imin, JA_get, JG, JA_upd, LET, Option.bind_some, lt_T, lt_F, le_T, le_F, eq_T, eq_F, and_true, true_and, Int.sub_neg, Int.natCast_add, n_lits]
theorem e_tipOf (h : 0 ≤ p ∧ p < N ∧ N ≤ 5000) : f_X5_tipOf (J N) (JA T) (J p) = some (J (T p)) := by
  unfold f_X5_tipOf
  simp (disch := omega) only [↓reduceIte, j_lits, J_add, J_sub, J_mul, J_neg, J_le, J_lt, J_eqv, J_div, J_imax, J_imin, JA_get, JG, JA_upd, LET, Option.bind_some, lt_T, lt_F, le_T, le_F, eq_T, eq_F, and_true, true_and, Int.sub_neg, Int.natCast_add, n_lits, e_isPose1]
theorem e_distanceOf (h : 0 ≤ p ∧ p < N ∧ N ≤ 5000) : f_X5_distanceOf (J N) (JA D) (J p) = some (J (D p)) := by
  unfold f_X5_distanceOf
  simp (disch := omega) only [↓reduceIte, j_lits, J_add, J_sub, J_mul, J_neg, J_le, J_lt, J_eqv, J_div, J_imax, J_imin, JA_get, JG, JA_upd, LET, Option.bind_some, lt_T, lt_F, le_T, le_F, eq_T, eq_F, and_true, true_and, Int.sub_neg, Int.natCast_add, n_lits, e_isPose1]
theorem e_isFree1 (h : 0 ≤ p ∧ p < N ∧ N ≤ 5000) (hT : 0 ≤ T p ∧ T p ≤ 440) : f_X5_isFree (J N) (JA T) (J p) = some (J 1) := by
  unfold f_X5_isFree
  simp (disch := omega) only [↓reduceIte, j_lits, J_add, J_sub, J_mul, J_neg, J_le, J_lt, J_eqv, J_div, J_imax, J_imin, JA_get, JG, JA_upd, LET, Option.bind_some, lt_T, lt_F, le_T, le_F, eq_T, eq_F, and_true, true_and, Int.sub_neg, Int.natCast_add, n_lits, e_tipOf]
theorem e_isFree0 (h : 0 ≤ p ∧ p < N ∧ N ≤ 5000) (hT : T p = -1) : f_X5_isFree (J N) (JA T) (J p) = some (J 0) := by
  unfold f_X5_isFree
  simp (disch := omega) only [↓reduceIte, j_lits, J_add, J_sub, J_mul, J_neg, J_le, J_lt, J_eqv, J_div, J_imax, J_imin, JA_get, JG, JA_upd, LET, Option.bind_some, lt_T, lt_F, le_T, le_F, eq_T, eq_F, and_true, true_and, Int.sub_neg, Int.natCast_add, n_lits, e_tipOf, hT]
theorem e_reachedPose (h : 0 ≤ k ∧ k < c ∧ c ≤ 5000) : f_X5_reachedPose (J c) (JA Q) (J k) = some (J (Q k)) := by
  unfold f_X5_reachedPose
  simp (disch := omega) only [↓reduceIte, j_lits, J_add, J_sub, J_mul, J_neg, J_le, J_lt, J_eqv, J_div, J_imax, J_imin, JA_get, JG, JA_upd, LET, Option.bind_some, lt_T, lt_F, le_T, le_F, eq_T, eq_F, and_true, true_and, Int.sub_neg, Int.natCast_add, n_lits]
theorem NX_out (h : 2 * G 0 ≤ m) : NX G T p m = -1 := if_neg (by omega)
theorem NX_r (hl : WL G) (hp : 0 ≤ p ∧ p < NP G) (hm : 0 ≤ m) : NX G T p m = -1 ∨ (m < 2 * G 0 ∧ NX G T p m = BH G p m ∧ 0 ≤ BH G p m ∧ BH G p m < NP G ∧ 0 ≤ T (BH G p m)) := by
  by_cases q : m < 2 * G 0 ∧ 0 ≤ BH G p m ∧ 0 ≤ T (BH G p m)
  · exact Or.inr ⟨q.1, if_pos q, q.2.1, BH_b hl hp hm q.1 q.2.1, q.2.2⟩
  · exact Or.inl (if_neg q)
theorem e_after (hl : WL G) (hs : SPN G sp st) (hN : NP G ≤ 5000) (hT : ∀ q, 0 ≤ q → q < NP G → -1 ≤ T q ∧ T q ≤ 440) (hp : 0 ≤ p ∧ p < NP G) (hm : 0 ≤ m ∧ m < 8) : f_X5_after (J (NP G)) (J (G 0)) (JA sp) (JA st) (JA T) (J p) (J m) = some (J (NX G T p m)) := by
  have h0 := hl.1
  have h1 := nn_eq hl
  unfold f_X5_after
  refine ob (J (m / 2)) (e_jointOf (by omega)) ?_
  refine ob (J 1) (e_isPose1 (by omega)) ?_
  by_cases q : G 0 ≤ m / 2
  · rw [NX_out (by omega)]
    simp (disch := omega) only [↓reduceIte, j_lits, J_add, J_sub, J_mul, J_neg, J_le, J_lt, J_eqv, J_div, J_imax, J_imin, JA_get, JG, JA_upd, LET, Option.bind_some, lt_T, lt_F, le_T, le_F, eq_T, eq_F, and_true, true_and, Int.sub_neg, Int.natCast_add, n_lits, e_jointOf, e_isPose1]
  · have hw := PW_r hl (a := m / 2 + 1) (by omega) (nn G - 1 - (m / 2).toNat) (by omega)
    have hv := VV_b hl (k := m / 2) (by omega) (by omega)
    have h2 : p / PW G (m / 2 + 1) (nn G - 1 - (m / 2).toNat) ≤ p := Int.ediv_le_self _ hp.1
    have h3 : 0 ≤ p / PW G (m / 2 + 1) (nn G - 1 - (m / 2).toNat) := Int.ediv_nonneg hp.1 (by omega)
    have h4 := Int.emod_nonneg (p / PW G (m / 2 + 1) (nn G - 1 - (m / 2).toNat)) (b := VV G (m / 2)) (by omega)
    have h5 := Int.emod_lt_of_pos (p / PW G (m / 2 + 1) (nn G - 1 - (m / 2).toNat)) (b := VV G (m / 2)) (by omega)
    have h6 := TU_b m
    have h7 := hs (m / 2) (by omega) (by omega)
    rcases BH_two hl hp (m := m) (by omega) with ⟨c1, c2, c3, c4⟩ | ⟨c1, c2⟩
    · have h8 := hT (BH G p m) c3 c4
      by_cases q2 : T (BH G p m) < 0
      · rw [show NX G T p m = -1 from if_neg (by omega)]
        simp (disch := omega) only [↓reduceIte, j_lits, J_add, J_sub, J_mul, J_neg, J_le, J_lt, J_eqv, J_div, J_imax, J_imin, JA_get, JG, JA_upd, LET, Option.bind_some, lt_T, lt_F, le_T, le_F, eq_T, eq_F, and_true, true_and, Int.sub_neg, Int.natCast_add, n_lits, e_jointOf, e_isPose1, h7.1, h7.2, JN, J_mod, e_turnOf, ← c2]
      · rw [show NX G T p m = BH G p m from if_pos (by omega)]
        simp (disch := omega) only [↓reduceIte, j_lits, J_add, J_sub, J_mul, J_neg, J_le, J_lt, J_eqv, J_div, J_imax, J_imin, JA_get, JG, JA_upd, LET, Option.bind_some, lt_T, lt_F, le_T, le_F, eq_T, eq_F, and_true, true_and, Int.sub_neg, Int.natCast_add, n_lits, e_jointOf, e_isPose1, h7.1, h7.2, JN, J_mod, e_turnOf, ← c2]
    · rw [show NX G T p m = -1 from if_neg (by omega)]
      by_cases q2 : p / PW G (m / 2 + 1) (nn G - 1 - (m / 2).toNat) % VV G (m / 2) + TU m < 0
      · simp (disch := omega) only [↓reduceIte, j_lits, J_add, J_sub, J_mul, J_neg, J_le, J_lt, J_eqv, J_div, J_imax, J_imin, JA_get, JG, JA_upd, LET, Option.bind_some, lt_T, lt_F, le_T, le_F, eq_T, eq_F, and_true, true_and, Int.sub_neg, Int.natCast_add, n_lits, e_jointOf, e_isPose1, h7.1, h7.2, JN, J_mod, e_turnOf]
      · simp (disch := omega) only [↓reduceIte, j_lits, J_add, J_sub, J_mul, J_neg, J_le, J_lt, J_eqv, J_div, J_imax, J_imin, JA_get, JG, JA_upd, LET, Option.bind_some, lt_T, lt_F, le_T, le_F, eq_T, eq_F, and_true, true_and, Int.sub_neg, Int.natCast_add, n_lits, e_jointOf, e_isPose1, h7.1, h7.2, JN, J_mod, e_turnOf]
theorem e_isPose81 (hl : WL G) (h : 0 ≤ p ∧ p < NP G) : f_X8_isPose (JA G) (J p) = some (J 1) := by
  have hN := NP_b hl
  unfold f_X8_isPose
  simp (disch := omega) only [↓reduceIte, j_lits, J_add, J_sub, J_mul, J_neg, J_le, J_lt, J_eqv, J_div, J_imax, J_imin, JA_get, JG, JA_upd, LET, Option.bind_some, lt_T, lt_F, le_T, le_F, eq_T, eq_F, and_true, true_and, Int.sub_neg, Int.natCast_add, n_lits, e_poses8 hl, e_in1, JB1]
theorem e_isPose80 (hl : WL G) (h : (-2147483648 ≤ p ∧ p ≤ 2147483647) ∧ ¬ (0 ≤ p ∧ p < NP G)) : f_X8_isPose (JA G) (J p) = some (J 0) := by
  have hN := NP_b hl
  unfold f_X8_isPose
  simp (disch := omega) only [↓reduceIte, j_lits, J_add, J_sub, J_mul, J_neg, J_le, J_lt, J_eqv, J_div, J_imax, J_imin, JA_get, JG, JA_upd, LET, Option.bind_some, lt_T, lt_F, le_T, le_F, eq_T, eq_F, and_true, true_and, Int.sub_neg, Int.natCast_add, n_lits, e_poses8 hl, e_in0, JB0]
theorem e_isMany1 (hl : WL G) (h : 5000 < NP G) : f_X8_isMany (JA G) = some (J 1) := by
  have hN := NP_b hl
  unfold f_X8_isMany
  simp (disch := omega) only [↓reduceIte, j_lits, J_add, J_sub, J_mul, J_neg, J_le, J_lt, J_eqv, J_div, J_imax, J_imin, JA_get, JG, JA_upd, LET, Option.bind_some, lt_T, lt_F, le_T, le_F, eq_T, eq_F, and_true, true_and, Int.sub_neg, Int.natCast_add, n_lits, e_poses8 hl]
theorem e_isMany0 (hl : WL G) (h : NP G ≤ 5000) : f_X8_isMany (JA G) = some (J 0) := by
  have hN := NP_b hl
  unfold f_X8_isMany
  simp (disch := omega) only [↓reduceIte, j_lits, J_add, J_sub, J_mul, J_neg, J_le, J_lt, J_eqv, J_div, J_imax, J_imin, JA_get, JG, JA_upd, LET, Option.bind_some, lt_T, lt_F, le_T, le_F, eq_T, eq_F, and_true, true_and, Int.sub_neg, Int.natCast_add, n_lits, e_poses8 hl]
end
