/-! numbers of poses, as both sides count them -/
def RB (G lo hi : Int → Int) : Prop := ∀ k : Int, 0 ≤ k → k < G 0 → lo k = -G (2 + 4 * k) ∧ hi k = G (3 + 4 * k)
def SPN (G sp st : Int → Int) : Prop := ∀ k : Int, 0 ≤ k → k < G 0 → sp k = VV G k ∧ st k = PW G (k + 1) (nn G - 1 - k.toNat)
def NX (G T : Int → Int) (p m : Int) : Int := if m < 2 * G 0 ∧ 0 ≤ BH G p m ∧ 0 ≤ T (BH G p m) then BH G p m else -1
def NP (G : Int → Int) : Int := PW G 0 (nn G)
section
variable {G lo hi vl F sp st T : Int → Int} {k p m x : Int}
theorem PW0s (G : Int → Int) (k : Nat) : PW G 0 (k + 1) = PW G 0 k * VV G k := by
  show PW G 0 k * VV G (0 + k) = _
  rw [Int.zero_add]
theorem HNs (G v : Int → Int) (k : Nat) : HN G v (k + 1) = HN G v k * VV G k + v k + G (2 + 4 * k) := rfl
theorem NP_b (hl : WL G) : 1 ≤ NP G ∧ NP G ≤ 83521 := by
  have := nn_eq hl
  exact PW_r hl (Int.le_refl 0) (nn G) (by omega)
theorem e_span (hl : WL G) (hb : RB G lo hi) (hk : 0 ≤ k ∧ k < G 0) : f_X4_span (J (G 0)) (JA lo) (JA hi) (J k) = some (J (VV G k)) := by
  have h0 := hl.1
  have h1 := hb k hk.1 hk.2
  have h2 := hl.2 k hk.1 hk.2
  unfold f_X4_span
  simp (disch := omega) only [↓reduceIte, j_lits, J_add, J_sub, J_mul, J_neg, J_le, J_lt, J_eqv, J_div, J_imax, J_imin, JA_get, JG, JA_upd, LET, Option.bind_some, lt_T, lt_F, le_T, le_F, eq_T, eq_F, and_true, true_and, Int.sub_neg, Int.natCast_add, n_lits, e_hasLink1, h1.1, h1.2]
  exact congrArg some (congrArg J (by unfold VV; omega))
theorem e_poses4 (hl : WL G) (hb : RB G lo hi) : f_X4_poses (J (G 0)) (JA lo) (JA hi) = some (J (NP G)) := by
  have h0 := hl.1
  have h1 := nn_eq hl
  unfold f_X4_poses
  refine lp_bind (fun k : Nat => (J (PW G 0 k), J k)) (nn G) rfl (by omega) (fun k hk => ?_) ?_ rfl
  · unfold f_X4_poses_B4
    simp (disch := omega) only [↓reduceIte, j_lits, J_add, J_sub, J_mul, J_neg, J_le, J_lt, J_eqv, J_div, J_imax, J_imin, JA_get, JG, JA_upd, LET, Option.bind_some, lt_T, lt_F, le_T, le_F, eq_T, eq_F, and_true, true_and, Int.sub_neg, Int.natCast_add, n_lits, e_span hl hb, PW0s]
  · unfold f_X4_poses_B4
    simp (disch := omega) only [↓reduceIte, j_lits, J_add, J_sub, J_mul, J_neg, J_le, J_lt, J_eqv, J_div, J_imax, J_imin, JA_get, JG, JA_upd, LET, Option.bind_some, lt_T, lt_F, le_T, le_F, eq_T, eq_F, and_true, true_and, Int.sub_neg, Int.natCast_add, n_lits]
    rfl
theorem e_poses8 (hl : WL G) : f_X8_poses (JA G) = some (J (NP G)) := by
  have h0 := hl.1
  have h1 := nn_eq hl
  unfold f_X8_poses
  refine lp_bind (fun k : Nat => (J (PW G 0 k), J k)) (nn G) rfl (by omega) (fun k hk => ?_) ?_ rfl
  · unfold f_X8_poses_B4
    simp (disch := omega) only [↓reduceIte, j_lits, J_add, J_sub, J_mul, J_neg, J_le, J_lt, J_eqv, J_div, J_imax, J_imin, JA_get, JG, JA_upd, LET, Option.bind_some, lt_T, lt_F, le_T, le_F, eq_T, eq_F, and_true, true_and, Int.sub_neg, Int.natCast_add, n_lits, e_values, PW0s]
  · unfold f_X8_poses_B4
    simp (disch := omega) only [↓reduceIte, j_lits, J_add, J_sub, J_mul, J_neg, J_le, J_lt, J_eqv, J_div, J_imax, J_imin, JA_get, JG, JA_upd, LET, Option.bind_some, lt_T, lt_F, le_T, le_F, eq_T, eq_F, and_true, true_and, Int.sub_neg, Int.natCast_add, n_lits]
    rfl
theorem e_numberOf_row (hl : WL G) (hb : RB G lo hi) : f_X4_numberOf_row (J (G 0)) (JA lo) (JA hi) (JA F) = some (J (HN G F (nn G))) := by
  have h0 := hl.1
  have h1 := nn_eq hl
  unfold f_X4_numberOf_row
  refine lp_bind (fun k : Nat => (J (HN G F k), J k)) (nn G) rfl (by omega) (fun k hk => ?_) ?_ rfl
  · have h2 := hb k (by omega) (by omega)
    unfold f_X4_numberOf_row_B4
    simp (disch := omega) only [↓reduceIte, j_lits, J_add, J_sub, J_mul, J_neg, J_le, J_lt, J_eqv, J_div, J_imax, J_imin, JA_get, JG, JA_upd, LET, Option.bind_some, lt_T, lt_F, le_T, le_F, eq_T, eq_F, and_true, true_and, Int.sub_neg, Int.natCast_add, n_lits, e_span hl hb, HNs, h2.1]
  · unfold f_X4_numberOf_row_B4
    simp (disch := omega) only [↓reduceIte, j_lits, J_add, J_sub, J_mul, J_neg, J_le, J_lt, J_eqv, J_div, J_imax, J_imin, JA_get, JG, JA_upd, LET, Option.bind_some, lt_T, lt_F, le_T, le_F, eq_T, eq_F, and_true, true_and, Int.sub_neg, Int.natCast_add, n_lits]
theorem e_numberOf_own (hl : WL G) (hb : RB G lo hi) : f_X4_numberOf_own (J (G 0)) (JA lo) (JA hi) (JA F) = some (J (HN G F (nn G))) := by
  have h0 := hl.1
  have h1 := nn_eq hl
  unfold f_X4_numberOf_own
  refine lp_bind (fun k : Nat => (J (HN G F k), J k)) (nn G) rfl (by omega) (fun k hk => ?_) ?_ rfl
  · have h2 := hb k (by omega) (by omega)
    unfold f_X4_numberOf_own_B4
    simp (disch := omega) only [↓reduceIte, j_lits, J_add, J_sub, J_mul, J_neg, J_le, J_lt, J_eqv, J_div, J_imax, J_imin, JA_get, JG, JA_upd, LET, Option.bind_some, lt_T, lt_F, le_T, le_F, eq_T, eq_F, and_true, true_and, Int.sub_neg, Int.natCast_add, n_lits, e_span hl hb, HNs, h2.1]
  · unfold f_X4_numberOf_own_B4
    simp (disch := omega) only [↓reduceIte, j_lits, J_add, J_sub, J_mul, J_neg, J_le, J_lt, J_eqv, J_div, J_imax, J_imin, JA_get, JG, JA_upd, LET, Option.bind_some, lt_T, lt_F, le_T, le_F, eq_T, eq_F, and_true, true_and, Int.sub_neg, Int.natCast_add, n_lits]
def GV (G : Int → Int) : Int → Int := fun k => G (4 + 4 * k)
theorem e_numberNow (hl : WL G) : f_X8_numberNow (JA G) = some (J (HN G (GV G) (nn G))) := by
  have h0 := hl.1
  have h1 := nn_eq hl
  unfold f_X8_numberNow
  refine lp_bind (fun k : Nat => (J (HN G (GV G) k), J k)) (nn G) rfl (by omega) (fun k hk => ?_) ?_ rfl
  · unfold f_X8_numberNow_B4
    simp (disch := omega) only [↓reduceIte, j_lits, J_add, J_sub, J_mul, J_neg, J_le, J_lt, J_eqv, J_div, J_imax, J_imin, JA_get, JG, JA_upd, LET, Option.bind_some, lt_T, lt_F, le_T, le_F, eq_T, eq_F, and_true, true_and, Int.sub_neg, Int.natCast_add, n_lits, e_values, e_down, HNs, GV]
  · unfold f_X8_numberNow_B4
    simp (disch := omega) only [↓reduceIte, j_lits, J_add, J_sub, J_mul, J_neg, J_le, J_lt, J_eqv, J_div, J_imax, J_imin, JA_get, JG, JA_upd, LET, Option.bind_some, lt_T, lt_F, le_T, le_F, eq_T, eq_F, and_true, true_and, Int.sub_neg, Int.natCast_add, n_lits]
theorem DV_i (G : Int → Int) (p : Int) {i : Nat} (hi : i < nn G) : DV G p ((nn G : Int) - 1 - i) = LD G (nn G) p i % VV G ((nn G : Int) - 1 - i) - G (2 + 4 * ((nn G : Int) - 1 - i)) := by
  unfold DV
  rw [show nn G - 1 - ((nn G : Int) - 1 - i).toNat = i by omega]
def PSi (G : Int → Int) (p : Int) (F : Int → Int) (i : Nat) : Int → Int := fun j => if (nn G : Int) - i ≤ j ∧ j < nn G then DV G p j else F j
theorem PSi_0 (G : Int → Int) (p : Int) (F : Int → Int) : PSi G p F 0 = F := by
  funext j
  exact if_neg (by omega)
theorem PSi_s (G : Int → Int) (p : Int) (F : Int → Int) {i : Nat} (hi : i < nn G) : up (PSi G p F i) ((nn G : Int) - 1 - i) (DV G p ((nn G : Int) - 1 - i)) = PSi G p F (i + 1) := by
  funext j
  by_cases q : j = (nn G : Int) - 1 - i
  · rw [q, up_same]
    exact (if_pos (by omega)).symm
  · rw [up_ne _ _ q]
    unfold PSi
    by_cases q2 : (nn G : Int) - i ≤ j ∧ j < nn G
    · rw [if_pos q2, if_pos (by omega)]
    · rw [if_neg q2, if_neg (by omega)]
theorem PSi_n (hl : WL G) (p : Int) (F : Int → Int) : PSi G p F (nn G) = PS G p F := by
  have h1 := nn_eq hl
  funext j
  unfold PSi PS
  by_cases q2 : 0 ≤ j ∧ j < G 0
  · rw [if_pos q2, if_pos (by omega)]
  · rw [if_neg q2, if_neg (by omega)]
theorem LDs (G : Int → Int) (n : Nat) (p : Int) (i : Nat) : LD G n p (i + 1) = LD G n p i / VV G ((n : Int) - 1 - i) := rfl
theorem e_readPose (hl : WL G) (hb : RB G lo hi) (hp : 0 ≤ p ∧ p < NP G) : f_X4_readPose (J (G 0)) (JA lo) (JA hi) (JA F) (J p) = some (JA (PS G p F)) := by
  have h0 := hl.1
  have h1 := nn_eq hl
  have hN := NP_b hl
  unfold f_X4_readPose
  simp (disch := omega) only [↓reduceIte, j_lits, J_add, J_sub, J_mul, J_neg, J_le, J_lt, J_eqv, J_div, J_imax, J_imin, JA_get, JG, JA_upd, LET, Option.bind_some, lt_T, lt_F, le_T, le_F, eq_T, eq_F, and_true, true_and, Int.sub_neg, Int.natCast_add, n_lits]
  refine lp_bind (fun i : Nat => (JA (PSi G p F i), J (LD G (nn G) p i), J ((nn G : Int) - 1 - i))) (nn G) ?_ (by omega) (fun i hi => ?_) (e := JA (PS G p F)) ?_ rfl
  · rw [PSi_0]
    exact pr2 rfl (pr2 rfl (congrArg J (by omega)))
  · have h2 := hb ((nn G : Int) - 1 - i) (by omega) (by omega)
    have h3 := LD_b hl hp i (by omega)
    have h5 := VV_b hl (k := (nn G : Int) - 1 - i) (by omega) (by omega)
    have h6 := PW_r hl (Int.le_refl 0) (nn G - i) (by omega)
    have h4 : lo ((nn G : Int) - 1 - i) + LD G (nn G) p i % VV G ((nn G : Int) - 1 - i) = DV G p ((nn G : Int) - 1 - i) := by
      rw [DV_i G p hi, h2.1]; omega
    unfold f_X4_readPose_B14
    simp (disch := omega) only [↓reduceIte, j_lits, J_add, J_sub, J_mul, J_neg, J_le, J_lt, J_eqv, J_div, J_imax, J_imin, JA_get, JG, JA_upd, LET, Option.bind_some, lt_T, lt_F, le_T, le_F, eq_T, eq_F, and_true, true_and, Int.sub_neg, Int.natCast_add, n_lits, e_span hl hb, JN, J_mod, h4, PSi_s, LDs]
    exact congrArg some (congrArg Sum.inl (pr2 rfl (pr2 rfl (congrArg J (by omega)))))
  · unfold f_X4_readPose_B14
    simp (disch := omega) only [↓reduceIte, j_lits, J_add, J_sub, J_mul, J_neg, J_le, J_lt, J_eqv, J_div, J_imax, J_imin, JA_get, JG, JA_upd, LET, Option.bind_some, lt_T, lt_F, le_T, le_F, eq_T, eq_F, and_true, true_and, Int.sub_neg, Int.natCast_add, n_lits, PSi_n hl]
theorem e_weight (hl : WL G) (hk : 0 ≤ k ∧ k < G 0) : f_X8_weight (JA G) (J k) = some (J (PW G (k + 1) (nn G - 1 - k.toNat))) := by
  have h0 := hl.1
  have h1 := nn_eq hl
  unfold f_X8_weight
  simp (disch := omega) only [↓reduceIte, j_lits, J_add, J_sub, J_mul, J_neg, J_le, J_lt, J_eqv, J_div, J_imax, J_imin, JA_get, JG, JA_upd, LET, Option.bind_some, lt_T, lt_F, le_T, le_F, eq_T, eq_F, and_true, true_and, Int.sub_neg, Int.natCast_add, n_lits]
  refine lp_bind (fun i : Nat => (J (PW G (k + 1) i), J (k + 1 + i))) (nn G - 1 - k.toNat) ?_ (by omega) (fun i hi => ?_) (e := J (PW G (k + 1) (nn G - 1 - k.toNat))) ?_ rfl
  · exact pr2 rfl (congrArg J (by omega))
  · unfold f_X8_weight_B6
    simp (disch := omega) only [↓reduceIte, j_lits, J_add, J_sub, J_mul, J_neg, J_le, J_lt, J_eqv, J_div, J_imax, J_imin, JA_get, JG, JA_upd, LET, Option.bind_some, lt_T, lt_F, le_T, le_F, eq_T, eq_F, and_true, true_and, Int.sub_neg, Int.natCast_add, n_lits, e_values]
    exact congrArg some (congrArg Sum.inl (pr2 rfl (congrArg J (by omega))))
  · unfold f_X8_weight_B6
    simp (disch := omega) only [↓reduceIte, j_lits, J_add, J_sub, J_mul, J_neg, J_le, J_lt, J_eqv, J_div, J_imax, J_imin, JA_get, JG, JA_upd, LET, Option.bind_some, lt_T, lt_F, le_T, le_F, eq_T, eq_F, and_true, true_and, Int.sub_neg, Int.natCast_add, n_lits]
theorem e_behind (hl : WL G) (hp : 0 ≤ p ∧ p < NP G) (hm : 0 ≤ m ∧ m < 2 * G 0) : f_X8_behind (JA G) (J p) (J m) = some (J (BH G p m)) := by
  have h0 := hl.1
  have h1 := nn_eq hl
  have hN := NP_b hl
  have hw := PW_r hl (a := m / 2 + 1) (by omega) (nn G - 1 - (m / 2).toNat) (by omega)
  have hv := VV_b hl (k := m / 2) (by omega) (by omega)
  have h2 : p / PW G (m / 2 + 1) (nn G - 1 - (m / 2).toNat) ≤ p := Int.ediv_le_self _ hp.1
  have h3 : 0 ≤ p / PW G (m / 2 + 1) (nn G - 1 - (m / 2).toNat) := Int.ediv_nonneg hp.1 (by omega)
  have h4 := Int.emod_nonneg (p / PW G (m / 2 + 1) (nn G - 1 - (m / 2).toNat)) (b := VV G (m / 2)) (by omega)
  have h5 := Int.emod_lt_of_pos (p / PW G (m / 2 + 1) (nn G - 1 - (m / 2).toNat)) (b := VV G (m / 2)) (by omega)
  have h6 := TU_b m
  unfold f_X8_behind BH
  by_cases q : m % 2 = 0
  · by_cases q2 : p / PW G (m / 2 + 1) (nn G - 1 - (m / 2).toNat) % VV G (m / 2) = 0
    · simp (disch := omega) only [↓reduceIte, j_lits, J_add, J_sub, J_mul, J_neg, J_le, J_lt, J_eqv, J_div, J_imax, J_imin, JA_get, JG, JA_upd, LET, Option.bind_some, lt_T, lt_F, le_T, le_F, eq_T, eq_F, and_true, true_and, Int.sub_neg, Int.natCast_add, n_lits, e_weight hl, e_values, JN, J_mod, f_X8_behind_L40, e_in0]
    · simp (disch := omega) only [↓reduceIte, j_lits, J_add, J_sub, J_mul, J_neg, J_le, J_lt, J_eqv, J_div, J_imax, J_imin, JA_get, JG, JA_upd, LET, Option.bind_some, lt_T, lt_F, le_T, le_F, eq_T, eq_F, and_true, true_and, Int.sub_neg, Int.natCast_add, n_lits, e_weight hl, e_values, JN, J_mod, f_X8_behind_L40, e_in1]
      rw [show ∀ a : Int, a - 1 - a = -1 from fun a => by omega]
  · by_cases q2 : p / PW G (m / 2 + 1) (nn G - 1 - (m / 2).toNat) % VV G (m / 2) = VV G (m / 2) - 1
    · simp (disch := omega) only [↓reduceIte, j_lits, J_add, J_sub, J_mul, J_neg, J_le, J_lt, J_eqv, J_div, J_imax, J_imin, JA_get, JG, JA_upd, LET, Option.bind_some, lt_T, lt_F, le_T, le_F, eq_T, eq_F, and_true, true_and, Int.sub_neg, Int.natCast_add, n_lits, e_weight hl, e_values, JN, J_mod, f_X8_behind_L40, e_in0]
    · simp (disch := omega) only [↓reduceIte, j_lits, J_add, J_sub, J_mul, J_neg, J_le, J_lt, J_eqv, J_div, J_imax, J_imin, JA_get, JG, JA_upd, LET, Option.bind_some, lt_T, lt_F, le_T, le_F, eq_T, eq_F, and_true, true_and, Int.sub_neg, Int.natCast_add, n_lits, e_weight hl, e_values, JN, J_mod, f_X8_behind_L40, e_in1]
      rw [show ∀ a : Int, a + 1 - a = 1 from fun a => by omega]
end
