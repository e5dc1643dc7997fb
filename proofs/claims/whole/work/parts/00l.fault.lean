/-! the reference's faults of a laid pose -/
section
variable {G v way px py : Int → Int} {k a : Nat} {i x y : Int}
theorem e_cellX8 (hl : WL G) (hv : LAID G v way px py) (hk : (k : Int) < G 0) (i : Int) : f_X8_cellX (JA way) (JA px) (J k) (J i) = some (J (CX G v k i)) := by
  have h0 := hl.1
  have h1 := hv.1 k hk
  have h2 := hv.2 k (by omega)
  have h3 := WY_b v k
  unfold f_X8_cellX
  simp (disch := omega) only [↓reduceIte, j_lits, J_add, J_sub, J_mul, J_neg, J_le, J_lt, J_eqv, J_div, J_imax, J_imin, JA_get, JG, JA_upd, LET, Option.bind_some, lt_T, lt_F, le_T, le_F, eq_T, eq_F, and_true, true_and, Int.sub_neg, Int.natCast_add, n_lits, h1, h2.1, e_stepX8]
  rfl
theorem e_cellY8 (hl : WL G) (hv : LAID G v way px py) (hk : (k : Int) < G 0) (i : Int) : f_X8_cellY (JA way) (JA py) (J k) (J i) = some (J (CY G v k i)) := by
  have h0 := hl.1
  have h1 := hv.1 k hk
  have h2 := hv.2 k (by omega)
  have h3 := WY_b v k
  unfold f_X8_cellY
  simp (disch := omega) only [↓reduceIte, j_lits, J_add, J_sub, J_mul, J_neg, J_le, J_lt, J_eqv, J_div, J_imax, J_imin, JA_get, JG, JA_upd, LET, Option.bind_some, lt_T, lt_F, le_T, le_F, eq_T, eq_F, and_true, true_and, Int.sub_neg, Int.natCast_add, n_lits, h1, h2.2, e_stepY8]
  rfl
theorem e_isOut1 (hl : WL G) (hv : LAID G v way px py) (hk : (k : Int) < G 0) (q : OUT G v k) : f_X8_isOut (JA px) (JA py) (J k) = some (J 1) := by
  have h0 := hl.1
  have h2 := hv.2 k (by omega)
  have h3 := hv.2 (k + 1) (by omega)
  have h4 := PX_b hl v k (by omega)
  have h5 := PX_b hl v (k + 1) (by omega)
  have h3 : px ((k : Int) + 1) = PX G v (k + 1) ∧ py ((k : Int) + 1) = PY G v (k + 1) := h3
  unfold f_X8_isOut
  by_cases z : (-10 ≤ PX G v k ∧ PX G v k ≤ 10) ∧ -10 ≤ PY G v k ∧ PY G v k ≤ 10
  · have q2 := q.resolve_left (fun w => w z)
    simp (disch := omega) only [↓reduceIte, j_lits, J_add, J_sub, J_mul, J_neg, J_le, J_lt, J_eqv, J_div, J_imax, J_imin, JA_get, JG, JA_upd, LET, Option.bind_some, lt_T, lt_F, le_T, le_F, eq_T, eq_F, and_true, true_and, Int.sub_neg, Int.natCast_add, n_lits, h2.1, h2.2, h3.1, h3.2, e_isCell1, e_isCell0]
  · simp (disch := omega) only [↓reduceIte, j_lits, J_add, J_sub, J_mul, J_neg, J_le, J_lt, J_eqv, J_div, J_imax, J_imin, JA_get, JG, JA_upd, LET, Option.bind_some, lt_T, lt_F, le_T, le_F, eq_T, eq_F, and_true, true_and, Int.sub_neg, Int.natCast_add, n_lits, h2.1, h2.2, h3.1, h3.2, e_isCell0]
theorem e_isOut0 (hl : WL G) (hv : LAID G v way px py) (hk : (k : Int) < G 0) (q : ¬ OUT G v k) : f_X8_isOut (JA px) (JA py) (J k) = some (J 0) := by
  have h0 := hl.1
  have h2 := hv.2 k (by omega)
  have h3 := hv.2 (k + 1) (by omega)
  have h3 : px ((k : Int) + 1) = PX G v (k + 1) ∧ py ((k : Int) + 1) = PY G v (k + 1) := h3
  have q1 : (-10 ≤ PX G v k ∧ PX G v k ≤ 10) ∧ -10 ≤ PY G v k ∧ PY G v k ≤ 10 := Classical.byContradiction fun z => q (Or.inl z)
  have q2 : (-10 ≤ PX G v (k + 1) ∧ PX G v (k + 1) ≤ 10) ∧ -10 ≤ PY G v (k + 1) ∧ PY G v (k + 1) ≤ 10 := Classical.byContradiction fun z => q (Or.inr z)
  unfold f_X8_isOut
  simp (disch := omega) only [↓reduceIte, j_lits, J_add, J_sub, J_mul, J_neg, J_le, J_lt, J_eqv, J_div, J_imax, J_imin, JA_get, JG, JA_upd, LET, Option.bind_some, lt_T, lt_F, le_T, le_F, eq_T, eq_F, and_true, true_and, Int.sub_neg, Int.natCast_add, n_lits, h2.1, h2.2, h3.1, h3.2, e_isCell1]
/-! a look along a link: the first place with a property, or none -/
theorem first_of {P : Int → Prop} {n : Int} (h : ∃ i : Int, (0 ≤ i ∧ i ≤ n) ∧ P i) : ∃ m : Nat, (m : Int) ≤ n ∧ P m ∧ ∀ j : Nat, j < m → ¬ P j := by
  obtain ⟨i, h1, h2⟩ := h
  have key : ∀ c : Nat, ∀ i : Int, 0 ≤ i → i ≤ n → i.toNat < c → P i → ∃ m : Nat, (m : Int) ≤ n ∧ P m ∧ ∀ j : Nat, j < m → ¬ P j := by
    intro c
    induction c with
    | zero => intro i _ _ h; omega
    | succ c ih =>
      intro i a b h p
      by_cases q : ∃ j : Nat, j < i.toNat ∧ P j
      · obtain ⟨j, q1, q2⟩ := q
        exact ih j (by omega) (by omega) (by omega) q2
      · refine ⟨i.toNat, by omega, ?_, fun j hj z => q ⟨j, hj, z⟩⟩
        rw [Int.toNat_of_nonneg a]
        exact p
  exact key (i.toNat + 1) i h1.1 h1.2 (by omega) h2
theorem e_hits1 (hl : WL G) (hs : WS G) (hv : LAID G v way px py) (hk : (k : Int) < G 0) (q : HIT G v k) : f_X8_hits (JA G) (JA way) (JA px) (JA py) (J k) = some (J 1) := by
  have h0 := hl.1
  have hL := hl.2 k (by omega) hk
  obtain ⟨m, hm, hp, hn⟩ := first_of q
  unfold f_X8_hits
  refine lp_bind (fun j : Nat => J j) m rfl (by omega) (fun j hj => ?_) (e := .inl ()) ?_ rfl
  · have hr := CX_r hl v hk (i := j) (by omega)
    unfold f_X8_hits_B2
    refine ob _ (e_lengthOf (k := k) (by omega)) ?_
    simp (disch := omega) only [↓reduceIte, j_lits, J_add, J_sub, J_mul, J_neg, J_le, J_lt, J_eqv, J_div, J_imax, J_imin, JA_get, JG, JA_upd, LET, Option.bind_some, lt_T, lt_F, le_T, le_F, eq_T, eq_F, and_true, true_and, Int.sub_neg, Int.natCast_add, n_lits, e_cellX8 hl hv hk, e_cellY8 hl hv hk, e_stoneAt_no hs (x := CX G v k j) (y := CY G v k j) (by omega) (hn j hj)]
  · obtain ⟨r, h3⟩ := hp
    have h4 := hs.1
    unfold f_X8_hits_B2
    refine ob _ (e_lengthOf (k := k) (by omega)) ?_
    simp (disch := omega) only [↓reduceIte, j_lits, J_add, J_sub, J_mul, J_neg, J_le, J_lt, J_eqv, J_div, J_imax, J_imin, JA_get, JG, JA_upd, LET, Option.bind_some, lt_T, lt_F, le_T, le_F, eq_T, eq_F, and_true, true_and, Int.sub_neg, Int.natCast_add, n_lits, e_cellX8 hl hv hk, e_cellY8 hl hv hk, e_stoneAt_yes hs h3]
theorem e_hits0 (hl : WL G) (hs : WS G) (hv : LAID G v way px py) (hk : (k : Int) < G 0) (q : ¬ HIT G v k) : f_X8_hits (JA G) (JA way) (JA px) (JA py) (J k) = some (J 0) := by
  have h0 := hl.1
  have hL := hl.2 k (by omega) hk
  unfold f_X8_hits
  refine lp_bind (fun j : Nat => J j) (G (1 + 4 * k) + 1).toNat rfl (by omega) (fun j hj => ?_) (e := .inr ()) ?_ rfl
  · have hr := CX_r hl v hk (i := j) (by omega)
    have hn : ¬ OS G (CX G v k j) (CY G v k j) := fun z => q ⟨j, by omega, z⟩
    unfold f_X8_hits_B2
    refine ob _ (e_lengthOf (k := k) (by omega)) ?_
    simp (disch := omega) only [↓reduceIte, j_lits, J_add, J_sub, J_mul, J_neg, J_le, J_lt, J_eqv, J_div, J_imax, J_imin, JA_get, JG, JA_upd, LET, Option.bind_some, lt_T, lt_F, le_T, le_F, eq_T, eq_F, and_true, true_and, Int.sub_neg, Int.natCast_add, n_lits, e_cellX8 hl hv hk, e_cellY8 hl hv hk, e_stoneAt_no hs (x := CX G v k j) (y := CY G v k j) (by omega) hn]
  · unfold f_X8_hits_B2
    refine ob _ (e_lengthOf (k := k) (by omega)) ?_
    simp (disch := omega) only [↓reduceIte, j_lits, J_add, J_sub, J_mul, J_neg, J_le, J_lt, J_eqv, J_div, J_imax, J_imin, JA_get, JG, JA_upd, LET, Option.bind_some, lt_T, lt_F, le_T, le_F, eq_T, eq_F, and_true, true_and, Int.sub_neg, Int.natCast_add, n_lits]
theorem e_has1 (hl : WL G) (hv : LAID G v way px py) (hk : (k : Int) < G 0) (hx : (-2147483648 ≤ x ∧ x ≤ 2147483647) ∧ (-2147483648 ≤ y ∧ y ≤ 2147483647)) (q : HAS G v k x y) : f_X8_has (JA G) (JA way) (JA px) (JA py) (J k) (J x) (J y) = some (J 1) := by
  have h0 := hl.1
  have hL := hl.2 k (by omega) hk
  obtain ⟨m, hm, hp, hn⟩ := first_of q
  unfold f_X8_has
  refine lp_bind (fun j : Nat => J j) m rfl (by omega) (fun j hj => ?_) (e := .inl ()) ?_ rfl
  · have hr := CX_r hl v hk (i := j) (by omega)
    have hn := hn j hj
    unfold f_X8_has_B3
    refine ob _ (e_lengthOf (k := k) (by omega)) ?_
    by_cases z : CX G v k j = x
    · have z2 : ¬ CY G v k j = y := fun w => hn ⟨z, w⟩
      simp (disch := omega) only [↓reduceIte, j_lits, J_add, J_sub, J_mul, J_neg, J_le, J_lt, J_eqv, J_div, J_imax, J_imin, JA_get, JG, JA_upd, LET, Option.bind_some, lt_T, lt_F, le_T, le_F, eq_T, eq_F, and_true, true_and, Int.sub_neg, Int.natCast_add, n_lits, e_cellX8 hl hv hk, e_cellY8 hl hv hk]
    · simp (disch := omega) only [↓reduceIte, j_lits, J_add, J_sub, J_mul, J_neg, J_le, J_lt, J_eqv, J_div, J_imax, J_imin, JA_get, JG, JA_upd, LET, Option.bind_some, lt_T, lt_F, le_T, le_F, eq_T, eq_F, and_true, true_and, Int.sub_neg, Int.natCast_add, n_lits, e_cellX8 hl hv hk, e_cellY8 hl hv hk]
  · have hr := CX_r hl v hk (i := m) (by omega)
    unfold f_X8_has_B3
    refine ob _ (e_lengthOf (k := k) (by omega)) ?_
    simp (disch := omega) only [↓reduceIte, j_lits, J_add, J_sub, J_mul, J_neg, J_le, J_lt, J_eqv, J_div, J_imax, J_imin, JA_get, JG, JA_upd, LET, Option.bind_some, lt_T, lt_F, le_T, le_F, eq_T, eq_F, and_true, true_and, Int.sub_neg, Int.natCast_add, n_lits, e_cellX8 hl hv hk, e_cellY8 hl hv hk]
theorem e_has0 (hl : WL G) (hv : LAID G v way px py) (hk : (k : Int) < G 0) (hx : (-2147483648 ≤ x ∧ x ≤ 2147483647) ∧ (-2147483648 ≤ y ∧ y ≤ 2147483647)) (q : ¬ HAS G v k x y) : f_X8_has (JA G) (JA way) (JA px) (JA py) (J k) (J x) (J y) = some (J 0) := by
  have h0 := hl.1
  have hL := hl.2 k (by omega) hk
  unfold f_X8_has
  refine lp_bind (fun j : Nat => J j) (G (1 + 4 * k) + 1).toNat rfl (by omega) (fun j hj => ?_) (e := .inr ()) ?_ rfl
  · have hr := CX_r hl v hk (i := j) (by omega)
    have hn : ¬ (CX G v k j = x ∧ CY G v k j = y) := fun z => q ⟨j, by omega, z⟩
    unfold f_X8_has_B3
    refine ob _ (e_lengthOf (k := k) (by omega)) ?_
    by_cases z : CX G v k j = x
    · have z2 : ¬ CY G v k j = y := fun w => hn ⟨z, w⟩
      simp (disch := omega) only [↓reduceIte, j_lits, J_add, J_sub, J_mul, J_neg, J_le, J_lt, J_eqv, J_div, J_imax, J_imin, JA_get, JG, JA_upd, LET, Option.bind_some, lt_T, lt_F, le_T, le_F, eq_T, eq_F, and_true, true_and, Int.sub_neg, Int.natCast_add, n_lits, e_cellX8 hl hv hk, e_cellY8 hl hv hk]
    · simp (disch := omega) only [↓reduceIte, j_lits, J_add, J_sub, J_mul, J_neg, J_le, J_lt, J_eqv, J_div, J_imax, J_imin, JA_get, JG, JA_upd, LET, Option.bind_some, lt_T, lt_F, le_T, le_F, eq_T, eq_F, and_true, true_and, Int.sub_neg, Int.natCast_add, n_lits, e_cellX8 hl hv hk, e_cellY8 hl hv hk]
  · unfold f_X8_has_B3
    refine ob _ (e_lengthOf (k := k) (by omega)) ?_
    simp (disch := omega) only [↓reduceIte, j_lits, J_add, J_sub, J_mul, J_neg, J_le, J_lt, J_eqv, J_div, J_imax, J_imin, JA_get, JG, JA_upd, LET, Option.bind_some, lt_T, lt_F, le_T, le_F, eq_T, eq_F, and_true, true_and, Int.sub_neg, Int.natCast_add, n_lits]
theorem e_isJointOf1 (hl : WL G) (hv : LAID G v way px py) (hk : (k : Int) < G 0) (hx : (-2147483648 ≤ x ∧ x ≤ 2147483647) ∧ (-2147483648 ≤ y ∧ y ≤ 2147483647)) (q : k = a + 1 ∧ PX G v k = x ∧ PY G v k = y) : f_X8_isJointOf (JA px) (JA py) (J a) (J k) (J x) (J y) = some (J 1) := by
  have h0 := hl.1
  have h2 := hv.2 k (by omega)
  unfold f_X8_isJointOf
  simp (disch := omega) only [↓reduceIte, j_lits, J_add, J_sub, J_mul, J_neg, J_le, J_lt, J_eqv, J_div, J_imax, J_imin, JA_get, JG, JA_upd, LET, Option.bind_some, lt_T, lt_F, le_T, le_F, eq_T, eq_F, and_true, true_and, Int.sub_neg, Int.natCast_add, n_lits, h2.1, h2.2]
theorem e_isJointOf0 (hl : WL G) (hv : LAID G v way px py) (hk : (k : Int) < G 0) (ha : (a : Int) < G 0) (hx : (-2147483648 ≤ x ∧ x ≤ 2147483647) ∧ (-2147483648 ≤ y ∧ y ≤ 2147483647)) (q : ¬ (k = a + 1 ∧ PX G v k = x ∧ PY G v k = y)) : f_X8_isJointOf (JA px) (JA py) (J a) (J k) (J x) (J y) = some (J 0) := by
  have h0 := hl.1
  have h2 := hv.2 k (by omega)
  have h4 := PX_b hl v k (by omega)
  unfold f_X8_isJointOf
  by_cases z1 : k = a + 1
  · have z1' : (k : Int) = (a : Int) + 1 := by omega
    by_cases z2 : PX G v k = x
    · have z3 : ¬ PY G v k = y := fun w => q ⟨z1, z2, w⟩
      simp (disch := omega) only [↓reduceIte, j_lits, J_add, J_sub, J_mul, J_neg, J_le, J_lt, J_eqv, J_div, J_imax, J_imin, JA_get, JG, JA_upd, LET, Option.bind_some, lt_T, lt_F, le_T, le_F, eq_T, eq_F, and_true, true_and, Int.sub_neg, Int.natCast_add, n_lits, h2.1, h2.2]
    · simp (disch := omega) only [↓reduceIte, j_lits, J_add, J_sub, J_mul, J_neg, J_le, J_lt, J_eqv, J_div, J_imax, J_imin, JA_get, JG, JA_upd, LET, Option.bind_some, lt_T, lt_F, le_T, le_F, eq_T, eq_F, and_true, true_and, Int.sub_neg, Int.natCast_add, n_lits, h2.1, h2.2]
  · simp (disch := omega) only [↓reduceIte, j_lits, J_add, J_sub, J_mul, J_neg, J_le, J_lt, J_eqv, J_div, J_imax, J_imin, JA_get, JG, JA_upd, LET, Option.bind_some, lt_T, lt_F, le_T, le_F, eq_T, eq_F, and_true, true_and, Int.sub_neg, Int.natCast_add, n_lits, h2.1, h2.2]
theorem e_crossA1 (hl : WL G) (hv : LAID G v way px py) (hk : (k : Int) < G 0) (ha : a < k) (q : CRA G v k a) : LPF (fun z => f_X8_crosses_B9 (JA G) (JA way) (JA px) (JA py) (J k) (J a) z) lfuel (J 0) = some (.inl ()) := by
  have h0 := hl.1
  have hL := hl.2 k (by omega) hk
  obtain ⟨m, hm, hp, hn⟩ := first_of q
  refine lp_for (fun j : Nat => J j) m rfl (by omega) (fun j hj => ?_) ?_
  · have hr := CX_r hl v hk (i := j) (by omega)
    have hn := hn j hj
    unfold f_X8_crosses_B9
    refine ob _ (e_lengthOf (k := k) (by omega)) ?_
    by_cases z : HAS G v a (CX G v k j) (CY G v k j)
    · have z2 : (k = a + 1 ∧ PX G v k = CX G v k j ∧ PY G v k = CY G v k j) := Classical.byContradiction fun w => hn ⟨z, w⟩
      simp (disch := omega) only [↓reduceIte, j_lits, J_add, J_sub, J_mul, J_neg, J_le, J_lt, J_eqv, J_div, J_imax, J_imin, JA_get, JG, JA_upd, LET, Option.bind_some, lt_T, lt_F, le_T, le_F, eq_T, eq_F, and_true, true_and, Int.sub_neg, Int.natCast_add, n_lits, e_cellX8 hl hv hk, e_cellY8 hl hv hk, e_has1 hl hv (k := a) (by omega) (by omega) z, e_isJointOf1 hl hv hk (by omega) z2]
    · simp (disch := omega) only [↓reduceIte, j_lits, J_add, J_sub, J_mul, J_neg, J_le, J_lt, J_eqv, J_div, J_imax, J_imin, JA_get, JG, JA_upd, LET, Option.bind_some, lt_T, lt_F, le_T, le_F, eq_T, eq_F, and_true, true_and, Int.sub_neg, Int.natCast_add, n_lits, e_cellX8 hl hv hk, e_cellY8 hl hv hk, e_has0 hl hv (k := a) (by omega) (by omega) z]
  · have hr := CX_r hl v hk (i := m) (by omega)
    unfold f_X8_crosses_B9
    refine ob _ (e_lengthOf (k := k) (by omega)) ?_
    simp (disch := omega) only [↓reduceIte, j_lits, J_add, J_sub, J_mul, J_neg, J_le, J_lt, J_eqv, J_div, J_imax, J_imin, JA_get, JG, JA_upd, LET, Option.bind_some, lt_T, lt_F, le_T, le_F, eq_T, eq_F, and_true, true_and, Int.sub_neg, Int.natCast_add, n_lits, e_cellX8 hl hv hk, e_cellY8 hl hv hk, e_has1 hl hv (k := a) (by omega) (by omega) hp.1, e_isJointOf0 hl hv hk (by omega) (by omega) hp.2]
theorem e_crossA0 (hl : WL G) (hv : LAID G v way px py) (hk : (k : Int) < G 0) (ha : a < k) (q : ¬ CRA G v k a) : LPF (fun z => f_X8_crosses_B9 (JA G) (JA way) (JA px) (JA py) (J k) (J a) z) lfuel (J 0) = some (.inr ()) := by
  have h0 := hl.1
  have hL := hl.2 k (by omega) hk
  refine lp_for (fun j : Nat => J j) (G (1 + 4 * k) + 1).toNat rfl (by omega) (fun j hj => ?_) ?_
  · have hr := CX_r hl v hk (i := j) (by omega)
    have hn : ¬ (HAS G v a (CX G v k j) (CY G v k j) ∧ ¬ (k = a + 1 ∧ PX G v k = CX G v k j ∧ PY G v k = CY G v k j)) := fun z => q ⟨j, by omega, z⟩
    unfold f_X8_crosses_B9
    refine ob _ (e_lengthOf (k := k) (by omega)) ?_
    by_cases z : HAS G v a (CX G v k j) (CY G v k j)
    · have z2 : (k = a + 1 ∧ PX G v k = CX G v k j ∧ PY G v k = CY G v k j) := Classical.byContradiction fun w => hn ⟨z, w⟩
      simp (disch := omega) only [↓reduceIte, j_lits, J_add, J_sub, J_mul, J_neg, J_le, J_lt, J_eqv, J_div, J_imax, J_imin, JA_get, JG, JA_upd, LET, Option.bind_some, lt_T, lt_F, le_T, le_F, eq_T, eq_F, and_true, true_and, Int.sub_neg, Int.natCast_add, n_lits, e_cellX8 hl hv hk, e_cellY8 hl hv hk, e_has1 hl hv (k := a) (by omega) (by omega) z, e_isJointOf1 hl hv hk (by omega) z2]
    · simp (disch := omega) only [↓reduceIte, j_lits, J_add, J_sub, J_mul, J_neg, J_le, J_lt, J_eqv, J_div, J_imax, J_imin, JA_get, JG, JA_upd, LET, Option.bind_some, lt_T, lt_F, le_T, le_F, eq_T, eq_F, and_true, true_and, Int.sub_neg, Int.natCast_add, n_lits, e_cellX8 hl hv hk, e_cellY8 hl hv hk, e_has0 hl hv (k := a) (by omega) (by omega) z]
  · unfold f_X8_crosses_B9
    refine ob _ (e_lengthOf (k := k) (by omega)) ?_
    simp (disch := omega) only [↓reduceIte, j_lits, J_add, J_sub, J_mul, J_neg, J_le, J_lt, J_eqv, J_div, J_imax, J_imin, JA_get, JG, JA_upd, LET, Option.bind_some, lt_T, lt_F, le_T, le_F, eq_T, eq_F, and_true, true_and, Int.sub_neg, Int.natCast_add, n_lits]
theorem e_crosses1 (hl : WL G) (hv : LAID G v way px py) (hk : (k : Int) < G 0) (q : CRS G v k) : f_X8_crosses (JA G) (JA way) (JA px) (JA py) (J k) = some (J 1) := by
  have h0 := hl.1
  obtain ⟨m, hm, hp, hn⟩ := first_of (P := fun i => CRA G v k i.toNat) (n := (k : Int) - 1) (by
    obtain ⟨a, h1, h2⟩ := q
    exact ⟨a, by omega, by rw [Int.toNat_natCast]; exact h2⟩)
  have hp : CRA G v k m := by rw [Int.toNat_natCast] at hp; exact hp
  unfold f_X8_crosses
  refine lp_bind (fun j : Nat => J j) m rfl (by omega) (fun j hj => ?_) (e := .inl ()) ?_ rfl
  · have hn : ¬ CRA G v k j := by have := hn j hj; rw [Int.toNat_natCast] at this; exact this
    unfold f_X8_crosses_B2
    simp (disch := omega) only [↓reduceIte, j_lits, J_add, J_sub, J_mul, J_neg, J_le, J_lt, J_eqv, J_div, J_imax, J_imin, JA_get, JG, JA_upd, LET, Option.bind_some, lt_T, lt_F, le_T, le_F, eq_T, eq_F, and_true, true_and, Int.sub_neg, Int.natCast_add, n_lits, e_crossA0 hl hv hk (a := j) (by omega) hn]
  · unfold f_X8_crosses_B2
    simp (disch := omega) only [↓reduceIte, j_lits, J_add, J_sub, J_mul, J_neg, J_le, J_lt, J_eqv, J_div, J_imax, J_imin, JA_get, JG, JA_upd, LET, Option.bind_some, lt_T, lt_F, le_T, le_F, eq_T, eq_F, and_true, true_and, Int.sub_neg, Int.natCast_add, n_lits, e_crossA1 hl hv hk (a := m) (by omega) hp]
theorem e_crosses0 (hl : WL G) (hv : LAID G v way px py) (hk : (k : Int) < G 0) (q : ¬ CRS G v k) : f_X8_crosses (JA G) (JA way) (JA px) (JA py) (J k) = some (J 0) := by
  have h0 := hl.1
  unfold f_X8_crosses
  refine lp_bind (fun j : Nat => J j) k rfl (by omega) (fun j hj => ?_) (e := .inr ()) ?_ rfl
  · have hn : ¬ CRA G v k j := fun z => q ⟨j, hj, z⟩
    unfold f_X8_crosses_B2
    simp (disch := omega) only [↓reduceIte, j_lits, J_add, J_sub, J_mul, J_neg, J_le, J_lt, J_eqv, J_div, J_imax, J_imin, JA_get, JG, JA_upd, LET, Option.bind_some, lt_T, lt_F, le_T, le_F, eq_T, eq_F, and_true, true_and, Int.sub_neg, Int.natCast_add, n_lits, e_crossA0 hl hv hk (a := j) (by omega) hn]
  · unfold f_X8_crosses_B2
    simp (disch := omega) only [↓reduceIte, j_lits, J_add, J_sub, J_mul, J_neg, J_le, J_lt, J_eqv, J_div, J_imax, J_imin, JA_get, JG, JA_upd, LET, Option.bind_some, lt_T, lt_F, le_T, le_F, eq_T, eq_F, and_true, true_and, Int.sub_neg, Int.natCast_add, n_lits]
theorem e_kind1_yes {fa : Int32} (hl : WL G) (hv : LAID G v way px py) {l : Nat} (hk : l < nn G) (q : OUT G v l) (hn : ∀ j : Nat, j < l → ¬ OUT G v j) : LPF (fun z => f_X8_faultHere_B9 fa (JA G) (JA way) (JA px) (JA py) (J 1) z) lfuel (J 0) = some (.inl (J l)) := by
  have h0 := hl.1
  have h1 := nn_eq hl
  refine lp_for (fun j : Nat => J j) l rfl (by omega) (fun j hj => ?_) ?_
  · unfold f_X8_faultHere_B9
    simp (disch := omega) only [↓reduceIte, j_lits, J_add, J_sub, J_mul, J_neg, J_le, J_lt, J_eqv, J_div, J_imax, J_imin, JA_get, JG, JA_upd, LET, Option.bind_some, lt_T, lt_F, le_T, le_F, eq_T, eq_F, and_true, true_and, Int.sub_neg, Int.natCast_add, n_lits, e_isOut0 hl hv (k := j) (by omega) (hn j hj)]
  · unfold f_X8_faultHere_B9
    simp (disch := omega) only [↓reduceIte, j_lits, J_add, J_sub, J_mul, J_neg, J_le, J_lt, J_eqv, J_div, J_imax, J_imin, JA_get, JG, JA_upd, LET, Option.bind_some, lt_T, lt_F, le_T, le_F, eq_T, eq_F, and_true, true_and, Int.sub_neg, Int.natCast_add, n_lits, e_isOut1 hl hv (k := l) (by omega) q]
theorem e_kind1_no {fa : Int32} (hl : WL G) (hv : LAID G v way px py) (hn : ∀ j : Nat, j < nn G → ¬ OUT G v j) : LPF (fun z => f_X8_faultHere_B9 fa (JA G) (JA way) (JA px) (JA py) (J 1) z) lfuel (J 0) = some (.inr (.inr (.inr ()))) := by
  have h0 := hl.1
  have h1 := nn_eq hl
  refine lp_for (fun j : Nat => J j) (nn G) rfl (by omega) (fun j hj => ?_) ?_
  · unfold f_X8_faultHere_B9
    simp (disch := omega) only [↓reduceIte, j_lits, J_add, J_sub, J_mul, J_neg, J_le, J_lt, J_eqv, J_div, J_imax, J_imin, JA_get, JG, JA_upd, LET, Option.bind_some, lt_T, lt_F, le_T, le_F, eq_T, eq_F, and_true, true_and, Int.sub_neg, Int.natCast_add, n_lits, e_isOut0 hl hv (k := j) (by omega) (hn j hj)]
  · unfold f_X8_faultHere_B9
    simp (disch := omega) only [↓reduceIte, j_lits, J_add, J_sub, J_mul, J_neg, J_le, J_lt, J_eqv, J_div, J_imax, J_imin, JA_get, JG, JA_upd, LET, Option.bind_some, lt_T, lt_F, le_T, le_F, eq_T, eq_F, and_true, true_and, Int.sub_neg, Int.natCast_add, n_lits]
theorem e_kind2_yes {fa : Int32} (hl : WL G) (hs : WS G) (hv : LAID G v way px py) {l : Nat} (hk : l < nn G) (q : HIT G v l) (hn : ∀ j : Nat, j < l → ¬ HIT G v j) : LPF (fun z => f_X8_faultHere_B9 fa (JA G) (JA way) (JA px) (JA py) (J 2) z) lfuel (J 0) = some (.inr (.inl (J l))) := by
  have h0 := hl.1
  have h1 := nn_eq hl
  refine lp_for (fun j : Nat => J j) l rfl (by omega) (fun j hj => ?_) ?_
  · unfold f_X8_faultHere_B9
    simp (disch := omega) only [↓reduceIte, j_lits, J_add, J_sub, J_mul, J_neg, J_le, J_lt, J_eqv, J_div, J_imax, J_imin, JA_get, JG, JA_upd, LET, Option.bind_some, lt_T, lt_F, le_T, le_F, eq_T, eq_F, and_true, true_and, Int.sub_neg, Int.natCast_add, n_lits, e_hits0 hl hs hv (k := j) (by omega) (hn j hj)]
  · unfold f_X8_faultHere_B9
    simp (disch := omega) only [↓reduceIte, j_lits, J_add, J_sub, J_mul, J_neg, J_le, J_lt, J_eqv, J_div, J_imax, J_imin, JA_get, JG, JA_upd, LET, Option.bind_some, lt_T, lt_F, le_T, le_F, eq_T, eq_F, and_true, true_and, Int.sub_neg, Int.natCast_add, n_lits, e_hits1 hl hs hv (k := l) (by omega) q]
theorem e_kind2_no {fa : Int32} (hl : WL G) (hs : WS G) (hv : LAID G v way px py) (hn : ∀ j : Nat, j < nn G → ¬ HIT G v j) : LPF (fun z => f_X8_faultHere_B9 fa (JA G) (JA way) (JA px) (JA py) (J 2) z) lfuel (J 0) = some (.inr (.inr (.inr ()))) := by
  have h0 := hl.1
  have h1 := nn_eq hl
  refine lp_for (fun j : Nat => J j) (nn G) rfl (by omega) (fun j hj => ?_) ?_
  · unfold f_X8_faultHere_B9
    simp (disch := omega) only [↓reduceIte, j_lits, J_add, J_sub, J_mul, J_neg, J_le, J_lt, J_eqv, J_div, J_imax, J_imin, JA_get, JG, JA_upd, LET, Option.bind_some, lt_T, lt_F, le_T, le_F, eq_T, eq_F, and_true, true_and, Int.sub_neg, Int.natCast_add, n_lits, e_hits0 hl hs hv (k := j) (by omega) (hn j hj)]
  · unfold f_X8_faultHere_B9
    simp (disch := omega) only [↓reduceIte, j_lits, J_add, J_sub, J_mul, J_neg, J_le, J_lt, J_eqv, J_div, J_imax, J_imin, JA_get, JG, JA_upd, LET, Option.bind_some, lt_T, lt_F, le_T, le_F, eq_T, eq_F, and_true, true_and, Int.sub_neg, Int.natCast_add, n_lits]
theorem e_kind3_yes {fa : Int32} (hl : WL G) (hv : LAID G v way px py) {l : Nat} (hk : l < nn G) (q : CRS G v l) (hn : ∀ j : Nat, j < l → ¬ CRS G v j) : LPF (fun z => f_X8_faultHere_B9 fa (JA G) (JA way) (JA px) (JA py) (J 3) z) lfuel (J 0) = some (.inr (.inr (.inl (J l)))) := by
  have h0 := hl.1
  have h1 := nn_eq hl
  refine lp_for (fun j : Nat => J j) l rfl (by omega) (fun j hj => ?_) ?_
  · unfold f_X8_faultHere_B9
    simp (disch := omega) only [↓reduceIte, j_lits, J_add, J_sub, J_mul, J_neg, J_le, J_lt, J_eqv, J_div, J_imax, J_imin, JA_get, JG, JA_upd, LET, Option.bind_some, lt_T, lt_F, le_T, le_F, eq_T, eq_F, and_true, true_and, Int.sub_neg, Int.natCast_add, n_lits, e_crosses0 hl hv (k := j) (by omega) (hn j hj)]
  · unfold f_X8_faultHere_B9
    simp (disch := omega) only [↓reduceIte, j_lits, J_add, J_sub, J_mul, J_neg, J_le, J_lt, J_eqv, J_div, J_imax, J_imin, JA_get, JG, JA_upd, LET, Option.bind_some, lt_T, lt_F, le_T, le_F, eq_T, eq_F, and_true, true_and, Int.sub_neg, Int.natCast_add, n_lits, e_crosses1 hl hv (k := l) (by omega) q]
theorem e_kind3_no {fa : Int32} (hl : WL G) (hv : LAID G v way px py) (hn : ∀ j : Nat, j < nn G → ¬ CRS G v j) : LPF (fun z => f_X8_faultHere_B9 fa (JA G) (JA way) (JA px) (JA py) (J 3) z) lfuel (J 0) = some (.inr (.inr (.inr ()))) := by
  have h0 := hl.1
  have h1 := nn_eq hl
  refine lp_for (fun j : Nat => J j) (nn G) rfl (by omega) (fun j hj => ?_) ?_
  · unfold f_X8_faultHere_B9
    simp (disch := omega) only [↓reduceIte, j_lits, J_add, J_sub, J_mul, J_neg, J_le, J_lt, J_eqv, J_div, J_imax, J_imin, JA_get, JG, JA_upd, LET, Option.bind_some, lt_T, lt_F, le_T, le_F, eq_T, eq_F, and_true, true_and, Int.sub_neg, Int.natCast_add, n_lits, e_crosses0 hl hv (k := j) (by omega) (hn j hj)]
  · unfold f_X8_faultHere_B9
    simp (disch := omega) only [↓reduceIte, j_lits, J_add, J_sub, J_mul, J_neg, J_le, J_lt, J_eqv, J_div, J_imax, J_imin, JA_get, JG, JA_upd, LET, Option.bind_some, lt_T, lt_F, le_T, le_F, eq_T, eq_F, and_true, true_and, Int.sub_neg, Int.natCast_add, n_lits]

theorem e_faultHere {f : Int} {l : Nat} {fa : Int} (hl : WL G) (hs : WS G) (hv : LAID G v way px py) (h : FS G v f l) : f_X8_faultHere (J fa) (JA G) (JA way) (JA px) (JA py) = some (J f, J (if f = 0 then fa else l)) := by
  unfold f_X8_faultHere
  rcases h with ⟨e, h1⟩ | ⟨e, h1, h2, h3⟩ | ⟨e, h1, h2, h3, h4⟩ | ⟨e, h1, h2, h3, h4⟩ <;> subst e
  · refine lp_bind (fun k : Nat => J (1 + k)) 3 rfl (by omega) (fun k hk => ?_) (e := .inr (.inr (.inr ()))) ?_ rfl
    · have hk : k = 0 ∨ k = 1 ∨ k = 2 := by omega
      unfold f_X8_faultHere_B2
      rcases hk with e | e | e <;> subst e
      · simp (disch := omega) only [↓reduceIte, j_lits, J_add, J_sub, J_mul, J_neg, J_le, J_lt, J_eqv, J_div, J_imax, J_imin, JA_get, JG, JA_upd, LET, Option.bind_some, lt_T, lt_F, le_T, le_F, eq_T, eq_F, and_true, true_and, Int.sub_neg, Int.natCast_add, n_lits, Int.add_zero, e_kind1_no hl hv (fun j hj => (h1 j hj).1)]
        rfl
      · simp (disch := omega) only [↓reduceIte, j_lits, J_add, J_sub, J_mul, J_neg, J_le, J_lt, J_eqv, J_div, J_imax, J_imin, JA_get, JG, JA_upd, LET, Option.bind_some, lt_T, lt_F, le_T, le_F, eq_T, eq_F, and_true, true_and, Int.sub_neg, Int.natCast_add, n_lits, Int.reduceAdd, e_kind2_no hl hs hv (fun j hj => (h1 j hj).2.1)]
      · simp (disch := omega) only [↓reduceIte, j_lits, J_add, J_sub, J_mul, J_neg, J_le, J_lt, J_eqv, J_div, J_imax, J_imin, JA_get, JG, JA_upd, LET, Option.bind_some, lt_T, lt_F, le_T, le_F, eq_T, eq_F, and_true, true_and, Int.sub_neg, Int.natCast_add, n_lits, Int.reduceAdd, e_kind3_no hl hv (fun j hj => (h1 j hj).2.2)]
    · unfold f_X8_faultHere_B2
      simp (disch := omega) only [↓reduceIte, j_lits, J_add, J_sub, J_mul, J_neg, J_le, J_lt, J_eqv, J_div, J_imax, J_imin, JA_get, JG, JA_upd, LET, Option.bind_some, lt_T, lt_F, le_T, le_F, eq_T, eq_F, and_true, true_and, Int.sub_neg, Int.natCast_add, n_lits]
  · refine lp_bind (fun k : Nat => J (1 + k)) 0 rfl (by omega) (fun k hk => absurd hk (Nat.not_lt_zero k)) (e := .inl (J 1, J l)) ?_ rfl
    unfold f_X8_faultHere_B2
    simp (disch := omega) only [↓reduceIte, j_lits, J_add, J_sub, J_mul, J_neg, J_le, J_lt, J_eqv, J_div, J_imax, J_imin, JA_get, JG, JA_upd, LET, Option.bind_some, lt_T, lt_F, le_T, le_F, eq_T, eq_F, and_true, true_and, Int.sub_neg, Int.natCast_add, n_lits, Int.add_zero, e_kind1_yes hl hv h1 h2 h3]
  · refine lp_bind (fun k : Nat => J (1 + k)) 1 rfl (by omega) (fun k hk => ?_) (e := .inr (.inl (J 2, J l))) ?_ rfl
    · have hk : k = 0 := by omega
      subst hk
      unfold f_X8_faultHere_B2
      simp (disch := omega) only [↓reduceIte, j_lits, J_add, J_sub, J_mul, J_neg, J_le, J_lt, J_eqv, J_div, J_imax, J_imin, JA_get, JG, JA_upd, LET, Option.bind_some, lt_T, lt_F, le_T, le_F, eq_T, eq_F, and_true, true_and, Int.sub_neg, Int.natCast_add, n_lits, Int.add_zero, e_kind1_no hl hv h1]
      rfl
    · unfold f_X8_faultHere_B2
      simp (disch := omega) only [↓reduceIte, j_lits, J_add, J_sub, J_mul, J_neg, J_le, J_lt, J_eqv, J_div, J_imax, J_imin, JA_get, JG, JA_upd, LET, Option.bind_some, lt_T, lt_F, le_T, le_F, eq_T, eq_F, and_true, true_and, Int.sub_neg, Int.natCast_add, n_lits, Int.reduceAdd, e_kind2_yes hl hs hv h2 h3 h4]
  · refine lp_bind (fun k : Nat => J (1 + k)) 2 rfl (by omega) (fun k hk => ?_) (e := .inr (.inr (.inl (J 3, J l)))) ?_ rfl
    · have hk : k = 0 ∨ k = 1 := by omega
      unfold f_X8_faultHere_B2
      rcases hk with e | e <;> subst e
      · simp (disch := omega) only [↓reduceIte, j_lits, J_add, J_sub, J_mul, J_neg, J_le, J_lt, J_eqv, J_div, J_imax, J_imin, JA_get, JG, JA_upd, LET, Option.bind_some, lt_T, lt_F, le_T, le_F, eq_T, eq_F, and_true, true_and, Int.sub_neg, Int.natCast_add, n_lits, Int.add_zero, e_kind1_no hl hv (fun j hj => (h1 j hj).1)]
        rfl
      · simp (disch := omega) only [↓reduceIte, j_lits, J_add, J_sub, J_mul, J_neg, J_le, J_lt, J_eqv, J_div, J_imax, J_imin, JA_get, JG, JA_upd, LET, Option.bind_some, lt_T, lt_F, le_T, le_F, eq_T, eq_F, and_true, true_and, Int.sub_neg, Int.natCast_add, n_lits, Int.reduceAdd, e_kind2_no hl hs hv (fun j hj => (h1 j hj).2)]
    · unfold f_X8_faultHere_B2
      simp (disch := omega) only [↓reduceIte, j_lits, J_add, J_sub, J_mul, J_neg, J_le, J_lt, J_eqv, J_div, J_imax, J_imin, JA_get, JG, JA_upd, LET, Option.bind_some, lt_T, lt_F, le_T, le_F, eq_T, eq_F, and_true, true_and, Int.sub_neg, Int.natCast_add, n_lits, Int.reduceAdd, e_kind3_yes hl hv h2 h3 h4]
theorem first_nat {P : Nat → Prop} {n : Nat} (h : ∃ i : Nat, i < n ∧ P i) : ∃ m : Nat, m < n ∧ P m ∧ ∀ j : Nat, j < m → ¬ P j := by
  obtain ⟨i, h1, h2⟩ := h
  obtain ⟨m, a, b, c⟩ := first_of (P := fun z => P z.toNat) (n := (n : Int) - 1) ⟨i, by omega, by rw [Int.toNat_natCast]; exact h2⟩
  rw [Int.toNat_natCast] at b
  refine ⟨m, by omega, b, fun j hj z => c j hj ?_⟩
  rw [Int.toNat_natCast]
  exact z
theorem FS_ex (G v : Int → Int) : ∃ f l, FS G v f l := by
  by_cases q1 : ∃ j : Nat, j < nn G ∧ OUT G v j
  · obtain ⟨l, a, b, c⟩ := first_nat q1
    exact ⟨1, l, Or.inr (Or.inl ⟨rfl, a, b, c⟩)⟩
  have q1 : ∀ j : Nat, j < nn G → ¬ OUT G v j := fun j hj z => q1 ⟨j, hj, z⟩
  by_cases q2 : ∃ j : Nat, j < nn G ∧ HIT G v j
  · obtain ⟨l, a, b, c⟩ := first_nat q2
    exact ⟨2, l, Or.inr (Or.inr (Or.inl ⟨rfl, q1, a, b, c⟩))⟩
  have q2 : ∀ j : Nat, j < nn G → ¬ HIT G v j := fun j hj z => q2 ⟨j, hj, z⟩
  by_cases q3 : ∃ j : Nat, j < nn G ∧ CRS G v j
  · obtain ⟨l, a, b, c⟩ := first_nat q3
    exact ⟨3, l, Or.inr (Or.inr (Or.inr ⟨rfl, fun j hj => ⟨q1 j hj, q2 j hj⟩, a, b, c⟩))⟩
  have q3 : ∀ j : Nat, j < nn G → ¬ CRS G v j := fun j hj z => q3 ⟨j, hj, z⟩
  exact ⟨0, 0, Or.inl ⟨rfl, fun j hj => ⟨q1 j hj, q2 j hj, q3 j hj⟩⟩⟩
theorem least_eq {P : Nat → Prop} {a b : Nat} (h1 : P a) (h2 : ∀ j : Nat, j < a → ¬ P j) (h3 : P b) (h4 : ∀ j : Nat, j < b → ¬ P j) : a = b := by
  rcases Nat.lt_trichotomy a b with z | z | z
  · exact absurd h1 (h4 a z)
  · exact z
  · exact absurd h3 (h2 b z)
theorem FS_one {f f' : Int} {l l' : Nat} (h : FS G v f l) (h' : FS G v f' l') : f = f' ∧ (¬ f = 0 → l = l') := by
  rcases h with ⟨e, h1⟩ | ⟨e, h1, h2, h3⟩ | ⟨e, h1, h2, h3, h4⟩ | ⟨e, h1, h2, h3, h4⟩ <;> subst e <;>
    rcases h' with ⟨e, g1⟩ | ⟨e, g1, g2, g3⟩ | ⟨e, g1, g2, g3, g4⟩ | ⟨e, g1, g2, g3, g4⟩ <;> subst e
  · exact ⟨rfl, fun z => absurd rfl z⟩
  · exact absurd g2 (h1 _ g1).1
  · exact absurd g3 (h1 _ g2).2.1
  · exact absurd g3 (h1 _ g2).2.2
  · exact absurd h2 (g1 _ h1).1
  · exact ⟨rfl, fun _ => least_eq h2 h3 g2 g3⟩
  · exact absurd h2 (g1 _ h1)
  · exact absurd h2 (g1 _ h1).1
  · exact absurd h3 (g1 _ h2).2.1
  · exact absurd g2 (h1 _ g1)
  · exact ⟨rfl, fun _ => least_eq h3 h4 g3 g4⟩
  · exact absurd h3 (g1 _ h2).2
  · exact absurd h3 (g1 _ h2).2.2
  · exact absurd g2 (h1 _ g1).1
  · exact absurd g3 (h1 _ g2).2
  · exact ⟨rfl, fun _ => least_eq h3 h4 g3 g4⟩
end
