/-! obstacles -/
def OS (G : Int → Int) (x y : Int) : Prop := ∃ i : Int, (0 ≤ i ∧ i < G 20) ∧ G (21 + 2 * i) = x ∧ G (21 + 2 * i + 1) = y
def AR (x y : Int) : Prop := (-10 ≤ x ∧ x ≤ 10) ∧ -10 ≤ y ∧ y ≤ 10
def WS (G : Int → Int) : Prop := (0 ≤ G 20 ∧ G 20 ≤ 60) ∧ (∀ i : Int, 0 ≤ i → i < G 20 → ((-10 ≤ G (21 + 2 * i) ∧ G (21 + 2 * i) ≤ 10) ∧ -10 ≤ G (21 + 2 * i + 1) ∧ G (21 + 2 * i + 1) ≤ 10) ∧ ¬ (G (21 + 2 * i) = 0 ∧ G (21 + 2 * i + 1) = 0)) ∧
  ∀ i j : Int, 0 ≤ i → i < j → j < G 20 → ¬ (G (21 + 2 * i) = G (21 + 2 * j) ∧ G (21 + 2 * i + 1) = G (21 + 2 * j + 1))
def ST (BL : Int → Int) (x y : Int) : Prop := TB (J (BL (y + 10))) (x + 10)
def RS (G ox oy BL : Int → Int) : Prop := (∀ i : Int, 0 ≤ i → i < G 20 → ox i = G (21 + 2 * i) ∧ oy i = G (21 + 2 * i + 1)) ∧ ∀ x y : Int, (-10 ≤ x ∧ x ≤ 10) ∧ -10 ≤ y ∧ y ≤ 10 → (ST BL x y ↔ OS G x y)
def SCM (G : Int → Int) (x y : Int) : Int → Int := up (up (up G (21 + 2 * G 20) x) (21 + 2 * G 20 + 1) y) 20 (G 20 + 1)
def SH (F : Int → Int) (r i : Int) : Int → Int := fun j => if r ≤ j ∧ j < i - 1 then F (j + 1) else F j
def RM0 (G : Int → Int) (r k : Int) : Int → Int := fun j => if 21 + 2 * r ≤ j ∧ j < 21 + 2 * r + k then G (j + 2) else up G 20 (G 20 - 1) j
def RMV (G : Int → Int) (r : Int) : Int → Int := RM0 G r (2 * (G 20 - 1 - r))
section
variable {G ox oy BL : Int → Int} {x y r : Int}
theorem OS_ar (hs : WS G) (q : OS G x y) : ((-10 ≤ x ∧ x ≤ 10) ∧ -10 ≤ y ∧ y ≤ 10) ∧ ¬ (x = 0 ∧ y = 0) := by
  obtain ⟨i, h1, h2, h3⟩ := q
  have h4 := hs.2.1 i h1.1 h1.2
  rw [h2, h3] at h4
  exact h4
theorem e_stoneAt_no (hs : WS G) (hx : (-2147483648 ≤ x ∧ x ≤ 2147483647) ∧ (-2147483648 ≤ y ∧ y ≤ 2147483647)) (q : ¬ OS G x y) : f_X8_stoneAt (JA G) (J x) (J y) = some (J (-1)) := by
  have h0 := hs.1
  unfold f_X8_stoneAt
  refine lp_bind (fun k : Nat => J k) (G 20).toNat rfl (by omega) (fun k hk => ?_) (e := .inr ()) ?_ rfl
  · have h1 := hs.2.1 k (by omega) (by omega)
    unfold f_X8_stoneAt_B2
    by_cases q1 : G (21 + 2 * k) = x
    · by_cases q2 : G (21 + 2 * k + 1) = y
      · exact absurd ⟨k, ⟨by omega, by omega⟩, q1, q2⟩ q
      · simp (disch := omega) only [↓reduceIte, j_lits, J_add, J_sub, J_mul, J_neg, J_le, J_lt, J_eqv, J_div, J_imax, J_imin, JA_get, JG, JA_upd, LET, Option.bind_some, lt_T, lt_F, le_T, le_F, eq_T, eq_F, and_true, true_and, Int.sub_neg, Int.natCast_add, n_lits]
    · simp (disch := omega) only [↓reduceIte, j_lits, J_add, J_sub, J_mul, J_neg, J_le, J_lt, J_eqv, J_div, J_imax, J_imin, JA_get, JG, JA_upd, LET, Option.bind_some, lt_T, lt_F, le_T, le_F, eq_T, eq_F, and_true, true_and, Int.sub_neg, Int.natCast_add, n_lits]
  · unfold f_X8_stoneAt_B2
    simp (disch := omega) only [↓reduceIte, j_lits, J_add, J_sub, J_mul, J_neg, J_le, J_lt, J_eqv, J_div, J_imax, J_imin, JA_get, JG, JA_upd, LET, Option.bind_some, lt_T, lt_F, le_T, le_F, eq_T, eq_F, and_true, true_and, Int.sub_neg, Int.natCast_add, n_lits]
theorem e_stoneAt_yes (hs : WS G) (h : (0 ≤ r ∧ r < G 20) ∧ G (21 + 2 * r) = x ∧ G (21 + 2 * r + 1) = y) : f_X8_stoneAt (JA G) (J x) (J y) = some (J r) := by
  have h0 := hs.1
  have h9 := hs.2.1 r h.1.1 h.1.2
  unfold f_X8_stoneAt
  refine lp_bind (fun k : Nat => J k) r.toNat rfl (by omega) (fun k hk => ?_) (e := .inl (J r)) ?_ rfl
  · have h1 := hs.2.1 k (by omega) (by omega)
    have h2 := hs.2.2 k r (by omega) (by omega) (by omega)
    rw [h.2.1, h.2.2] at h2
    unfold f_X8_stoneAt_B2
    by_cases q1 : G (21 + 2 * k) = x
    · have q2 : ¬ G (21 + 2 * k + 1) = y := fun q2 => h2 ⟨q1, q2⟩
      simp (disch := omega) only [↓reduceIte, j_lits, J_add, J_sub, J_mul, J_neg, J_le, J_lt, J_eqv, J_div, J_imax, J_imin, JA_get, JG, JA_upd, LET, Option.bind_some, lt_T, lt_F, le_T, le_F, eq_T, eq_F, and_true, true_and, Int.sub_neg, Int.natCast_add, n_lits]
    · simp (disch := omega) only [↓reduceIte, j_lits, J_add, J_sub, J_mul, J_neg, J_le, J_lt, J_eqv, J_div, J_imax, J_imin, JA_get, JG, JA_upd, LET, Option.bind_some, lt_T, lt_F, le_T, le_F, eq_T, eq_F, and_true, true_and, Int.sub_neg, Int.natCast_add, n_lits]
  · obtain ⟨h1, h2, h3⟩ := h
    subst h2 h3
    have h4 : ((r.toNat : Nat) : Int) = r := by omega
    unfold f_X8_stoneAt_B2
    simp (disch := omega) only [↓reduceIte, j_lits, J_add, J_sub, J_mul, J_neg, J_le, J_lt, J_eqv, J_div, J_imax, J_imin, JA_get, JG, JA_upd, LET, Option.bind_some, lt_T, lt_F, le_T, le_F, eq_T, eq_F, and_true, true_and, Int.sub_neg, Int.natCast_add, n_lits, h4]
theorem e_stoneComes (h : 0 ≤ G 20 ∧ G 20 < 60) : f_X8_stoneComes (JA G) (J x) (J y) = some (JA (SCM G x y)) := by
  unfold f_X8_stoneComes
  simp (disch := omega) only [↓reduceIte, j_lits, J_add, J_sub, J_mul, J_neg, J_le, J_lt, J_eqv, J_div, J_imax, J_imin, JA_get, JG, JA_upd, LET, Option.bind_some, lt_T, lt_F, le_T, le_F, eq_T, eq_F, and_true, true_and, Int.sub_neg, Int.natCast_add, n_lits, up_ne]
  rfl
theorem SCM_20 : SCM G x y 20 = G 20 + 1 := up_same _ _ _
theorem SCM_lo {k : Int} (h : k < 20) (h0 : 0 ≤ G 20) : SCM G x y k = G k := by
  unfold SCM
  rw [up_ne _ _ (by omega), up_ne _ _ (by omega), up_ne _ _ (by omega)]
theorem SCM_new (h0 : 0 ≤ G 20) : SCM G x y (21 + 2 * G 20) = x ∧ SCM G x y (21 + 2 * G 20 + 1) = y := by
  unfold SCM
  refine ⟨?_, ?_⟩
  · rw [up_ne _ _ (by omega), up_ne _ _ (by omega), up_same]
  · rw [up_ne _ _ (by omega), up_same]
theorem SCM_old {i : Int} (h : 0 ≤ i ∧ i < G 20) : SCM G x y (21 + 2 * i) = G (21 + 2 * i) ∧ SCM G x y (21 + 2 * i + 1) = G (21 + 2 * i + 1) := by
  unfold SCM
  refine ⟨?_, ?_⟩
  · rw [up_ne _ _ (by omega), up_ne _ _ (by omega), up_ne _ _ (by omega)]
  · rw [up_ne _ _ (by omega), up_ne _ _ (by omega), up_ne _ _ (by omega)]
theorem SCM_OS {x' y' : Int} (h0 : 0 ≤ G 20) : OS (SCM G x y) x' y' ↔ OS G x' y' ∨ (x' = x ∧ y' = y) := by
  constructor
  · rintro ⟨i, h1, h2, h3⟩
    rw [SCM_20] at h1
    by_cases q : i < G 20
    · have h4 := SCM_old (x := x) (y := y) ⟨h1.1, q⟩
      rw [h4.1] at h2
      rw [h4.2] at h3
      exact Or.inl ⟨i, ⟨h1.1, q⟩, h2, h3⟩
    · have h5 : i = G 20 := by omega
      have h4 := SCM_new (x := x) (y := y) h0
      rw [h5, h4.1] at h2
      rw [h5, h4.2] at h3
      exact Or.inr ⟨h2.symm, h3.symm⟩
  · rintro (⟨i, h1, h2, h3⟩ | ⟨h2, h3⟩)
    · have h4 := SCM_old (x := x) (y := y) h1
      exact ⟨i, ⟨h1.1, by rw [SCM_20]; omega⟩, h4.1.trans h2, h4.2.trans h3⟩
    · have h4 := SCM_new (x := x) (y := y) h0
      exact ⟨G 20, ⟨h0, by rw [SCM_20]; omega⟩, h4.1.trans h2.symm, h4.2.trans h3.symm⟩
theorem SCM_WS (hs : WS G) (h : G 20 < 60) (ha : (-10 ≤ x ∧ x ≤ 10) ∧ -10 ≤ y ∧ y ≤ 10) (hb : ¬ (x = 0 ∧ y = 0)) (q : ¬ OS G x y) : WS (SCM G x y) := by
  have h0 := hs.1
  have hn := SCM_new (x := x) (y := y) h0.1
  refine ⟨by rw [SCM_20]; omega, fun i h1 h2 => ?_, fun i j h1 h2 h3 => ?_⟩
  · rw [SCM_20] at h2
    by_cases q : i < G 20
    · have h4 := SCM_old (x := x) (y := y) ⟨h1, q⟩
      rw [h4.1, h4.2]
      exact hs.2.1 i h1 q
    · have h5 : i = G 20 := by omega
      rw [h5, hn.1, hn.2]
      exact ⟨ha, hb⟩
  · rw [SCM_20] at h3
    have h4 := SCM_old (G := G) (x := x) (y := y) (i := i) ⟨h1, by omega⟩
    rw [h4.1, h4.2]
    by_cases q2 : j < G 20
    · have h5 := SCM_old (x := x) (y := y) (i := j) ⟨by omega, q2⟩
      rw [h5.1, h5.2]
      exact hs.2.2 i j h1 h2 q2
    · have h5 : j = G 20 := by omega
      rw [h5, hn.1, hn.2]
      rintro ⟨e1, e2⟩
      exact q ⟨i, ⟨h1, by omega⟩, e1, e2⟩
theorem SCM_RS (hs : WS G) (hr : RS G ox oy BL) {BL' : Int → Int} (hB : ∀ x' y' : Int, (-10 ≤ x' ∧ x' ≤ 10) ∧ -10 ≤ y' ∧ y' ≤ 10 → (ST BL' x' y' ↔ ST BL x' y' ∨ (x' = x ∧ y' = y))) : RS (SCM G x y) (up ox (G 20) x) (up oy (G 20) y) BL' := by
  have h0 := hs.1
  have hn := SCM_new (x := x) (y := y) h0.1
  refine ⟨fun i h1 h2 => ?_, fun x' y' h1 => ?_⟩
  · rw [SCM_20] at h2
    by_cases q : i < G 20
    · have h4 := SCM_old (x := x) (y := y) ⟨h1, q⟩
      rw [h4.1, h4.2, up_ne _ _ (by omega), up_ne _ _ (by omega)]
      exact hr.1 i h1 q
    · have h5 : i = G 20 := by omega
      rw [h5, hn.1, hn.2, up_same, up_same]
      exact ⟨rfl, rfl⟩
  · rw [hB x' y' h1, SCM_OS h0.1, hr.2 x' y' h1]
/-! the class's look -/
theorem e_isBlocked_out (h : (-2147483648 ≤ x ∧ x ≤ 2147483647) ∧ (-2147483648 ≤ y ∧ y ≤ 2147483647) ∧ ¬ ((-10 ≤ x ∧ x ≤ 10) ∧ -10 ≤ y ∧ y ≤ 10)) : f_X4_isBlocked (JA BL) (J x) (J y) = some (J 0) := by
  unfold f_X4_isBlocked
  refine ob (J 0) (e_isInside0 h) rfl
theorem e_isBlocked_no (h : (-10 ≤ x ∧ x ≤ 10) ∧ -10 ≤ y ∧ y ≤ 10) (q : ¬ ST BL x y) : f_X4_isBlocked (JA BL) (J x) (J y) = some (J 0) := by
  have h1 := tb_rd0 (k := x + 10) (by omega) q
  unfold f_X4_isBlocked
  refine ob (J 1) (e_isInside1 h) ?_
  simp (disch := omega) only [↓reduceIte, j_lits, J_add, J_sub, J_mul, J_neg, J_le, J_lt, J_eqv, J_div, J_imax, J_imin, JA_get, JG, JA_upd, LET, Option.bind_some, lt_T, lt_F, le_T, le_F, eq_T, eq_F, and_true, true_and, Int.sub_neg, Int.natCast_add, n_lits, h1]
theorem e_isBlocked_yes (h : (-10 ≤ x ∧ x ≤ 10) ∧ -10 ≤ y ∧ y ≤ 10) (q : ST BL x y) : f_X4_isBlocked (JA BL) (J x) (J y) = some (J 1) := by
  have h1 := tb_rd1 (k := x + 10) (by omega) q
  unfold f_X4_isBlocked
  refine ob (J 1) (e_isInside1 h) ?_
  simp (disch := omega) only [↓reduceIte, j_lits, J_add, J_sub, J_mul, J_neg, J_le, J_lt, J_eqv, J_div, J_imax, J_imin, JA_get, JG, JA_upd, LET, Option.bind_some, lt_T, lt_F, le_T, le_F, eq_T, eq_F, and_true, true_and, Int.sub_neg, Int.natCast_add, n_lits, h1]
theorem JA_upd2 (F : Int → Int) {a : Int} (w : Int32) (h : 0 ≤ a ∧ a ≤ 2147483647) : upd (JA F) (J a).toNatClampNeg w = JA (up F a w.toInt) := by
  have h1 := JA_upd F w.toInt h
  rw [J_of] at h1
  exact h1
theorem ST_up {w : Int32} {x' y' : Int} : ST (up BL (y + 10) w.toInt) x' y' ↔ if y' = y then TB w (x' + 10) else ST BL x' y' := by
  unfold ST
  by_cases q : y' = y
  · rw [if_pos q, q, up_same, J_of]
  · rw [if_neg q, up_ne _ _ (by omega)]
theorem e_block (h : ((-10 ≤ x ∧ x ≤ 10) ∧ -10 ≤ y ∧ y ≤ 10) ∧ ¬ (x = 0 ∧ y = 0)) (h0 : 0 ≤ G 20 ∧ G 20 < 60) (q : ¬ ST BL x y) :
    ∃ BL', f_X4_block (J (G 20)) (JA ox) (JA oy) (JA BL) (J x) (J y) = some (J 1, J (G 20 + 1), JA (up ox (G 20) x), JA (up oy (G 20) y), JA BL') ∧ ∀ x' y' : Int, (-10 ≤ x' ∧ x' ≤ 10) ∧ -10 ≤ y' ∧ y' ≤ 10 → (ST BL' x' y' ↔ ST BL x' y' ∨ (x' = x ∧ y' = y)) := by
  refine ⟨up BL (y + 10) (J (BL (y + 10)) ||| (J 1 <<< (J (x + 10) &&& J 31))).toInt, ?_, fun x' y' h1 => ?_⟩
  · have hL : f_X4_block_L16 (J (G 20)) (JA ox) (JA oy) (JA BL) (J x) (J y) = some (J 1, J (G 20 + 1), JA (up ox (G 20) x), JA (up oy (G 20) y), JA (up BL (y + 10) (J (BL (y + 10)) ||| (J 1 <<< (J (x + 10) &&& J 31))).toInt)) := by
      unfold f_X4_block_L16
      refine ob (J 0) (e_isBlocked_no h.1 q) ?_
      simp (disch := omega) only [↓reduceIte, j_lits, J_add, J_sub, J_mul, J_neg, J_le, J_lt, J_eqv, J_div, J_imax, J_imin, JA_get, JG, JA_upd, LET, Option.bind_some, lt_T, lt_F, le_T, le_F, eq_T, eq_F, and_true, true_and, Int.sub_neg, Int.natCast_add, n_lits, JA_upd2 BL]
    unfold f_X4_block
    refine ob (J 1) (e_isInside1 h.1) ?_
    by_cases q1 : x = 0
    · have q2 : ¬ y = 0 := fun z => h.2 ⟨q1, z⟩
      simp (disch := omega) only [↓reduceIte, j_lits, J_add, J_sub, J_mul, J_neg, J_le, J_lt, J_eqv, J_div, J_imax, J_imin, JA_get, JG, JA_upd, LET, Option.bind_some, lt_T, lt_F, le_T, le_F, eq_T, eq_F, and_true, true_and, Int.sub_neg, Int.natCast_add, n_lits, hL]
    · simp (disch := omega) only [↓reduceIte, j_lits, J_add, J_sub, J_mul, J_neg, J_le, J_lt, J_eqv, J_div, J_imax, J_imin, JA_get, JG, JA_upd, LET, Option.bind_some, lt_T, lt_F, le_T, le_F, eq_T, eq_F, and_true, true_and, Int.sub_neg, Int.natCast_add, n_lits, hL]
  · rw [ST_up]
    by_cases q1 : y' = y
    · rw [if_pos q1, tb_or (by omega), q1]
      exact or_congr Iff.rfl ⟨fun z => ⟨by omega, rfl⟩, fun z => by omega⟩
    · rw [if_neg q1]
      exact ⟨Or.inl, fun z => z.elim id fun z => absurd z.2 q1⟩
/-! an obstacle goes -/
theorem SH_one {F : Int → Int} {r i : Int} (h : i ≤ r + 1) : SH F r i = F := by
  funext j
  exact if_neg (by omega)
theorem SH_s {F : Int → Int} {r i : Int} (h : r < i) : up (SH F r i) (i - 1) (F i) = SH F r (i + 1) := by
  funext j
  unfold SH
  by_cases q : j = i - 1
  · rw [q, up_same, if_pos (by omega)]
    exact congrArg F (by omega)
  · rw [up_ne _ _ q]
    by_cases q2 : r ≤ j ∧ j < i - 1
    · rw [if_pos q2, if_pos (by omega)]
    · rw [if_neg q2, if_neg (by omega)]
theorem SH_at {F : Int → Int} {r i : Int} (h : 0 ≤ i) : SH F r i i = F i := if_neg (by omega)
theorem up_id (F : Int → Int) (a : Int) : up F a (F a) = F := by
  funext j
  by_cases q : j = a
  · rw [q, up_same]
  · rw [up_ne _ _ q]
theorem e_unblock_L73 (i : Int) (h : 0 ≤ i ∧ i < 60) (hr : 0 ≤ r) (hi : ¬ i = r) (z1 z2 c : Int32) (B : Nat → Int32) :
    f_X4_unblock_L73 c (JA (SH ox r i)) (JA (SH oy r i)) B z1 z2 (J (if i ≤ r then i else i - 1)) (J i) = some (.inl (JA (SH ox r (i + 1)), JA (SH oy r (i + 1)), J (if i + 1 ≤ r then i + 1 else i), J (i + 1))) := by
  unfold f_X4_unblock_L73
  by_cases q : i ≤ r
  · rw [SH_one (F := ox) (by omega), SH_one (F := oy) (by omega), SH_one (F := ox) (by omega), SH_one (F := oy) (by omega)]
    simp (disch := omega) only [↓reduceIte, j_lits, J_add, J_sub, J_mul, J_neg, J_le, J_lt, J_eqv, J_div, J_imax, J_imin, JA_get, JG, JA_upd, LET, Option.bind_some, lt_T, lt_F, le_T, le_F, eq_T, eq_F, and_true, true_and, Int.sub_neg, Int.natCast_add, n_lits, up_id]
  · simp (disch := omega) only [↓reduceIte, j_lits, J_add, J_sub, J_mul, J_neg, J_le, J_lt, J_eqv, J_div, J_imax, J_imin, JA_get, JG, JA_upd, LET, Option.bind_some, lt_T, lt_F, le_T, le_F, eq_T, eq_F, and_true, true_and, Int.sub_neg, Int.natCast_add, n_lits, SH_at, SH_s]
    rw [show i - 1 + 1 = i by omega]
theorem e_unblock (hs : WS G) (hr : RS G ox oy BL) (h : (0 ≤ r ∧ r < G 20) ∧ G (21 + 2 * r) = x ∧ G (21 + 2 * r + 1) = y) :
    ∃ BL', f_X4_unblock (J (G 20)) (JA ox) (JA oy) (JA BL) (J x) (J y) = some (J (G 20 - 1), JA (SH ox r (G 20)), JA (SH oy r (G 20)), JA BL') ∧ ∀ x' y' : Int, (-10 ≤ x' ∧ x' ≤ 10) ∧ -10 ≤ y' ∧ y' ≤ 10 → (ST BL' x' y' ↔ ST BL x' y' ∧ ¬ (x' = x ∧ y' = y)) := by
  have h0 := hs.1
  have hA := hs.2.1 r h.1.1 h.1.2
  rw [h.2.1, h.2.2] at hA
  have hq : ST BL x y := (hr.2 x y hA.1).mpr ⟨r, h⟩
  refine ⟨up BL (y + 10) (J (BL (y + 10)) &&& ((J 1 <<< (J (x + 10) &&& J 31)) ^^^ J (-1))).toInt, ?_, fun x' y' h1 => ?_⟩
  · unfold f_X4_unblock
    refine ob (J 1) (e_isBlocked_yes hA.1 hq) ?_
    simp (disch := omega) only [↓reduceIte, j_lits, J_add, J_sub, J_mul, J_neg, J_le, J_lt, J_eqv, J_div, J_imax, J_imin, JA_get, JG, JA_upd, LET, Option.bind_some, lt_T, lt_F, le_T, le_F, eq_T, eq_F, and_true, true_and, Int.sub_neg, Int.natCast_add, n_lits, JA_upd2 BL]
    refine lp_bind (fun k : Nat => (JA (SH ox r k), JA (SH oy r k), J (if (k : Int) ≤ r then k else k - 1), J k)) (G 20).toNat ?_ (by omega) (fun k hk => ?_) (e := (JA (SH ox r (G 20)), JA (SH oy r (G 20)), J (G 20 - 1))) ?_ rfl
    · rw [SH_one (F := ox) (by omega), SH_one (F := oy) (by omega), if_pos (by omega)]
      rfl
    · have h1 := hr.1 k (by omega) (by omega)
      have h2 := hs.2.1 k (by omega) (by omega)
      have h3 := @e_unblock_L73 ox oy r k (by omega) h.1.1
      have h4 : SH ox r k k = ox k := SH_at (by omega)
      have h5 : SH oy r k k = oy k := SH_at (by omega)
      by_cases q1 : (k : Int) = r
      · have q2 : ox k = x := by rw [h1.1, q1, h.2.1]
        have q3 : oy k = y := by rw [h1.2, q1, h.2.2]
        unfold f_X4_unblock_B35
        simp (disch := omega) only [↓reduceIte, j_lits, J_add, J_sub, J_mul, J_neg, J_le, J_lt, J_eqv, J_div, J_imax, J_imin, JA_get, JG, JA_upd, LET, Option.bind_some, lt_T, lt_F, le_T, le_F, eq_T, eq_F, and_true, true_and, Int.sub_neg, Int.natCast_add, n_lits, h4, h5, q2, q3]
        rw [SH_one (F := ox) (by omega), SH_one (F := oy) (by omega), SH_one (F := ox) (by omega), SH_one (F := oy) (by omega)]
        exact congrArg some (congrArg Sum.inl (pr2 rfl (pr2 rfl (pr2 (congrArg J (by omega)) rfl))))
      · have h6 : ¬ (ox k = x ∧ oy k = y) := by
          rw [h1.1, h1.2, ← h.2.1, ← h.2.2]
          rintro ⟨e1, e2⟩
          rcases Int.lt_or_gt_of_ne q1 with z | z
          · exact hs.2.2 k r (by omega) z h.1.2 ⟨e1, e2⟩
          · exact hs.2.2 r k h.1.1 z (by omega) ⟨e1.symm, e2.symm⟩
        have h7 : (if ((k + 1 : Nat) : Int) ≤ r then ((k + 1 : Nat) : Int) else ((k + 1 : Nat) : Int) - 1) = if (k : Int) + 1 ≤ r then (k : Int) + 1 else k := by
          rw [cs]
          by_cases z : (k : Int) + 1 ≤ r
          · rw [if_pos z, if_pos z]
          · rw [if_neg z, if_neg z]; omega
        rw [h7]
        unfold f_X4_unblock_B35
        by_cases q2 : ox k = x
        · have q3 : ¬ oy k = y := fun z => h6 ⟨q2, z⟩
          simp (disch := omega) only [↓reduceIte, j_lits, J_add, J_sub, J_mul, J_neg, J_le, J_lt, J_eqv, J_div, J_imax, J_imin, JA_get, JG, JA_upd, LET, Option.bind_some, lt_T, lt_F, le_T, le_F, eq_T, eq_F, and_true, true_and, Int.sub_neg, Int.natCast_add, n_lits, h4, h5, h3 q1]
        · simp (disch := omega) only [↓reduceIte, j_lits, J_add, J_sub, J_mul, J_neg, J_le, J_lt, J_eqv, J_div, J_imax, J_imin, JA_get, JG, JA_upd, LET, Option.bind_some, lt_T, lt_F, le_T, le_F, eq_T, eq_F, and_true, true_and, Int.sub_neg, Int.natCast_add, n_lits, h4, h5, h3 q1]
    · have h4 : (((G 20).toNat : Nat) : Int) = G 20 := by omega
      unfold f_X4_unblock_B35
      simp (disch := omega) only [↓reduceIte, j_lits, J_add, J_sub, J_mul, J_neg, J_le, J_lt, J_eqv, J_div, J_imax, J_imin, JA_get, JG, JA_upd, LET, Option.bind_some, lt_T, lt_F, le_T, le_F, eq_T, eq_F, and_true, true_and, Int.sub_neg, Int.natCast_add, n_lits, h4]
  · rw [ST_up]
    by_cases q1 : y' = y
    · rw [if_pos q1, tb_clr (by omega), q1]
      exact and_congr Iff.rfl ⟨fun z w => z (by omega), fun z w => z ⟨by omega, rfl⟩⟩
    · rw [if_neg q1]
      exact ⟨fun z => ⟨z, fun w => q1 w.2⟩, fun z => z.1⟩
theorem RM_at (h : 0 ≤ r ∧ r < G 20) {i : Int} (hi : 0 ≤ i ∧ i < G 20 - 1) : RMV G r (21 + 2 * i) = G (21 + 2 * (if i < r then i else i + 1)) ∧ RMV G r (21 + 2 * i + 1) = G (21 + 2 * (if i < r then i else i + 1) + 1) := by
  unfold RMV RM0
  by_cases q : i < r
  · rw [if_pos q, if_neg (by omega), if_neg (by omega), up_ne _ _ (by omega), up_ne _ _ (by omega)]
    exact ⟨rfl, rfl⟩
  · rw [if_neg q, if_pos (by omega), if_pos (by omega)]
    exact ⟨congrArg G (by omega), congrArg G (by omega)⟩
theorem RM_20 (h : 0 ≤ r) : RMV G r 20 = G 20 - 1 := by
  unfold RMV RM0
  rw [if_neg (by omega), up_same]
theorem RM_lo (h : 0 ≤ r) {k : Int} (hk : k < 20) : RMV G r k = G k := by
  unfold RMV RM0
  rw [if_neg (by omega), up_ne _ _ (by omega)]
theorem RM_OS (hs : WS G) (h : (0 ≤ r ∧ r < G 20) ∧ G (21 + 2 * r) = x ∧ G (21 + 2 * r + 1) = y) {x' y' : Int} : OS (RMV G r) x' y' ↔ OS G x' y' ∧ ¬ (x' = x ∧ y' = y) := by
  constructor
  · rintro ⟨i, h1, h2, h3⟩
    rw [RM_20 h.1.1] at h1
    have h4 := RM_at h.1 h1
    rw [h4.1] at h2
    rw [h4.2] at h3
    have h5 : (if i < r then i else i + 1) < r ∧ 0 ≤ (if i < r then i else i + 1) ∨ r < (if i < r then i else i + 1) ∧ (if i < r then i else i + 1) < G 20 := by omega
    refine ⟨⟨_, by omega, h2, h3⟩, ?_⟩
    rintro ⟨e1, e2⟩
    rcases h5 with z | z
    · exact hs.2.2 _ r z.2 z.1 h.1.2 ⟨by rw [h2, h.2.1, e1], by rw [h3, h.2.2, e2]⟩
    · exact hs.2.2 r _ h.1.1 z.1 z.2 ⟨by rw [h2, h.2.1, e1], by rw [h3, h.2.2, e2]⟩
  · rintro ⟨⟨i, h1, h2, h3⟩, h4⟩
    have h5 : ¬ i = r := by
      intro z
      rw [z, h.2.1] at h2
      rw [z, h.2.2] at h3
      exact h4 ⟨h2.symm, h3.symm⟩
    by_cases q : i < r
    · have h6 := RM_at h.1 (i := i) (by omega)
      rw [if_pos q] at h6
      exact ⟨i, by rw [RM_20 h.1.1]; omega, h6.1.trans h2, h6.2.trans h3⟩
    · have h6 := RM_at h.1 (i := i - 1) (by omega)
      rw [if_neg (by omega), show i - 1 + 1 = i by omega] at h6
      exact ⟨i - 1, by rw [RM_20 h.1.1]; omega, h6.1.trans h2, h6.2.trans h3⟩
theorem RM_WS (hs : WS G) (h : 0 ≤ r ∧ r < G 20) : WS (RMV G r) := by
  have h0 := hs.1
  refine ⟨by rw [RM_20 h.1]; omega, fun i h1 h2 => ?_, fun i j h1 h2 h3 => ?_⟩
  · rw [RM_20 h.1] at h2
    have h4 := RM_at h ⟨h1, h2⟩
    rw [h4.1, h4.2]
    exact hs.2.1 _ (by omega) (by omega)
  · rw [RM_20 h.1] at h3
    have h4 := RM_at h (i := i) ⟨h1, by omega⟩
    have h5 := RM_at h (i := j) ⟨by omega, h3⟩
    rw [h4.1, h4.2, h5.1, h5.2]
    exact hs.2.2 _ _ (by omega) (by omega) (by omega)
theorem RM_RS (hs : WS G) (hr : RS G ox oy BL) (h : (0 ≤ r ∧ r < G 20) ∧ G (21 + 2 * r) = x ∧ G (21 + 2 * r + 1) = y) {BL' : Int → Int} (hB : ∀ x' y' : Int, (-10 ≤ x' ∧ x' ≤ 10) ∧ -10 ≤ y' ∧ y' ≤ 10 → (ST BL' x' y' ↔ ST BL x' y' ∧ ¬ (x' = x ∧ y' = y))) : RS (RMV G r) (SH ox r (G 20)) (SH oy r (G 20)) BL' := by
  have h0 := hs.1
  refine ⟨fun i h1 h2 => ?_, fun x' y' h1 => ?_⟩
  · rw [RM_20 h.1.1] at h2
    have h4 := RM_at h.1 ⟨h1, h2⟩
    rw [h4.1, h4.2]
    unfold SH
    by_cases q : i < r
    · rw [if_pos q, if_neg (by omega), if_neg (by omega)]
      exact hr.1 i h1 (by omega)
    · rw [if_neg q, if_pos (by omega), if_pos (by omega)]
      exact hr.1 (i + 1) (by omega) (by omega)
  · rw [hB x' y' h1, RM_OS hs h, hr.2 x' y' h1]
theorem RM0_s {k : Int} (hk : 0 ≤ k) : up (RM0 G r k) (21 + 2 * r + k) (G (21 + 2 * r + k + 2)) = RM0 G r (k + 1) := by
  funext j
  unfold RM0
  by_cases q : j = 21 + 2 * r + k
  · rw [q, up_same]
    rw [if_pos (by omega)]
  · rw [up_ne _ _ q]
    by_cases q2 : 21 + 2 * r ≤ j ∧ j < 21 + 2 * r + k
    · rw [if_pos q2, if_pos (by omega)]
    · rw [if_neg q2, if_neg (by omega)]
end
