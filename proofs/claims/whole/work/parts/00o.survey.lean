/-! all poses: which are free, and where their tips are -/
def FR (G v : Int → Int) : Prop := FS G v 0 0
noncomputable def TP (G : Int → Int) (p : Int) : Int := @ite Int (FR G (DV G p)) (Classical.propDecidable _) (CN (PX G (DV G p) (nn G)) (PY G (DV G p) (nn G))) (-1)
def Z0 (f : Nat → Int32) : Prop := ∃ F : Int → Int, f = JA F ∧ F 0 = 0
section
variable {G v ln lo hi BL F sp st T : Int → Int} {p f : Int} {l : Nat}
theorem FR_of (h : FS G v f l) : FR G v ↔ f = 0 := by
  constructor
  · intro h2
    exact (FS_one h h2).1
  · intro e
    subst e
    rcases h with ⟨-, h1⟩ | ⟨e, -⟩ | ⟨e, -⟩ | ⟨e, -⟩
    · exact Or.inl ⟨rfl, h1⟩
    · exact absurd e (by decide)
    · exact absurd e (by decide)
    · exact absurd e (by decide)
theorem TP_free (h : FR G (DV G p)) : TP G p = CN (PX G (DV G p) (nn G)) (PY G (DV G p) (nn G)) := if_pos h
theorem TP_not (h : ¬ FR G (DV G p)) : TP G p = -1 := if_neg h
theorem FR_in (h : FR G v) : (-10 ≤ PX G v (nn G) ∧ PX G v (nn G) ≤ 10) ∧ -10 ≤ PY G v (nn G) ∧ PY G v (nn G) ≤ 10 := by
  rcases h with ⟨-, h1⟩ | ⟨e, -⟩ | ⟨e, -⟩ | ⟨e, -⟩
  · by_cases q : nn G = 0
    · rw [q]
      show (-10 ≤ (0 : Int) ∧ (0 : Int) ≤ 10) ∧ -10 ≤ (0 : Int) ∧ (0 : Int) ≤ 10
      decide
    · obtain ⟨m, hm⟩ : ∃ m, nn G = m + 1 := ⟨nn G - 1, by omega⟩
      have h2 := (h1 m (by omega)).1
      rw [hm]
      exact Classical.byContradiction fun z => h2 (Or.inr z)
  · exact absurd e (by decide)
  · exact absurd e (by decide)
  · exact absurd e (by decide)
theorem TP_two (G : Int → Int) (p : Int) : (FR G (DV G p) ∧ TP G p = CN (PX G (DV G p) (nn G)) (PY G (DV G p) (nn G)) ∧ 0 ≤ TP G p ∧ TP G p ≤ 440) ∨ (¬ FR G (DV G p) ∧ TP G p = -1) := by
  by_cases q : FR G (DV G p)
  · have h1 := FR_in q
    have h2 := TP_free q
    refine Or.inl ⟨q, h2, ?_, ?_⟩ <;> rw [h2] <;> unfold CN <;> omega
  · exact Or.inr ⟨q, TP_not q⟩
theorem TP_b (G : Int → Int) (p : Int) : -1 ≤ TP G p ∧ TP G p ≤ 440 := by
  rcases TP_two G p with ⟨-, -, h⟩ | ⟨-, h⟩ <;> omega
/-! the class -/
theorem w_along_own (hl : WL G) (hw : WS G) (hln : ∀ k : Int, 0 ≤ k → k < G 0 → ln k = G (1 + 4 * k)) (hF : ∀ k : Int, 0 ≤ k → k < G 0 → F k = v k) (hb : ∀ x y : Int, (-10 ≤ x ∧ x ≤ 10) ∧ -10 ≤ y ∧ y ≤ 10 → (ST BL x y ↔ OS G x y)) (z1 z2 z3 z4 : Int32) (b c d t : Nat → Int32) :
    WP (f_X6_along_own z1 z2 z3 z4 b c d t (J (G 0)) (JA ln) (JA F) (JA BL)) (fun o => ∃ (f : Int) (l : Nat) (B C D : Int → Int), FS G v f l ∧ o.1 = J f ∧ o.2.1 = J l ∧ o.2.2.1 = J (PX G v (nn G)) ∧ o.2.2.2.1 = J (PY G v (nn G)) ∧ o.2.2.2.2.1 = JA (BXf G v (nn G) B) ∧ o.2.2.2.2.2.1 = JA (BYf G v (nn G) C) ∧ o.2.2.2.2.2.2.1 = JA (WYf G v (nn G) D)) := by
  obtain ⟨B, rfl, -⟩ := JA_ex b
  obtain ⟨C, rfl, -⟩ := JA_ex c
  obtain ⟨D, rfl, -⟩ := JA_ex d
  obtain ⟨TR, rfl, -⟩ := JA_ex t
  obtain ⟨f, l, TR', h1, h2⟩ := e_along_own (B := B) (C := C) (D := D) (TR := TR) hl hw hln hF hb z1 z2 z3 z4
  exact WP.eq h1 ⟨f, l, B, C, D, h2, rfl, rfl, rfl, rfl, rfl, rfl, rfl⟩
theorem w_along_row (hl : WL G) (hw : WS G) (hln : ∀ k : Int, 0 ≤ k → k < G 0 → ln k = G (1 + 4 * k)) (hF : ∀ k : Int, 0 ≤ k → k < G 0 → F k = v k) (hb : ∀ x y : Int, (-10 ≤ x ∧ x ≤ 10) ∧ -10 ≤ y ∧ y ≤ 10 → (ST BL x y ↔ OS G x y)) (z1 z2 z3 z4 : Int32) (b c d t : Nat → Int32) :
    WP (f_X6_along_row z1 z2 z3 z4 b c d t (J (G 0)) (JA ln) (JA BL) (JA F)) (fun o => ∃ (f : Int) (l : Nat), FS G v f l ∧ o.1 = J f ∧ o.2.2.1 = J (PX G v (nn G)) ∧ o.2.2.2.1 = J (PY G v (nn G))) := by
  obtain ⟨B, rfl, -⟩ := JA_ex b
  obtain ⟨C, rfl, -⟩ := JA_ex c
  obtain ⟨D, rfl, -⟩ := JA_ex d
  obtain ⟨TR, rfl, -⟩ := JA_ex t
  obtain ⟨f, l, TR', h1, h2⟩ := e_along_row (B := B) (C := C) (D := D) (TR := TR) hl hw hln hF hb z1 z2 z3 z4
  exact WP.eq h1 ⟨f, l, h2, rfl, rfl, rfl⟩
theorem e_span_out (h : (0 ≤ G 0 ∧ G 0 ≤ 4) ∧ (-2147483648 ≤ p ∧ p ≤ 2147483647) ∧ ¬ (0 ≤ p ∧ p < G 0)) : f_X4_span (J (G 0)) (JA lo) (JA hi) (J p) = some (J 1) := by
  unfold f_X4_span
  exact ob _ (e_hasLink0 h) rfl
theorem FS_c (h : FS G v f l) : 0 ≤ f ∧ f ≤ 3 := by
  rcases h with ⟨e, -⟩ | ⟨e, -⟩ | ⟨e, -⟩ | ⟨e, -⟩ <;> omega
def SPf (G : Int → Int) (i : Nat) (F : Int → Int) : Int → Int := fun j => if (nn G : Int) - i ≤ j ∧ j < nn G then VV G j else F j
def STf (G : Int → Int) (i : Nat) (F : Int → Int) : Int → Int := fun j => if (nn G : Int) - i ≤ j ∧ j < nn G then PW G (j + 1) (nn G - 1 - j.toNat) else F j
theorem SPf_0 (G F : Int → Int) : SPf G 0 F = F ∧ STf G 0 F = F := by
  refine ⟨?_, ?_⟩ <;> funext j <;> exact if_neg (by omega)
theorem SPf_s (G F : Int → Int) {i : Nat} (hi : i < nn G) : up (SPf G i F) ((nn G : Int) - 1 - i) (VV G ((nn G : Int) - 1 - i)) = SPf G (i + 1) F ∧ up (STf G i F) ((nn G : Int) - 1 - i) (PW G ((nn G : Int) - i) i) = STf G (i + 1) F := by
  unfold SPf STf
  refine ⟨?_, ?_⟩
  · funext j
    by_cases q : j = (nn G : Int) - 1 - i
    · rw [q, up_same, if_pos (by omega)]
    · rw [up_ne _ _ q]
      by_cases q2 : (nn G : Int) - i ≤ j ∧ j < nn G
      · rw [if_pos q2, if_pos (by omega)]
      · rw [if_neg q2, if_neg (by omega)]
  · funext j
    by_cases q : j = (nn G : Int) - 1 - i
    · rw [q, up_same, if_pos (by omega), show (nn G : Int) - 1 - i + 1 = (nn G : Int) - i by omega, show nn G - 1 - ((nn G : Int) - 1 - i).toNat = i by omega]
    · rw [up_ne _ _ q]
      by_cases q2 : (nn G : Int) - i ≤ j ∧ j < nn G
      · rw [if_pos q2, if_pos (by omega)]
      · rw [if_neg q2, if_neg (by omega)]
theorem SPf_ok (hl : WL G) (F D : Int → Int) : SPN G (SPf G (nn G) F) (STf G (nn G) D) := by
  have h1 := nn_eq hl
  intro k k0 k1
  exact ⟨if_pos (by omega), if_pos (by omega)⟩
theorem w_survey (hl : WL G) (hw : WS G) (hN : NP G ≤ 5000) (hln : ∀ k : Int, 0 ≤ k → k < G 0 → ln k = G (1 + 4 * k)) (hr : RB G lo hi) (hb : ∀ x y : Int, (-10 ≤ x ∧ x ≤ 10) ∧ -10 ≤ y ∧ y ≤ 10 → (ST BL x y ↔ OS G x y))
    (po lk : Int32) (span stride tip : Nat → Int32) (z1 z2 z3 z4 : Int32) (b c d t vs : Nat → Int32) :
    WP (f_X5_survey (J 0) po lk span stride tip z1 z2 z3 z4 b c d t vs (J (G 0)) (JA ln) (JA lo) (JA hi) (JA BL)) (fun o => o.1 = J 1 ∧ o.2.1 = J (NP G) ∧ o.2.2.1 = J (G 0) ∧ ∃ sp st T, o.2.2.2.1 = JA sp ∧ o.2.2.2.2.1 = JA st ∧ o.2.2.2.2.2.1 = JA T ∧ SPN G sp st ∧ ∀ q : Int, 0 ≤ q → q < NP G → T q = TP G q) := by
  have h0 := hl.1
  have h1 := nn_eq hl
  have hP := NP_b hl
  obtain ⟨SP, rfl, -⟩ := JA_ex span
  obtain ⟨STR, rfl, -⟩ := JA_ex stride
  unfold f_X5_survey
  rw [if_pos (show J 0 = 0 from rfl)]
  simp only [LET]
  rw [show (4 : Int32) = J 4 from rfl, J_imin (by omega), show min (G 0) 4 = G 0 by omega]
  refine WP.ob (e_poses4 hl hr) ?_
  try dsimp only
  rw [show (5000 : Int32) = J 5000 from rfl, J_imin (by omega), show min (NP G) 5000 = NP G by omega]
  refine WP.ob (a := (JA (SPf G (nn G) SP), JA (STf G (nn G) STR))) ?_ ?_
  · refine lp_for (fun i : Nat => (JA (SPf G i SP), JA (STf G i STR), J (PW G ((nn G : Int) - i) i), J ((nn G : Int) - 1 - i))) (nn G) ?_ (by omega) (fun i hi => ?_) ?_
    · rw [(SPf_0 G SP).1, (SPf_0 G STR).2, show (1 : Int32) = J 1 from rfl, J_sub]
      exact pr2 rfl (pr2 rfl (pr2 rfl (congrArg J (by omega))))
    · have h5 := VV_b hl (k := (nn G : Int) - 1 - i) (by omega) (by omega)
      have h6 := SPf_s G SP hi
      have h7 := SPf_s G STR hi
      have h8 : PW G ((nn G : Int) - i) i * VV G ((nn G : Int) - 1 - i) = PW G ((nn G : Int) - ((i + 1 : Nat) : Int)) (i + 1) := by
        rw [PW_front, Int.mul_comm, show (nn G : Int) - ((i + 1 : Nat) : Int) = (nn G : Int) - 1 - i by omega, show (nn G : Int) - 1 - i + 1 = (nn G : Int) - i by omega]
      have h9 : (nn G : Int) - 1 - i + -1 = (nn G : Int) - 1 - ((i + 1 : Nat) : Int) := by omega
      unfold f_X5_survey_B43
      simp (disch := omega) only [↓reduceIte, j_lits, J_add, J_sub, J_mul, J_neg, J_le, J_lt, J_eqv, J_div, J_imax, J_imin, JA_get, JG, JA_upd, LET, Option.bind_some, lt_T, lt_F, le_T, le_F, eq_T, eq_F, and_true, true_and, Int.sub_neg, Int.natCast_add, n_lits, e_span hl hr, h6.1, h7.2, h8, h9]
    · unfold f_X5_survey_B43
      simp (disch := omega) only [↓reduceIte, j_lits, J_add, J_sub, J_mul, J_neg, J_le, J_lt, J_eqv, J_div, J_imax, J_imin, JA_get, JG, JA_upd, LET, Option.bind_some, lt_T, lt_F, le_T, le_F, eq_T, eq_F, and_true, true_and, Int.sub_neg, Int.natCast_add, n_lits]
  · try dsimp only
    obtain ⟨TT, rfl, -⟩ := JA_ex tip
    refine WP.bind (P0 := fun e => ∃ T : Int → Int, e.1 = JA T ∧ ∀ q : Int, 0 ≤ q → q < NP G → T q = TP G q) ?_ ?_
    · refine lp_wp (fun m s => (m : Int) ≤ NP G ∧ s.2.2.2.2.2.2.2.2.2.2 = J m ∧ ∃ T : Int → Int, s.1 = JA T ∧ ∀ q : Int, 0 ≤ q → q < m → T q = TP G q) (NP G).toNat (by omega) ⟨by omega, rfl, TT, rfl, fun q q0 q1 => by omega⟩ (fun m s hm hI => ?_)
      obtain ⟨i1, i2, T, i3, i4⟩ := hI
      by_cases q : (m : Int) = NP G
      · refine WP.eq (a := .inr (s.1, s.2.1, s.2.2.1, s.2.2.2.1, s.2.2.2.2.1, s.2.2.2.2.2.1, s.2.2.2.2.2.2.1, s.2.2.2.2.2.2.2.1, s.2.2.2.2.2.2.2.2.1, s.2.2.2.2.2.2.2.2.2.1)) ?_ (Or.inr ⟨_, rfl, T, i3, fun q q0 q1 => i4 q q0 (by omega)⟩)
        unfold f_X5_survey_B81
        rw [i2, if_pos (by rw [J_le (by omega)]; omega)]
      · unfold f_X5_survey_B81
        rw [i2, if_neg (by rw [J_le (by omega)]; omega)]
        obtain ⟨VS, hVS, -⟩ := JA_ex s.2.2.2.2.2.2.2.2.2.1
        rw [hVS]
        refine WP.ob (e_readPose hl hr (p := m) (by omega)) ?_
        refine WP.bind (w_along_row (v := DV G m) hl hw hln (fun k k0 k1 => if_pos ⟨k0, k1⟩) hb _ _ _ _ _ _ _ _) fun o ho => ?_
        obtain ⟨f, l, g1, g2, g3, g4⟩ := ho
        have g5 := FS_c g1
        have fin : ∀ t : Int, t = TP G m → ∀ (a1 a2 a3 a4 : Int32) (b1 b2 b3 b4 b5 : Nat → Int32), WP (f_X5_survey_L146 (J 0) (J (NP G)) (J (G 0)) (JA (SPf G (nn G) SP)) (JA (STf G (nn G) STR)) s.1 a1 a2 a3 a4 b1 b2 b3 b4 b5 (J (G 0)) (JA ln) (JA lo) (JA hi) (JA BL) (J m) (J m) (J t)) (fun q => (∃ s', q = .inl s' ∧ m < (NP G).toNat ∧ (((m + 1 : Nat) : Int) ≤ NP G ∧ s'.2.2.2.2.2.2.2.2.2.2 = J ((m + 1 : Nat) : Int) ∧ ∃ T : Int → Int, s'.1 = JA T ∧ ∀ q : Int, 0 ≤ q → q < ((m + 1 : Nat) : Int) → T q = TP G q)) ∨ ∃ e, q = .inr e ∧ ∃ T : Int → Int, e.1 = JA T ∧ ∀ q : Int, 0 ≤ q → q < NP G → T q = TP G q) := by
          intro t ht a1 a2 a3 a4 b1 b2 b3 b4 b5
          refine WP.eq (a := .inl (JA (up T m t), a1, a2, a3, a4, b1, b2, b3, b4, b5, J (m + 1))) ?_ (Or.inl ⟨_, rfl, by omega, by omega, rfl, up T m t, rfl, fun q q0 q1 => ?_⟩)
          · rw [i3]
            unfold f_X5_survey_L146
            simp (disch := omega) only [↓reduceIte, j_lits, J_add, J_sub, J_mul, J_neg, J_le, J_lt, J_eqv, J_div, J_imax, J_imin, JA_get, JG, JA_upd, LET, Option.bind_some, lt_T, lt_F, le_T, le_F, eq_T, eq_F, and_true, true_and, Int.sub_neg, Int.natCast_add, n_lits]
          · by_cases z : q = m
            · rw [z, up_same, ht]
            · rw [up_ne _ _ z]
              exact i4 q q0 (by omega)
        by_cases z : f = 0
        · have z1 : FR G (DV G m) := (FR_of g1).mpr z
          rw [g2, if_pos (by rw [z]; rfl), g3, g4]
          refine WP.ob (e_cellNumber _ _) ?_
          exact fin _ (TP_free z1).symm _ _ _ _ _ _ _ _ _
        · have z1 : ¬ FR G (DV G m) := fun w => z ((FR_of g1).mp w)
          rw [g2, if_neg (by rw [show (0 : Int32) = J 0 from rfl, J_eqv (by omega)]; exact z)]
          exact fin (-1) (TP_not z1).symm _ _ _ _ _ _ _ _ _
    · rintro e ⟨T, h8, h9⟩
      exact WP.ret ⟨rfl, rfl, rfl, _, _, T, rfl, rfl, h8, SPf_ok hl SP STR, h9⟩
/-! the reference -/
theorem nar0 : vp_nar .boolean (J 0) = J 0 := rfl
theorem nar1 : vp_nar .boolean (J 1) = J 1 := rfl
noncomputable def FRI (G : Int → Int) (p : Int) : Int := if 0 ≤ TP G p then 1 else 0
theorem w_isFree8 (hl : WL G) (hw : WS G) (hp : 0 ≤ p ∧ p < NP G) (fa : Int32) (po wy px py : Nat → Int32) (hx : Z0 px) (hy : Z0 py) :
    WP (f_X8_isFree fa (JA G) po wy px py (J p)) (fun o => ∃ (f : Int) (l : Nat) (W X Y : Int → Int), FS G (DV G p) f l ∧ o.1 = J (FRI G p) ∧ (o.2.2.2.1 = JA W ∧ o.2.2.2.2.1 = JA X ∧ o.2.2.2.2.2 = JA Y) ∧ LAID G (DV G p) W X Y ∧ X 0 = 0 ∧ Y 0 = 0 ∧ (¬ f = 0 → o.2.1 = J l)) := by
  obtain ⟨F, rfl, -⟩ := JA_ex po
  obtain ⟨W, rfl, -⟩ := JA_ex wy
  obtain ⟨X, rfl, hx⟩ := hx
  obtain ⟨Y, rfl, hy⟩ := hy
  obtain ⟨F', W', X', Y', h1, h2, h3, h4, h5⟩ := e_takes (F := F) (way := W) hl hx hy hp
  obtain ⟨f, l, h6⟩ := FS_ex G (DV G p)
  have h7 := LAID_congr h2 h3
  have h8 := e_faultHere (fa := fa.toInt) hl hw h7 h6
  rw [J_of] at h8
  have h9 := FS_c h6
  have h10 := TP_two G p
  unfold f_X8_isFree
  refine WP.ob h1 ?_
  try dsimp only
  refine WP.ob h8 ?_
  try dsimp only
  by_cases q : f = 0
  · have h11 : FRI G p = 1 := if_pos (by
      have := (FR_of h6).mpr q
      rcases h10 with ⟨-, -, z, -⟩ | ⟨z, -⟩
      · exact z
      · exact absurd this z)
    rw [if_pos (by rw [q]; rfl), h11]
    exact WP.ret ⟨f, l, W', X', Y', h6, rfl, ⟨rfl, rfl, rfl⟩, h7, h4, h5, fun z => absurd q z⟩
  · have h11 : FRI G p = 0 := if_neg (by
      have := fun w => q ((FR_of h6).mp w)
      rcases h10 with ⟨z, -⟩ | ⟨-, z⟩
      · exact absurd z this
      · omega)
    rw [if_neg (by rw [show (0 : Int32) = J 0 from rfl, J_eqv (by omega)]; exact q), h11]
    exact WP.ret ⟨f, l, W', X', Y', h6, rfl, ⟨rfl, rfl, rfl⟩, h7, h4, h5, fun _ => if_neg q ▸ rfl⟩
theorem w_laysAll (hl : WL G) (hw : WS G) (hN : NP G ≤ 5000) (fa : Int32) (po wy px py fr ti : Nat → Int32) (hx : Z0 px) (hy : Z0 py) :
    WP (f_X8_laysAll fa (JA G) po wy px py fr ti) (fun o => (Z0 o.2.2.2.1 ∧ Z0 o.2.2.2.2.1) ∧ ∃ A T : Int → Int, o.2.2.2.2.2.1 = JA A ∧ o.2.2.2.2.2.2 = JA T ∧ (∀ q : Int, 0 ≤ q → q < NP G → A q = FRI G q ∧ T q = TP G q)) := by
  have h0 := hl.1
  have h1 := nn_eq hl
  have hP := NP_b hl
  obtain ⟨A, rfl, -⟩ := JA_ex fr
  obtain ⟨T, rfl, -⟩ := JA_ex ti
  unfold f_X8_laysAll
  refine WP.bind (P0 := fun e => (Z0 e.2.2.2.1 ∧ Z0 e.2.2.2.2.1) ∧ ∃ A T : Int → Int, e.2.2.2.2.2.1 = JA A ∧ e.2.2.2.2.2.2 = JA T ∧ (∀ q : Int, 0 ≤ q → q < NP G → A q = FRI G q ∧ T q = TP G q)) ?_ (fun e he => WP.ret he)
  refine lp_wp (fun m s => (m : Int) ≤ NP G ∧ s.2.2.2.2.2.2.2 = J m ∧ (Z0 s.2.2.2.1 ∧ Z0 s.2.2.2.2.1) ∧ ∃ A T : Int → Int, s.2.2.2.2.2.1 = JA A ∧ s.2.2.2.2.2.2.1 = JA T ∧ (∀ q : Int, 0 ≤ q → q < m → A q = FRI G q ∧ T q = TP G q)) (NP G).toNat (by omega) ⟨by omega, rfl, ⟨hx, hy⟩, A, T, rfl, rfl, fun q q0 q1 => by omega⟩ (fun m s hm hI => ?_)
  obtain ⟨i1, i2, i5, A, T, i3, i6, i4⟩ := hI
  unfold f_X8_laysAll_B2
  refine WP.ob (e_poses8 hl) ?_
  try dsimp only
  by_cases q : (m : Int) = NP G
  · rw [i2, if_pos (by rw [J_le (by omega)]; omega)]
    exact WP.ret (Or.inr ⟨_, rfl, i5, A, T, i3, i6, fun q q0 q1 => i4 q q0 (by omega)⟩)
  · rw [i2, if_neg (by rw [J_le (by omega)]; omega)]
    refine WP.bind (w_isFree8 (p := m) hl hw (by omega) _ _ _ _ _ i5.1 i5.2) fun o ho => ?_
    obtain ⟨f, l, W, X, Y, g1, g2, ⟨g3, g4, g5⟩, g6, g7, g8, -⟩ := ho
    have g9 := g6.2 (nn G) (by omega)
    have g11 := TP_two G m
    rw [h1] at g9
    have fin : ∀ t : Int, t = TP G m → WP (f_X8_laysAll_L64 o.2.1 (JA G) o.2.2.1 o.2.2.2.1 o.2.2.2.2.1 o.2.2.2.2.2 (JA (up A m (FRI G m))) s.2.2.2.2.2.2.1 (J m) (J m) (J t)) (fun q => (∃ s', q = .inl s' ∧ m < (NP G).toNat ∧ ((m + 1 : Nat) : Int) ≤ NP G ∧ s'.2.2.2.2.2.2.2 = J ((m + 1 : Nat) : Int) ∧ (Z0 s'.2.2.2.1 ∧ Z0 s'.2.2.2.2.1) ∧ ∃ A T : Int → Int, s'.2.2.2.2.2.1 = JA A ∧ s'.2.2.2.2.2.2.1 = JA T ∧ (∀ q : Int, 0 ≤ q → q < ((m + 1 : Nat) : Int) → A q = FRI G q ∧ T q = TP G q))
        ∨ ∃ e, q = .inr e ∧ (Z0 e.2.2.2.1 ∧ Z0 e.2.2.2.2.1) ∧ ∃ A T : Int → Int, e.2.2.2.2.2.1 = JA A ∧ e.2.2.2.2.2.2 = JA T ∧ (∀ q : Int, 0 ≤ q → q < NP G → A q = FRI G q ∧ T q = TP G q)) := by
      intro t ht
      refine WP.eq (a := .inl (o.2.1, o.2.2.1, o.2.2.2.1, o.2.2.2.2.1, o.2.2.2.2.2, JA (up A m (FRI G m)), JA (up T m t), J (m + 1))) ?_ (Or.inl ⟨_, rfl, by omega, by omega, rfl, ⟨⟨X, g4, g7⟩, ⟨Y, g5, g8⟩⟩, _, _, rfl, rfl, fun q q0 q1 => ?_⟩)
      · rw [i6]
        unfold f_X8_laysAll_L64
        simp (disch := omega) only [↓reduceIte, j_lits, J_add, J_sub, J_mul, J_neg, J_le, J_lt, J_eqv, J_div, J_imax, J_imin, JA_get, JG, JA_upd, LET, Option.bind_some, lt_T, lt_F, le_T, le_F, eq_T, eq_F, and_true, true_and, Int.sub_neg, Int.natCast_add, n_lits]
      · by_cases z : q = m
        · rw [z, up_same, up_same, ht]
          exact ⟨rfl, rfl⟩
        · rw [up_ne _ _ z, up_ne _ _ z]
          exact i4 q q0 (by omega)
    rw [i3, g2]
    by_cases z : 0 ≤ TP G m
    · have z1 : FRI G m = 1 := if_pos z
      rw [z1] at fin ⊢
      rw [JG (by omega), nar1, JA_upd _ _ (by omega)]
      simp only [LET]
      rw [JG (by omega), JA_get _ (by omega), up_same, if_neg (by decide), g4, g5]
      rw [g4, g5] at fin
      rw [show (0 : Int32) = J 0 from rfl, JG (by omega), JA_get _ (by omega), JG (by omega), JG (by omega), JG (by omega), JA_get _ (by omega), JA_get _ (by omega), g9.1, g9.2]
      refine WP.ob (e_cellOf _ _) ?_
      try dsimp only
      have g12 : CN (PX G (DV G m) (nn G)) (PY G (DV G m) (nn G)) = TP G m := by
        rcases g11 with ⟨-, w, -⟩ | ⟨-, w⟩
        · exact w.symm
        · omega
      exact fin _ g12
    · have z1 : FRI G m = 0 := if_neg z
      rw [z1] at fin ⊢
      rw [JG (by omega), nar0, JA_upd _ _ (by omega)]
      simp only [LET]
      rw [JG (by omega), JA_get _ (by omega), up_same, if_pos (show J 0 = 0 from rfl)]
      exact fin (-1) (by omega)
end
