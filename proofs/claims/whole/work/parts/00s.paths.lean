/-! the best path to where a search began -/
def NR (nb : Int → Int → Int) (D : Int → Int) (p : Int) (m : Nat) : Prop := 0 ≤ nb p m ∧ D (nb p m) = D p - 1
noncomputable def MVV (nb : Int → Int → Int) (D : Int → Int) (p : Int) : Nat := Classical.epsilon (fun m : Nat => m < 8 ∧ NR nb D p m ∧ ∀ j : Nat, j < m → ¬ NR nb D p j)
noncomputable def PP (nb : Int → Int → Int) (D : Int → Int) (p : Int) : Nat → Int
  | 0 => p
  | k + 1 => nb (PP nb D p k) (MVV nb D (PP nb D p k))
noncomputable def STP (nb : Int → Int → Int) (D : Int → Int) (p : Int) (F : Int → Int) (k : Nat) : Int → Int := fun j => if 0 ≤ j ∧ j < k then MVV nb D (PP nb D p j.toNat) else F j
section
variable {G sp st T A D E F : Int → Int} {N p q d m : Int} {s t : BS} {pr : Int → Bool} {nb : Int → Int → Int}
theorem MV_ok (h : ∃ m : Nat, m < 8 ∧ NR nb D p m) : MVV nb D p < 8 ∧ NR nb D p (MVV nb D p) ∧ ∀ j : Nat, j < MVV nb D p → ¬ NR nb D p j := by
  have h1 : ∃ m : Nat, m < 8 ∧ NR nb D p m ∧ ∀ j : Nat, j < m → ¬ NR nb D p j := first_nat h
  exact Classical.epsilon_spec (p := fun m : Nat => m < 8 ∧ NR nb D p m ∧ ∀ j : Nat, j < m → ¬ NR nb D p j) h1
theorem STP_s (k : Nat) : up (STP nb D p F k) k (MVV nb D (PP nb D p k)) = STP nb D p F (k + 1) := by
  funext j
  unfold STP
  by_cases q : j = k
  · rw [q, up_same, if_pos (by omega), Int.toNat_natCast]
  · rw [up_ne _ _ q]
    by_cases q2 : 0 ≤ j ∧ j < k
    · rw [if_pos q2, if_pos (by omega)]
    · rw [if_neg q2, if_neg (by omega)]
theorem STP_0 : STP nb D p F 0 = F := funext fun j => if_neg (by omega)
theorem SR_NR (hl : WL G) (hp : ∀ p : Int, pr p = true → 0 ≤ TP G p) (h0 : 0 ≤ p ∧ p < NP G) (h : 0 < (SR G pr).1 p) : MVV (NB G) (SR G pr).1 p < 8 ∧ (MVV (NB G) (SR G pr).1 p : Int) < 2 * G 0 ∧ NR (NB G) (SR G pr).1 p (MVV (NB G) (SR G pr).1 p) ∧ (∀ j : Nat, j < MVV (NB G) (SR G pr).1 p → ¬ NR (NB G) (SR G pr).1 p j) ∧ NB G p (MVV (NB G) (SR G pr).1 p) < NP G := by
  obtain ⟨m, h1, h2, h3, h4⟩ := SR_near hl hp h0 h
  obtain ⟨a, b, c⟩ := MV_ok ⟨m, h1, h2, h4⟩
  rcases NB_r hl h0 (m := (MVV (NB G) (SR G pr).1 p : Nat)) (by omega) with z | z
  · have := b.1; omega
  · exact ⟨a, z.1, b, c, z.2.2.2.1⟩
theorem PP_in (hl : WL G) (hp : ∀ p : Int, pr p = true → 0 ≤ TP G p) (h0 : 0 ≤ p ∧ p < NP G) : ∀ k : Nat, (k : Int) ≤ (SR G pr).1 p → (0 ≤ PP (NB G) (SR G pr).1 p k ∧ PP (NB G) (SR G pr).1 p k < NP G) ∧ (SR G pr).1 (PP (NB G) (SR G pr).1 p k) = (SR G pr).1 p - k
  | 0, _ => ⟨h0, by show (SR G pr).1 p = (SR G pr).1 p - ((0 : Nat) : Int); omega⟩
  | k + 1, hk => by
    have h1 := PP_in hl hp h0 k (by omega)
    obtain ⟨a, b, c, e, f⟩ := SR_NR hl hp h1.1 (by omega)
    refine ⟨⟨c.1, f⟩, ?_⟩
    show (SR G pr).1 (NB G (PP (NB G) (SR G pr).1 p k) (MVV (NB G) (SR G pr).1 (PP (NB G) (SR G pr).1 p k))) = _
    rw [c.2]; omega
/-! the class -/
theorem e_nearer (hl : WL G) (hN : NP G ≤ 5000) (hsp : SPN G sp st) (hT : ∀ q : Int, 0 ≤ q → q < NP G → T q = TP G q) (hE : ∀ q : Int, 0 ≤ q → q < NP G → E q = D q) (hD : ∀ q : Int, 0 ≤ q → q < NP G → -1 ≤ D q ∧ D q ≤ 5000) (hp : 0 ≤ p ∧ p < NP G) {m : Nat} (hm : m < 8) :
    (NR (NB G) D p m → f_X5_nearer (J (NP G)) (J (G 0)) (JA sp) (JA st) (JA T) (JA E) (J p) (J m) = some (J (NB G p m))) ∧ (¬ NR (NB G) D p m → f_X5_nearer (J (NP G)) (J (G 0)) (JA sp) (JA st) (JA T) (JA E) (J p) (J m) = some (J (-1))) := by
  have hP := NP_b hl
  have hT2 : ∀ q : Int, 0 ≤ q → q < NP G → -1 ≤ T q ∧ T q ≤ 440 := fun q a b => by rw [hT q a b]; exact TP_b G q
  have hx := e_after hl hsp hN hT2 hp (m := m) (by omega)
  rw [NX_T hl hT hp (by omega)] at hx
  have h1 := hE p hp.1 hp.2
  have h2 := hD p hp.1 hp.2
  unfold NR
  rcases NB_r hl hp (m := m) (by omega) with z | ⟨z1, z2, z3, z4, z5⟩
  · refine ⟨fun w => by omega, fun _ => ?_⟩
    unfold f_X5_nearer
    refine ob _ hx ?_
    rw [z]; rfl
  · have h3 := hE _ z3 z4
    have h4 := hD _ z3 z4
    refine ⟨fun w => ?_, fun w => ?_⟩
    · unfold f_X5_nearer
      refine ob _ hx ?_
      rw [if_neg (by rw [show (0 : Int32) = J 0 from rfl, J_lt (by omega)]; omega)]
      refine ob _ (e_distanceOf (by omega)) ?_
      refine ob _ (e_distanceOf (by omega)) ?_
      rw [h1, h3, show (1 : Int32) = J 1 from rfl, J_sub]
      exact if_pos (congrArg J w.2)
    · have w : ¬ D (NB G p m) = D p - 1 := fun y => w ⟨z3, y⟩
      unfold f_X5_nearer
      refine ob _ hx ?_
      rw [if_neg (by rw [show (0 : Int32) = J 0 from rfl, J_lt (by omega)]; omega)]
      refine ob _ (e_distanceOf (by omega)) ?_
      refine ob _ (e_distanceOf (by omega)) ?_
      rw [h1, h3, show (1 : Int32) = J 1 from rfl, J_sub]
      exact if_neg (by rw [J_eqv (by omega)]; exact w)
theorem e_add {k : Nat} (hk : k < 5000) (x : Int) : f_X3_add (J k) (JA F) (J x) = some (J ((k + 1 : Nat) : Int), JA (up F k x)) := by
  unfold f_X3_add
  simp (disch := omega) only [↓reduceIte, j_lits, J_add, J_sub, J_mul, J_neg, J_le, J_lt, J_eqv, J_div, J_imax, J_imin, JA_get, JG, JA_upd, LET, Option.bind_some, lt_T, lt_F, le_T, le_F, eq_T, eq_F, and_true, true_and, Int.sub_neg, Int.natCast_add, n_lits]
theorem e_descend (hl : WL G) (hN : NP G ≤ 5000) (hsp : SPN G sp st) (hT : ∀ q : Int, 0 ≤ q → q < NP G → T q = TP G q) (hp : ∀ p : Int, pr p = true → 0 ≤ TP G p) (hE : ∀ q : Int, 0 ≤ q → q < NP G → E q = (SR G pr).1 q) (h0 : 0 ≤ p ∧ p < NP G) (hd : 0 ≤ (SR G pr).1 p) :
    f_X5_descend (J (NP G)) (J (G 0)) (JA sp) (JA st) (JA T) (JA E) (J p) (J 0) (JA F) = some (J ((SR G pr).1 p), JA (STP (NB G) (SR G pr).1 p F ((SR G pr).1 p).toNat)) := by
  have hP := NP_b hl
  have hD : ∀ q : Int, 0 ≤ q → q < NP G → -1 ≤ (SR G pr).1 q ∧ (SR G pr).1 q ≤ 5000 := fun q a b => by have := SR_d hl hp ⟨a, b⟩; omega
  have hb := SR_d hl hp h0
  unfold f_X5_descend
  refine ob _ (e_distanceOf (by omega)) ?_
  rw [hE p h0.1 h0.2]
  refine lp_bind (fun k : Nat => (J k, JA (STP (NB G) (SR G pr).1 p F k), J (PP (NB G) (SR G pr).1 p k), J ((SR G pr).1 p - k))) ((SR G pr).1 p).toNat ?_ (by omega) (fun k hk => ?_) (e := (J ((SR G pr).1 p), JA (STP (NB G) (SR G pr).1 p F ((SR G pr).1 p).toNat))) ?_ rfl
  · rw [STP_0]
    exact pr2 rfl (pr2 rfl (pr2 rfl (congrArg J (by omega))))
  · have h1 := PP_in hl hp h0 k (by omega)
    obtain ⟨a, b, c, e, f⟩ := SR_NR hl hp h1.1 (by omega)
    unfold f_X5_descend_B11
    dsimp only
    rw [if_neg (by rw [show (0 : Int32) = J 0 from rfl, J_le (by omega)]; omega)]
    refine ob (J (MVV (NB G) (SR G pr).1 (PP (NB G) (SR G pr).1 p k))) ?_ ?_
    · refine lp_for (fun j : Nat => J j) (MVV (NB G) (SR G pr).1 (PP (NB G) (SR G pr).1 p k)) rfl (by omega) (fun j hj => ?_) ?_
      · unfold f_X5_descend_B18
        rw [if_neg (by rw [show (7 : Int32) = J 7 from rfl, J_le (by omega)]; omega)]
        refine ob _ ((e_nearer hl hN hsp hT hE hD h1.1 (m := j) (by omega)).2 (e j hj)) ?_
        simp (disch := omega) only [↓reduceIte, j_lits, J_add, J_sub, J_mul, J_neg, J_le, J_lt, J_eqv, J_div, J_imax, J_imin, JA_get, JG, JA_upd, LET, Option.bind_some, lt_T, lt_F, le_T, le_F, eq_T, eq_F, and_true, true_and, Int.sub_neg, Int.natCast_add, n_lits]
      · unfold f_X5_descend_B18
        by_cases z : 7 ≤ MVV (NB G) (SR G pr).1 (PP (NB G) (SR G pr).1 p k)
        · rw [if_pos (by rw [show (7 : Int32) = J 7 from rfl, J_le (by omega)]; omega)]
        · rw [if_neg (by rw [show (7 : Int32) = J 7 from rfl, J_le (by omega)]; omega)]
          refine ob _ ((e_nearer hl hN hsp hT hE hD h1.1 a).1 c) ?_
          have c1 := c.1
          rw [if_pos (by rw [show (0 : Int32) = J 0 from rfl, J_le (by omega)]; exact c.1)]
    · refine ob _ (e_add (by omega) _) ?_
      refine ob _ ((e_nearer hl hN hsp hT hE hD h1.1 a).1 c) ?_
      simp only [LET]
      rw [STP_s, show (-1 : Int32) = J (-1) from rfl, J_add, show (SR G pr).1 p - (k : Int) + -1 = (SR G pr).1 p - ((k + 1 : Nat) : Int) by omega]
      rfl
  · have e1 : ((((SR G pr).1 p).toNat : Nat) : Int) = (SR G pr).1 p := by omega
    unfold f_X5_descend_B11
    dsimp only
    rw [if_pos (by rw [show (0 : Int32) = J 0 from rfl, J_le (by omega)]; omega), e1]
/-! the reference -/
theorem e_isNearer (hl : WL G) (hN : NP G ≤ 5000) (hA : ∀ q : Int, 0 ≤ q → q < NP G → A q = FRI G q) (hE : ∀ q : Int, 0 ≤ q → q < NP G → E q = D q) (hD : ∀ q : Int, 0 ≤ q → q < NP G → -1 ≤ D q ∧ D q ≤ 5000) (hp : 0 ≤ p ∧ p < NP G) {m : Nat} (hm : (m : Int) < 2 * G 0) :
    (NR (NB G) D p m → f_X8_isNearer (JA G) (JA A) (JA E) (J p) (J m) = some (J 1)) ∧ (¬ NR (NB G) D p m → f_X8_isNearer (JA G) (JA A) (JA E) (J p) (J m) = some (J 0)) := by
  have hP := NP_b hl
  have h0 := hl.1
  have h1 := hE p hp.1 hp.2
  have h2 := hD p hp.1 hp.2
  have hb := e_behind hl hp (m := m) (by omega)
  have hlt := BH_lt hl (m := m) (by omega) (by omega) hp
  unfold f_X8_isNearer NR
  by_cases z1 : BH G p m < 0
  · have e1 : NB G p m = -1 := if_neg (by omega)
    refine ⟨fun w => by omega, fun _ => ob _ hb ?_⟩
    simp (disch := omega) only [↓reduceIte, j_lits, J_add, J_sub, J_mul, J_neg, J_le, J_lt, J_eqv, J_div, J_imax, J_imin, JA_get, JG, JA_upd, LET, Option.bind_some, lt_T, lt_F, le_T, le_F, eq_T, eq_F, and_true, true_and, Int.sub_neg, Int.natCast_add, n_lits]
  · have hbb : BH G p m < NP G := BH_b hl hp (by omega) (by omega) (by omega)
    have hA1 := hA (BH G p m) (by omega) hbb
    have h3 := hE (BH G p m) (by omega) hbb
    have h4 := hD (BH G p m) (by omega) hbb
    rcases FRI_c G (BH G p m) with ⟨e1, e2⟩ | ⟨e1, e2⟩
    · have e3 : NB G p m = BH G p m := if_pos (by omega)
      rw [e3]
      refine ⟨fun w => ob _ hb ?_, fun w => ob _ hb ?_⟩
      · simp (disch := omega) only [↓reduceIte, j_lits, J_add, J_sub, J_mul, J_neg, J_le, J_lt, J_eqv, J_div, J_imax, J_imin, JA_get, JG, JA_upd, LET, Option.bind_some, lt_T, lt_F, le_T, le_F, eq_T, eq_F, and_true, true_and, Int.sub_neg, Int.natCast_add, n_lits, hA1, e1, h1, h3]
      · have w : ¬ D (BH G p m) = D p - 1 := fun y => w ⟨by omega, y⟩
        simp (disch := omega) only [↓reduceIte, j_lits, J_add, J_sub, J_mul, J_neg, J_le, J_lt, J_eqv, J_div, J_imax, J_imin, JA_get, JG, JA_upd, LET, Option.bind_some, lt_T, lt_F, le_T, le_F, eq_T, eq_F, and_true, true_and, Int.sub_neg, Int.natCast_add, n_lits, hA1, e1, h1, h3]
    · have e3 : NB G p m = -1 := if_neg (by omega)
      rw [e3]
      refine ⟨fun w => by omega, fun _ => ob _ hb ?_⟩
      simp (disch := omega) only [↓reduceIte, j_lits, J_add, J_sub, J_mul, J_neg, J_le, J_lt, J_eqv, J_div, J_imax, J_imin, JA_get, JG, JA_upd, LET, Option.bind_some, lt_T, lt_F, le_T, le_F, eq_T, eq_F, and_true, true_and, Int.sub_neg, Int.natCast_add, n_lits, hA1, e1]
theorem HN_now (hw : WF G) : 0 ≤ HN G (GV G) (nn G) ∧ HN G (GV G) (nn G) < NP G := by
  have h1 := nn_eq hw.1
  exact HN_b hw.1 hw.2.1 (nn G) (by omega)
theorem e_leads_no (hw : WF G) (hN : NP G ≤ 5000) (hA : ∀ q : Int, 0 ≤ q → q < NP G → A q = FRI G q) (hp : ∀ p : Int, pr p = true → 0 ≤ TP G p) (hE : ∀ q : Int, 0 ≤ q → q < NP G → E q = (SR G pr).1 q) (hd : (SR G pr).1 (HN G (GV G) (nn G)) < 0) (pm spt : Int32) :
    f_X8_leads pm spt (JA G) (JA F) (JA A) (JA E) = some (J 0, pm, spt, JA F) := by
  have hl := hw.1
  have hP := NP_b hl
  have h0 := HN_now hw
  have h1 := SR_d hl hp h0
  have h2 := hE _ h0.1 h0.2
  have hA1 := hA _ h0.1 h0.2
  unfold f_X8_leads
  refine ob _ (e_numberNow hl) ?_
  rcases FRI_c G (HN G (GV G) (nn G)) with ⟨e1, e2⟩ | ⟨e1, e2⟩
  · simp (disch := omega) only [↓reduceIte, j_lits, J_add, J_sub, J_mul, J_neg, J_le, J_lt, J_eqv, J_div, J_imax, J_imin, JA_get, JG, JA_upd, LET, Option.bind_some, lt_T, lt_F, le_T, le_F, eq_T, eq_F, and_true, true_and, Int.sub_neg, Int.natCast_add, n_lits, hA1, e1, h2]
  · simp (disch := omega) only [↓reduceIte, j_lits, J_add, J_sub, J_mul, J_neg, J_le, J_lt, J_eqv, J_div, J_imax, J_imin, JA_get, JG, JA_upd, LET, Option.bind_some, lt_T, lt_F, le_T, le_F, eq_T, eq_F, and_true, true_and, Int.sub_neg, Int.natCast_add, n_lits, hA1, e1]
theorem e_leads (hw : WF G) (hN : NP G ≤ 5000) (hA : ∀ q : Int, 0 ≤ q → q < NP G → A q = FRI G q) (hp : ∀ p : Int, pr p = true → 0 ≤ TP G p) (hE : ∀ q : Int, 0 ≤ q → q < NP G → E q = (SR G pr).1 q) (hd : 0 ≤ (SR G pr).1 (HN G (GV G) (nn G))) (pm spt : Int32) :
    f_X8_leads pm spt (JA G) (JA F) (JA A) (JA E) = some (J 1, J ((SR G pr).1 (HN G (GV G) (nn G))), J 0, JA (STP (NB G) (SR G pr).1 (HN G (GV G) (nn G)) F ((SR G pr).1 (HN G (GV G) (nn G))).toNat)) := by
  have hl := hw.1
  have hG := hl.1
  have hP := NP_b hl
  have h0 := HN_now hw
  have h1 := SR_d hl hp h0
  have h2 := hE _ h0.1 h0.2
  have hA1 := hA _ h0.1 h0.2
  have hD : ∀ q : Int, 0 ≤ q → q < NP G → -1 ≤ (SR G pr).1 q ∧ (SR G pr).1 q ≤ 5000 := fun q a b => by have := SR_d hl hp ⟨a, b⟩; omega
  have hF : FRI G (HN G (GV G) (nn G)) = 1 := if_pos (h1.2.2 hd)
  rw [hF] at hA1
  unfold f_X8_leads
  refine ob _ (e_numberNow hl) ?_
  generalize HN G (GV G) (nn G) = p at *
  rw [JG (by omega), JA_get _ (by omega), hA1, if_neg (by decide), JG (by omega), if_pos (by rw [JA_get _ (by omega), h2, show (0 : Int32) = J 0 from rfl, J_le (by omega)]; exact hd)]
  refine lp_bind (fun k : Nat => (J k, JA (STP (NB G) (SR G pr).1 p F k), J (PP (NB G) (SR G pr).1 p k))) ((SR G pr).1 p).toNat ?_ (by omega) (fun k hk => ?_) (e := (J ((SR G pr).1 p), JA (STP (NB G) (SR G pr).1 p F ((SR G pr).1 p).toNat))) ?_ rfl
  · rw [STP_0]
    rfl
  · have h1 := PP_in hl hp h0 k (by omega)
    obtain ⟨a, b, c, e, f⟩ := SR_NR hl hp h1.1 (by omega)
    have h3 := hE _ h1.1.1 h1.1.2
    have h4 := e_behind hl h1.1 (m := (MVV (NB G) (SR G pr).1 (PP (NB G) (SR G pr).1 p k) : Nat)) (by omega)
    have h5 : NB G (PP (NB G) (SR G pr).1 p k) (MVV (NB G) (SR G pr).1 (PP (NB G) (SR G pr).1 p k)) = BH G (PP (NB G) (SR G pr).1 p k) (MVV (NB G) (SR G pr).1 (PP (NB G) (SR G pr).1 p k)) := by
      rcases NB_r hl h1.1 (m := (MVV (NB G) (SR G pr).1 (PP (NB G) (SR G pr).1 p k) : Nat)) (by omega) with z | z
      · have := c.1; omega
      · exact z.2.1
    unfold f_X8_leads_B35
    dsimp only
    rw [JG (by omega), if_neg (by rw [JA_get _ (by omega), h3, show (0 : Int32) = J 0 from rfl, J_le (by omega)]; omega)]
    refine ob (J (MVV (NB G) (SR G pr).1 (PP (NB G) (SR G pr).1 p k))) ?_ ?_
    · refine lp_for (fun j : Nat => J j) (MVV (NB G) (SR G pr).1 (PP (NB G) (SR G pr).1 p k)) rfl (by omega) (fun j hj => ?_) ?_
      · unfold f_X8_leads_B46
        refine ob _ ((e_isNearer hl hN hA hE hD h1.1 (m := j) (by omega)).2 (e j hj)) ?_
        simp (disch := omega) only [↓reduceIte, j_lits, J_add, J_sub, J_mul, J_neg, J_le, J_lt, J_eqv, J_div, J_imax, J_imin, JA_get, JG, JA_upd, LET, Option.bind_some, lt_T, lt_F, le_T, le_F, eq_T, eq_F, and_true, true_and, Int.sub_neg, Int.natCast_add, n_lits]
      · unfold f_X8_leads_B46
        refine ob _ ((e_isNearer hl hN hA hE hD h1.1 b).1 c) ?_
        rw [if_neg (by decide)]
    · rw [JG (by omega), JA_upd _ _ (by omega), STP_s]
      simp only [LET]
      refine ob _ h4 ?_
      rw [← h5, show (1 : Int32) = J 1 from rfl, J_add]
      rfl
  · have e1 : ((((SR G pr).1 p).toNat : Nat) : Int) = (SR G pr).1 p := by omega
    have h3 := PP_in hl hp h0 ((SR G pr).1 p).toNat (by omega)
    have h4 := hE _ h3.1.1 h3.1.2
    unfold f_X8_leads_B35
    dsimp only
    rw [JG (by omega), if_pos (by rw [JA_get _ (by omega), h4, show (0 : Int32) = J 0 from rfl, J_le (by omega)]; omega), e1]
end
