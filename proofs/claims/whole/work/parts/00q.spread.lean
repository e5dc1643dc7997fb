/-! both sides' searches -/
noncomputable def NB (G : Int → Int) : Int → Int → Int := NX G (TP G)
section
variable {G sp st T A : Int → Int} {N p q d m : Int} {s t : BS} {nb : Int → Int → Int}
theorem NX_T (hl : WL G) (hT : ∀ q : Int, 0 ≤ q → q < NP G → T q = TP G q) (hp : 0 ≤ p ∧ p < NP G) (hm : 0 ≤ m) : NX G T p m = NB G p m := by
  unfold NB NX
  by_cases z : m < 2 * G 0 ∧ 0 ≤ BH G p m
  · rw [hT (BH G p m) z.2 (BH_b hl hp hm z.1 z.2)]
  · rw [if_neg (fun w => z ⟨w.1, w.2.1⟩), if_neg (fun w => z ⟨w.1, w.2.1⟩)]
theorem NB_r (hl : WL G) (hp : 0 ≤ p ∧ p < NP G) (hm : 0 ≤ m) : NB G p m = -1 ∨ (m < 2 * G 0 ∧ NB G p m = BH G p m ∧ 0 ≤ NB G p m ∧ NB G p m < NP G ∧ 0 ≤ TP G (NB G p m)) := by
  rcases NX_r (T := TP G) hl hp hm with h | ⟨h1, h2, h3, h4, h5⟩
  · exact Or.inl h
  · exact Or.inr ⟨h1, h2, by unfold NB; rw [h2]; exact h3, by unfold NB; rw [h2]; exact h4, by unfold NB; rw [h2]; exact h5⟩
theorem NB_n (hl : WL G) : ∀ p m : Int, 0 ≤ p → p < NP G → 0 ≤ m → m < 8 → 0 ≤ NB G p m → NB G p m < NP G := by
  intro p m h0 h1 m0 m1 h
  rcases NB_r hl ⟨h0, h1⟩ m0 with z | z
  · omega
  · exact z.2.2.2.1
theorem NB_sym (hl : WL G) (hp : 0 ≤ p ∧ p < NP G) (hf : 0 ≤ TP G p) (hm : 0 ≤ m ∧ m < 8) (h : 0 ≤ NB G p m) : (0 ≤ RV m ∧ RV m < 8) ∧ NB G (NB G p m) (RV m) = p := by
  have h0 := hl.1
  rcases NB_r hl hp hm.1 with z | ⟨z1, z2, z3, z4, z5⟩
  · omega
  · have h1 := RV_b hm.1 z1
    have h2 := BH_RV hl hp hm.1 z1 (by omega)
    rw [← z2] at h2
    refine ⟨by omega, ?_⟩
    rw [show NB G (NB G p m) (RV m) = NX G (TP G) (NB G p m) (RV m) from rfl]
    unfold NX
    rw [h2, if_pos (by omega)]
theorem e_reach (hN : 0 ≤ N ∧ N ≤ 5000) (hs : OK N s) (hq : q = -1 ∨ (0 ≤ q ∧ q < N ∧ 0 ≤ T q ∧ T q ≤ 440)) : f_X5_reach (J N) (J s.2.2) (JA T) (JA s.1) (JA s.2.1) (J q) (J d) = some (J (tryq s q d).2.2, JA (tryq s q d).1, JA (tryq s q d).2.1) := by
  have hc := ok_le hs hN.1
  unfold f_X5_reach
  rcases hq with e | ⟨h1, h2, h3, h4⟩
  · subst e
    refine ob _ (e_isPose0 (by omega)) ?_
    unfold tryq
    rw [if_neg (show ¬ (0 ≤ (-1 : Int) ∧ s.1 (-1) < 0) from fun w => by omega), if_pos (show J 0 = 0 from rfl)]
  · have h5 := (hs.2.1 q h1 h2)
    refine ob _ (e_isPose1 (by omega)) ?_
    unfold tryq
    by_cases z : s.1 q < 0
    · have h6 : ¬ (s.2.2 : Int) = N := by
        intro e
        have h8 : OK N (adds s q 0) := ok_adds hs ⟨h1, h2⟩ z (by omega)
        have h7 := ok_le h8 hN.1
        have h9 : (adds s q 0).2.2 = s.2.2 + 1 := rfl
        omega
      rw [if_pos (show 0 ≤ q ∧ s.1 q < 0 from ⟨h1, z⟩)]
      simp (disch := omega) only [↓reduceIte, j_lits, J_add, J_sub, J_mul, J_neg, J_le, J_lt, J_eqv, J_div, J_imax, J_imin, JA_get, JG, JA_upd, LET, Option.bind_some, lt_T, lt_F, le_T, le_F, eq_T, eq_F, and_true, true_and, Int.sub_neg, Int.natCast_add, n_lits]
      rfl
    · have h7 : s.1 q ≤ 5000 := by
        obtain ⟨j, j1, j2⟩ := h5.2 (by omega)
        have := hs.1 j j1
        rw [j2] at this
        omega
      rw [if_neg (show ¬ (0 ≤ q ∧ s.1 q < 0) from fun w => z w.2)]
      simp (disch := omega) only [↓reduceIte, j_lits, J_add, J_sub, J_mul, J_neg, J_le, J_lt, J_eqv, J_div, J_imax, J_imin, JA_get, JG, JA_upd, LET, Option.bind_some, lt_T, lt_F, le_T, le_F, eq_T, eq_F, and_true, true_and, Int.sub_neg, Int.natCast_add, n_lits]
theorem e_reach_no (hN : 0 ≤ N ∧ N ≤ 5000) (hq : 0 ≤ q ∧ q < N ∧ T q = -1) (c D Q : Int → Int) (k : Int) : f_X5_reach (J N) (J k) (JA T) (JA D) (JA Q) (J q) (J d) = some (J k, JA D, JA Q) := by
  unfold f_X5_reach
  refine ob _ (e_isPose1 (by omega)) ?_
  simp (disch := omega) only [↓reduceIte, j_lits, J_add, J_sub, J_mul, J_neg, J_le, J_lt, J_eqv, J_div, J_imax, J_imin, JA_get, JG, JA_upd, LET, Option.bind_some, lt_T, lt_F, le_T, le_F, eq_T, eq_F, and_true, true_and, Int.sub_neg, Int.natCast_add, n_lits, hq.2.2]
theorem e_spread_in (hl : WL G) (hN : NP G ≤ 5000) (hsp : SPN G sp st) (hT : ∀ q : Int, 0 ≤ q → q < NP G → T q = TP G q) (hs : OK (NP G) s) {i : Nat} (hi : i < s.2.2) (z2 : Int32) :
    LPF (fun z => f_X5_spread_B31 (J (NP G)) (J (G 0)) z.1 (JA sp) (JA st) (JA T) z.2.1 z.2.2.1 z2 (J (s.2.1 i)) z.2.2.2) lfuel (J s.2.2, JA s.1, JA s.2.1, J 0) = some (J (vism (NB G) (s.2.1 i) (s.1 (s.2.1 i) + 1) 8 s).2.2, JA (vism (NB G) (s.2.1 i) (s.1 (s.2.1 i) + 1) 8 s).1, JA (vism (NB G) (s.2.1 i) (s.1 (s.2.1 i) + 1) 8 s).2.1) := by
  have hP := NP_b hl
  have hI := hs.1 i hi
  have hT2 : ∀ q : Int, 0 ≤ q → q < NP G → -1 ≤ T q ∧ T q ≤ 440 := fun q a b => by rw [hT q a b]; exact TP_b G q
  refine lp_for (fun k : Nat => (J (vism (NB G) (s.2.1 i) (s.1 (s.2.1 i) + 1) k s).2.2, JA (vism (NB G) (s.2.1 i) (s.1 (s.2.1 i) + 1) k s).1, JA (vism (NB G) (s.2.1 i) (s.1 (s.2.1 i) + 1) k s).2.1, J k)) 8 rfl (by omega) (fun k hk => ?_) ?_
  · obtain ⟨g1, g2, g3, g4⟩ := vism_keep (nb := NB G) hs hi (NB_n hl) k (by omega)
    have hq := NB_r hl hI.1 (m := k) (by omega)
    have hx := e_after hl hsp hN hT2 hI.1 (m := k) (by omega)
    rw [NX_T hl hT hI.1 (by omega)] at hx
    have hr := e_reach (T := T) (d := s.1 (s.2.1 i) + 1) (q := NB G (s.2.1 i) k) ⟨by omega, hN⟩ g1 (by
      rcases hq with z | ⟨z1, z2, z3, z4, z5⟩
      · exact Or.inl z
      · have := TP_b G (NB G (s.2.1 i) k)
        refine Or.inr ⟨z3, z4, ?_⟩
        rw [hT _ z3 z4]
        omega)
    unfold f_X5_spread_B31
    rw [if_neg (by rw [show (8 : Int32) = J 8 from rfl, J_le (by omega)]; omega)]
    refine ob _ hx ?_
    refine ob _ (e_distanceOf (by omega)) ?_
    rw [g4, show (1 : Int32) = J 1 from rfl, J_add]
    refine ob _ hr ?_
    simp only [LET, J_add]
    rfl
  · unfold f_X5_spread_B31
    exact if_pos (show (8 : Int32) ≤ J 8 from by decide)
theorem e_spread_go (hl : WL G) (hN : NP G ≤ 5000) (hsp : SPN G sp st) (hT : ∀ q : Int, 0 ≤ q → q < NP G → T q = TP G q) : ∀ (f i : Nat) (s : BS) (g : Nat), OK (NP G) s → NP G < (f : Int) + i → (i : Int) ≤ NP G + 1 → f < g →
    LPF (fun z => f_X5_spread_B6 (J (NP G)) (J (G 0)) z.1 (JA sp) (JA st) (JA T) z.2.1 z.2.2.1 z.2.2.2) g (J s.2.2, JA s.1, JA s.2.1, J i) = some (J (spr (NB G) f i s).2.2, JA (spr (NB G) f i s).1, JA (spr (NB G) f i s).2.1)
  | 0, i, s, g + 1, hs, hf, hi2, hg => by
    have hP := NP_b hl
    have hc := ok_le hs (by omega)
    refine lpf_e ?_
    unfold f_X5_spread_B6
    rw [if_pos (by rw [J_le (by omega)]; omega)]
    rfl
  | f + 1, i, s, g + 1, hs, hf, hi2, hg => by
    have hP := NP_b hl
    have hc := ok_le hs (by omega)
    by_cases z : i < s.2.2
    · rw [show spr (NB G) (f + 1) i s = spr (NB G) f (i + 1) (vism (NB G) (s.2.1 i) (s.1 (s.2.1 i) + 1) 8 s) from if_pos z]
      have h1 := vism_keep (nb := NB G) hs z (NB_n hl) 8 (Nat.le_refl _)
      rw [← e_spread_go hl hN hsp hT f (i + 1) _ g h1.1 (by omega) (by omega) (by omega)]
      refine lpf_s ?_
      unfold f_X5_spread_B6
      rw [if_neg (by rw [J_le (by omega)]; omega), if_neg (by rw [show (5000 : Int32) = J 5000 from rfl, J_le (by omega)]; omega), JG (by omega)]
      simp only [LET]
      rw [JA_get _ (by omega)]
      refine ob _ (e_spread_in hl hN hsp hT hs z _) ?_
      rw [show (1 : Int32) = J 1 from rfl, J_add]
      rfl
    · rw [show spr (NB G) (f + 1) i s = s from if_neg z]
      refine lpf_e ?_
      unfold f_X5_spread_B6
      rw [if_pos (by rw [J_le (by omega)]; omega)]
theorem e_spread (hl : WL G) (hN : NP G ≤ 5000) (hsp : SPN G sp st) (hT : ∀ q : Int, 0 ≤ q → q < NP G → T q = TP G q) (hs : OK (NP G) s) {i : Nat} (hi : (i : Int) ≤ NP G) :
    f_X5_spread (J (NP G)) (J (G 0)) (J s.2.2) (JA sp) (JA st) (JA T) (JA s.1) (JA s.2.1) (J i) = some (J (spr (NB G) ((NP G).toNat + 1) i s).2.2, JA (spr (NB G) ((NP G).toNat + 1) i s).1, JA (spr (NB G) ((NP G).toNat + 1) i s).2.1) := by
  have hP := NP_b hl
  unfold f_X5_spread
  simp only [LET]
  rw [show (0 : Int32) = J 0 from rfl, J_imax (by omega), show max (i : Int) 0 = i by omega]
  exact ob _ (e_spread_go hl hN hsp hT ((NP G).toNat + 1) i s lfuel hs (by omega) (by omega) (show (NP G).toNat + 1 < 1000000 by omega)) rfl
/-! the reference -/
theorem vism_all (hl : WL G) (p d : Int) (s : BS) : ∀ k : Nat, vism (NB G) p d (2 * nn G + k) s = vism (NB G) p d (2 * nn G) s
  | 0 => rfl
  | k + 1 => by
    have h0 := hl.1
    have h1 := nn_eq hl
    show tryq (vism (NB G) p d (2 * nn G + k) s) (NB G p ((2 * nn G + k : Nat) : Int)) d = _
    rw [vism_all hl p d s k, show NB G p ((2 * nn G + k : Nat) : Int) = -1 from NX_out (by omega)]
    exact if_neg (by omega)
theorem FRI_c (G : Int → Int) (p : Int) : (FRI G p = 1 ∧ 0 ≤ TP G p) ∨ (FRI G p = 0 ∧ TP G p < 0) := by
  unfold FRI
  by_cases z : 0 ≤ TP G p
  · rw [if_pos z]; exact Or.inl ⟨rfl, z⟩
  · rw [if_neg z]; exact Or.inr ⟨rfl, by omega⟩
theorem e_spreads_in (hl : WL G) (hN : NP G ≤ 5000) (hA : ∀ q : Int, 0 ≤ q → q < NP G → A q = FRI G q) (hs : OK (NP G) s) {i : Nat} (hi : i < s.2.2) :
    LPF (fun z => f_X8_spreads_B12 z.1 (JA G) (JA A) z.2.1 z.2.2.1 (J i) z.2.2.2) lfuel (J s.2.2, JA s.1, JA s.2.1, J 0) = some (J (vism (NB G) (s.2.1 i) (s.1 (s.2.1 i) + 1) 8 s).2.2, JA (vism (NB G) (s.2.1 i) (s.1 (s.2.1 i) + 1) 8 s).1, JA (vism (NB G) (s.2.1 i) (s.1 (s.2.1 i) + 1) 8 s).2.1) := by
  have h0 := hl.1
  have h1 := nn_eq hl
  have hP := NP_b hl
  have hI := hs.1 i hi
  have hc0 := ok_le hs (by omega)
  have h8 := vism_all hl (s.2.1 i) (s.1 (s.2.1 i) + 1) s (8 - 2 * nn G)
  rw [show 2 * nn G + (8 - 2 * nn G) = 8 by omega] at h8
  rw [h8]
  refine lp_for (fun k : Nat => (J (vism (NB G) (s.2.1 i) (s.1 (s.2.1 i) + 1) k s).2.2, JA (vism (NB G) (s.2.1 i) (s.1 (s.2.1 i) + 1) k s).1, JA (vism (NB G) (s.2.1 i) (s.1 (s.2.1 i) + 1) k s).2.1, J k)) (2 * nn G) rfl (by omega) (fun k hk => ?_) ?_
  · obtain ⟨g1, g2, g3, g4⟩ := vism_keep (nb := NB G) hs hi (NB_n hl) k (by omega)
    have hc := ok_le g1 (by omega)
    have hb := e_behind hl hI.1 (m := k) (by omega)
    have hQ : JA (vism (NB G) (s.2.1 i) (s.1 (s.2.1 i) + 1) k s).2.1 (J (i : Int)).toNatClampNeg = J (s.2.1 i) := by rw [JA_get _ (by omega), g3]
    have stay : NB G (s.2.1 i) k < 0 ∨ 0 ≤ (vism (NB G) (s.2.1 i) (s.1 (s.2.1 i) + 1) k s).1 (NB G (s.2.1 i) k) → vism (NB G) (s.2.1 i) (s.1 (s.2.1 i) + 1) (k + 1) s = vism (NB G) (s.2.1 i) (s.1 (s.2.1 i) + 1) k s := fun w => if_neg (by omega)
    unfold f_X8_spreads_B12
    dsimp only
    rw [show (0 : Int32) = J 0 from rfl, JG (by omega), JA_get _ (by omega), show (2 : Int32) = J 2 from rfl, J_mul, if_neg (by rw [J_le (by omega)]; omega), JG (by omega), hQ]
    refine ob _ hb ?_
    have hlt := BH_lt hl (m := k) (by omega) (by omega) hI.1
    by_cases z1 : BH G (s.2.1 i) k < 0
    · have e1 : NB G (s.2.1 i) k = -1 := if_neg (by omega)
      rw [stay (by omega), if_pos (by rw [J_lt (by omega)]; exact z1)]
      simp (disch := omega) only [↓reduceIte, j_lits, J_add, J_sub, J_mul, J_neg, J_le, J_lt, J_eqv, J_div, J_imax, J_imin, JA_get, JG, JA_upd, LET, Option.bind_some, lt_T, lt_F, le_T, le_F, eq_T, eq_F, and_true, true_and, Int.sub_neg, Int.natCast_add, n_lits]
    · have hbb : BH G (s.2.1 i) k < NP G := BH_b hl hI.1 (m := k) (by omega) (by omega) (by omega)
      have hA1 := hA (BH G (s.2.1 i) k) (by omega) hbb
      rw [if_neg (by rw [J_lt (by omega)]; exact z1), JG (by omega), JA_get _ (by omega), hA1]
      rcases FRI_c G (BH G (s.2.1 i) k) with ⟨e1, e2⟩ | ⟨e1, e2⟩
      · have e3 : NB G (s.2.1 i) k = BH G (s.2.1 i) k := if_pos (by omega)
        rw [e1, if_neg (by decide), JG (by omega)]
        have hD := (g1.2.1 (BH G (s.2.1 i) k) (by omega) hbb)
        by_cases z2 : 0 ≤ (vism (NB G) (s.2.1 i) (s.1 (s.2.1 i) + 1) k s).1 (BH G (s.2.1 i) k)
        · have hD2 : (vism (NB G) (s.2.1 i) (s.1 (s.2.1 i) + 1) k s).1 (BH G (s.2.1 i) k) ≤ 5000 := by
            obtain ⟨j, j1, j2⟩ := hD.2 z2
            have := g1.1 j j1
            rw [j2] at this
            omega
          rw [stay (by rw [e3]; exact Or.inr z2)]
          simp (disch := omega) only [↓reduceIte, j_lits, J_add, J_sub, J_mul, J_neg, J_le, J_lt, J_eqv, J_div, J_imax, J_imin, JA_get, JG, JA_upd, LET, Option.bind_some, lt_T, lt_F, le_T, le_F, eq_T, eq_F, and_true, true_and, Int.sub_neg, Int.natCast_add, n_lits]
        · have hne : ¬ ((vism (NB G) (s.2.1 i) (s.1 (s.2.1 i) + 1) k s).2.2 : Int) = NP G := by
            intro e
            have h7 := ok_le (ok_adds (d := 0) g1 ⟨by omega, hbb⟩ (q := BH G (s.2.1 i) k) (by omega) (by omega)) (by omega)
            have h9 : (adds (vism (NB G) (s.2.1 i) (s.1 (s.2.1 i) + 1) k s) (BH G (s.2.1 i) k) 0).2.2 = (vism (NB G) (s.2.1 i) (s.1 (s.2.1 i) + 1) k s).2.2 + 1 := rfl
            omega
          have go : vism (NB G) (s.2.1 i) (s.1 (s.2.1 i) + 1) (k + 1) s = adds (vism (NB G) (s.2.1 i) (s.1 (s.2.1 i) + 1) k s) (BH G (s.2.1 i) k) (s.1 (s.2.1 i) + 1) := by
            show tryq _ (NB G (s.2.1 i) k) _ = _
            rw [e3]
            exact if_pos (by omega)
          rw [go]
          simp (disch := omega) only [↓reduceIte, j_lits, J_add, J_sub, J_mul, J_neg, J_le, J_lt, J_eqv, J_div, J_imax, J_imin, JA_get, JG, JA_upd, LET, Option.bind_some, lt_T, lt_F, le_T, le_F, eq_T, eq_F, and_true, true_and, Int.sub_neg, Int.natCast_add, n_lits, hQ, g4]
          rfl
      · have e3 : NB G (s.2.1 i) k = -1 := if_neg (by omega)
        rw [stay (by omega), e1, if_pos rfl]
        simp (disch := omega) only [↓reduceIte, j_lits, J_add, J_sub, J_mul, J_neg, J_le, J_lt, J_eqv, J_div, J_imax, J_imin, JA_get, JG, JA_upd, LET, Option.bind_some, lt_T, lt_F, le_T, le_F, eq_T, eq_F, and_true, true_and, Int.sub_neg, Int.natCast_add, n_lits]
  · unfold f_X8_spreads_B12
    simp (disch := omega) only [↓reduceIte, j_lits, J_add, J_sub, J_mul, J_neg, J_le, J_lt, J_eqv, J_div, J_imax, J_imin, JA_get, JG, JA_upd, LET, Option.bind_some, lt_T, lt_F, le_T, le_F, eq_T, eq_F, and_true, true_and, Int.sub_neg, Int.natCast_add, n_lits]
theorem e_spreads_go (hl : WL G) (hN : NP G ≤ 5000) (hA : ∀ q : Int, 0 ≤ q → q < NP G → A q = FRI G q) : ∀ (f i : Nat) (s : BS) (g : Nat), OK (NP G) s → NP G < (f : Int) + i → (i : Int) ≤ NP G + 1 → f < g →
    LPF (fun z => f_X8_spreads_B2 z.1 (JA G) (JA A) z.2.1 z.2.2.1 z.2.2.2) g (J s.2.2, JA s.1, JA s.2.1, J i) = some (J (spr (NB G) f i s).2.2, JA (spr (NB G) f i s).1, JA (spr (NB G) f i s).2.1)
  | 0, i, s, g + 1, hs, hf, hi2, hg => by
    have hP := NP_b hl
    have hc := ok_le hs (by omega)
    refine lpf_e ?_
    unfold f_X8_spreads_B2
    rw [if_pos (by rw [J_le (by omega)]; omega)]
    rfl
  | f + 1, i, s, g + 1, hs, hf, hi2, hg => by
    have hP := NP_b hl
    have hc := ok_le hs (by omega)
    by_cases z : i < s.2.2
    · rw [show spr (NB G) (f + 1) i s = spr (NB G) f (i + 1) (vism (NB G) (s.2.1 i) (s.1 (s.2.1 i) + 1) 8 s) from if_pos z]
      have h1 := vism_keep (nb := NB G) hs z (NB_n hl) 8 (Nat.le_refl _)
      rw [← e_spreads_go hl hN hA f (i + 1) _ g h1.1 (by omega) (by omega) (by omega)]
      refine lpf_s ?_
      unfold f_X8_spreads_B2
      rw [if_neg (by rw [J_le (by omega)]; omega)]
      refine ob _ (e_spreads_in hl hN hA hs z) ?_
      simp only [LET]
      rw [show (1 : Int32) = J 1 from rfl, J_add]
      rfl
    · rw [show spr (NB G) (f + 1) i s = s from if_neg z]
      refine lpf_e ?_
      unfold f_X8_spreads_B2
      rw [if_pos (by rw [J_le (by omega)]; omega)]
theorem e_spreads (hl : WL G) (hN : NP G ≤ 5000) (hA : ∀ q : Int, 0 ≤ q → q < NP G → A q = FRI G q) (hs : OK (NP G) s) {i : Nat} (hi : (i : Int) ≤ NP G) :
    f_X8_spreads (J s.2.2) (JA G) (JA A) (JA s.1) (JA s.2.1) (J i) = some (J (spr (NB G) ((NP G).toNat + 1) i s).2.2, JA (spr (NB G) ((NP G).toNat + 1) i s).1, JA (spr (NB G) ((NP G).toNat + 1) i s).2.1) := by
  have hP := NP_b hl
  unfold f_X8_spreads
  exact ob _ (e_spreads_go hl hN hA ((NP G).toNat + 1) i s lfuel hs (by omega) (by omega) (show (NP G).toNat + 1 < 1000000 by omega)) rfl
theorem lk_spr (hn : ∀ p m : Int, 0 ≤ p → p < N → 0 ≤ m → m < 8 → 0 ≤ nb p m → nb p m < N) : ∀ (f i : Nat) (s t : BS), OK N t → LK N s t → LK N (spr nb f i s) (spr nb f i t)
  | 0, _, _, _, _, h => h
  | f + 1, i, s, t, ht, h => by
    show LK N (if i < s.2.2 then spr nb f (i + 1) (vism nb (s.2.1 i) (s.1 (s.2.1 i) + 1) 8 s) else s) (if i < t.2.2 then spr nb f (i + 1) (vism nb (t.2.1 i) (t.1 (t.2.1 i) + 1) 8 t) else t)
    by_cases z : i < t.2.2
    · have h1 := ht.1 i z
      rw [if_pos z, if_pos (by rw [h.1]; exact z), h.2.2 i z, h.2.1 _ h1.1.1 h1.1.2]
      exact lk_spr hn f (i + 1) _ _ (vism_keep ht z hn 8 (Nat.le_refl _)).1 (lk_vism h (fun m m0 m1 w => hn _ m h1.1.1 h1.1.2 m0 m1 w) 8 (Nat.le_refl _))
    · rw [if_neg z, if_neg (by rw [h.1]; exact z)]
      exact h
end
