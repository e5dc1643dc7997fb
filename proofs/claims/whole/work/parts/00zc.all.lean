/-! questions about all poses -/
noncomputable def CNT (P : Int → Prop) : Nat → Int
  | 0 => 0
  | k + 1 => @ite Int (P k) (Classical.propDecidable _) (CNT P k + 1) (CNT P k)
section
variable {ss : Nat → Int32} {aa : Nat → Nat → Int32} {pl po : Nat → Int32} {pa : Nat → Nat → Nat → Int32} {ms : Nat → Int32} {ma : Nat → Nat → Int32} {G D Q T A : Int → Int} {S : Nat → Int → Int} {P : Int → Prop}
theorem CNT_y {k : Nat} (h : P k) : CNT P (k + 1) = CNT P k + 1 := if_pos h
theorem CNT_n {k : Nat} (h : ¬ P k) : CNT P (k + 1) = CNT P k := if_neg h
theorem CNT_b : ∀ k : Nat, 0 ≤ CNT P k ∧ CNT P k ≤ k
  | 0 => ⟨Int.le_refl _, Int.le_refl _⟩
  | k + 1 => by
    have h1 := CNT_b k
    by_cases q : P k
    · rw [CNT_y q]; omega
    · rw [CNT_n q]; omega
theorem RRTE_k {k a b c d : Int32} {e : Nat → Int32} {f g : Int32} {h : Nat → Int32} (hr : RRTE G k a b c d e f g h) : RRTE G (J 1) a b c d e f g h := by
  rcases hr with hr | ⟨h1, h2, h3, h4⟩
  · exact Or.inl hr
  · exact Or.inr ⟨h1, rfl, h3, h4⟩
theorem w_surveyPoses (hw : WF G) (hs : SC G S) {kn pn lk : Int32} {span stride tip : Nat → Int32} (hsp : RSPC G kn pn lk span stride tip) (hN : NP G ≤ 5000) (z1 z2 z3 z4 : Int32) (b c d t vs : Nat → Int32) :
    WP (f_X7_surveyPoses (J (G 0)) (JA (S 0)) (JA (S 1)) (JA (S 2)) (JA (S 6)) kn pn lk span stride tip z1 z2 z3 z4 b c d t vs) (fun o => o.1 = 0 ∧ o.2.1 = J 1 ∧ o.2.2.1 = J (NP G) ∧ o.2.2.2.1 = J (G 0) ∧ ∃ sp st T : Int → Int, o.2.2.2.2.1 = JA sp ∧ o.2.2.2.2.2.1 = JA st ∧ o.2.2.2.2.2.2.1 = JA T ∧ SPN G sp st ∧ ∀ q : Int, 0 ≤ q → q < NP G → T q = TP G q) := by
  have hP := NP_b hw.1
  unfold f_X7_surveyPoses
  refine WP.ob (e_poses4 hw.1 hs.rb) ?_
  rw [if_pos (by rw [show (5000 : Int32) = J 5000 from rfl, J_le (by omega)]; exact hN)]
  rcases hsp with e | ⟨e1, e2, e3, e4, sp, st, T, e5, e6, e7, e8, e9⟩
  · rw [e]
    refine WP.bind (w_survey hw.1 hw.2.2 hN hs.ln hs.rb hs.bl _ _ _ _ _ _ _ _ _ _ _ _ _ _) fun o ho => ?_
    obtain ⟨k1, k2, k3, sp, st, T, k4, k5, k6, k7, k8⟩ := ho
    exact WP.ret ⟨rfl, k1, k2, k3, sp, st, T, k4, k5, k6, k7, k8⟩
  · rw [e1]
    refine WP.ob (show f_X5_survey (J 1) pn lk span stride tip z1 z2 z3 z4 b c d t vs (J (G 0)) (JA (S 0)) (JA (S 1)) (JA (S 2)) (JA (S 6)) = some (J 1, pn, lk, span, stride, tip, z1, z2, z3, z4, b, c, d, t, vs) from by unfold f_X5_survey; exact if_neg (by decide)) ?_
    exact WP.ret ⟨rfl, rfl, e3, e4, sp, st, T, e5, e6, e7, e8, e9⟩
theorem e_surveyPoses_no (hw : WF G) (hs : SC G S) (hN : 5000 < NP G) (kn pn lk : Int32) (span stride tip : Nat → Int32) (z1 z2 z3 z4 : Int32) (b c d t vs : Nat → Int32) :
    f_X7_surveyPoses (J (G 0)) (JA (S 0)) (JA (S 1)) (JA (S 2)) (JA (S 6)) kn pn lk span stride tip z1 z2 z3 z4 b c d t vs = some (2, kn, pn, lk, span, stride, tip, z1, z2, z3, z4, b, c, d, t, vs) := by
  have hP := NP_b hw.1
  unfold f_X7_surveyPoses
  refine ob _ (e_poses4 hw.1 hs.rb) ?_
  exact if_neg (by rw [show (5000 : Int32) = J 5000 from rfl, J_le (by omega)]; omega)
theorem e_count8 (hl : WL G) (hN : NP G ≤ 5000) (hA : ∀ q : Int, 0 ≤ q → q < NP G → A q = FRI G q ∧ T q = TP G q) (fa : Int32) (p w x y : Nat → Int32) : LPF (fun z => f_X8_freeAt_B8 fa (JA G) p w x y (JA A) (JA T) (J (-1)) z.1 z.2) lfuel (0, 0) = some (J (CNT (fun p => 0 ≤ TP G p) (NP G).toNat)) := by
  have hP := NP_b hl
  refine lp_for (fun k : Nat => (J (CNT (fun p => 0 ≤ TP G p) k), J k)) (NP G).toNat rfl (by omega) (fun k hk => ?_) ?_
  · have h1 := hA k (by omega) (by omega)
    unfold f_X8_freeAt_B8
    dsimp only
    refine ob _ (e_poses8 hl) ?_
    rcases FRI_c G k with ⟨e1, e2⟩ | ⟨e1, e2⟩
    · rw [CNT_y (P := fun p => 0 ≤ TP G p) e2]
      simp (disch := omega) only [↓reduceIte, j_lits, J_add, J_sub, J_mul, J_neg, J_le, J_lt, J_eqv, J_div, J_imax, J_imin, JA_get, JG, JA_upd, LET, Option.bind_some, lt_T, lt_F, le_T, le_F, eq_T, eq_F, and_true, true_and, Int.sub_neg, Int.natCast_add, n_lits, h1.1, e1]
    · rw [CNT_n (P := fun p => 0 ≤ TP G p) (by omega)]
      simp (disch := omega) only [↓reduceIte, j_lits, J_add, J_sub, J_mul, J_neg, J_le, J_lt, J_eqv, J_div, J_imax, J_imin, JA_get, JG, JA_upd, LET, Option.bind_some, lt_T, lt_F, le_T, le_F, eq_T, eq_F, and_true, true_and, Int.sub_neg, Int.natCast_add, n_lits, h1.1, e1, Int.add_zero]
  · unfold f_X8_freeAt_B8
    dsimp only
    refine ob _ (e_poses8 hl) ?_
    simp (disch := omega) only [↓reduceIte, j_lits, J_add, J_sub, J_mul, J_neg, J_le, J_lt, J_eqv, J_div, J_imax, J_imin, JA_get, JG, JA_upd, LET, Option.bind_some, lt_T, lt_F, le_T, le_F, eq_T, eq_F, and_true, true_and, Int.sub_neg, Int.natCast_add, n_lits]
theorem e_countAt8 (hl : WL G) (hN : NP G ≤ 5000) (hA : ∀ q : Int, 0 ≤ q → q < NP G → A q = FRI G q ∧ T q = TP G q) {c : Int} (hc : 0 ≤ c ∧ c ≤ 440) (fa : Int32) (p w x y : Nat → Int32) : LPF (fun z => f_X8_freeAt_B8 fa (JA G) p w x y (JA A) (JA T) (J c) z.1 z.2) lfuel (0, 0) = some (J (CNT (fun p => TP G p = c) (NP G).toNat)) := by
  have hP := NP_b hl
  refine lp_for (fun k : Nat => (J (CNT (fun p => TP G p = c) k), J k)) (NP G).toNat rfl (by omega) (fun k hk => ?_) ?_
  · have h1 := hA k (by omega) (by omega)
    have h2 := TP_b G k
    unfold f_X8_freeAt_B8
    dsimp only
    refine ob _ (e_poses8 hl) ?_
    by_cases q : TP G k = c
    · rw [CNT_y (P := fun p => TP G p = c) q]
      rcases FRI_c G k with ⟨e1, e2⟩ | ⟨e1, e2⟩
      · simp (disch := omega) only [↓reduceIte, j_lits, J_add, J_sub, J_mul, J_neg, J_le, J_lt, J_eqv, J_div, J_imax, J_imin, JA_get, JG, JA_upd, LET, Option.bind_some, lt_T, lt_F, le_T, le_F, eq_T, eq_F, and_true, true_and, Int.sub_neg, Int.natCast_add, n_lits, h1.1, h1.2, e1]
      · omega
    · rw [CNT_n (P := fun p => TP G p = c) q]
      rcases FRI_c G k with ⟨e1, e2⟩ | ⟨e1, e2⟩
      · simp (disch := omega) only [↓reduceIte, j_lits, J_add, J_sub, J_mul, J_neg, J_le, J_lt, J_eqv, J_div, J_imax, J_imin, JA_get, JG, JA_upd, LET, Option.bind_some, lt_T, lt_F, le_T, le_F, eq_T, eq_F, and_true, true_and, Int.sub_neg, Int.natCast_add, n_lits, h1.1, h1.2, e1, Int.add_zero]
      · simp (disch := omega) only [↓reduceIte, j_lits, J_add, J_sub, J_mul, J_neg, J_le, J_lt, J_eqv, J_div, J_imax, J_imin, JA_get, JG, JA_upd, LET, Option.bind_some, lt_T, lt_F, le_T, le_F, eq_T, eq_F, and_true, true_and, Int.sub_neg, Int.natCast_add, n_lits, h1.1, e1, Int.add_zero]
  · unfold f_X8_freeAt_B8
    dsimp only
    refine ob _ (e_poses8 hl) ?_
    simp (disch := omega) only [↓reduceIte, j_lits, J_add, J_sub, J_mul, J_neg, J_le, J_lt, J_eqv, J_div, J_imax, J_imin, JA_get, JG, JA_upd, LET, Option.bind_some, lt_T, lt_F, le_T, le_F, eq_T, eq_F, and_true, true_and, Int.sub_neg, Int.natCast_add, n_lits]
theorem call_freePoses (hR : REL ss aa pl po pa ms ma) : WP (f_X7_freePoses (ss 10) (aa 1) (aa 2) (aa 3) (aa 0) (ss 2) (ss 3) (ss 4) (aa 12) (aa 13) (aa 14) (ss 18) (ss 19) (ss 20) (ss 21) (aa 15) (aa 16) (aa 17) (aa 18) (aa 19) ) (fun r => WP (f_X8_freePoses (ms 4) (ms 5) (ma 0) (ma 3) (ma 4) (ma 5) (ma 6) (ma 7) (ma 8) ) (fun q => ((r.1 = 0 ∧ q.2.1 = J 0 ∧ r.2.1 = q.1) ∨ (r.1 = 2 ∧ q.2.1 = J 1)) ∧ REL (va_up (va_up (va_up (va_up (va_up (va_up (va_up ss 2 r.2.2.1) 3 r.2.2.2.1) 4 r.2.2.2.2.1) 18 r.2.2.2.2.2.2.2.2.1) 19 r.2.2.2.2.2.2.2.2.2.1) 20 r.2.2.2.2.2.2.2.2.2.2.1) 21 r.2.2.2.2.2.2.2.2.2.2.2.1) (va_up (va_up (va_up (va_up (va_up (va_up (va_up (va_up aa 12 r.2.2.2.2.2.1) 13 r.2.2.2.2.2.2.1) 14 r.2.2.2.2.2.2.2.1) 15 r.2.2.2.2.2.2.2.2.2.2.2.2.1) 16 r.2.2.2.2.2.2.2.2.2.2.2.2.2.1) 17 r.2.2.2.2.2.2.2.2.2.2.2.2.2.2.1) 18 r.2.2.2.2.2.2.2.2.2.2.2.2.2.2.2.1) 19 r.2.2.2.2.2.2.2.2.2.2.2.2.2.2.2.2) pl po pa (va_up (va_up ms 4 q.2.1) 5 q.2.2.1) (va_up (va_up (va_up (va_up (va_up (va_up ma 3 q.2.2.2.1) 4 q.2.2.2.2.1) 5 q.2.2.2.2.2.1) 6 q.2.2.2.2.2.2.1) 7 q.2.2.2.2.2.2.2.1) 8 q.2.2.2.2.2.2.2.2))) := by
  obtain ⟨G, S, hn, hsv, hh, hsp, hrt, hbk, hin, her, hx, hy⟩ := hR
  have hn0 := hn
  obtain ⟨⟨n1, n2⟩, ⟨n3, n4, n5, n6, n7, n8, n9⟩, n10, hs, hw⟩ := hn
  have hP := NP_b hw.1
  by_cases q : NP G ≤ 5000
  · unfold f_X7_freePoses
    simp only [n1, n2, n3, n4, n5, n6, n7, n8, n9, n10]
    refine WP.bind (w_surveyPoses hw hs hsp q _ _ _ _ _ _ _ _ _) fun o ho => ?_
    obtain ⟨k0, k1, k2, k3, sp, st, T, k4, k5, k6, k7, k8⟩ := ho
    rw [if_pos k0]
    simp only [k1, k2, k3, k4, k5, k6]
    refine WP.ob (a := J (CNT (fun p => 0 ≤ TP G p) (NP G).toNat)) ?_ ?_
    · refine lp_for (fun k : Nat => (J (CNT (fun p => 0 ≤ TP G p) k), J k)) (NP G).toNat rfl (by omega) (fun k hk => ?_) ?_
      · have h1 := k8 k (by omega) (by omega)
        have h2 := TP_b G k
        unfold f_X7_freePoses_B8
        dsimp only
        rw [if_neg (by rw [J_le (by omega)]; omega)]
        by_cases z : 0 ≤ TP G k
        · rw [CNT_y (P := fun p => 0 ≤ TP G p) z]
          refine ob _ (e_isFree1 (by omega) (by omega)) ?_
          simp (disch := omega) only [↓reduceIte, j_lits, J_add, J_sub, J_mul, J_neg, J_le, J_lt, J_eqv, J_div, J_imax, J_imin, JA_get, JG, JA_upd, LET, Option.bind_some, lt_T, lt_F, le_T, le_F, eq_T, eq_F, and_true, true_and, Int.sub_neg, Int.natCast_add, n_lits]
        · rw [CNT_n (P := fun p => 0 ≤ TP G p) z]
          refine ob _ (e_isFree0 (by omega) (by omega)) ?_
          simp (disch := omega) only [↓reduceIte, j_lits, J_add, J_sub, J_mul, J_neg, J_le, J_lt, J_eqv, J_div, J_imax, J_imin, JA_get, JG, JA_upd, LET, Option.bind_some, lt_T, lt_F, le_T, le_F, eq_T, eq_F, and_true, true_and, Int.sub_neg, Int.natCast_add, n_lits]
      · unfold f_X7_freePoses_B8
        simp (disch := omega) only [↓reduceIte, j_lits, J_add, J_sub, J_mul, J_neg, J_le, J_lt, J_eqv, J_div, J_imax, J_imin, JA_get, JG, JA_upd, LET, Option.bind_some, lt_T, lt_F, le_T, le_F, eq_T, eq_F, and_true, true_and, Int.sub_neg, Int.natCast_add, n_lits]
    · refine WP.ret ?_
      unfold f_X8_freePoses
      refine WP.ob (e_isMany0 hw.1 q) ?_
      rw [if_pos (by rfl)]
      unfold f_X8_freePoses_L13
      rw [if_pos (by decide)]
      unfold f_X8_freeAt
      refine WP.bind (P0 := fun e => e.1 = J (CNT (fun p => 0 ≤ TP G p) (NP G).toNat) ∧ Z0 e.2.2.2.2.1 ∧ Z0 e.2.2.2.2.2.1) ?_ (fun e he => ?_)
      · refine WP.bind (w_laysAll hw.1 hw.2.2 q _ _ _ _ _ _ _ hx hy) fun o2 ho2 => ?_
        obtain ⟨⟨x8, y8⟩, A, T, j1, j2, j3⟩ := ho2
        rw [j1, j2]
        refine WP.ob (e_count8 hw.1 q j3 _ _ _ _ _) ?_
        exact WP.ret ⟨rfl, x8, y8⟩
      · exact WP.ret ⟨Or.inl ⟨rfl, rfl, he.1.symm⟩, G, S, ⟨⟨n1, n2⟩, ⟨n3, n4, n5, n6, n7, n8, n9⟩, n10, hs, hw⟩, hsv, hh, Or.inr ⟨rfl, q, rfl, rfl, sp, st, T, rfl, rfl, rfl, k7, k8⟩, RRTE_k hrt, hbk, hin, her, he.2.1, he.2.2⟩
  · have h7 : (f_X7_freePoses (ss 10) (aa 1) (aa 2) (aa 3) (aa 0) (ss 2) (ss 3) (ss 4) (aa 12) (aa 13) (aa 14) (ss 18) (ss 19) (ss 20) (ss 21) (aa 15) (aa 16) (aa 17) (aa 18) (aa 19) ) = some (2, J 0, (ss 2), (ss 3), (ss 4), (aa 12), (aa 13), (aa 14), (ss 18), (ss 19), (ss 20), (ss 21), (aa 15), (aa 16), (aa 17), (aa 18), (aa 19)) := by
      unfold f_X7_freePoses
      simp only [n1, n2, n3, n4, n5, n6, n7, n8, n9, n10]
      exact ob _ (e_surveyPoses_no hw hs (by omega) _ _ _ _ _ _ _ _ _ _ _ _ _ _ _) rfl
    have h8 : (f_X8_freePoses (ms 4) (ms 5) (ma 0) (ma 3) (ma 4) (ma 5) (ma 6) (ma 7) (ma 8) ) = some (J 0, J 1, (ms 5), (ma 3), (ma 4), (ma 5), (ma 6), (ma 7), (ma 8)) := by
      unfold f_X8_freePoses f_X8_freePoses_L13
      rw [n10]
      exact ob _ (e_isMany1 hw.1 (by omega)) rfl
    exact ⟨_, h7, _, h8, Or.inr ⟨rfl, rfl⟩, G, S, hn0, hsv, hh, hsp, hrt, hbk, hin, her, hx, hy⟩
theorem call_posesAt (hR : REL ss aa pl po pa ms ma) (x1 x2 : Int32) : WP (f_X7_posesAt (ss 10) (aa 1) (aa 2) (aa 3) (aa 0) (ss 2) (ss 3) (ss 4) (aa 12) (aa 13) (aa 14) (ss 18) (ss 19) (ss 20) (ss 21) (aa 15) (aa 16) (aa 17) (aa 18) (aa 19) x1 x2) (fun r => WP (f_X8_posesAt (ms 4) (ms 5) (ma 0) (ma 3) (ma 4) (ma 5) (ma 6) (ma 7) (ma 8) x1 x2) (fun q => ((r.1 = 0 ∧ q.2.1 = J 0 ∧ r.2.1 = q.1) ∨ (r.1 = 3 ∧ q.2.1 = J 1) ∨ (r.1 = 2 ∧ q.2.1 = J 2)) ∧ REL (va_up (va_up (va_up (va_up (va_up (va_up (va_up ss 2 r.2.2.1) 3 r.2.2.2.1) 4 r.2.2.2.2.1) 18 r.2.2.2.2.2.2.2.2.1) 19 r.2.2.2.2.2.2.2.2.2.1) 20 r.2.2.2.2.2.2.2.2.2.2.1) 21 r.2.2.2.2.2.2.2.2.2.2.2.1) (va_up (va_up (va_up (va_up (va_up (va_up (va_up (va_up aa 12 r.2.2.2.2.2.1) 13 r.2.2.2.2.2.2.1) 14 r.2.2.2.2.2.2.2.1) 15 r.2.2.2.2.2.2.2.2.2.2.2.2.1) 16 r.2.2.2.2.2.2.2.2.2.2.2.2.2.1) 17 r.2.2.2.2.2.2.2.2.2.2.2.2.2.2.1) 18 r.2.2.2.2.2.2.2.2.2.2.2.2.2.2.2.1) 19 r.2.2.2.2.2.2.2.2.2.2.2.2.2.2.2.2) pl po pa (va_up (va_up ms 4 q.2.1) 5 q.2.2.1) (va_up (va_up (va_up (va_up (va_up (va_up ma 3 q.2.2.2.1) 4 q.2.2.2.2.1) 5 q.2.2.2.2.2.1) 6 q.2.2.2.2.2.2.1) 7 q.2.2.2.2.2.2.2.1) 8 q.2.2.2.2.2.2.2.2))) := by
  obtain ⟨G, S, hn, hsv, hh, hsp, hrt, hbk, hin, her, hx, hy⟩ := hR
  have hn0 := hn
  obtain ⟨⟨n1, n2⟩, ⟨n3, n4, n5, n6, n7, n8, n9⟩, n10, hs, hw⟩ := hn
  obtain ⟨x, rfl, hxr⟩ := J_ex x1
  obtain ⟨y, rfl, hyr⟩ := J_ex x2
  have hP := NP_b hw.1
  by_cases q0 : (-10 ≤ x ∧ x ≤ 10) ∧ -10 ≤ y ∧ y ≤ 10
  · by_cases q : NP G ≤ 5000
    · have hc : 0 ≤ CN x y ∧ CN x y ≤ 440 := by unfold CN; omega
      unfold f_X7_posesAt
      simp only [n1, n2, n3, n4, n5, n6, n7, n8, n9, n10]
      refine WP.ob (e_requireCell1 q0) ?_
      rw [if_pos rfl]
      refine WP.bind (w_surveyPoses hw hs hsp q _ _ _ _ _ _ _ _ _) fun o ho => ?_
      obtain ⟨k0, k1, k2, k3, sp, st, T, k4, k5, k6, k7, k8⟩ := ho
      rw [if_pos k0]
      simp only [k1, k2, k3, k4, k5, k6]
      refine WP.ob (a := J (CNT (fun p => TP G p = CN x y) (NP G).toNat)) ?_ ?_
      · refine lp_for (fun k : Nat => (J (CNT (fun p => TP G p = CN x y) k), J k)) (NP G).toNat rfl (by omega) (fun k hk => ?_) ?_
        · have h1 := k8 k (by omega) (by omega)
          have h2 := TP_b G k
          unfold f_X7_posesAt_B14
          dsimp only
          rw [if_neg (by rw [J_le (by omega)]; omega)]
          refine ob _ (e_tipOf (by omega)) ?_
          refine ob _ (e_cellNumber x y) ?_
          rw [h1]
          by_cases z : TP G k = CN x y
          · rw [CNT_y (P := fun p => TP G p = CN x y) z, if_pos (congrArg J z)]
            simp (disch := omega) only [↓reduceIte, j_lits, J_add, J_sub, J_mul, J_neg, J_le, J_lt, J_eqv, J_div, J_imax, J_imin, JA_get, JG, JA_upd, LET, Option.bind_some, lt_T, lt_F, le_T, le_F, eq_T, eq_F, and_true, true_and, Int.sub_neg, Int.natCast_add, n_lits]
          · rw [CNT_n (P := fun p => TP G p = CN x y) z, if_neg (by rw [J_eqv (by omega)]; exact z)]
            simp (disch := omega) only [↓reduceIte, j_lits, J_add, J_sub, J_mul, J_neg, J_le, J_lt, J_eqv, J_div, J_imax, J_imin, JA_get, JG, JA_upd, LET, Option.bind_some, lt_T, lt_F, le_T, le_F, eq_T, eq_F, and_true, true_and, Int.sub_neg, Int.natCast_add, n_lits]
        · unfold f_X7_posesAt_B14
          simp (disch := omega) only [↓reduceIte, j_lits, J_add, J_sub, J_mul, J_neg, J_le, J_lt, J_eqv, J_div, J_imax, J_imin, JA_get, JG, JA_upd, LET, Option.bind_some, lt_T, lt_F, le_T, le_F, eq_T, eq_F, and_true, true_and, Int.sub_neg, Int.natCast_add, n_lits]
      · refine WP.ret ?_
        unfold f_X8_posesAt
        refine WP.ob (e_isCell1 q0) ?_
        rw [if_neg (by decide)]
        refine WP.ob (e_isMany0 hw.1 q) ?_
        rw [if_pos (by rfl)]
        unfold f_X8_posesAt_L25
        rw [if_pos (by decide)]
        refine WP.ob (e_cellOf x y) ?_
        unfold f_X8_freeAt
        refine WP.bind (P0 := fun e => e.1 = J (CNT (fun p => TP G p = CN x y) (NP G).toNat) ∧ Z0 e.2.2.2.2.1 ∧ Z0 e.2.2.2.2.2.1) ?_ (fun e he => ?_)
        · refine WP.bind (w_laysAll hw.1 hw.2.2 q _ _ _ _ _ _ _ hx hy) fun o2 ho2 => ?_
          obtain ⟨⟨x8, y8⟩, A, T, j1, j2, j3⟩ := ho2
          rw [j1, j2]
          refine WP.ob (e_countAt8 hw.1 q j3 hc _ _ _ _ _) ?_
          exact WP.ret ⟨rfl, x8, y8⟩
        · exact WP.ret ⟨Or.inl ⟨rfl, rfl, he.1.symm⟩, G, S, ⟨⟨n1, n2⟩, ⟨n3, n4, n5, n6, n7, n8, n9⟩, n10, hs, hw⟩, hsv, hh, Or.inr ⟨rfl, q, rfl, rfl, sp, st, T, rfl, rfl, rfl, k7, k8⟩, RRTE_k hrt, hbk, hin, her, he.2.1, he.2.2⟩
    · have h7 : (f_X7_posesAt (ss 10) (aa 1) (aa 2) (aa 3) (aa 0) (ss 2) (ss 3) (ss 4) (aa 12) (aa 13) (aa 14) (ss 18) (ss 19) (ss 20) (ss 21) (aa 15) (aa 16) (aa 17) (aa 18) (aa 19) (J x) (J y)) = some (2, J 0, (ss 2), (ss 3), (ss 4), (aa 12), (aa 13), (aa 14), (ss 18), (ss 19), (ss 20), (ss 21), (aa 15), (aa 16), (aa 17), (aa 18), (aa 19)) := by
        unfold f_X7_posesAt
        simp only [n1, n2, n3, n4, n5, n6, n7, n8, n9, n10]
        refine ob _ (e_requireCell1 q0) ?_
        rw [if_pos rfl]
        exact ob _ (e_surveyPoses_no hw hs (by omega) _ _ _ _ _ _ _ _ _ _ _ _ _ _ _) rfl
      have h8 : (f_X8_posesAt (ms 4) (ms 5) (ma 0) (ma 3) (ma 4) (ma 5) (ma 6) (ma 7) (ma 8) (J x) (J y)) = some (J 0, J 2, (ms 5), (ma 3), (ma 4), (ma 5), (ma 6), (ma 7), (ma 8)) := by
        unfold f_X8_posesAt f_X8_posesAt_L25
        rw [n10]
        refine ob _ (e_isCell1 q0) ?_
        rw [if_neg (by decide)]
        exact ob _ (e_isMany1 hw.1 (by omega)) rfl
      exact ⟨_, h7, _, h8, Or.inr (Or.inr ⟨rfl, rfl⟩), G, S, hn0, hsv, hh, hsp, hrt, hbk, hin, her, hx, hy⟩
  · have h7 : (f_X7_posesAt (ss 10) (aa 1) (aa 2) (aa 3) (aa 0) (ss 2) (ss 3) (ss 4) (aa 12) (aa 13) (aa 14) (ss 18) (ss 19) (ss 20) (ss 21) (aa 15) (aa 16) (aa 17) (aa 18) (aa 19) (J x) (J y)) = some (3, J 0, (ss 2), (ss 3), (ss 4), (aa 12), (aa 13), (aa 14), (ss 18), (ss 19), (ss 20), (ss 21), (aa 15), (aa 16), (aa 17), (aa 18), (aa 19)) := by
      unfold f_X7_posesAt
      exact ob _ (e_requireCell0 ⟨hxr, hyr, q0⟩) rfl
    have h8 : (f_X8_posesAt (ms 4) (ms 5) (ma 0) (ma 3) (ma 4) (ma 5) (ma 6) (ma 7) (ma 8) (J x) (J y)) = some (J 0, J 1, (ms 5), (ma 3), (ma 4), (ma 5), (ma 6), (ma 7), (ma 8)) := by
      unfold f_X8_posesAt f_X8_posesAt_L25
      exact ob _ (e_isCell0 ⟨hxr, hyr, q0⟩) rfl
    exact ⟨_, h7, _, h8, Or.inr (Or.inl ⟨rfl, rfl⟩), G, S, hn0, hsv, hh, hsp, hrt, hbk, hin, her, hx, hy⟩
end
