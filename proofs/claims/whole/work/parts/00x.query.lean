/-! questions about links, obstacles and the present pose -/
section
variable {ss : Nat → Int32} {aa : Nat → Nat → Int32} {pl po : Nat → Int32} {pa : Nat → Nat → Nat → Int32} {ms : Nat → Int32} {ma : Nat → Nat → Int32} {G : Int → Int} {S D : Nat → Int → Int}
def SL (G : Int → Int) : Nat → Int
  | 0 => 0
  | k + 1 => SL G k + G (1 + 4 * k)
theorem SLs (G : Int → Int) (k : Nat) : SL G (k + 1) = SL G k + G (1 + 4 * k) := rfl
theorem e_wholeLength (hl : WL G) (hs : ∀ k : Int, 0 ≤ k → k < G 0 → S 0 k = G (1 + 4 * k)) : f_X4_wholeLength (J (G 0)) (JA (S 0)) = some (J (SL G (nn G))) := by
  have h0 := hl.1
  have h1 := nn_eq hl
  unfold f_X4_wholeLength
  refine lp_bind (fun k : Nat => (J (SL G k), J k)) (nn G) rfl (by omega) (fun k hk => ?_) (e := J (SL G (nn G))) ?_ rfl
  · have h2 := hs k (by omega) (by omega)
    unfold f_X4_wholeLength_B4
    simp (disch := omega) only [↓reduceIte, j_lits, J_add, J_sub, J_mul, J_neg, J_le, J_lt, J_eqv, J_div, J_imax, J_imin, JA_get, JG, JA_upd, LET, Option.bind_some, lt_T, lt_F, le_T, le_F, eq_T, eq_F, and_true, true_and, Int.sub_neg, Int.natCast_add, n_lits, h2, SLs]
  · unfold f_X4_wholeLength_B4
    simp (disch := omega) only [↓reduceIte, j_lits, J_add, J_sub, J_mul, J_neg, J_le, J_lt, J_eqv, J_div, J_imax, J_imin, JA_get, JG, JA_upd, LET, Option.bind_some, lt_T, lt_F, le_T, le_F, eq_T, eq_F, and_true, true_and, Int.sub_neg, Int.natCast_add, n_lits]
theorem call_count (hR : REL ss aa pl po pa ms ma) (x1 : Int32) : WP (f_X7_count (ss 10) (ss 11) (aa 1) (aa 2) (aa 3) x1) (fun r => WP (f_X8_count (ms 4) (ma 0) x1) (fun q => ((r.1 = 0 ∧ q.2 = J 0 ∧ r.2 = q.1) ∨ (r.1 = 1 ∧ q.2 = J 1)) ∧ REL ss aa pl po pa (va_up ms 4 q.2) ma)) := by
  obtain ⟨G, S, hn, hsv, hh, hsp, hrt, hbk, hin, her, hx, hy⟩ := hR
  have hn0 := hn
  obtain ⟨⟨n1, n2⟩, ⟨n3, n4, n5, n6, n7, n8, n9⟩, n10, hs, hw⟩ := hn
  obtain ⟨x, rfl, hxr⟩ := J_ex x1
  have h0 := hw.1.1
  have h1 := nn_eq hw.1
  by_cases q0 : x = 0
  · subst q0
    have h7 : (f_X7_count (ss 10) (ss 11) (aa 1) (aa 2) (aa 3) (J 0)) = some (0, J (G 0)) := by
      unfold f_X7_count; rw [n1]; rfl
    have h8 : (f_X8_count (ms 4) (ma 0) (J 0)) = some (J (G 0), J 0) := by
      unfold f_X8_count
      simp (disch := omega) only [↓reduceIte, j_lits, J_add, J_sub, J_mul, J_neg, J_le, J_lt, J_eqv, J_div, J_imax, J_imin, JA_get, JG, JA_upd, LET, Option.bind_some, lt_T, lt_F, le_T, le_F, eq_T, eq_F, and_true, true_and, Int.sub_neg, Int.natCast_add, n_lits, n10]
    exact ⟨_, h7, _, h8, Or.inl ⟨rfl, rfl, rfl⟩, G, S, hn0, hsv, hh, hsp, hrt, hbk, hin, her, hx, hy⟩
  by_cases q1 : x = 1
  · subst q1
    have h7 : (f_X7_count (ss 10) (ss 11) (aa 1) (aa 2) (aa 3) (J 1)) = some (0, J (G 20)) := by
      unfold f_X7_count; rw [n2]; rfl
    have h8 : (f_X8_count (ms 4) (ma 0) (J 1)) = some (J (G 20), J 0) := by
      unfold f_X8_count
      simp (disch := omega) only [↓reduceIte, j_lits, J_add, J_sub, J_mul, J_neg, J_le, J_lt, J_eqv, J_div, J_imax, J_imin, JA_get, JG, JA_upd, LET, Option.bind_some, lt_T, lt_F, le_T, le_F, eq_T, eq_F, and_true, true_and, Int.sub_neg, Int.natCast_add, n_lits, n10]
    exact ⟨_, h7, _, h8, Or.inl ⟨rfl, rfl, rfl⟩, G, S, hn0, hsv, hh, hsp, hrt, hbk, hin, her, hx, hy⟩
  by_cases q2 : x = 2
  · subst q2
    have h7 : (f_X7_count (ss 10) (ss 11) (aa 1) (aa 2) (aa 3) (J 2)) = some (0, J (NP G)) := by
      unfold f_X7_count
      simp only [n1, n2, n3, n4, n5, n6, n7, n8, n9, n10]
      rw [if_neg (by decide), if_neg (by decide), if_pos (by rfl)]
      exact ob _ (e_poses4 hw.1 hs.rb) rfl
    have h8 : (f_X8_count (ms 4) (ma 0) (J 2)) = some (J (NP G), J 0) := by
      unfold f_X8_count
      simp only [n10]
      rw [if_neg (by decide), if_neg (by decide), if_pos (by rfl)]
      exact ob _ (e_poses8 hw.1) rfl
    exact ⟨_, h7, _, h8, Or.inl ⟨rfl, rfl, rfl⟩, G, S, hn0, hsv, hh, hsp, hrt, hbk, hin, her, hx, hy⟩
  by_cases q3 : x = 3
  · subst q3
    have h7 : (f_X7_count (ss 10) (ss 11) (aa 1) (aa 2) (aa 3) (J 3)) = some (0, J (SL G (nn G))) := by
      unfold f_X7_count
      simp only [n1, n2, n3, n4, n5, n6, n7, n8, n9, n10]
      rw [if_neg (by decide), if_neg (by decide), if_neg (by decide), if_pos (by rfl)]
      exact ob _ (e_wholeLength hw.1 hs.ln) rfl
    have h8 : (f_X8_count (ms 4) (ma 0) (J 3)) = some (J (SL G (nn G)), J 0) := by
      unfold f_X8_count
      simp only [n10]
      rw [if_neg (by decide), if_neg (by decide), if_neg (by decide), if_pos (by rfl)]
      refine lp_bind (fun k : Nat => (J (SL G k), J k)) (nn G) rfl (by omega) (fun k hk => ?_) (e := J (SL G (nn G))) ?_ rfl
      · unfold f_X8_count_B62
        simp (disch := omega) only [↓reduceIte, j_lits, J_add, J_sub, J_mul, J_neg, J_le, J_lt, J_eqv, J_div, J_imax, J_imin, JA_get, JG, JA_upd, LET, Option.bind_some, lt_T, lt_F, le_T, le_F, eq_T, eq_F, and_true, true_and, Int.sub_neg, Int.natCast_add, n_lits, e_lengthOf, SLs]
      · unfold f_X8_count_B62
        simp (disch := omega) only [↓reduceIte, j_lits, J_add, J_sub, J_mul, J_neg, J_le, J_lt, J_eqv, J_div, J_imax, J_imin, JA_get, JG, JA_upd, LET, Option.bind_some, lt_T, lt_F, le_T, le_F, eq_T, eq_F, and_true, true_and, Int.sub_neg, Int.natCast_add, n_lits]
    exact ⟨_, h7, _, h8, Or.inl ⟨rfl, rfl, rfl⟩, G, S, hn0, hsv, hh, hsp, hrt, hbk, hin, her, hx, hy⟩
  · have h7 : (f_X7_count (ss 10) (ss 11) (aa 1) (aa 2) (aa 3) (J x)) = some (1, J 0) := by
      unfold f_X7_count
      simp (disch := omega) only [↓reduceIte, j_lits, J_add, J_sub, J_mul, J_neg, J_le, J_lt, J_eqv, J_div, J_imax, J_imin, JA_get, JG, JA_upd, LET, Option.bind_some, lt_T, lt_F, le_T, le_F, eq_T, eq_F, and_true, true_and, Int.sub_neg, Int.natCast_add, n_lits]
    have h8 : (f_X8_count (ms 4) (ma 0) (J x)) = some (J 0, J 1) := by
      unfold f_X8_count
      simp (disch := omega) only [↓reduceIte, j_lits, J_add, J_sub, J_mul, J_neg, J_le, J_lt, J_eqv, J_div, J_imax, J_imin, JA_get, JG, JA_upd, LET, Option.bind_some, lt_T, lt_F, le_T, le_F, eq_T, eq_F, and_true, true_and, Int.sub_neg, Int.natCast_add, n_lits, f_X8_fails]
    exact ⟨_, h7, _, h8, Or.inr ⟨rfl, rfl⟩, G, S, hn0, hsv, hh, hsp, hrt, hbk, hin, her, hx, hy⟩
theorem call_isObstacle (hR : REL ss aa pl po pa ms ma) (x1 x2 : Int32) : WP (f_X7_isObstacle (aa 0) x1 x2) (fun r => WP (f_X8_isObstacle (ms 4) (ma 0) x1 x2) (fun q => ((r.1 = 0 ∧ q.2 = J 0 ∧ r.2 = q.1) ∨ (r.1 = 3 ∧ q.2 = J 1)) ∧ REL ss aa pl po pa (va_up ms 4 q.2) ma)) := by
  obtain ⟨G, S, hn, hsv, hh, hsp, hrt, hbk, hin, her, hx, hy⟩ := hR
  have hn0 := hn
  obtain ⟨⟨n1, n2⟩, ⟨n3, n4, n5, n6, n7, n8, n9⟩, n10, hs, hw⟩ := hn
  obtain ⟨x, rfl, hxr⟩ := J_ex x1
  obtain ⟨y, rfl, hyr⟩ := J_ex x2
  have hw2 := hw.2.2
  have h20 := hw2.1
  by_cases q : (-10 ≤ x ∧ x ≤ 10) ∧ -10 ≤ y ∧ y ≤ 10
  · have hSB := hs.2.2 x y q
    by_cases q2 : OS G x y
    · obtain ⟨r, r1⟩ := q2
      have h7 : (f_X7_isObstacle (aa 0) (J x) (J y)) = some (0, J 1) := by
        unfold f_X7_isObstacle
        simp only [n9]
        refine ob _ (e_requireCell1 q) ?_
        rw [if_pos rfl]
        exact ob _ (e_isBlocked_yes q (hSB.mpr ⟨r, r1⟩)) rfl
      have h8 : (f_X8_isObstacle (ms 4) (ma 0) (J x) (J y)) = some (J 1, J 0) := by
        unfold f_X8_isObstacle f_X8_isObstacle_L14
        refine ob _ (e_isCell1 q) ?_
        simp (disch := omega) only [↓reduceIte, j_lits, J_add, J_sub, J_mul, J_neg, J_le, J_lt, J_eqv, J_div, J_imax, J_imin, JA_get, JG, JA_upd, LET, Option.bind_some, lt_T, lt_F, le_T, le_F, eq_T, eq_F, and_true, true_and, Int.sub_neg, Int.natCast_add, n_lits, n10, e_stoneAt_yes hw2 r1]
      exact ⟨_, h7, _, h8, Or.inl ⟨rfl, rfl, rfl⟩, G, S, hn0, hsv, hh, hsp, hrt, hbk, hin, her, hx, hy⟩
    · have h7 : (f_X7_isObstacle (aa 0) (J x) (J y)) = some (0, J 0) := by
        unfold f_X7_isObstacle
        simp only [n9]
        refine ob _ (e_requireCell1 q) ?_
        rw [if_pos rfl]
        exact ob _ (e_isBlocked_no q (fun z => q2 (hSB.mp z))) rfl
      have h8 : (f_X8_isObstacle (ms 4) (ma 0) (J x) (J y)) = some (J 0, J 0) := by
        unfold f_X8_isObstacle f_X8_isObstacle_L14
        refine ob _ (e_isCell1 q) ?_
        simp (disch := omega) only [↓reduceIte, j_lits, J_add, J_sub, J_mul, J_neg, J_le, J_lt, J_eqv, J_div, J_imax, J_imin, JA_get, JG, JA_upd, LET, Option.bind_some, lt_T, lt_F, le_T, le_F, eq_T, eq_F, and_true, true_and, Int.sub_neg, Int.natCast_add, n_lits, n10, e_stoneAt_no hw2 ⟨hxr, hyr⟩ q2]
      exact ⟨_, h7, _, h8, Or.inl ⟨rfl, rfl, rfl⟩, G, S, hn0, hsv, hh, hsp, hrt, hbk, hin, her, hx, hy⟩
  · have h7 : (f_X7_isObstacle (aa 0) (J x) (J y)) = some (3, J 0) := by
      unfold f_X7_isObstacle
      exact ob _ (e_requireCell0 ⟨hxr, hyr, q⟩) rfl
    have h8 : (f_X8_isObstacle (ms 4) (ma 0) (J x) (J y)) = some (J 0, J 1) := by
      unfold f_X8_isObstacle f_X8_isObstacle_L14
      refine ob _ (e_isCell0 ⟨hxr, hyr, q⟩) ?_
      simp (disch := omega) only [↓reduceIte, j_lits, J_add, J_sub, J_mul, J_neg, J_le, J_lt, J_eqv, J_div, J_imax, J_imin, JA_get, JG, JA_upd, LET, Option.bind_some, lt_T, lt_F, le_T, le_F, eq_T, eq_F, and_true, true_and, Int.sub_neg, Int.natCast_add, n_lits]
    exact ⟨_, h7, _, h8, Or.inr ⟨rfl, rfl⟩, G, S, hn0, hsv, hh, hsp, hrt, hbk, hin, her, hx, hy⟩
theorem call_obstacle (hR : REL ss aa pl po pa ms ma) (x1 x2 : Int32) : WP (f_X7_obstacle (ss 11) (aa 5) (aa 6) x1 x2) (fun r => WP (f_X8_obstacle (ms 4) (ma 0) x1 x2) (fun q => ((r.1 = 0 ∧ q.2 = J 0 ∧ r.2 = q.1) ∨ (r.1 = 3 ∧ q.2 = J 1)) ∧ REL ss aa pl po pa (va_up ms 4 q.2) ma)) := by
  obtain ⟨G, S, hn, hsv, hh, hsp, hrt, hbk, hin, her, hx, hy⟩ := hR
  have hn0 := hn
  obtain ⟨⟨n1, n2⟩, ⟨n3, n4, n5, n6, n7, n8, n9⟩, n10, hs, hw⟩ := hn
  obtain ⟨i, rfl, hir⟩ := J_ex x1
  have h20 := hw.2.2.1
  by_cases q : 0 ≤ i ∧ i < G 20
  · have h1 := hs.2.1 i q.1 q.2
    by_cases z : x2 = 0
    · have h7 : (f_X7_obstacle (ss 11) (aa 5) (aa 6) (J i) x2) = some (0, J (G (21 + 2 * i))) := by
        unfold f_X7_obstacle
        rw [z]
        simp (disch := omega) only [↓reduceIte, j_lits, J_add, J_sub, J_mul, J_neg, J_le, J_lt, J_eqv, J_div, J_imax, J_imin, JA_get, JG, JA_upd, LET, Option.bind_some, lt_T, lt_F, le_T, le_F, eq_T, eq_F, and_true, true_and, Int.sub_neg, Int.natCast_add, n_lits, n1, n2, n3, n4, n5, n6, n7, n8, n9, n10, h1.1]
      have h8 : (f_X8_obstacle (ms 4) (ma 0) (J i) x2) = some (J (G (21 + 2 * i)), J 0) := by
        unfold f_X8_obstacle f_X8_obstacle_L23 f_X8_obstacle_L56
        rw [z]
        simp (disch := omega) only [↓reduceIte, j_lits, J_add, J_sub, J_mul, J_neg, J_le, J_lt, J_eqv, J_div, J_imax, J_imin, JA_get, JG, JA_upd, LET, Option.bind_some, lt_T, lt_F, le_T, le_F, eq_T, eq_F, and_true, true_and, Int.sub_neg, Int.natCast_add, n_lits, n10, e_in1, Int.add_zero]
      exact ⟨_, h7, _, h8, Or.inl ⟨rfl, rfl, rfl⟩, G, S, hn0, hsv, hh, hsp, hrt, hbk, hin, her, hx, hy⟩
    · have h7 : (f_X7_obstacle (ss 11) (aa 5) (aa 6) (J i) x2) = some (0, J (G (21 + 2 * i + 1))) := by
        unfold f_X7_obstacle
        simp only [if_neg z]
        simp (disch := omega) only [↓reduceIte, j_lits, J_add, J_sub, J_mul, J_neg, J_le, J_lt, J_eqv, J_div, J_imax, J_imin, JA_get, JG, JA_upd, LET, Option.bind_some, lt_T, lt_F, le_T, le_F, eq_T, eq_F, and_true, true_and, Int.sub_neg, Int.natCast_add, n_lits, n1, n2, n3, n4, n5, n6, n7, n8, n9, n10, h1.2]
      have h8 : (f_X8_obstacle (ms 4) (ma 0) (J i) x2) = some (J (G (21 + 2 * i + 1)), J 0) := by
        unfold f_X8_obstacle f_X8_obstacle_L23 f_X8_obstacle_L56
        simp only [if_neg z]
        simp (disch := omega) only [↓reduceIte, j_lits, J_add, J_sub, J_mul, J_neg, J_le, J_lt, J_eqv, J_div, J_imax, J_imin, JA_get, JG, JA_upd, LET, Option.bind_some, lt_T, lt_F, le_T, le_F, eq_T, eq_F, and_true, true_and, Int.sub_neg, Int.natCast_add, n_lits, n10, e_in1]
      exact ⟨_, h7, _, h8, Or.inl ⟨rfl, rfl, rfl⟩, G, S, hn0, hsv, hh, hsp, hrt, hbk, hin, her, hx, hy⟩
  · have h7 : (f_X7_obstacle (ss 11) (aa 5) (aa 6) (J i) x2) = some (3, J 0) := by
      unfold f_X7_obstacle f_X7_obstacle_L21
      by_cases z : i < 0
      · simp (disch := omega) only [↓reduceIte, j_lits, J_add, J_sub, J_mul, J_neg, J_le, J_lt, J_eqv, J_div, J_imax, J_imin, JA_get, JG, JA_upd, LET, Option.bind_some, lt_T, lt_F, le_T, le_F, eq_T, eq_F, and_true, true_and, Int.sub_neg, Int.natCast_add, n_lits, n1, n2, n3, n4, n5, n6, n7, n8, n9, n10]
      · simp (disch := omega) only [↓reduceIte, j_lits, J_add, J_sub, J_mul, J_neg, J_le, J_lt, J_eqv, J_div, J_imax, J_imin, JA_get, JG, JA_upd, LET, Option.bind_some, lt_T, lt_F, le_T, le_F, eq_T, eq_F, and_true, true_and, Int.sub_neg, Int.natCast_add, n_lits, n1, n2, n3, n4, n5, n6, n7, n8, n9, n10]
    have h8 : (f_X8_obstacle (ms 4) (ma 0) (J i) x2) = some (J 0, J 1) := by
      unfold f_X8_obstacle f_X8_obstacle_L23
      simp (disch := omega) only [↓reduceIte, j_lits, J_add, J_sub, J_mul, J_neg, J_le, J_lt, J_eqv, J_div, J_imax, J_imin, JA_get, JG, JA_upd, LET, Option.bind_some, lt_T, lt_F, le_T, le_F, eq_T, eq_F, and_true, true_and, Int.sub_neg, Int.natCast_add, n_lits, n10, e_in0]
    exact ⟨_, h7, _, h8, Or.inr ⟨rfl, rfl⟩, G, S, hn0, hsv, hh, hsp, hrt, hbk, hin, her, hx, hy⟩
theorem w_now8 (hl : WL G) (po wy px py : Nat → Int32) (hx : Z0 px) (hy : Z0 py) : ∃ F W X Y : Int → Int, f_X8_now (JA G) po wy px py = some (JA F, JA W, JA X, JA Y) ∧ (∀ k : Int, 0 ≤ k → k < G 0 → F k = GV G k) ∧ LAID G (GV G) W X Y ∧ Z0 (JA X) ∧ Z0 (JA Y) := by
  obtain ⟨F, rfl, -⟩ := JA_ex po
  obtain ⟨W, rfl, -⟩ := JA_ex wy
  obtain ⟨X, rfl, hx⟩ := hx
  obtain ⟨Y, rfl, hy⟩ := hy
  obtain ⟨F', W', X', Y', h1, h2, h3, h4, h5⟩ := e_now (F := F) (way := W) hl hx hy
  exact ⟨F', W', X', Y', h1, h2, LAID_congr h2 h3, ⟨X', rfl, h4⟩, ⟨Y', rfl, h5⟩⟩
theorem call_tip (hR : REL ss aa pl po pa ms ma) (x1 : Int32) : WP (f_X7_tip (ss 10) (aa 1) (aa 4) (aa 0) (ss 14) (ss 15) (ss 16) (ss 17) (aa 7) (aa 8) (aa 9) (aa 10) x1) (fun r => WP (f_X8_tip (ms 4) (ma 0) (ma 3) (ma 4) (ma 5) (ma 6) x1) (fun q => (r.1 = q.1) ∧ REL (va_up (va_up (va_up (va_up ss 14 r.2.1) 15 r.2.2.1) 16 r.2.2.2.1) 17 r.2.2.2.2.1) (va_up (va_up (va_up (va_up aa 7 r.2.2.2.2.2.1) 8 r.2.2.2.2.2.2.1) 9 r.2.2.2.2.2.2.2.1) 10 r.2.2.2.2.2.2.2.2) pl po pa (va_up ms 4 q.2.1) (va_up (va_up (va_up (va_up ma 3 q.2.2.1) 4 q.2.2.2.1) 5 q.2.2.2.2.1) 6 q.2.2.2.2.2))) := by
  obtain ⟨G, S, hn, hsv, hh, hsp, hrt, hbk, hin, her, hx, hy⟩ := hR
  have hn0 := hn
  obtain ⟨⟨n1, n2⟩, ⟨n3, n4, n5, n6, n7, n8, n9⟩, n10, hs, hw⟩ := hn
  have h0 := hw.1.1
  have h1 := nn_eq hw.1
  obtain ⟨F, W, X, Y, g1, g2, g3, g4, g5⟩ := w_now8 hw.1 (ma 3) (ma 4) (ma 5) (ma 6) hx hy
  have g6 := g3.2 (nn G) (by omega)
  rw [h1] at g6
  obtain ⟨o, ho, f, l, B, C, D, k1, k2, k3, k4, k5, -⟩ := w_along_own (v := GV G) hw.1 hw.2.2 hs.ln hs.vl hs.bl (ss 14) (ss 15) (ss 16) (ss 17) (aa 7) (aa 8) (aa 9) (aa 10)
  unfold f_X7_tip f_X8_tip
  simp only [n1, n2, n3, n4, n5, n6, n7, n8, n9, n10]
  refine WP.ob ho ?_
  by_cases z : x1 = 0
  · rw [if_pos z]
    refine WP.ret ?_
    refine WP.ob g1 ?_
    dsimp only
    rw [if_pos z, show (0 : Int32) = J 0 from rfl, JG (by omega), JA_get _ (by omega), JG (by omega), JA_get _ (by omega), g6.1]
    exact WP.ret ⟨k4, G, S, hn0, hsv, hh, hsp, hrt, hbk, hin, her, g4, g5⟩
  · rw [if_neg z]
    refine WP.ret ?_
    refine WP.ob g1 ?_
    dsimp only
    rw [if_neg z, show (0 : Int32) = J 0 from rfl, JG (by omega), JA_get _ (by omega), JG (by omega), JA_get _ (by omega), g6.2]
    exact WP.ret ⟨k5, G, S, hn0, hsv, hh, hsp, hrt, hbk, hin, her, g4, g5⟩
theorem call_fault (hR : REL ss aa pl po pa ms ma) : WP (f_X7_fault (ss 10) (aa 1) (aa 4) (aa 0) (ss 14) (ss 15) (ss 16) (ss 17) (aa 7) (aa 8) (aa 9) (aa 10) ) (fun r => WP (f_X8_fault (ms 4) (ms 5) (ma 0) (ma 3) (ma 4) (ma 5) (ma 6) ) (fun q => (r.1 = q.1) ∧ REL (va_up (va_up (va_up (va_up ss 14 r.2.1) 15 r.2.2.1) 16 r.2.2.2.1) 17 r.2.2.2.2.1) (va_up (va_up (va_up (va_up aa 7 r.2.2.2.2.2.1) 8 r.2.2.2.2.2.2.1) 9 r.2.2.2.2.2.2.2.1) 10 r.2.2.2.2.2.2.2.2) pl po pa (va_up (va_up ms 4 q.2.1) 5 q.2.2.1) (va_up (va_up (va_up (va_up ma 3 q.2.2.2.1) 4 q.2.2.2.2.1) 5 q.2.2.2.2.2.1) 6 q.2.2.2.2.2.2))) := by
  obtain ⟨G, S, hn, hsv, hh, hsp, hrt, hbk, hin, her, hx, hy⟩ := hR
  have hn0 := hn
  obtain ⟨⟨n1, n2⟩, ⟨n3, n4, n5, n6, n7, n8, n9⟩, n10, hs, hw⟩ := hn
  obtain ⟨F, W, X, Y, g1, g2, g3, g4, g5⟩ := w_now8 hw.1 (ma 3) (ma 4) (ma 5) (ma 6) hx hy
  obtain ⟨o, ho, f, l, B, C, D, k1, k2, k3, k4, k5, -⟩ := w_along_own (v := GV G) hw.1 hw.2.2 hs.ln hs.vl hs.bl (ss 14) (ss 15) (ss 16) (ss 17) (aa 7) (aa 8) (aa 9) (aa 10)
  have g6 := e_faultHere (fa := (ms 5).toInt) hw.1 hw.2.2 g3 k1
  rw [J_of] at g6
  unfold f_X7_fault f_X8_fault
  simp only [n1, n2, n3, n4, n5, n6, n7, n8, n9, n10]
  refine WP.ob ho ?_
  refine WP.ret ?_
  refine WP.ob g1 ?_
  refine WP.ob g6 ?_
  exact WP.ret ⟨k2, G, S, hn0, hsv, hh, hsp, hrt, hbk, hin, her, g4, g5⟩
theorem call_faultyLink (hR : REL ss aa pl po pa ms ma) : WP (f_X7_faultyLink (ss 10) (aa 1) (aa 4) (aa 0) (ss 14) (ss 15) (ss 16) (ss 17) (aa 7) (aa 8) (aa 9) (aa 10) ) (fun r => WP (f_X8_faultyLink (ms 4) (ms 5) (ma 0) (ma 3) (ma 4) (ma 5) (ma 6) ) (fun q => ((r.1 = 0 ∧ q.2.1 = J 0 ∧ r.2.1 = q.1) ∨ (r.1 = 4 ∧ q.2.1 = J 1)) ∧ REL (va_up (va_up (va_up (va_up ss 14 r.2.2.1) 15 r.2.2.2.1) 16 r.2.2.2.2.1) 17 r.2.2.2.2.2.1) (va_up (va_up (va_up (va_up aa 7 r.2.2.2.2.2.2.1) 8 r.2.2.2.2.2.2.2.1) 9 r.2.2.2.2.2.2.2.2.1) 10 r.2.2.2.2.2.2.2.2.2) pl po pa (va_up (va_up ms 4 q.2.1) 5 q.2.2.1) (va_up (va_up (va_up (va_up ma 3 q.2.2.2.1) 4 q.2.2.2.2.1) 5 q.2.2.2.2.2.1) 6 q.2.2.2.2.2.2))) := by
  obtain ⟨G, S, hn, hsv, hh, hsp, hrt, hbk, hin, her, hx, hy⟩ := hR
  have hn0 := hn
  obtain ⟨⟨n1, n2⟩, ⟨n3, n4, n5, n6, n7, n8, n9⟩, n10, hs, hw⟩ := hn
  obtain ⟨F, W, X, Y, g1, g2, g3, g4, g5⟩ := w_now8 hw.1 (ma 3) (ma 4) (ma 5) (ma 6) hx hy
  obtain ⟨o, ho, f, l, B, C, D, k1, k2, k3, k4, k5, -⟩ := w_along_own (v := GV G) hw.1 hw.2.2 hs.ln hs.vl hs.bl (ss 14) (ss 15) (ss 16) (ss 17) (aa 7) (aa 8) (aa 9) (aa 10)
  have g6 := e_faultHere (fa := (ms 5).toInt) hw.1 hw.2.2 g3 k1
  rw [J_of] at g6
  have g7 := FS_c k1
  unfold f_X7_faultyLink f_X8_faultyLink
  simp only [n1, n2, n3, n4, n5, n6, n7, n8, n9, n10]
  refine WP.ob ho ?_
  rw [k2]
  by_cases z : f = 0
  · subst z
    rw [if_pos (by rfl)]
    refine WP.ret ?_
    refine WP.ob g1 ?_
    refine WP.ob g6 ?_
    rw [if_pos (show J 0 = 0 from rfl)]
    exact WP.ret ⟨Or.inr ⟨rfl, rfl⟩, G, S, hn0, hsv, hh, hsp, hrt, hbk, hin, her, g4, g5⟩
  · rw [if_neg (by rw [show (0 : Int32) = J 0 from rfl, J_eqv (by omega)]; exact z)]
    refine WP.ret ?_
    refine WP.ob g1 ?_
    refine WP.ob g6 ?_
    rw [if_neg z, if_neg (show ¬ J f = 0 by rw [show (0 : Int32) = J 0 from rfl, J_eqv (by omega)]; exact z)]
    exact WP.ret ⟨Or.inl ⟨rfl, rfl, k3⟩, G, S, hn0, hsv, hh, hsp, hrt, hbk, hin, her, g4, g5⟩
theorem call_poseNumber (hR : REL ss aa pl po pa ms ma) : WP (f_X7_poseNumber (ss 10) (aa 2) (aa 3) (aa 4) ) (fun r => WP (f_X8_poseNumber (ms 4) (ma 0) ) (fun q => (r = q.1) ∧ REL ss aa pl po pa (va_up ms 4 q.2) ma)) := by
  obtain ⟨G, S, hn, hsv, hh, hsp, hrt, hbk, hin, her, hx, hy⟩ := hR
  have hn0 := hn
  obtain ⟨⟨n1, n2⟩, ⟨n3, n4, n5, n6, n7, n8, n9⟩, n10, hs, hw⟩ := hn
  have e : HN G (S 3) (nn G) = HN G (GV G) (nn G) := HN_congr (nn G) (fun k a b => hs.vl k a (by have := nn_eq hw.1; omega))
  unfold f_X7_poseNumber f_X8_poseNumber
  simp only [n1, n2, n3, n4, n5, n6, n7, n8, n9, n10]
  refine WP.ob (e_numberOf_own hw.1 hs.rb) ?_
  refine WP.ret ?_
  refine WP.ob (e_numberNow hw.1) ?_
  exact WP.ret ⟨congrArg J e, G, S, hn0, hsv, hh, hsp, hrt, hbk, hin, her, hx, hy⟩
theorem j_div8 {a : Int} (h : -1000000 ≤ a ∧ a ≤ 1000000) : J a / J 8 = J (a.tdiv 8) := by
  have h1 : (J a / J 8).toInt = a.tdiv 8 := by
    rw [Int32.toInt_div_of_ne_right _ _ (by decide), J_val (by omega)]
    rfl
  have h2 := J_of (J a / J 8)
  rw [h1] at h2
  exact h2.symm
theorem j_xor8 {a : Int} (h : -1000000 ≤ a ∧ a ≤ 1000000) : (0 ≤ J a ^^^ J 8) = (0 ≤ a) := by
  have h1 : (0 ≤ J a ^^^ J 8) ↔ ¬ (J a ^^^ J 8) < 0 := Int32.not_lt.symm
  rw [h1]
  have h2 : ((J a ^^^ J 8) < 0) ↔ (J a ^^^ J 8).toBitVec.msb = true := by
    rw [Int32.lt_iff_toInt_lt]
    show (J a ^^^ J 8).toBitVec.toInt < 0 ↔ _
    rw [BitVec.toInt_neg_iff, BitVec.msb_eq_decide]
    simp only [decide_eq_true_eq]
    omega
  rw [h2]
  have h3 : (J a ^^^ J 8).toBitVec.msb = (J a).toBitVec.msb := by
    show ((J a).toBitVec ^^^ 8#32).msb = _
    rw [BitVec.msb_xor]
    show ((J a).toBitVec.msb ^^ false) = _
    rw [Bool.xor_false]
  rw [h3]
  have h4 : ((J a).toBitVec.msb = true) ↔ a < 0 := by
    have h5 : ((J a).toInt < 0) ↔ (J a).toBitVec.msb = true := by
      show (J a).toBitVec.toInt < 0 ↔ _
      rw [BitVec.toInt_neg_iff, BitVec.msb_eq_decide]
      simp only [decide_eq_true_eq]
      omega
    rw [← h5, J_val (by omega)]
  rw [h4]
  exact propext Int.not_lt
theorem i_tdiv8 {a : Int} (h : a < 0) : a.tdiv 8 = -((-a) / 8) := by
  have h1 := Int.neg_tdiv (-a) 8
  rw [Int.neg_neg, Int.tdiv_eq_ediv_of_nonneg (show 0 ≤ -a by omega)] at h1
  exact h1
theorem e_floorDiv8 {a : Int} (h : -1000000 ≤ a ∧ a ≤ 1000000) : f_J9_floorDiv_7cf53 (J a) 8 = some (J (a / 8)) := by
  unfold f_J9_floorDiv_7cf53
  rw [show (8 : Int32) = J 8 from rfl, JN (by omega)]
  simp only [LET]
  rw [j_div8 h]
  by_cases q : 0 ≤ a
  · rw [if_pos (by rw [j_xor8 h]; exact q), Int.tdiv_eq_ediv_of_nonneg q]
  · have e := i_tdiv8 (a := a) (by omega)
    rw [if_neg (by rw [j_xor8 h]; exact q), J_mul, show (1 : Int32) = J 1 from rfl, J_sub]
    by_cases z : a.tdiv 8 * 8 = a
    · rw [if_pos (congrArg J z)]
      exact congrArg some (congrArg J (by omega))
    · rw [if_neg (by rw [J_eqv (by omega)]; exact z)]
      exact congrArg some (congrArg J (by omega))
theorem e_floorMod8 {a : Int} (h : -1000000 ≤ a ∧ a ≤ 1000000) : f_J9_floorMod_7cf53 (J a) 8 = some (J (a % 8)) := by
  unfold f_J9_floorMod_7cf53
  rw [show (8 : Int32) = J 8 from rfl, JN (by omega)]
  simp only [LET]
  rw [j_div8 h, J_mul, J_sub]
  by_cases q : 0 ≤ a
  · rw [if_pos (by rw [j_xor8 h]; exact q), Int.tdiv_eq_ediv_of_nonneg q]
    exact congrArg some (congrArg J (by omega))
  · have e := i_tdiv8 (a := a) (by omega)
    rw [if_neg (by rw [j_xor8 h]; exact q), J_add, show (0 : Int32) = J 0 from rfl]
    by_cases z : a - a.tdiv 8 * 8 = 0
    · rw [if_pos (congrArg J z)]
      exact congrArg some (congrArg J (by omega))
    · rw [if_neg (by rw [J_eqv (by omega)]; exact z)]
      exact congrArg some (congrArg J (by omega))
theorem call_winding (hR : REL ss aa pl po pa ms ma) : WP (f_X7_winding (ss 10) (aa 4) ) (fun r => WP (f_X8_winding (ms 4) (ma 0) ) (fun q => (r = q.1) ∧ REL ss aa pl po pa (va_up ms 4 q.2) ma)) := by
  obtain ⟨G, S, hn, hsv, hh, hsp, hrt, hbk, hin, her, hx, hy⟩ := hR
  have hn0 := hn
  obtain ⟨⟨n1, n2⟩, ⟨n3, n4, n5, n6, n7, n8, n9⟩, n10, hs, hw⟩ := hn
  have h0 := hw.1.1
  have h1 := nn_eq hw.1
  have hb : ∀ k : Nat, (k : Int) ≤ G 0 → -8 * (k : Int) ≤ SU (GV G) k ∧ SU (GV G) k ≤ 8 * (k : Int) := by
    intro k
    induction k with
    | zero =>
      intro _
      show -8 * ((0 : Nat) : Int) ≤ 0 ∧ (0 : Int) ≤ 8 * ((0 : Nat) : Int)
      omega
    | succ k ih =>
      intro hk
      have h2 := ih (by omega)
      have h3 := hw.2.1 k (by omega) (by omega)
      have h4 := hw.1.2 k (by omega) (by omega)
      show -8 * ((k + 1 : Nat) : Int) ≤ SU (GV G) k + GV G k ∧ SU (GV G) k + GV G k ≤ 8 * ((k + 1 : Nat) : Int)
      omega
  have hb := hb (nn G) (by omega)
  have hs2 : ∀ k : Nat, SU (GV G) (k + 1) = SU (GV G) k + GV G k := fun _ => rfl
  unfold f_X7_winding f_X8_winding
  simp only [n1, n2, n3, n4, n5, n6, n7, n8, n9, n10]
  refine WP.ob (a := J (SU (GV G) (nn G))) ?_ ?_
  · refine lp_for (fun k : Nat => (J (SU (GV G) k), J k)) (nn G) rfl (by omega) (fun k hk => ?_) ?_
    · have h3 := hs.vl k (by omega) (by omega)
      unfold f_X7_winding_B4
      simp (disch := omega) only [↓reduceIte, j_lits, J_add, J_sub, J_mul, J_neg, J_le, J_lt, J_eqv, J_div, J_imax, J_imin, JA_get, JG, JA_upd, LET, Option.bind_some, lt_T, lt_F, le_T, le_F, eq_T, eq_F, and_true, true_and, Int.sub_neg, Int.natCast_add, n_lits, h3, hs2]
    · unfold f_X7_winding_B4
      simp (disch := omega) only [↓reduceIte, j_lits, J_add, J_sub, J_mul, J_neg, J_le, J_lt, J_eqv, J_div, J_imax, J_imin, JA_get, JG, JA_upd, LET, Option.bind_some, lt_T, lt_F, le_T, le_F, eq_T, eq_F, and_true, true_and, Int.sub_neg, Int.natCast_add, n_lits]
  · refine WP.ob (e_floorDiv8 (by omega)) ?_
    refine WP.ret ?_
    refine WP.ob (a := J (SU (GV G) (nn G))) ?_ ?_
    · refine lp_for (fun k : Nat => (J (SU (GV G) k), J k)) (nn G) rfl (by omega) (fun k hk => ?_) ?_
      · unfold f_X8_winding_B9
        simp (disch := omega) only [↓reduceIte, j_lits, J_add, J_sub, J_mul, J_neg, J_le, J_lt, J_eqv, J_div, J_imax, J_imin, JA_get, JG, JA_upd, LET, Option.bind_some, lt_T, lt_F, le_T, le_F, eq_T, eq_F, and_true, true_and, Int.sub_neg, Int.natCast_add, n_lits, hs2, GV]
      · unfold f_X8_winding_B9
        simp (disch := omega) only [↓reduceIte, j_lits, J_add, J_sub, J_mul, J_neg, J_le, J_lt, J_eqv, J_div, J_imax, J_imin, JA_get, JG, JA_upd, LET, Option.bind_some, lt_T, lt_F, le_T, le_F, eq_T, eq_F, and_true, true_and, Int.sub_neg, Int.natCast_add, n_lits]
    · refine WP.ret ⟨?_, G, S, hn0, hsv, hh, hsp, hrt, hbk, hin, her, hx, hy⟩
      exact (J_shr3 (by omega)).symm
theorem e_requirePose1 (hw : WF G) (hr : RB G (S 1) (S 2)) {p : Int} (h : 0 ≤ p ∧ p < NP G) : f_X7_requirePose (J (G 0)) (JA (S 1)) (JA (S 2)) (J p) = some 0 := by
  have hN := NP_b hw.1
  unfold f_X7_requirePose
  simp (disch := omega) only [↓reduceIte, j_lits, J_add, J_sub, J_mul, J_neg, J_le, J_lt, J_eqv, J_div, J_imax, J_imin, JA_get, JG, JA_upd, LET, Option.bind_some, lt_T, lt_F, le_T, le_F, eq_T, eq_F, and_true, true_and, Int.sub_neg, Int.natCast_add, n_lits, e_poses4 hw.1 hr]
theorem e_requirePose0 (hw : WF G) (hr : RB G (S 1) (S 2)) {p : Int} (h : (-2147483648 ≤ p ∧ p ≤ 2147483647) ∧ ¬ (0 ≤ p ∧ p < NP G)) : f_X7_requirePose (J (G 0)) (JA (S 1)) (JA (S 2)) (J p) = some 3 := by
  have hN := NP_b hw.1
  unfold f_X7_requirePose f_X7_requirePose_L15
  by_cases q : p < 0
  · simp (disch := omega) only [↓reduceIte, j_lits, J_add, J_sub, J_mul, J_neg, J_le, J_lt, J_eqv, J_div, J_imax, J_imin, JA_get, JG, JA_upd, LET, Option.bind_some, lt_T, lt_F, le_T, le_F, eq_T, eq_F, and_true, true_and, Int.sub_neg, Int.natCast_add, n_lits]
  · simp (disch := omega) only [↓reduceIte, j_lits, J_add, J_sub, J_mul, J_neg, J_le, J_lt, J_eqv, J_div, J_imax, J_imin, JA_get, JG, JA_upd, LET, Option.bind_some, lt_T, lt_F, le_T, le_F, eq_T, eq_F, and_true, true_and, Int.sub_neg, Int.natCast_add, n_lits, e_poses4 hw.1 hr]
theorem w_takes8 {p : Int} (hl : WL G) (hp : 0 ≤ p ∧ p < NP G) (po wy px py : Nat → Int32) (hx : Z0 px) (hy : Z0 py) : ∃ F W X Y : Int → Int, f_X8_takes (JA G) po wy px py (J p) = some (JA F, JA W, JA X, JA Y) ∧ (∀ k : Int, 0 ≤ k → k < G 0 → F k = DV G p k) ∧ LAID G (DV G p) W X Y ∧ Z0 (JA X) ∧ Z0 (JA Y) := by
  obtain ⟨F, rfl, -⟩ := JA_ex po
  obtain ⟨W, rfl, -⟩ := JA_ex wy
  obtain ⟨X, rfl, hx⟩ := hx
  obtain ⟨Y, rfl, hy⟩ := hy
  obtain ⟨F', W', X', Y', h1, h2, h3, h4, h5⟩ := e_takes (F := F) (way := W) hl hx hy hp
  exact ⟨F', W', X', Y', h1, h2, LAID_congr h2 h3, ⟨X', rfl, h4⟩, ⟨Y', rfl, h5⟩⟩
theorem call_poseValue (hR : REL ss aa pl po pa ms ma) (x1 x2 : Int32) : WP (f_X7_poseValue (ss 10) (aa 2) (aa 3) (aa 11) x1 x2) (fun r => WP (f_X8_poseValue (ms 4) (ma 0) (ma 3) (ma 4) (ma 5) (ma 6) x1 x2) (fun q => ((r.1 = 0 ∧ q.2.1 = J 0 ∧ r.2.1 = q.1) ∨ (r.1 = 3 ∧ q.2.1 = J 1)) ∧ REL ss (va_up aa 11 r.2.2) pl po pa (va_up ms 4 q.2.1) (va_up (va_up (va_up (va_up ma 3 q.2.2.1) 4 q.2.2.2.1) 5 q.2.2.2.2.1) 6 q.2.2.2.2.2))) := by
  obtain ⟨G, S, hn, hsv, hh, hsp, hrt, hbk, hin, her, hx, hy⟩ := hR
  have hn0 := hn
  obtain ⟨⟨n1, n2⟩, ⟨n3, n4, n5, n6, n7, n8, n9⟩, n10, hs, hw⟩ := hn
  obtain ⟨p, rfl, hpr⟩ := J_ex x1
  obtain ⟨k, rfl, hkr⟩ := J_ex x2
  have h0 := hw.1.1
  have hN := NP_b hw.1
  by_cases q : (0 ≤ p ∧ p < NP G) ∧ 0 ≤ k ∧ k < G 0
  · obtain ⟨TR, hTR, -⟩ := JA_ex (aa 11)
    obtain ⟨F, W, X, Y, g1, g2, g3, g4, g5⟩ := w_takes8 hw.1 q.1 (ma 3) (ma 4) (ma 5) (ma 6) hx hy
    have e1 : PS G p TR k = DV G p k := if_pos q.2
    unfold f_X7_poseValue f_X8_poseValue
    simp only [n1, n2, n3, n4, n5, n6, n7, n8, n9, n10, hTR]
    rw [if_neg (by rw [show (0 : Int32) = J 0 from rfl, J_lt (by omega)]; omega)]
    refine WP.ob (e_poses4 hw.1 hs.rb) ?_
    rw [if_neg (by rw [J_le (by omega)]; omega)]
    refine WP.ob (e_hasLink1 (by omega)) ?_
    rw [if_neg (by decide), if_pos (by rw [show (4 : Int32) = J 4 from rfl, J_lt (by omega)]; omega)]
    refine WP.ob (e_readPose hw.1 hs.rb q.1) ?_
    rw [JG (by omega), JA_get _ (by omega), e1]
    refine WP.ret ?_
    refine WP.ob (e_isPose81 hw.1 q.1) ?_
    rw [if_neg (by decide)]
    refine WP.ob (e_isJoint1 h0 q.2) ?_
    rw [if_neg (by decide)]
    unfold f_X8_poseValue_L22
    rw [if_pos (by decide)]
    refine WP.ob g1 ?_
    dsimp only
    rw [JG (by omega), JA_get _ (by omega), g2 k q.2.1 q.2.2]
    exact WP.ret ⟨Or.inl ⟨rfl, rfl, rfl⟩, G, S, hn0, hsv, hh, hsp, hrt, hbk, hin, her, g4, g5⟩
  · have h7 : (f_X7_poseValue (ss 10) (aa 2) (aa 3) (aa 11) (J p) (J k)) = some (3, J 0, (aa 11)) := by
      unfold f_X7_poseValue f_X7_poseValue_L31
      simp only [n1, n2, n3, n4, n5, n6, n7, n8, n9, n10]
      by_cases z1 : p < 0
      · simp (disch := omega) only [↓reduceIte, j_lits, J_add, J_sub, J_mul, J_neg, J_le, J_lt, J_eqv, J_div, J_imax, J_imin, JA_get, JG, JA_upd, LET, Option.bind_some, lt_T, lt_F, le_T, le_F, eq_T, eq_F, and_true, true_and, Int.sub_neg, Int.natCast_add, n_lits]
      · by_cases z2 : NP G ≤ p
        · simp (disch := omega) only [↓reduceIte, j_lits, J_add, J_sub, J_mul, J_neg, J_le, J_lt, J_eqv, J_div, J_imax, J_imin, JA_get, JG, JA_upd, LET, Option.bind_some, lt_T, lt_F, le_T, le_F, eq_T, eq_F, and_true, true_and, Int.sub_neg, Int.natCast_add, n_lits, e_poses4 hw.1 hs.rb]
        · simp (disch := omega) only [↓reduceIte, j_lits, J_add, J_sub, J_mul, J_neg, J_le, J_lt, J_eqv, J_div, J_imax, J_imin, JA_get, JG, JA_upd, LET, Option.bind_some, lt_T, lt_F, le_T, le_F, eq_T, eq_F, and_true, true_and, Int.sub_neg, Int.natCast_add, n_lits, e_poses4 hw.1 hs.rb, e_hasLink0]
    have h8 : (f_X8_poseValue (ms 4) (ma 0) (ma 3) (ma 4) (ma 5) (ma 6) (J p) (J k)) = some (J 0, J 1, (ma 3), (ma 4), (ma 5), (ma 6)) := by
      unfold f_X8_poseValue f_X8_poseValue_L21 f_X8_poseValue_L22
      simp only [n10]
      by_cases z1 : 0 ≤ p ∧ p < NP G
      · refine ob _ (e_isPose81 hw.1 z1) ?_
        rw [if_neg (by decide)]
        refine ob _ (e_isJoint0 h0 (by omega)) ?_
        simp (disch := omega) only [↓reduceIte, j_lits, J_add, J_sub, J_mul, J_neg, J_le, J_lt, J_eqv, J_div, J_imax, J_imin, JA_get, JG, JA_upd, LET, Option.bind_some, lt_T, lt_F, le_T, le_F, eq_T, eq_F, and_true, true_and, Int.sub_neg, Int.natCast_add, n_lits]
      · refine ob _ (e_isPose80 hw.1 ⟨hpr, z1⟩) ?_
        simp (disch := omega) only [↓reduceIte, j_lits, J_add, J_sub, J_mul, J_neg, J_le, J_lt, J_eqv, J_div, J_imax, J_imin, JA_get, JG, JA_upd, LET, Option.bind_some, lt_T, lt_F, le_T, le_F, eq_T, eq_F, and_true, true_and, Int.sub_neg, Int.natCast_add, n_lits]
    exact ⟨_, h7, _, h8, Or.inr ⟨rfl, rfl⟩, G, S, hn0, hsv, hh, hsp, hrt, hbk, hin, her, hx, hy⟩
theorem call_isFreePose (hR : REL ss aa pl po pa ms ma) (x1 : Int32) : WP (f_X7_isFreePose (ss 10) (aa 1) (aa 2) (aa 3) (aa 0) (ss 14) (ss 15) (ss 16) (ss 17) (aa 7) (aa 8) (aa 9) (aa 10) (aa 11) x1) (fun r => WP (f_X8_isFreePose (ms 4) (ms 5) (ma 0) (ma 3) (ma 4) (ma 5) (ma 6) x1) (fun q => ((r.1 = 0 ∧ q.2.1 = J 0 ∧ r.2.1 = q.1) ∨ (r.1 = 3 ∧ q.2.1 = J 1)) ∧ REL (va_up (va_up (va_up (va_up ss 14 r.2.2.1) 15 r.2.2.2.1) 16 r.2.2.2.2.1) 17 r.2.2.2.2.2.1) (va_up (va_up (va_up (va_up (va_up aa 7 r.2.2.2.2.2.2.1) 8 r.2.2.2.2.2.2.2.1) 9 r.2.2.2.2.2.2.2.2.1) 10 r.2.2.2.2.2.2.2.2.2.1) 11 r.2.2.2.2.2.2.2.2.2.2) pl po pa (va_up (va_up ms 4 q.2.1) 5 q.2.2.1) (va_up (va_up (va_up (va_up ma 3 q.2.2.2.1) 4 q.2.2.2.2.1) 5 q.2.2.2.2.2.1) 6 q.2.2.2.2.2.2))) := by
  obtain ⟨G, S, hn, hsv, hh, hsp, hrt, hbk, hin, her, hx, hy⟩ := hR
  have hn0 := hn
  obtain ⟨⟨n1, n2⟩, ⟨n3, n4, n5, n6, n7, n8, n9⟩, n10, hs, hw⟩ := hn
  obtain ⟨p, rfl, hpr⟩ := J_ex x1
  have h0 := hw.1.1
  have hN := NP_b hw.1
  by_cases q : 0 ≤ p ∧ p < NP G
  · obtain ⟨TR, hTR, -⟩ := JA_ex (aa 11)
    obtain ⟨o2, ho2, f2, l2, W, X, Y, k1, k2, k3, k4, k5, k6, -⟩ := w_isFree8 hw.1 hw.2.2 q (ms 5) (ma 3) (ma 4) (ma 5) (ma 6) hx hy
    unfold f_X7_isFreePose f_X8_isFreePose
    simp only [n1, n2, n3, n4, n5, n6, n7, n8, n9, n10, hTR]
    refine WP.ob (e_requirePose1 hw hs.rb q) ?_
    rw [if_pos rfl]
    refine WP.ob (e_readPose hw.1 hs.rb q) ?_
    refine WP.bind (w_along_row (v := DV G p) hw.1 hw.2.2 hs.ln (fun k a b => if_pos ⟨a, b⟩) hs.bl _ _ _ _ _ _ _ _) fun o ho => ?_
    obtain ⟨f, l, g1, g2, -⟩ := ho
    have g3 := FS_c g1
    have g4 := FR_of g1
    have g5 := TP_two G p
    rw [g2]
    by_cases z : f = 0
    · have e1 : FRI G p = 1 := if_pos (by
        rcases g5 with ⟨-, -, y, -⟩ | ⟨y, -⟩
        · exact y
        · exact absurd (g4.mpr z) y)
      rw [if_pos (by rw [z]; rfl)]
      refine WP.ret ?_
      refine WP.ob (e_isPose81 hw.1 q) ?_
      rw [if_neg (by decide)]
      unfold f_X8_isFreePose_L14
      rw [if_pos (by rfl)]
      refine WP.ob ho2 ?_
      rw [k2, e1, if_neg (by decide)]
      exact WP.ret ⟨Or.inl ⟨rfl, rfl, rfl⟩, G, S, hn0, hsv, hh, hsp, hrt, hbk, hin, her, ⟨X, k3.2.1, k5⟩, ⟨Y, k3.2.2, k6⟩⟩
    · have e1 : FRI G p = 0 := if_neg (by
        rcases g5 with ⟨y, -⟩ | ⟨-, y⟩
        · exact absurd (g4.mp y) z
        · omega)
      rw [if_neg (by rw [show (0 : Int32) = J 0 from rfl, J_eqv (by omega)]; exact z)]
      refine WP.ret ?_
      refine WP.ob (e_isPose81 hw.1 q) ?_
      rw [if_neg (by decide)]
      unfold f_X8_isFreePose_L14
      rw [if_pos (by rfl)]
      refine WP.ob ho2 ?_
      rw [k2, e1, if_pos (by rfl)]
      exact WP.ret ⟨Or.inl ⟨rfl, rfl, rfl⟩, G, S, hn0, hsv, hh, hsp, hrt, hbk, hin, her, ⟨X, k3.2.1, k5⟩, ⟨Y, k3.2.2, k6⟩⟩
  · have h7 : (f_X7_isFreePose (ss 10) (aa 1) (aa 2) (aa 3) (aa 0) (ss 14) (ss 15) (ss 16) (ss 17) (aa 7) (aa 8) (aa 9) (aa 10) (aa 11) (J p)) = some (3, J 0, (ss 14), (ss 15), (ss 16), (ss 17), (aa 7), (aa 8), (aa 9), (aa 10), (aa 11)) := by
      unfold f_X7_isFreePose
      simp only [n1, n2, n3, n4, n5, n6, n7, n8, n9, n10]
      exact ob _ (e_requirePose0 hw hs.rb ⟨hpr, q⟩) rfl
    have h8 : (f_X8_isFreePose (ms 4) (ms 5) (ma 0) (ma 3) (ma 4) (ma 5) (ma 6) (J p)) = some (J 0, J 1, (ms 5), (ma 3), (ma 4), (ma 5), (ma 6)) := by
      unfold f_X8_isFreePose f_X8_isFreePose_L14
      simp only [n10]
      exact ob _ (e_isPose80 hw.1 ⟨hpr, q⟩) rfl
    exact ⟨_, h7, _, h8, Or.inr ⟨rfl, rfl⟩, G, S, hn0, hsv, hh, hsp, hrt, hbk, hin, her, hx, hy⟩
end
