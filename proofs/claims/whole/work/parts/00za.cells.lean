/-! joint, linksAt, clearance -/
section
variable {ss : Nat → Int32} {aa : Nat → Nat → Int32} {pl po : Nat → Int32} {pa : Nat → Nat → Nat → Int32} {ms : Nat → Int32} {ma : Nat → Nat → Int32} {G v B C D : Int → Int} {S : Nat → Int → Int}
theorem BXf_at (hl : WL G) {k : Nat} (hk : k < nn G) : BXf G v (nn G) B k = PX G v k ∧ BYf G v (nn G) C k = PY G v k ∧ WYf G v (nn G) D k = WY v k := by
  unfold BXf BYf WYf
  rw [if_pos (by omega), if_pos (by omega), if_pos (by omega), Int.toNat_natCast]
  exact ⟨rfl, rfl, rfl⟩
theorem e_cellX7 (hl : WL G) {k : Nat} (hk : k < nn G) (i : Int) : f_X6_cellX (JA (BXf G v (nn G) B)) (JA (WYf G v (nn G) D)) (J k) (J i) = some (J (CX G v k i)) := by
  have h0 := hl.1
  have h1 := nn_eq hl
  have h2 := BXf_at (v := v) (B := B) (C := B) (D := D) hl hk
  have h3 := WY_b v k
  have h4 : WY v k % 8 = WY v k := by omega
  unfold f_X6_cellX
  simp (disch := omega) only [↓reduceIte, j_lits, J_add, J_sub, J_mul, J_neg, J_le, J_lt, J_eqv, J_div, J_imax, J_imin, JA_get, JG, JA_upd, LET, Option.bind_some, lt_T, lt_F, le_T, le_F, eq_T, eq_F, and_true, true_and, Int.sub_neg, Int.natCast_add, n_lits, h2.1, h2.2.2, J_and7, h4, e_stepX7]
  rfl
theorem e_cellY7 (hl : WL G) {k : Nat} (hk : k < nn G) (i : Int) : f_X6_cellY (JA (BYf G v (nn G) C)) (JA (WYf G v (nn G) D)) (J k) (J i) = some (J (CY G v k i)) := by
  have h0 := hl.1
  have h1 := nn_eq hl
  have h2 := BXf_at (v := v) (B := C) (C := C) (D := D) hl hk
  have h3 := WY_b v k
  have h4 : WY v k % 8 = WY v k := by omega
  unfold f_X6_cellY
  simp (disch := omega) only [↓reduceIte, j_lits, J_add, J_sub, J_mul, J_neg, J_le, J_lt, J_eqv, J_div, J_imax, J_imin, JA_get, JG, JA_upd, LET, Option.bind_some, lt_T, lt_F, le_T, le_F, eq_T, eq_F, and_true, true_and, Int.sub_neg, Int.natCast_add, n_lits, h2.2.1, h2.2.2, J_and7, h4, e_stepY7]
  rfl
theorem call_joint (hR : REL ss aa pl po pa ms ma) (x1 x2 : Int32) : WP (f_X7_joint (ss 10) (aa 1) (aa 2) (aa 3) (aa 4) (aa 0) (ss 14) (ss 15) (ss 16) (ss 17) (aa 7) (aa 8) (aa 9) (aa 10) x1 x2) (fun r => WP (f_X8_joint (ms 4) (ma 0) (ma 3) (ma 4) (ma 5) (ma 6) x1 x2) (fun q => ((r.1 = 0 ∧ q.2.1 = J 0 ∧ r.2.1 = q.1) ∨ (r.1 = 3 ∧ q.2.1 = J 1) ∨ (r.1 = 1 ∧ q.2.1 = J 2)) ∧ REL (va_up (va_up (va_up (va_up ss 14 r.2.2.1) 15 r.2.2.2.1) 16 r.2.2.2.2.1) 17 r.2.2.2.2.2.1) (va_up (va_up (va_up (va_up aa 7 r.2.2.2.2.2.2.1) 8 r.2.2.2.2.2.2.2.1) 9 r.2.2.2.2.2.2.2.2.1) 10 r.2.2.2.2.2.2.2.2.2) pl po pa (va_up ms 4 q.2.1) (va_up (va_up (va_up (va_up ma 3 q.2.2.1) 4 q.2.2.2.1) 5 q.2.2.2.2.1) 6 q.2.2.2.2.2))) := by
  obtain ⟨G, S, hn, hsv, hh, hsp, hrt, hbk, hin, her, hx, hy⟩ := hR
  have hn0 := hn
  obtain ⟨⟨n1, n2⟩, ⟨n3, n4, n5, n6, n7, n8, n9⟩, n10, hs, hw⟩ := hn
  obtain ⟨k, rfl, hk⟩ := J_ex x1
  obtain ⟨x, rfl, hxr⟩ := J_ex x2
  have h0 := hw.1.1
  have h1 := nn_eq hw.1
  by_cases q : 0 ≤ k ∧ k < G 0
  · obtain ⟨k, rfl⟩ : ∃ j : Nat, k = j := ⟨k.toNat, by omega⟩
    obtain ⟨o, ho, f, l, B, C, D, a1, a2, a3, a4, a5, a6, a7, a8⟩ := w_along_own (v := GV G) hw.1 hw.2.2 hs.ln hs.vl hs.bl (ss 14) (ss 15) (ss 16) (ss 17) (aa 7) (aa 8) (aa 9) (aa 10)
    obtain ⟨F, W, X, Y, g1, g2, g3, g4, g5⟩ := w_now8 hw.1 (ma 3) (ma 4) (ma 5) (ma 6) hx hy
    have hS := hs.1 k q.1 q.2
    have hb := BXf_at (v := GV G) (B := B) (C := C) (D := D) hw.1 (k := k) (by omega)
    have hF := g2 k q.1 q.2
    have hW := g3.1 k (by omega)
    have hX := g3.2 k (by omega)
    have hv := hw.2.1 k q.1 q.2
    have hL := hw.1.2 k q.1 q.2
    have hS3 : S 3 k = GV G k := hS.2.2.2
    have go8 : ∀ (a : Int), (0 ≤ x ∧ x ≤ 7) → f_X8_jointTold (JA G) (JA F) (JA W) (JA X) (JA Y) (J k) (J x) = some (J a) → WP (f_X8_joint (ms 4) (JA G) (ma 3) (ma 4) (ma 5) (ma 6) (J k) (J x)) (fun q => q = (J a, J 0, JA F, JA W, JA X, JA Y)) := by
      intro a hxx hj
      unfold f_X8_joint
      refine WP.ob (e_isJoint1 h0 q) ?_
      rw [if_neg (by decide)]
      refine WP.ob (e_in1 (a := 0) (b := 7) (by omega)) ?_
      rw [if_neg (by decide)]
      unfold f_X8_joint_L28
      rw [if_pos (by decide)]
      refine WP.ob g1 ?_
      refine WP.ob hj ?_
      exact WP.ret rfl
    have fin : ∀ (a : Int), (0 ≤ x ∧ x ≤ 7) → f_X8_jointTold (JA G) (JA F) (JA W) (JA X) (JA Y) (J k) (J x) = some (J a) → ∀ a' : Int, a' = a → ∀ o9 : Int32 × Int32 × Int32 × Int32 × (Nat → Int32) × (Nat → Int32) × (Nat → Int32) × (Nat → Int32), WP (some (0, J a', o9)) (fun r => WP (f_X8_joint (ms 4) (ma 0) (ma 3) (ma 4) (ma 5) (ma 6) (J k) (J x)) (fun q => ((r.1 = 0 ∧ q.2.1 = J 0 ∧ r.2.1 = q.1) ∨ (r.1 = 3 ∧ q.2.1 = J 1) ∨ (r.1 = 1 ∧ q.2.1 = J 2)) ∧ REL (va_up (va_up (va_up (va_up ss 14 r.2.2.1) 15 r.2.2.2.1) 16 r.2.2.2.2.1) 17 r.2.2.2.2.2.1) (va_up (va_up (va_up (va_up aa 7 r.2.2.2.2.2.2.1) 8 r.2.2.2.2.2.2.2.1) 9 r.2.2.2.2.2.2.2.2.1) 10 r.2.2.2.2.2.2.2.2.2) pl po pa (va_up ms 4 q.2.1) (va_up (va_up (va_up (va_up ma 3 q.2.2.1) 4 q.2.2.2.1) 5 q.2.2.2.2.1) 6 q.2.2.2.2.2))) := by
      intro a hxx hj a' ha o9
      subst ha
      refine WP.ret ?_
      rw [n10]
      refine WP.mono (go8 _ hxx hj) fun q hq => ?_
      subst hq
      exact ⟨Or.inl ⟨rfl, rfl, rfl⟩, G, S, ⟨⟨n1, n2⟩, ⟨n3, n4, n5, n6, n7, n8, n9⟩, n10, hs, hw⟩, hsv, hh, hsp, hrt, hbk, hin, her, g4, g5⟩
    unfold f_X7_joint
    rw [n1, n3, n4, n5, n6, n9]
    refine WP.ob (e_hasLink1 (by omega)) ?_
    rw [if_neg (by decide), if_pos (by rw [show (4 : Int32) = J 4 from rfl, J_lt (by omega)]; omega)]
    refine WP.ob ho ?_
    rw [JG (by omega), JG (by omega), JG (by omega), JG (by omega), JG (by omega), JG (by omega), JG (by omega), JG (by omega), JA_get _ (by omega), JA_get _ (by omega), JA_get _ (by omega), JA_get _ (by omega), a6, a7, a8, JA_get _ (by omega), JA_get _ (by omega), JA_get _ (by omega)]
    by_cases q0 : x = 0
    · subst q0
      rw [if_pos (show J 0 = 0 from rfl)]
      exact fin (F k) (by omega) (by
        unfold f_X8_jointTold
        simp (disch := omega) only [↓reduceIte, j_lits, J_add, J_sub, J_mul, J_neg, J_le, J_lt, J_eqv, J_div, J_imax, J_imin, JA_get, JG, JA_upd, LET, Option.bind_some, lt_T, lt_F, le_T, le_F, eq_T, eq_F, and_true, true_and, Int.sub_neg, Int.natCast_add, n_lits, hF, hW, hX.1, hX.2, e_down, e_up, e_lengthOf]) _ (hS3.trans hF.symm) _
    by_cases q1 : x = 1
    · subst q1
      rw [if_neg (by decide), if_pos (show J 1 = 1 from rfl)]
      exact fin (-G (2 + 4 * k)) (by omega) (by
        unfold f_X8_jointTold
        simp (disch := omega) only [↓reduceIte, j_lits, J_add, J_sub, J_mul, J_neg, J_le, J_lt, J_eqv, J_div, J_imax, J_imin, JA_get, JG, JA_upd, LET, Option.bind_some, lt_T, lt_F, le_T, le_F, eq_T, eq_F, and_true, true_and, Int.sub_neg, Int.natCast_add, n_lits, hF, hW, hX.1, hX.2, e_down, e_up, e_lengthOf]) _ (hS.2.1) _
    by_cases q2 : x = 2
    · subst q2
      rw [if_neg (by decide), if_neg (by decide), if_pos (show J 2 = 2 from rfl)]
      exact fin (G (3 + 4 * k)) (by omega) (by
        unfold f_X8_jointTold
        simp (disch := omega) only [↓reduceIte, j_lits, J_add, J_sub, J_mul, J_neg, J_le, J_lt, J_eqv, J_div, J_imax, J_imin, JA_get, JG, JA_upd, LET, Option.bind_some, lt_T, lt_F, le_T, le_F, eq_T, eq_F, and_true, true_and, Int.sub_neg, Int.natCast_add, n_lits, hF, hW, hX.1, hX.2, e_down, e_up, e_lengthOf]) _ (hS.2.2.1) _
    by_cases q3 : x = 3
    · subst q3
      rw [if_neg (by decide), if_neg (by decide), if_neg (by decide), if_pos (show J 3 = 3 from rfl)]
      exact fin (G (1 + 4 * k)) (by omega) (by
        unfold f_X8_jointTold
        simp (disch := omega) only [↓reduceIte, j_lits, J_add, J_sub, J_mul, J_neg, J_le, J_lt, J_eqv, J_div, J_imax, J_imin, JA_get, JG, JA_upd, LET, Option.bind_some, lt_T, lt_F, le_T, le_F, eq_T, eq_F, and_true, true_and, Int.sub_neg, Int.natCast_add, n_lits, hF, hW, hX.1, hX.2, e_down, e_up, e_lengthOf]) _ (hS.1) _
    by_cases q4 : x = 4
    · subst q4
      rw [if_neg (by decide), if_neg (by decide), if_neg (by decide), if_neg (by decide), if_pos (show J 4 = 4 from rfl)]
      exact fin (WY (GV G) k) (by omega) (by
        unfold f_X8_jointTold
        simp (disch := omega) only [↓reduceIte, j_lits, J_add, J_sub, J_mul, J_neg, J_le, J_lt, J_eqv, J_div, J_imax, J_imin, JA_get, JG, JA_upd, LET, Option.bind_some, lt_T, lt_F, le_T, le_F, eq_T, eq_F, and_true, true_and, Int.sub_neg, Int.natCast_add, n_lits, hF, hW, hX.1, hX.2, e_down, e_up, e_lengthOf]) _ (hb.2.2) _
    by_cases q5 : x = 5
    · subst q5
      rw [if_neg (by decide), if_neg (by decide), if_neg (by decide), if_neg (by decide), if_neg (by decide), if_pos (show J 5 = 5 from rfl)]
      exact fin (PX G (GV G) k) (by omega) (by
        unfold f_X8_jointTold
        simp (disch := omega) only [↓reduceIte, j_lits, J_add, J_sub, J_mul, J_neg, J_le, J_lt, J_eqv, J_div, J_imax, J_imin, JA_get, JG, JA_upd, LET, Option.bind_some, lt_T, lt_F, le_T, le_F, eq_T, eq_F, and_true, true_and, Int.sub_neg, Int.natCast_add, n_lits, hF, hW, hX.1, hX.2, e_down, e_up, e_lengthOf]) _ (hb.1) _
    by_cases q6 : x = 6
    · subst q6
      rw [if_neg (by decide), if_neg (by decide), if_neg (by decide), if_neg (by decide), if_neg (by decide), if_neg (by decide), if_pos (show J 6 = 6 from rfl)]
      exact fin (PY G (GV G) k) (by omega) (by
        unfold f_X8_jointTold
        simp (disch := omega) only [↓reduceIte, j_lits, J_add, J_sub, J_mul, J_neg, J_le, J_lt, J_eqv, J_div, J_imax, J_imin, JA_get, JG, JA_upd, LET, Option.bind_some, lt_T, lt_F, le_T, le_F, eq_T, eq_F, and_true, true_and, Int.sub_neg, Int.natCast_add, n_lits, hF, hW, hX.1, hX.2, e_down, e_up, e_lengthOf]) _ (hb.2.1) _
    by_cases q7 : x = 7
    · subst q7
      rw [if_neg (by decide), if_neg (by decide), if_neg (by decide), if_neg (by decide), if_neg (by decide), if_neg (by decide), if_neg (by decide), if_pos (show J 7 = 7 from rfl), hS3]
      have hv2 : -8 ≤ GV G k ∧ GV G k ≤ 8 := by
        have hv : -G (2 + 4 * k) ≤ GV G k ∧ GV G k ≤ G (3 + 4 * k) := hv
        omega
      refine WP.ob (e_floorMod8 (by omega)) ?_
      refine fin (GV G k % 8) (by omega) ?_ _ rfl _
      unfold f_X8_jointTold
      simp (disch := omega) only [↓reduceIte, j_lits, J_add, J_sub, J_mul, J_neg, J_le, J_lt, J_eqv, J_div, J_imax, J_imin, JA_get, JG, JA_upd, LET, Option.bind_some, lt_T, lt_F, le_T, le_F, eq_T, eq_F, and_true, true_and, Int.sub_neg, Int.natCast_add, n_lits, hF, J_and7]
    · have hno : ∀ c : Int, (0 ≤ c ∧ c ≤ 7) → ¬ x = c → ¬ J x = J c := fun c hc hne => by rw [J_eqv (by omega)]; exact hne
      rw [if_neg (show ¬ J x = 0 from hno 0 (by omega) q0), if_neg (show ¬ J x = 1 from hno 1 (by omega) q1), if_neg (show ¬ J x = 2 from hno 2 (by omega) q2), if_neg (show ¬ J x = 3 from hno 3 (by omega) q3), if_neg (show ¬ J x = 4 from hno 4 (by omega) q4), if_neg (show ¬ J x = 5 from hno 5 (by omega) q5), if_neg (show ¬ J x = 6 from hno 6 (by omega) q6), if_neg (show ¬ J x = 7 from hno 7 (by omega) q7)]
      refine WP.ret ?_
      have h8 : (f_X8_joint (ms 4) (ma 0) (ma 3) (ma 4) (ma 5) (ma 6) (J k) (J x)) = some (J 0, J 2, (ma 3), (ma 4), (ma 5), (ma 6)) := by
        unfold f_X8_joint f_X8_joint_L28
        simp only [n10]
        refine ob _ (e_isJoint1 h0 q) ?_
        rw [if_neg (by decide)]
        exact ob _ (e_in0 (a := 0) (b := 7) (by omega)) rfl
      exact ⟨_, h8, Or.inr (Or.inr ⟨rfl, rfl⟩), G, S, hn0, hsv, hh, hsp, hrt, hbk, hin, her, hx, hy⟩
  · have h7 : (f_X7_joint (ss 10) (aa 1) (aa 2) (aa 3) (aa 4) (aa 0) (ss 14) (ss 15) (ss 16) (ss 17) (aa 7) (aa 8) (aa 9) (aa 10) (J k) (J x)) = some (3, J 0, (ss 14), (ss 15), (ss 16), (ss 17), (aa 7), (aa 8), (aa 9), (aa 10)) := by
      unfold f_X7_joint f_X7_joint_L16
      simp only [n1, n2, n3, n4, n5, n6, n7, n8, n9, n10]
      exact ob _ (e_hasLink0 (by omega)) rfl
    have h8 : (f_X8_joint (ms 4) (ma 0) (ma 3) (ma 4) (ma 5) (ma 6) (J k) (J x)) = some (J 0, J 1, (ma 3), (ma 4), (ma 5), (ma 6)) := by
      unfold f_X8_joint f_X8_joint_L28
      simp only [n10]
      exact ob _ (e_isJoint0 h0 ⟨hk, q⟩) rfl
    exact ⟨_, h7, _, h8, Or.inr (Or.inl ⟨rfl, rfl⟩), G, S, hn0, hsv, hh, hsp, hrt, hbk, hin, her, hx, hy⟩
theorem or_idem32 (x y : Int32) : (x ||| y) ||| y = x ||| y := by
  apply Int32.toBitVec_inj.mp
  show (x.toBitVec ||| y.toBitVec) ||| y.toBitVec = x.toBitVec ||| y.toBitVec
  rw [BitVec.or_assoc, BitVec.or_self]
theorem call_linksAt (hR : REL ss aa pl po pa ms ma) (x1 x2 : Int32) : WP (f_X7_linksAt (ss 10) (aa 1) (aa 4) (aa 0) (ss 14) (ss 15) (ss 16) (ss 17) (aa 7) (aa 8) (aa 9) (aa 10) x1 x2) (fun r => WP (f_X8_linksAt (ms 4) (ma 0) (ma 3) (ma 4) (ma 5) (ma 6) x1 x2) (fun q => ((r.1 = 0 ∧ q.2.1 = J 0 ∧ r.2.1 = q.1) ∨ (r.1 = 3 ∧ q.2.1 = J 1)) ∧ REL (va_up (va_up (va_up (va_up ss 14 r.2.2.1) 15 r.2.2.2.1) 16 r.2.2.2.2.1) 17 r.2.2.2.2.2.1) (va_up (va_up (va_up (va_up aa 7 r.2.2.2.2.2.2.1) 8 r.2.2.2.2.2.2.2.1) 9 r.2.2.2.2.2.2.2.2.1) 10 r.2.2.2.2.2.2.2.2.2) pl po pa (va_up ms 4 q.2.1) (va_up (va_up (va_up (va_up ma 3 q.2.2.1) 4 q.2.2.2.1) 5 q.2.2.2.2.1) 6 q.2.2.2.2.2))) := by
  obtain ⟨G, S, hn, hsv, hh, hsp, hrt, hbk, hin, her, hx, hy⟩ := hR
  have hn0 := hn
  obtain ⟨⟨n1, n2⟩, ⟨n3, n4, n5, n6, n7, n8, n9⟩, n10, hs, hw⟩ := hn
  obtain ⟨x, rfl, hxr⟩ := J_ex x1
  obtain ⟨y, rfl, hyr⟩ := J_ex x2
  have h0 := hw.1.1
  have h1 := nn_eq hw.1
  obtain ⟨F, W, X, Y, g1, g2, g3, g4, g5⟩ := w_now8 hw.1 (ma 3) (ma 4) (ma 5) (ma 6) hx hy
  by_cases q : (-10 ≤ x ∧ x ≤ 10) ∧ -10 ≤ y ∧ y ≤ 10
  · obtain ⟨o, ho, f, l, B, C, D, a1, a2, a3, a4, a5, a6, a7, a8⟩ := w_along_own (v := GV G) hw.1 hw.2.2 hs.ln hs.vl hs.bl (ss 14) (ss 15) (ss 16) (ss 17) (aa 7) (aa 8) (aa 9) (aa 10)
    unfold f_X7_linksAt
    simp only [n1, n2, n3, n4, n5, n6, n7, n8, n9, n10]
    refine WP.ob (e_requireCell1 q) ?_
    rw [if_pos rfl]
    refine WP.ob ho ?_
    refine WP.bind (P0 := fun e => e = MSK (fun k => HAS G (GV G) k.toNat x y) (nn G)) ?_ (fun e he => ?_)
    · refine lp_wp (fun k s => s = (MSK (fun k => HAS G (GV G) k.toNat x y) k, J k)) (nn G) (by omega) rfl (fun k s hk hI => ?_)
      subst hI
      unfold f_X7_linksAt_B28
      dsimp only
      by_cases z : k = nn G
      · rw [if_pos (by rw [J_le (by omega)]; omega)]
        exact WP.ret (Or.inr ⟨_, rfl, by rw [z]⟩)
      · have hL := hw.1.2 k (by omega) (by omega)
        have hln := hs.ln k (by omega) (by omega)
        rw [if_neg (by rw [J_le (by omega)]; omega), if_neg (by rw [show (4 : Int32) = J 4 from rfl, J_le (by omega)]; omega), a6, a7, a8]
        refine WP.bind (P0 := fun e => e = MSK (fun k => HAS G (GV G) k.toNat x y) (k + 1)) ?_ (fun e he => ?_)
        · refine lp_wp (fun j s => (j : Int) ≤ G (1 + 4 * k) + 1 ∧ s.2 = J j ∧ ((s.1 = MSK (fun k => HAS G (GV G) k.toNat x y) k ∧ ∀ i : Int, 0 ≤ i → i < j → ¬ (CX G (GV G) k i = x ∧ CY G (GV G) k i = y)) ∨ (s.1 = MSK (fun k => HAS G (GV G) k.toNat x y) k ||| (J 1 <<< (J k &&& J 31)) ∧ HAS G (GV G) k x y))) (G (1 + 4 * k) + 1).toNat (by omega) ⟨by omega, rfl, Or.inl ⟨rfl, fun i i0 i1 => by omega⟩⟩ (fun j s hj hI => ?_)
          obtain ⟨i1, i2, i3⟩ := hI
          unfold f_X7_linksAt_B49
          rw [i2, JG (by omega), JA_get _ (by omega), hln]
          by_cases w : (j : Int) = G (1 + 4 * k) + 1
          · rw [if_pos (by rw [J_lt (by omega)]; omega)]
            refine WP.ret (Or.inr ⟨_, rfl, ?_⟩)
            rcases i3 with ⟨i3, i4⟩ | ⟨i3, i4⟩
            · rw [i3, MSK_n (P := fun k => HAS G (GV G) k.toNat x y)]
              rintro ⟨i, w1, w2⟩
              rw [Int.toNat_natCast] at w1 w2
              exact i4 i w1.1 (by omega) w2
            · rw [i3, MSK_y (P := fun k => HAS G (GV G) k.toNat x y) (by rw [Int.toNat_natCast]; exact i4)]
          · have hr := CX_r hw.1 (GV G) (k := k) (by omega) (i := j) (by omega)
            have stay : ¬ (CX G (GV G) k j = x ∧ CY G (GV G) k j = y) → (s.1 = MSK (fun k => HAS G (GV G) k.toNat x y) k ∧ ∀ i : Int, 0 ≤ i → i < ((j + 1 : Nat) : Int) → ¬ (CX G (GV G) k i = x ∧ CY G (GV G) k i = y)) ∨ (s.1 = MSK (fun k => HAS G (GV G) k.toNat x y) k ||| (J 1 <<< (J k &&& J 31)) ∧ HAS G (GV G) k x y) := by
              intro hne
              rcases i3 with ⟨i3, i4⟩ | i3
              · refine Or.inl ⟨i3, fun i i0 i1 => ?_⟩
                by_cases y1 : i = j
                · rw [y1]; exact hne
                · exact i4 i i0 (by omega)
              · exact Or.inr i3
            rw [if_neg (by rw [J_lt (by omega)]; omega)]
            refine WP.ob (e_cellX7 hw.1 (by omega) j) ?_
            by_cases w1 : CX G (GV G) k j = x
            · rw [if_pos (congrArg J w1)]
              refine WP.ob (e_cellY7 hw.1 (by omega) j) ?_
              by_cases w2 : CY G (GV G) k j = y
              · rw [if_pos (congrArg J w2)]
                refine WP.ret (Or.inl ⟨_, rfl, by omega, by omega, ?_, Or.inr ⟨?_, ⟨j, by omega, w1, w2⟩⟩⟩)
                · show J j + 1 = _
                  rw [show (1 : Int32) = J 1 from rfl, J_add]; rfl
                · show s.1 ||| (J 1 <<< (J k &&& J 31)) = _
                  rcases i3 with ⟨i3, -⟩ | ⟨i3, -⟩
                  · rw [i3]
                  · rw [i3, or_idem32]
              · rw [if_neg (by rw [J_eqv (by omega)]; exact w2)]
                refine WP.ret (Or.inl ⟨_, rfl, by omega, by omega, ?_, stay fun y1 => w2 y1.2⟩)
                show J j + 1 = _
                rw [show (1 : Int32) = J 1 from rfl, J_add]; rfl
            · rw [if_neg (by rw [J_eqv (by omega)]; exact w1)]
              refine WP.ret (Or.inl ⟨_, rfl, by omega, by omega, ?_, stay fun y1 => w1 y1.1⟩)
              show J j + 1 = _
              rw [show (1 : Int32) = J 1 from rfl, J_add]; rfl
        · refine WP.ret (Or.inl ⟨_, rfl, by omega, ?_⟩)
          rw [he, show (1 : Int32) = J 1 from rfl, J_add]
          rfl
    · refine WP.ret ?_
      unfold f_X8_linksAt
      refine WP.ob (e_isCell1 q) ?_
      rw [if_neg (by decide)]
      unfold f_X8_linksAt_L14
      refine WP.ob g1 ?_
      dsimp only
      refine WP.ob (a := MSK (fun k => HAS G (GV G) k.toNat x y) (nn G)) ?_ ?_
      · refine lp_for (fun k : Nat => (MSK (fun k => HAS G (GV G) k.toNat x y) k, J k)) (nn G) rfl (by omega) (fun k hk => ?_) ?_
        · unfold f_X8_linksAt_B26
          dsimp only
          rw [show (0 : Int32) = J 0 from rfl, JG (by omega), JA_get _ (by omega), if_neg (by rw [J_le (by omega)]; omega), if_pos rfl]
          by_cases z : HAS G (GV G) k x y
          · refine ob _ (e_has1 hw.1 g3 (k := k) (by omega) ⟨hxr, hyr⟩ z) ?_
            rw [if_neg (by decide), MSK_y (P := fun k => HAS G (GV G) k.toNat x y) (by rw [Int.toNat_natCast]; exact z)]
            simp only [LET]
            rw [show (1 : Int32) = J 1 from rfl, J_add]
            rfl
          · refine ob _ (e_has0 hw.1 g3 (k := k) (by omega) ⟨hxr, hyr⟩ z) ?_
            rw [if_pos rfl, MSK_n (P := fun k => HAS G (GV G) k.toNat x y) (by rw [Int.toNat_natCast]; exact z)]
            simp only [LET]
            rw [show (1 : Int32) = J 1 from rfl, J_add, or_zero32]
            rfl
        · unfold f_X8_linksAt_B26
          simp (disch := omega) only [↓reduceIte, j_lits, J_add, J_sub, J_mul, J_neg, J_le, J_lt, J_eqv, J_div, J_imax, J_imin, JA_get, JG, JA_upd, LET, Option.bind_some, lt_T, lt_F, le_T, le_F, eq_T, eq_F, and_true, true_and, Int.sub_neg, Int.natCast_add, n_lits]
      · exact WP.ret ⟨Or.inl ⟨rfl, rfl, he⟩, G, S, hn0, hsv, hh, hsp, hrt, hbk, hin, her, g4, g5⟩
  · have h7 : (f_X7_linksAt (ss 10) (aa 1) (aa 4) (aa 0) (ss 14) (ss 15) (ss 16) (ss 17) (aa 7) (aa 8) (aa 9) (aa 10) (J x) (J y)) = some (3, J 0, (ss 14), (ss 15), (ss 16), (ss 17), (aa 7), (aa 8), (aa 9), (aa 10)) := by
      unfold f_X7_linksAt
      exact ob _ (e_requireCell0 ⟨hxr, hyr, q⟩) rfl
    refine WP.eq h7 ?_
    unfold f_X8_linksAt
    rw [n10]
    refine WP.ob (e_isCell0 ⟨hxr, hyr, q⟩) ?_
    rw [if_pos (by rfl)]
    unfold f_X8_linksAt_L14
    refine WP.ob g1 ?_
    dsimp only
    refine WP.ob (a := J 0) ?_ ?_
    · refine lp_for (fun k : Nat => (J 0, J k)) 0 rfl (by omega) (fun k hk => absurd hk (Nat.not_lt_zero k)) ?_
      unfold f_X8_linksAt_B26
      by_cases z : G 0 = 0
      · simp (disch := omega) only [↓reduceIte, j_lits, J_add, J_sub, J_mul, J_neg, J_le, J_lt, J_eqv, J_div, J_imax, J_imin, JA_get, JG, JA_upd, LET, Option.bind_some, lt_T, lt_F, le_T, le_F, eq_T, eq_F, and_true, true_and, Int.sub_neg, Int.natCast_add, n_lits]
      · simp (disch := omega) only [↓reduceIte, j_lits, J_add, J_sub, J_mul, J_neg, J_le, J_lt, J_eqv, J_div, J_imax, J_imin, JA_get, JG, JA_upd, LET, Option.bind_some, lt_T, lt_F, le_T, le_F, eq_T, eq_F, and_true, true_and, Int.sub_neg, Int.natCast_add, n_lits]
    · exact WP.ret ⟨Or.inr ⟨rfl, rfl⟩, G, S, hn0, hsv, hh, hsp, hrt, hbk, hin, her, g4, g5⟩
end
