/-! the calls that change links and obstacles -/
section
variable {ss : Nat → Int32} {aa : Nat → Nat → Int32} {pl po : Nat → Int32} {pa : Nat → Nat → Nat → Int32} {ms : Nat → Int32} {ma : Nat → Nat → Int32} {G : Int → Int} {S D : Nat → Int → Int}
theorem DL_ok (hw : WF G) (hs : SC G S) (h : 0 < G 0) : SC (up G 0 (G 0 - 1)) S ∧ WF (up G 0 (G 0 - 1)) := by
  have h0 := hw.1.1
  have e0 : up G 0 (G 0 - 1) 0 = G 0 - 1 := up_same _ _ _
  have e : ∀ i : Int, ¬ i = 0 → up G 0 (G 0 - 1) i = G i := fun i hi => up_ne _ _ hi
  have est : ∀ i : Int, 0 ≤ i → i < G 20 → up G 0 (G 0 - 1) (21 + 2 * i) = G (21 + 2 * i) ∧ up G 0 (G 0 - 1) (21 + 2 * i + 1) = G (21 + 2 * i + 1) := fun i i0 i1 => ⟨e _ (by omega), e _ (by omega)⟩
  refine ⟨⟨fun k k0 k1 => ?_, RS_congr (e 20 (by omega)) est hs.2⟩, ⟨⟨by rw [e0]; omega, fun k k0 k1 => ?_⟩, fun k k0 k1 => ?_, WS_congr (e 20 (by omega)) est hw.2.2⟩⟩
  · rw [e0] at k1
    rw [e _ (by omega), e _ (by omega), e _ (by omega), e _ (by omega)]
    exact hs.1 k k0 (by omega)
  · rw [e0] at k1
    rw [e _ (by omega), e _ (by omega), e _ (by omega)]
    exact hw.1.2 k k0 (by omega)
  · rw [e0] at k1
    show -up G 0 (G 0 - 1) (2 + 4 * k) ≤ up G 0 (G 0 - 1) (4 + 4 * k) ∧ up G 0 (G 0 - 1) (4 + 4 * k) ≤ up G 0 (G 0 - 1) (3 + 4 * k)
    rw [e _ (by omega), e _ (by omega), e _ (by omega)]
    exact hw.2.1 k k0 (by omega)
theorem call_removeLink (hR : REL ss aa pl po pa ms ma) : WP (f_X7_removeLink (ss 10) (ss 11) (aa 1) (aa 2) (aa 3) (aa 4) (aa 5) (aa 6) (aa 0) (ss 12) (ss 13) (ss 2) (ss 6) pl po pa ) (fun r => WP (f_X8_removeLink (ms 1) (ms 2) (ms 4) (ma 0) (ma 1) ) (fun q => ((r.1 = 0 ∧ q.2.2.2.1 = J 0 ∧ r.2.1 = q.1) ∨ (r.1 = 2 ∧ q.2.2.2.1 = J 1)) ∧ REL (va_up (va_up (va_up (va_up (va_up ss 10 r.2.2.1) 12 r.2.2.2.1) 13 r.2.2.2.2.1) 2 r.2.2.2.2.2.1) 6 r.2.2.2.2.2.2.1) aa r.2.2.2.2.2.2.2.1 r.2.2.2.2.2.2.2.2.1 r.2.2.2.2.2.2.2.2.2 (va_up (va_up (va_up ms 1 q.2.1) 2 q.2.2.1) 4 q.2.2.2.1) (va_up (va_up ma 0 q.2.2.2.2.1) 1 q.2.2.2.2.2))) := by
  obtain ⟨G, S, hn, hsv, hh, hsp, hrt, hbk, hin, her, hx, hy⟩ := hR
  obtain ⟨a, b, pl', po', pa', past', c1, c2, c3⟩ := both_change hn hh (ss 2) (ss 6) (ms 2)
  have hn0 := hn
  obtain ⟨⟨n1, n2⟩, ⟨n3, n4, n5, n6, n7, n8, n9⟩, n10, hs, hw⟩ := hn
  simp only [n1, n2, n3, n4, n5, n6, n7, n8, n9, n10] at c1 c2
  have h0 := hw.1.1
  by_cases q : 0 < G 0
  · have h7 : (f_X7_removeLink (ss 10) (ss 11) (aa 1) (aa 2) (aa 3) (aa 4) (aa 5) (aa 6) (aa 0) (ss 12) (ss 13) (ss 2) (ss 6) pl po pa ) = some (0, J (G 0 - 1), J (G 0 - 1), a, b, J 0, J 0, pl', po', pa') := by
      unfold f_X7_removeLink
      simp (disch := omega) only [↓reduceIte, j_lits, J_add, J_sub, J_mul, J_neg, J_le, J_lt, J_eqv, J_div, J_imax, J_imin, JA_get, JG, JA_upd, LET, Option.bind_some, lt_T, lt_F, le_T, le_F, eq_T, eq_F, and_true, true_and, Int.sub_neg, Int.natCast_add, n_lits, n1, n2, n3, n4, n5, n6, n7, n8, n9, n10, c1, f_X4_detach]
    have h8 : (f_X8_removeLink (ms 1) (ms 2) (ms 4) (ma 0) (ma 1) ) = some (J (G 0 - 1), a, J (-1), J 0, JA (up G 0 (G 0 - 1)), past') := by
      unfold f_X8_removeLink f_X8_removeLink_L15
      simp (disch := omega) only [↓reduceIte, j_lits, J_add, J_sub, J_mul, J_neg, J_le, J_lt, J_eqv, J_div, J_imax, J_imin, JA_get, JG, JA_upd, LET, Option.bind_some, lt_T, lt_F, le_T, le_F, eq_T, eq_F, and_true, true_and, Int.sub_neg, Int.natCast_add, n_lits, n10, c2, up_same]
    have k := DL_ok hw hs q
    exact ⟨_, h7, _, h8, Or.inl ⟨rfl, rfl, rfl⟩, up G 0 (G 0 - 1), S, ⟨⟨congrArg J (up_same _ _ _).symm, n2.trans (congrArg J (up_ne _ _ (by omega)).symm)⟩, ⟨n3, n4, n5, n6, n7, n8, n9⟩, rfl, k.1, k.2⟩, hsv, c3, RSPC_0 _ _ _ _ _ _, RRTE_0 _ _ _ _ _ _ _ _, hbk, hin, her, hx, hy⟩
  · have h7 : (f_X7_removeLink (ss 10) (ss 11) (aa 1) (aa 2) (aa 3) (aa 4) (aa 5) (aa 6) (aa 0) (ss 12) (ss 13) (ss 2) (ss 6) pl po pa ) = some (2, J 0, (ss 10), (ss 12), (ss 13), (ss 2), (ss 6), pl, po, pa) := by
      unfold f_X7_removeLink
      simp (disch := omega) only [↓reduceIte, j_lits, J_add, J_sub, J_mul, J_neg, J_le, J_lt, J_eqv, J_div, J_imax, J_imin, JA_get, JG, JA_upd, LET, Option.bind_some, lt_T, lt_F, le_T, le_F, eq_T, eq_F, and_true, true_and, Int.sub_neg, Int.natCast_add, n_lits, n1, n2, n3, n4, n5, n6, n7, n8, n9, n10]
    have h8 : (f_X8_removeLink (ms 1) (ms 2) (ms 4) (ma 0) (ma 1) ) = some (J 0, (ms 1), (ms 2), J 1, (ma 0), (ma 1)) := by
      unfold f_X8_removeLink f_X8_removeLink_L15
      simp (disch := omega) only [↓reduceIte, j_lits, J_add, J_sub, J_mul, J_neg, J_le, J_lt, J_eqv, J_div, J_imax, J_imin, JA_get, JG, JA_upd, LET, Option.bind_some, lt_T, lt_F, le_T, le_F, eq_T, eq_F, and_true, true_and, Int.sub_neg, Int.natCast_add, n_lits, n10]
    exact ⟨_, h7, _, h8, Or.inr ⟨rfl, rfl⟩, G, S, hn0, hsv, hh, hsp, hrt, hbk, hin, her, hx, hy⟩
def LMC (G : Int → Int) (k d u v : Int) : Int → Int := up (up (up G (2 + 4 * k) d) (3 + 4 * k) u) (4 + 4 * k) v
def LMS (S : Nat → Int → Int) (k d u v : Int) : Nat → Int → Int := fun q => match q with
  | 1 => up (S 1) k (-d)
  | 2 => up (S 2) k u
  | 3 => up (S 3) k v
  | q => S q
theorem LMC_ok (hw : WF G) (hs : SC G S) {k d u v : Int} (hk : 0 ≤ k ∧ k < G 0) (hd : 0 ≤ d ∧ d ≤ 8) (hu : 0 ≤ u ∧ u ≤ 8) (hv : -d ≤ v ∧ v ≤ u) : SC (LMC G k d u v) (LMS S k d u v) ∧ WF (LMC G k d u v) ∧ LMC G k d u v 0 = G 0 ∧ LMC G k d u v 20 = G 20 ∧ LMC G k d u v (4 + 4 * k) = v := by
  have h0 := hw.1.1
  have e : ∀ i : Int, ¬ i = 2 + 4 * k → ¬ i = 3 + 4 * k → ¬ i = 4 + 4 * k → LMC G k d u v i = G i := fun i a b c => by unfold LMC; rw [up_ne _ _ c, up_ne _ _ b, up_ne _ _ a]
  have e2 : LMC G k d u v (2 + 4 * k) = d := by unfold LMC; rw [up_ne _ _ (by omega), up_ne _ _ (by omega), up_same]
  have e3 : LMC G k d u v (3 + 4 * k) = u := by unfold LMC; rw [up_ne _ _ (by omega), up_same]
  have e4 : LMC G k d u v (4 + 4 * k) = v := up_same _ _ _
  have e0 : LMC G k d u v 0 = G 0 := e 0 (by omega) (by omega) (by omega)
  have e20 : LMC G k d u v 20 = G 20 := e 20 (by omega) (by omega) (by omega)
  have est : ∀ i : Int, 0 ≤ i → i < G 20 → LMC G k d u v (21 + 2 * i) = G (21 + 2 * i) ∧ LMC G k d u v (21 + 2 * i + 1) = G (21 + 2 * i + 1) := fun i i0 i1 => ⟨e _ (by omega) (by omega) (by omega), e _ (by omega) (by omega) (by omega)⟩
  refine ⟨⟨fun j j0 j1 => ?_, RS_congr e20 est hs.2⟩, ⟨⟨by rw [e0]; exact h0, fun j j0 j1 => ?_⟩, fun j j0 j1 => ?_, WS_congr e20 est hw.2.2⟩, e0, e20, e4⟩
  · rw [e0] at j1
    have h1 := hs.1 j j0 j1
    show S 0 j = _ ∧ up (S 1) k (-d) j = _ ∧ up (S 2) k u j = _ ∧ up (S 3) k v j = _
    rw [e (1 + 4 * j) (by omega) (by omega) (by omega)]
    by_cases q : j = k
    · subst q
      rw [e2, e3, e4, up_same, up_same, up_same]
      exact ⟨h1.1, rfl, rfl, rfl⟩
    · rw [e (2 + 4 * j) (by omega) (by omega) (by omega), e (3 + 4 * j) (by omega) (by omega) (by omega), e (4 + 4 * j) (by omega) (by omega) (by omega), up_ne _ _ q, up_ne _ _ q, up_ne _ _ q]
      exact h1
  · rw [e0] at j1
    have h1 := hw.1.2 j j0 j1
    rw [e (1 + 4 * j) (by omega) (by omega) (by omega)]
    by_cases q : j = k
    · subst q
      rw [e2, e3]
      exact ⟨h1.1, hd, hu⟩
    · rw [e (2 + 4 * j) (by omega) (by omega) (by omega), e (3 + 4 * j) (by omega) (by omega) (by omega)]
      exact h1
  · rw [e0] at j1
    show -LMC G k d u v (2 + 4 * j) ≤ LMC G k d u v (4 + 4 * j) ∧ LMC G k d u v (4 + 4 * j) ≤ LMC G k d u v (3 + 4 * j)
    by_cases q : j = k
    · subst q
      rw [e2, e3, e4]
      exact hv
    · rw [e (2 + 4 * j) (by omega) (by omega) (by omega), e (3 + 4 * j) (by omega) (by omega) (by omega), e (4 + 4 * j) (by omega) (by omega) (by omega)]
      exact hw.2.1 j j0 j1
theorem e_valueOf {F : Int → Int} {k : Int} (h : 0 ≤ k ∧ k < 4) : f_X4_valueOf (JA F) (J k) = some (J (F k)) := by
  unfold f_X4_valueOf
  simp (disch := omega) only [↓reduceIte, j_lits, J_add, J_sub, J_mul, J_neg, J_le, J_lt, J_eqv, J_div, J_imax, J_imin, JA_get, JG, JA_upd, LET, Option.bind_some, lt_T, lt_F, le_T, le_F, eq_T, eq_F, and_true, true_and, Int.sub_neg, Int.natCast_add, n_lits]
theorem call_setLimits (hR : REL ss aa pl po pa ms ma) (x1 x2 x3 : Int32) : WP (f_X7_setLimits (ss 10) (ss 11) (aa 1) (aa 2) (aa 3) (aa 4) (aa 5) (aa 6) (aa 0) (ss 12) (ss 13) (ss 2) (ss 6) pl po pa x1 x2 x3) (fun r => WP (f_X8_setLimits (ms 1) (ms 2) (ms 4) (ma 0) (ma 1) x1 x2 x3) (fun q => ((r.1 = 0 ∧ q.2.2.2.1 = J 0 ∧ r.2.1 = q.1) ∨ (r.1 = 3 ∧ q.2.2.2.1 = J 1) ∨ (r.1 = 1 ∧ q.2.2.2.1 = J 2)) ∧ REL (va_up (va_up (va_up (va_up ss 12 r.2.2.2.2.2.1) 13 r.2.2.2.2.2.2.1) 2 r.2.2.2.2.2.2.2.1) 6 r.2.2.2.2.2.2.2.2.1) (va_up (va_up (va_up aa 2 r.2.2.1) 3 r.2.2.2.1) 4 r.2.2.2.2.1) r.2.2.2.2.2.2.2.2.2.1 r.2.2.2.2.2.2.2.2.2.2.1 r.2.2.2.2.2.2.2.2.2.2.2 (va_up (va_up (va_up ms 1 q.2.1) 2 q.2.2.1) 4 q.2.2.2.1) (va_up (va_up ma 0 q.2.2.2.2.1) 1 q.2.2.2.2.2))) := by
  obtain ⟨G, S, hn, hsv, hh, hsp, hrt, hbk, hin, her, hx, hy⟩ := hR
  obtain ⟨a, b, pl', po', pa', past', c1, c2, c3⟩ := both_change hn hh (ss 2) (ss 6) (ms 2)
  have hn0 := hn
  obtain ⟨⟨n1, n2⟩, ⟨n3, n4, n5, n6, n7, n8, n9⟩, n10, hs, hw⟩ := hn
  simp only [n1, n2, n3, n4, n5, n6, n7, n8, n9, n10] at c1 c2
  obtain ⟨k, rfl, hk⟩ := J_ex x1
  obtain ⟨d, rfl, hd⟩ := J_ex x2
  obtain ⟨u, rfl, hu⟩ := J_ex x3
  have h0 := hw.1.1
  by_cases q : 0 ≤ k ∧ k < G 0
  · by_cases q2 : (0 ≤ d ∧ d ≤ 8) ∧ 0 ≤ u ∧ u ≤ 8
    · have hv0 := hw.2.1 k q.1 q.2
      have hv0 : -G (2 + 4 * k) ≤ G (4 + 4 * k) ∧ G (4 + 4 * k) ≤ G (3 + 4 * k) := hv0
      have hl0 := hw.1.2 k q.1 q.2
      have h3 := (hs.1 k q.1 q.2).2.2.2
      obtain ⟨v, hv⟩ : ∃ v : Int, v = max (-d) (min u (G (4 + 4 * k))) := ⟨_, rfl⟩
      have hvb : -d ≤ v ∧ v ≤ u := by omega
      have hlim : f_X4_limit (J (G 0)) (JA (S 1)) (JA (S 2)) (JA (S 3)) (J k) (J d) (J u) = some (JA (LMS S k d u v 1), JA (LMS S k d u v 2), JA (LMS S k d u v 3)) := by
        unfold f_X4_limit
        refine ob _ (e_hasLink1 (by omega)) ?_
        simp (disch := omega) only [↓reduceIte, j_lits, J_add, J_sub, J_mul, J_neg, J_le, J_lt, J_eqv, J_div, J_imax, J_imin, JA_get, JG, JA_upd, LET, Option.bind_some, lt_T, lt_F, le_T, le_F, eq_T, eq_F, and_true, true_and, Int.sub_neg, Int.natCast_add, n_lits, h3]
        rw [← hv]
        rfl
      have hvo : f_X4_valueOf (JA (LMS S k d u v 3)) (J k) = some (J v) := (e_valueOf (F := LMS S k d u v 3) (by omega)).trans (congrArg some (congrArg J (up_same _ _ _)))
      have h7 : (f_X7_setLimits (ss 10) (ss 11) (aa 1) (aa 2) (aa 3) (aa 4) (aa 5) (aa 6) (aa 0) (ss 12) (ss 13) (ss 2) (ss 6) pl po pa (J k) (J d) (J u)) = some (0, J v, JA (LMS S k d u v 1), JA (LMS S k d u v 2), JA (LMS S k d u v 3), a, b, J 0, J 0, pl', po', pa') := by
        unfold f_X7_setLimits
        simp only [n1, n2, n3, n4, n5, n6, n7, n8, n9, n10]
        refine ob _ (e_hasLink1 (by omega)) ?_
        rw [if_neg (by decide)]
        refine ob _ (e_isLimit1 (by omega)) ?_
        rw [if_neg (by decide)]
        refine ob _ (e_isLimit1 (by omega)) ?_
        rw [if_neg (by decide)]
        refine ob _ c1 ?_
        refine ob _ hlim ?_
        exact ob _ hvo rfl
      have h8 : (f_X8_setLimits (ms 1) (ms 2) (ms 4) (ma 0) (ma 1) (J k) (J d) (J u)) = some (J v, a, J (-1), J 0, JA (LMC G k d u v), past') := by
        unfold f_X8_setLimits
        simp only [n10]
        refine ob _ (e_isJoint1 h0 (by omega)) ?_
        rw [if_neg (by decide)]
        refine ob _ (e_in1 (x := d) (a := 0) (b := 8) (by omega)) ?_
        rw [if_neg (by decide)]
        refine ob _ (e_in1 (x := u) (a := 0) (b := 8) (by omega)) ?_
        rw [if_neg (by decide)]
        unfold f_X8_setLimits_L38
        rw [if_pos (by decide)]
        refine ob _ c2 ?_
        have e4 : up (up G (2 + 4 * k) d) (3 + 4 * k) u (4 + 4 * k) = G (4 + 4 * k) := by rw [up_ne _ _ (by omega), up_ne _ _ (by omega)]
        by_cases z1 : -d ≤ G (4 + 4 * k)
        · by_cases z2 : G (4 + 4 * k) ≤ u
          · simp (disch := omega) only [↓reduceIte, j_lits, J_add, J_sub, J_mul, J_neg, J_le, J_lt, J_eqv, J_div, J_imax, J_imin, JA_get, JG, JA_upd, LET, Option.bind_some, lt_T, lt_F, le_T, le_F, eq_T, eq_F, and_true, true_and, Int.sub_neg, Int.natCast_add, n_lits, e4, f_X8_setLimits_L121, up_same]
            rw [show G (4 + 4 * k) = v by omega]
            rfl
          · simp (disch := omega) only [↓reduceIte, j_lits, J_add, J_sub, J_mul, J_neg, J_le, J_lt, J_eqv, J_div, J_imax, J_imin, JA_get, JG, JA_upd, LET, Option.bind_some, lt_T, lt_F, le_T, le_F, eq_T, eq_F, and_true, true_and, Int.sub_neg, Int.natCast_add, n_lits, e4, f_X8_setLimits_L121, up_same]
            rw [show u = v by omega]
            rw [show v = u by omega]
            rfl
        · simp (disch := omega) only [↓reduceIte, j_lits, J_add, J_sub, J_mul, J_neg, J_le, J_lt, J_eqv, J_div, J_imax, J_imin, JA_get, JG, JA_upd, LET, Option.bind_some, lt_T, lt_F, le_T, le_F, eq_T, eq_F, and_true, true_and, Int.sub_neg, Int.natCast_add, n_lits, e4, f_X8_setLimits_L121, up_same]
          rw [show -d = v by omega]
          rfl
      obtain ⟨k1, k2, k3, k4, k5⟩ := LMC_ok hw hs q q2.1 q2.2 hvb
      exact ⟨_, h7, _, h8, Or.inl ⟨rfl, rfl, rfl⟩, LMC G k d u v, LMS S k d u v, ⟨⟨n1.trans (congrArg J k3.symm), n2.trans (congrArg J k4.symm)⟩, ⟨n3, rfl, rfl, rfl, n7, n8, n9⟩, rfl, k1, k2⟩, hsv, c3, RSPC_0 _ _ _ _ _ _, RRTE_0 _ _ _ _ _ _ _ _, hbk, hin, her, hx, hy⟩
    · have h7 : (f_X7_setLimits (ss 10) (ss 11) (aa 1) (aa 2) (aa 3) (aa 4) (aa 5) (aa 6) (aa 0) (ss 12) (ss 13) (ss 2) (ss 6) pl po pa (J k) (J d) (J u)) = some (1, J 0, (aa 2), (aa 3), (aa 4), (ss 12), (ss 13), (ss 2), (ss 6), pl, po, pa) := by
        unfold f_X7_setLimits
        by_cases q3 : 0 ≤ d ∧ d ≤ 8
        · simp (disch := omega) only [↓reduceIte, j_lits, J_add, J_sub, J_mul, J_neg, J_le, J_lt, J_eqv, J_div, J_imax, J_imin, JA_get, JG, JA_upd, LET, Option.bind_some, lt_T, lt_F, le_T, le_F, eq_T, eq_F, and_true, true_and, Int.sub_neg, Int.natCast_add, n_lits, n1, n2, n3, n4, n5, n6, n7, n8, n9, n10, e_hasLink1, e_isLimit1, e_isLimit0, f_X7_setLimits_L35]
        · simp (disch := omega) only [↓reduceIte, j_lits, J_add, J_sub, J_mul, J_neg, J_le, J_lt, J_eqv, J_div, J_imax, J_imin, JA_get, JG, JA_upd, LET, Option.bind_some, lt_T, lt_F, le_T, le_F, eq_T, eq_F, and_true, true_and, Int.sub_neg, Int.natCast_add, n_lits, n1, n2, n3, n4, n5, n6, n7, n8, n9, n10, e_hasLink1, e_isLimit0, f_X7_setLimits_L35]
      have h8 : (f_X8_setLimits (ms 1) (ms 2) (ms 4) (ma 0) (ma 1) (J k) (J d) (J u)) = some (J 0, (ms 1), (ms 2), J 2, (ma 0), (ma 1)) := by
        unfold f_X8_setLimits
        simp only [n10]
        refine ob _ (e_isJoint1 h0 (by omega)) ?_
        by_cases q3 : 0 ≤ d ∧ d ≤ 8
        · simp (disch := omega) only [↓reduceIte, j_lits, J_add, J_sub, J_mul, J_neg, J_le, J_lt, J_eqv, J_div, J_imax, J_imin, JA_get, JG, JA_upd, LET, Option.bind_some, lt_T, lt_F, le_T, le_F, eq_T, eq_F, and_true, true_and, Int.sub_neg, Int.natCast_add, n_lits, e_in1, e_in0, f_X8_setLimits_L38]
        · simp (disch := omega) only [↓reduceIte, j_lits, J_add, J_sub, J_mul, J_neg, J_le, J_lt, J_eqv, J_div, J_imax, J_imin, JA_get, JG, JA_upd, LET, Option.bind_some, lt_T, lt_F, le_T, le_F, eq_T, eq_F, and_true, true_and, Int.sub_neg, Int.natCast_add, n_lits, e_in0, f_X8_setLimits_L38]
      exact ⟨_, h7, _, h8, Or.inr (Or.inr ⟨rfl, rfl⟩), G, S, hn0, hsv, hh, hsp, hrt, hbk, hin, her, hx, hy⟩
  · have h7 : (f_X7_setLimits (ss 10) (ss 11) (aa 1) (aa 2) (aa 3) (aa 4) (aa 5) (aa 6) (aa 0) (ss 12) (ss 13) (ss 2) (ss 6) pl po pa (J k) (J d) (J u)) = some (3, J 0, (aa 2), (aa 3), (aa 4), (ss 12), (ss 13), (ss 2), (ss 6), pl, po, pa) := by
      unfold f_X7_setLimits
      simp only [n1]
      refine ob _ (e_hasLink0 (by omega)) ?_
      simp (disch := omega) only [↓reduceIte, j_lits, J_add, J_sub, J_mul, J_neg, J_le, J_lt, J_eqv, J_div, J_imax, J_imin, JA_get, JG, JA_upd, LET, Option.bind_some, lt_T, lt_F, le_T, le_F, eq_T, eq_F, and_true, true_and, Int.sub_neg, Int.natCast_add, n_lits]
    have h8 : (f_X8_setLimits (ms 1) (ms 2) (ms 4) (ma 0) (ma 1) (J k) (J d) (J u)) = some (J 0, (ms 1), (ms 2), J 1, (ma 0), (ma 1)) := by
      unfold f_X8_setLimits
      simp only [n10]
      refine ob _ (e_isJoint0 h0 (by omega)) ?_
      simp (disch := omega) only [↓reduceIte, j_lits, J_add, J_sub, J_mul, J_neg, J_le, J_lt, J_eqv, J_div, J_imax, J_imin, JA_get, JG, JA_upd, LET, Option.bind_some, lt_T, lt_F, le_T, le_F, eq_T, eq_F, and_true, true_and, Int.sub_neg, Int.natCast_add, n_lits, f_X8_setLimits_L38]
    exact ⟨_, h7, _, h8, Or.inr (Or.inl ⟨rfl, rfl⟩), G, S, hn0, hsv, hh, hsp, hrt, hbk, hin, her, hx, hy⟩
theorem e_requireCell1 {x y : Int} (h : (-10 ≤ x ∧ x ≤ 10) ∧ -10 ≤ y ∧ y ≤ 10) : f_X7_requireCell (J x) (J y) = some 0 := by
  unfold f_X7_requireCell
  exact ob _ (e_isInside1 h) rfl
theorem e_requireCell0 {x y : Int} (h : (-2147483648 ≤ x ∧ x ≤ 2147483647) ∧ (-2147483648 ≤ y ∧ y ≤ 2147483647) ∧ ¬ ((-10 ≤ x ∧ x ≤ 10) ∧ -10 ≤ y ∧ y ≤ 10)) : f_X7_requireCell (J x) (J y) = some 3 := by
  unfold f_X7_requireCell
  exact ob _ (e_isInside0 h) rfl
def OXS (S : Nat → Int → Int) (A B C : Int → Int) : Nat → Int → Int := fun q => match q with
  | 4 => A
  | 5 => B
  | 6 => C
  | q => S q
theorem lo_of (G G' : Int → Int) (e : ∀ i : Int, i < 20 → G' i = G i) (h0 : G 0 ≤ 4) {A B C : Int → Int} (hw : WF G) (hs : SC G S) (hr : RS G' A B C) (hws : WS G') : SC G' (OXS S A B C) ∧ WF G' := by
  refine ⟨⟨fun k k0 k1 => ?_, hr⟩, ⟨⟨by rw [e 0 (by omega)]; exact hw.1.1, fun k k0 k1 => ?_⟩, fun k k0 k1 => ?_, hws⟩⟩
  · rw [e 0 (by omega)] at k1
    rw [e _ (by omega), e _ (by omega), e _ (by omega), e _ (by omega)]
    exact hs.1 k k0 k1
  · rw [e 0 (by omega)] at k1
    rw [e _ (by omega), e _ (by omega), e _ (by omega)]
    exact hw.1.2 k k0 k1
  · rw [e 0 (by omega)] at k1
    show -G' (2 + 4 * k) ≤ G' (4 + 4 * k) ∧ G' (4 + 4 * k) ≤ G' (3 + 4 * k)
    rw [e _ (by omega), e _ (by omega), e _ (by omega)]
    exact hw.2.1 k k0 k1
theorem call_addObstacle (hR : REL ss aa pl po pa ms ma) (x1 x2 : Int32) : WP (f_X7_addObstacle (ss 10) (ss 11) (aa 1) (aa 2) (aa 3) (aa 4) (aa 5) (aa 6) (aa 0) (ss 12) (ss 13) (ss 2) (ss 6) pl po pa x1 x2) (fun r => WP (f_X8_addObstacle (ms 1) (ms 2) (ms 4) (ma 0) (ma 1) x1 x2) (fun q => ((r.1 = 0 ∧ q.2.2.2.1 = J 0 ∧ r.2.1 = q.1) ∨ (r.1 = 3 ∧ q.2.2.2.1 = J 1) ∨ (r.1 = 1 ∧ q.2.2.2.1 = J 2) ∨ (r.1 = 2 ∧ q.2.2.2.1 = J 3)) ∧ REL (va_up (va_up (va_up (va_up (va_up ss 11 r.2.2.1) 12 r.2.2.2.2.2.2.1) 13 r.2.2.2.2.2.2.2.1) 2 r.2.2.2.2.2.2.2.2.1) 6 r.2.2.2.2.2.2.2.2.2.1) (va_up (va_up (va_up aa 5 r.2.2.2.1) 6 r.2.2.2.2.1) 0 r.2.2.2.2.2.1) r.2.2.2.2.2.2.2.2.2.2.1 r.2.2.2.2.2.2.2.2.2.2.2.1 r.2.2.2.2.2.2.2.2.2.2.2.2 (va_up (va_up (va_up ms 1 q.2.1) 2 q.2.2.1) 4 q.2.2.2.1) (va_up (va_up ma 0 q.2.2.2.2.1) 1 q.2.2.2.2.2))) := by
  obtain ⟨G, S, hn, hsv, hh, hsp, hrt, hbk, hin, her, hx, hy⟩ := hR
  obtain ⟨a, b, pl', po', pa', past', c1, c2, c3⟩ := both_change hn hh (ss 2) (ss 6) (ms 2)
  have hn0 := hn
  obtain ⟨⟨n1, n2⟩, ⟨n3, n4, n5, n6, n7, n8, n9⟩, n10, hs, hw⟩ := hn
  simp only [n1, n2, n3, n4, n5, n6, n7, n8, n9, n10] at c1 c2
  obtain ⟨x, rfl, hxr⟩ := J_ex x1
  obtain ⟨y, rfl, hyr⟩ := J_ex x2
  have h0 := hw.1.1
  have hw2 := hw.2.2
  have h20 := hw2.1
  by_cases q : (-10 ≤ x ∧ x ≤ 10) ∧ -10 ≤ y ∧ y ≤ 10
  · by_cases q2 : x = 0 ∧ y = 0
    · obtain ⟨e1, e2⟩ := q2
      subst e1 e2
      have h7 : (f_X7_addObstacle (ss 10) (ss 11) (aa 1) (aa 2) (aa 3) (aa 4) (aa 5) (aa 6) (aa 0) (ss 12) (ss 13) (ss 2) (ss 6) pl po pa (J 0) (J 0)) = some (1, J 0, (ss 11), (aa 5), (aa 6), (aa 0), (ss 12), (ss 13), (ss 2), (ss 6), pl, po, pa) := by
        unfold f_X7_addObstacle
        exact ob _ (e_requireCell1 q) rfl
      have h8 : (f_X8_addObstacle (ms 1) (ms 2) (ms 4) (ma 0) (ma 1) (J 0) (J 0)) = some (J 0, (ms 1), (ms 2), J 2, (ma 0), (ma 1)) := by
        unfold f_X8_addObstacle
        refine ob (J 2) ?_ rfl
        unfold f_X8_stoneStops
        exact ob _ (e_isCell1 q) rfl
      exact ⟨_, h7, _, h8, Or.inr (Or.inr (Or.inl ⟨rfl, rfl⟩)), G, S, hn0, hsv, hh, hsp, hrt, hbk, hin, her, hx, hy⟩
    · have hgo : ∀ r, (f_X7_addObstacle_L23 (ss 10) (ss 11) (aa 1) (aa 2) (aa 3) (aa 4) (aa 5) (aa 6) (aa 0) (ss 12) (ss 13) (ss 2) (ss 6) pl po pa (J x) (J y)) = r → (f_X7_addObstacle (ss 10) (ss 11) (aa 1) (aa 2) (aa 3) (aa 4) (aa 5) (aa 6) (aa 0) (ss 12) (ss 13) (ss 2) (ss 6) pl po pa (J x) (J y)) = r := by
        intro r hr
        unfold f_X7_addObstacle
        refine ob _ (e_requireCell1 q) ?_
        rw [if_pos rfl]
        by_cases z : x = 0
        · have z2 : ¬ y = 0 := fun w => q2 ⟨z, w⟩
          rw [if_pos (by rw [z]; rfl), if_neg (by rw [show (0 : Int32) = J 0 from rfl, J_eqv (by omega)]; exact z2)]
          exact hr
        · rw [if_neg (by rw [show (0 : Int32) = J 0 from rfl, J_eqv (by omega)]; exact z)]
          exact hr
      have hst : ∀ r, f_X8_stoneStops_L20 (JA G) (J x) (J y) = r → f_X8_stoneStops (JA G) (J x) (J y) = r := by
        intro r hr
        unfold f_X8_stoneStops
        refine ob _ (e_isCell1 q) ?_
        rw [if_neg (by decide)]
        by_cases z : x = 0
        · have z2 : ¬ y = 0 := fun w => q2 ⟨z, w⟩
          rw [if_pos (by rw [z]; rfl), if_neg (by rw [show (0 : Int32) = J 0 from rfl, J_eqv (by omega)]; exact z2)]
          exact hr
        · rw [if_neg (by rw [show (0 : Int32) = J 0 from rfl, J_eqv (by omega)]; exact z)]
          exact hr
      have hSB := hs.2.2 x y q
      by_cases q3 : G 20 = 60 ∨ OS G x y
      · have h7 : (f_X7_addObstacle (ss 10) (ss 11) (aa 1) (aa 2) (aa 3) (aa 4) (aa 5) (aa 6) (aa 0) (ss 12) (ss 13) (ss 2) (ss 6) pl po pa (J x) (J y)) = some (2, J 0, (ss 11), (aa 5), (aa 6), (aa 0), (ss 12), (ss 13), (ss 2), (ss 6), pl, po, pa) := by
          refine hgo _ ?_
          unfold f_X7_addObstacle_L23 f_X7_addObstacle_L47
          by_cases z : G 20 = 60
          · simp (disch := omega) only [↓reduceIte, j_lits, J_add, J_sub, J_mul, J_neg, J_le, J_lt, J_eqv, J_div, J_imax, J_imin, JA_get, JG, JA_upd, LET, Option.bind_some, lt_T, lt_F, le_T, le_F, eq_T, eq_F, and_true, true_and, Int.sub_neg, Int.natCast_add, n_lits, n2]
          · have z2 := q3.resolve_left z
            simp (disch := omega) only [↓reduceIte, j_lits, J_add, J_sub, J_mul, J_neg, J_le, J_lt, J_eqv, J_div, J_imax, J_imin, JA_get, JG, JA_upd, LET, Option.bind_some, lt_T, lt_F, le_T, le_F, eq_T, eq_F, and_true, true_and, Int.sub_neg, Int.natCast_add, n_lits, n2, n9, e_isBlocked_yes q (hSB.mpr z2)]
        have h8 : (f_X8_addObstacle (ms 1) (ms 2) (ms 4) (ma 0) (ma 1) (J x) (J y)) = some (J 0, (ms 1), (ms 2), J 3, (ma 0), (ma 1)) := by
          unfold f_X8_addObstacle
          refine ob (J 3) ?_ rfl
          rw [n10]
          refine hst _ ?_
          unfold f_X8_stoneStops_L20
          by_cases z : G 20 = 60
          · simp (disch := omega) only [↓reduceIte, j_lits, J_add, J_sub, J_mul, J_neg, J_le, J_lt, J_eqv, J_div, J_imax, J_imin, JA_get, JG, JA_upd, LET, Option.bind_some, lt_T, lt_F, le_T, le_F, eq_T, eq_F, and_true, true_and, Int.sub_neg, Int.natCast_add, n_lits]
          · obtain ⟨r, r1, r2⟩ := q3.resolve_left z
            simp (disch := omega) only [↓reduceIte, j_lits, J_add, J_sub, J_mul, J_neg, J_le, J_lt, J_eqv, J_div, J_imax, J_imin, JA_get, JG, JA_upd, LET, Option.bind_some, lt_T, lt_F, le_T, le_F, eq_T, eq_F, and_true, true_and, Int.sub_neg, Int.natCast_add, n_lits, e_stoneAt_yes hw2 ⟨r1, r2⟩]
        exact ⟨_, h7, _, h8, Or.inr (Or.inr (Or.inr ⟨rfl, rfl⟩)), G, S, hn0, hsv, hh, hsp, hrt, hbk, hin, her, hx, hy⟩
      · have z1 : ¬ G 20 = 60 := fun z => q3 (Or.inl z)
        have z2 : ¬ OS G x y := fun z => q3 (Or.inr z)
        have z3 : ¬ ST (S 6) x y := fun z => z2 (hSB.mp z)
        obtain ⟨BL', b1, b2⟩ := e_block (G := G) (ox := S 4) (oy := S 5) ⟨q, q2⟩ (by omega) z3
        have h7 : (f_X7_addObstacle (ss 10) (ss 11) (aa 1) (aa 2) (aa 3) (aa 4) (aa 5) (aa 6) (aa 0) (ss 12) (ss 13) (ss 2) (ss 6) pl po pa (J x) (J y)) = some (0, J (G 20 + 1), J (G 20 + 1), JA (up (S 4) (G 20) x), JA (up (S 5) (G 20) y), JA BL', a, b, J 0, J 0, pl', po', pa') := by
          refine hgo _ ?_
          unfold f_X7_addObstacle_L23
          simp only [n1, n2, n3, n4, n5, n6, n7, n8, n9, n10]
          rw [if_neg (by rw [show (60 : Int32) = J 60 from rfl, J_le (by omega)]; omega)]
          refine ob _ (e_isBlocked_no q z3) ?_
          rw [if_pos (by rfl)]
          refine ob _ c1 ?_
          exact ob _ b1 rfl
        have h8 : (f_X8_addObstacle (ms 1) (ms 2) (ms 4) (ma 0) (ma 1) (J x) (J y)) = some (J (G 20 + 1), a, J (-1), J 0, JA (SCM G x y), past') := by
          unfold f_X8_addObstacle
          simp only [n10]
          refine ob (J 0) ?_ ?_
          · refine hst _ ?_
            unfold f_X8_stoneStops_L20
            simp (disch := omega) only [↓reduceIte, j_lits, J_add, J_sub, J_mul, J_neg, J_le, J_lt, J_eqv, J_div, J_imax, J_imin, JA_get, JG, JA_upd, LET, Option.bind_some, lt_T, lt_F, le_T, le_F, eq_T, eq_F, and_true, true_and, Int.sub_neg, Int.natCast_add, n_lits, e_stoneAt_no hw2 ⟨hxr, hyr⟩ z2]
          · rw [if_pos (by decide)]
            refine ob _ c2 ?_
            refine ob _ (e_stoneComes (by omega)) ?_
            simp (disch := omega) only [↓reduceIte, j_lits, J_add, J_sub, J_mul, J_neg, J_le, J_lt, J_eqv, J_div, J_imax, J_imin, JA_get, JG, JA_upd, LET, Option.bind_some, lt_T, lt_F, le_T, le_F, eq_T, eq_F, and_true, true_and, Int.sub_neg, Int.natCast_add, n_lits, SCM_20]
        have k := lo_of G (SCM G x y) (fun i hi => SCM_lo hi h20.1) h0.2 hw hs (SCM_RS hw2 hs.2 b2) (SCM_WS hw2 (by omega) q q2 z2)
        exact ⟨_, h7, _, h8, Or.inl ⟨rfl, rfl, rfl⟩, SCM G x y, OXS S _ _ _, ⟨⟨n1.trans (congrArg J (SCM_lo (by omega) h20.1).symm), congrArg J SCM_20.symm⟩, ⟨n3, n4, n5, n6, rfl, rfl, rfl⟩, rfl, k.1, k.2⟩, hsv, c3, RSPC_0 _ _ _ _ _ _, RRTE_0 _ _ _ _ _ _ _ _, hbk, hin, her, hx, hy⟩
  · have h7 : (f_X7_addObstacle (ss 10) (ss 11) (aa 1) (aa 2) (aa 3) (aa 4) (aa 5) (aa 6) (aa 0) (ss 12) (ss 13) (ss 2) (ss 6) pl po pa (J x) (J y)) = some (3, J 0, (ss 11), (aa 5), (aa 6), (aa 0), (ss 12), (ss 13), (ss 2), (ss 6), pl, po, pa) := by
      unfold f_X7_addObstacle
      exact ob _ (e_requireCell0 ⟨hxr, hyr, q⟩) rfl
    have h8 : (f_X8_addObstacle (ms 1) (ms 2) (ms 4) (ma 0) (ma 1) (J x) (J y)) = some (J 0, (ms 1), (ms 2), J 1, (ma 0), (ma 1)) := by
      unfold f_X8_addObstacle
      refine ob (J 1) ?_ rfl
      unfold f_X8_stoneStops
      exact ob _ (e_isCell0 ⟨hxr, hyr, q⟩) rfl
    exact ⟨_, h7, _, h8, Or.inr (Or.inl ⟨rfl, rfl⟩), G, S, hn0, hsv, hh, hsp, hrt, hbk, hin, her, hx, hy⟩
theorem call_removeObstacle (hR : REL ss aa pl po pa ms ma) (x1 x2 : Int32) : WP (f_X7_removeObstacle (ss 10) (ss 11) (aa 1) (aa 2) (aa 3) (aa 4) (aa 5) (aa 6) (aa 0) (ss 12) (ss 13) (ss 2) (ss 6) pl po pa x1 x2) (fun r => WP (f_X8_removeObstacle (ms 1) (ms 2) (ms 4) (ma 0) (ma 1) x1 x2) (fun q => ((r.1 = 0 ∧ q.2.2.2.1 = J 0 ∧ r.2.1 = q.1) ∨ (r.1 = 3 ∧ q.2.2.2.1 = J 1) ∨ (r.1 = 4 ∧ q.2.2.2.1 = J 2)) ∧ REL (va_up (va_up (va_up (va_up (va_up ss 11 r.2.2.1) 12 r.2.2.2.2.2.2.1) 13 r.2.2.2.2.2.2.2.1) 2 r.2.2.2.2.2.2.2.2.1) 6 r.2.2.2.2.2.2.2.2.2.1) (va_up (va_up (va_up aa 5 r.2.2.2.1) 6 r.2.2.2.2.1) 0 r.2.2.2.2.2.1) r.2.2.2.2.2.2.2.2.2.2.1 r.2.2.2.2.2.2.2.2.2.2.2.1 r.2.2.2.2.2.2.2.2.2.2.2.2 (va_up (va_up (va_up ms 1 q.2.1) 2 q.2.2.1) 4 q.2.2.2.1) (va_up (va_up ma 0 q.2.2.2.2.1) 1 q.2.2.2.2.2))) := by
  obtain ⟨G, S, hn, hsv, hh, hsp, hrt, hbk, hin, her, hx, hy⟩ := hR
  obtain ⟨a, b, pl', po', pa', past', c1, c2, c3⟩ := both_change hn hh (ss 2) (ss 6) (ms 2)
  have hn0 := hn
  obtain ⟨⟨n1, n2⟩, ⟨n3, n4, n5, n6, n7, n8, n9⟩, n10, hs, hw⟩ := hn
  simp only [n1, n2, n3, n4, n5, n6, n7, n8, n9, n10] at c1 c2
  obtain ⟨x, rfl, hxr⟩ := J_ex x1
  obtain ⟨y, rfl, hyr⟩ := J_ex x2
  have h0 := hw.1.1
  have hw2 := hw.2.2
  have h20 := hw2.1
  by_cases q : (-10 ≤ x ∧ x ≤ 10) ∧ -10 ≤ y ∧ y ≤ 10
  · have hSB := hs.2.2 x y q
    by_cases q2 : OS G x y
    · obtain ⟨r, r1⟩ := q2
      have z3 : ST (S 6) x y := hSB.mpr ⟨r, r1⟩
      obtain ⟨BL', b1, b2⟩ := e_unblock hw2 hs.2 r1
      have h7 : (f_X7_removeObstacle (ss 10) (ss 11) (aa 1) (aa 2) (aa 3) (aa 4) (aa 5) (aa 6) (aa 0) (ss 12) (ss 13) (ss 2) (ss 6) pl po pa (J x) (J y)) = some (0, J (G 20 - 1), J (G 20 - 1), JA (SH (S 4) r (G 20)), JA (SH (S 5) r (G 20)), JA BL', a, b, J 0, J 0, pl', po', pa') := by
        unfold f_X7_removeObstacle
        simp only [n1, n2, n3, n4, n5, n6, n7, n8, n9, n10]
        refine ob _ (e_requireCell1 q) ?_
        rw [if_pos rfl]
        refine ob _ (e_isBlocked_yes q z3) ?_
        rw [if_neg (by decide)]
        refine ob _ c1 ?_
        exact ob _ b1 rfl
      have h8 : (f_X8_removeObstacle (ms 1) (ms 2) (ms 4) (ma 0) (ma 1) (J x) (J y)) = some (J (G 20 - 1), a, J (-1), J 0, JA (RMV G r), past') := by
        unfold f_X8_removeObstacle
        simp only [n10]
        refine ob _ (e_stoneAt_yes hw2 r1) ?_
        refine ob _ (e_isCell1 q) ?_
        rw [if_neg (by decide), if_pos (by rw [show (0 : Int32) = J 0 from rfl, J_le (by omega)]; omega)]
        unfold f_X8_removeObstacle_L29
        rw [if_pos (by decide)]
        refine ob _ c2 ?_
        have e20 : ∀ k : Int, 0 ≤ k → RM0 G r k 20 = G 20 - 1 := fun k hk => (if_neg (by omega)).trans (up_same _ _ _)
        simp (disch := omega) only [↓reduceIte, j_lits, J_add, J_sub, J_mul, J_neg, J_le, J_lt, J_eqv, J_div, J_imax, J_imin, JA_get, JG, JA_upd, LET, Option.bind_some, lt_T, lt_F, le_T, le_F, eq_T, eq_F, and_true, true_and, Int.sub_neg, Int.natCast_add, n_lits]
        refine lp_bind (fun k : Nat => (JA (RM0 G r k), J (21 + 2 * r + k))) (2 * (G 20 - 1 - r)).toNat (e := JA (RMV G r)) ?_ (by omega) (fun k hk => ?_) ?_ ?_
        · refine pr2 (congrArg JA (funext fun j => ?_)) (congrArg J (by omega))
          exact (if_neg (by omega)).symm
        · have e1 : RM0 G r k (21 + 2 * r + k + 2) = G (21 + 2 * r + k + 2) := (if_neg (by omega)).trans (up_ne _ _ (by omega))
          unfold f_X8_removeObstacle_B64
          simp (disch := omega) only [↓reduceIte, j_lits, J_add, J_sub, J_mul, J_neg, J_le, J_lt, J_eqv, J_div, J_imax, J_imin, JA_get, JG, JA_upd, LET, Option.bind_some, lt_T, lt_F, le_T, le_F, eq_T, eq_F, and_true, true_and, Int.sub_neg, Int.natCast_add, n_lits, e20, e1, RM0_s]
          rw [show 21 + 2 * r + ((k : Int) + 1) = 21 + 2 * r + k + 1 by omega]
        · have e2 : (((2 * (G 20 - 1 - r)).toNat : Nat) : Int) = 2 * (G 20 - 1 - r) := by omega
          unfold f_X8_removeObstacle_B64
          rw [e2]
          simp (disch := omega) only [↓reduceIte, j_lits, J_add, J_sub, J_mul, J_neg, J_le, J_lt, J_eqv, J_div, J_imax, J_imin, JA_get, JG, JA_upd, LET, Option.bind_some, lt_T, lt_F, le_T, le_F, eq_T, eq_F, and_true, true_and, Int.sub_neg, Int.natCast_add, n_lits, e20]
          rfl
        · simp (disch := omega) only [↓reduceIte, j_lits, J_add, J_sub, J_mul, J_neg, J_le, J_lt, J_eqv, J_div, J_imax, J_imin, JA_get, JG, JA_upd, LET, Option.bind_some, lt_T, lt_F, le_T, le_F, eq_T, eq_F, and_true, true_and, Int.sub_neg, Int.natCast_add, n_lits, RM_20]
      have k := lo_of G (RMV G r) (fun i hi => RM_lo r1.1.1 hi) h0.2 hw hs (RM_RS hw2 hs.2 r1 b2) (RM_WS hw2 r1.1)
      exact ⟨_, h7, _, h8, Or.inl ⟨rfl, rfl, rfl⟩, RMV G r, OXS S _ _ _, ⟨⟨n1.trans (congrArg J (RM_lo r1.1.1 (by omega)).symm), congrArg J (RM_20 r1.1.1).symm⟩, ⟨n3, n4, n5, n6, rfl, rfl, rfl⟩, rfl, k.1, k.2⟩, hsv, c3, RSPC_0 _ _ _ _ _ _, RRTE_0 _ _ _ _ _ _ _ _, hbk, hin, her, hx, hy⟩
    · have z3 : ¬ ST (S 6) x y := fun z => q2 (hSB.mp z)
      have h7 : (f_X7_removeObstacle (ss 10) (ss 11) (aa 1) (aa 2) (aa 3) (aa 4) (aa 5) (aa 6) (aa 0) (ss 12) (ss 13) (ss 2) (ss 6) pl po pa (J x) (J y)) = some (4, J 0, (ss 11), (aa 5), (aa 6), (aa 0), (ss 12), (ss 13), (ss 2), (ss 6), pl, po, pa) := by
        unfold f_X7_removeObstacle
        simp only [n9]
        refine ob _ (e_requireCell1 q) ?_
        rw [if_pos rfl]
        exact ob _ (e_isBlocked_no q z3) rfl
      have h8 : (f_X8_removeObstacle (ms 1) (ms 2) (ms 4) (ma 0) (ma 1) (J x) (J y)) = some (J 0, (ms 1), (ms 2), J 2, (ma 0), (ma 1)) := by
        unfold f_X8_removeObstacle
        simp only [n10]
        refine ob _ (e_stoneAt_no hw2 ⟨hxr, hyr⟩ q2) ?_
        refine ob _ (e_isCell1 q) ?_
        simp (disch := omega) only [↓reduceIte, j_lits, J_add, J_sub, J_mul, J_neg, J_le, J_lt, J_eqv, J_div, J_imax, J_imin, JA_get, JG, JA_upd, LET, Option.bind_some, lt_T, lt_F, le_T, le_F, eq_T, eq_F, and_true, true_and, Int.sub_neg, Int.natCast_add, n_lits, f_X8_removeObstacle_L29]
      exact ⟨_, h7, _, h8, Or.inr (Or.inr ⟨rfl, rfl⟩), G, S, hn0, hsv, hh, hsp, hrt, hbk, hin, her, hx, hy⟩
  · have h7 : (f_X7_removeObstacle (ss 10) (ss 11) (aa 1) (aa 2) (aa 3) (aa 4) (aa 5) (aa 6) (aa 0) (ss 12) (ss 13) (ss 2) (ss 6) pl po pa (J x) (J y)) = some (3, J 0, (ss 11), (aa 5), (aa 6), (aa 0), (ss 12), (ss 13), (ss 2), (ss 6), pl, po, pa) := by
      unfold f_X7_removeObstacle
      exact ob _ (e_requireCell0 ⟨hxr, hyr, q⟩) rfl
    have z : ¬ OS G x y := fun w => q (OS_ar hw2 w).1
    have h8 : (f_X8_removeObstacle (ms 1) (ms 2) (ms 4) (ma 0) (ma 1) (J x) (J y)) = some (J 0, (ms 1), (ms 2), J 1, (ma 0), (ma 1)) := by
      unfold f_X8_removeObstacle
      simp only [n10]
      refine ob _ (e_stoneAt_no hw2 ⟨hxr, hyr⟩ z) ?_
      refine ob _ (e_isCell0 ⟨hxr, hyr, q⟩) ?_
      simp (disch := omega) only [↓reduceIte, j_lits, J_add, J_sub, J_mul, J_neg, J_le, J_lt, J_eqv, J_div, J_imax, J_imin, JA_get, JG, JA_upd, LET, Option.bind_some, lt_T, lt_F, le_T, le_F, eq_T, eq_F, and_true, true_and, Int.sub_neg, Int.natCast_add, n_lits, f_X8_removeObstacle_L29]
    exact ⟨_, h7, _, h8, Or.inr (Or.inl ⟨rfl, rfl⟩), G, S, hn0, hsv, hh, hsp, hrt, hbk, hin, her, hx, hy⟩
end
