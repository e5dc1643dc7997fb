/-! joint, setValue, move, moves, linksAt, clearance -/
section
variable {ss : Nat → Int32} {aa : Nat → Nat → Int32} {pl po : Nat → Int32} {pa : Nat → Nat → Nat → Int32} {ms : Nat → Int32} {ma : Nat → Nat → Int32} {G : Int → Int} {S D : Nat → Int → Int}
theorem both_turn {nl no ch old pasts : Int32} {ln lo hi vl ox oy bl g past : Nat → Int32} (hn : RNOW G S nl no ln lo hi vl ox oy bl g) (hh : RHIS ch old pl po pa pasts past) (pln pm : Int32) :
    ∃ a b pl' po' pa' past', f_X7_beginTurn nl no ln lo hi vl ox oy bl ch old pln pl po pa = some (a, b, J 0, pl', po', pa') ∧ f_X8_changes pasts pm g past = some (a, J (-1), past') ∧ RHIS a b pl' po' pa' a past' := by
  obtain ⟨⟨rfl, rfl⟩, ⟨rfl, rfl, rfl, rfl, rfl, rfl, rfl⟩, rfl, hs, hw⟩ := hn
  obtain ⟨c, o, P, rfl, rfl, rfl, rfl, h⟩ := hh
  obtain ⟨pl', po', pa', o', h1, h2⟩ := e_remember hw hs h
  obtain ⟨P', h3, h4⟩ := e_changes8 (G := G) (P := P) (c := c) ⟨h.1.1, h.1.2.1⟩ pm
  refine ⟨_, _, pl', po', pa', JA P', ?_, h3, _, o', P', rfl, rfl, rfl, rfl, h2 P' h4⟩
  unfold f_X7_beginTurn
  exact ob _ h1 rfl
def VLS (S : Nat → Int → Int) (k x : Int) : Nat → Int → Int := fun q => match q with
  | 3 => up (S 3) k x
  | q => S q
theorem VL_ok (hw : WF G) (hs : SC G S) {k x : Int} (hk : 0 ≤ k ∧ k < G 0) (hx : -G (2 + 4 * k) ≤ x ∧ x ≤ G (3 + 4 * k)) : SC (up G (4 + 4 * k) x) (VLS S k x) ∧ WF (up G (4 + 4 * k) x) := by
  have h0 := hw.1.1
  have e := EQG_up (G := G) (k := k) (x := x) (by omega)
  have e4 : ∀ j : Int, up G (4 + 4 * k) x (4 + 4 * j) = up (GV G) k x j := by
    intro j
    by_cases q : j = k
    · rw [q, up_same, up_same]
    · rw [up_ne _ _ (by omega), up_ne _ _ q]; rfl
  refine ⟨⟨fun j j0 j1 => ?_, RS_congr e.1.2 (fun i i0 _ => e.2.2 i i0) hs.2⟩, WL_congr e.1.1 (fun j _ _ => e.2.1 j) hw.1, fun j j0 j1 => ?_, WS_congr e.1.2 (fun i i0 _ => e.2.2 i i0) hw.2.2⟩
  · rw [e.1.1] at j1
    have h1 := hs.1 j j0 j1
    rw [(e.2.1 j).1, (e.2.1 j).2.1, (e.2.1 j).2.2, e4]
    refine ⟨h1.1, h1.2.1, h1.2.2.1, ?_⟩
    show up (S 3) k x j = _
    by_cases q : j = k
    · rw [q, up_same, up_same]
    · rw [up_ne _ _ q, up_ne _ _ q]
      exact h1.2.2.2
  · rw [e.1.1] at j1
    rw [(e.2.1 j).2.1, (e.2.1 j).2.2]
    show -G (2 + 4 * j) ≤ up G (4 + 4 * k) x (4 + 4 * j) ∧ up G (4 + 4 * k) x (4 + 4 * j) ≤ G (3 + 4 * j)
    rw [e4]
    by_cases q : j = k
    · rw [q, up_same]; exact hx
    · rw [up_ne _ _ q]; exact hw.2.1 j j0 j1
theorem e_turnTo {n k x : Int} {F : Int → Int} (h : n ≤ 4 ∧ 0 ≤ k ∧ k < n) : f_X4_turnTo (J n) (JA F) (J k) (J x) = some (JA (up F k x)) := by
  unfold f_X4_turnTo
  refine ob _ (e_hasLink1 h) ?_
  simp (disch := omega) only [↓reduceIte, j_lits, J_add, J_sub, J_mul, J_neg, J_le, J_lt, J_eqv, J_div, J_imax, J_imin, JA_get, JG, JA_upd, LET, Option.bind_some, lt_T, lt_F, le_T, le_F, eq_T, eq_F, and_true, true_and, Int.sub_neg, Int.natCast_add, n_lits]
theorem e_turnBy {n k x : Int} {F : Int → Int} (h : n ≤ 4 ∧ 0 ≤ k ∧ k < n) : f_X4_turnBy (J n) (JA F) (J k) (J x) = some (JA (up F k (F k + x))) := by
  unfold f_X4_turnBy
  refine ob _ (e_hasLink1 h) ?_
  simp (disch := omega) only [↓reduceIte, j_lits, J_add, J_sub, J_mul, J_neg, J_le, J_lt, J_eqv, J_div, J_imax, J_imin, JA_get, JG, JA_upd, LET, Option.bind_some, lt_T, lt_F, le_T, le_F, eq_T, eq_F, and_true, true_and, Int.sub_neg, Int.natCast_add, n_lits]
theorem VL_now (hn : RNOW G S (ss 10) (ss 11) (aa 1) (aa 2) (aa 3) (aa 4) (aa 5) (aa 6) (aa 0) (ma 0)) {k x : Int} (hk : 0 ≤ k ∧ k < G 0) (hx : -G (2 + 4 * k) ≤ x ∧ x ≤ G (3 + 4 * k)) {vl g : Nat → Int32} (hv : vl = JA (up (S 3) k x)) (hg : g = JA (up G (4 + 4 * k) x)) :
    RNOW (up G (4 + 4 * k) x) (VLS S k x) (ss 10) (ss 11) (aa 1) (aa 2) (aa 3) vl (aa 5) (aa 6) (aa 0) g := by
  have hn0 := hn
  obtain ⟨⟨n1, n2⟩, ⟨n3, n4, n5, n6, n7, n8, n9⟩, n10, hs, hw⟩ := hn
  have e := EQG_up (G := G) (k := k) (x := x) (by have := hw.1.1; omega)
  have h := VL_ok hw hs hk hx
  exact ⟨⟨n1.trans (congrArg J e.1.1.symm), n2.trans (congrArg J e.1.2.symm)⟩, ⟨n3, n4, n5, hv, n7, n8, n9⟩, hg, h.1, h.2⟩
theorem call_setValue (hR : REL ss aa pl po pa ms ma) (x1 x2 : Int32) : WP (f_X7_setValue (ss 10) (ss 11) (aa 1) (aa 2) (aa 3) (aa 4) (aa 5) (aa 6) (aa 0) (ss 12) (ss 13) (ss 6) pl po pa x1 x2) (fun r => WP (f_X8_setValue (ms 1) (ms 2) (ms 4) (ma 0) (ma 1) x1 x2) (fun q => ((r.1 = 0 ∧ q.2.2.2.1 = J 0 ∧ r.2.1 = q.1) ∨ (r.1 = 3 ∧ q.2.2.2.1 = J 1) ∨ (r.1 = 1 ∧ q.2.2.2.1 = J 2)) ∧ REL (va_up (va_up (va_up ss 12 r.2.2.2.1) 13 r.2.2.2.2.1) 6 r.2.2.2.2.2.1) (va_up aa 4 r.2.2.1) r.2.2.2.2.2.2.1 r.2.2.2.2.2.2.2.1 r.2.2.2.2.2.2.2.2 (va_up (va_up (va_up ms 1 q.2.1) 2 q.2.2.1) 4 q.2.2.2.1) (va_up (va_up ma 0 q.2.2.2.2.1) 1 q.2.2.2.2.2))) := by
  obtain ⟨G, S, hn, hsv, hh, hsp, hrt, hbk, hin, her, hx, hy⟩ := hR
  obtain ⟨a, b, pl', po', pa', past', c1, c2, c3⟩ := both_turn hn hh (ss 6) (ms 2)
  have hn0 := hn
  obtain ⟨⟨n1, n2⟩, ⟨n3, n4, n5, n6, n7, n8, n9⟩, n10, hs, hw⟩ := hn
  simp only [n1, n2, n3, n4, n5, n6, n7, n8, n9, n10] at c1 c2
  obtain ⟨k, rfl, hk⟩ := J_ex x1
  obtain ⟨x, rfl, hxr⟩ := J_ex x2
  have h0 := hw.1.1
  by_cases q : 0 ≤ k ∧ k < G 0
  · have h1 := hw.1.2 k q.1 q.2
    have h2 := hs.vl k q.1 q.2
    have hd := e_down (G := G) (k := k) (by omega)
    have hu := e_up (G := G) (k := k) (by omega)
    by_cases q2 : -G (2 + 4 * k) ≤ x ∧ x ≤ G (3 + 4 * k)
    · have h7 : (f_X7_setValue (ss 10) (ss 11) (aa 1) (aa 2) (aa 3) (aa 4) (aa 5) (aa 6) (aa 0) (ss 12) (ss 13) (ss 6) pl po pa (J k) (J x)) = some (0, J (GV G k), JA (up (S 3) k x), a, b, J 0, pl', po', pa') := by
        unfold f_X7_setValue
        simp only [n1, n2, n3, n4, n5, n6, n7, n8, n9, n10]
        refine ob _ (e_hasLink1 (by omega)) ?_
        rw [if_neg (by decide)]
        refine ob _ (e_allows1 hs h0 hw q q2) ?_
        rw [if_neg (by decide)]
        refine ob _ (e_valueOf (by omega)) ?_
        refine ob _ c1 ?_
        rw [h2]
        exact ob _ (e_turnTo (by omega)) rfl
      have h8 : (f_X8_setValue (ms 1) (ms 2) (ms 4) (ma 0) (ma 1) (J k) (J x)) = some (J (GV G k), a, J (-1), J 0, JA (up G (4 + 4 * k) x), past') := by
        unfold f_X8_setValue
        simp only [n10]
        refine ob _ (e_isJoint1 h0 q) ?_
        rw [if_neg (by decide)]
        refine ob _ hd ?_
        refine ob _ hu ?_
        rw [J_neg]
        refine ob _ (e_in1 (by omega)) ?_
        rw [if_neg (by decide)]
        unfold f_X8_setValue_L36
        rw [if_pos (by decide)]
        refine ob _ c2 ?_
        simp (disch := omega) only [↓reduceIte, j_lits, J_add, J_sub, J_mul, J_neg, J_le, J_lt, J_eqv, J_div, J_imax, J_imin, JA_get, JG, JA_upd, LET, Option.bind_some, lt_T, lt_F, le_T, le_F, eq_T, eq_F, and_true, true_and, Int.sub_neg, Int.natCast_add, n_lits]
        rfl
      exact ⟨_, h7, _, h8, Or.inl ⟨rfl, rfl, rfl⟩, up G (4 + 4 * k) x, VLS S k x, VL_now hn0 q q2 rfl rfl, hsv, c3, EQG_RSPC (EQG_up (by omega)) hsp, RRTE_0 _ _ _ _ _ _ _ _, hbk, hin, her, hx, hy⟩
    · have h7 : (f_X7_setValue (ss 10) (ss 11) (aa 1) (aa 2) (aa 3) (aa 4) (aa 5) (aa 6) (aa 0) (ss 12) (ss 13) (ss 6) pl po pa (J k) (J x)) = some (1, J 0, (aa 4), (ss 12), (ss 13), (ss 6), pl, po, pa) := by
        unfold f_X7_setValue
        simp only [n1, n2, n3, n4, n5, n6, n7, n8, n9, n10]
        refine ob _ (e_hasLink1 (by omega)) ?_
        rw [if_neg (by decide)]
        exact ob _ (e_allows0 hs h0 hw q hxr q2) rfl
      have h8 : (f_X8_setValue (ms 1) (ms 2) (ms 4) (ma 0) (ma 1) (J k) (J x)) = some (J 0, (ms 1), (ms 2), J 2, (ma 0), (ma 1)) := by
        unfold f_X8_setValue
        simp only [n10]
        refine ob _ (e_isJoint1 h0 q) ?_
        rw [if_neg (by decide)]
        refine ob _ hd ?_
        refine ob _ hu ?_
        rw [J_neg]
        refine ob _ (e_in0 (by omega)) ?_
        rfl
      exact ⟨_, h7, _, h8, Or.inr (Or.inr ⟨rfl, rfl⟩), G, S, hn0, hsv, hh, hsp, hrt, hbk, hin, her, hx, hy⟩
  · have h7 : (f_X7_setValue (ss 10) (ss 11) (aa 1) (aa 2) (aa 3) (aa 4) (aa 5) (aa 6) (aa 0) (ss 12) (ss 13) (ss 6) pl po pa (J k) (J x)) = some (3, J 0, (aa 4), (ss 12), (ss 13), (ss 6), pl, po, pa) := by
      unfold f_X7_setValue
      simp only [n1, n2, n3, n4, n5, n6, n7, n8, n9, n10]
      exact ob _ (e_hasLink0 (by omega)) rfl
    have h8 : (f_X8_setValue (ms 1) (ms 2) (ms 4) (ma 0) (ma 1) (J k) (J x)) = some (J 0, (ms 1), (ms 2), J 1, (ma 0), (ma 1)) := by
      unfold f_X8_setValue
      simp only [n10]
      exact ob _ (e_isJoint0 h0 ⟨hk, q⟩) rfl
    exact ⟨_, h7, _, h8, Or.inr (Or.inl ⟨rfl, rfl⟩), G, S, hn0, hsv, hh, hsp, hrt, hbk, hin, her, hx, hy⟩
theorem e_turnsTo8 {m : Int} (h0 : 0 ≤ G 0 ∧ G 0 ≤ 4) (hm : 0 ≤ m ∧ m < 2 * G 0) : f_X8_turnsTo (JA G) (J m) = some (JA (up G (4 + 4 * (m / 2)) (G (4 + 4 * (m / 2)) + TU m))) := by
  unfold f_X8_turnsTo f_X8_turnsTo_L24 TU
  by_cases q : m % 2 = 0
  · simp (disch := omega) only [↓reduceIte, j_lits, J_add, J_sub, J_mul, J_neg, J_le, J_lt, J_eqv, J_div, J_imax, J_imin, JA_get, JG, JA_upd, LET, Option.bind_some, lt_T, lt_F, le_T, le_F, eq_T, eq_F, and_true, true_and, Int.sub_neg, Int.natCast_add, n_lits, J_mod]
  · simp (disch := omega) only [↓reduceIte, j_lits, J_add, J_sub, J_mul, J_neg, J_le, J_lt, J_eqv, J_div, J_imax, J_imin, JA_get, JG, JA_upd, LET, Option.bind_some, lt_T, lt_F, le_T, le_F, eq_T, eq_F, and_true, true_and, Int.sub_neg, Int.natCast_add, n_lits, J_mod]
theorem call_move (hR : REL ss aa pl po pa ms ma) (x1 : Int32) : WP (f_X7_move (ss 10) (ss 11) (aa 1) (aa 2) (aa 3) (aa 4) (aa 5) (aa 6) (aa 0) (ss 12) (ss 13) (ss 14) (ss 15) (ss 16) (ss 17) (aa 7) (aa 8) (aa 9) (aa 10) (ss 6) (aa 11) pl po pa x1) (fun r => WP (f_X8_move (ms 1) (ms 2) (ms 4) (ms 5) (ma 0) (ma 1) (ma 3) (ma 4) (ma 5) (ma 6) x1) (fun q => ((r.1 = 0 ∧ q.2.2.2.1 = J 0 ∧ r.2.1 = q.1) ∨ (r.1 = 1 ∧ q.2.2.2.1 = J 1) ∨ (r.1 = 2 ∧ q.2.2.2.1 = J 2)) ∧ REL (va_up (va_up (va_up (va_up (va_up (va_up (va_up ss 12 r.2.2.2.1) 13 r.2.2.2.2.1) 14 r.2.2.2.2.2.1) 15 r.2.2.2.2.2.2.1) 16 r.2.2.2.2.2.2.2.1) 17 r.2.2.2.2.2.2.2.2.1) 6 r.2.2.2.2.2.2.2.2.2.2.2.2.2.1) (va_up (va_up (va_up (va_up (va_up (va_up aa 4 r.2.2.1) 7 r.2.2.2.2.2.2.2.2.2.1) 8 r.2.2.2.2.2.2.2.2.2.2.1) 9 r.2.2.2.2.2.2.2.2.2.2.2.1) 10 r.2.2.2.2.2.2.2.2.2.2.2.2.1) 11 r.2.2.2.2.2.2.2.2.2.2.2.2.2.2.1) r.2.2.2.2.2.2.2.2.2.2.2.2.2.2.2.1 r.2.2.2.2.2.2.2.2.2.2.2.2.2.2.2.2.1 r.2.2.2.2.2.2.2.2.2.2.2.2.2.2.2.2.2 (va_up (va_up (va_up (va_up ms 1 q.2.1) 2 q.2.2.1) 4 q.2.2.2.1) 5 q.2.2.2.2.1) (va_up (va_up (va_up (va_up (va_up (va_up ma 0 q.2.2.2.2.2.1) 1 q.2.2.2.2.2.2.1) 3 q.2.2.2.2.2.2.2.1) 4 q.2.2.2.2.2.2.2.2.1) 5 q.2.2.2.2.2.2.2.2.2.1) 6 q.2.2.2.2.2.2.2.2.2.2))) := by
  obtain ⟨G, S, hn, hsv, hh, hsp, hrt, hbk, hin, her, hx, hy⟩ := hR
  obtain ⟨a, b, pl', po', pa', past', c1, c2, c3⟩ := both_turn hn hh (ss 6) (ms 2)
  have hn0 := hn
  obtain ⟨⟨n1, n2⟩, ⟨n3, n4, n5, n6, n7, n8, n9⟩, n10, hs, hw⟩ := hn
  simp only [n1, n2, n3, n4, n5, n6, n7, n8, n9, n10] at c1 c2
  obtain ⟨m, rfl, hmr⟩ := J_ex x1
  have h0 := hw.1.1
  by_cases q : 0 ≤ m ∧ m < 2 * G 0
  · have hM := MM_iff hw q.1 q.2
    have hj : f_X7_jointOf (J m) = some (J (m / 2)) := e_jointOf hmr
    unfold f_X7_move f_X8_move
    simp only [n1, n2, n3, n4, n5, n6, n7, n8, n9, n10]
    rw [if_neg (by rw [show (0 : Int32) = J 0 from rfl, J_lt (by omega)]; omega)]
    refine WP.ob hj ?_
    refine WP.ob (e_hasLink1 (by omega)) ?_
    rw [if_neg (by decide)]
    refine WP.bind (w_isFreeNow hw hs _ _ _ _ _ _ _ _) fun o ho => ?_
    have h8 := e_isMove1 (G := G) (k := m) h0 q
    obtain ⟨o8, e8, d8, x8, y8⟩ := w_mayMove hw q (ms 5) (ma 3) (ma 4) (ma 5) (ma 6) hx hy
    have no : ¬ (FR G (GV G) ∧ MM G m) → WP ((f_X8_isMove (JA G) (J m)).bind fun o_3 => if o_3 = 0 then (f_X8_move_L26 (ms 1) (ms 2) (ms 4) (ms 5) (JA G) (ma 1) (ma 3) (ma 4) (ma 5) (ma 6) (J m) 1) else ((f_X8_mayMove (ms 5) (JA G) (ma 3) (ma 4) (ma 5) (ma 6) (J m)).bind fun o_4 => if o_4.1 = 0 then (f_X8_move_L26 (ms 1) (ms 2) (ms 4) o_4.2.1 (JA G) (ma 1) o_4.2.2.1 o_4.2.2.2.1 o_4.2.2.2.2.1 o_4.2.2.2.2.2 (J m) 2) else (f_X8_move_L26 (ms 1) (ms 2) (ms 4) o_4.2.1 (JA G) (ma 1) o_4.2.2.1 o_4.2.2.2.1 o_4.2.2.2.2.1 o_4.2.2.2.2.2 (J m) 0))) (fun q => q = (J 0, (ms 1), (ms 2), J 2, o8.2.1, JA G, (ma 1), o8.2.2.1, o8.2.2.2.1, o8.2.2.2.2.1, o8.2.2.2.2.2)) := by
      intro hno
      refine WP.ob h8 ?_
      rw [if_neg (by decide)]
      refine WP.ob e8 ?_
      rcases d8 with ⟨d1, d2⟩ | ⟨d1, d2⟩
      · exact absurd d2 hno
      · rw [d1, if_pos (by rfl)]
        exact WP.ret rfl
    rcases ho with ⟨g1, g2⟩ | ⟨g1, g2⟩
    · rw [g1, if_neg (by decide)]
      refine WP.bind (w_leadsToFree hw hs q _ _ _ _ _ _ _ _ _) fun o2 ho2 => ?_
      rcases ho2 with ⟨k1, k2⟩ | ⟨k1, k2⟩
      · have hl := (hM.mp k2).1
        rw [k1, if_neg (by decide)]
        refine WP.ob c1 ?_
        refine WP.ob hj ?_
        refine WP.ob (e_turnOf m) ?_
        refine WP.ob (e_turnBy (by omega)) ?_
        refine WP.ob hj ?_
        refine WP.ob (e_valueOf (by omega)) ?_
        refine WP.ret ?_
        refine WP.ob h8 ?_
        rw [if_neg (by decide)]
        refine WP.ob e8 ?_
        rcases d8 with ⟨d1, d2⟩ | ⟨d1, d2⟩
        · rw [d1, if_neg (by decide)]
          unfold f_X8_move_L26
          rw [if_pos (by decide)]
          refine WP.ob c2 ?_
          refine WP.ob (e_turnsTo8 h0 q) ?_
          rw [show (4 : Int32) = J 4 from rfl, show (2 : Int32) = J 2 from rfl, J_div (by omega), J_mul, J_add, JG (by omega), JA_get _ (by omega), up_same, up_same]
          have e10 : S 3 (m / 2) = G (4 + 4 * (m / 2)) := hs.vl (m / 2) (by omega) (by omega)
          rw [e10]
          exact WP.ret ⟨Or.inl ⟨rfl, rfl, rfl⟩, up G (4 + 4 * (m / 2)) (G (4 + 4 * (m / 2)) + TU m), VLS S (m / 2) (G (4 + 4 * (m / 2)) + TU m), VL_now hn0 (by omega) hl rfl rfl, hsv, c3, EQG_RSPC (EQG_up (by omega)) hsp, RRTE_0 _ _ _ _ _ _ _ _, hbk, hin, her, x8, y8⟩
        · exact absurd ⟨g2, k2⟩ d2
      · rw [k1, if_pos (by rfl)]
        refine WP.ret ?_
        refine WP.mono (no fun z => k2 z.2) fun q hq => ?_
        subst hq
        exact ⟨Or.inr (Or.inr ⟨rfl, rfl⟩), G, S, ⟨⟨n1, n2⟩, ⟨n3, n4, n5, rfl, n7, n8, n9⟩, rfl, hs, hw⟩, hsv, hh, hsp, hrt, hbk, hin, her, x8, y8⟩
    · rw [g1, if_pos (by rfl)]
      refine WP.ret ?_
      refine WP.mono (no fun z => g2 z.1) fun q hq => ?_
      subst hq
      exact ⟨Or.inr (Or.inr ⟨rfl, rfl⟩), G, S, ⟨⟨n1, n2⟩, ⟨n3, n4, n5, rfl, n7, n8, n9⟩, rfl, hs, hw⟩, hsv, hh, hsp, hrt, hbk, hin, her, x8, y8⟩
  · have h7 : (f_X7_move (ss 10) (ss 11) (aa 1) (aa 2) (aa 3) (aa 4) (aa 5) (aa 6) (aa 0) (ss 12) (ss 13) (ss 14) (ss 15) (ss 16) (ss 17) (aa 7) (aa 8) (aa 9) (aa 10) (ss 6) (aa 11) pl po pa (J m)) = some (1, J 0, (aa 4), (ss 12), (ss 13), (ss 14), (ss 15), (ss 16), (ss 17), (aa 7), (aa 8), (aa 9), (aa 10), (ss 6), (aa 11), pl, po, pa) := by
      unfold f_X7_move f_X7_move_L18
      by_cases z : m < 0
      · simp (disch := omega) only [↓reduceIte, j_lits, J_add, J_sub, J_mul, J_neg, J_le, J_lt, J_eqv, J_div, J_imax, J_imin, JA_get, JG, JA_upd, LET, Option.bind_some, lt_T, lt_F, le_T, le_F, eq_T, eq_F, and_true, true_and, Int.sub_neg, Int.natCast_add, n_lits]
      · rw [if_neg (by rw [show (0 : Int32) = J 0 from rfl, J_lt (by omega)]; omega)]
        refine ob _ (e_jointOf hmr) ?_
        simp only [n1]
        refine ob _ (e_hasLink0 (by omega)) ?_
        rw [if_pos (by rfl)]
        rfl
    have h8 : (f_X8_move (ms 1) (ms 2) (ms 4) (ms 5) (ma 0) (ma 1) (ma 3) (ma 4) (ma 5) (ma 6) (J m)) = some (J 0, (ms 1), (ms 2), J 1, (ms 5), (ma 0), (ma 1), (ma 3), (ma 4), (ma 5), (ma 6)) := by
      unfold f_X8_move f_X8_move_L26
      simp only [n10]
      exact ob _ (e_isMove0 h0 ⟨hmr, q⟩) rfl
    exact ⟨_, h7, _, h8, Or.inr (Or.inl ⟨rfl, rfl⟩), G, S, hn0, hsv, hh, hsp, hrt, hbk, hin, her, hx, hy⟩
/-! sets of moves and of links: the same word on both sides -/
noncomputable def MSK (P : Int → Prop) : Nat → Int32
  | 0 => J 0
  | k + 1 => @ite Int32 (P k) (Classical.propDecidable _) (MSK P k ||| (J 1 <<< (J k &&& J 31))) (MSK P k)
theorem MSK_y {P : Int → Prop} {k : Nat} (h : P k) : MSK P (k + 1) = MSK P k ||| (J 1 <<< (J k &&& J 31)) := if_pos h
theorem MSK_n {P : Int → Prop} {k : Nat} (h : ¬ P k) : MSK P (k + 1) = MSK P k := if_neg h
theorem MSK_0 {P : Int → Prop} (h : ∀ k, ¬ P k) : ∀ k : Nat, MSK P k = J 0
  | 0 => rfl
  | k + 1 => (MSK_n (h k)).trans (MSK_0 h k)
theorem or_zero32 (x : Int32) : x ||| J 0 = x := by
  apply Int32.toBitVec_inj.mp
  show x.toBitVec ||| 0#32 = x.toBitVec
  exact BitVec.or_zero
theorem call_moves (hR : REL ss aa pl po pa ms ma) : WP (f_X7_moves (ss 10) (aa 1) (aa 2) (aa 3) (aa 4) (aa 0) (ss 14) (ss 15) (ss 16) (ss 17) (aa 7) (aa 8) (aa 9) (aa 10) (aa 11) ) (fun r => WP (f_X8_moves (ms 4) (ms 5) (ma 0) (ma 3) (ma 4) (ma 5) (ma 6) ) (fun q => (r.1 = q.1) ∧ REL (va_up (va_up (va_up (va_up ss 14 r.2.1) 15 r.2.2.1) 16 r.2.2.2.1) 17 r.2.2.2.2.1) (va_up (va_up (va_up (va_up (va_up aa 7 r.2.2.2.2.2.1) 8 r.2.2.2.2.2.2.1) 9 r.2.2.2.2.2.2.2.1) 10 r.2.2.2.2.2.2.2.2.1) 11 r.2.2.2.2.2.2.2.2.2) pl po pa (va_up (va_up ms 4 q.2.1) 5 q.2.2.1) (va_up (va_up (va_up (va_up ma 3 q.2.2.2.1) 4 q.2.2.2.2.1) 5 q.2.2.2.2.2.1) 6 q.2.2.2.2.2.2))) := by
  obtain ⟨G, S, hn, hsv, hh, hsp, hrt, hbk, hin, her, hx, hy⟩ := hR
  have hn0 := hn
  obtain ⟨⟨n1, n2⟩, ⟨n3, n4, n5, n6, n7, n8, n9⟩, n10, hs, hw⟩ := hn
  have h0 := hw.1.1
  have h1 := nn_eq hw.1
  have ref : WP (f_X8_moves (ms 4) (ms 5) (ma 0) (ma 3) (ma 4) (ma 5) (ma 6) ) (fun q => q.1 = MSK (fun m => FR G (GV G) ∧ MM G m) (2 * nn G) ∧ Z0 q.2.2.2.2.2.1 ∧ Z0 q.2.2.2.2.2.2) := by
    unfold f_X8_moves
    simp only [n10]
    refine WP.bind (P0 := fun e => e.2.2.2.2.2 = MSK (fun m => FR G (GV G) ∧ MM G m) (2 * nn G) ∧ Z0 e.2.2.2.1 ∧ Z0 e.2.2.2.2.1) ?_ (fun e he => WP.ret he)
    refine lp_wp (fun k s => s.2.2.2.2.2.2 = J k ∧ s.2.2.2.2.2.1 = MSK (fun m => FR G (GV G) ∧ MM G m) k ∧ Z0 s.2.2.2.1 ∧ Z0 s.2.2.2.2.1) (2 * nn G) (by omega) ⟨rfl, rfl, hx, hy⟩ (fun k s hk hI => ?_)
    obtain ⟨i1, i2, i3, i4⟩ := hI
    unfold f_X8_moves_B9
    rw [i1, show (0 : Int32) = J 0 from rfl, JG (by omega), JA_get _ (by omega), show (2 : Int32) = J 2 from rfl, J_mul]
    by_cases q : k = 2 * nn G
    · rw [if_pos (by rw [J_le (by omega)]; omega)]
      exact WP.ret (Or.inr ⟨_, rfl, by rw [i2, q], i3, i4⟩)
    · rw [if_neg (by rw [J_le (by omega)]; omega)]
      refine WP.bind (w_mayMove hw (m := k) (by omega) _ _ _ _ _ i3 i4) fun o ho => ?_
      obtain ⟨d, x8, y8⟩ := ho
      rcases d with ⟨d1, d2⟩ | ⟨d1, d2⟩
      · rw [d1, if_neg (by decide)]
        refine WP.ret (Or.inl ⟨_, rfl, by omega, ?_, ?_, x8, y8⟩)
        · show J k + 1 = _
          rw [show (1 : Int32) = J 1 from rfl, J_add]; rfl
        · rw [MSK_y d2, ← i2]; rfl
      · rw [d1, if_pos (by rfl)]
        refine WP.ret (Or.inl ⟨_, rfl, by omega, ?_, ?_, x8, y8⟩)
        · show J k + 1 = _
          rw [show (1 : Int32) = J 1 from rfl, J_add]; rfl
        · show s.2.2.2.2.2.1 ||| J 0 = _
          rw [MSK_n d2, ← i2, or_zero32]
  unfold f_X7_moves
  simp only [n1, n2, n3, n4, n5, n6, n7, n8, n9, n10]
  refine WP.bind (w_isFreeNow hw hs _ _ _ _ _ _ _ _) fun o ho => ?_
  rcases ho with ⟨g1, g2⟩ | ⟨g1, g2⟩
  · rw [g1, if_neg (by decide)]
    refine WP.bind (P0 := fun e => e.2.2.2.2.2.2.2.2.2 = MSK (fun m => FR G (GV G) ∧ MM G m) (2 * nn G)) ?_ (fun e he => ?_)
    · refine lp_wp (fun k s => s.2.2.2.2.2.2.2.2.2.2 = J k ∧ s.2.2.2.2.2.2.2.2.2.1 = MSK (fun m => FR G (GV G) ∧ MM G m) k) (2 * nn G) (by omega) ⟨rfl, rfl⟩ (fun k s hk hI => ?_)
      obtain ⟨i1, i2⟩ := hI
      unfold f_X7_moves_B13
      rw [i1, show (2 : Int32) = J 2 from rfl, J_mul]
      by_cases q : k = 2 * nn G
      · rw [if_pos (by rw [J_le (by omega)]; omega)]
        exact WP.ret (Or.inr ⟨_, rfl, by rw [← q, ← i2]⟩)
      · rw [if_neg (by rw [J_le (by omega)]; omega), if_neg (by rw [show (8 : Int32) = J 8 from rfl, J_le (by omega)]; omega)]
        refine WP.bind (w_leadsToFree hw hs (m := k) (by omega) _ _ _ _ _ _ _ _ _) fun o2 ho2 => ?_
        rcases ho2 with ⟨k1, k2⟩ | ⟨k1, k2⟩
        · rw [k1, if_neg (by decide)]
          refine WP.ret (Or.inl ⟨_, rfl, by omega, ?_, ?_⟩)
          · show J k + 1 = _
            rw [show (1 : Int32) = J 1 from rfl, J_add]; rfl
          · rw [MSK_y (P := fun m => FR G (GV G) ∧ MM G m) ⟨g2, k2⟩, ← i2]; rfl
        · rw [k1, if_pos (by rfl)]
          refine WP.ret (Or.inl ⟨_, rfl, by omega, ?_, ?_⟩)
          · show J k + 1 = _
            rw [show (1 : Int32) = J 1 from rfl, J_add]; rfl
          · rw [MSK_n (P := fun m => FR G (GV G) ∧ MM G m) (fun z => k2 z.2), ← i2]
    · refine WP.ret ?_
      simp only [n10] at ref
      refine WP.mono ref fun q hq => ?_
      exact ⟨he.trans hq.1.symm, G, S, hn0, hsv, hh, hsp, hrt, hbk, hin, her, hq.2.1, hq.2.2⟩
  · rw [g1, if_pos (by rfl)]
    refine WP.ret ?_
    simp only [n10] at ref
    refine WP.mono ref fun q hq => ?_
    refine ⟨?_, G, S, hn0, hsv, hh, hsp, hrt, hbk, hin, her, hq.2.1, hq.2.2⟩
    rw [hq.1, MSK_0 (fun k z => g2 z.1)]
    rfl
end
