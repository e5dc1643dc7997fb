/-! read -/
section
variable {ss : Nat → Int32} {aa : Nat → Nat → Int32} {pl po : Nat → Int32} {pa : Nat → Nat → Nat → Int32} {ms : Nat → Int32} {ma : Nat → Nat → Int32} {G G' G1 C T U N F D : Int → Int} {S S' S0 : Nat → Int → Int} {n a to k t : Nat} {c s f x y d w i : Int}
theorem CP_0 : CP ((0 : Nat) : Int) F D = D := funext fun j => if_neg (by omega)
theorem CP_s (k : Nat) : up (CP k F D) k (F k) = CP ((k + 1 : Nat) : Int) F D := by
  funext j
  unfold CP
  by_cases q : j = k
  · rw [q, up_same, if_pos (by omega)]
  · rw [up_ne _ _ q]
    by_cases q2 : 0 ≤ j ∧ j < k
    · rw [if_pos q2, if_pos (by omega)]
    · rw [if_neg q2, if_neg (by omega)]
theorem CP_at (k : Nat) : CP k F D k = D k := if_neg (by omega)
theorem e_spare (a b : Int32) (told : Nat → Int32) : LPF (fun z => f_X8_addsAll_B2 a (JA G) told z.1 z.2) lfuel (JA F, 0) = some (JA (CP 141 G F)) := by
  obtain ⟨N, hN⟩ : ∃ N : Nat, N = 141 := ⟨_, rfl⟩
  have hN' : (N : Int) = 141 := by omega
  refine lp_for (fun k : Nat => (JA (CP k G F), J k)) N (by rw [CP_0]; rfl) (by omega) (fun k hk => ?_) ?_
  · rw [← CP_s]
    unfold f_X8_addsAll_B2
    simp (disch := omega) only [↓reduceIte, j_lits, J_add, J_sub, J_mul, J_neg, J_le, J_lt, J_eqv, J_div, J_imax, J_imin, JA_get, JG, JA_upd, LET, Option.bind_some, lt_T, lt_F, le_T, le_F, eq_T, eq_F, and_true, true_and, Int.sub_neg, Int.natCast_add, n_lits]
  · rw [hN']
    unfold f_X8_addsAll_B2
    simp (disch := omega) only [↓reduceIte, j_lits, J_add, J_sub, J_mul, J_neg, J_le, J_lt, J_eqv, J_div, J_imax, J_imin, JA_get, JG, JA_upd, LET, Option.bind_some, lt_T, lt_F, le_T, le_F, eq_T, eq_F, and_true, true_and, Int.sub_neg, Int.natCast_add, n_lits]
theorem e_swap (a b : Int32) (told : Nat → Int32) : LPF (fun z => f_X8_addsAll_B189 a z.1 told z.2.1 b z.2.2) lfuel (JA G, JA F, 0) = some (JA (CP 141 F G), JA (CP 141 G F)) := by
  obtain ⟨N, hN⟩ : ∃ N : Nat, N = 141 := ⟨_, rfl⟩
  have hN' : (N : Int) = 141 := by omega
  refine lp_for (fun k : Nat => (JA (CP k F G), JA (CP k G F), J k)) N (by rw [CP_0, CP_0]; rfl) (by omega) (fun k hk => ?_) ?_
  · rw [← CP_s (F := F), ← CP_s (F := G)]
    unfold f_X8_addsAll_B189
    simp (disch := omega) only [↓reduceIte, j_lits, J_add, J_sub, J_mul, J_neg, J_le, J_lt, J_eqv, J_div, J_imax, J_imin, JA_get, JG, JA_upd, LET, Option.bind_some, lt_T, lt_F, le_T, le_F, eq_T, eq_F, and_true, true_and, Int.sub_neg, Int.natCast_add, n_lits, CP_at]
  · rw [hN']
    unfold f_X8_addsAll_B189
    simp (disch := omega) only [↓reduceIte, j_lits, J_add, J_sub, J_mul, J_neg, J_le, J_lt, J_eqv, J_div, J_imax, J_imin, JA_get, JG, JA_upd, LET, Option.bind_some, lt_T, lt_F, le_T, le_F, eq_T, eq_F, and_true, true_and, Int.sub_neg, Int.natCast_add, n_lits]
theorem e_take (a b c d e f g h : Int32) (p q r : Nat → Int32) : LPF (fun z => f_X8_read_B52 a b c d e f g h z.1 p q r (JA F) z.2) lfuel (JA G, 0) = some (JA (CP 141 F G)) := by
  obtain ⟨N, hN⟩ : ∃ N : Nat, N = 141 := ⟨_, rfl⟩
  have hN' : (N : Int) = 141 := by omega
  refine lp_for (fun k : Nat => (JA (CP k F G), J k)) N (by rw [CP_0]; rfl) (by omega) (fun k hk => ?_) ?_
  · rw [← CP_s]
    unfold f_X8_read_B52
    simp (disch := omega) only [↓reduceIte, j_lits, J_add, J_sub, J_mul, J_neg, J_le, J_lt, J_eqv, J_div, J_imax, J_imin, JA_get, JG, JA_upd, LET, Option.bind_some, lt_T, lt_F, le_T, le_F, eq_T, eq_F, and_true, true_and, Int.sub_neg, Int.natCast_add, n_lits]
  · rw [hN']
    unfold f_X8_read_B52
    simp (disch := omega) only [↓reduceIte, j_lits, J_add, J_sub, J_mul, J_neg, J_le, J_lt, J_eqv, J_div, J_imax, J_imin, JA_get, JG, JA_upd, LET, Option.bind_some, lt_T, lt_F, le_T, le_F, eq_T, eq_F, and_true, true_and, Int.sub_neg, Int.natCast_add, n_lits]
theorem CP_back (h : OUG G1 G) : CP 141 (CP 141 G F) G1 = G := by
  funext j
  unfold CP
  by_cases q : 0 ≤ j ∧ j < 141
  · rw [if_pos q, if_pos q]
  · rw [if_neg q]
    exact h j (by omega)
theorem CP_fwd (h : OUG G1 G) (F : Int → Int) : CP 141 (CP 141 G1 F) G = G1 := by
  funext j
  unfold CP
  by_cases q : 0 ≤ j ∧ j < 141
  · rw [if_pos q, if_pos q]
  · rw [if_neg q]
    exact (h j (by omega)).symm
theorem ab_end {spare : Nat → Int32} {v : Int} (hv : 0 ≤ v ∧ v ≤ 1) {j : Nat} (hj : (v = 0 ∧ j ≤ t) ∨ j = t) (ht : t ≤ 12) : AB t U spare (JA G, J v, J j) = some (.inr (JA G, J v)) := by
  unfold AB f_X8_addsAll_B31
  dsimp only
  by_cases z : j = t
  · rw [if_pos (by rw [J_le (by omega)]; omega)]
  · rw [if_neg (by rw [J_le (by omega)]; omega), if_pos (by rw [(hj.resolve_right z).1]; rfl)]
theorem e_addsAll {v : Int} (hv : v = 0 ∨ v = 1) {j m : Nat} (hg : GO (AB t U (JA (CP 141 G F))) (JA G, J 1, J 0) (JA G1, J v, J j) m) (hm : m < 1000) (hj : (v = 0 ∧ j ≤ t) ∨ j = t) (ht : t ≤ 12) (ho : OUG G1 G) : f_X8_addsAll (J t) (JA G) (JA U) (JA F) = some (J v, JA G, JA (CP 141 G1 (CP 141 G F))) := by
  unfold f_X8_addsAll
  refine ob _ (e_spare _ 0 _) ?_
  refine ob _ (hg.fin (ab_end (v := v) (by omega) hj ht) (by omega)) ?_
  refine ob _ (e_swap _ _ _) ?_
  have hb : ∀ k : Option (Int32 × (Nat → Int32) × (Nat → Int32)), GB (J v) k = k := fun k => by
    rcases hv with rfl | rfl
    · exact JB0
    · exact JB1
  show GB (J v) (some (J v, JA (CP 141 (CP 141 G F) G1), JA (CP 141 G1 (CP 141 G F)))) = _
  rw [hb, CP_back ho]
/-- the class's entries: all, or -1 -/
theorem e_enter_ok (h : CT n C T) (hg : GO (EB n C) (ES N G S 0 0 0) (ES F G1 S' (k : Int) (n : Int) (n : Int)) n) : f_X2_enter (J n) (JA C) (JA N) (J (G 0)) (J (G 20)) (JA (S 0)) (JA (S 1)) (JA (S 2)) (JA (S 3)) (JA (S 4)) (JA (S 5)) (JA (S 6)) = some (J k, JA F, J (G1 0), J (G1 20), JA (S' 0), JA (S' 1), JA (S' 2), JA (S' 3), JA (S' 4), JA (S' 5), JA (S' 6)) := by
  have h60 := h.1
  unfold f_X2_enter
  refine ob _ (hg.fin (e := .inr (JA F, J (G1 0), J (G1 20), JA (S' 0), JA (S' 1), JA (S' 2), JA (S' 3), JA (S' 4), JA (S' 5), JA (S' 6), J k)) ?_ (by omega)) rfl
  unfold EB ES f_X2_enter_B7
  dsimp only
  rw [if_pos (by rw [J_le (by omega)]; omega)]
theorem e_enter_no {j : Nat} {s' : (Nat → Int32) × Int32 × Int32 × (Nat → Int32) × (Nat → Int32) × (Nat → Int32) × (Nat → Int32) × (Nat → Int32) × (Nat → Int32) × (Nat → Int32) × Int32 × Int32 × Int32} {r} (hg : GO (EB n C) (ES N G S 0 0 0) s' j) (he : EB n C s' = some (.inr (.inl r))) (hj : j < 1000) : WP (f_X2_enter (J n) (JA C) (JA N) (J (G 0)) (J (G 20)) (JA (S 0)) (JA (S 1)) (JA (S 2)) (JA (S 3)) (JA (S 4)) (JA (S 5)) (JA (S 6))) (fun o => o.1 = J (-1)) := by
  unfold f_X2_enter
  refine WP.ob (hg.fin he (by omega)) ?_
  exact WP.ret rfl
theorem call_read (hR : REL ss aa pl po pa ms ma) : WP (f_X7_read (ss 1) (ss 10) (ss 11) (aa 1) (aa 2) (aa 3) (aa 4) (aa 5) (aa 6) (aa 0) (ss 24) (ss 25) (aa 29) (aa 30) (aa 31) (aa 32) (aa 33) (aa 34) (aa 35) (ss 12) (ss 13) (ss 2) (ss 6) (ss 23) (aa 28) (aa 36) pl po pa ) (fun r => WP (f_X8_read (ms 1) (ms 2) (ms 4) (ms 7) (ms 8) (ms 9) (ms 10) (ms 11) (ma 0) (ma 1) (ma 16) (ma 17) (ma 18) ) (fun q => ((r.1 = 0 ∧ q.2.2.2.1 = J 0 ∧ r.2.1 = q.1) ∨ (r.1 = 1 ∧ q.2.2.2.1 = J 1) ∨ (r.1 = 2 ∧ q.2.2.2.1 = J 2)) ∧ REL (va_up (va_up (va_up (va_up (va_up (va_up (va_up (va_up (va_up (va_up ss 1 r.2.2.1) 10 r.2.2.2.1) 11 r.2.2.2.2.1) 24 r.2.2.2.2.2.2.2.2.2.2.2.2.1) 25 r.2.2.2.2.2.2.2.2.2.2.2.2.2.1) 12 r.2.2.2.2.2.2.2.2.2.2.2.2.2.2.2.2.2.2.2.2.2.1) 13 r.2.2.2.2.2.2.2.2.2.2.2.2.2.2.2.2.2.2.2.2.2.2.1) 2 r.2.2.2.2.2.2.2.2.2.2.2.2.2.2.2.2.2.2.2.2.2.2.2.1) 6 r.2.2.2.2.2.2.2.2.2.2.2.2.2.2.2.2.2.2.2.2.2.2.2.2.1) 23 r.2.2.2.2.2.2.2.2.2.2.2.2.2.2.2.2.2.2.2.2.2.2.2.2.2.1) (va_up (va_up (va_up (va_up (va_up (va_up (va_up (va_up (va_up (va_up (va_up (va_up (va_up (va_up (va_up aa 1 r.2.2.2.2.2.1) 2 r.2.2.2.2.2.2.1) 3 r.2.2.2.2.2.2.2.1) 4 r.2.2.2.2.2.2.2.2.1) 5 r.2.2.2.2.2.2.2.2.2.1) 6 r.2.2.2.2.2.2.2.2.2.2.1) 0 r.2.2.2.2.2.2.2.2.2.2.2.1) 29 r.2.2.2.2.2.2.2.2.2.2.2.2.2.2.1) 30 r.2.2.2.2.2.2.2.2.2.2.2.2.2.2.2.1) 31 r.2.2.2.2.2.2.2.2.2.2.2.2.2.2.2.2.1) 32 r.2.2.2.2.2.2.2.2.2.2.2.2.2.2.2.2.2.1) 33 r.2.2.2.2.2.2.2.2.2.2.2.2.2.2.2.2.2.2.1) 34 r.2.2.2.2.2.2.2.2.2.2.2.2.2.2.2.2.2.2.2.1) 35 r.2.2.2.2.2.2.2.2.2.2.2.2.2.2.2.2.2.2.2.2.1) 36 r.2.2.2.2.2.2.2.2.2.2.2.2.2.2.2.2.2.2.2.2.2.2.2.2.2.2.1) r.2.2.2.2.2.2.2.2.2.2.2.2.2.2.2.2.2.2.2.2.2.2.2.2.2.2.2.1 r.2.2.2.2.2.2.2.2.2.2.2.2.2.2.2.2.2.2.2.2.2.2.2.2.2.2.2.2.1 r.2.2.2.2.2.2.2.2.2.2.2.2.2.2.2.2.2.2.2.2.2.2.2.2.2.2.2.2.2 (va_up (va_up (va_up (va_up (va_up (va_up (va_up (va_up ms 1 q.2.1) 2 q.2.2.1) 4 q.2.2.2.1) 7 q.2.2.2.2.1) 8 q.2.2.2.2.2.1) 9 q.2.2.2.2.2.2.1) 10 q.2.2.2.2.2.2.2.1) 11 q.2.2.2.2.2.2.2.2.1) (va_up (va_up (va_up (va_up ma 0 q.2.2.2.2.2.2.2.2.2.1) 1 q.2.2.2.2.2.2.2.2.2.2.1) 17 q.2.2.2.2.2.2.2.2.2.2.2.1) 18 q.2.2.2.2.2.2.2.2.2.2.2.2))) := by
  obtain ⟨G, S, hn, hsv, hh, hsp, hrt, hbk, hin, her, hx, hy⟩ := hR
  obtain ⟨a, b, pl', po', pa', past', c1, c2, c3⟩ := both_change hn hh (ss 2) (ss 6) (ms 2)
  have hn0 := hn
  obtain ⟨⟨n1, n2⟩, ⟨n3, n4, n5, n6, n7, n8, n9⟩, n10, hs, hw⟩ := hn
  simp only [n1, n2, n3, n4, n5, n6, n7, n8, n9, n10] at c1 c2
  obtain ⟨n0, C, T, i1, i2, i3, i4, i5, i6⟩ := hin
  obtain ⟨n, hn9⟩ : ∃ n : Nat, n0 = n := ⟨n0.toNat, by omega⟩
  subst hn9
  have hCT : CT n C T := ⟨by omega, i6⟩
  have hTX : TX n T := ⟨by omega, fun i a b => (i6 i a b).2⟩
  have hin' : RINP (J 0) (aa 28) (J 0) (ma 16) := ⟨0, C, T, rfl, rfl, i3, i4, by omega, fun i a b => by omega⟩
  obtain ⟨D, d1, d2, d3, d4, d5, d6, d7⟩ := rows7 (aa 29) (aa 30) (aa 31) (aa 32) (aa 33) (aa 34) (aa 35)
  obtain ⟨N, hN, -⟩ := JA_ex (aa 36)
  obtain ⟨F, hF, -⟩ := JA_ex (ma 18)
  have hp := w_isText hTX (ms 8) (ms 10) (ms 11) (ma 17)
  unfold f_X7_read f_X8_read
  rw [i1, i2, i3, i4]
  simp only [n1, n2, n3, n4, n5, n6, n7, n8, n9, n10, d1, d2, d3, d4, d5, d6, d7, hN, hF]
  obtain ⟨o1, ho1, hp⟩ := hp
  rcases hp with ⟨p1, e, p2, p3⟩ | ⟨p1, p2, p3, t, U, p4, p5, p6, p7, p8⟩
  · have he := p3.1
    refine WP.ob (e_err1 hCT.1 hCT.2 p3) ?_
    refine WP.ob (e_copyFrom _ _ _ _) ?_
    rw [if_pos (by rw [show (0 : Int32) = J 0 from rfl, J_le (by omega)]; omega)]
    unfold f_X7_read_L38
    rw [if_neg (by rw [show (0 : Int32) = J 0 from rfl, J_lt (by omega)]; omega)]
    refine WP.ret (WP.ob ho1 ?_)
    rw [if_pos (show o1.1 = 0 from p1), p2]
    refine WP.ob (show f_X8_fails 0 1 = some (J 0, J 1) from rfl) (WP.ret ?_)
    exact ⟨Or.inr (Or.inl ⟨rfl, rfl⟩), G, S, ⟨⟨rfl, rfl⟩, ⟨rfl, rfl, rfl, rfl, rfl, rfl, rfl⟩, rfl, hs, hw⟩, hsv, hh, hsp, hrt, hbk, hin', ⟨e, rfl, rfl, by omega, by omega⟩, hx, hy⟩
  · refine WP.ob (e_err0 hCT.1 hCT.2 p2 p3) ?_
    refine WP.ob (e_copyFrom _ _ _ _) ?_
    rw [if_neg (by decide)]
    have hS := SC_CPS (D := D) hw hs
    rcases entries_both (U := U) (t := t) hCT hw hS (spare := JA (CP 141 G F)) p7 N t n (Nat.le_refl _) (Nat.le_refl _) p8 with ⟨G', S', N', w', s', o', g1, g2⟩ | ⟨⟨s', r, j, g1, g2, g3⟩, G', j', g4, g5, g6⟩
    · refine WP.ob (e_enter_ok hCT g1) ?_
      unfold f_X7_read_L38
      rw [if_pos (by decide), if_pos (by rw [show (0 : Int32) = J 0 from rfl, J_le (by omega)]; omega)]
      refine WP.ob c1 ?_
      refine WP.ob (e_copyFrom _ _ _ _) ?_
      refine WP.ret (WP.ob ho1 ?_)
      rw [if_neg (show ¬ o1.1 = 0 from by rw [p1]; decide), p4, p5]
      refine WP.ob (e_addsAll (v := 1) (j := t) (Or.inr rfl) g2 (by omega) (Or.inr rfl) p7 o') ?_
      rw [if_neg j1n]
      refine WP.ob c2 ?_
      refine WP.ob (e_take _ _ _ _ _ _ _ _ _ _ _) ?_
      rw [CP_fwd o']
      refine WP.ret ?_
      exact ⟨Or.inl ⟨rfl, rfl, rfl⟩, G', CPS S' S, ⟨⟨rfl, rfl⟩, ⟨rfl, rfl, rfl, rfl, rfl, rfl, rfl⟩, rfl, SC_CPS w' s', w'⟩, hsv, c3, RSPC_0 _ _ _ _ _ _, RRTE_0 _ _ _ _ _ _ _ _, hbk, hin', her, hx, hy⟩
    · refine WP.bind (e_enter_no g2 g3 (by omega)) fun o ho => ?_
      unfold f_X7_read_L38
      rw [ho, if_pos (by decide), if_neg (by decide)]
      refine WP.ret (WP.ob ho1 ?_)
      rw [if_neg (show ¬ o1.1 = 0 from by rw [p1]; decide), p4, p5]
      refine WP.ob (e_addsAll (v := 0) (j := j') (Or.inl rfl) g6 (by omega) (Or.inl ⟨rfl, g4⟩) p7 g5) ?_
      rw [if_pos (by rfl)]
      refine WP.ob (show f_X8_fails 0 2 = some (J 0, J 2) from rfl) (WP.ret ?_)
      exact ⟨Or.inr (Or.inr ⟨rfl, rfl⟩), G, S, ⟨⟨rfl, rfl⟩, ⟨rfl, rfl, rfl, rfl, rfl, rfl, rfl⟩, rfl, hs, hw⟩, hsv, hh, hsp, hrt, hbk, hin', her, hx, hy⟩
end
