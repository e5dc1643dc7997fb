/-! what ties the class's cells to the reference's -/
def RNOW (G : Int → Int) (S : Nat → Int → Int) (nl no : Int32) (ln lo hi vl ox oy bl g : Nat → Int32) : Prop := (nl = J (G 0) ∧ no = J (G 20)) ∧ (ln = JA (S 0) ∧ lo = JA (S 1) ∧ hi = JA (S 2) ∧ vl = JA (S 3) ∧ ox = JA (S 4) ∧ oy = JA (S 5) ∧ bl = JA (S 6)) ∧ g = JA G ∧ SC G S ∧ WF G
def RSAV (hs nl no : Int32) (ln lo hi vl ox oy bl : Nat → Int32) (hk : Int32) (kept : Nat → Int32) : Prop := (hs = J 0 ∧ hk = J 0) ∨ (hs = J 1 ∧ hk = J 1 ∧ ∃ K S, RNOW K S nl no ln lo hi vl ox oy bl kept)
def RHIS (ch old : Int32) (pl po : Nat → Int32) (pa : Nat → Nat → Nat → Int32) (pasts : Int32) (past : Nat → Int32) : Prop := ∃ (c o : Int) (P : Int → Int), ch = J c ∧ old = J o ∧ pasts = J c ∧ past = JA P ∧ HR c o pl po pa P
def RSPC (G : Int → Int) (known poses links : Int32) (span stride tip : Nat → Int32) : Prop := known = J 0 ∨ (known = J 1 ∧ NP G ≤ 5000 ∧ poses = J (NP G) ∧ links = J (G 0) ∧ ∃ sp st T, span = JA sp ∧ stride = JA st ∧ tip = JA T ∧ SPN G sp st ∧ ∀ q : Int, 0 ≤ q → q < NP G → T q = TP G q)
def PTH (G : Int → Int) (X : Nat → Int) (ST : Int → Int) (n : Nat) : Prop := (∀ i : Nat, i ≤ n → (0 ≤ X i ∧ X i < NP G) ∧ 0 ≤ TP G (X i)) ∧ ∀ i : Nat, i < n → (0 ≤ ST i ∧ ST i < 2 * G 0) ∧ BH G (X i) (ST i) = X (i + 1)
def RRTE (G : Int → Int) (known planned start size pos : Int32) (steps : Nat → Int32) (pm spot : Int32) (path : Nat → Int32) : Prop := (planned = J 0 ∧ pm = J (-1)) ∨ (planned = J 1 ∧ known = J 1 ∧ NP G ≤ 5000 ∧ ∃ (n p : Nat) (X : Nat → Int) (A B : Int → Int), start = J (X 0) ∧ size = J n ∧ pos = J p ∧ steps = JA A ∧ pm = J n ∧ spot = J p ∧ path = JA B ∧ n < 5000 ∧ p ≤ n ∧ (∀ i : Int, 0 ≤ i → i < n → B i = A i) ∧ PTH G X A n ∧ X p = HN G (GV G) (nn G))
def CU (U : Int → Int) : Nat → Int
  | 0 => 0
  | k + 1 => CU U k + U k
def RBKM (names : Int32) (used joints values nm nd : Nat → Int32) : Prop := ∃ U JO VA NM ND : Int → Int, names = J (CU U 26) ∧ used = JA U ∧ joints = JA JO ∧ values = JA VA ∧ nm = JA NM ∧ nd = JA ND ∧ CU U 26 ≤ 6 ∧ ∀ c : Int, 0 ≤ c → c < 26 → (U c = 1 ∧ NM c = JO c ∧ (0 ≤ NM c ∧ NM c ≤ 4) ∧ ∀ k : Int, 0 ≤ k → k < NM c → VA (4 * c + k) = ND (4 * c + k) ∧ -8 ≤ ND (4 * c + k) ∧ ND (4 * c + k) ≤ 8) ∨ (U c = 0 ∧ NM c = -1)
def RINP (size : Int32) (signs : Nat → Int32) (length : Int32) (text : Nat → Int32) : Prop := ∃ (n : Int) (C T : Int → Int), size = J n ∧ length = J n ∧ signs = JA C ∧ text = JA T ∧ (0 ≤ n ∧ n ≤ 60) ∧ ∀ i : Int, 0 ≤ i → i < n → C i = T i ∧ 32 ≤ T i ∧ T i ≤ 126
def RERR (kept error : Int32) : Prop := ∃ e : Int, kept = J e ∧ error = J e ∧ -1 ≤ e ∧ e ≤ 60
def REL (ss : Nat → Int32) (aa : Nat → Nat → Int32) (pl po : Nat → Int32) (pa : Nat → Nat → Nat → Int32) (ms : Nat → Int32) (ma : Nat → Nat → Int32) : Prop := ∃ G S, RNOW G S (ss 10) (ss 11) (aa 1) (aa 2) (aa 3) (aa 4) (aa 5) (aa 6) (aa 0) (ma 0)
  ∧ RSAV (ss 0) (ss 26) (ss 27) (aa 37) (aa 38) (aa 39) (aa 40) (aa 41) (aa 42) (aa 43) (ms 0) (ma 2)
  ∧ RHIS (ss 12) (ss 13) pl po pa (ms 1) (ma 1)
  ∧ RSPC G (ss 2) (ss 3) (ss 4) (aa 12) (aa 13) (aa 14)
  ∧ RRTE G (ss 2) (ss 6) (ss 7) (ss 8) (ss 9) (aa 23) (ms 2) (ms 3) (ma 12)
  ∧ RBKM (ss 22) (aa 25) (aa 26) (aa 27) (ma 14) (ma 15)
  ∧ RINP (ss 23) (aa 28) (ms 7) (ma 16) ∧ RERR (ss 1) (ms 9) ∧ Z0 (ma 5) ∧ Z0 (ma 6)
section
variable {ss : Nat → Int32} {aa : Nat → Nat → Int32} {pl po : Nat → Int32} {pa : Nat → Nat → Nat → Int32} {ms : Nat → Int32} {ma : Nat → Nat → Int32} {G : Int → Int} {S D : Nat → Int → Int}
theorem RSPC_0 (G : Int → Int) (a b : Int32) (c d e : Nat → Int32) : RSPC G (J 0) a b c d e := Or.inl rfl
theorem RRTE_0 (G : Int → Int) (k a b c : Int32) (d : Nat → Int32) (e : Int32) (f : Nat → Int32) : RRTE G k (J 0) a b c d (J (-1)) e f := Or.inl ⟨rfl, rfl⟩
theorem both_change {nl no ch old pasts : Int32} {ln lo hi vl ox oy bl g past : Nat → Int32} (hn : RNOW G S nl no ln lo hi vl ox oy bl g) (hh : RHIS ch old pl po pa pasts past) (kn pln pm : Int32) :
    ∃ a b pl' po' pa' past', f_X7_beginChange nl no ln lo hi vl ox oy bl ch old kn pln pl po pa = some (a, b, J 0, J 0, pl', po', pa') ∧ f_X8_changes pasts pm g past = some (a, J (-1), past') ∧ RHIS a b pl' po' pa' a past' := by
  obtain ⟨⟨rfl, rfl⟩, ⟨rfl, rfl, rfl, rfl, rfl, rfl, rfl⟩, rfl, hs, hw⟩ := hn
  obtain ⟨c, o, P, rfl, rfl, rfl, rfl, h⟩ := hh
  obtain ⟨pl', po', pa', o', h1, h2⟩ := e_remember hw hs h
  obtain ⟨P', h3, h4⟩ := e_changes8 (G := G) (P := P) (c := c) ⟨h.1.1, h.1.2.1⟩ pm
  refine ⟨_, _, pl', po', pa', JA P', ?_, h3, _, o', P', rfl, rfl, rfl, rfl, h2 P' h4⟩
  unfold f_X7_beginChange
  exact ob _ h1 (ob _ (show f_X7_dropPlans kn pln = some (0, 0) from rfl) rfl)
def LKC (G : Int → Int) (l d u : Int) : Int → Int := up (up (up (up (up G (1 + 4 * G 0) l) (1 + 4 * G 0 + 1) d) (1 + 4 * G 0 + 2) u) (1 + 4 * G 0 + 3) 0) 0 (G 0 + 1)
def LKS (G : Int → Int) (S : Nat → Int → Int) (l d u : Int) : Nat → Int → Int := fun q => match q with
  | 0 => up (S 0) (G 0) l
  | 1 => up (S 1) (G 0) (-d)
  | 2 => up (S 2) (G 0) u
  | 3 => up (S 3) (G 0) 0
  | q => S q
theorem LKC_ix (h : 0 ≤ G 0 ∧ G 0 < 4) (l d u : Int) : LKC G l d u 0 = G 0 + 1 ∧ (∀ k : Int, 0 ≤ k → k < G 0 → LKC G l d u (1 + 4 * k) = G (1 + 4 * k) ∧ LKC G l d u (2 + 4 * k) = G (2 + 4 * k) ∧ LKC G l d u (3 + 4 * k) = G (3 + 4 * k) ∧ LKC G l d u (4 + 4 * k) = G (4 + 4 * k)) ∧ (LKC G l d u (1 + 4 * G 0) = l ∧ LKC G l d u (2 + 4 * G 0) = d ∧ LKC G l d u (3 + 4 * G 0) = u ∧ LKC G l d u (4 + 4 * G 0) = 0) ∧ ∀ i : Int, 20 ≤ i → LKC G l d u i = G i := by
  unfold LKC up
  refine ⟨if_pos rfl, fun k k0 k1 => ⟨?_, ?_, ?_, ?_⟩, ⟨?_, ?_, ?_, ?_⟩, fun i hi => ?_⟩
  · rw [if_neg (by omega), if_neg (by omega), if_neg (by omega), if_neg (by omega), if_neg (by omega)]
  · rw [if_neg (by omega), if_neg (by omega), if_neg (by omega), if_neg (by omega), if_neg (by omega)]
  · rw [if_neg (by omega), if_neg (by omega), if_neg (by omega), if_neg (by omega), if_neg (by omega)]
  · rw [if_neg (by omega), if_neg (by omega), if_neg (by omega), if_neg (by omega), if_neg (by omega)]
  · rw [if_neg (by omega), if_neg (by omega), if_neg (by omega), if_neg (by omega), if_pos (by omega)]
  · rw [if_neg (by omega), if_neg (by omega), if_neg (by omega), if_pos (by omega)]
  · rw [if_neg (by omega), if_neg (by omega), if_pos (by omega)]
  · rw [if_neg (by omega), if_pos (by omega)]
  · rw [if_neg (by omega), if_neg (by omega), if_neg (by omega), if_neg (by omega), if_neg (by omega)]
theorem LKC_ok (hw : WF G) (hs : SC G S) (h4 : G 0 < 4) {l d u : Int} (hl : 1 ≤ l ∧ l ≤ 5) (hd : 0 ≤ d ∧ d ≤ 8) (hu : 0 ≤ u ∧ u ≤ 8) : SC (LKC G l d u) (LKS G S l d u) ∧ WF (LKC G l d u) := by
  have h0 := hw.1.1
  obtain ⟨a, b, c, e⟩ := LKC_ix (G := G) ⟨h0.1, h4⟩ l d u
  have e20 := e 20 (by omega)
  have est : ∀ i : Int, 0 ≤ i → i < G 20 → LKC G l d u (21 + 2 * i) = G (21 + 2 * i) ∧ LKC G l d u (21 + 2 * i + 1) = G (21 + 2 * i + 1) := fun i i0 i1 => ⟨e _ (by omega), e _ (by omega)⟩
  refine ⟨⟨fun k k0 k1 => ?_, RS_congr e20 est hs.2⟩, ⟨⟨by rw [a]; omega, fun k k0 k1 => ?_⟩, fun k k0 k1 => ?_, WS_congr e20 est hw.2.2⟩⟩
  · rw [a] at k1
    show up (S 0) (G 0) l k = _ ∧ up (S 1) (G 0) (-d) k = _ ∧ up (S 2) (G 0) u k = _ ∧ up (S 3) (G 0) 0 k = _
    by_cases q : k = G 0
    · rw [q, up_same, up_same, up_same, up_same, c.1, c.2.1, c.2.2.1, c.2.2.2]
      exact ⟨rfl, rfl, rfl, rfl⟩
    · have hb := b k k0 (by omega)
      rw [up_ne _ _ q, up_ne _ _ q, up_ne _ _ q, up_ne _ _ q, hb.1, hb.2.1, hb.2.2.1, hb.2.2.2]
      exact hs.1 k k0 (by omega)
  · rw [a] at k1
    by_cases q : k = G 0
    · rw [q, c.1, c.2.1, c.2.2.1]
      exact ⟨hl, hd, hu⟩
    · have hb := b k k0 (by omega)
      rw [hb.1, hb.2.1, hb.2.2.1]
      exact hw.1.2 k k0 (by omega)
  · rw [a] at k1
    show -LKC G l d u (2 + 4 * k) ≤ LKC G l d u (4 + 4 * k) ∧ LKC G l d u (4 + 4 * k) ≤ LKC G l d u (3 + 4 * k)
    by_cases q : k = G 0
    · rw [q, c.2.1, c.2.2.1, c.2.2.2]
      omega
    · have hb := b k k0 (by omega)
      rw [hb.2.1, hb.2.2.1, hb.2.2.2]
      exact hw.2.1 k k0 (by omega)
theorem e_attach (h : 0 ≤ G 0 ∧ G 0 < 4) (l d u : Int) : f_X4_attach (J (G 0)) (JA (S 0)) (JA (S 1)) (JA (S 2)) (JA (S 3)) (J l) (J d) (J u) = some (J 1, J (G 0 + 1), JA (LKS G S l (d) u 0), JA (LKS G S l d u 1), JA (LKS G S l d u 2), JA (LKS G S l d u 3)) := by
  unfold f_X4_attach
  simp (disch := omega) only [↓reduceIte, j_lits, J_add, J_sub, J_mul, J_neg, J_le, J_lt, J_eqv, J_div, J_imax, J_imin, JA_get, JG, JA_upd, LET, Option.bind_some, lt_T, lt_F, le_T, le_F, eq_T, eq_F, and_true, true_and, Int.sub_neg, Int.natCast_add, n_lits]
  rfl
theorem e_linkComes (h : 0 ≤ G 0 ∧ G 0 < 4) (l d u : Int) : f_X8_linkComes (JA G) (J l) (J d) (J u) = some (JA (LKC G l d u)) := by
  unfold f_X8_linkComes
  simp (disch := omega) only [↓reduceIte, j_lits, J_add, J_sub, J_mul, J_neg, J_le, J_lt, J_eqv, J_div, J_imax, J_imin, JA_get, JG, JA_upd, LET, Option.bind_some, lt_T, lt_F, le_T, le_F, eq_T, eq_F, and_true, true_and, Int.sub_neg, Int.natCast_add, n_lits, up_ne]
  rfl
theorem e_linkStops1 {l d u : Int} (hr : (-2147483648 ≤ l ∧ l ≤ 2147483647) ∧ (-2147483648 ≤ d ∧ d ≤ 2147483647) ∧ (-2147483648 ≤ u ∧ u ≤ 2147483647)) (h : ¬ ((1 ≤ l ∧ l ≤ 5) ∧ (0 ≤ d ∧ d ≤ 8) ∧ 0 ≤ u ∧ u ≤ 8)) : f_X8_linkStops (JA G) (J l) (J d) (J u) = some (J 1) := by
  unfold f_X8_linkStops
  by_cases q1 : 1 ≤ l ∧ l ≤ 5
  · by_cases q2 : 0 ≤ d ∧ d ≤ 8
    · simp (disch := omega) only [↓reduceIte, j_lits, J_add, J_sub, J_mul, J_neg, J_le, J_lt, J_eqv, J_div, J_imax, J_imin, JA_get, JG, JA_upd, LET, Option.bind_some, lt_T, lt_F, le_T, le_F, eq_T, eq_F, and_true, true_and, Int.sub_neg, Int.natCast_add, n_lits, e_in1, e_in0]
    · simp (disch := omega) only [↓reduceIte, j_lits, J_add, J_sub, J_mul, J_neg, J_le, J_lt, J_eqv, J_div, J_imax, J_imin, JA_get, JG, JA_upd, LET, Option.bind_some, lt_T, lt_F, le_T, le_F, eq_T, eq_F, and_true, true_and, Int.sub_neg, Int.natCast_add, n_lits, e_in1, e_in0]
  · simp (disch := omega) only [↓reduceIte, j_lits, J_add, J_sub, J_mul, J_neg, J_le, J_lt, J_eqv, J_div, J_imax, J_imin, JA_get, JG, JA_upd, LET, Option.bind_some, lt_T, lt_F, le_T, le_F, eq_T, eq_F, and_true, true_and, Int.sub_neg, Int.natCast_add, n_lits, e_in0]
theorem e_linkStops2 {l d u : Int} (h : (1 ≤ l ∧ l ≤ 5) ∧ (0 ≤ d ∧ d ≤ 8) ∧ 0 ≤ u ∧ u ≤ 8) (h4 : G 0 = 4) : f_X8_linkStops (JA G) (J l) (J d) (J u) = some (J 2) := by
  unfold f_X8_linkStops
  simp (disch := omega) only [↓reduceIte, j_lits, J_add, J_sub, J_mul, J_neg, J_le, J_lt, J_eqv, J_div, J_imax, J_imin, JA_get, JG, JA_upd, LET, Option.bind_some, lt_T, lt_F, le_T, le_F, eq_T, eq_F, and_true, true_and, Int.sub_neg, Int.natCast_add, n_lits, e_in1, h4]
theorem e_linkStops0 {l d u : Int} (h : (1 ≤ l ∧ l ≤ 5) ∧ (0 ≤ d ∧ d ≤ 8) ∧ 0 ≤ u ∧ u ≤ 8) (h4 : 0 ≤ G 0 ∧ G 0 < 4) : f_X8_linkStops (JA G) (J l) (J d) (J u) = some (J 0) := by
  unfold f_X8_linkStops
  simp (disch := omega) only [↓reduceIte, j_lits, J_add, J_sub, J_mul, J_neg, J_le, J_lt, J_eqv, J_div, J_imax, J_imin, JA_get, JG, JA_upd, LET, Option.bind_some, lt_T, lt_F, le_T, le_F, eq_T, eq_F, and_true, true_and, Int.sub_neg, Int.natCast_add, n_lits, e_in1]
theorem call_addLink (hR : REL ss aa pl po pa ms ma) (x1 x2 x3 : Int32) : WP (f_X7_addLink (ss 10) (ss 11) (aa 1) (aa 2) (aa 3) (aa 4) (aa 5) (aa 6) (aa 0) (ss 12) (ss 13) (ss 2) (ss 6) pl po pa x1 x2 x3) (fun r => WP (f_X8_addLink (ms 1) (ms 2) (ms 4) (ma 0) (ma 1) x1 x2 x3) (fun q => ((r.1 = 0 ∧ q.2.2.2.1 = J 0 ∧ r.2.1 = q.1) ∨ (r.1 = 1 ∧ q.2.2.2.1 = J 1) ∨ (r.1 = 2 ∧ q.2.2.2.1 = J 2)) ∧ REL (va_up (va_up (va_up (va_up (va_up ss 10 r.2.2.1) 12 r.2.2.2.2.2.2.2.1) 13 r.2.2.2.2.2.2.2.2.1) 2 r.2.2.2.2.2.2.2.2.2.1) 6 r.2.2.2.2.2.2.2.2.2.2.1) (va_up (va_up (va_up (va_up aa 1 r.2.2.2.1) 2 r.2.2.2.2.1) 3 r.2.2.2.2.2.1) 4 r.2.2.2.2.2.2.1) r.2.2.2.2.2.2.2.2.2.2.2.1 r.2.2.2.2.2.2.2.2.2.2.2.2.1 r.2.2.2.2.2.2.2.2.2.2.2.2.2 (va_up (va_up (va_up ms 1 q.2.1) 2 q.2.2.1) 4 q.2.2.2.1) (va_up (va_up ma 0 q.2.2.2.2.1) 1 q.2.2.2.2.2))) := by
  obtain ⟨G, S, hn, hsv, hh, hsp, hrt, hbk, hin, her, hx, hy⟩ := hR
  obtain ⟨a, b, pl', po', pa', past', c1, c2, c3⟩ := both_change hn hh (ss 2) (ss 6) (ms 2)
  have hn0 := hn
  obtain ⟨⟨n1, n2⟩, ⟨n3, n4, n5, n6, n7, n8, n9⟩, n10, hs, hw⟩ := hn
  simp only [n1, n2, n3, n4, n5, n6, n7, n8, n9, n10] at c1 c2
  obtain ⟨l, rfl, hl⟩ := J_ex x1
  obtain ⟨d, rfl, hd⟩ := J_ex x2
  obtain ⟨u, rfl, hu⟩ := J_ex x3
  have h0 := hw.1.1
  by_cases q : (1 ≤ l ∧ l ≤ 5) ∧ (0 ≤ d ∧ d ≤ 8) ∧ 0 ≤ u ∧ u ≤ 8
  · by_cases q2 : G 0 = 4
    · have h7 : (f_X7_addLink (ss 10) (ss 11) (aa 1) (aa 2) (aa 3) (aa 4) (aa 5) (aa 6) (aa 0) (ss 12) (ss 13) (ss 2) (ss 6) pl po pa (J l) (J d) (J u)) = some (2, J 0, (ss 10), (aa 1), (aa 2), (aa 3), (aa 4), (ss 12), (ss 13), (ss 2), (ss 6), pl, po, pa) := by
        unfold f_X7_addLink
        simp (disch := omega) only [↓reduceIte, j_lits, J_add, J_sub, J_mul, J_neg, J_le, J_lt, J_eqv, J_div, J_imax, J_imin, JA_get, JG, JA_upd, LET, Option.bind_some, lt_T, lt_F, le_T, le_F, eq_T, eq_F, and_true, true_and, Int.sub_neg, Int.natCast_add, n_lits, n1, n2, n3, n4, n5, n6, n7, n8, n9, n10, e_isLimit1]
      have h8 : (f_X8_addLink (ms 1) (ms 2) (ms 4) (ma 0) (ma 1) (J l) (J d) (J u)) = some (J 0, (ms 1), (ms 2), J 2, (ma 0), (ma 1)) := by
        unfold f_X8_addLink
        rw [n10]
        refine ob _ (e_linkStops2 q q2) ?_
        simp (disch := omega) only [↓reduceIte, j_lits, J_add, J_sub, J_mul, J_neg, J_le, J_lt, J_eqv, J_div, J_imax, J_imin, JA_get, JG, JA_upd, LET, Option.bind_some, lt_T, lt_F, le_T, le_F, eq_T, eq_F, and_true, true_and, Int.sub_neg, Int.natCast_add, n_lits]
      exact ⟨_, h7, _, h8, Or.inr (Or.inr ⟨rfl, rfl⟩), G, S, hn0, hsv, hh, hsp, hrt, hbk, hin, her, hx, hy⟩
    · have h7 : (f_X7_addLink (ss 10) (ss 11) (aa 1) (aa 2) (aa 3) (aa 4) (aa 5) (aa 6) (aa 0) (ss 12) (ss 13) (ss 2) (ss 6) pl po pa (J l) (J d) (J u)) = some (0, J (G 0), J (G 0 + 1), JA (LKS G S l d u 0), JA (LKS G S l d u 1), JA (LKS G S l d u 2), JA (LKS G S l d u 3), a, b, J 0, J 0, pl', po', pa') := by
        unfold f_X7_addLink
        simp (disch := omega) only [↓reduceIte, j_lits, J_add, J_sub, J_mul, J_neg, J_le, J_lt, J_eqv, J_div, J_imax, J_imin, JA_get, JG, JA_upd, LET, Option.bind_some, lt_T, lt_F, le_T, le_F, eq_T, eq_F, and_true, true_and, Int.sub_neg, Int.natCast_add, n_lits, n1, n2, n3, n4, n5, n6, n7, n8, n9, n10, e_isLimit1, c1, e_attach]
        rw [show G 0 + 1 - 1 = G 0 by omega]
      have h8 : (f_X8_addLink (ms 1) (ms 2) (ms 4) (ma 0) (ma 1) (J l) (J d) (J u)) = some (J (G 0), a, J (-1), J 0, JA (LKC G l d u), past') := by
        unfold f_X8_addLink
        simp only [n10]
        refine ob _ (e_linkStops0 q (by omega)) ?_
        rw [if_pos (by decide)]
        refine ob _ c2 ?_
        refine ob _ (e_linkComes (by omega) l d u) ?_
        simp (disch := omega) only [↓reduceIte, j_lits, J_add, J_sub, J_mul, J_neg, J_le, J_lt, J_eqv, J_div, J_imax, J_imin, JA_get, JG, JA_upd, LET, Option.bind_some, lt_T, lt_F, le_T, le_F, eq_T, eq_F, and_true, true_and, Int.sub_neg, Int.natCast_add, n_lits, (LKC_ix (G := G) (by omega) l d u).1]
        rw [show G 0 + 1 - 1 = G 0 by omega]
      have k := LKC_ok hw hs (by omega) q.1 q.2.1 q.2.2
      have k2 := LKC_ix (G := G) (by omega) l d u
      exact ⟨_, h7, _, h8, Or.inl ⟨rfl, rfl, rfl⟩, LKC G l d u, LKS G S l d u, ⟨⟨congrArg J k2.1.symm, n2.trans (congrArg J (k2.2.2.2 20 (by omega)).symm)⟩, ⟨rfl, rfl, rfl, rfl, n7, n8, n9⟩, rfl, k.1, k.2⟩, hsv, c3, RSPC_0 _ _ _ _ _ _, RRTE_0 _ _ _ _ _ _ _ _, hbk, hin, her, hx, hy⟩
  · have h7 : (f_X7_addLink (ss 10) (ss 11) (aa 1) (aa 2) (aa 3) (aa 4) (aa 5) (aa 6) (aa 0) (ss 12) (ss 13) (ss 2) (ss 6) pl po pa (J l) (J d) (J u)) = some (1, J 0, (ss 10), (aa 1), (aa 2), (aa 3), (aa 4), (ss 12), (ss 13), (ss 2), (ss 6), pl, po, pa) := by
      unfold f_X7_addLink
      by_cases q1 : 1 ≤ l
      · by_cases q2 : l ≤ 5
        · by_cases q3 : 0 ≤ d ∧ d ≤ 8
          · simp (disch := omega) only [↓reduceIte, j_lits, J_add, J_sub, J_mul, J_neg, J_le, J_lt, J_eqv, J_div, J_imax, J_imin, JA_get, JG, JA_upd, LET, Option.bind_some, lt_T, lt_F, le_T, le_F, eq_T, eq_F, and_true, true_and, Int.sub_neg, Int.natCast_add, n_lits, e_isLimit1, e_isLimit0, f_X7_addLink_L24]
          · simp (disch := omega) only [↓reduceIte, j_lits, J_add, J_sub, J_mul, J_neg, J_le, J_lt, J_eqv, J_div, J_imax, J_imin, JA_get, JG, JA_upd, LET, Option.bind_some, lt_T, lt_F, le_T, le_F, eq_T, eq_F, and_true, true_and, Int.sub_neg, Int.natCast_add, n_lits, e_isLimit0, f_X7_addLink_L24]
        · simp (disch := omega) only [↓reduceIte, j_lits, J_add, J_sub, J_mul, J_neg, J_le, J_lt, J_eqv, J_div, J_imax, J_imin, JA_get, JG, JA_upd, LET, Option.bind_some, lt_T, lt_F, le_T, le_F, eq_T, eq_F, and_true, true_and, Int.sub_neg, Int.natCast_add, n_lits, f_X7_addLink_L24]
      · simp (disch := omega) only [↓reduceIte, j_lits, J_add, J_sub, J_mul, J_neg, J_le, J_lt, J_eqv, J_div, J_imax, J_imin, JA_get, JG, JA_upd, LET, Option.bind_some, lt_T, lt_F, le_T, le_F, eq_T, eq_F, and_true, true_and, Int.sub_neg, Int.natCast_add, n_lits, f_X7_addLink_L24]
    have h8 : (f_X8_addLink (ms 1) (ms 2) (ms 4) (ma 0) (ma 1) (J l) (J d) (J u)) = some (J 0, (ms 1), (ms 2), J 1, (ma 0), (ma 1)) := by
      unfold f_X8_addLink
      simp only [n10]
      refine ob _ (e_linkStops1 ⟨hl, hd, hu⟩ q) ?_
      simp (disch := omega) only [↓reduceIte, j_lits, J_add, J_sub, J_mul, J_neg, J_le, J_lt, J_eqv, J_div, J_imax, J_imin, JA_get, JG, JA_upd, LET, Option.bind_some, lt_T, lt_F, le_T, le_F, eq_T, eq_F, and_true, true_and, Int.sub_neg, Int.natCast_add, n_lits]
    exact ⟨_, h7, _, h8, Or.inr (Or.inl ⟨rfl, rfl⟩), G, S, hn0, hsv, hh, hsp, hrt, hbk, hin, her, hx, hy⟩
end
