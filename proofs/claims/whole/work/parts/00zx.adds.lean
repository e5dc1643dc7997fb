/-! read: entry by entry, both sides -/
section
variable {G G' G0 C T U N F D : Int → Int} {S S' S0 : Nat → Int → Int} {n a to k t : Nat} {c s f x y d w i : Int}
def EB (n : Nat) (C : Int → Int) : (Nat → Int32) × Int32 × Int32 × (Nat → Int32) × (Nat → Int32) × (Nat → Int32) × (Nat → Int32) × (Nat → Int32) × (Nat → Int32) × (Nat → Int32) × Int32 × Int32 × Int32 → Option (((Nat → Int32) × Int32 × Int32 × (Nat → Int32) × (Nat → Int32) × (Nat → Int32) × (Nat → Int32) × (Nat → Int32) × (Nat → Int32) × (Nat → Int32) × Int32 × Int32 × Int32) ⊕ (((Nat → Int32) × Int32 × Int32 × (Nat → Int32) × (Nat → Int32) × (Nat → Int32) × (Nat → Int32) × (Nat → Int32) × (Nat → Int32) × (Nat → Int32)) ⊕ ((Nat → Int32) × Int32 × Int32 × (Nat → Int32) × (Nat → Int32) × (Nat → Int32) × (Nat → Int32) × (Nat → Int32) × (Nat → Int32) × (Nat → Int32) × Int32))) := fun z => f_X2_enter_B7 (J n) (JA C) z.1 z.2.1 z.2.2.1 z.2.2.2.1 z.2.2.2.2.1 z.2.2.2.2.2.1 z.2.2.2.2.2.2.1 z.2.2.2.2.2.2.2.1 z.2.2.2.2.2.2.2.2.1 z.2.2.2.2.2.2.2.2.2.1 z.2.2.2.2.2.2.2.2.2.2.1 z.2.2.2.2.2.2.2.2.2.2.2.1 z.2.2.2.2.2.2.2.2.2.2.2.2
def ES (N G : Int → Int) (S : Nat → Int → Int) (k a i : Int) : (Nat → Int32) × Int32 × Int32 × (Nat → Int32) × (Nat → Int32) × (Nat → Int32) × (Nat → Int32) × (Nat → Int32) × (Nat → Int32) × (Nat → Int32) × Int32 × Int32 × Int32 := (JA N, J (G 0), J (G 20), JA (S 0), JA (S 1), JA (S 2), JA (S 3), JA (S 4), JA (S 5), JA (S 6), J k, J a, J i)
theorem en_skip (h : CT n C T) (hi : 0 ≤ i ∧ i < n) (hT : ¬ T i = 59) {k a : Int} : EB n C (ES N G S k a i) = some (.inl (ES N G S k a (i + 1))) := by
  have h1 := h.1
  have h2 := h.2 i hi.1 hi.2
  unfold EB ES f_X2_enter_B7
  dsimp only
  rw [if_neg (by rw [J_le (by omega)]; omega)]
  refine ob _ (h.at0 hi) ?_
  rw [if_neg (by rw [show (59 : Int32) = J 59 from rfl, J_eqv (by omega)]; exact hT), show (1 : Int32) = J 1 from rfl, J_add]
  rfl
theorem en_go (h : CT n C T) {l : Nat} (he : ENT T a l d x y) (hl : a + l ≤ n) {k : Int} : ∀ j : Nat, j + 1 ≤ l → GO (EB n C) (ES N G S k a a) (ES N G S k a ((a : Int) + j)) j
  | 0, _ => by
    rw [show (a : Int) + ((0 : Nat) : Int) = a by omega]
    exact GO.ref _ _
  | j + 1, hj => by
    have g := en_skip (N := N) (G := G) (S := S) (k := k) (a := a) h (i := (a : Int) + j) (by omega) (ENT_semi he (by omega))
    rw [show (a : Int) + j + 1 = (a : Int) + ((j + 1 : Nat) : Int) by omega] at g
    exact (en_go h he hl j (by omega)).tr (GO.one g)
theorem blk_no (h : (-10 ≤ x ∧ x ≤ 10) ∧ -10 ≤ y ∧ y ≤ 10) {m : Int} (hm : 0 ≤ m ∧ m ≤ 60) {A B BL : Int → Int} (q : (x = 0 ∧ y = 0) ∨ m = 60 ∨ ST BL x y) : f_X4_block (J m) (JA A) (JA B) (JA BL) (J x) (J y) = some (0, J m, JA A, JA B, JA BL) := by
  have hL : ¬ (x = 0 ∧ y = 0) → f_X4_block_L16 (J m) (JA A) (JA B) (JA BL) (J x) (J y) = some (0, J m, JA A, JA B, JA BL) := by
    intro q2
    unfold f_X4_block_L16
    by_cases z : ST BL x y
    · refine ob _ (e_isBlocked_yes h z) ?_
      rw [if_neg j1n]
    · have z2 : m = 60 := (q.resolve_left q2).resolve_right z
      refine ob _ (e_isBlocked_no h z) ?_
      rw [if_pos (by rfl), z2]
      rfl
  unfold f_X4_block
  refine ob (J 1) (e_isInside1 h) ?_
  rw [if_neg j1n, show (0 : Int32) = J 0 from rfl]
  by_cases q1 : x = 0
  · by_cases q2 : y = 0
    · rw [if_pos (congrArg J q1), if_pos (congrArg J q2)]
    · rw [if_pos (congrArg J q1), if_neg (by rw [J_eqv (by omega)]; exact q2)]
      exact hL (fun w => q2 w.2)
  · rw [if_neg (by rw [J_eqv (by omega)]; exact q1)]
    exact hL (fun w => q1 w.1)
def OUG (G' G : Int → Int) : Prop := ∀ i : Int, i < 0 ∨ 141 ≤ i → G' i = G i
theorem OUG_L (h : 0 ≤ G 0 ∧ G 0 < 4) (l d u : Int) : OUG (LKC G l d u) G := by
  intro i hi
  unfold LKC
  rw [up_ne _ _ (by omega), up_ne _ _ (by omega), up_ne _ _ (by omega), up_ne _ _ (by omega), up_ne _ _ (by omega)]
theorem OUG_S (h : 0 ≤ G 20 ∧ G 20 < 60) (x y : Int) : OUG (SCM G x y) G := by
  intro i hi
  unfold SCM
  rw [up_ne _ _ (by omega), up_ne _ _ (by omega), up_ne _ _ (by omega)]
/-- one entry in the class -/
theorem en_link (h : CT n C T) {l : Nat} (he : ENT T a l d x y) (hl : a + l ≤ n) (hT : T a = 76) (h4 : 0 ≤ G 0 ∧ G 0 < 4) {k : Int} : ∃ N', GO (EB n C) (ES N G S k a a) (ES N' (LKC G d x y) (LKS G S d x y) (k + 1) ((a : Int) + l) ((a : Int) + l)) l := by
  have h1 := h.1
  have h5 := ENT_b he
  have g := en_go (N := N) (G := G) (S := S) (k := k) h he hl (l - 1) (by omega)
  obtain ⟨r, hr, R, rfl, hR⟩ := w_numbers h he hl (JA N)
  rw [show (a : Int) + ((l - 1 : Nat) : Int) = (a : Int) + l - 1 by omega] at g
  have hR : R 0 = d ∧ R 1 = -x ∧ R 2 = y := by
    rcases hR with ⟨-, hR⟩ | ⟨hR, -⟩
    · exact hR
    · omega
  have hE := ENT_end he
  refine ⟨R, ?_⟩
  have e : l = l - 1 + 1 := by omega
  have one : EB n C (ES N G S k a ((a : Int) + l - 1)) = some (.inl (ES R (LKC G d x y) (LKS G S d x y) (k + 1) ((a : Int) + l) ((a : Int) + l))) := by
    obtain ⟨c1, c2, c3, c4⟩ := LKC_ix (G := G) h4 d x y
    unfold EB ES f_X2_enter_B7
    dsimp only
    rw [if_neg (by rw [J_le (by omega)]; omega)]
    refine ob _ (h.at0 (by omega)) ?_
    rw [if_pos (by rw [hE]; rfl), show (1 : Int32) = J 1 from rfl, show (0 : Int32) = J 0 from rfl, show (2 : Int32) = J 2 from rfl, J_add]
    refine ob _ hr ?_
    refine ob _ (h.at0 (i := a) (by omega)) ?_
    rw [if_pos (by rw [hT]; rfl), JG (by omega), JG (by omega), JG (by omega), JA_get _ (by omega), JA_get _ (by omega), JA_get _ (by omega), J_neg, hR.1, hR.2.1, hR.2.2, show - -x = x by omega]
    refine ob _ (e_attach (G := G) (S := S) h4 d x y) ?_
    unfold f_X2_enter_L88
    rw [if_neg j1n, show (1 : Int32) = J 1 from rfl]
    simp only [LET]
    rw [J_add, J_add, c1, c4 20 (by omega), show (a : Int) + l - 1 + 1 = (a : Int) + l by omega]
    rfl
  have := g.tr (GO.one one)
  rw [← e] at this
  exact this
theorem en_link_no (h : CT n C T) {l : Nat} (he : ENT T a l d x y) (hl : a + l ≤ n) (hT : T a = 76) (h4 : G 0 = 4) {k : Int} : ∃ s' r, GO (EB n C) (ES N G S k a a) s' (l - 1) ∧ EB n C s' = some (.inr (.inl r)) := by
  have h1 := h.1
  have h5 := ENT_b he
  have g := en_go (N := N) (G := G) (S := S) (k := k) h he hl (l - 1) (by omega)
  obtain ⟨r, hr, R, rfl, hR⟩ := w_numbers h he hl (JA N)
  rw [show (a : Int) + ((l - 1 : Nat) : Int) = (a : Int) + l - 1 by omega] at g
  have hE := ENT_end he
  refine ⟨_, (JA R, J (G 0), J (G 20), JA (S 0), JA (S 1), JA (S 2), JA (S 3), JA (S 4), JA (S 5), JA (S 6)), g, ?_⟩
  unfold EB ES f_X2_enter_B7
  dsimp only
  rw [if_neg (by rw [J_le (by omega)]; omega)]
  refine ob _ (h.at0 (by omega)) ?_
  rw [if_pos (by rw [hE]; rfl), show (1 : Int32) = J 1 from rfl, show (0 : Int32) = J 0 from rfl, show (2 : Int32) = J 2 from rfl, J_add]
  refine ob _ hr ?_
  refine ob _ (h.at0 (i := a) (by omega)) ?_
  rw [if_pos (by rw [hT]; rfl), JG (by omega), JG (by omega), JG (by omega)]
  refine ob (J 0, J (G 0), JA (S 0), JA (S 1), JA (S 2), JA (S 3)) ?_ ?_
  · unfold f_X4_attach
    rw [h4]
    rfl
  · unfold f_X2_enter_L88
    rw [if_pos (by rfl)]
theorem en_stone (h : CT n C T) {l : Nat} (he : ENT T a l d x y) (hl : a + l ≤ n) (hT : T a = 79) (hxy : ((-10 ≤ x ∧ x ≤ 10) ∧ -10 ≤ y ∧ y ≤ 10) ∧ ¬ (x = 0 ∧ y = 0)) (h4 : 0 ≤ G 20 ∧ G 20 < 60) (h0 : 0 ≤ G 0) {BL' : Int → Int} (hb : f_X4_block (J (G 20)) (JA (S 4)) (JA (S 5)) (JA (S 6)) (J x) (J y) = some (J 1, J (G 20 + 1), JA (up (S 4) (G 20) x), JA (up (S 5) (G 20) y), JA BL')) {k : Int} : ∃ N', GO (EB n C) (ES N G S k a a) (ES N' (SCM G x y) (OXS S (up (S 4) (G 20) x) (up (S 5) (G 20) y) BL') (k + 1) ((a : Int) + l) ((a : Int) + l)) l := by
  have h1 := h.1
  have h5 := ENT_b he
  have g := en_go (N := N) (G := G) (S := S) (k := k) h he hl (l - 1) (by omega)
  obtain ⟨r, hr, R, rfl, hR⟩ := w_numbers h he hl (JA N)
  rw [show (a : Int) + ((l - 1 : Nat) : Int) = (a : Int) + l - 1 by omega] at g
  have hR : R 0 = x ∧ R 1 = y := by
    rcases hR with ⟨hR, -⟩ | ⟨-, hR⟩
    · omega
    · exact hR
  have hE := ENT_end he
  refine ⟨R, ?_⟩
  have e : l = l - 1 + 1 := by omega
  have one : EB n C (ES N G S k a ((a : Int) + l - 1)) = some (.inl (ES R (SCM G x y) (OXS S (up (S 4) (G 20) x) (up (S 5) (G 20) y) BL') (k + 1) ((a : Int) + l) ((a : Int) + l))) := by
    have c1 : SCM G x y 0 = G 0 := SCM_lo (by omega) h4.1
    have c2 : SCM G x y 20 = G 20 + 1 := SCM_20
    unfold EB ES f_X2_enter_B7
    dsimp only
    rw [if_neg (by rw [J_le (by omega)]; omega)]
    refine ob _ (h.at0 (by omega)) ?_
    rw [if_pos (by rw [hE]; rfl), show (1 : Int32) = J 1 from rfl, show (0 : Int32) = J 0 from rfl, show (2 : Int32) = J 2 from rfl, J_add]
    refine ob _ hr ?_
    refine ob _ (h.at0 (i := a) (by omega)) ?_
    rw [if_neg (by rw [hT]; decide), JG (by omega), JG (by omega), JA_get _ (by omega), JA_get _ (by omega), hR.1, hR.2]
    refine ob _ hb ?_
    unfold f_X2_enter_L88
    rw [if_neg j1n, show (1 : Int32) = J 1 from rfl]
    simp only [LET]
    rw [J_add, J_add, c1, c2, show (a : Int) + l - 1 + 1 = (a : Int) + l by omega]
    rfl
  have := g.tr (GO.one one)
  rw [← e] at this
  exact this
theorem en_stone_no (h : CT n C T) {l : Nat} (he : ENT T a l d x y) (hl : a + l ≤ n) (hT : T a = 79) (hxy : (-10 ≤ x ∧ x ≤ 10) ∧ -10 ≤ y ∧ y ≤ 10) (h4 : 0 ≤ G 20 ∧ G 20 ≤ 60) (q : (x = 0 ∧ y = 0) ∨ G 20 = 60 ∨ ST (S 6) x y) {k : Int} : ∃ s' r, GO (EB n C) (ES N G S k a a) s' (l - 1) ∧ EB n C s' = some (.inr (.inl r)) := by
  have h1 := h.1
  have h5 := ENT_b he
  have g := en_go (N := N) (G := G) (S := S) (k := k) h he hl (l - 1) (by omega)
  obtain ⟨r, hr, R, rfl, hR⟩ := w_numbers h he hl (JA N)
  rw [show (a : Int) + ((l - 1 : Nat) : Int) = (a : Int) + l - 1 by omega] at g
  have hR : R 0 = x ∧ R 1 = y := by
    rcases hR with ⟨hR, -⟩ | ⟨-, hR⟩
    · omega
    · exact hR
  have hE := ENT_end he
  refine ⟨_, (JA R, J (G 0), J (G 20), JA (S 0), JA (S 1), JA (S 2), JA (S 3), JA (S 4), JA (S 5), JA (S 6)), g, ?_⟩
  unfold EB ES f_X2_enter_B7
  dsimp only
  rw [if_neg (by rw [J_le (by omega)]; omega)]
  refine ob _ (h.at0 (by omega)) ?_
  rw [if_pos (by rw [hE]; rfl), show (1 : Int32) = J 1 from rfl, show (0 : Int32) = J 0 from rfl, show (2 : Int32) = J 2 from rfl, J_add]
  refine ob _ hr ?_
  refine ob _ (h.at0 (i := a) (by omega)) ?_
  rw [if_neg (by rw [hT]; decide), JG (by omega), JG (by omega), JA_get _ (by omega), JA_get _ (by omega), hR.1, hR.2]
  refine ob _ (blk_no hxy h4 q) ?_
  unfold f_X2_enter_L88
  rw [if_pos (by rfl)]
/-! the reference -/
def AB (t : Nat) (U : Int → Int) (spare : Nat → Int32) : (Nat → Int32) × Int32 × Int32 → Option (((Nat → Int32) × Int32 × Int32) ⊕ ((Nat → Int32) × Int32)) := fun z => f_X8_addsAll_B31 (J t) z.1 (JA U) spare z.2.1 z.2.2
theorem ab_link {spare : Nat → Int32} (hk : k < t) (ht : t ≤ 12) (hU : U (3 * (k : Int)) = d ∧ U (3 * (k : Int) + 1) = x ∧ U (3 * (k : Int) + 2) = y) (hd : (1 ≤ d ∧ d ≤ 5) ∧ (0 ≤ x ∧ x ≤ 8) ∧ 0 ≤ y ∧ y ≤ 8) (h4 : 0 ≤ G 0 ∧ G 0 < 4) : AB t U spare (JA G, J 1, J k) = some (.inl (JA (LKC G d x y), J 1, J ((k : Int) + 1))) := by
  unfold AB f_X8_addsAll_B31
  dsimp only
  rw [if_neg (by rw [J_le (by omega)]; omega), if_neg j1n, show (3 : Int32) = J 3 from rfl, J_mul, JG (by omega)]
  simp only [LET]
  rw [JA_get _ (by omega), hU.1, if_neg (by rw [show (0 : Int32) = J 0 from rfl, J_le (by omega)]; omega), show (1 : Int32) = J 1 from rfl, show (2 : Int32) = J 2 from rfl, J_add, J_add, JG (by omega), JG (by omega), JA_get _ (by omega), JA_get _ (by omega), hU.2.1, hU.2.2]
  refine ob _ (e_linkStops0 hd h4) ?_
  unfold f_X8_addsAll_L108
  rw [if_pos (by rfl)]
  unfold f_X8_addsAll_L116
  rw [if_neg (show ¬ (1 : Int32) = 0 by decide), if_neg (by rw [show (0 : Int32) = J 0 from rfl, J_le (by omega)]; omega), show (3 : Int32) = J 3 from rfl, show (1 : Int32) = J 1 from rfl, show (2 : Int32) = J 2 from rfl, J_mul, J_add, J_add, JG (by omega), JG (by omega), JA_get _ (by omega), JA_get _ (by omega), hU.2.1, hU.2.2]
  refine ob _ (e_linkComes h4 d x y) ?_
  simp only [LET]
  rw [J_add]
theorem ab_no {spare : Nat → Int32} (hk : k < t) (ht : t ≤ 12) {v : Int} (y3 : Int32) (hv : 1 ≤ v ∧ v ≤ 3) : f_X8_addsAll_L108 (J t) (JA G) (JA U) spare (J k) y3 (J v) = some (.inl (JA G, J 0, J ((k : Int) + 1))) := by
  unfold f_X8_addsAll_L108
  rw [if_neg (by rw [show (0 : Int32) = J 0 from rfl, J_eqv (by omega)]; omega)]
  unfold f_X8_addsAll_L116
  rw [if_pos rfl]
  unfold f_X8_addsAll_L153
  rw [if_pos rfl, show (1 : Int32) = J 1 from rfl]
  simp only [LET]
  rw [J_add]
  rfl
theorem ab_link_no {spare : Nat → Int32} (hk : k < t) (ht : t ≤ 12) (hU : U (3 * (k : Int)) = d ∧ U (3 * (k : Int) + 1) = x ∧ U (3 * (k : Int) + 2) = y) (hd : (1 ≤ d ∧ d ≤ 5) ∧ (0 ≤ x ∧ x ≤ 8) ∧ 0 ≤ y ∧ y ≤ 8) (h4 : G 0 = 4) : AB t U spare (JA G, J 1, J k) = some (.inl (JA G, J 0, J ((k : Int) + 1))) := by
  unfold AB f_X8_addsAll_B31
  dsimp only
  rw [if_neg (by rw [J_le (by omega)]; omega), if_neg j1n, show (3 : Int32) = J 3 from rfl, J_mul, JG (by omega)]
  simp only [LET]
  rw [JA_get _ (by omega), hU.1, if_neg (by rw [show (0 : Int32) = J 0 from rfl, J_le (by omega)]; omega), show (1 : Int32) = J 1 from rfl, show (2 : Int32) = J 2 from rfl, J_add, J_add, JG (by omega), JG (by omega), JA_get _ (by omega), JA_get _ (by omega), hU.2.1, hU.2.2]
  refine ob _ (e_linkStops2 hd h4) ?_
  exact ab_no hk ht _ (by omega)
theorem st_stop (hx : (-10 ≤ x ∧ x ≤ 10) ∧ -10 ≤ y ∧ y ≤ 10) (hw : WS G) : (((x = 0 ∧ y = 0) ∨ G 20 = 60 ∨ OS G x y) → ∃ v : Int, f_X8_stoneStops (JA G) (J x) (J y) = some (J v) ∧ 1 ≤ v ∧ v ≤ 3) ∧ (¬ ((x = 0 ∧ y = 0) ∨ G 20 = 60 ∨ OS G x y) → f_X8_stoneStops (JA G) (J x) (J y) = some (J 0)) := by
  have h20 := hw.1
  have hst : ¬ (x = 0 ∧ y = 0) → ∀ r, f_X8_stoneStops_L20 (JA G) (J x) (J y) = r → f_X8_stoneStops (JA G) (J x) (J y) = r := by
    intro q2 r hr
    unfold f_X8_stoneStops
    refine ob _ (e_isCell1 hx) ?_
    rw [if_neg (by decide)]
    by_cases z : x = 0
    · have z2 : ¬ y = 0 := fun w => q2 ⟨z, w⟩
      rw [if_pos (by rw [z]; rfl), if_neg (by rw [show (0 : Int32) = J 0 from rfl, J_eqv (by omega)]; exact z2)]
      exact hr
    · rw [if_neg (by rw [show (0 : Int32) = J 0 from rfl, J_eqv (by omega)]; exact z)]
      exact hr
  refine ⟨fun q => ?_, fun q => ?_⟩
  · by_cases q2 : x = 0 ∧ y = 0
    · refine ⟨2, ?_, by omega, by omega⟩
      obtain ⟨e1, e2⟩ := q2
      subst e1 e2
      unfold f_X8_stoneStops
      exact ob _ (e_isCell1 hx) rfl
    · refine ⟨3, hst q2 _ ?_, by omega, by omega⟩
      have q := q.resolve_left q2
      unfold f_X8_stoneStops_L20
      by_cases z : G 20 = 60
      · simp (disch := omega) only [↓reduceIte, j_lits, J_add, J_sub, J_mul, J_neg, J_le, J_lt, J_eqv, J_div, J_imax, J_imin, JA_get, JG, JA_upd, LET, Option.bind_some, lt_T, lt_F, le_T, le_F, eq_T, eq_F, and_true, true_and, Int.sub_neg, Int.natCast_add, n_lits]
      · obtain ⟨r, r1, r2⟩ := q.resolve_left z
        simp (disch := omega) only [↓reduceIte, j_lits, J_add, J_sub, J_mul, J_neg, J_le, J_lt, J_eqv, J_div, J_imax, J_imin, JA_get, JG, JA_upd, LET, Option.bind_some, lt_T, lt_F, le_T, le_F, eq_T, eq_F, and_true, true_and, Int.sub_neg, Int.natCast_add, n_lits, e_stoneAt_yes hw ⟨r1, r2⟩]
  · refine hst (fun w => q (Or.inl w)) _ ?_
    have z1 : ¬ G 20 = 60 := fun w => q (Or.inr (Or.inl w))
    have z2 : ¬ OS G x y := fun w => q (Or.inr (Or.inr w))
    unfold f_X8_stoneStops_L20
    simp (disch := omega) only [↓reduceIte, j_lits, J_add, J_sub, J_mul, J_neg, J_le, J_lt, J_eqv, J_div, J_imax, J_imin, JA_get, JG, JA_upd, LET, Option.bind_some, lt_T, lt_F, le_T, le_F, eq_T, eq_F, and_true, true_and, Int.sub_neg, Int.natCast_add, n_lits, e_stoneAt_no hw (x := x) (y := y) (by omega) z2]
theorem ab_stone {spare : Nat → Int32} (hk : k < t) (ht : t ≤ 12) (hU : U (3 * (k : Int)) = 0 ∧ U (3 * (k : Int) + 1) = x ∧ U (3 * (k : Int) + 2) = y) {v : Int} (hv : 0 ≤ v ∧ v ≤ 3) (hs : f_X8_stoneStops (JA G) (J x) (J y) = some (J v)) (h4 : v = 0 → 0 ≤ G 20 ∧ G 20 < 60) : AB t U spare (JA G, J 1, J k) = some (.inl (if v = 0 then (JA (SCM G x y), J 1, J ((k : Int) + 1)) else (JA G, J 0, J ((k : Int) + 1)))) := by
  unfold AB f_X8_addsAll_B31
  dsimp only
  rw [if_neg (by rw [J_le (by omega)]; omega), if_neg j1n, show (3 : Int32) = J 3 from rfl, J_mul, JG (by omega)]
  simp only [LET]
  rw [JA_get _ (by omega), hU.1, if_pos (by decide), show (1 : Int32) = J 1 from rfl, show (2 : Int32) = J 2 from rfl, J_add, J_add, JG (by omega), JG (by omega), JA_get _ (by omega), JA_get _ (by omega), hU.2.1, hU.2.2]
  refine ob _ hs ?_
  by_cases z : v = 0
  · have h4 := h4 z
    rw [if_pos z, z]
    unfold f_X8_addsAll_L108
    rw [if_pos (by rfl)]
    unfold f_X8_addsAll_L116
    rw [if_neg (show ¬ (1 : Int32) = 0 by decide), if_pos (by decide)]
    unfold f_X8_addsAll_L153
    rw [if_neg (show ¬ (1 : Int32) = 0 by decide), show (3 : Int32) = J 3 from rfl, show (1 : Int32) = J 1 from rfl, show (2 : Int32) = J 2 from rfl, J_mul, J_add, J_add, JG (by omega), JG (by omega), JA_get _ (by omega), JA_get _ (by omega), hU.2.1, hU.2.2]
    refine ob _ (e_stoneComes h4) ?_
    simp only [LET]
    rw [J_add]
  · rw [if_neg z]
    exact ab_no hk ht _ (by omega)
/-- one entry on both sides -/
theorem entry_both (h : CT n C T) {l : Nat} (he : ENT T a l d x y) (hl : a + l ≤ n) (hw : WF G) (hs : SC G S) {spare : Nat → Int32} (hk : k < t) (ht : t ≤ 12) (hU : U (3 * (k : Int)) = d ∧ U (3 * (k : Int) + 1) = x ∧ U (3 * (k : Int) + 2) = y) (N : Int → Int) :
    (∃ G' S' N', WF G' ∧ SC G' S' ∧ OUG G' G ∧ GO (EB n C) (ES N G S k a a) (ES N' G' S' ((k : Int) + 1) ((a : Int) + l) ((a : Int) + l)) l ∧ AB t U spare (JA G, J 1, J k) = some (.inl (JA G', J 1, J ((k : Int) + 1)))) ∨ ((∃ s' r, GO (EB n C) (ES N G S k a a) s' (l - 1) ∧ EB n C s' = some (.inr (.inl r))) ∧ AB t U spare (JA G, J 1, J k) = some (.inl (JA G, J 0, J ((k : Int) + 1)))) := by
  have h0 := hw.1.1
  have hw2 := hw.2.2
  have h20 := hw2.1
  have he0 := he
  rcases he with ⟨rfl, e1, ⟨e2, e2b, e2c⟩, e3, e4, ⟨e5, e5b, e5c⟩, e6, ⟨e7, e7b, e7c⟩, e8, e9⟩ | ⟨e0, l1, l2, -, e1, e2, e3, e4, e5⟩
  · have hd : (1 ≤ d ∧ d ≤ 5) ∧ (0 ≤ x ∧ x ≤ 8) ∧ 0 ≤ y ∧ y ≤ 8 := by omega
    by_cases z : G 0 = 4
    · exact Or.inr ⟨en_link_no h he0 hl e1 z, ab_link_no hk ht hU hd z⟩
    · obtain ⟨N', g⟩ := en_link (N := N) (G := G) (S := S) (k := k) h he0 hl e1 (by omega)
      have k2 := LKC_ok hw hs (by omega) hd.1 hd.2.1 hd.2.2
      exact Or.inl ⟨_, _, N', k2.2, k2.1, OUG_L (by omega) d x y, g, ab_link hk ht hU hd (by omega)⟩
  · have b1 := CRD_b e2
    have b2 := CRD_b e4
    have hxy : (-10 ≤ x ∧ x ≤ 10) ∧ -10 ≤ y ∧ y ≤ 10 := by omega
    have hSB := hs.2.2 x y hxy
    have hst := st_stop (G := G) hxy hw2
    rw [e0] at hU
    by_cases q : (x = 0 ∧ y = 0) ∨ G 20 = 60 ∨ OS G x y
    · obtain ⟨v, v1, v2, v3⟩ := hst.1 q
      have g := ab_stone (spare := spare) hk ht hU (v := v) (by omega) v1 (fun w => by omega)
      rw [if_neg (show ¬ v = 0 by omega)] at g
      refine Or.inr ⟨en_stone_no h he0 hl e1 hxy h20 ?_, g⟩
      rcases q with q | q | q
      · exact Or.inl q
      · exact Or.inr (Or.inl q)
      · exact Or.inr (Or.inr (hSB.mpr q))
    · have z0 : ¬ (x = 0 ∧ y = 0) := fun z => q (Or.inl z)
      have z1 : ¬ G 20 = 60 := fun z => q (Or.inr (Or.inl z))
      have z2 : ¬ OS G x y := fun z => q (Or.inr (Or.inr z))
      have z3 : ¬ ST (S 6) x y := fun z => z2 (hSB.mp z)
      have g := ab_stone (spare := spare) hk ht hU (v := 0) (by omega) (hst.2 q) (fun _ => by omega)
      rw [if_pos rfl] at g
      obtain ⟨BL', c1, c2⟩ := e_block (G := G) (ox := S 4) (oy := S 5) ⟨hxy, z0⟩ (by omega) z3
      obtain ⟨N', g2⟩ := en_stone (N := N) (G := G) (S := S) (k := k) h he0 hl e1 ⟨hxy, z0⟩ (by omega) h0.1 c1
      have k2 := lo_of G (SCM G x y) (fun i hi => SCM_lo hi h20.1) h0.2 hw hs (SCM_RS hw2 hs.2 c2) (SCM_WS hw2 (by omega) hxy z0 z2)
      exact Or.inl ⟨_, _, N', k2.2, k2.1, OUG_S (by omega) x y, g2, g⟩
theorem entries_both (h : CT n C T) (hw : WF G) (hs : SC G S) {spare : Nat → Int32} (ht : t ≤ 12) (N : Int → Int) : ∀ (k a : Nat), k ≤ t → a ≤ n → ENTS T U k a →
    (∃ G' S' N', WF G' ∧ SC G' S' ∧ OUG G' G ∧ GO (EB n C) (ES N G S 0 0 0) (ES N' G' S' k a a) a ∧ GO (AB t U spare) (JA G, J 1, J 0) (JA G', J 1, J k) k) ∨ ((∃ s' r j, j < 100 ∧ GO (EB n C) (ES N G S 0 0 0) s' j ∧ EB n C s' = some (.inr (.inl r))) ∧ ∃ G' j, j ≤ k ∧ OUG G' G ∧ GO (AB t U spare) (JA G, J 1, J 0) (JA G', J 0, J (j : Nat)) j)
  | 0, a, _, _, hE => by
    have e : a = 0 := hE
    subst e
    exact Or.inl ⟨G, S, N, hw, hs, fun _ _ => rfl, GO.ref _ _, GO.ref _ _⟩
  | k + 1, a, hk, ha, hE => by
    have h60 := h.1
    obtain ⟨a0, l, q1, q2, q3⟩ := hE
    rcases entries_both h hw hs (spare := spare) ht N k a0 (by omega) (by omega) q1 with ⟨G1, S1, N1, r1, r2, r3, r4, r5⟩ | ⟨⟨s', r, j, r1, r2, r3⟩, G', j', r4, r5, r6⟩
    · rcases entry_both h q3 (by omega) r1 r2 (spare := spare) (k := k) (t := t) (by omega) ht ⟨rfl, rfl, rfl⟩ N1 with ⟨G2, S2, N2, s1, s2, s3, s4, s5⟩ | ⟨⟨s', r, s1, s2⟩, s3⟩
      · refine Or.inl ⟨G2, S2, N2, s1, s2, fun i hi => (s3 i hi).trans (r3 i hi), ?_, ?_⟩
        · rw [q2]
          exact r4.tr s4
        · exact r5.tr (GO.one s5)
      · refine Or.inr ⟨⟨s', r, a0 + (l - 1), by omega, r4.tr s1, s2⟩, G1, k + 1, Nat.le_refl _, r3, ?_⟩
        exact r5.tr (GO.one s3)
    · exact Or.inr ⟨⟨s', r, j, r1, r2, r3⟩, G', j', by omega, r5, r6⟩
end
