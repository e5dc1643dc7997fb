/-! the smooth path: both sides' weights -/
noncomputable def TBY (nb : Int → Int → Int) (D : Int → Int) (p b : Int) (m : Nat) : Int := WB nb D p b m - (if b = 8 then 1 else 0)
def DOT (nb : Int → Int → Int) (D Q T : Int → Int) (i : Nat) : Prop := ∀ (j : Nat), j < i → ∀ m : Nat, m < 8 → T (9 * Q j + m) = UT nb D (D (Q j)).toNat (Q j) m
section
variable {G sp st T A B C D E F Q : Int → Int} {N p q d b : Int} {m c : Nat} {s t : BS} {pr : Int → Bool} {nb : Int → Int → Int}
theorem w_weighs (hl : WL G) (hN : NP G ≤ 5000) (hsp : SPN G sp st) (hT : ∀ q : Int, 0 ≤ q → q < NP G → T q = TP G q) (hE : ∀ q : Int, 0 ≤ q → q < NP G → E q = t.1 q) (hQ : ∀ i : Nat, i < t.2.2 → Q i = t.2.1 i) (ht : OK (NP G) t) (hv : SV (NP G) (NB G) c t) (h : NDN (NP G) (NB G) t.1) (ch : Nat → Int32) :
    WP (f_X5_weighChanges (J (NP G)) (J (G 0)) (J t.2.2) (JA sp) (JA st) (JA T) (JA E) (JA Q) ch) (fun r => ∃ C, r = JA C ∧ DON (NB G) t.1 t.2.1 C t.2.2) := by
  have hP := NP_b hl
  have hc := ok_le ht (by omega)
  obtain ⟨C0, rfl, -⟩ := JA_ex ch
  unfold f_X5_weighChanges
  refine WP.bind (P0 := fun r => ∃ C, r = JA C ∧ DON (NB G) t.1 t.2.1 C t.2.2) (lp_wp (fun (k : Nat) z => ∃ C, z = (JA C, J k) ∧ DON (NB G) t.1 t.2.1 C k) t.2.2 (by omega) ⟨C0, rfl, fun j hj => absurd hj (Nat.not_lt_zero j)⟩ (fun k z hk hi => ?_)) (fun e he => WP.ret he)
  obtain ⟨C, rfl, hC⟩ := hi
  unfold f_X5_weighChanges_B2
  dsimp only
  by_cases zk : k < t.2.2
  · have hp := ht.1 k zk
    rw [if_neg (by rw [J_le (by omega)]; omega), if_neg (by rw [show (5000 : Int32) = J 5000 from rfl, J_le (by omega)]; omega), JG (by omega)]
    simp only [LET]
    rw [JA_get _ (by omega), hQ k zk]
    refine WP.bind (P0 := fun r => ∃ C, r = JA C ∧ DON (NB G) t.1 t.2.1 C (k + 1)) (lp_wp (fun (m : Nat) z => ∃ C, z = (JA C, J m) ∧ DON (NB G) t.1 t.2.1 C k ∧ ∀ j : Nat, j < m → C (8 * t.2.1 k + j) = WGT (NB G) t.1 (t.2.1 k) j) 8 (by omega) ⟨C, rfl, hC, fun j hj => absurd hj (Nat.not_lt_zero j)⟩ (fun m z hm hi => ?_)) (fun e he => ?_)
    · obtain ⟨C, rfl, hC, hm2⟩ := hi
      unfold f_X5_weighChanges_B26
      dsimp only
      by_cases zm : m < 8
      · rw [if_neg (by rw [show (8 : Int32) = J 8 from rfl, J_le (by omega)]; omega)]
        refine WP.ob (e_isPose1 (by omega)) ?_
        rw [if_neg (by decide)]
        refine WP.ob (e_weigh5 hl hN hsp hT hE h hp.1 hp.2.1 zm (fun hn _ => ?_)) ?_
        · obtain ⟨j, j1, j2⟩ := near_ahead ht hv h zk zm hn
          rw [← j2]
          exact hC j j1
        · rw [show (8 : Int32) = J 8 from rfl, J_mul, J_add, JG (by omega), JA_upd _ _ (by omega), show (1 : Int32) = J 1 from rfl, J_add]
          refine WP.ret (Or.inl ⟨_, rfl, zm, _, rfl, fun j hj m' hm' => ?_, fun j hj => ?_⟩)
          · have hne := ht.2.2 j k hj zk
            rw [up_ne _ _ (by omega)]
            exact hC j hj m' hm'
          · by_cases w : j = m
            · rw [w, show 8 * t.2.1 k + (m : Int) = t.2.1 k * 8 + m by omega, up_same]
            · rw [up_ne _ _ (by omega)]
              exact hm2 j (by omega)
      · rw [if_pos (by rw [show (8 : Int32) = J 8 from rfl, J_le (by omega)]; omega)]
        refine WP.ret (Or.inr ⟨_, rfl, C, rfl, fun j hj m' hm' => ?_⟩)
        by_cases w : j = k
        · rw [w]; exact hm2 m' (by omega)
        · exact hC j (by omega) m' hm'
    · obtain ⟨C, rfl, hC⟩ := he
      rw [show (1 : Int32) = J 1 from rfl, J_add]
      exact WP.ret (Or.inl ⟨_, rfl, zk, C, rfl, hC⟩)
  · have e : k = t.2.2 := by omega
    rw [if_pos (by rw [J_le (by omega)]; omega)]
    refine WP.ret (Or.inr ⟨_, rfl, C, rfl, ?_⟩)
    rw [← e]
    exact hC
theorem DON_at (ht : OK N t) (h0 : 0 ≤ p ∧ p < N) (hd : 0 ≤ t.1 p) (hC : DON nb t.1 t.2.1 C t.2.2) : ∀ j : Nat, j < 8 → C (8 * p + j) = WGT nb t.1 p j := by
  obtain ⟨j, j1, j2⟩ := (ht.2.1 p h0.1 h0.2).2 hd
  have := hC j j1
  rw [j2] at this
  exact this
theorem e_descendS (hl : WL G) (hN : NP G ≤ 5000) (hsp : SPN G sp st) (hT : ∀ q : Int, 0 ≤ q → q < NP G → T q = TP G q) (hE : ∀ q : Int, 0 ≤ q → q < NP G → E q = t.1 q) (ht : OK (NP G) t) (h : NDN (NP G) (NB G) t.1) (hC : DON (NB G) t.1 t.2.1 C t.2.2) (h0 : 0 ≤ p ∧ p < NP G) (hd : 0 ≤ t.1 p) :
    f_X5_descendSmoothly (J (NP G)) (J (G 0)) (JA sp) (JA st) (JA T) (JA E) (JA C) (J p) (J 0) (JA F) = some (J (t.1 p), JA (SST (NB G) t.1 p F (t.1 p).toNat)) := by
  have hP := NP_b hl
  have hb := h.1 p h0.1 h0.2
  have hD : ∀ q : Int, 0 ≤ q → q < NP G → -1 ≤ t.1 q ∧ t.1 q ≤ 5000 := fun q a b => by have := h.1 q a b; omega
  unfold f_X5_descendSmoothly
  refine ob _ (e_distanceOf (by omega)) ?_
  rw [hE p h0.1 h0.2]
  refine lp_bind (fun k : Nat => (J k, JA (SST (NB G) t.1 p F k), J (SPP (NB G) t.1 p k).1, J (if k = 0 then -1 else (SPP (NB G) t.1 p k).2), J (t.1 p - k))) (t.1 p).toNat ?_ (by omega) (fun k hk => ?_) (e := (J (t.1 p), JA (SST (NB G) t.1 p F (t.1 p).toNat))) ?_ rfl
  · rw [SST_0]
    exact pr2 rfl (pr2 rfl (pr2 rfl (pr2 rfl (congrArg J (by omega)))))
  · have h1 := SPP_in h hN h0 k (by omega)
    obtain ⟨a, b, c, e, f⟩ := SM_ok h hN h1.1 (by omega) (SPP (NB G) t.1 p k).2
    have hs : f_X5_smoothest (J (NP G)) (JA C) (J (SPP (NB G) t.1 p k).1) (J (if k = 0 then -1 else (SPP (NB G) t.1 p k).2)) = some (J (SM (NB G) t.1 (SPP (NB G) t.1 p k).1 (SPP (NB G) t.1 p k).2)) := by
      have hc := DON_at ht h1.1 (by omega) hC
      by_cases w : k = 0
      · subst w
        rw [if_pos rfl, show (SPP (NB G) t.1 p 0).2 = 8 from rfl, ← SM_18]
        exact e_smoothest h hN h1.1 (by omega) hc (by omega)
      · rw [if_neg w]
        exact e_smoothest h hN h1.1 (by omega) hc (by omega)
    unfold f_X5_descendSmoothly_B14
    dsimp only
    rw [if_neg (by rw [show (0 : Int32) = J 0 from rfl, J_le (by omega)]; omega)]
    refine ob _ hs ?_
    refine ob _ (e_add (by omega) _) ?_
    refine ob _ ((e_nearer hl hN hsp hT hE hD h1.1 a).1 b) ?_
    simp only [LET]
    rw [SST_s, show (-1 : Int32) = J (-1) from rfl, J_add, show t.1 p - (k : Int) + -1 = t.1 p - ((k + 1 : Nat) : Int) by omega]
    rfl
  · have e1 : (((t.1 p).toNat : Nat) : Int) = t.1 p := by omega
    unfold f_X5_descendSmoothly_B14
    dsimp only
    rw [if_pos (by rw [show (0 : Int32) = J 0 from rfl, J_le (by omega)]; omega), e1]
/-! the reference -/
theorem NB_BH (hl : WL G) (h0 : 0 ≤ p ∧ p < NP G) (hm : m < 8) (h : NR (NB G) D p m) : (m : Int) < 2 * G 0 ∧ NB G p m = BH G p m ∧ NB G p m < NP G := by
  rcases NB_r hl h0 (m := (m : Nat)) (by omega) with z | z
  · have := h.1; omega
  · exact ⟨z.1, z.2.1, z.2.2.2.1⟩
theorem e_turnsBy (hl : WL G) (hN : NP G ≤ 5000) (h0 : 0 ≤ p ∧ p < NP G) (hm : m < 8) (hn : NR (NB G) D p m) (hT : T (9 * NB G p m + m) = UT (NB G) D (D p - 1).toNat (NB G p m) m) (hb : 0 ≤ b ∧ b ≤ 8) :
    f_X8_turnsBy (JA G) (JA T) (J p) (J b) (J m) = some (J (TBY (NB G) D p b m)) := by
  have hG := hl.1
  obtain ⟨a1, a2, a3⟩ := NB_BH hl h0 hm hn
  have a4 := hn.1
  have h1 := e_behind hl h0 (m := m) (by omega)
  rw [← a2] at h1
  have key : ∀ x : Int, f_X8_turnsBy_L16 (JA G) (JA T) (J p) (J m) (J x) = some (J (x + WGT (NB G) D p m)) := by
    intro x
    unfold f_X8_turnsBy_L16
    refine ob _ h1 ?_
    rw [show (9 : Int32) = J 9 from rfl, J_mul, J_add, JG (by omega), JA_get _ (by omega), J_add, hT, WG_y hn]
  unfold f_X8_turnsBy TBY WB
  by_cases z : b = 8
  · subst z
    rw [if_pos (show J 8 = 8 from rfl), show (0 : Int32) = J 0 from rfl, key, if_pos rfl, if_neg (by omega)]
    exact congrArg some (congrArg J (by omega))
  · rw [if_neg (by rw [show (8 : Int32) = J 8 from rfl, J_eqv (by omega)]; exact z), if_neg z]
    by_cases y : b = m
    · rw [if_pos (congrArg J y), show (0 : Int32) = J 0 from rfl, key, if_pos y.symm]
      exact congrArg some (congrArg J (by omega))
    · rw [if_neg (by rw [J_eqv (by omega)]; exact y), show (1 : Int32) = J 1 from rfl, key, if_neg (fun w => y w.symm)]
      exact congrArg some (congrArg J (by omega))
theorem TBY_b (h : NDN N nb D) (hN : N ≤ 5000) (h0 : 0 ≤ p ∧ p < N) (hd : 0 ≤ D p) (hm : m < 8) : 0 ≤ TBY nb D p b m ∧ TBY nb D p b m ≤ 1000001 := by
  have h1 := WB_b h hN h0 hd hm b
  unfold TBY
  by_cases z : b = 8
  · rw [if_pos z]
    rcases WG_b h h0 hd hm with h3 | h3
    · unfold WB at h1 ⊢
      rw [if_neg (by omega)] at h1 ⊢
      omega
    · omega
  · rw [if_neg z]; omega
theorem e_leastTurns (hl : WL G) (hN : NP G ≤ 5000) (hA : ∀ q : Int, 0 ≤ q → q < NP G → A q = FRI G q) (hE : ∀ q : Int, 0 ≤ q → q < NP G → E q = D q) (h : NDN (NP G) (NB G) D) (h0 : 0 ≤ p ∧ p < NP G) (hd : 0 < D p) (hT : ∀ m : Nat, m < 8 → NR (NB G) D p m → T (9 * NB G p m + m) = UT (NB G) D (D p - 1).toNat (NB G p m) m) (hb : 0 ≤ b ∧ b ≤ 8) :
    f_X8_leastTurns (JA G) (JA A) (JA E) (JA T) (J p) (J b) = some (J (TBY (NB G) D p b (SM (NB G) D p b))) := by
  have hP := NP_b hl
  have hG := hl.1
  have hD : ∀ q : Int, 0 ≤ q → q < NP G → -1 ≤ D q ∧ D q ≤ 5000 := fun q a b => by have := h.1 q a b; omega
  obtain ⟨b1, b2, b3, b4, b5⟩ := SM_ok h hN h0 hd b
  have b6 := (NB_BH hl h0 b1 b2).1
  have b7 := TBY_b (b := b) h hN h0 (by omega) b1
  have mono : ∀ j : Nat, j < 8 → NR (NB G) D p j → TBY (NB G) D p b (SM (NB G) D p b) ≤ TBY (NB G) D p b j := fun j j1 j2 => by
    have := b3 j j1 j2
    unfold TBY
    omega
  have hg : (((2 * G 0).toNat : Nat) : Int) = 2 * G 0 := by omega
  unfold f_X8_leastTurns
  have hlp : WP (LPF (fun z => f_X8_leastTurns_B5 (JA G) (JA A) (JA E) (JA T) (J p) (J b) z.1 z.2) lfuel ((-1), 0)) (fun e => e = J (TBY (NB G) D p b (SM (NB G) D p b))) := by
    refine lp_wp (fun (k : Nat) z => ∃ L : Int, z = (J L, J k) ∧ (∀ j : Nat, j < k → NR (NB G) D p j → 0 ≤ L ∧ L ≤ TBY (NB G) D p b j) ∧ (L = -1 ∨ ∃ j : Nat, j < k ∧ NR (NB G) D p j ∧ L = TBY (NB G) D p b j)) (2 * G 0).toNat (by omega) ⟨-1, rfl, fun j hj => absurd hj (Nat.not_lt_zero j), Or.inl rfl⟩ (fun k z hk hi => ?_)
    obtain ⟨L, rfl, i1, i2⟩ := hi
    have hL : -1 ≤ L ∧ L ≤ 1000001 := by
      rcases i2 with e | ⟨j, j1, j2, j3⟩
      · omega
      · have := TBY_b (m := j) (b := b) h hN h0 (by omega) (by omega)
        omega
    unfold f_X8_leastTurns_B5
    dsimp only
    rw [show (0 : Int32) = J 0 from rfl, show (2 : Int32) = J 2 from rfl, show (1 : Int32) = J 1 from rfl, JG (by omega), JA_get _ (by omega), J_mul]
    by_cases zk : k < (2 * G 0).toNat
    · rw [if_neg (by rw [J_le (by omega)]; omega)]
      have hne := e_isNearer hl hN hA hE hD h0 (m := k) (by omega)
      by_cases zn : NR (NB G) D p k
      · have ht := e_turnsBy hl hN h0 (by omega) zn (hT k (by omega) zn) hb
        have hk2 := TBY_b (m := k) (b := b) h hN h0 (by omega) (by omega)
        refine WP.ob (hne.1 zn) ?_
        rw [if_neg (by decide)]
        have go : WP (f_X8_leastTurns_L44 (JA G) (JA A) (JA E) (JA T) (J p) (J b) (J k)) (fun q => q = .inl (J (TBY (NB G) D p b k), J ((k + 1 : Nat) : Int))) := by
          unfold f_X8_leastTurns_L44
          refine WP.ob ht ?_
          simp only [LET]
          rw [show (1 : Int32) = J 1 from rfl, J_add]
          exact WP.ret rfl
        have take : L < 0 ∨ TBY (NB G) D p b k < L → WP (f_X8_leastTurns_L44 (JA G) (JA A) (JA E) (JA T) (J p) (J b) (J k)) (fun q => (∃ s', q = .inl s' ∧ k < (2 * G 0).toNat ∧ (∃ L : Int, s' = (J L, J ((k + 1 : Nat) : Int)) ∧ (∀ j : Nat, j < k + 1 → NR (NB G) D p j → 0 ≤ L ∧ L ≤ TBY (NB G) D p b j) ∧ (L = -1 ∨ ∃ j : Nat, j < k + 1 ∧ NR (NB G) D p j ∧ L = TBY (NB G) D p b j))) ∨ ∃ e, q = .inr e ∧ e = J (TBY (NB G) D p b (SM (NB G) D p b))) := fun w => WP.mono go fun q hq => by
          refine Or.inl ⟨_, hq, zk, _, rfl, fun j j1 j2 => ?_, Or.inr ⟨k, Nat.lt_succ_self k, zn, rfl⟩⟩
          by_cases y : j = k
          · rw [y]; exact ⟨hk2.1, Int.le_refl _⟩
          · have := i1 j (by omega) j2
            omega
        by_cases zl : L < 0
        · rw [if_pos (by rw [J_lt (by omega)]; exact zl)]
          exact take (Or.inl zl)
        · rw [if_neg (by rw [J_lt (by omega)]; exact zl)]
          refine WP.ob ht ?_
          by_cases zt : L ≤ TBY (NB G) D p b k
          · rw [if_pos (by rw [J_le (by omega)]; exact zt)]
            simp only [LET]
            rw [J_add]
            refine WP.ret (Or.inl ⟨_, rfl, zk, L, rfl, fun j j1 j2 => ?_, ?_⟩)
            · by_cases y : j = k
              · rw [y]; omega
              · exact i1 j (by omega) j2
            · rcases i2 with e | ⟨j, j1, j2, j3⟩
              · omega
              · exact Or.inr ⟨j, by omega, j2, j3⟩
          · rw [if_neg (by rw [J_le (by omega)]; exact zt)]
            exact take (Or.inr (by omega))
      · refine WP.ob (hne.2 zn) ?_
        rw [if_pos (by rfl)]
        simp only [LET]
        rw [J_add]
        refine WP.ret (Or.inl ⟨_, rfl, zk, L, rfl, fun j j1 j2 => ?_, ?_⟩)
        · by_cases y : j = k
          · rw [y] at j2; exact absurd j2 zn
          · exact i1 j (by omega) j2
        · rcases i2 with e | ⟨j, j1, j2, j3⟩
          · exact Or.inl e
          · exact Or.inr ⟨j, by omega, j2, j3⟩
    · rw [if_pos (by rw [J_le (by omega)]; omega)]
      refine WP.ret (Or.inr ⟨_, rfl, congrArg J ?_⟩)
      have h8 := i1 (SM (NB G) D p b) (by omega) b2
      rcases i2 with e | ⟨j, j1, j2, j3⟩
      · omega
      · have := mono j (by omega) j2
        omega
  obtain ⟨e, he, rfl⟩ := hlp
  refine ob _ he ?_
  rw [if_pos (by rw [show (0 : Int32) = J 0 from rfl, J_le (by omega)]; omega)]
theorem w_turns (hl : WL G) (hN : NP G ≤ 5000) (hA : ∀ q : Int, 0 ≤ q → q < NP G → A q = FRI G q) (hE : ∀ q : Int, 0 ≤ q → q < NP G → E q = t.1 q) (hQ : ∀ i : Nat, i < t.2.2 → Q i = t.2.1 i) (ht : OK (NP G) t) (hv : SV (NP G) (NB G) c t) (h : NDN (NP G) (NB G) t.1) (a1 a2 a3 a4 : Int32) (pa po wy px py ti tu : Nat → Int32) :
    WP (LPF (fun z => f_X8_planSmooth_B48 a1 a2 a3 a4 (J t.2.2) (JA G) pa po wy px py (JA A) ti (JA E) (JA Q) z.1 z.2) lfuel (tu, 0)) (fun r => ∃ T, r = JA T ∧ DOT (NB G) t.1 t.2.1 T t.2.2) := by
  have hP := NP_b hl
  have hc := ok_le ht (by omega)
  obtain ⟨T0, rfl, -⟩ := JA_ex tu
  refine lp_wp (fun (k : Nat) z => ∃ T, z = (JA T, J k) ∧ DOT (NB G) t.1 t.2.1 T k) t.2.2 (by omega) ⟨T0, rfl, fun j hj => absurd hj (Nat.not_lt_zero j)⟩ (fun k z hk hi => ?_)
  obtain ⟨T, rfl, hC⟩ := hi
  unfold f_X8_planSmooth_B48
  dsimp only
  by_cases zk : k < t.2.2
  · have hp := ht.1 k zk
    have hpE := hE _ hp.1.1 hp.1.2
    have hpD := h.1 _ hp.1.1 hp.1.2
    rw [if_neg (by rw [J_le (by omega)]; omega)]
    refine WP.bind (P0 := fun r => ∃ T, r = JA T ∧ DOT (NB G) t.1 t.2.1 T (k + 1)) (lp_wp (fun (m : Nat) z => ∃ T, z = (JA T, J m) ∧ DOT (NB G) t.1 t.2.1 T k ∧ ∀ j : Nat, j < m → j < 8 → T (9 * t.2.1 k + j) = UT (NB G) t.1 (t.1 (t.2.1 k)).toNat (t.2.1 k) j) 9 (by omega) ⟨T, rfl, hC, fun j hj => absurd hj (Nat.not_lt_zero j)⟩ (fun m z hm hi => ?_)) (fun e he => ?_)
    · obtain ⟨T, rfl, hC, hm2⟩ := hi
      unfold f_X8_planSmooth_B59
      dsimp only
      by_cases zm : m < 9
      · rw [if_neg (by rw [show (9 : Int32) = J 9 from rfl, J_le (by omega)]; omega), JG (by omega), JG (by omega), JA_get _ (by omega), hQ k zk, JG (by omega), JA_get _ (by omega), hpE]
        have fin : ∀ x : Int, (m < 8 → x = UT (NB G) t.1 (t.1 (t.2.1 k)).toNat (t.2.1 k) m) → WP (f_X8_planSmooth_L112 a1 a2 a3 a4 (J t.2.2) (JA G) pa po wy px py (JA A) ti (JA E) (JA Q) (JA T) (J k) (J m) ((9 : Int32) * J (t.2.1 k) + J m) (J x)) (fun q => (∃ s', q = .inl s' ∧ m < 9 ∧ ∃ T, s' = (JA T, J ((m + 1 : Nat) : Int)) ∧ DOT (NB G) t.1 t.2.1 T k ∧ ∀ j : Nat, j < m + 1 → j < 8 → T (9 * t.2.1 k + j) = UT (NB G) t.1 (t.1 (t.2.1 k)).toNat (t.2.1 k) j) ∨ ∃ e, q = .inr e ∧ ∃ T, e = JA T ∧ DOT (NB G) t.1 t.2.1 T (k + 1)) := by
          intro x hx
          unfold f_X8_planSmooth_L112
          rw [show (9 : Int32) = J 9 from rfl, J_mul, J_add, JG (by omega)]
          simp only [LET]
          rw [JA_upd _ _ (by omega), show (1 : Int32) = J 1 from rfl, J_add]
          refine WP.ret (Or.inl ⟨_, rfl, zm, _, rfl, fun j hj m' hm' => ?_, fun j hj hj8 => ?_⟩)
          · have hne := ht.2.2 j k hj zk
            rw [up_ne _ _ (by omega)]
            exact hC j hj m' hm'
          · by_cases w : j = m
            · subst w
              rw [up_same]; exact hx hj8
            · rw [up_ne _ _ (by omega)]
              exact hm2 j (by omega) hj8
        by_cases zd : t.1 (t.2.1 k) = 0
        · rw [if_pos (by rw [zd]; rfl)]
          refine fin 0 (fun _ => ?_)
          rw [zd]; rfl
        · rw [if_neg (by rw [show (0 : Int32) = J 0 from rfl, J_eqv (by omega)]; exact zd), JG (by omega)]
          refine WP.ob (e_leastTurns hl hN hA hE h hp.1 (by omega) (fun m' h1 h2 => ?_) (b := m) (by omega)) ?_
          · obtain ⟨j, j1, j2⟩ := near_ahead ht hv h zk h1 h2
            have h3 := hC j j1 m' h1
            rw [j2, h2.2] at h3
            exact h3
          · refine fin _ (fun hm8 => ?_)
            obtain ⟨d, hd2⟩ : ∃ d : Nat, (t.1 (t.2.1 k)).toNat = d + 1 := ⟨(t.1 (t.2.1 k)).toNat - 1, by omega⟩
            rw [hd2, UT_s (by omega)]
            unfold TBY
            rw [if_neg (by omega)]
            omega
      · rw [if_pos (by rw [show (9 : Int32) = J 9 from rfl, J_le (by omega)]; omega)]
        refine WP.ret (Or.inr ⟨_, rfl, T, rfl, fun j hj m' hm' => ?_⟩)
        by_cases w : j = k
        · rw [w]; exact hm2 m' (by omega) hm'
        · exact hC j (by omega) m' hm'
    · obtain ⟨T, rfl, hC⟩ := he
      simp only [LET]
      rw [show (1 : Int32) = J 1 from rfl, J_add]
      exact WP.ret (Or.inl ⟨_, rfl, zk, T, rfl, hC⟩)
  · have e : k = t.2.2 := by omega
    rw [if_pos (by rw [J_le (by omega)]; omega)]
    refine WP.ret (Or.inr ⟨_, rfl, T, rfl, ?_⟩)
    rw [← e]
    exact hC
end
