/-! clearance -/
def DC (G : Int → Int) (k : Nat) (i b : Int) : Int := DI (CX G (GV G) k i) (CY G (GV G) k i) (G (21 + 2 * b)) (G (21 + 2 * b + 1))
section
variable {ss : Nat → Int32} {aa : Nat → Nat → Int32} {pl po : Nat → Int32} {pa : Nat → Nat → Nat → Int32} {ms : Nat → Int32} {ma : Nat → Nat → Int32} {G v B C D W X Y : Int → Int} {S : Nat → Int → Int}
theorem DI_b {x y a b : Int} (h : (-25 ≤ x ∧ x ≤ 25) ∧ (-25 ≤ y ∧ y ≤ 25) ∧ (-10 ≤ a ∧ a ≤ 10) ∧ -10 ≤ b ∧ b ≤ 10) : 0 ≤ DI x y a b ∧ DI x y a b ≤ 35 := by
  unfold DI
  omega
theorem DC_b (hw : WF G) {k : Nat} {i b : Int} (hk : k < nn G) (hi : 0 ≤ i ∧ i ≤ G (1 + 4 * k)) (hb : 0 ≤ b ∧ b < G 20) : 0 ≤ DC G k i b ∧ DC G k i b ≤ 35 := by
  have h1 := nn_eq hw.1
  have h2 := hw.1.2 k (by omega) (by omega)
  have h3 := CX_r hw.1 (GV G) (k := k) (by omega) (i := i) (by omega)
  have h4 := hw.2.2.2.1 b hb.1 hb.2
  exact DI_b ⟨h3.1, h3.2, h4.1.1, h4.1.2⟩
theorem w_dto (hw : WF G) (hs : SC G S) (hg : 0 < G 20) {x y : Int} (hx : (-25 ≤ x ∧ x ≤ 25) ∧ -25 ≤ y ∧ y ≤ 25) : WP (f_X7_distanceToObstacles (J (G 20)) (JA (S 4)) (JA (S 5)) (J x) (J y)) (fun o => ∃ M : Int, o = J M ∧ (0 ≤ M ∧ M ≤ 35) ∧ (∀ b : Int, 0 ≤ b → b < G 20 → M ≤ DI x y (G (21 + 2 * b)) (G (21 + 2 * b + 1))) ∧ ∃ b : Int, (0 ≤ b ∧ b < G 20) ∧ M = DI x y (G (21 + 2 * b)) (G (21 + 2 * b + 1))) := by
  have h20 := hw.2.2.1
  unfold f_X7_distanceToObstacles
  refine WP.bind (P0 := fun o => ∃ M : Int, o = J M ∧ (0 ≤ M ∧ M ≤ 35) ∧ (∀ b : Int, 0 ≤ b → b < G 20 → M ≤ DI x y (G (21 + 2 * b)) (G (21 + 2 * b + 1))) ∧ ∃ b : Int, (0 ≤ b ∧ b < G 20) ∧ M = DI x y (G (21 + 2 * b)) (G (21 + 2 * b + 1))) ?_ (fun e he => WP.ret he)
  refine lp_wp (fun j s => (j : Int) ≤ G 20 ∧ ∃ M : Int, s = (J M, J j) ∧ (0 ≤ M ∧ M ≤ 1000000) ∧ (∀ b : Int, 0 ≤ b → b < j → M ≤ DI x y (G (21 + 2 * b)) (G (21 + 2 * b + 1))) ∧ ((j = 0 ∧ M = 1000000) ∨ ∃ b : Int, (0 ≤ b ∧ b < j) ∧ M = DI x y (G (21 + 2 * b)) (G (21 + 2 * b + 1)))) (G 20).toNat (by omega) ⟨by omega, 1000000, rfl, by decide, fun b b0 b1 => by omega, Or.inl ⟨rfl, rfl⟩⟩ (fun j s hj hI => ?_)
  obtain ⟨i1, M, rfl, i2, i3, i4⟩ := hI
  unfold f_X7_distanceToObstacles_B7
  dsimp only
  by_cases q : (j : Int) = G 20
  · rw [if_pos (by rw [J_le (by clear i4; omega)]; omega)]
    rcases i4 with ⟨i4, -⟩ | ⟨b, b1, b2⟩
    · omega
    · have h4 := hw.2.2.2.1 b b1.1 (by omega)
      have h5 := DI_b (x := x) (y := y) (a := G (21 + 2 * b)) (b := G (21 + 2 * b + 1)) ⟨hx.1, hx.2, h4.1.1, h4.1.2⟩
      exact WP.ret (Or.inr ⟨_, rfl, M, rfl, by omega, fun b b0 b1 => i3 b b0 (by omega), b, by omega, b2⟩)
  · have h4 := hw.2.2.2.1 j (by clear i4; omega) (by clear i4; omega)
    have h5 := DI_b (x := x) (y := y) (a := G (21 + 2 * (j : Int))) (b := G (21 + 2 * (j : Int) + 1)) ⟨hx.1, hx.2, h4.1.1, h4.1.2⟩
    have h6 := hs.2.1 j (by clear i4; omega) (by clear i4; omega)
    rw [if_neg (by rw [J_le (by clear i4; omega)]; omega), if_neg (by rw [show (60 : Int32) = J 60 from rfl, J_le (by clear i4; omega)]; omega), JG (by clear i4; omega), JG (by clear i4; omega), JA_get _ (by clear i4; omega), JA_get _ (by clear i4; omega), h6.1, h6.2]
    refine WP.ob (e_distance (by clear i4; omega)) ?_
    simp only [LET]
    rw [J_imin (by clear i4; omega), show (1 : Int32) = J 1 from rfl, J_add]
    refine WP.ret (Or.inl ⟨_, rfl, by clear i4; omega, by clear i4; omega, min M (DI x y (G (21 + 2 * (j : Int))) (G (21 + 2 * (j : Int) + 1))), rfl, by clear i4; omega, fun b b0 b1 => ?_, ?_⟩)
    · by_cases z : b = j
      · rw [z]; clear i4; omega
      · have := i3 b b0 (by clear i4; omega)
        clear i4; omega
    · by_cases z : M ≤ DI x y (G (21 + 2 * (j : Int))) (G (21 + 2 * (j : Int) + 1))
      · rcases i4 with ⟨i4, i5⟩ | ⟨b, b1, b2⟩
        · exact Or.inr ⟨j, by omega, by omega⟩
        · exact Or.inr ⟨b, by omega, by omega⟩
      · exact Or.inr ⟨j, by clear i4; omega, by clear i4; omega⟩
/-- R is the least of R0 and the distances of the links from a on, below k -/
def LEA (G : Int → Int) (P : Nat → Int → Prop) (R0 R : Int) : Prop := R ≤ R0 ∧ (∀ (k : Nat) (i b : Int), P k i → 0 ≤ b → b < G 20 → R ≤ DC G k i b) ∧ (R = R0 ∨ ∃ (k : Nat) (i b : Int), P k i ∧ (0 ≤ b ∧ b < G 20) ∧ R = DC G k i b)
theorem LEA_trans {P Q T : Nat → Int → Prop} {R0 R R' : Int} (h1 : LEA G P R0 R) (h2 : LEA G Q R R') (hT : ∀ k i, T k i ↔ P k i ∨ Q k i) : LEA G T R0 R' := by
  obtain ⟨a1, a2, a3⟩ := h1
  obtain ⟨b1, b2, b3⟩ := h2
  refine ⟨Int.le_trans b1 a1, fun k i b hk h0 h3 => ?_, ?_⟩
  · rcases (hT k i).mp hk with z | z
    · exact Int.le_trans b1 (a2 k i b z h0 h3)
    · exact b2 k i b z h0 h3
  · rcases b3 with e | ⟨k, i, b, z, y, e⟩
    · rcases a3 with e2 | ⟨k, i, b, z, y, e2⟩
      · exact Or.inl (e.trans e2)
      · exact Or.inr ⟨k, i, b, (hT k i).mpr (Or.inl z), y, e.trans e2⟩
    · exact Or.inr ⟨k, i, b, (hT k i).mpr (Or.inr z), y, e⟩
theorem w_clear7 (hw : WF G) (hs : SC G S) (hg : 0 < G 20) (a1 a2 a3 a4 : Int32) (t : Nat → Int32) : WP (LPF (fun z => f_X7_clearance_B55 (J (G 0)) (J (G 20)) (JA (S 0)) (JA (S 3)) (JA (S 4)) (JA (S 5)) (JA (S 6)) a1 a2 a3 a4 (JA (BXf G (GV G) (nn G) B)) (JA (BYf G (GV G) (nn G) C)) (JA (WYf G (GV G) (nn G) D)) t z.1 z.2) lfuel (1000000, 0)) (fun e => ∃ R : Int, e = J R ∧ (0 ≤ R ∧ R ≤ 1000000) ∧ LEA G (fun k i => k < nn G ∧ 0 ≤ i ∧ i ≤ G (1 + 4 * k)) 1000000 R) := by
  have h0 := hw.1.1
  have h1 := nn_eq hw.1
  have h20 := hw.2.2.1
  refine lp_wp (fun k s => ∃ R : Int, s = (J R, J k) ∧ (0 ≤ R ∧ R ≤ 1000000) ∧ LEA G (fun a i => a < k ∧ 0 ≤ i ∧ i ≤ G (1 + 4 * a)) 1000000 R) (nn G) (by omega) ⟨1000000, rfl, by decide, Int.le_refl _, fun a i b z => absurd z.1 (Nat.not_lt_zero a), Or.inl rfl⟩ (fun k s hk hI => ?_)
  obtain ⟨R, rfl, hRb, hL⟩ := hI
  unfold f_X7_clearance_B55
  dsimp only
  by_cases q : k = nn G
  · rw [if_pos (by rw [J_le (by omega)]; omega)]
    subst q
    exact WP.ret (Or.inr ⟨_, rfl, R, rfl, hRb, hL⟩)
  · have hlen := hw.1.2 k (by omega) (by omega)
    have hln := hs.ln k (by omega) (by omega)
    rw [if_neg (by rw [J_le (by omega)]; omega), if_neg (by rw [show (4 : Int32) = J 4 from rfl, J_le (by omega)]; omega)]
    refine WP.bind (P0 := fun e => ∃ R' : Int, e = J R' ∧ (0 ≤ R' ∧ R' ≤ 1000000) ∧ LEA G (fun a i => a = k ∧ 0 ≤ i ∧ i ≤ G (1 + 4 * k)) R R') ?_ (fun e he => ?_)
    · refine lp_wp (fun j s => (j : Int) ≤ G (1 + 4 * k) + 1 ∧ ∃ R' : Int, s = (J R', J j) ∧ (0 ≤ R' ∧ R' ≤ 1000000) ∧ LEA G (fun a i => a = k ∧ 0 ≤ i ∧ i < (j : Int)) R R') (G (1 + 4 * k) + 1).toNat (by omega) ⟨by omega, R, rfl, hRb, Int.le_refl _, fun a i b z => by omega, Or.inl rfl⟩ (fun j s hj hI => ?_)
      obtain ⟨i1, R', rfl, hRb', hL'⟩ := hI
      unfold f_X7_clearance_B73
      dsimp only
      rw [JG (by omega), JA_get _ (by omega), hln]
      by_cases w : (j : Int) = G (1 + 4 * k) + 1
      · rw [if_pos (by rw [J_lt (by omega)]; omega)]
        refine WP.ret (Or.inr ⟨_, rfl, R', rfl, hRb', ?_⟩)
        refine ⟨hL'.1, fun a i b z => hL'.2.1 a i b ⟨z.1, z.2.1, by omega⟩, ?_⟩
        rcases hL'.2.2 with e | ⟨a, i, b, z, y, e⟩
        · exact Or.inl e
        · exact Or.inr ⟨a, i, b, ⟨z.1, z.2.1, by omega⟩, y, e⟩
      · have hr := CX_r hw.1 (GV G) (k := k) (by omega) (i := (j : Int)) (by omega)
        rw [if_neg (by rw [J_lt (by omega)]; omega)]
        refine WP.ob (e_cellX7 hw.1 (by omega) _) ?_
        refine WP.ob (e_cellY7 hw.1 (by omega) _) ?_
        refine WP.bind (w_dto hw hs hg hr) fun o ho => ?_
        obtain ⟨M, rfl, m1, m2, m3⟩ := ho
        simp only [LET]
        rw [J_imin (by omega), show (1 : Int32) = J 1 from rfl, J_add]
        refine WP.ret (Or.inl ⟨_, rfl, by omega, by omega, min R' M, pr2 rfl (congrArg J (by omega)), by omega, ?_⟩)
        refine LEA_trans hL' (Q := fun a i => a = k ∧ i = (j : Int)) ⟨by omega, fun a i b z b0 b1 => ?_, ?_⟩ (fun a i => ⟨fun z => ?_, fun z => ?_⟩)
        · obtain ⟨z1, z2⟩ := z
          subst z1 z2
          have := m2 b b0 b1
          unfold DC
          omega
        · by_cases z : R' ≤ M
          · exact Or.inl (by omega)
          · obtain ⟨b, b1, b2⟩ := m3
            exact Or.inr ⟨k, (j : Int), b, ⟨rfl, rfl⟩, b1, by unfold DC; omega⟩
        · by_cases y : i = (j : Int)
          · exact Or.inr ⟨z.1, y⟩
          · exact Or.inl ⟨z.1, z.2.1, by omega⟩
        · rcases z with z | z
          · exact ⟨z.1, z.2.1, by omega⟩
          · exact ⟨z.1, by omega, by omega⟩
    · obtain ⟨R', rfl, hRb', hL'⟩ := he
      simp only [LET]
      rw [show (1 : Int32) = J 1 from rfl, J_add]
      refine WP.ret (Or.inl ⟨_, rfl, by omega, R', rfl, hRb', ?_⟩)
      refine LEA_trans hL hL' (fun a i => ⟨fun z => ?_, fun z => ?_⟩)
      · by_cases y : a = k
        · subst y; exact Or.inr ⟨rfl, z.2⟩
        · exact Or.inl ⟨by omega, z.2⟩
      · rcases z with z | z
        · exact ⟨by omega, z.2⟩
        · obtain ⟨rfl, z⟩ := z
          exact ⟨by omega, z⟩
theorem w_clear8 (hw : WF G) (hv : LAID G (GV G) W X Y) (po : Nat → Int32) : WP (LPF (fun z => f_X8_clearance_B38 (J 0) (JA G) po (JA W) (JA X) (JA Y) z.1 z.2) lfuel (1000, 0)) (fun e => ∃ R : Int, e = J R ∧ (0 ≤ R ∧ R ≤ 1000) ∧ LEA G (fun k i => k < nn G ∧ 0 ≤ i ∧ i ≤ G (1 + 4 * k)) 1000 R) := by
  have h0 := hw.1.1
  have h1 := nn_eq hw.1
  have h20 := hw.2.2.1
  refine lp_wp (fun k s => ∃ R : Int, s = (J R, J k) ∧ (0 ≤ R ∧ R ≤ 1000) ∧ LEA G (fun a i => a < k ∧ 0 ≤ i ∧ i ≤ G (1 + 4 * a)) 1000 R) (nn G) (by omega) ⟨1000, rfl, by decide, Int.le_refl _, fun a i b z => absurd z.1 (Nat.not_lt_zero a), Or.inl rfl⟩ (fun k s hk hI => ?_)
  obtain ⟨R, rfl, hRb, hL⟩ := hI
  unfold f_X8_clearance_B38
  dsimp only
  rw [show (0 : Int32) = J 0 from rfl, JG (by omega), JA_get _ (by omega)]
  by_cases q : k = nn G
  · rw [if_pos (by rw [J_le (by omega)]; omega)]
    subst q
    exact WP.ret (Or.inr ⟨_, rfl, R, rfl, hRb, hL⟩)
  · have hlen := hw.1.2 k (by omega) (by omega)
    rw [if_neg (by rw [J_le (by omega)]; omega), if_pos rfl]
    refine WP.bind (P0 := fun e => ∃ R' : Int, e = J R' ∧ (0 ≤ R' ∧ R' ≤ 1000) ∧ LEA G (fun a i => a = k ∧ 0 ≤ i ∧ i ≤ G (1 + 4 * k)) R R') ?_ (fun e he => ?_)
    · refine lp_wp (fun j s => (j : Int) ≤ G (1 + 4 * k) + 1 ∧ ∃ R' : Int, s = (J R', J j) ∧ (0 ≤ R' ∧ R' ≤ 1000) ∧ LEA G (fun a i => a = k ∧ 0 ≤ i ∧ i < (j : Int)) R R') (G (1 + 4 * k) + 1).toNat (by omega) ⟨by omega, R, rfl, hRb, Int.le_refl _, fun a i b z => by omega, Or.inl rfl⟩ (fun j s hj hI => ?_)
      obtain ⟨i1, R', rfl, hRb', hL'⟩ := hI
      unfold f_X8_clearance_B57
      dsimp only
      refine WP.ob (e_lengthOf (by omega)) ?_
      by_cases w : (j : Int) = G (1 + 4 * k) + 1
      · rw [if_pos (by rw [J_lt (by omega)]; omega)]
        refine WP.ret (Or.inr ⟨_, rfl, R', rfl, hRb', ?_⟩)
        refine ⟨hL'.1, fun a i b z => hL'.2.1 a i b ⟨z.1, z.2.1, by omega⟩, ?_⟩
        rcases hL'.2.2 with e | ⟨a, i, b, z, y, e⟩
        · exact Or.inl e
        · exact Or.inr ⟨a, i, b, ⟨z.1, z.2.1, by omega⟩, y, e⟩
      · have hr := CX_r hw.1 (GV G) (k := k) (by omega) (i := (j : Int)) (by omega)
        rw [if_neg (by rw [J_lt (by omega)]; omega)]
        refine WP.bind (P0 := fun e => ∃ R2 : Int, e = J R2 ∧ (0 ≤ R2 ∧ R2 ≤ 1000) ∧ R2 ≤ R' ∧ (∀ b : Int, 0 ≤ b → b < G 20 → R2 ≤ DC G k j b) ∧ (R2 = R' ∨ ∃ b : Int, (0 ≤ b ∧ b < G 20) ∧ R2 = DC G k j b)) ?_ (fun e he => ?_)
        · refine lp_wp (fun c s => (c : Int) ≤ G 20 ∧ ∃ R2 : Int, s = (J R2, J c) ∧ (0 ≤ R2 ∧ R2 ≤ 1000) ∧ R2 ≤ R' ∧ (∀ b : Int, 0 ≤ b → b < c → R2 ≤ DC G k j b) ∧ (R2 = R' ∨ ∃ b : Int, (0 ≤ b ∧ b < G 20) ∧ R2 = DC G k j b)) (G 20).toNat (by omega) ⟨by omega, R', rfl, hRb', Int.le_refl _, fun b b0 b1 => by omega, Or.inl rfl⟩ (fun c s hc hI => ?_)
          obtain ⟨c1, R2, rfl, c2, c3, c4, c5⟩ := hI
          unfold f_X8_clearance_B69
          dsimp only
          rw [show (20 : Int32) = J 20 from rfl, JG (by omega), JA_get _ (by omega)]
          by_cases y : (c : Int) = G 20
          · rw [if_pos (by rw [J_le (by clear c5; omega)]; omega)]
            exact WP.ret (Or.inr ⟨_, rfl, R2, rfl, c2, c3, fun b b0 b1 => c4 b b0 (by clear c5; omega), c5⟩)
          · have h4 := hw.2.2.2.1 c (by clear c5; omega) (by clear c5; omega)
            have h5 := DC_b hw (k := k) (i := j) (b := c) (by clear c5; omega) (by clear c5; omega) (by clear c5; omega)
            rw [if_neg (by rw [J_le (by clear c5; omega)]; omega)]
            refine WP.ob (e_cellX8 hw.1 hv (by clear c5; omega) j) ?_
            refine WP.ob (e_cellY8 hw.1 hv (by clear c5; omega) j) ?_
            rw [show (21 : Int32) = J 21 from rfl, show (2 : Int32) = J 2 from rfl, show (1 : Int32) = J 1 from rfl, J_mul, J_add, J_add, JG (by clear c5; omega), JG (by clear c5; omega), JA_get _ (by clear c5; omega), JA_get _ (by clear c5; omega)]
            refine WP.ob (e_distance8 (by clear c5; omega)) ?_
            rw [show DI (CX G (GV G) k j) (CY G (GV G) k j) (G (21 + 2 * (c : Int))) (G (21 + 2 * (c : Int) + 1)) = DC G k j c from rfl]
            simp only [LET]
            rw [J_add]
            by_cases z : R2 ≤ DC G k j c
            · rw [if_pos (by rw [J_le (by clear c5; omega)]; exact z)]
              refine WP.ret (Or.inl ⟨_, rfl, by clear c5; omega, by clear c5; omega, R2, rfl, c2, c3, fun b b0 b1 => ?_, c5⟩)
              by_cases x : b = c
              · rw [x]; exact z
              · exact c4 b b0 (by clear c5; omega)
            · rw [if_neg (by rw [J_le (by clear c5; omega)]; exact z)]
              refine WP.ret (Or.inl ⟨_, rfl, by clear c5; omega, by clear c5; omega, DC G k j c, rfl, by clear c5; omega, by clear c5; omega, fun b b0 b1 => ?_, Or.inr ⟨c, by clear c5; omega, rfl⟩⟩)
              by_cases x : b = c
              · rw [x]; exact Int.le_refl _
              · have := c4 b b0 (by clear c5; omega)
                clear c5; omega
        · obtain ⟨R2, rfl, c2, c3, c4, c5⟩ := he
          simp only [LET]
          rw [show (1 : Int32) = J 1 from rfl, J_add]
          refine WP.ret (Or.inl ⟨_, rfl, by omega, by omega, R2, rfl, c2, ?_⟩)
          refine LEA_trans hL' (Q := fun a i => a = k ∧ i = (j : Int)) ⟨c3, fun a i b z b0 b1 => ?_, ?_⟩ (fun a i => ⟨fun z => ?_, fun z => ?_⟩)
          · obtain ⟨z1, z2⟩ := z
            subst z1 z2
            exact c4 b b0 b1
          · rcases c5 with e | ⟨b, b1, b2⟩
            · exact Or.inl e
            · exact Or.inr ⟨k, j, b, ⟨rfl, rfl⟩, b1, b2⟩
          · by_cases y : i = (j : Int)
            · exact Or.inr ⟨z.1, y⟩
            · exact Or.inl ⟨z.1, z.2.1, by omega⟩
          · rcases z with z | z
            · exact ⟨z.1, z.2.1, by omega⟩
            · exact ⟨z.1, by omega, by omega⟩
    · obtain ⟨R', rfl, hRb', hL'⟩ := he
      simp only [LET]
      rw [show (1 : Int32) = J 1 from rfl, J_add]
      refine WP.ret (Or.inl ⟨_, rfl, by omega, R', rfl, hRb', ?_⟩)
      refine LEA_trans hL hL' (fun a i => ⟨fun z => ?_, fun z => ?_⟩)
      · by_cases y : a = k
        · subst y; exact Or.inr ⟨rfl, z.2⟩
        · exact Or.inl ⟨by omega, z.2⟩
      · rcases z with z | z
        · exact ⟨by omega, z.2⟩
        · obtain ⟨rfl, z⟩ := z
          exact ⟨by omega, z⟩
theorem call_clearance (hR : REL ss aa pl po pa ms ma) : WP (f_X7_clearance (ss 10) (ss 11) (aa 1) (aa 4) (aa 5) (aa 6) (aa 0) (ss 14) (ss 15) (ss 16) (ss 17) (aa 7) (aa 8) (aa 9) (aa 10) ) (fun r => WP (f_X8_clearance (ms 4) (ma 0) (ma 3) (ma 4) (ma 5) (ma 6) ) (fun q => ((r.1 = 0 ∧ q.2.1 = J 0 ∧ r.2.1 = q.1) ∨ (r.1 = 4 ∧ q.2.1 = J 1)) ∧ REL (va_up (va_up (va_up (va_up ss 14 r.2.2.1) 15 r.2.2.2.1) 16 r.2.2.2.2.1) 17 r.2.2.2.2.2.1) (va_up (va_up (va_up (va_up aa 7 r.2.2.2.2.2.2.1) 8 r.2.2.2.2.2.2.2.1) 9 r.2.2.2.2.2.2.2.2.1) 10 r.2.2.2.2.2.2.2.2.2) pl po pa (va_up ms 4 q.2.1) (va_up (va_up (va_up (va_up ma 3 q.2.2.1) 4 q.2.2.2.1) 5 q.2.2.2.2.1) 6 q.2.2.2.2.2))) := by
  obtain ⟨G, S, hn, hsv, hh, hsp, hrt, hbk, hin, her, hx, hy⟩ := hR
  have hn0 := hn
  obtain ⟨⟨n1, n2⟩, ⟨n3, n4, n5, n6, n7, n8, n9⟩, n10, hs, hw⟩ := hn
  have h0 := hw.1.1
  have h1 := nn_eq hw.1
  have h20 := hw.2.2.1
  obtain ⟨F, W, X, Y, g1, g2, g3, g4, g5⟩ := w_now8 hw.1 (ma 3) (ma 4) (ma 5) (ma 6) hx hy
  by_cases q : 0 < G 0 ∧ 0 < G 20
  · obtain ⟨o, ho, f, l, B, C, D, a1, a2, a3, a4, a5, a6, a7, a8⟩ := w_along_own (v := GV G) hw.1 hw.2.2 hs.ln hs.vl hs.bl (ss 14) (ss 15) (ss 16) (ss 17) (aa 7) (aa 8) (aa 9) (aa 10)
    unfold f_X7_clearance
    simp only [n1, n2, n3, n4, n5, n6, n7, n8, n9, n10]
    rw [if_neg (by rw [show (0 : Int32) = J 0 from rfl, J_le (by omega)]; omega), if_pos (by rw [show (0 : Int32) = J 0 from rfl, J_lt (by omega)]; omega)]
    refine WP.ob ho ?_
    rw [a6, a7, a8]
    refine WP.bind (w_clear7 hw hs q.2 _ _ _ _ _) fun e he => ?_
    obtain ⟨R, rfl, r1, r2, r3, r4⟩ := he
    refine WP.ret ?_
    unfold f_X8_clearance
    rw [show (0 : Int32) = J 0 from rfl, show (20 : Int32) = J 20 from rfl, JG (by omega), JA_get _ (by omega), if_neg (by rw [J_eqv (by omega)]; omega), JG (by omega), JA_get _ (by omega), if_neg (by rw [J_eqv (by omega)]; omega)]
    unfold f_X8_clearance_L25
    refine WP.ob g1 ?_
    dsimp only
    refine WP.bind (w_clear8 hw g3 _) fun e he => ?_
    obtain ⟨R', rfl, k1, k2, k3, k4⟩ := he
    rw [if_pos (by decide)]
    refine WP.ret ⟨Or.inl ⟨rfl, rfl, congrArg J ?_⟩, G, S, ⟨⟨n1, n2⟩, ⟨n3, n4, n5, n6, n7, n8, n9⟩, n10, hs, hw⟩, hsv, hh, hsp, hrt, hbk, hin, her, g4, g5⟩
    have hlen0 := hw.1.2 0 (by omega) q.1
    have hin0 : (0 : Nat) < nn G ∧ (0 : Int) ≤ 0 ∧ (0 : Int) ≤ G (1 + 4 * ((0 : Nat) : Int)) := ⟨by omega, Int.le_refl _, by rw [show ((0 : Nat) : Int) = 0 from rfl]; omega⟩
    have hb0 := DC_b hw (k := 0) (i := 0) (b := 0) hin0.1 hin0.2 ⟨Int.le_refl _, q.2⟩
    have hr0 := r3 0 0 0 hin0 (Int.le_refl _) q.2
    have hk0 := k3 0 0 0 hin0 (Int.le_refl _) q.2
    apply Int.le_antisymm
    · rcases k4 with e | ⟨k, i, b, w1, w2, e⟩
      · omega
      · rw [e]
        exact r3 k i b w1 w2.1 w2.2
    · rcases r4 with e | ⟨k, i, b, w1, w2, e⟩
      · omega
      · rw [e]
        exact k3 k i b w1 w2.1 w2.2
  · have h7 : (f_X7_clearance (ss 10) (ss 11) (aa 1) (aa 4) (aa 5) (aa 6) (aa 0) (ss 14) (ss 15) (ss 16) (ss 17) (aa 7) (aa 8) (aa 9) (aa 10) ) = some (4, J 0, (ss 14), (ss 15), (ss 16), (ss 17), (aa 7), (aa 8), (aa 9), (aa 10)) := by
      unfold f_X7_clearance f_X7_clearance_L20
      simp only [n1, n2]
      by_cases z : 0 < G 0
      · simp (disch := omega) only [↓reduceIte, j_lits, J_add, J_sub, J_mul, J_neg, J_le, J_lt, J_eqv, J_div, J_imax, J_imin, JA_get, JG, JA_upd, LET, Option.bind_some, lt_T, lt_F, le_T, le_F, eq_T, eq_F, and_true, true_and, Int.sub_neg, Int.natCast_add, n_lits]
      · simp (disch := omega) only [↓reduceIte, j_lits, J_add, J_sub, J_mul, J_neg, J_le, J_lt, J_eqv, J_div, J_imax, J_imin, JA_get, JG, JA_upd, LET, Option.bind_some, lt_T, lt_F, le_T, le_F, eq_T, eq_F, and_true, true_and, Int.sub_neg, Int.natCast_add, n_lits]
    refine WP.eq h7 ?_
    unfold f_X8_clearance
    have fin : WP (f_X8_clearance_L25 (ms 4) (JA G) (ma 3) (ma 4) (ma 5) (ma 6) 1) (fun q => q = (J 0, J 1, JA F, JA W, JA X, JA Y)) := by
      unfold f_X8_clearance_L25
      refine WP.ob g1 ?_
      dsimp only
      refine WP.ob (a := J 1000) ?_ ?_
      · refine lp_for (fun k : Nat => (J 1000, J k)) 0 rfl (by omega) (fun k hk => absurd hk (Nat.not_lt_zero k)) ?_
        unfold f_X8_clearance_B38
        by_cases z : G 0 = 0
        · simp (disch := omega) only [↓reduceIte, j_lits, J_add, J_sub, J_mul, J_neg, J_le, J_lt, J_eqv, J_div, J_imax, J_imin, JA_get, JG, JA_upd, LET, Option.bind_some, lt_T, lt_F, le_T, le_F, eq_T, eq_F, and_true, true_and, Int.sub_neg, Int.natCast_add, n_lits]
        · simp (disch := omega) only [↓reduceIte, j_lits, J_add, J_sub, J_mul, J_neg, J_le, J_lt, J_eqv, J_div, J_imax, J_imin, JA_get, JG, JA_upd, LET, Option.bind_some, lt_T, lt_F, le_T, le_F, eq_T, eq_F, and_true, true_and, Int.sub_neg, Int.natCast_add, n_lits]
      · rw [if_neg (by decide)]
        exact WP.ret rfl
    rw [n10, show (0 : Int32) = J 0 from rfl, show (20 : Int32) = J 20 from rfl, JG (by omega), JA_get _ (by omega)]
    by_cases z : G 0 = 0
    · rw [if_pos (congrArg J z)]
      refine WP.mono fin fun q hq => ?_
      subst hq
      exact ⟨Or.inr ⟨rfl, rfl⟩, G, S, ⟨⟨n1, n2⟩, ⟨n3, n4, n5, n6, n7, n8, n9⟩, n10, hs, hw⟩, hsv, hh, hsp, hrt, hbk, hin, her, g4, g5⟩
    · rw [if_neg (by rw [J_eqv (by omega)]; exact z), JG (by omega), JA_get _ (by omega), if_pos (congrArg J (by omega))]
      refine WP.mono fin fun q hq => ?_
      subst hq
      exact ⟨Or.inr ⟨rfl, rfl⟩, G, S, ⟨⟨n1, n2⟩, ⟨n3, n4, n5, n6, n7, n8, n9⟩, n10, hs, hw⟩, hsv, hh, hsp, hrt, hbk, hin, her, g4, g5⟩
end
