/-! freedom -/
theorem fr_nn {α : Type} {k : Option α} (p f : Int32) (hf : ¬ f = 0) : GNN (FP.ddiv (FP.i2d p) (FP.i2d f)) k = k := by
  have h := dd_nn p f hf
  have h2 : ¬ 9218868437227405312 < (FP.Core.ddiv (FP.Core.i2d p) (FP.Core.i2d f)).toNat % 2 ^ 63 := fun w => by
    rw [(FP.Core.isNaN_bits _).mpr w] at h
    cases h
  unfold GNN
  rw [if_pos]
  rw [UInt64.le_iff_toNat_le, UInt64.toNat_and]
  show (FP.Core.ddiv (FP.Core.i2d p) (FP.Core.i2d f)).toNat &&& 9223372036854775807 ≤ 9218868437227405312
  rw [show (9223372036854775807 : Nat) = 2 ^ 63 - 1 from rfl, Nat.and_two_pow_sub_one_eq_mod]
  omega
noncomputable def MCN (G : Int → Int) (p : Int) : Nat → Int
  | 0 => 0
  | m + 1 => if 0 ≤ NB G p m then MCN G p m + 1 else MCN G p m
noncomputable def MSM (G : Int → Int) : Nat → Int
  | 0 => 0
  | k + 1 => if 0 ≤ TP G k then MSM G k + MCN G k 8 else MSM G k
section
variable {ss : Nat → Int32} {aa : Nat → Nat → Int32} {pl po : Nat → Int32} {pa : Nat → Nat → Nat → Int32} {ms : Nat → Int32} {ma : Nat → Nat → Int32} {G D Q T A sp st : Int → Int} {S : Nat → Int → Int} {p x : Int}
theorem MCN_y {m : Nat} (h : 0 ≤ NB G p m) : MCN G p (m + 1) = MCN G p m + 1 := if_pos h
theorem MCN_n {m : Nat} (h : ¬ 0 ≤ NB G p m) : MCN G p (m + 1) = MCN G p m := if_neg h
theorem MSM_y {k : Nat} (h : 0 ≤ TP G k) : MSM G (k + 1) = MSM G k + MCN G k 8 := if_pos h
theorem MSM_n {k : Nat} (h : ¬ 0 ≤ TP G k) : MSM G (k + 1) = MSM G k := if_neg h
theorem MCN_b (G : Int → Int) (p : Int) : ∀ m : Nat, 0 ≤ MCN G p m ∧ MCN G p m ≤ m
  | 0 => ⟨Int.le_refl _, Int.le_refl _⟩
  | m + 1 => by
    have h1 := MCN_b G p m
    by_cases q : 0 ≤ NB G p m
    · rw [MCN_y q]; omega
    · rw [MCN_n q]; omega
theorem MSM_b (G : Int → Int) : ∀ k : Nat, 0 ≤ MSM G k ∧ MSM G k ≤ 8 * (k : Int)
  | 0 => ⟨Int.le_refl _, Int.le_refl _⟩
  | k + 1 => by
    have h1 := MSM_b G k
    have h2 := MCN_b G k 8
    by_cases q : 0 ≤ TP G k
    · rw [MSM_y q]; omega
    · rw [MSM_n q]; omega
theorem MCN_all (hl : WL G) (p : Int) : ∀ j : Nat, MCN G p (2 * nn G + j) = MCN G p (2 * nn G)
  | 0 => rfl
  | j + 1 => by
    have h0 := hl.1
    have h1 := nn_eq hl
    show MCN G p (2 * nn G + j + 1) = _
    rw [MCN_n (by rw [show NB G p ((2 * nn G + j : Nat) : Int) = -1 from NX_out (by omega)]; decide), MCN_all hl p j]
theorem e_movesFrom (hl : WL G) (hN : NP G ≤ 5000) (hsp : SPN G sp st) (hT : ∀ q : Int, 0 ≤ q → q < NP G → T q = TP G q) (hp : 0 ≤ p ∧ p < NP G) : f_X5_movesFrom (J (NP G)) (J (G 0)) (JA sp) (JA st) (JA T) (J p) = some (J (MCN G p 8)) := by
  have hP := NP_b hl
  have hT2 : ∀ q : Int, 0 ≤ q → q < NP G → -1 ≤ T q ∧ T q ≤ 440 := fun q a b => by rw [hT q a b]; exact TP_b G q
  unfold f_X5_movesFrom
  refine lp_bind (fun k : Nat => (J (MCN G p k), J k)) 8 rfl (by omega) (fun k hk => ?_) (e := J (MCN G p 8)) ?_ rfl
  · have hx := e_after hl hsp hN hT2 hp (m := k) (by omega)
    rw [NX_T hl hT hp (by omega)] at hx
    have hr := NB_r hl hp (m := k) (by omega)
    unfold f_X5_movesFrom_B4
    dsimp only
    rw [if_neg (by rw [show (8 : Int32) = J 8 from rfl, J_le (by omega)]; omega)]
    refine ob _ hx ?_
    by_cases z : 0 ≤ NB G p k
    · rw [if_neg (by rw [show (0 : Int32) = J 0 from rfl, J_lt (by omega)]; omega), MCN_y z]
      simp only [LET]
      rw [show (1 : Int32) = J 1 from rfl, J_add, J_add]
      rfl
    · rw [if_pos (by rw [show (0 : Int32) = J 0 from rfl, J_lt (by omega)]; omega), MCN_n z]
      simp only [LET]
      rw [show (1 : Int32) = J 1 from rfl, J_add]
      rfl
  · unfold f_X5_movesFrom_B4
    exact if_pos (show (8 : Int32) ≤ J 8 from by decide)
theorem e_sum8 (hl : WL G) (hN : NP G ≤ 5000) (hA : ∀ q : Int, 0 ≤ q → q < NP G → A q = FRI G q) (t f n : Int32) (po wy px py ti : Nat → Int32) : LPF (fun z => f_X8_freedom_B35 t f (JA G) po wy px py (JA A) ti n z.1 z.2) lfuel (0, 0) = some (J (MSM G (NP G).toNat)) := by
  have hP := NP_b hl
  have h0 := hl.1
  have h1 := nn_eq hl
  refine lp_for (fun k : Nat => (J (MSM G k), J k)) (NP G).toNat rfl (by omega) (fun k hk => ?_) ?_
  · have hb := MSM_b G k
    have hA0 := hA k (by omega) (by omega)
    unfold f_X8_freedom_B35
    dsimp only
    refine ob _ (e_poses8 hl) ?_
    rw [if_neg (by rw [J_le (by omega)]; omega)]
    have e8 := MCN_all hl k (8 - 2 * nn G)
    rw [show 2 * nn G + (8 - 2 * nn G) = 8 by omega] at e8
    refine ob (J (MSM G (k + 1))) ?_ ?_
    · refine lp_for (fun m : Nat => (J (MSM G k + if 0 ≤ TP G k then MCN G k m else 0), J m)) (2 * nn G) ?_ (by omega) (fun m hm => ?_) ?_
      · refine pr2 (congrArg J ?_) rfl
        by_cases z : 0 ≤ TP G k
        · rw [if_pos z]; exact (Int.add_zero _).symm
        · rw [if_neg z]; exact (Int.add_zero _).symm
      · have hm2 := MCN_b G k m
        unfold f_X8_freedom_B46
        dsimp only
        rw [show (0 : Int32) = J 0 from rfl, JG (by omega), JA_get _ (by omega), show (2 : Int32) = J 2 from rfl, J_mul, if_neg (by rw [J_le (by omega)]; omega), JG (by omega), JA_get _ (by omega), hA0]
        rcases FRI_c G k with ⟨e1, e2⟩ | ⟨e1, e2⟩
        · rw [e1, if_neg (show ¬ J 1 = J 0 by decide)]
          refine ob _ (e_behind hl (p := k) ⟨by omega, by omega⟩ (m := m) (by omega)) ?_
          have hlt := BH_lt hl (m := m) (by omega) (by omega) (p := k) ⟨by omega, by show (k : Int) < NP G; omega⟩
          unfold f_X8_freedom_L79
          rw [if_pos e2, if_pos e2]
          by_cases z1 : BH G k m < 0
          · have e3 : NB G k m = -1 := if_neg (by omega)
            rw [if_pos (by rw [show (0 : Int32) = J 0 from rfl, J_lt (by omega)]; exact z1), MCN_n (by omega)]
            simp only [LET]
            rw [show (0 : Int32) = J 0 from rfl, show (1 : Int32) = J 1 from rfl, J_add, J_add, Int.add_zero]
            rfl
          · have hbb : BH G k m < NP G := BH_b hl ⟨by omega, by show (k : Int) < NP G; omega⟩ (m := m) (by omega) (by omega) (by omega)
            have hA1 := hA (BH G k m) (by omega) hbb
            rw [if_neg (by rw [show (0 : Int32) = J 0 from rfl, J_lt (by omega)]; exact z1), JG (by omega), JA_get _ (by omega), hA1]
            rcases FRI_c G (BH G k m) with ⟨e3, e4⟩ | ⟨e3, e4⟩
            · have e5 : NB G k m = BH G k m := if_pos (by omega)
              rw [e3, if_neg j1n, MCN_y (by omega)]
              simp only [LET]
              rw [show (1 : Int32) = J 1 from rfl, J_add, J_add, Int.add_assoc]
              rfl
            · have e5 : NB G k m = -1 := if_neg (by omega)
              rw [e3, if_pos (by rfl), MCN_n (by omega)]
              simp only [LET]
              rw [show (0 : Int32) = J 0 from rfl, show (1 : Int32) = J 1 from rfl, J_add, J_add, Int.add_zero]
              rfl
        · rw [e1, if_pos rfl, if_neg (by omega), if_neg (by omega)]
          unfold f_X8_freedom_L79
          rw [if_pos (by decide)]
          simp only [LET]
          rw [show (0 : Int32) = J 0 from rfl, show (1 : Int32) = J 1 from rfl, J_add, J_add]
          simp only [Int.add_zero]
          rfl
      · unfold f_X8_freedom_B46
        dsimp only
        rw [show (0 : Int32) = J 0 from rfl, JG (by omega), JA_get _ (by omega), show (2 : Int32) = J 2 from rfl, J_mul, if_pos (by rw [J_le (by omega)]; omega)]
        by_cases z : 0 ≤ TP G k
        · rw [if_pos z, MSM_y z, e8]
        · rw [if_neg z, MSM_n z, Int.add_zero]
    · simp only [LET]
      rw [show (1 : Int32) = J 1 from rfl, J_add]
      rfl
  · unfold f_X8_freedom_B35
    dsimp only
    refine ob _ (e_poses8 hl) ?_
    rw [if_pos (by rw [J_le (by omega)]; omega)]
theorem call_freedom (hR : REL ss aa pl po pa ms ma) : WP (f_X7_freedom (ss 10) (aa 1) (aa 2) (aa 3) (aa 0) (ss 2) (ss 3) (ss 4) (aa 12) (aa 13) (aa 14) (ss 18) (ss 19) (ss 20) (ss 21) (aa 15) (aa 16) (aa 17) (aa 18) (aa 19) ) (fun r => WP (f_X8_freedom (ms 4) (ms 5) (ma 0) (ma 3) (ma 4) (ma 5) (ma 6) (ma 7) (ma 8) ) (fun q => ((r.1 = 0 ∧ q.2.1 = J 0 ∧ r.2.1 = q.1) ∨ (r.1 = 2 ∧ q.2.1 = J 1) ∨ (r.1 = 5 ∧ q.2.1 = J 2)) ∧ REL (va_up (va_up (va_up (va_up (va_up (va_up (va_up ss 2 r.2.2.1) 3 r.2.2.2.1) 4 r.2.2.2.2.1) 18 r.2.2.2.2.2.2.2.2.1) 19 r.2.2.2.2.2.2.2.2.2.1) 20 r.2.2.2.2.2.2.2.2.2.2.1) 21 r.2.2.2.2.2.2.2.2.2.2.2.1) (va_up (va_up (va_up (va_up (va_up (va_up (va_up (va_up aa 12 r.2.2.2.2.2.1) 13 r.2.2.2.2.2.2.1) 14 r.2.2.2.2.2.2.2.1) 15 r.2.2.2.2.2.2.2.2.2.2.2.2.1) 16 r.2.2.2.2.2.2.2.2.2.2.2.2.2.1) 17 r.2.2.2.2.2.2.2.2.2.2.2.2.2.2.1) 18 r.2.2.2.2.2.2.2.2.2.2.2.2.2.2.2.1) 19 r.2.2.2.2.2.2.2.2.2.2.2.2.2.2.2.2) pl po pa (va_up (va_up ms 4 q.2.1) 5 q.2.2.1) (va_up (va_up (va_up (va_up (va_up (va_up ma 3 q.2.2.2.1) 4 q.2.2.2.2.1) 5 q.2.2.2.2.2.1) 6 q.2.2.2.2.2.2.1) 7 q.2.2.2.2.2.2.2.1) 8 q.2.2.2.2.2.2.2.2))) := by
  obtain ⟨G, S, hn, hsv, hh, hsp, hrt, hbk, hin, her, hx, hy⟩ := hR
  have hn0 := hn
  obtain ⟨⟨n1, n2⟩, ⟨n3, n4, n5, n6, n7, n8, n9⟩, n10, hs, hw⟩ := hn
  have hP := NP_b hw.1
  by_cases q : NP G ≤ 5000
  · have hc := CNT_b (P := fun p => 0 ≤ TP G p) (NP G).toNat
    have hm := MSM_b G (NP G).toNat
    have w8 : WP (f_X8_freedom (ms 4) (ms 5) (ma 0) (ma 3) (ma 4) (ma 5) (ma 6) (ma 7) (ma 8) ) (fun q => (if CNT (fun p => 0 ≤ TP G p) (NP G).toNat = 0 then q.2.1 = J 2 else q.2.1 = J 0 ∧ q.1 = FP.ddiv (FP.i2d (J (MSM G (NP G).toNat))) (FP.i2d (J (CNT (fun p => 0 ≤ TP G p) (NP G).toNat)))) ∧ Z0 q.2.2.2.2.2.1 ∧ Z0 q.2.2.2.2.2.2.1) := by
      unfold f_X8_freedom
      rw [n10]
      refine WP.ob (e_isMany0 hw.1 q) ?_
      rw [if_pos (by rfl)]
      unfold f_X8_freedom_L13
      rw [if_pos (by decide)]
      refine WP.bind (P0 := fun e => e.1 = J (CNT (fun p => 0 ≤ TP G p) (NP G).toNat) ∧ Z0 e.2.2.2.2.1 ∧ Z0 e.2.2.2.2.2.1 ∧ ∃ A : Int → Int, e.2.2.2.2.2.2.1 = JA A ∧ ∀ q : Int, 0 ≤ q → q < NP G → A q = FRI G q) ?_ (fun e he => ?_)
      · unfold f_X8_freeAt
        refine WP.bind (w_laysAll hw.1 hw.2.2 q _ _ _ _ _ _ _ hx hy) fun o2 ho2 => ?_
        obtain ⟨⟨x8, y8⟩, A, T, j1, j2, j3⟩ := ho2
        rw [j1, j2]
        refine WP.ob (e_count8 hw.1 q j3 _ _ _ _ _) ?_
        exact WP.ret ⟨rfl, x8, y8, A, rfl, fun q a b => (j3 q a b).1⟩
      · obtain ⟨e1, x8, y8, A, e2, e3⟩ := he
        rw [e1, e2]
        refine WP.ob (e_sum8 hw.1 q e3 _ _ _ _ _ _ _ _) ?_
        by_cases z : CNT (fun p => 0 ≤ TP G p) (NP G).toNat = 0
        · rw [if_pos (by rw [z]; rfl)]
          simp only [if_pos z]
          unfold f_X8_freedom_L126
          rw [if_neg (by decide)]
          exact WP.ret ⟨rfl, x8, y8⟩
        · rw [if_neg (by rw [show (0 : Int32) = J 0 from rfl, J_eqv (by omega)]; exact z)]
          simp only [if_neg z]
          unfold f_X8_freedom_L126
          rw [if_pos (by decide), fr_nn _ _ (by rw [show (0 : Int32) = J 0 from rfl, J_eqv (by omega)]; exact z)]
          exact WP.ret ⟨⟨rfl, rfl⟩, x8, y8⟩
    unfold f_X7_freedom
    simp only [n1, n2, n3, n4, n5, n6, n7, n8, n9, n10]
    refine WP.bind (w_surveyPoses hw hs hsp q _ _ _ _ _ _ _ _ _) fun o ho => ?_
    obtain ⟨k0, k1, k2, k3, sp, st, T, k4, k5, k6, k7, k8⟩ := ho
    rw [if_pos k0]
    simp only [k1, k2, k3, k4, k5, k6]
    refine WP.ob (a := (J (CNT (fun p => 0 ≤ TP G p) (NP G).toNat), J (MSM G (NP G).toNat))) ?_ ?_
    · refine lp_for (fun k : Nat => (J (CNT (fun p => 0 ≤ TP G p) k), J (MSM G k), J k)) (NP G).toNat rfl (by omega) (fun k hk => ?_) ?_
      · have h1 := k8 k (by omega) (by omega)
        have h2 := TP_b G k
        unfold f_X7_freedom_B10
        dsimp only
        rw [if_neg (by rw [J_le (by omega)]; omega)]
        by_cases z : 0 ≤ TP G k
        · rw [CNT_y (P := fun p => 0 ≤ TP G p) z, MSM_y z]
          refine ob _ (e_isFree1 (by omega) (by omega)) ?_
          rw [if_neg j1n]
          simp only [LET]
          refine ob _ (e_movesFrom hw.1 q k7 k8 ⟨by omega, by omega⟩) ?_
          rw [show (1 : Int32) = J 1 from rfl, J_add, J_add, J_add]
          rfl
        · rw [CNT_n (P := fun p => 0 ≤ TP G p) z, MSM_n z]
          refine ob _ (e_isFree0 (by omega) (by omega)) ?_
          rw [if_pos (by rfl)]
          simp only [LET]
          rw [show (1 : Int32) = J 1 from rfl, J_add]
          rfl
      · unfold f_X7_freedom_B10
        dsimp only
        rw [if_pos (by rw [J_le (by omega)]; omega)]
    · by_cases z : CNT (fun p => 0 ≤ TP G p) (NP G).toNat = 0
      · rw [if_pos (by rw [z]; rfl)]
        simp only [if_pos z] at w8
        rw [n10] at w8
        refine WP.ret (WP.mono w8 fun o8 ho8 => ?_)
        exact ⟨Or.inr (Or.inr ⟨rfl, ho8.1⟩), G, S, ⟨⟨n1, n2⟩, ⟨n3, n4, n5, n6, n7, n8, n9⟩, n10, hs, hw⟩, hsv, hh, Or.inr ⟨rfl, q, rfl, rfl, sp, st, T, rfl, rfl, rfl, k7, k8⟩, RRTE_k hrt, hbk, hin, her, ho8.2.1, ho8.2.2⟩
      · rw [if_neg (by rw [show (0 : Int32) = J 0 from rfl, J_eqv (by omega)]; exact z), fr_nn _ _ (by rw [show (0 : Int32) = J 0 from rfl, J_eqv (by omega)]; exact z)]
        simp only [if_neg z] at w8
        rw [n10] at w8
        refine WP.ret (WP.mono w8 fun o8 ho8 => ?_)
        exact ⟨Or.inl ⟨rfl, ho8.1.1, ho8.1.2.symm⟩, G, S, ⟨⟨n1, n2⟩, ⟨n3, n4, n5, n6, n7, n8, n9⟩, n10, hs, hw⟩, hsv, hh, Or.inr ⟨rfl, q, rfl, rfl, sp, st, T, rfl, rfl, rfl, k7, k8⟩, RRTE_k hrt, hbk, hin, her, ho8.2.1, ho8.2.2⟩
  · have h7 : (f_X7_freedom (ss 10) (aa 1) (aa 2) (aa 3) (aa 0) (ss 2) (ss 3) (ss 4) (aa 12) (aa 13) (aa 14) (ss 18) (ss 19) (ss 20) (ss 21) (aa 15) (aa 16) (aa 17) (aa 18) (aa 19) ) = some (2, 0, (ss 2), (ss 3), (ss 4), (aa 12), (aa 13), (aa 14), (ss 18), (ss 19), (ss 20), (ss 21), (aa 15), (aa 16), (aa 17), (aa 18), (aa 19)) := by
      unfold f_X7_freedom
      simp only [n1, n2, n3, n4, n5, n6, n7, n8, n9, n10]
      exact ob _ (e_surveyPoses_no hw hs (by omega) _ _ _ _ _ _ _ _ _ _ _ _ _ _ _) rfl
    have h8 : (f_X8_freedom (ms 4) (ms 5) (ma 0) (ma 3) (ma 4) (ma 5) (ma 6) (ma 7) (ma 8) ) = some (FP.dconst0, J 1, (ms 5), (ma 3), (ma 4), (ma 5), (ma 6), (ma 7), (ma 8)) := by
      unfold f_X8_freedom f_X8_freedom_L13
      rw [n10]
      exact ob _ (e_isMany1 hw.1 (by omega)) rfl
    exact ⟨_, h7, _, h8, Or.inr (Or.inl ⟨rfl, rfl⟩), G, S, hn0, hsv, hh, hsp, hrt, hbk, hin, her, hx, hy⟩
end
