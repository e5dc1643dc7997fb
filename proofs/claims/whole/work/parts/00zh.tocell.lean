/-! plans to a cell, and to the nearest of what is reached -/
noncomputable def DT (G : Int → Int) (x y p : Int) : Int := DI (TP G p / 21 - 10) (TP G p % 21 - 10) x y
noncomputable def prD (G : Int → Int) (x y w : Int) : Int → Bool := fun p => decide (0 ≤ TP G p ∧ DT G x y p = w)
section
variable {ss : Nat → Int32} {aa : Nat → Nat → Int32} {pl po : Nat → Int32} {pa : Nat → Nat → Nat → Int32} {ms : Nat → Int32} {ma : Nat → Nat → Int32} {G D E Q T A sp st F F' : Int → Int} {S : Nat → Int → Int} {P : Int → Prop} {pr : Int → Bool} {s : BS} {x y w : Int}
theorem prD_f (q : Int) (h : prD G x y w q = true) : 0 ≤ TP G q := (of_decide_eq_true h).1
theorem sts_y {k : Nat} (h : pr k = true) : sts pr (k + 1) s = tryq (sts pr k s) k 0 := if_pos h
theorem sts_n {k : Nat} (h : ¬ pr k = true) : sts pr (k + 1) s = sts pr k s := if_neg h
theorem DI_0 {t : Int} (ht : 0 ≤ t ∧ t ≤ 440) (hx : (-10 ≤ x ∧ x ≤ 10) ∧ -10 ≤ y ∧ y ≤ 10) : DI (t / 21 - 10) (t % 21 - 10) x y = 0 ↔ t = CN x y := by
  unfold DI CN
  omega
theorem DT_b {p : Int} (h : 0 ≤ TP G p) (hx : (-10 ≤ x ∧ x ≤ 10) ∧ -10 ≤ y ∧ y ≤ 10) : 0 ≤ DT G x y p ∧ DT G x y p ≤ 20 := by
  have h1 := TP_b G p
  unfold DT DI
  omega
theorem w_tips7 (hl : WL G) (hN : NP G ≤ 5000) (hsp : SPN G sp st) (hT : ∀ q : Int, 0 ≤ q → q < NP G → T q = TP G q) (hx : (-10 ≤ x ∧ x ≤ 10) ∧ -10 ≤ y ∧ y ≤ 10) (hw : (-2147483648 ≤ w ∧ w ≤ 2147483647)) (rc : Int32) (dist found : Nat → Int32) :
    WP (f_X7_searchFromTips (J (NP G)) (J (G 0)) rc (JA sp) (JA st) (JA T) dist found (J x) (J y) (J w)) (fun o => ∃ s : BS, o = (J s.2.2, JA s.1, JA s.2.1) ∧ OK (NP G) s ∧ LK (NP G) s (SR G (prD G x y w))) := by
  have hP := NP_b hl
  obtain ⟨D, rfl, -⟩ := JA_ex dist
  obtain ⟨Q, rfl, -⟩ := JA_ex found
  have zD : ∀ p : Int, 0 ≤ p → p < NP G → FLL 5000 (-1) D p = -1 := fun p a b => FL_in (by omega)
  have z1 : OK (NP G) (FLL 5000 (-1) D, Q, 0) := ok_E0 _ _ zD
  have z2 : LK (NP G) (FLL 5000 (-1) D, Q, 0) E0 := lk_E0 _ _ zD
  obtain ⟨z0, hz0⟩ : ∃ z0 : BS, z0 = (FLL 5000 (-1) D, Q, 0) := ⟨_, rfl⟩
  have hb : ∀ c, f_X5_beginSearch c (JA D) = some (J 0, JA z0.1) := fun c => by rw [hz0]; exact e_beginSearch c D
  have hz1 : z0.2.1 = Q := by rw [hz0]
  have hz2 : z0.2.2 = 0 := by rw [hz0]
  have hz3 : ∀ p : Int, 0 ≤ p → p < NP G → z0.1 p = -1 := by rw [hz0]; exact zD
  rw [← hz0] at z1 z2
  clear hz0 zD
  have hk := sts_ok (pr := prD G x y w) z1 hz3 (NP G).toNat (by omega)
  have hlk := sts_lk (pr := prD G x y w) z2 (NP G).toNat (by omega)
  unfold f_X7_searchFromTips
  refine WP.ob (hb _) ?_
  refine WP.ob (a := (J (sts (prD G x y w) (NP G).toNat z0).2.2, JA (sts (prD G x y w) (NP G).toNat z0).1, JA (sts (prD G x y w) (NP G).toNat z0).2.1)) ?_ ?_
  · refine lp_for (fun k : Nat => (J (sts (prD G x y w) k z0).2.2, JA (sts (prD G x y w) k z0).1, JA (sts (prD G x y w) k z0).2.1, J k)) (NP G).toNat (by show _ = (J z0.2.2, JA z0.1, JA z0.2.1, J 0); rw [hz1, hz2]; rfl) (by omega) (fun k hk => ?_) ?_
    · have h1 := sts_ok (pr := prD G x y w) z1 hz3 k (by omega)
      have h2 := TP_b G k
      have hr := reach_st (T := T) (s := sts (prD G x y w) k z0) (p := k) ⟨by omega, hN⟩ hT h1.1 ⟨by omega, by omega⟩
      unfold f_X7_searchFromTips_B10
      dsimp only
      rw [if_neg (by rw [J_le (by omega)]; omega)]
      refine ob _ (e_tipOf (by omega)) ?_
      rw [hT k (by omega) (by omega)]
      by_cases z : 0 ≤ TP G k
      · have h3 := DT_b (G := G) (p := k) z hx
        refine ob _ (e_isCellNumber1 (by omega)) ?_
        rw [if_neg (by decide)]
        refine ob _ (e_cellX (by omega)) ?_
        refine ob _ (e_cellY (by omega)) ?_
        refine ob _ (e_distance (by omega)) ?_
        show (if J (DT G x y k) = J w then _ else _) = _
        by_cases z2 : DT G x y k = w
        · rw [if_pos (congrArg J z2), sts_y (decide_eq_true ⟨z, z2⟩)]
          refine ob _ hr ?_
          rw [if_pos z, show (1 : Int32) = J 1 from rfl, J_add]
          rfl
        · rw [if_neg (by rw [J_eqv ⟨by omega, hw⟩]; exact z2), sts_n (fun h => z2 (of_decide_eq_true h).2)]
          rw [show (1 : Int32) = J 1 from rfl, J_add]
          rfl
      · refine ob _ (e_isCellNumber0 (by omega)) ?_
        rw [if_pos (by rfl), sts_n (fun h => z (of_decide_eq_true h).1)]
        rw [show (1 : Int32) = J 1 from rfl, J_add]
        rfl
    · unfold f_X7_searchFromTips_B10
      dsimp only
      rw [if_pos (by rw [J_le (by omega)]; omega)]
  · refine WP.ob (e_spread hl hN hsp hT hk.1 (i := 0) (by omega)) ?_
    refine WP.ret ⟨_, rfl, ok_spr (NB_n hl) _ _ _ hk.1, ?_⟩
    exact lk_spr (NB_n hl) _ _ _ _ (sts_ok (ok_E0 _ _ (fun _ _ _ => rfl)) (fun _ _ _ => rfl) _ (by omega)).1 hlk
theorem toCell_s (hl : WL G) (hN : NP G ≤ 5000) (qd : Int32) (far qu : Nat → Int32) (pr : Int → Bool) : ∃ s : BS, f_X8_forgets qd (JA G) far = some (J 0, JA s.1) ∧ qu = JA s.2.1 ∧ s.2.2 = 0 ∧ OK (NP G) s ∧ LK (NP G) s E0 ∧ ∀ p : Int, 0 ≤ p → p < NP G → s.1 p = -1 := by
  obtain ⟨D, rfl, -⟩ := JA_ex far
  obtain ⟨Q, rfl, -⟩ := JA_ex qu
  have zD : ∀ p : Int, 0 ≤ p → p < NP G → FLL (NP G) (-1) D p = -1 := fun p a b => FL_in (by omega)
  exact ⟨(FLL (NP G) (-1) D, Q, 0), e_forgets hl hN qd D, rfl, rfl, ok_E0 _ _ zD, lk_E0 _ _ zD, zD⟩
theorem w_toCell (hw : WF G) (hN : NP G ≤ 5000) (hx : (-10 ≤ x ∧ x ≤ 10) ∧ -10 ≤ y ∧ y ≤ 10) (fa qd : Int32) (po wy px py fr ti far qu : Nat → Int32) (hpx : Z0 px) (hpy : Z0 py) :
    WP (f_X8_toCell fa qd (JA G) po wy px py fr ti far qu (J (CN x y))) (fun o => (Z0 o.2.2.2.2.1 ∧ Z0 o.2.2.2.2.2.1) ∧ ∃ A E : Int → Int, o.2.2.2.2.2.2.1 = JA A ∧ o.2.2.2.2.2.2.2.2.1 = JA E ∧ (∀ q : Int, 0 ≤ q → q < NP G → A q = FRI G q) ∧ (∀ q : Int, 0 ≤ q → q < NP G → E q = (SR G (prD G x y 0)).1 q)) := by
  have hl := hw.1
  have hP := NP_b hl
  unfold f_X8_toCell
  refine WP.bind (w_laysAll hl hw.2.2 hN _ _ _ _ _ _ _ hpx hpy) fun o2 ho2 => ?_
  obtain ⟨⟨x8, y8⟩, A, T2, j1, j2, j3⟩ := ho2
  obtain ⟨z0, g1, rfl, g3, z1, z2, hz3⟩ := toCell_s hl hN qd far qu (prD G x y 0)
  have hk := sts_ok (pr := prD G x y 0) z1 hz3 (NP G).toNat (by omega)
  have hlk := sts_lk (pr := prD G x y 0) z2 (NP G).toNat (by omega)
  refine WP.ob g1 ?_
  rw [j1, j2]
  refine WP.ob (a := (J (sts (prD G x y 0) (NP G).toNat z0).2.2, JA (sts (prD G x y 0) (NP G).toNat z0).1, JA (sts (prD G x y 0) (NP G).toNat z0).2.1)) ?_ ?_
  · refine lp_for (fun k : Nat => (J (sts (prD G x y 0) k z0).2.2, JA (sts (prD G x y 0) k z0).1, JA (sts (prD G x y 0) k z0).2.1, J k)) (NP G).toNat (by show _ = (J z0.2.2, JA z0.1, JA z0.2.1, J 0); rw [g3]; rfl) (by omega) (fun k hk => ?_) ?_
    · have h1 := sts_ok (pr := prD G x y 0) z1 hz3 k (by omega)
      have h2 := TP_b G k
      have hj := j3 k (by omega) (by omega)
      unfold f_X8_toCell_B10
      dsimp only
      refine ob _ (e_poses8 hl) ?_
      rw [if_neg (by rw [J_le (by omega)]; omega), JG (by omega), JA_get _ (by omega), hj.1]
      rcases FRI_c G k with ⟨e1, e2⟩ | ⟨e1, e2⟩
      · rw [e1, if_neg (by decide), JG (by omega), JA_get _ (by omega), hj.2]
        have hc : (-2147483648 ≤ CN x y ∧ CN x y ≤ 2147483647) := by unfold CN; omega
        by_cases z : TP G k = CN x y
        · rw [if_pos (congrArg J z), sts_y (decide_eq_true ⟨e2, (DI_0 (by omega) hx).mpr z⟩)]
          refine ob _ (e_starts ⟨by omega, hN⟩ h1.1 (by omega) (h1.2 k (Int.le_refl _) (by omega))) ?_
          rw [show (1 : Int32) = J 1 from rfl, J_add]
          rfl
        · rw [if_neg (by rw [J_eqv ⟨by omega, hc⟩]; exact z), sts_n (fun h => z ((DI_0 (by omega) hx).mp (of_decide_eq_true h).2))]
          rw [show (1 : Int32) = J 1 from rfl, J_add]
          rfl
      · rw [e1, if_pos (by rfl), sts_n (fun h => by have := (of_decide_eq_true h).1; omega)]
        rw [show (1 : Int32) = J 1 from rfl, J_add]
        rfl
    · unfold f_X8_toCell_B10
      dsimp only
      refine ob _ (e_poses8 hl) ?_
      rw [if_pos (by rw [J_le (by omega)]; omega)]
  · refine WP.ob (e_spreads hl hN (fun a b c => (j3 a b c).1) hk.1 (i := 0) (by omega)) ?_
    refine WP.ret ⟨⟨x8, y8⟩, A, _, rfl, rfl, fun a b c => (j3 a b c).1, ?_⟩
    exact (lk_spr (NB_n hl) _ _ _ _ (sts_ok (ok_E0 _ _ (fun _ _ _ => rfl)) (fun _ _ _ => rfl) _ (by omega)).1 hlk).2.1
theorem w_planToCell8 (hw : WF G) (hN : NP G ≤ 5000) (hxy : (-10 ≤ x ∧ x ≤ 10) ∧ -10 ≤ y ∧ y ≤ 10) (pm spt fa qd : Int32) (po wy px py fr ti far qu : Nat → Int32) (hx : Z0 px) (hy : Z0 py) :
    WP (f_X8_planToCell pm spt (J 0) fa qd (JA G) (JA F) po wy px py fr ti far qu (J x) (J y)) (PL8 G (prD G x y 0) F pm spt) := by
  unfold f_X8_planToCell
  refine WP.ob (e_isCell1 hxy) ?_
  rw [if_neg (by decide)]
  refine WP.ob (e_isMany0 hw.1 hN) ?_
  rw [if_pos (by rfl)]
  unfold f_X8_planToCell_L25
  rw [if_pos (by decide)]
  refine WP.ob (e_cellOf x y) ?_
  refine WP.bind (w_toCell hw hN hxy fa qd po wy px py fr ti far qu hx hy) fun o ho => ?_
  obtain ⟨⟨x8, y8⟩, A, E, e1, e2, e3, e4⟩ := ho
  rw [e1, e2]
  by_cases z : 0 ≤ (SR G (prD G x y 0)).1 (NU G)
  · refine WP.ob (e_leads (F := F) hw hN e3 prD_f e4 z pm spt) ?_
    rw [if_neg (show ¬ (J 1 : Int32) = 0 by decide)]
    exact WP.ret ⟨⟨x8, y8⟩, Or.inl ⟨z, rfl, rfl, rfl, rfl, rfl⟩⟩
  · refine WP.ob (e_leads_no (F := F) hw hN e3 prD_f e4 (by show (SR G (prD G x y 0)).1 (NU G) < 0; omega) pm spt) ?_
    rw [if_pos (by rfl)]
    exact WP.ret ⟨⟨x8, y8⟩, Or.inr ⟨by omega, rfl, rfl, rfl, rfl⟩⟩
theorem call_planToCell (hR : REL ss aa pl po pa ms ma) (x1 x2 : Int32) : WP (f_X7_planToCell (ss 10) (aa 1) (aa 2) (aa 3) (aa 4) (aa 0) (ss 2) (ss 3) (ss 4) (ss 5) (aa 12) (aa 13) (aa 14) (aa 20) (aa 21) (ss 18) (ss 19) (ss 20) (ss 21) (aa 15) (aa 16) (aa 17) (aa 18) (aa 19) (ss 6) (ss 7) (ss 8) (ss 9) (aa 23) x1 x2) (fun r => WP (f_X8_planToCell (ms 2) (ms 3) (ms 4) (ms 5) (ms 6) (ma 0) (ma 12) (ma 3) (ma 4) (ma 5) (ma 6) (ma 7) (ma 8) (ma 9) (ma 10) x1 x2) (fun q => ((r.1 = 0 ∧ q.2.2.2.1 = J 0 ∧ r.2.1 = q.1) ∨ (r.1 = 3 ∧ q.2.2.2.1 = J 1) ∨ (r.1 = 2 ∧ q.2.2.2.1 = J 2) ∨ (r.1 = 4 ∧ q.2.2.2.1 = J 3)) ∧ REL (va_up (va_up (va_up (va_up (va_up (va_up (va_up (va_up (va_up (va_up (va_up (va_up ss 2 r.2.2.1) 3 r.2.2.2.1) 4 r.2.2.2.2.1) 5 r.2.2.2.2.2.1) 18 r.2.2.2.2.2.2.2.2.2.2.2.1) 19 r.2.2.2.2.2.2.2.2.2.2.2.2.1) 20 r.2.2.2.2.2.2.2.2.2.2.2.2.2.1) 21 r.2.2.2.2.2.2.2.2.2.2.2.2.2.2.1) 6 r.2.2.2.2.2.2.2.2.2.2.2.2.2.2.2.2.2.2.2.2.1) 7 r.2.2.2.2.2.2.2.2.2.2.2.2.2.2.2.2.2.2.2.2.2.1) 8 r.2.2.2.2.2.2.2.2.2.2.2.2.2.2.2.2.2.2.2.2.2.2.1) 9 r.2.2.2.2.2.2.2.2.2.2.2.2.2.2.2.2.2.2.2.2.2.2.2.1) (va_up (va_up (va_up (va_up (va_up (va_up (va_up (va_up (va_up (va_up (va_up aa 12 r.2.2.2.2.2.2.1) 13 r.2.2.2.2.2.2.2.1) 14 r.2.2.2.2.2.2.2.2.1) 20 r.2.2.2.2.2.2.2.2.2.1) 21 r.2.2.2.2.2.2.2.2.2.2.1) 15 r.2.2.2.2.2.2.2.2.2.2.2.2.2.2.2.1) 16 r.2.2.2.2.2.2.2.2.2.2.2.2.2.2.2.2.1) 17 r.2.2.2.2.2.2.2.2.2.2.2.2.2.2.2.2.2.1) 18 r.2.2.2.2.2.2.2.2.2.2.2.2.2.2.2.2.2.2.1) 19 r.2.2.2.2.2.2.2.2.2.2.2.2.2.2.2.2.2.2.2.1) 23 r.2.2.2.2.2.2.2.2.2.2.2.2.2.2.2.2.2.2.2.2.2.2.2.2) pl po pa (va_up (va_up (va_up (va_up (va_up ms 2 q.2.1) 3 q.2.2.1) 4 q.2.2.2.1) 5 q.2.2.2.2.1) 6 q.2.2.2.2.2.1) (va_up (va_up (va_up (va_up (va_up (va_up (va_up (va_up (va_up ma 12 q.2.2.2.2.2.2.1) 3 q.2.2.2.2.2.2.2.1) 4 q.2.2.2.2.2.2.2.2.1) 5 q.2.2.2.2.2.2.2.2.2.1) 6 q.2.2.2.2.2.2.2.2.2.2.1) 7 q.2.2.2.2.2.2.2.2.2.2.2.1) 8 q.2.2.2.2.2.2.2.2.2.2.2.2.1) 9 q.2.2.2.2.2.2.2.2.2.2.2.2.2.1) 10 q.2.2.2.2.2.2.2.2.2.2.2.2.2.2))) := by
  obtain ⟨G, S, hn, hsv, hh, hsp, hrt, hbk, hin, her, hx, hy⟩ := hR
  have hn0 := hn
  obtain ⟨⟨n1, n2⟩, ⟨n3, n4, n5, n6, n7, n8, n9⟩, n10, hs, hw⟩ := hn
  have hP := NP_b hw.1
  obtain ⟨x, rfl, hxr⟩ := J_ex x1
  obtain ⟨y, rfl, hyr⟩ := J_ex x2
  by_cases q0 : (-10 ≤ x ∧ x ≤ 10) ∧ -10 ≤ y ∧ y ≤ 10
  · by_cases q : NP G ≤ 5000
    · obtain ⟨F, hF, -⟩ := JA_ex (aa 23)
      obtain ⟨F', hF', -⟩ := JA_ex (ma 12)
      unfold f_X7_planToCell
      simp only [n1, n2, n3, n4, n5, n6, n7, n8, n9, n10, hF]
      refine WP.ob (e_requireCell1 q0) ?_
      rw [if_pos rfl]
      refine WP.bind (w_surveyPoses hw hs hsp q _ _ _ _ _ _ _ _ _) fun o ho => ?_
      obtain ⟨k0, k1, k2, k3, sp, st, T, k4, k5, k6, k7, k8⟩ := ho
      rw [if_pos k0]
      simp only [k1, k2, k3, k4, k5, k6]
      refine WP.bind (w_tips7 (w := 0) hw.1 q k7 k8 q0 (by omega) _ _ _) fun o3 ho3 => ?_
      obtain ⟨s3, rfl, hok, hlk⟩ := ho3
      have h8 := w_planToCell8 (F := F') hw q q0 (ms 2) (ms 3) (ms 5) (ms 6) (ma 3) (ma 4) (ma 5) (ma 6) (ma 7) (ma 8) (ma 9) (ma 10) hx hy
      rw [hF']
      rw [hF, hF'] at hrt
      by_cases z : 0 ≤ (SR G (prD G x y 0)).1 (NU G)
      · refine WP.ob (take_yes (F := F) hw hs q k7 k8 prD_f hlk.2.1 z _ _ _ _) ?_
        dsimp only
        rw [if_pos rfl]
        refine WP.ret (WP.mono h8 fun o8 ho8 => ?_)
        obtain ⟨r8, p8, s8, t8, u8, v8, w8, o8⟩ := o8
        obtain ⟨⟨x8, y8⟩, ⟨w, l1, l2, l3, l4, l5⟩ | ⟨w, -⟩⟩ := ho8
        · dsimp only at l1 l2 l3 l4 l5
          subst l1 l2 l3 l4 l5
          exact ⟨Or.inl ⟨rfl, rfl, rfl⟩, G, S, ⟨⟨n1, n2⟩, ⟨n3, n4, n5, n6, n7, n8, n9⟩, n10, hs, hw⟩, hsv, hh, Or.inr ⟨rfl, q, rfl, rfl, sp, st, T, rfl, rfl, rfl, k7, k8⟩, rrte_new hw q prD_f z, hbk, hin, her, x8, y8⟩
        · omega
      · refine WP.ob (take_no hw hs q prD_f hlk.2.1 (by omega) _ _ _ _ _ _ _ _) ?_
        dsimp only
        rw [if_neg (by decide)]
        refine WP.ret (WP.mono h8 fun o8 ho8 => ?_)
        obtain ⟨r8, p8, s8, t8, u8, v8, w8, o8⟩ := o8
        obtain ⟨⟨x8, y8⟩, ⟨w, -⟩ | ⟨w, l1, l2, l3, l4⟩⟩ := ho8
        · omega
        · dsimp only at l1 l2 l3 l4
          subst l1 l2 l3 l4
          exact ⟨Or.inr (Or.inr (Or.inr ⟨rfl, rfl⟩)), G, S, ⟨⟨n1, n2⟩, ⟨n3, n4, n5, n6, n7, n8, n9⟩, n10, hs, hw⟩, hsv, hh, Or.inr ⟨rfl, q, rfl, rfl, sp, st, T, rfl, rfl, rfl, k7, k8⟩, RRTE_k hrt, hbk, hin, her, x8, y8⟩
    · have h7 : (f_X7_planToCell (ss 10) (aa 1) (aa 2) (aa 3) (aa 4) (aa 0) (ss 2) (ss 3) (ss 4) (ss 5) (aa 12) (aa 13) (aa 14) (aa 20) (aa 21) (ss 18) (ss 19) (ss 20) (ss 21) (aa 15) (aa 16) (aa 17) (aa 18) (aa 19) (ss 6) (ss 7) (ss 8) (ss 9) (aa 23) (J x) (J y)) = some (2, J 0, (ss 2), (ss 3), (ss 4), (ss 5), (aa 12), (aa 13), (aa 14), (aa 20), (aa 21), (ss 18), (ss 19), (ss 20), (ss 21), (aa 15), (aa 16), (aa 17), (aa 18), (aa 19), (ss 6), (ss 7), (ss 8), (ss 9), (aa 23)) := by
        unfold f_X7_planToCell
        simp only [n1, n2, n3, n4, n5, n6, n7, n8, n9, n10]
        refine ob _ (e_requireCell1 q0) ?_
        rw [if_pos rfl]
        exact ob _ (e_surveyPoses_no hw hs (by omega) _ _ _ _ _ _ _ _ _ _ _ _ _ _ _) rfl
      have h8 : (f_X8_planToCell (ms 2) (ms 3) (ms 4) (ms 5) (ms 6) (ma 0) (ma 12) (ma 3) (ma 4) (ma 5) (ma 6) (ma 7) (ma 8) (ma 9) (ma 10) (J x) (J y)) = some (J 0, (ms 2), (ms 3), J 2, (ms 5), (ms 6), (ma 12), (ma 3), (ma 4), (ma 5), (ma 6), (ma 7), (ma 8), (ma 9), (ma 10)) := by
        unfold f_X8_planToCell f_X8_planToCell_L25
        rw [n10]
        refine ob _ (e_isCell1 q0) ?_
        rw [if_neg (by decide)]
        exact ob _ (e_isMany1 hw.1 (by omega)) rfl
      exact ⟨_, h7, _, h8, Or.inr (Or.inr (Or.inl ⟨rfl, rfl⟩)), G, S, hn0, hsv, hh, hsp, hrt, hbk, hin, her, hx, hy⟩
  · have h7 : (f_X7_planToCell (ss 10) (aa 1) (aa 2) (aa 3) (aa 4) (aa 0) (ss 2) (ss 3) (ss 4) (ss 5) (aa 12) (aa 13) (aa 14) (aa 20) (aa 21) (ss 18) (ss 19) (ss 20) (ss 21) (aa 15) (aa 16) (aa 17) (aa 18) (aa 19) (ss 6) (ss 7) (ss 8) (ss 9) (aa 23) (J x) (J y)) = some (3, J 0, (ss 2), (ss 3), (ss 4), (ss 5), (aa 12), (aa 13), (aa 14), (aa 20), (aa 21), (ss 18), (ss 19), (ss 20), (ss 21), (aa 15), (aa 16), (aa 17), (aa 18), (aa 19), (ss 6), (ss 7), (ss 8), (ss 9), (aa 23)) := by
      unfold f_X7_planToCell
      simp only [n1, n2, n3, n4, n5, n6, n7, n8, n9, n10]
      exact ob _ (e_requireCell0 ⟨hxr, hyr, q0⟩) rfl
    have h8 : (f_X8_planToCell (ms 2) (ms 3) (ms 4) (ms 5) (ms 6) (ma 0) (ma 12) (ma 3) (ma 4) (ma 5) (ma 6) (ma 7) (ma 8) (ma 9) (ma 10) (J x) (J y)) = some (J 0, (ms 2), (ms 3), J 1, (ms 5), (ms 6), (ma 12), (ma 3), (ma 4), (ma 5), (ma 6), (ma 7), (ma 8), (ma 9), (ma 10)) := by
      unfold f_X8_planToCell f_X8_planToCell_L25
      rw [n10]
      exact ob _ (e_isCell0 ⟨hxr, hyr, q0⟩) rfl
    exact ⟨_, h7, _, h8, Or.inr (Or.inl ⟨rfl, rfl⟩), G, S, hn0, hsv, hh, hsp, hrt, hbk, hin, her, hx, hy⟩
end
