/-! planNear -/
section
variable {ss : Nat → Int32} {aa : Nat → Nat → Int32} {pl po : Nat → Int32} {pa : Nat → Nat → Nat → Int32} {ms : Nat → Int32} {ma : Nat → Nat → Int32} {G D E Q T A sp st F F' : Int → Int} {S : Nat → Int → Int} {P : Int → Prop} {pr : Int → Bool} {s : BS} {x y w N p q d : Int} {nb : Int → Int → Int} {f : Nat → Int}
noncomputable def NRM (G : Int → Int) (x y : Int) : Int := MNF (NRD G x y) 20 (RP G).2.2
theorem NRD_b (hw : WF G) (hN : NP G ≤ 5000) (hx : (-10 ≤ x ∧ x ≤ 10) ∧ -10 ≤ y ∧ y ≤ 10) {j : Nat} (hj : j < (RP G).2.2) : 0 ≤ NRD G x y j ∧ NRD G x y j ≤ 20 :=
  DT_b ((TL_ok hN (RP_ok hw).1 ⟨rfl, fun _ _ _ => rfl, fun _ _ => rfl⟩ hw).2 j hj).2.1 hx
theorem w_planNear8 (hw : WF G) (hN : NP G ≤ 5000) (hxy : (-10 ≤ x ∧ x ≤ 10) ∧ -10 ≤ y ∧ y ≤ 10) (pm spt fa qd : Int32) (po wy px py fr ti far qu : Nat → Int32) (hx : Z0 px) (hy : Z0 py) :
    WP (f_X8_planNear pm spt (J 0) fa qd (JA G) (JA F) po wy px py fr ti far qu (J x) (J y)) (fun o => (Z0 o.2.2.2.2.2.2.2.2.2.1 ∧ Z0 o.2.2.2.2.2.2.2.2.2.2.1) ∧ ((0 < (RP G).2.2 ∧ o.1 = J (NRM G x y) ∧ o.2.1 = J ((SR G (prD G x y (NRM G x y))).1 (NU G)) ∧ o.2.2.1 = J 0 ∧ o.2.2.2.1 = J 0 ∧ o.2.2.2.2.2.2.1 = JA (STP (NB G) (SR G (prD G x y (NRM G x y))).1 (NU G) F ((SR G (prD G x y (NRM G x y))).1 (NU G)).toNat)) ∨ ((RP G).2.2 = 0 ∧ o.2.1 = pm ∧ o.2.2.1 = spt ∧ o.2.2.2.1 = J 3 ∧ o.2.2.2.2.2.2.1 = JA F))) := by
  have hl := hw.1
  have hP := NP_b hl
  unfold f_X8_planNear
  refine WP.ob (e_isCell1 hxy) ?_
  rw [if_neg (by decide)]
  refine WP.ob (e_isMany0 hw.1 hN) ?_
  rw [if_pos (by rfl)]
  unfold f_X8_planNear_L25
  rw [if_pos (by decide)]
  refine WP.bind (w_connects hw hN _ _ _ _ _ _ _ _ _ _ hx hy) fun o2 ho2 => ?_
  obtain ⟨⟨x8, y8⟩, A, T2, s2, l1, l2, l3, l4, l5, l6, l7, l8⟩ := ho2
  have ok2 := TL_ok hN l7 l8 hw
  have hc8 := l8.1
  have hkR := RP_ok hw
  by_cases z : (RP G).2.2 = 0
  · rw [if_pos (by rw [l1, hc8, z]; rfl)]
    exact WP.ret ⟨⟨x8, y8⟩, Or.inr ⟨z, rfl, rfl, rfl, rfl⟩⟩
  · rw [if_neg (by rw [l1, show (0 : Int32) = J 0 from rfl, J_eqv (by omega)]; omega)]
    rw [l1, l2, l3, l4, l5]
    have hf : ∀ j : Nat, j < (RP G).2.2 → 0 ≤ NRD G x y j ∧ NRD G x y j ≤ 20 := fun j hj => NRD_b hw hN hxy hj
    have hM : MNF (NRD G x y) 1000 (RP G).2.2 = NRM G x y := (MNF_20 20 1000 _ (by omega) (fun j hj => by have := hf j hj; omega)).symm
    have hMb := MNF_b (f := NRD G x y) (w := 20) (RP G).2.2 (by omega) (fun j hj => (hf j hj).1)
    have hMb : 0 ≤ NRM G x y ∧ NRM G x y ≤ 20 := hMb
    refine WP.ob (a := J (NRM G x y)) ?_ ?_
    · refine lp_for (fun k : Nat => (J (MNF (NRD G x y) 1000 k), J k)) s2.2.2 rfl (by omega) (fun k hk => ?_) ?_
      · have h1 := hf k (by omega)
        have h2 := MNF_b (f := NRD G x y) (w := 1000) k (by omega) (fun j hj => (hf j (by omega)).1)
        have h3 := ok2.2 k hk
        have h4 := l6 (s2.2.1 k) h3.1.1 h3.1.2
        have h5 : DI (T2 (s2.2.1 k) / 21 - 10) (T2 (s2.2.1 k) % 21 - 10) x y = NRD G x y k := by
          rw [h4.2, l8.2.2 k (by omega)]; rfl
        unfold f_X8_planNear_B61
        dsimp only
        rw [if_neg (by rw [J_le (by omega)]; omega), JG (by omega)]
        refine ob (J (NRD G x y k)) ?_ ?_
        · unfold f_X8_tipDistance
          rw [JA_get _ (by omega), JG (by omega), JG (by omega), JA_get _ (by omega)]
          have e1 : ((J (T2 (s2.2.1 k)) / 21 : Int32) - 10) = J (T2 (s2.2.1 k) / 21 - 10) := by simp (disch := omega) only [↓reduceIte, j_lits, J_add, J_sub, J_mul, J_neg, J_le, J_lt, J_eqv, J_div, J_imax, J_imin, JA_get, JG, JA_upd, LET, Option.bind_some, lt_T, lt_F, le_T, le_F, eq_T, eq_F, and_true, true_and, Int.sub_neg, Int.natCast_add, n_lits, h4.2]
          have e2 : (J (T2 (s2.2.1 k)) - J (T2 (s2.2.1 k)) / 21 * 21 - 10 : Int32) = J (T2 (s2.2.1 k) % 21 - 10) := by
            simp (disch := omega) only [↓reduceIte, j_lits, J_add, J_sub, J_mul, J_neg, J_le, J_lt, J_eqv, J_div, J_imax, J_imin, JA_get, JG, JA_upd, LET, Option.bind_some, lt_T, lt_F, le_T, le_F, eq_T, eq_F, and_true, true_and, Int.sub_neg, Int.natCast_add, n_lits, h4.2]
          rw [e1, e2]
          refine ob _ (e_distance8 (by omega)) ?_
          rw [h5]
        · show _ = some (Sum.inl (J (min (MNF (NRD G x y) 1000 k) (NRD G x y k)), J ((k + 1 : Nat) : Int)))
          by_cases u : MNF (NRD G x y) 1000 k ≤ NRD G x y k
          · rw [if_pos (by rw [J_le (by omega)]; exact u), Int.min_eq_left u]
            simp (disch := omega) only [↓reduceIte, j_lits, J_add, J_sub, J_mul, J_neg, J_le, J_lt, J_eqv, J_div, J_imax, J_imin, JA_get, JG, JA_upd, LET, Option.bind_some, lt_T, lt_F, le_T, le_F, eq_T, eq_F, and_true, true_and, Int.sub_neg, Int.natCast_add, n_lits]
          · rw [if_neg (by rw [J_le (by omega)]; exact u), Int.min_eq_right (by omega)]
            simp (disch := omega) only [↓reduceIte, j_lits, J_add, J_sub, J_mul, J_neg, J_le, J_lt, J_eqv, J_div, J_imax, J_imin, JA_get, JG, JA_upd, LET, Option.bind_some, lt_T, lt_F, le_T, le_F, eq_T, eq_F, and_true, true_and, Int.sub_neg, Int.natCast_add, n_lits]
      · unfold f_X8_planNear_B61
        dsimp only
        rw [if_pos (by rw [J_le (by omega)]; omega), hc8, hM]
    · obtain ⟨z0, g1, g2, g3, z1, z2, hz3⟩ := toCell_s hl hN (J s2.2.2) (JA s2.1) (JA s2.2.1) (prD G x y (NRM G x y))
      have hk := sts_ok (pr := prD G x y (NRM G x y)) z1 hz3 (NP G).toNat (by omega)
      have hlk := sts_lk (pr := prD G x y (NRM G x y)) z2 (NP G).toNat (by omega)
      refine WP.ob g1 ?_
      rw [g2]
      refine WP.ob (a := (J (sts (prD G x y (NRM G x y)) (NP G).toNat z0).2.2, JA (sts (prD G x y (NRM G x y)) (NP G).toNat z0).1, JA (sts (prD G x y (NRM G x y)) (NP G).toNat z0).2.1)) ?_ ?_
      · refine lp_for (fun k : Nat => (J (sts (prD G x y (NRM G x y)) k z0).2.2, JA (sts (prD G x y (NRM G x y)) k z0).1, JA (sts (prD G x y (NRM G x y)) k z0).2.1, J k)) (NP G).toNat (by show _ = (J z0.2.2, JA z0.1, JA z0.2.1, J 0); rw [g3]; rfl) (by omega) (fun k hk => ?_) ?_
        · have h1 := sts_ok (pr := prD G x y (NRM G x y)) z1 hz3 k (by omega)
          have h2 := TP_b G k
          have hj := l6 k (by omega) (by omega)
          unfold f_X8_planNear_B111
          dsimp only
          refine ob _ (e_poses8 hl) ?_
          rw [if_neg (by rw [J_le (by omega)]; omega), JG (by omega), JA_get _ (by omega), hj.1]
          rcases FRI_c G k with ⟨e1, e2⟩ | ⟨e1, e2⟩
          · have h3 := DT_b (G := G) (p := k) e2 hxy
            rw [e1, if_neg (by decide)]
            refine ob (J (DT G x y k)) ?_ ?_
            · unfold f_X8_tipDistance
              rw [JG (by omega), JG (by omega), JA_get _ (by omega), hj.2]
              have e3 : ((J (TP G k) / 21 : Int32) - 10) = J (TP G k / 21 - 10) := by simp (disch := omega) only [↓reduceIte, j_lits, J_add, J_sub, J_mul, J_neg, J_le, J_lt, J_eqv, J_div, J_imax, J_imin, JA_get, JG, JA_upd, LET, Option.bind_some, lt_T, lt_F, le_T, le_F, eq_T, eq_F, and_true, true_and, Int.sub_neg, Int.natCast_add, n_lits]
              have e4 : (J (TP G k) - J (TP G k) / 21 * 21 - 10 : Int32) = J (TP G k % 21 - 10) := by
                simp (disch := omega) only [↓reduceIte, j_lits, J_add, J_sub, J_mul, J_neg, J_le, J_lt, J_eqv, J_div, J_imax, J_imin, JA_get, JG, JA_upd, LET, Option.bind_some, lt_T, lt_F, le_T, le_F, eq_T, eq_F, and_true, true_and, Int.sub_neg, Int.natCast_add, n_lits]
              rw [e3, e4]
              exact ob _ (e_distance8 (by omega)) rfl
            · by_cases u : DT G x y k = NRM G x y
              · rw [if_pos (congrArg J u), sts_y (decide_eq_true ⟨e2, u⟩)]
                refine ob _ (e_starts ⟨by omega, hN⟩ h1.1 (by omega) (h1.2 k (Int.le_refl _) (by omega))) ?_
                rw [show (1 : Int32) = J 1 from rfl, J_add]
                rfl
              · rw [if_neg (by rw [J_eqv (by omega)]; exact u), sts_n (fun h => u (of_decide_eq_true h).2)]
                rw [show (1 : Int32) = J 1 from rfl, J_add]
                rfl
          · rw [e1, if_pos (by rfl), sts_n (fun h => by have := (of_decide_eq_true h).1; omega)]
            rw [show (1 : Int32) = J 1 from rfl, J_add]
            rfl
        · unfold f_X8_planNear_B111
          dsimp only
          refine ob _ (e_poses8 hl) ?_
          rw [if_pos (by rw [J_le (by omega)]; omega)]
      · refine WP.ob (e_spreads hl hN (fun a b c => (l6 a b c).1) hk.1 (i := 0) (by omega)) ?_
        refine WP.ob (e_leads (F := F) hw hN (fun a b c => (l6 a b c).1) prD_f (lk_spr (NB_n hl) _ _ _ _ (sts_ok (ok_E0 _ _ (fun _ _ _ => rfl)) (fun _ _ _ => rfl) _ (by omega)).1 hlk).2.1 (near_home hw hN hxy (by omega)) pm spt) ?_
        exact WP.ret ⟨⟨x8, y8⟩, Or.inl ⟨by omega, rfl, rfl, rfl, rfl, rfl⟩⟩
theorem call_planNear (hR : REL ss aa pl po pa ms ma) (x1 x2 : Int32) : WP (f_X7_planNear (ss 10) (aa 1) (aa 2) (aa 3) (aa 4) (aa 0) (ss 2) (ss 3) (ss 4) (ss 5) (aa 12) (aa 13) (aa 14) (aa 20) (aa 21) (ss 18) (ss 19) (ss 20) (ss 21) (aa 15) (aa 16) (aa 17) (aa 18) (aa 19) (ss 6) (ss 7) (ss 8) (ss 9) (aa 23) x1 x2) (fun r => WP (f_X8_planNear (ms 2) (ms 3) (ms 4) (ms 5) (ms 6) (ma 0) (ma 12) (ma 3) (ma 4) (ma 5) (ma 6) (ma 7) (ma 8) (ma 9) (ma 10) x1 x2) (fun q => ((r.1 = 0 ∧ q.2.2.2.1 = J 0 ∧ r.2.1 = q.1) ∨ (r.1 = 3 ∧ q.2.2.2.1 = J 1) ∨ (r.1 = 2 ∧ q.2.2.2.1 = J 2) ∨ (r.1 = 4 ∧ q.2.2.2.1 = J 3)) ∧ REL (va_up (va_up (va_up (va_up (va_up (va_up (va_up (va_up (va_up (va_up (va_up (va_up ss 2 r.2.2.1) 3 r.2.2.2.1) 4 r.2.2.2.2.1) 5 r.2.2.2.2.2.1) 18 r.2.2.2.2.2.2.2.2.2.2.2.1) 19 r.2.2.2.2.2.2.2.2.2.2.2.2.1) 20 r.2.2.2.2.2.2.2.2.2.2.2.2.2.1) 21 r.2.2.2.2.2.2.2.2.2.2.2.2.2.2.1) 6 r.2.2.2.2.2.2.2.2.2.2.2.2.2.2.2.2.2.2.2.2.1) 7 r.2.2.2.2.2.2.2.2.2.2.2.2.2.2.2.2.2.2.2.2.2.1) 8 r.2.2.2.2.2.2.2.2.2.2.2.2.2.2.2.2.2.2.2.2.2.2.1) 9 r.2.2.2.2.2.2.2.2.2.2.2.2.2.2.2.2.2.2.2.2.2.2.2.1) (va_up (va_up (va_up (va_up (va_up (va_up (va_up (va_up (va_up (va_up (va_up aa 12 r.2.2.2.2.2.2.1) 13 r.2.2.2.2.2.2.2.1) 14 r.2.2.2.2.2.2.2.2.1) 20 r.2.2.2.2.2.2.2.2.2.1) 21 r.2.2.2.2.2.2.2.2.2.2.1) 15 r.2.2.2.2.2.2.2.2.2.2.2.2.2.2.2.1) 16 r.2.2.2.2.2.2.2.2.2.2.2.2.2.2.2.2.1) 17 r.2.2.2.2.2.2.2.2.2.2.2.2.2.2.2.2.2.1) 18 r.2.2.2.2.2.2.2.2.2.2.2.2.2.2.2.2.2.2.1) 19 r.2.2.2.2.2.2.2.2.2.2.2.2.2.2.2.2.2.2.2.1) 23 r.2.2.2.2.2.2.2.2.2.2.2.2.2.2.2.2.2.2.2.2.2.2.2.2) pl po pa (va_up (va_up (va_up (va_up (va_up ms 2 q.2.1) 3 q.2.2.1) 4 q.2.2.2.1) 5 q.2.2.2.2.1) 6 q.2.2.2.2.2.1) (va_up (va_up (va_up (va_up (va_up (va_up (va_up (va_up (va_up ma 12 q.2.2.2.2.2.2.1) 3 q.2.2.2.2.2.2.2.1) 4 q.2.2.2.2.2.2.2.2.1) 5 q.2.2.2.2.2.2.2.2.2.1) 6 q.2.2.2.2.2.2.2.2.2.2.1) 7 q.2.2.2.2.2.2.2.2.2.2.2.1) 8 q.2.2.2.2.2.2.2.2.2.2.2.2.1) 9 q.2.2.2.2.2.2.2.2.2.2.2.2.2.1) 10 q.2.2.2.2.2.2.2.2.2.2.2.2.2.2))) := by
  obtain ⟨G, S, hn, hsv, hh, hsp, hrt, hbk, hin, her, hx, hy⟩ := hR
  have hn0 := hn
  obtain ⟨⟨n1, n2⟩, ⟨n3, n4, n5, n6, n7, n8, n9⟩, n10, hs, hw⟩ := hn
  have hP := NP_b hw.1
  obtain ⟨x, rfl, hxr⟩ := J_ex x1
  obtain ⟨y, rfl, hyr⟩ := J_ex x2
  by_cases q0 : (-10 ≤ x ∧ x ≤ 10) ∧ -10 ≤ y ∧ y ≤ 10
  · by_cases q : NP G ≤ 5000
    · obtain ⟨F, hF, -⟩ := JA_ex (aa 23)
      obtain ⟨F', hF', -⟩ := JA_ex (ma 12)
      have h8 := w_planNear8 (F := F') hw q q0 (ms 2) (ms 3) (ms 5) (ms 6) (ma 3) (ma 4) (ma 5) (ma 6) (ma 7) (ma 8) (ma 9) (ma 10) hx hy
      rw [hF, hF'] at hrt
      unfold f_X7_planNear
      simp only [n1, n2, n3, n4, n5, n6, n7, n8, n9, n10, hF]
      rw [hF']
      refine WP.ob (e_requireCell1 q0) ?_
      rw [if_pos rfl]
      refine WP.bind (w_searchFromPresent hw hs hsp q _ _ _ _ _ _ _ _ _ _ _ _) fun o ho => ?_
      obtain ⟨k0, k1, k2, k3, sp, st, T, s, k4, k5, k6, k7, k8, k9, g1, g2, g3, g4⟩ := ho
      rw [if_pos k0]
      simp only [k1, k2, k3, k4, k5, k6, k7, k8, k9]
      have ok2 := TL_ok q g3 g4 hw
      have hc8 := g4.1
      have hle := ok2.1
      refine WP.ob (e_requireReached s.2.2 hle) ?_
      by_cases z : s.2.2 = 0
      · rw [if_pos z, if_neg (by decide)]
        refine WP.ret (WP.mono h8 fun o8 ho8 => ?_)
        obtain ⟨r8, p8, s8, t8, u8, v8, w8, o8⟩ := o8
        obtain ⟨⟨x8, y8⟩, ⟨w, -⟩ | ⟨w, l1, l2, l3, l4⟩⟩ := ho8
        · omega
        · dsimp only at l1 l2 l3 l4
          subst l1 l2 l3 l4
          exact ⟨Or.inr (Or.inr (Or.inr ⟨rfl, rfl⟩)), G, S, ⟨⟨n1, n2⟩, ⟨n3, n4, n5, n6, n7, n8, n9⟩, n10, hs, hw⟩, hsv, hh, Or.inr ⟨rfl, q, rfl, rfl, sp, st, T, rfl, rfl, rfl, g1, g2⟩, RRTE_k hrt, hbk, hin, her, x8, y8⟩
      · rw [if_neg z, if_pos rfl]
        have hf : ∀ j : Nat, j < (RP G).2.2 → 0 ≤ NRD G x y j ∧ NRD G x y j ≤ 20 := fun j hj => NRD_b hw q q0 hj
        have hMb := MNF_b (f := NRD G x y) (w := 20) (RP G).2.2 (by omega) (fun j hj => (hf j hj).1)
        have hMb : 0 ≤ NRM G x y ∧ NRM G x y ≤ 20 := hMb
        refine WP.ob (a := J (NRM G x y)) ?_ ?_
        · refine lp_for (fun k : Nat => (J (MNF (NRD G x y) 20 k), J k)) s.2.2 rfl (by omega) (fun k hk => ?_) ?_
          · have h1 := hf k (by omega)
            have h2 := MNF_b (f := NRD G x y) (w := 20) k (by omega) (fun j hj => (hf j (by omega)).1)
            have h3 := ok2.2 k hk
            have h5 : DI (TP G (s.2.1 k) / 21 - 10) (TP G (s.2.1 k) % 21 - 10) x y = NRD G x y k := by
              rw [g4.2.2 k (by omega)]; rfl
            unfold f_X7_planNear_B19
            dsimp only
            rw [if_neg (by rw [J_le (by omega)]; omega)]
            refine ob _ (e_reachedPose (by omega)) ?_
            refine ob _ (e_tipOf (by omega)) ?_
            rw [g2 _ h3.1.1 h3.1.2]
            refine ob _ (e_cellX (by omega)) ?_
            refine ob _ (e_cellY (by omega)) ?_
            refine ob _ (e_distance (by omega)) ?_
            rw [h5, J_imin (by omega), show (1 : Int32) = J 1 from rfl, J_add]
            rfl
          · unfold f_X7_planNear_B19
            dsimp only
            rw [if_pos (by rw [J_le (by omega)]; omega), hc8]
            rfl
        · refine WP.bind (w_tips7 (w := NRM G x y) hw.1 q g1 g2 q0 (by omega) _ _ _) fun o3 ho3 => ?_
          obtain ⟨s3, rfl, hok, hlk⟩ := ho3
          refine WP.ob (take_yes (F := F) hw hs q g1 g2 prD_f hlk.2.1 (near_home hw q q0 (by omega)) _ _ _ _) ?_
          dsimp only
          rw [if_pos rfl]
          refine WP.ret (WP.mono h8 fun o8 ho8 => ?_)
          obtain ⟨r8, p8, s8, t8, u8, v8, w8, o8⟩ := o8
          obtain ⟨⟨x8, y8⟩, ⟨w, l1, l2, l3, l4, l5⟩ | ⟨w, -⟩⟩ := ho8
          · dsimp only at l1 l2 l3 l4 l5
            subst l1 l2 l3 l4 l5
            exact ⟨Or.inl ⟨rfl, rfl, rfl⟩, G, S, ⟨⟨n1, n2⟩, ⟨n3, n4, n5, n6, n7, n8, n9⟩, n10, hs, hw⟩, hsv, hh, Or.inr ⟨rfl, q, rfl, rfl, sp, st, T, rfl, rfl, rfl, g1, g2⟩, rrte_new hw q prD_f (near_home hw q q0 (by omega)), hbk, hin, her, x8, y8⟩
          · omega
    · have h7 : (f_X7_planNear (ss 10) (aa 1) (aa 2) (aa 3) (aa 4) (aa 0) (ss 2) (ss 3) (ss 4) (ss 5) (aa 12) (aa 13) (aa 14) (aa 20) (aa 21) (ss 18) (ss 19) (ss 20) (ss 21) (aa 15) (aa 16) (aa 17) (aa 18) (aa 19) (ss 6) (ss 7) (ss 8) (ss 9) (aa 23) (J x) (J y)) = some (2, J 0, (ss 2), (ss 3), (ss 4), (ss 5), (aa 12), (aa 13), (aa 14), (aa 20), (aa 21), (ss 18), (ss 19), (ss 20), (ss 21), (aa 15), (aa 16), (aa 17), (aa 18), (aa 19), (ss 6), (ss 7), (ss 8), (ss 9), (aa 23)) := by
        unfold f_X7_planNear
        simp only [n1, n2, n3, n4, n5, n6, n7, n8, n9, n10]
        refine ob _ (e_requireCell1 q0) ?_
        rw [if_pos rfl]
        exact ob _ (e_searchFromPresent_no hw hs (by omega) _ _ _ _ _ _ _ _ _ _ _ _ _ _ _ _ _ _) rfl
      have h8 : (f_X8_planNear (ms 2) (ms 3) (ms 4) (ms 5) (ms 6) (ma 0) (ma 12) (ma 3) (ma 4) (ma 5) (ma 6) (ma 7) (ma 8) (ma 9) (ma 10) (J x) (J y)) = some (J 0, (ms 2), (ms 3), J 2, (ms 5), (ms 6), (ma 12), (ma 3), (ma 4), (ma 5), (ma 6), (ma 7), (ma 8), (ma 9), (ma 10)) := by
        unfold f_X8_planNear f_X8_planNear_L25
        rw [n10]
        refine ob _ (e_isCell1 q0) ?_
        rw [if_neg (by decide)]
        exact ob _ (e_isMany1 hw.1 (by omega)) rfl
      exact ⟨_, h7, _, h8, Or.inr (Or.inr (Or.inl ⟨rfl, rfl⟩)), G, S, hn0, hsv, hh, hsp, hrt, hbk, hin, her, hx, hy⟩
  · have h7 : (f_X7_planNear (ss 10) (aa 1) (aa 2) (aa 3) (aa 4) (aa 0) (ss 2) (ss 3) (ss 4) (ss 5) (aa 12) (aa 13) (aa 14) (aa 20) (aa 21) (ss 18) (ss 19) (ss 20) (ss 21) (aa 15) (aa 16) (aa 17) (aa 18) (aa 19) (ss 6) (ss 7) (ss 8) (ss 9) (aa 23) (J x) (J y)) = some (3, J 0, (ss 2), (ss 3), (ss 4), (ss 5), (aa 12), (aa 13), (aa 14), (aa 20), (aa 21), (ss 18), (ss 19), (ss 20), (ss 21), (aa 15), (aa 16), (aa 17), (aa 18), (aa 19), (ss 6), (ss 7), (ss 8), (ss 9), (aa 23)) := by
      unfold f_X7_planNear
      simp only [n1, n2, n3, n4, n5, n6, n7, n8, n9, n10]
      exact ob _ (e_requireCell0 ⟨hxr, hyr, q0⟩) rfl
    have h8 : (f_X8_planNear (ms 2) (ms 3) (ms 4) (ms 5) (ms 6) (ma 0) (ma 12) (ma 3) (ma 4) (ma 5) (ma 6) (ma 7) (ma 8) (ma 9) (ma 10) (J x) (J y)) = some (J 0, (ms 2), (ms 3), J 1, (ms 5), (ms 6), (ma 12), (ma 3), (ma 4), (ma 5), (ma 6), (ma 7), (ma 8), (ma 9), (ma 10)) := by
      unfold f_X8_planNear f_X8_planNear_L25
      rw [n10]
      exact ob _ (e_isCell0 ⟨hxr, hyr, q0⟩) rfl
    exact ⟨_, h7, _, h8, Or.inr (Or.inl ⟨rfl, rfl⟩), G, S, hn0, hsv, hh, hsp, hrt, hbk, hin, her, hx, hy⟩
end
