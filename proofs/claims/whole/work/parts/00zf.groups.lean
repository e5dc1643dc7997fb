noncomputable def GRP (G : Int → Int) (s0 : BS) : Nat → Int × BS
  | 0 => (0, s0)
  | k + 1 => if 0 ≤ TP G k ∧ (GRP G s0 k).2.1 k < 0 then ((GRP G s0 k).1 + 1, spr (NB G) ((NP G).toNat + 1) (GRP G s0 k).2.2.2 (tryq (GRP G s0 k).2 k 0)) else GRP G s0 k
section
variable {ss : Nat → Int32} {aa : Nat → Nat → Int32} {pl po : Nat → Int32} {pa : Nat → Nat → Nat → Int32} {ms : Nat → Int32} {ma : Nat → Nat → Int32} {G D Q T A sp st : Int → Int} {S : Nat → Int → Int} {P : Int → Prop} {s t : BS}
theorem GRP_y {k : Nat} (h : 0 ≤ TP G k ∧ (GRP G s k).2.1 k < 0) : GRP G s (k + 1) = ((GRP G s k).1 + 1, spr (NB G) ((NP G).toNat + 1) (GRP G s k).2.2.2 (tryq (GRP G s k).2 k 0)) := if_pos h
theorem GRP_n {k : Nat} (h : ¬ (0 ≤ TP G k ∧ (GRP G s k).2.1 k < 0)) : GRP G s (k + 1) = GRP G s k := if_neg h
theorem GRP_ok (hl : WL G) (hs : OK (NP G) s) : ∀ k : Nat, (k : Int) ≤ NP G → OK (NP G) (GRP G s k).2 ∧ 0 ≤ (GRP G s k).1 ∧ (GRP G s k).1 ≤ k
  | 0, _ => ⟨hs, Int.le_refl _, Int.le_refl _⟩
  | k + 1, hk => by
    have h1 := GRP_ok hl hs k (by omega)
    by_cases z : 0 ≤ TP G k ∧ (GRP G s k).2.1 k < 0
    · rw [GRP_y z]
      refine ⟨ok_spr (NB_n hl) _ _ _ (ok_tryq h1.1 (fun _ => by omega) ⟨Int.le_refl _, by omega⟩), ?_, ?_⟩
      · show 0 ≤ (GRP G s k).1 + 1
        omega
      · show (GRP G s k).1 + 1 ≤ ((k + 1 : Nat) : Int)
        omega
    · rw [GRP_n z]
      exact ⟨h1.1, h1.2.1, by omega⟩
theorem GRP_lk (hl : WL G) (hs : OK (NP G) t) (h : LK (NP G) s t) : ∀ k : Nat, (k : Int) ≤ NP G → (GRP G s k).1 = (GRP G t k).1 ∧ LK (NP G) (GRP G s k).2 (GRP G t k).2
  | 0, _ => ⟨rfl, h⟩
  | k + 1, hk => by
    have h1 := GRP_lk hl hs h k (by omega)
    have h2 := GRP_ok hl hs k (by omega)
    have h3 := h1.2.2.1 k (by omega) (by omega)
    by_cases z : 0 ≤ TP G k ∧ (GRP G t k).2.1 k < 0
    · rw [GRP_y z, GRP_y (s := s) (by rw [h3]; exact z)]
      refine ⟨?_, ?_⟩
      · show (GRP G s k).1 + 1 = (GRP G t k).1 + 1
        rw [h1.1]
      · show LK (NP G) (spr (NB G) ((NP G).toNat + 1) (GRP G s k).2.2.2 (tryq (GRP G s k).2 k 0)) (spr (NB G) ((NP G).toNat + 1) (GRP G t k).2.2.2 (tryq (GRP G t k).2 k 0))
        rw [h1.2.1]
        exact lk_spr (NB_n hl) _ _ _ _ (ok_tryq h2.1 (fun _ => by omega) ⟨Int.le_refl _, by omega⟩) (lk_tryq h1.2 (fun _ => by omega))
    · rw [GRP_n z, GRP_n (s := s) (by rw [h3]; exact z)]
      exact h1
theorem call_groups (hR : REL ss aa pl po pa ms ma) : WP (f_X7_groups (ss 10) (aa 1) (aa 2) (aa 3) (aa 0) (ss 2) (ss 3) (ss 4) (ss 5) (aa 12) (aa 13) (aa 14) (aa 20) (aa 21) (ss 18) (ss 19) (ss 20) (ss 21) (aa 15) (aa 16) (aa 17) (aa 18) (aa 19) ) (fun r => WP (f_X8_groups (ms 4) (ms 5) (ms 6) (ma 0) (ma 3) (ma 4) (ma 5) (ma 6) (ma 7) (ma 8) (ma 9) (ma 10) ) (fun q => ((r.1 = 0 ∧ q.2.1 = J 0 ∧ r.2.1 = q.1) ∨ (r.1 = 2 ∧ q.2.1 = J 1)) ∧ REL (va_up (va_up (va_up (va_up (va_up (va_up (va_up (va_up ss 2 r.2.2.1) 3 r.2.2.2.1) 4 r.2.2.2.2.1) 5 r.2.2.2.2.2.1) 18 r.2.2.2.2.2.2.2.2.2.2.2.1) 19 r.2.2.2.2.2.2.2.2.2.2.2.2.1) 20 r.2.2.2.2.2.2.2.2.2.2.2.2.2.1) 21 r.2.2.2.2.2.2.2.2.2.2.2.2.2.2.1) (va_up (va_up (va_up (va_up (va_up (va_up (va_up (va_up (va_up (va_up aa 12 r.2.2.2.2.2.2.1) 13 r.2.2.2.2.2.2.2.1) 14 r.2.2.2.2.2.2.2.2.1) 20 r.2.2.2.2.2.2.2.2.2.1) 21 r.2.2.2.2.2.2.2.2.2.2.1) 15 r.2.2.2.2.2.2.2.2.2.2.2.2.2.2.2.1) 16 r.2.2.2.2.2.2.2.2.2.2.2.2.2.2.2.2.1) 17 r.2.2.2.2.2.2.2.2.2.2.2.2.2.2.2.2.2.1) 18 r.2.2.2.2.2.2.2.2.2.2.2.2.2.2.2.2.2.2.1) 19 r.2.2.2.2.2.2.2.2.2.2.2.2.2.2.2.2.2.2.2) pl po pa (va_up (va_up (va_up ms 4 q.2.1) 5 q.2.2.1) 6 q.2.2.2.1) (va_up (va_up (va_up (va_up (va_up (va_up (va_up (va_up ma 3 q.2.2.2.2.1) 4 q.2.2.2.2.2.1) 5 q.2.2.2.2.2.2.1) 6 q.2.2.2.2.2.2.2.1) 7 q.2.2.2.2.2.2.2.2.1) 8 q.2.2.2.2.2.2.2.2.2.1) 9 q.2.2.2.2.2.2.2.2.2.2.1) 10 q.2.2.2.2.2.2.2.2.2.2.2))) := by
  obtain ⟨G, S, hn, hsv, hh, hsp, hrt, hbk, hin, her, hx, hy⟩ := hR
  have hn0 := hn
  obtain ⟨⟨n1, n2⟩, ⟨n3, n4, n5, n6, n7, n8, n9⟩, n10, hs, hw⟩ := hn
  have hP := NP_b hw.1
  by_cases q : NP G ≤ 5000
  · obtain ⟨D0, hD0, -⟩ := JA_ex (aa 20)
    obtain ⟨Q0, hQ0, -⟩ := JA_ex (aa 21)
    have z1 : OK (NP G) (FLL 5000 (-1) D0, Q0, 0) := ok_E0 _ _ (fun p a b => FL_in (by omega))
    have z2 : LK (NP G) (FLL 5000 (-1) D0, Q0, 0) E0 := lk_E0 _ _ (fun p a b => FL_in (by omega))
    have zE : OK (NP G) E0 := ok_E0 _ _ (fun _ _ _ => rfl)
    obtain ⟨z0, hz0⟩ : ∃ z0 : BS, z0 = (FLL 5000 (-1) D0, Q0, 0) := ⟨_, rfl⟩
    rw [← hz0] at z1 z2
    have hb : ∀ c, f_X5_beginSearch c (JA D0) = some (J 0, JA z0.1) := fun c => by rw [hz0]; exact e_beginSearch c D0
    have hz1 : z0.2.1 = Q0 := by rw [hz0]
    have hz2 : z0.2.2 = 0 := by rw [hz0]
    clear hz0
    unfold f_X7_groups
    simp only [n1, n2, n3, n4, n5, n6, n7, n8, n9, n10]
    refine WP.bind (w_surveyPoses hw hs hsp q _ _ _ _ _ _ _ _ _) fun o ho => ?_
    obtain ⟨k0, k1, k2, k3, sp, st, T, k4, k5, k6, k7, k8⟩ := ho
    rw [if_pos k0]
    simp only [k1, k2, k3, k4, k5, k6]
    rw [hD0, hQ0]
    refine WP.ob (hb _) ?_
    refine WP.ob (a := (J (GRP G z0 (NP G).toNat).2.2.2, JA (GRP G z0 (NP G).toNat).2.1, JA (GRP G z0 (NP G).toNat).2.2.1, J (GRP G z0 (NP G).toNat).1)) ?_ ?_
    · refine lp_for (fun k : Nat => (J (GRP G z0 k).2.2.2, JA (GRP G z0 k).2.1, JA (GRP G z0 k).2.2.1, J (GRP G z0 k).1, J k)) (NP G).toNat (by show _ = (J z0.2.2, JA z0.1, JA z0.2.1, J 0, J 0); rw [hz1, hz2]; rfl) (by omega) (fun k hk => ?_) ?_
      · have h1 := GRP_ok hw.1 z1 k (by omega)
        have hc := ok_le h1.1 (by omega)
        have hr := reach_st (T := T) (s := (GRP G z0 k).2) (p := k) ⟨by omega, q⟩ k8 h1.1 ⟨by omega, by omega⟩
        unfold f_X7_groups_B15
        dsimp only
        rw [if_neg (by rw [J_le (by omega)]; omega)]
        refine ob _ hr ?_
        by_cases z : 0 ≤ TP G k ∧ (GRP G z0 k).2.1 k < 0
        · have h2 : OK (NP G) (tryq (GRP G z0 k).2 k 0) := ok_tryq h1.1 (fun _ => by omega) ⟨Int.le_refl _, by omega⟩
          have h3 : (tryq (GRP G z0 k).2 k 0).2.2 = (GRP G z0 k).2.2.2 + 1 := by
            unfold tryq
            rw [if_pos (show (0 : Int) ≤ (k : Int) ∧ (GRP G z0 k).2.1 k < 0 from ⟨by omega, z.2⟩)]
            rfl
          have hc2 := ok_le h2 (by omega)
          rw [GRP_y z, if_pos z.1]
          rw [if_neg (by rw [h3, J_le (by omega)]; omega)]
          simp only [LET]
          refine ob _ (e_spread hw.1 q k7 k8 h2 (by omega)) ?_
          rw [show (1 : Int32) = J 1 from rfl, J_add, J_add]
          rfl
        · rw [GRP_n z]
          have h3 : (if 0 ≤ TP G k then tryq (GRP G z0 k).2 k 0 else (GRP G z0 k).2) = (GRP G z0 k).2 := by
            by_cases y : 0 ≤ TP G k
            · rw [if_pos y]
              unfold tryq
              exact if_neg (fun w => z ⟨y, w.2⟩)
            · exact if_neg y
          rw [h3, if_pos (by rw [J_le (by omega)]; exact Int.le_refl _)]
          simp only [LET]
          rw [show (1 : Int32) = J 1 from rfl, J_add]
          rfl
      · unfold f_X7_groups_B15
        simp (disch := omega) only [↓reduceIte, j_lits, J_add, J_sub, J_mul, J_neg, J_le, J_lt, J_eqv, J_div, J_imax, J_imin, JA_get, JG, JA_upd, LET, Option.bind_some, lt_T, lt_F, le_T, le_F, eq_T, eq_F, and_true, true_and, Int.sub_neg, Int.natCast_add, n_lits]
    · refine WP.ret ?_
      obtain ⟨D1, hD1, -⟩ := JA_ex (ma 9)
      obtain ⟨Q1, hQ1, -⟩ := JA_ex (ma 10)
      have y1 : OK (NP G) (FLL (NP G) (-1) D1, Q1, 0) := ok_E0 _ _ (fun p a b => FL_in (by omega))
      have y2 : LK (NP G) (FLL (NP G) (-1) D1, Q1, 0) E0 := lk_E0 _ _ (fun p a b => FL_in (by omega))
      have ea := (GRP_lk hw.1 zE z2 (NP G).toNat (by omega)).1
      have eb := (GRP_lk hw.1 zE y2 (NP G).toNat (by omega)).1
      unfold f_X8_groups
      refine WP.ob (e_isMany0 hw.1 q) ?_
      rw [if_pos (by rfl)]
      unfold f_X8_groups_L13
      rw [if_pos (by decide)]
      refine WP.bind (w_laysAll hw.1 hw.2.2 q _ _ _ _ _ _ _ hx hy) fun o2 ho2 => ?_
      obtain ⟨⟨x8, y8⟩, A, T2, j1, j2, j3⟩ := ho2
      rw [hD1, hQ1]
      refine WP.ob (e_forgets hw.1 q _ D1) ?_
      rw [j1]
      refine WP.ob (a := (J (GRP G (FLL (NP G) (-1) D1, Q1, 0) (NP G).toNat).2.2.2, JA (GRP G (FLL (NP G) (-1) D1, Q1, 0) (NP G).toNat).2.1, JA (GRP G (FLL (NP G) (-1) D1, Q1, 0) (NP G).toNat).2.2.1, J (GRP G (FLL (NP G) (-1) D1, Q1, 0) (NP G).toNat).1)) ?_ ?_
      · refine lp_for (fun k : Nat => (J (GRP G (FLL (NP G) (-1) D1, Q1, 0) k).2.2.2, JA (GRP G (FLL (NP G) (-1) D1, Q1, 0) k).2.1, JA (GRP G (FLL (NP G) (-1) D1, Q1, 0) k).2.2.1, J (GRP G (FLL (NP G) (-1) D1, Q1, 0) k).1, J k)) (NP G).toNat rfl (by omega) (fun k hk => ?_) ?_
        · have h1 := GRP_ok hw.1 y1 k (by omega)
          have hc := ok_le h1.1 (by omega)
          have hA := (j3 k (by omega) (by omega)).1
          have hd := (h1.1.2.1 k (by omega) (by omega)).1
          unfold f_X8_groups_B37
          dsimp only
          refine ob _ (e_poses8 hw.1) ?_
          rw [if_neg (by rw [J_le (by omega)]; omega), JG (by omega)]
          rcases FRI_c G k with ⟨e1, e2⟩ | ⟨e1, e2⟩
          · rw [if_neg (by rw [JA_get _ (by omega), hA, e1]; decide), JG (by omega)]
            by_cases z : (GRP G (FLL (NP G) (-1) D1, Q1, 0) k).2.1 k < 0
            · have h2 : OK (NP G) (tryq (GRP G (FLL (NP G) (-1) D1, Q1, 0) k).2 k 0) := ok_tryq h1.1 (fun _ => by omega) ⟨Int.le_refl _, by omega⟩
              rw [GRP_y ⟨e2, z⟩, if_neg (by rw [JA_get _ (by omega), show (0 : Int32) = J 0 from rfl, J_le (by omega)]; omega)]
              simp only [LET]
              refine ob _ (e_starts ⟨by omega, q⟩ h1.1 (by omega) (by omega)) ?_
              refine ob _ (e_spreads hw.1 q (fun a b c => (j3 a b c).1) h2 (by omega)) ?_
              rw [show (1 : Int32) = J 1 from rfl, J_add, J_add]
              rfl
            · have hd2 : (GRP G (FLL (NP G) (-1) D1, Q1, 0) k).2.1 k ≤ 5000 := by
                obtain ⟨j, w1, w2⟩ := (h1.1.2.1 k (by omega) (by omega)).2 (by omega)
                have := h1.1.1 j w1
                rw [w2] at this
                omega
              rw [GRP_n (fun w => z w.2), if_pos (by rw [JA_get _ (by omega), show (0 : Int32) = J 0 from rfl, J_le (by omega)]; omega)]
              simp only [LET]
              rw [show (1 : Int32) = J 1 from rfl, J_add]
              rfl
          · rw [GRP_n (fun w => by omega), if_pos (by rw [JA_get _ (by omega), hA, e1]; rfl)]
            simp only [LET]
            rw [show (1 : Int32) = J 1 from rfl, J_add]
            rfl
        · unfold f_X8_groups_B37
          dsimp only
          refine ob _ (e_poses8 hw.1) ?_
          simp (disch := omega) only [↓reduceIte, j_lits, J_add, J_sub, J_mul, J_neg, J_le, J_lt, J_eqv, J_div, J_imax, J_imin, JA_get, JG, JA_upd, LET, Option.bind_some, lt_T, lt_F, le_T, le_F, eq_T, eq_F, and_true, true_and, Int.sub_neg, Int.natCast_add, n_lits]
      · exact WP.ret ⟨Or.inl ⟨rfl, rfl, congrArg J (ea.trans eb.symm)⟩, G, S, ⟨⟨n1, n2⟩, ⟨n3, n4, n5, n6, n7, n8, n9⟩, n10, hs, hw⟩, hsv, hh, Or.inr ⟨rfl, q, rfl, rfl, sp, st, T, rfl, rfl, rfl, k7, k8⟩, RRTE_k hrt, hbk, hin, her, x8, y8⟩
  · have h7 : (f_X7_groups (ss 10) (aa 1) (aa 2) (aa 3) (aa 0) (ss 2) (ss 3) (ss 4) (ss 5) (aa 12) (aa 13) (aa 14) (aa 20) (aa 21) (ss 18) (ss 19) (ss 20) (ss 21) (aa 15) (aa 16) (aa 17) (aa 18) (aa 19) ) = some (2, J 0, (ss 2), (ss 3), (ss 4), (ss 5), (aa 12), (aa 13), (aa 14), (aa 20), (aa 21), (ss 18), (ss 19), (ss 20), (ss 21), (aa 15), (aa 16), (aa 17), (aa 18), (aa 19)) := by
      unfold f_X7_groups
      simp only [n1, n2, n3, n4, n5, n6, n7, n8, n9, n10]
      exact ob _ (e_surveyPoses_no hw hs (by omega) _ _ _ _ _ _ _ _ _ _ _ _ _ _ _) rfl
    have h8 : (f_X8_groups (ms 4) (ms 5) (ms 6) (ma 0) (ma 3) (ma 4) (ma 5) (ma 6) (ma 7) (ma 8) (ma 9) (ma 10) ) = some (J 0, J 1, (ms 5), (ms 6), (ma 3), (ma 4), (ma 5), (ma 6), (ma 7), (ma 8), (ma 9), (ma 10)) := by
      unfold f_X8_groups f_X8_groups_L13
      rw [n10]
      exact ob _ (e_isMany1 hw.1 (by omega)) rfl
    exact ⟨_, h7, _, h8, Or.inr ⟨rfl, rfl⟩, G, S, hn0, hsv, hh, hsp, hrt, hbk, hin, her, hx, hy⟩
end
