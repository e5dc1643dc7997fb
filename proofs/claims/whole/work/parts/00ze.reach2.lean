section
variable {ss : Nat → Int32} {aa : Nat → Nat → Int32} {pl po : Nat → Int32} {pa : Nat → Nat → Nat → Int32} {ms : Nat → Int32} {ma : Nat → Nat → Int32} {G D Q T A sp st : Int → Int} {S : Nat → Int → Int} {P : Int → Prop}
theorem call_reachableCells (hR : REL ss aa pl po pa ms ma) : WP (f_X7_reachableCells (ss 10) (aa 1) (aa 2) (aa 3) (aa 4) (aa 0) (ss 2) (ss 3) (ss 4) (ss 5) (aa 12) (aa 13) (aa 14) (aa 20) (aa 21) (ss 18) (ss 19) (ss 20) (ss 21) (aa 15) (aa 16) (aa 17) (aa 18) (aa 19) (aa 22) ) (fun r => WP (f_X8_reachableCells (ms 4) (ms 5) (ms 6) (ma 0) (ma 3) (ma 4) (ma 5) (ma 6) (ma 7) (ma 8) (ma 9) (ma 10) (ma 11) ) (fun q => ((r.1 = 0 ∧ q.2.1 = J 0 ∧ r.2.1 = q.1) ∨ (r.1 = 2 ∧ q.2.1 = J 1)) ∧ REL (va_up (va_up (va_up (va_up (va_up (va_up (va_up (va_up ss 2 r.2.2.1) 3 r.2.2.2.1) 4 r.2.2.2.2.1) 5 r.2.2.2.2.2.1) 18 r.2.2.2.2.2.2.2.2.2.2.2.1) 19 r.2.2.2.2.2.2.2.2.2.2.2.2.1) 20 r.2.2.2.2.2.2.2.2.2.2.2.2.2.1) 21 r.2.2.2.2.2.2.2.2.2.2.2.2.2.2.1) (va_up (va_up (va_up (va_up (va_up (va_up (va_up (va_up (va_up (va_up (va_up aa 12 r.2.2.2.2.2.2.1) 13 r.2.2.2.2.2.2.2.1) 14 r.2.2.2.2.2.2.2.2.1) 20 r.2.2.2.2.2.2.2.2.2.1) 21 r.2.2.2.2.2.2.2.2.2.2.1) 15 r.2.2.2.2.2.2.2.2.2.2.2.2.2.2.2.1) 16 r.2.2.2.2.2.2.2.2.2.2.2.2.2.2.2.2.1) 17 r.2.2.2.2.2.2.2.2.2.2.2.2.2.2.2.2.2.1) 18 r.2.2.2.2.2.2.2.2.2.2.2.2.2.2.2.2.2.2.1) 19 r.2.2.2.2.2.2.2.2.2.2.2.2.2.2.2.2.2.2.2.1) 22 r.2.2.2.2.2.2.2.2.2.2.2.2.2.2.2.2.2.2.2.2) pl po pa (va_up (va_up (va_up ms 4 q.2.1) 5 q.2.2.1) 6 q.2.2.2.1) (va_up (va_up (va_up (va_up (va_up (va_up (va_up (va_up (va_up ma 3 q.2.2.2.2.1) 4 q.2.2.2.2.2.1) 5 q.2.2.2.2.2.2.1) 6 q.2.2.2.2.2.2.2.1) 7 q.2.2.2.2.2.2.2.2.1) 8 q.2.2.2.2.2.2.2.2.2.1) 9 q.2.2.2.2.2.2.2.2.2.2.1) 10 q.2.2.2.2.2.2.2.2.2.2.2.1) 11 q.2.2.2.2.2.2.2.2.2.2.2.2))) := by
  obtain ⟨G, S, hn, hsv, hh, hsp, hrt, hbk, hin, her, hx, hy⟩ := hR
  have hn0 := hn
  obtain ⟨⟨n1, n2⟩, ⟨n3, n4, n5, n6, n7, n8, n9⟩, n10, hs, hw⟩ := hn
  have hP := NP_b hw.1
  by_cases q : NP G ≤ 5000
  · unfold f_X7_reachableCells
    simp only [n1, n2, n3, n4, n5, n6, n7, n8, n9, n10]
    refine WP.bind (w_searchFromPresent hw hs hsp q _ _ _ _ _ _ _ _ _ _ _ _) fun o ho => ?_
    obtain ⟨k0, k1, k2, k3, sp, st, T, s, k4, k5, k6, k7, k8, k9, g1, g2, g3, g4⟩ := ho
    rw [if_pos k0]
    simp only [k1, k2, k3, k4, k5, k6, k7, k8, k9]
    obtain ⟨F, t1, t2⟩ := tally7 hw q g3 g4 g2 (aa 22)
    refine WP.ob t1 ?_
    refine WP.ob (a := J (NZ (TLY (TP G) s.2.1 s.2.2) 441)) ?_ ?_
    · obtain ⟨N, hN⟩ : ∃ N : Nat, N = 441 := ⟨_, rfl⟩
      have hN' : (N : Int) = 441 := by omega
      have hb : ∀ c : Int, 0 ≤ TLY (TP G) s.2.1 s.2.2 c ∧ TLY (TP G) s.2.1 s.2.2 c ≤ s.2.2 := TLY_b (fun _ _ => trivial) _
      have hle := (TL_ok q g3 g4 hw).1
      rw [← hN]
      refine lp_for (fun k : Nat => (J (NZ (TLY (TP G) s.2.1 s.2.2) k), J k)) N rfl (by omega) (fun k hk => ?_) ?_
      · have h1 := t2 k (by omega) (by omega)
        have h2 := hb k
        unfold f_X7_reachableCells_B12
        dsimp only
        rw [if_neg (by rw [show (441 : Int32) = J 441 from rfl, J_le (by omega)]; omega), JG (by omega)]
        by_cases z : 0 < TLY (TP G) s.2.1 s.2.2 k
        · rw [show NZ (TLY (TP G) s.2.1 s.2.2) (k + 1) = NZ (TLY (TP G) s.2.1 s.2.2) k + 1 from CNT_y (P := fun c => 0 < TLY (TP G) s.2.1 s.2.2 c) z]
          simp (disch := omega) only [↓reduceIte, j_lits, J_add, J_sub, J_mul, J_neg, J_le, J_lt, J_eqv, J_div, J_imax, J_imin, JA_get, JG, JA_upd, LET, Option.bind_some, lt_T, lt_F, le_T, le_F, eq_T, eq_F, and_true, true_and, Int.sub_neg, Int.natCast_add, n_lits, h1]
        · rw [show NZ (TLY (TP G) s.2.1 s.2.2) (k + 1) = NZ (TLY (TP G) s.2.1 s.2.2) k from CNT_n (P := fun c => 0 < TLY (TP G) s.2.1 s.2.2 c) z]
          simp (disch := omega) only [↓reduceIte, j_lits, J_add, J_sub, J_mul, J_neg, J_le, J_lt, J_eqv, J_div, J_imax, J_imin, JA_get, JG, JA_upd, LET, Option.bind_some, lt_T, lt_F, le_T, le_F, eq_T, eq_F, and_true, true_and, Int.sub_neg, Int.natCast_add, n_lits, h1]
      · unfold f_X7_reachableCells_B12
        dsimp only
        rw [hN', if_pos (by decide)]
    · refine WP.ret ?_
      unfold f_X8_reachableCells
      refine WP.ob (e_isMany0 hw.1 q) ?_
      rw [if_pos (by rfl)]
      unfold f_X8_reachableCells_L13
      rw [if_pos (by decide)]
      refine WP.bind (w_connects hw q _ _ _ _ _ _ _ _ _ _ hx hy) fun o2 ho2 => ?_
      obtain ⟨⟨x8, y8⟩, A, T2, s2, l1, l2, l3, l4, l5, l6, l7, l8⟩ := ho2
      have ok2 := TL_ok q l7 l8 hw
      obtain ⟨F2, u1, u2⟩ := counts8 (Q := s2.2.1) (T := T2) (n := s2.2.2) ok2.1 (fun j hj => by
        have h1 := ok2.2 j hj
        rw [(l6 _ h1.1.1 h1.1.2).2]
        omega) (ma 11)
      rw [l1, l3, l5]
      refine WP.ob u1 ?_
      refine WP.ret ⟨Or.inl ⟨rfl, rfl, ?_⟩, G, S, ⟨⟨n1, n2⟩, ⟨n3, n4, n5, n6, n7, n8, n9⟩, n10, hs, hw⟩, hsv, hh, Or.inr ⟨rfl, q, rfl, rfl, sp, st, T, rfl, rfl, rfl, g1, g2⟩, RRTE_k hrt, hbk, hin, her, x8, y8⟩
      exact congrArg J (congrArg (fun f => NZ f 441) (both_counts hw q g3 g4 l7 l8 (fun a b c => (l6 a b c).2)))
  · have h7 : (f_X7_reachableCells (ss 10) (aa 1) (aa 2) (aa 3) (aa 4) (aa 0) (ss 2) (ss 3) (ss 4) (ss 5) (aa 12) (aa 13) (aa 14) (aa 20) (aa 21) (ss 18) (ss 19) (ss 20) (ss 21) (aa 15) (aa 16) (aa 17) (aa 18) (aa 19) (aa 22) ) = some (2, J 0, (ss 2), (ss 3), (ss 4), (ss 5), (aa 12), (aa 13), (aa 14), (aa 20), (aa 21), (ss 18), (ss 19), (ss 20), (ss 21), (aa 15), (aa 16), (aa 17), (aa 18), (aa 19), (aa 22)) := by
      unfold f_X7_reachableCells
      simp only [n1, n2, n3, n4, n5, n6, n7, n8, n9, n10]
      exact ob _ (e_searchFromPresent_no hw hs (by omega) _ _ _ _ _ _ _ _ _ _ _ _ _ _ _ _ _ _) rfl
    have h8 : (f_X8_reachableCells (ms 4) (ms 5) (ms 6) (ma 0) (ma 3) (ma 4) (ma 5) (ma 6) (ma 7) (ma 8) (ma 9) (ma 10) (ma 11) ) = some (J 0, J 1, (ms 5), (ms 6), (ma 3), (ma 4), (ma 5), (ma 6), (ma 7), (ma 8), (ma 9), (ma 10), (ma 11)) := by
      unfold f_X8_reachableCells f_X8_reachableCells_L13
      rw [n10]
      exact ob _ (e_isMany1 hw.1 (by omega)) rfl
    exact ⟨_, h7, _, h8, Or.inr ⟨rfl, rfl⟩, G, S, hn0, hsv, hh, hsp, hrt, hbk, hin, her, hx, hy⟩
theorem e_requireReached (c : Nat) (h : (c : Int) ≤ 5000) : f_X7_requireReached (J c) = some (if c = 0 then 4 else 0) := by
  unfold f_X7_requireReached
  by_cases q : c = 0
  · subst q; rfl
  · rw [if_neg q, if_pos (by rw [show (0 : Int32) = J 0 from rfl, J_lt (by omega)]; omega)]
/-- the first cell of the greatest count -/
def BST (F : Int → Int) : Nat → Int
  | 0 => 0
  | k + 1 => if F (BST F k) < F ((k : Int) + 1) then (k : Int) + 1 else BST F k
theorem BST_b (F : Int → Int) : ∀ k : Nat, 0 ≤ BST F k ∧ BST F k ≤ k
  | 0 => ⟨Int.le_refl _, Int.le_refl _⟩
  | k + 1 => by
    have h1 := BST_b F k
    show 0 ≤ (if F (BST F k) < F ((k : Int) + 1) then (k : Int) + 1 else BST F k) ∧ (if F (BST F k) < F ((k : Int) + 1) then (k : Int) + 1 else BST F k) ≤ ((k + 1 : Nat) : Int)
    by_cases z : F (BST F k) < F ((k : Int) + 1)
    · rw [if_pos z]; omega
    · rw [if_neg z]; omega
theorem BST_congr {F F' : Int → Int} : ∀ k : Nat, (∀ c : Int, 0 ≤ c → c ≤ k → F c = F' c) → BST F k = BST F' k
  | 0, _ => rfl
  | k + 1, h => by
    have h1 := BST_congr k (fun c a b => h c a (by omega))
    have h2 := BST_b F k
    show (if F (BST F k) < F ((k : Int) + 1) then (k : Int) + 1 else BST F k) = (if F' (BST F' k) < F' ((k : Int) + 1) then (k : Int) + 1 else BST F' k)
    rw [← h1, h _ h2.1 (by omega), h ((k : Int) + 1) (by omega) (by omega)]
theorem call_favorite (hR : REL ss aa pl po pa ms ma) (x1 : Int32) : WP (f_X7_favorite (ss 10) (aa 1) (aa 2) (aa 3) (aa 4) (aa 0) (ss 2) (ss 3) (ss 4) (ss 5) (aa 12) (aa 13) (aa 14) (aa 20) (aa 21) (ss 18) (ss 19) (ss 20) (ss 21) (aa 15) (aa 16) (aa 17) (aa 18) (aa 19) (aa 22) x1) (fun r => WP (f_X8_favorite (ms 4) (ms 5) (ms 6) (ma 0) (ma 3) (ma 4) (ma 5) (ma 6) (ma 7) (ma 8) (ma 9) (ma 10) (ma 11) x1) (fun q => ((r.1 = 0 ∧ q.2.1 = J 0 ∧ r.2.1 = q.1) ∨ (r.1 = 2 ∧ q.2.1 = J 1) ∨ (r.1 = 4 ∧ q.2.1 = J 2)) ∧ REL (va_up (va_up (va_up (va_up (va_up (va_up (va_up (va_up ss 2 r.2.2.1) 3 r.2.2.2.1) 4 r.2.2.2.2.1) 5 r.2.2.2.2.2.1) 18 r.2.2.2.2.2.2.2.2.2.2.2.1) 19 r.2.2.2.2.2.2.2.2.2.2.2.2.1) 20 r.2.2.2.2.2.2.2.2.2.2.2.2.2.1) 21 r.2.2.2.2.2.2.2.2.2.2.2.2.2.2.1) (va_up (va_up (va_up (va_up (va_up (va_up (va_up (va_up (va_up (va_up (va_up aa 12 r.2.2.2.2.2.2.1) 13 r.2.2.2.2.2.2.2.1) 14 r.2.2.2.2.2.2.2.2.1) 20 r.2.2.2.2.2.2.2.2.2.1) 21 r.2.2.2.2.2.2.2.2.2.2.1) 15 r.2.2.2.2.2.2.2.2.2.2.2.2.2.2.2.1) 16 r.2.2.2.2.2.2.2.2.2.2.2.2.2.2.2.2.1) 17 r.2.2.2.2.2.2.2.2.2.2.2.2.2.2.2.2.2.1) 18 r.2.2.2.2.2.2.2.2.2.2.2.2.2.2.2.2.2.2.1) 19 r.2.2.2.2.2.2.2.2.2.2.2.2.2.2.2.2.2.2.2.1) 22 r.2.2.2.2.2.2.2.2.2.2.2.2.2.2.2.2.2.2.2.2) pl po pa (va_up (va_up (va_up ms 4 q.2.1) 5 q.2.2.1) 6 q.2.2.2.1) (va_up (va_up (va_up (va_up (va_up (va_up (va_up (va_up (va_up ma 3 q.2.2.2.2.1) 4 q.2.2.2.2.2.1) 5 q.2.2.2.2.2.2.1) 6 q.2.2.2.2.2.2.2.1) 7 q.2.2.2.2.2.2.2.2.1) 8 q.2.2.2.2.2.2.2.2.2.1) 9 q.2.2.2.2.2.2.2.2.2.2.1) 10 q.2.2.2.2.2.2.2.2.2.2.2.1) 11 q.2.2.2.2.2.2.2.2.2.2.2.2))) := by
  obtain ⟨G, S, hn, hsv, hh, hsp, hrt, hbk, hin, her, hx, hy⟩ := hR
  have hn0 := hn
  obtain ⟨⟨n1, n2⟩, ⟨n3, n4, n5, n6, n7, n8, n9⟩, n10, hs, hw⟩ := hn
  have hP := NP_b hw.1
  by_cases q : NP G ≤ 5000
  · unfold f_X7_favorite
    simp only [n1, n2, n3, n4, n5, n6, n7, n8, n9, n10]
    refine WP.bind (w_searchFromPresent hw hs hsp q _ _ _ _ _ _ _ _ _ _ _ _) fun o ho => ?_
    obtain ⟨k0, k1, k2, k3, sp, st, T, s, k4, k5, k6, k7, k8, k9, g1, g2, g3, g4⟩ := ho
    have hle := (TL_ok q g3 g4 hw).1
    rw [if_pos k0]
    simp only [k1, k2, k3, k4, k5, k6, k7, k8, k9]
    have m8 : ∀ P, WP (f_X8_favorite_L13 (ms 4) (ms 5) (ms 6) (JA G) (ma 3) (ma 4) (ma 5) (ma 6) (ma 7) (ma 8) (ma 9) (ma 10) (ma 11) x1 0) P → WP (f_X8_favorite (ms 4) (ms 5) (ms 6) (ma 0) (ma 3) (ma 4) (ma 5) (ma 6) (ma 7) (ma 8) (ma 9) (ma 10) (ma 11) x1) P := by
      intro P h
      unfold f_X8_favorite
      rw [n10]
      refine WP.ob (e_isMany0 hw.1 q) ?_
      rw [if_pos (by rfl)]
      exact h
    refine WP.ob (e_requireReached s.2.2 hle) ?_
    by_cases z : s.2.2 = 0
    · rw [if_pos z, if_neg (by decide)]
      refine WP.ret ?_
      simp only [n10] at m8
      refine m8 _ ?_
      unfold f_X8_favorite_L13
      rw [if_pos (by decide)]
      refine WP.bind (w_connects hw q _ _ _ _ _ _ _ _ _ _ hx hy) fun o2 ho2 => ?_
      obtain ⟨⟨x8, y8⟩, A, T2, s2, l1, l2, l3, l4, l5, l6, l7, l8⟩ := ho2
      rw [if_pos (by rw [l1, l8.1, ← g4.1, z]; rfl)]
      exact WP.ret ⟨Or.inr (Or.inr ⟨rfl, rfl⟩), G, S, ⟨⟨n1, n2⟩, ⟨n3, n4, n5, n6, n7, n8, n9⟩, n10, hs, hw⟩, hsv, hh, Or.inr ⟨rfl, q, rfl, rfl, sp, st, T, rfl, rfl, rfl, g1, g2⟩, RRTE_k hrt, hbk, hin, her, x8, y8⟩
    · rw [if_neg z, if_pos rfl]
      obtain ⟨F, t1, t2⟩ := tally7 hw q g3 g4 g2 (aa 22)
      have hb : ∀ c : Int, 0 ≤ TLY (TP G) s.2.1 s.2.2 c ∧ TLY (TP G) s.2.1 s.2.2 c ≤ s.2.2 := TLY_b (fun _ _ => trivial) _
      have hBb := BST_b (TLY (TP G) s.2.1 s.2.2) 440
      refine WP.ob t1 ?_
      obtain ⟨N, hN⟩ : ∃ N : Nat, N = 440 := ⟨_, rfl⟩
      have hN' : (N : Int) = 440 := by omega
      have loop : ∀ (F : Int → Int) (b : (Int32 × Int32) → Option ((Int32 × Int32) ⊕ Int32)), (∀ c : Int, 0 ≤ c → c < 441 → F c = TLY (TP G) s.2.1 s.2.2 c) → (∀ z1 z2 : Int32, b (z1, z2) = if 441 ≤ z2 then some (.inr z1) else GD z2 441 <| GD z1 441 <| if (JA F z2.toNatClampNeg) ≤ (JA F z1.toNatClampNeg) then (LET (z2 + 1 : Int32) fun v_4 => some (.inl ((z1, v_4)))) else (LET (z2 + 1 : Int32) fun v_5 => some (.inl ((z2, v_5))))) → LPF b lfuel (0, 1) = some (J (BST (TLY (TP G) s.2.1 s.2.2) 440)) := by
        intro F b hF hbd
        rw [← hN]
        refine lp_for (fun k : Nat => (J (BST (TLY (TP G) s.2.1 s.2.2) k), J (1 + k))) N rfl (by omega) (fun k hk => ?_) ?_
        · have h1 := BST_b (TLY (TP G) s.2.1 s.2.2) k
          have h2 := hF (1 + (k : Int)) (by omega) (by omega)
          have h3 := hF (BST (TLY (TP G) s.2.1 s.2.2) k) (by omega) (by omega)
          have h4 := hb (1 + (k : Int))
          have h5 := hb (BST (TLY (TP G) s.2.1 s.2.2) k)
          have h6 : BST (TLY (TP G) s.2.1 s.2.2) (k + 1) = if TLY (TP G) s.2.1 s.2.2 (BST (TLY (TP G) s.2.1 s.2.2) k) < TLY (TP G) s.2.1 s.2.2 (1 + (k : Int)) then 1 + (k : Int) else BST (TLY (TP G) s.2.1 s.2.2) k := by
            rw [show 1 + (k : Int) = (k : Int) + 1 by omega]; rfl
          rw [hbd, if_neg (by rw [show (441 : Int32) = J 441 from rfl, J_le (by omega)]; omega), JG (by omega), JG (by omega), h6]
          by_cases y : TLY (TP G) s.2.1 s.2.2 (BST (TLY (TP G) s.2.1 s.2.2) k) < TLY (TP G) s.2.1 s.2.2 (1 + (k : Int))
          · rw [if_pos y, if_neg (by rw [JA_get _ (by omega), JA_get _ (by omega), h2, h3, J_le (by omega)]; omega)]
            simp (disch := omega) only [↓reduceIte, j_lits, J_add, J_sub, J_mul, J_neg, J_le, J_lt, J_eqv, J_div, J_imax, J_imin, JA_get, JG, JA_upd, LET, Option.bind_some, lt_T, lt_F, le_T, le_F, eq_T, eq_F, and_true, true_and, Int.sub_neg, Int.natCast_add, n_lits]
            exact congrArg some (congrArg Sum.inl (pr2 rfl (congrArg J (by omega))))
          · rw [if_neg y, if_pos (by rw [JA_get _ (by omega), JA_get _ (by omega), h2, h3, J_le (by omega)]; omega)]
            simp (disch := omega) only [↓reduceIte, j_lits, J_add, J_sub, J_mul, J_neg, J_le, J_lt, J_eqv, J_div, J_imax, J_imin, JA_get, JG, JA_upd, LET, Option.bind_some, lt_T, lt_F, le_T, le_F, eq_T, eq_F, and_true, true_and, Int.sub_neg, Int.natCast_add, n_lits]
            exact congrArg some (congrArg Sum.inl (pr2 rfl (congrArg J (by omega))))
        · rw [hbd, if_pos (by rw [show (441 : Int32) = J 441 from rfl, J_le (by omega)]; omega)]
      refine WP.ob (loop F _ t2 (fun z1 z2 => rfl)) ?_
      have fin : ∀ (a a' : Int32) (o9 : Int32 × Int32 × Int32 × Int32 × (Nat → Int32) × (Nat → Int32) × (Nat → Int32) × (Nat → Int32) × (Nat → Int32) × Int32 × Int32 × Int32 × Int32 × (Nat → Int32) × (Nat → Int32) × (Nat → Int32) × (Nat → Int32) × (Nat → Int32)), True := fun _ _ _ => trivial
      have href : ∀ P, (∀ o2 : Int32 × Int32 × (Nat → Int32) × (Nat → Int32) × (Nat → Int32) × (Nat → Int32) × (Nat → Int32) × (Nat → Int32) × (Nat → Int32) × (Nat → Int32), Z0 o2.2.2.2.2.1 → Z0 o2.2.2.2.2.2.1 → ∀ tm, WP (if x1 = 0 then some ((J (BST (TLY (TP G) s.2.1 s.2.2) 440) / 21) - 10, 0, o2.1, o2.2.1, o2.2.2.1, o2.2.2.2.1, o2.2.2.2.2.1, o2.2.2.2.2.2.1, o2.2.2.2.2.2.2.1, o2.2.2.2.2.2.2.2.1, o2.2.2.2.2.2.2.2.2.1, o2.2.2.2.2.2.2.2.2.2, tm) else some ((J (BST (TLY (TP G) s.2.1 s.2.2) 440) - J (BST (TLY (TP G) s.2.1 s.2.2) 440) / 21 * 21) - 10, 0, o2.1, o2.2.1, o2.2.2.1, o2.2.2.2.1, o2.2.2.2.2.1, o2.2.2.2.2.2.1, o2.2.2.2.2.2.2.1, o2.2.2.2.2.2.2.2.1, o2.2.2.2.2.2.2.2.2.1, o2.2.2.2.2.2.2.2.2.2, tm)) P) → WP (f_X8_favorite (ms 4) (ms 5) (ms 6) (ma 0) (ma 3) (ma 4) (ma 5) (ma 6) (ma 7) (ma 8) (ma 9) (ma 10) (ma 11) x1) P := by
        intro P hP2
        refine m8 _ ?_
        unfold f_X8_favorite_L13
        rw [if_pos (by decide)]
        refine WP.bind (w_connects hw q _ _ _ _ _ _ _ _ _ _ hx hy) fun o2 ho2 => ?_
        obtain ⟨⟨x8, y8⟩, A, T2, s2, l1, l2, l3, l4, l5, l6, l7, l8⟩ := ho2
        have ok2 := TL_ok q l7 l8 hw
        have es : s2.2.2 = s.2.2 := by rw [l8.1, g4.1]
        rw [if_neg (by rw [l1, show (0 : Int32) = J 0 from rfl, J_eqv (by omega)]; omega)]
        obtain ⟨F2, u1, u2⟩ := counts8 (Q := s2.2.1) (T := T2) (n := s2.2.2) ok2.1 (fun j hj => by
          have h1 := ok2.2 j hj
          rw [(l6 _ h1.1.1 h1.1.2).2]
          omega) (ma 11)
        have hc := both_counts hw q g3 g4 l7 l8 (fun a b c => (l6 a b c).2)
        have u1' : f_X8_counts o2.2.1 o2.2.2.2.2.2.2.2.1 o2.2.2.2.2.2.2.2.2.2 (ma 11) = some (J (NZ (TLY T2 s2.2.1 s2.2.2) 441), JA F2) := by rw [l1, l3, l5]; exact u1
        refine WP.ob u1' ?_
        refine WP.ob (loop F2 _ (fun c a b => by rw [u2 c a b, hc]) (fun z1 z2 => rfl)) ?_
        exact hP2 o2 x8 y8 _
      have hBb2 : 0 ≤ BST (TLY (TP G) s.2.1 s.2.2) 440 ∧ BST (TLY (TP G) s.2.1 s.2.2) 440 ≤ 440 := hBb
      by_cases y : x1 = 0
      · rw [if_pos y]
        refine WP.ob (e_cellX (by omega)) ?_
        refine WP.ret ?_
        simp only [n10] at href
        refine href _ fun o2 x8 y8 tm => ?_
        rw [if_pos y]
        refine WP.ret ⟨Or.inl ⟨rfl, rfl, ?_⟩, G, S, ⟨⟨n1, n2⟩, ⟨n3, n4, n5, n6, n7, n8, n9⟩, n10, hs, hw⟩, hsv, hh, Or.inr ⟨rfl, q, rfl, rfl, sp, st, T, rfl, rfl, rfl, g1, g2⟩, RRTE_k hrt, hbk, hin, her, x8, y8⟩
        show J _ = J _ / 21 - 10
        rw [show (21 : Int32) = J 21 from rfl, show (10 : Int32) = J 10 from rfl, J_div (by omega), J_sub]
      · rw [if_neg y]
        refine WP.ob (e_cellY (by omega)) ?_
        refine WP.ret ?_
        simp only [n10] at href
        refine href _ fun o2 x8 y8 tm => ?_
        rw [if_neg y]
        refine WP.ret ⟨Or.inl ⟨rfl, rfl, ?_⟩, G, S, ⟨⟨n1, n2⟩, ⟨n3, n4, n5, n6, n7, n8, n9⟩, n10, hs, hw⟩, hsv, hh, Or.inr ⟨rfl, q, rfl, rfl, sp, st, T, rfl, rfl, rfl, g1, g2⟩, RRTE_k hrt, hbk, hin, her, x8, y8⟩
        show J _ = (J _ - J _ / 21 * 21) - 10
        rw [show (21 : Int32) = J 21 from rfl, show (10 : Int32) = J 10 from rfl, J_div (by omega), J_mul, J_sub, J_sub, J_mod]
  · have h7 : (f_X7_favorite (ss 10) (aa 1) (aa 2) (aa 3) (aa 4) (aa 0) (ss 2) (ss 3) (ss 4) (ss 5) (aa 12) (aa 13) (aa 14) (aa 20) (aa 21) (ss 18) (ss 19) (ss 20) (ss 21) (aa 15) (aa 16) (aa 17) (aa 18) (aa 19) (aa 22) x1) = some (2, J 0, (ss 2), (ss 3), (ss 4), (ss 5), (aa 12), (aa 13), (aa 14), (aa 20), (aa 21), (ss 18), (ss 19), (ss 20), (ss 21), (aa 15), (aa 16), (aa 17), (aa 18), (aa 19), (aa 22)) := by
      unfold f_X7_favorite
      simp only [n1, n2, n3, n4, n5, n6, n7, n8, n9, n10]
      exact ob _ (e_searchFromPresent_no hw hs (by omega) _ _ _ _ _ _ _ _ _ _ _ _ _ _ _ _ _ _) rfl
    have h8 : (f_X8_favorite (ms 4) (ms 5) (ms 6) (ma 0) (ma 3) (ma 4) (ma 5) (ma 6) (ma 7) (ma 8) (ma 9) (ma 10) (ma 11) x1) = some (J 0, J 1, (ms 5), (ms 6), (ma 3), (ma 4), (ma 5), (ma 6), (ma 7), (ma 8), (ma 9), (ma 10), (ma 11)) := by
      unfold f_X8_favorite f_X8_favorite_L13
      rw [n10]
      exact ob _ (e_isMany1 hw.1 (by omega)) rfl
    exact ⟨_, h7, _, h8, Or.inr (Or.inl ⟨rfl, rfl⟩), G, S, hn0, hsv, hh, hsp, hrt, hbk, hin, her, hx, hy⟩
theorem call_farthest (hR : REL ss aa pl po pa ms ma) : WP (f_X7_farthest (ss 10) (aa 1) (aa 2) (aa 3) (aa 4) (aa 0) (ss 2) (ss 3) (ss 4) (ss 5) (aa 12) (aa 13) (aa 14) (aa 20) (aa 21) (ss 18) (ss 19) (ss 20) (ss 21) (aa 15) (aa 16) (aa 17) (aa 18) (aa 19) ) (fun r => WP (f_X8_farthest (ms 4) (ms 5) (ms 6) (ma 0) (ma 3) (ma 4) (ma 5) (ma 6) (ma 7) (ma 8) (ma 9) (ma 10) ) (fun q => ((r.1 = 0 ∧ q.2.1 = J 0 ∧ r.2.1 = q.1) ∨ (r.1 = 2 ∧ q.2.1 = J 1) ∨ (r.1 = 4 ∧ q.2.1 = J 2)) ∧ REL (va_up (va_up (va_up (va_up (va_up (va_up (va_up (va_up ss 2 r.2.2.1) 3 r.2.2.2.1) 4 r.2.2.2.2.1) 5 r.2.2.2.2.2.1) 18 r.2.2.2.2.2.2.2.2.2.2.2.1) 19 r.2.2.2.2.2.2.2.2.2.2.2.2.1) 20 r.2.2.2.2.2.2.2.2.2.2.2.2.2.1) 21 r.2.2.2.2.2.2.2.2.2.2.2.2.2.2.1) (va_up (va_up (va_up (va_up (va_up (va_up (va_up (va_up (va_up (va_up aa 12 r.2.2.2.2.2.2.1) 13 r.2.2.2.2.2.2.2.1) 14 r.2.2.2.2.2.2.2.2.1) 20 r.2.2.2.2.2.2.2.2.2.1) 21 r.2.2.2.2.2.2.2.2.2.2.1) 15 r.2.2.2.2.2.2.2.2.2.2.2.2.2.2.2.1) 16 r.2.2.2.2.2.2.2.2.2.2.2.2.2.2.2.2.1) 17 r.2.2.2.2.2.2.2.2.2.2.2.2.2.2.2.2.2.1) 18 r.2.2.2.2.2.2.2.2.2.2.2.2.2.2.2.2.2.2.1) 19 r.2.2.2.2.2.2.2.2.2.2.2.2.2.2.2.2.2.2.2) pl po pa (va_up (va_up (va_up ms 4 q.2.1) 5 q.2.2.1) 6 q.2.2.2.1) (va_up (va_up (va_up (va_up (va_up (va_up (va_up (va_up ma 3 q.2.2.2.2.1) 4 q.2.2.2.2.2.1) 5 q.2.2.2.2.2.2.1) 6 q.2.2.2.2.2.2.2.1) 7 q.2.2.2.2.2.2.2.2.1) 8 q.2.2.2.2.2.2.2.2.2.1) 9 q.2.2.2.2.2.2.2.2.2.2.1) 10 q.2.2.2.2.2.2.2.2.2.2.2))) := by
  obtain ⟨G, S, hn, hsv, hh, hsp, hrt, hbk, hin, her, hx, hy⟩ := hR
  have hn0 := hn
  obtain ⟨⟨n1, n2⟩, ⟨n3, n4, n5, n6, n7, n8, n9⟩, n10, hs, hw⟩ := hn
  have hP := NP_b hw.1
  by_cases q : NP G ≤ 5000
  · unfold f_X7_farthest
    simp only [n1, n2, n3, n4, n5, n6, n7, n8, n9, n10]
    refine WP.bind (w_searchFromPresent hw hs hsp q _ _ _ _ _ _ _ _ _ _ _ _) fun o ho => ?_
    obtain ⟨k0, k1, k2, k3, sp, st, T, s, k4, k5, k6, k7, k8, k9, g1, g2, g3, g4⟩ := ho
    have hle := (TL_ok q g3 g4 hw).1
    rw [if_pos k0]
    simp only [k1, k2, k3, k4, k5, k6, k7, k8, k9]
    have m8 : ∀ P, WP (f_X8_farthest_L13 (ms 4) (ms 5) (ms 6) (JA G) (ma 3) (ma 4) (ma 5) (ma 6) (ma 7) (ma 8) (ma 9) (ma 10) 0) P → WP (f_X8_farthest (ms 4) (ms 5) (ms 6) (ma 0) (ma 3) (ma 4) (ma 5) (ma 6) (ma 7) (ma 8) (ma 9) (ma 10) ) P := by
      intro P h
      unfold f_X8_farthest
      rw [n10]
      refine WP.ob (e_isMany0 hw.1 q) ?_
      rw [if_pos (by rfl)]
      exact h
    simp only [n10] at m8
    refine WP.ob (e_requireReached s.2.2 hle) ?_
    by_cases z : s.2.2 = 0
    · rw [if_pos z, if_neg (by decide)]
      refine WP.ret ?_
      refine m8 _ ?_
      unfold f_X8_farthest_L13
      rw [if_pos (by decide)]
      refine WP.bind (w_connects hw q _ _ _ _ _ _ _ _ _ _ hx hy) fun o2 ho2 => ?_
      obtain ⟨⟨x8, y8⟩, A, T2, s2, l1, l2, l3, l4, l5, l6, l7, l8⟩ := ho2
      rw [if_pos (by rw [l1, l8.1, ← g4.1, z]; rfl)]
      exact WP.ret ⟨Or.inr (Or.inr ⟨rfl, rfl⟩), G, S, ⟨⟨n1, n2⟩, ⟨n3, n4, n5, n6, n7, n8, n9⟩, n10, hs, hw⟩, hsv, hh, Or.inr ⟨rfl, q, rfl, rfl, sp, st, T, rfl, rfl, rfl, g1, g2⟩, RRTE_k hrt, hbk, hin, her, x8, y8⟩
    · rw [if_neg z, if_pos rfl, show (1 : Int32) = J 1 from rfl, J_sub]
      have e1 : ((s.2.2 - 1 : Nat) : Int) = (s.2.2 : Int) - 1 := by omega
      have hj := g3.1 (s.2.2 - 1) (by omega)
      rw [e1] at hj
      refine WP.ob (e_reachedPose (by omega)) ?_
      refine WP.ob (e_distanceOf (by omega)) ?_
      refine WP.ret ?_
      refine m8 _ ?_
      unfold f_X8_farthest_L13
      rw [if_pos (by decide)]
      refine WP.bind (w_connects hw q _ _ _ _ _ _ _ _ _ _ hx hy) fun o2 ho2 => ?_
      obtain ⟨⟨x8, y8⟩, A, T2, s2, l1, l2, l3, l4, l5, l6, l7, l8⟩ := ho2
      have es : s2.2.2 = s.2.2 := by rw [l8.1, g4.1]
      have hj2 := l7.1 (s.2.2 - 1) (by omega)
      rw [e1] at hj2
      have q1 := g4.2.2 (s.2.2 - 1) (by rw [← g4.1]; omega)
      have q2 := l8.2.2 (s.2.2 - 1) (by rw [← l8.1]; omega)
      rw [e1] at q1 q2
      rw [if_neg (by rw [l1, show (0 : Int32) = J 0 from rfl, J_eqv (by omega)]; omega), l1, l4, l5, show (1 : Int32) = J 1 from rfl, J_sub, es, JG (by omega), JA_get _ (by omega), JG (by omega), JA_get _ (by omega)]
      refine WP.ret ⟨Or.inl ⟨rfl, rfl, congrArg J ?_⟩, G, S, ⟨⟨n1, n2⟩, ⟨n3, n4, n5, n6, n7, n8, n9⟩, n10, hs, hw⟩, hsv, hh, Or.inr ⟨rfl, q, rfl, rfl, sp, st, T, rfl, rfl, rfl, g1, g2⟩, RRTE_k hrt, hbk, hin, her, x8, y8⟩
      rw [g4.2.1 _ hj.1.1 hj.1.2, l8.2.1 _ hj2.1.1 hj2.1.2, q1, q2]
  · have h7 : (f_X7_farthest (ss 10) (aa 1) (aa 2) (aa 3) (aa 4) (aa 0) (ss 2) (ss 3) (ss 4) (ss 5) (aa 12) (aa 13) (aa 14) (aa 20) (aa 21) (ss 18) (ss 19) (ss 20) (ss 21) (aa 15) (aa 16) (aa 17) (aa 18) (aa 19) ) = some (2, J 0, (ss 2), (ss 3), (ss 4), (ss 5), (aa 12), (aa 13), (aa 14), (aa 20), (aa 21), (ss 18), (ss 19), (ss 20), (ss 21), (aa 15), (aa 16), (aa 17), (aa 18), (aa 19)) := by
      unfold f_X7_farthest
      simp only [n1, n2, n3, n4, n5, n6, n7, n8, n9, n10]
      exact ob _ (e_searchFromPresent_no hw hs (by omega) _ _ _ _ _ _ _ _ _ _ _ _ _ _ _ _ _ _) rfl
    have h8 : (f_X8_farthest (ms 4) (ms 5) (ms 6) (ma 0) (ma 3) (ma 4) (ma 5) (ma 6) (ma 7) (ma 8) (ma 9) (ma 10) ) = some (J 0, J 1, (ms 5), (ms 6), (ma 3), (ma 4), (ma 5), (ma 6), (ma 7), (ma 8), (ma 9), (ma 10)) := by
      unfold f_X8_farthest f_X8_farthest_L13
      rw [n10]
      exact ob _ (e_isMany1 hw.1 (by omega)) rfl
    exact ⟨_, h7, _, h8, Or.inr (Or.inl ⟨rfl, rfl⟩), G, S, hn0, hsv, hh, hsp, hrt, hbk, hin, her, hx, hy⟩
end
