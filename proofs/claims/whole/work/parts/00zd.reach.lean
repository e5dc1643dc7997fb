/-! searches from the present pose: connected, reachableCells, favorite, farthest, groups -/
noncomputable def RP (G : Int → Int) : BS := SR G (pr1 G (NU G))
def TLY (T Q : Int → Int) : Nat → Int → Int
  | 0 => fun _ => 0
  | k + 1 => up (TLY T Q k) (T (Q k)) (TLY T Q k (T (Q k)) + 1)
section
variable {ss : Nat → Int32} {aa : Nat → Nat → Int32} {pl po : Nat → Int32} {pa : Nat → Nat → Nat → Int32} {ms : Nat → Int32} {ma : Nat → Nat → Int32} {G D Q T A sp st : Int → Int} {S : Nat → Int → Int} {P : Int → Prop}
theorem RP_ok (hw : WF G) : OK (NP G) (RP G) ∧ SV (NP G) (NB G) (RP G).2.2 (RP G) ∧ AF G (RP G) := SR_ok hw.1 _ (fun p h => pr1_f p h)
theorem num7 (hw : WF G) (hs : SC G S) : f_X4_numberOf_own (J (G 0)) (JA (S 1)) (JA (S 2)) (JA (S 3)) = some (J (NU G)) := by
  have e : HN G (S 3) (nn G) = NU G := HN_congr (nn G) (fun k a b => hs.vl k a (by have := nn_eq hw.1; omega))
  rw [e_numberOf_own hw.1 hs.rb, e]
/-- one start, then the search: both sides come to what looks like SR -/
theorem one7 (hl : WL G) (hN : NP G ≤ 5000) (hsp : SPN G sp st) (hT : ∀ q : Int, 0 ≤ q → q < NP G → T q = TP G q) {p : Int} (hp : 0 ≤ p ∧ p < NP G) (c : Int32) (dist found : Nat → Int32) :
    ∃ (D' : Int → Int) (s s' : BS), f_X5_beginSearch c dist = some (J 0, JA D') ∧ f_X5_reach (J (NP G)) (J 0) (JA T) (JA D') found (J p) (J 0) = some (J s.2.2, JA s.1, JA s.2.1) ∧ f_X5_spread (J (NP G)) (J (G 0)) (J s.2.2) (JA sp) (JA st) (JA T) (JA s.1) (JA s.2.1) (J 0) = some (J s'.2.2, JA s'.1, JA s'.2.1) ∧ OK (NP G) s' ∧ LK (NP G) s' (SR G (pr1 G p)) := by
  have hP := NP_b hl
  obtain ⟨D, rfl, -⟩ := JA_ex dist
  obtain ⟨Q, rfl, -⟩ := JA_ex found
  have hD : ∀ p : Int, 0 ≤ p → p < NP G → FLL 5000 (-1) D p = -1 := fun p a b => FL_in (by omega)
  have h1 : OK (NP G) (FLL 5000 (-1) D, Q, 0) := ok_E0 _ _ hD
  have h2 : LK (NP G) (FLL 5000 (-1) D, Q, 0) E0 := lk_E0 _ _ hD
  have h3 : OK (NP G) (if 0 ≤ TP G p then tryq (FLL 5000 (-1) D, Q, 0) p 0 else (FLL 5000 (-1) D, Q, 0)) := by
    by_cases z : 0 ≤ TP G p
    · rw [if_pos z]; exact ok_tryq h1 (fun _ => hp.2) ⟨Int.le_refl _, by omega⟩
    · rw [if_neg z]; exact h1
  have h4 : LK (NP G) (if 0 ≤ TP G p then tryq (FLL 5000 (-1) D, Q, 0) p 0 else (FLL 5000 (-1) D, Q, 0)) (if 0 ≤ TP G p then tryq E0 p 0 else E0) := by
    by_cases z : 0 ≤ TP G p
    · rw [if_pos z, if_pos z]; exact lk_tryq h2 (fun _ => hp.2)
    · rw [if_neg z, if_neg z]; exact h2
  have h5 : OK (NP G) (if 0 ≤ TP G p then tryq E0 p 0 else E0) := by
    by_cases z : 0 ≤ TP G p
    · rw [if_pos z]; exact ok_tryq (ok_E0 _ _ (fun _ _ _ => rfl)) (fun _ => hp.2) ⟨Int.le_refl _, by omega⟩
    · rw [if_neg z]; exact ok_E0 _ _ (fun _ _ _ => rfl)
  refine ⟨_, _, _, e_beginSearch c D, reach_st (s := (FLL 5000 (-1) D, Q, 0)) ⟨by omega, hN⟩ hT h1 hp, e_spread hl hN hsp hT h3 (i := 0) (by omega), ok_spr (NB_n hl) _ _ _ h3, ?_⟩
  rw [SR1 hp]
  exact lk_spr (NB_n hl) _ _ _ _ h5 h4
theorem one8 (hl : WL G) (hN : NP G ≤ 5000) (hA : ∀ q : Int, 0 ≤ q → q < NP G → A q = FRI G q) {p : Int} (hp : 0 ≤ p ∧ p < NP G) (c : Int32) (dist found : Nat → Int32) :
    ∃ (D' : Int → Int) (s' : BS), f_X8_forgets c (JA G) dist = some (J 0, JA D') ∧ ((A p = 0 ∧ s'.2.2 = 0 ∧ s'.1 = D' ∧ JA s'.2.1 = found) ∨ (A p = 1 ∧ ∃ s : BS, f_X8_starts (J 0) (JA D') found (J p) = some (J s.2.2, JA s.1, JA s.2.1) ∧ f_X8_spreads (J s.2.2) (JA G) (JA A) (JA s.1) (JA s.2.1) (J 0) = some (J s'.2.2, JA s'.1, JA s'.2.1))) ∧ OK (NP G) s' ∧ LK (NP G) s' (SR G (pr1 G p)) := by
  have hP := NP_b hl
  obtain ⟨D, rfl, -⟩ := JA_ex dist
  obtain ⟨Q, rfl, -⟩ := JA_ex found
  have hD : ∀ p : Int, 0 ≤ p → p < NP G → FLL (NP G) (-1) D p = -1 := fun p a b => FL_in (by omega)
  have h1 : OK (NP G) (FLL (NP G) (-1) D, Q, 0) := ok_E0 _ _ hD
  have h2 : LK (NP G) (FLL (NP G) (-1) D, Q, 0) E0 := lk_E0 _ _ hD
  have hAp := hA p hp.1 hp.2
  rcases FRI_c G p with ⟨e1, e2⟩ | ⟨e1, e2⟩
  · have h3 : OK (NP G) (tryq (FLL (NP G) (-1) D, Q, 0) p 0) := ok_tryq h1 (fun _ => hp.2) ⟨Int.le_refl _, by omega⟩
    refine ⟨_, _, e_forgets hl hN c D, Or.inr ⟨by omega, _, e_starts (s := (FLL (NP G) (-1) D, Q, 0)) ⟨by omega, hN⟩ h1 hp (hD p hp.1 hp.2), e_spreads hl hN hA h3 (i := 0) (by omega)⟩, ok_spr (NB_n hl) _ _ _ h3, ?_⟩
    rw [SR1 hp, if_pos e2]
    exact lk_spr (NB_n hl) _ _ _ _ (ok_tryq (ok_E0 _ _ (fun _ _ _ => rfl)) (fun _ => hp.2) ⟨Int.le_refl _, by omega⟩) (lk_tryq h2 (fun _ => hp.2))
  · refine ⟨_, (FLL (NP G) (-1) D, Q, 0), e_forgets hl hN c D, Or.inl ⟨by omega, rfl, rfl, rfl⟩, h1, ?_⟩
    rw [SR1 hp, if_neg (by omega)]
    have e3 : spr (NB G) ((NP G).toNat + 1) 0 E0 = E0 := spr_E _ _ _ _
    rw [e3]
    exact h2
theorem w_searchFromPresent (hw : WF G) (hs : SC G S) {kn pn lk : Int32} {span stride tip : Nat → Int32} (hsp : RSPC G kn pn lk span stride tip) (hN : NP G ≤ 5000) (rc : Int32) (dist found : Nat → Int32) (z1 z2 z3 z4 : Int32) (b c d t vs : Nat → Int32) :
    WP (f_X7_searchFromPresent (J (G 0)) (JA (S 0)) (JA (S 1)) (JA (S 2)) (JA (S 3)) (JA (S 6)) kn pn lk rc span stride tip dist found z1 z2 z3 z4 b c d t vs) (fun o => o.1 = 0 ∧ o.2.1 = J 1 ∧ o.2.2.1 = J (NP G) ∧ o.2.2.2.1 = J (G 0) ∧ ∃ (sp st T : Int → Int) (s : BS), o.2.2.2.2.1 = J s.2.2 ∧ o.2.2.2.2.2.1 = JA sp ∧ o.2.2.2.2.2.2.1 = JA st ∧ o.2.2.2.2.2.2.2.1 = JA T ∧ o.2.2.2.2.2.2.2.2.1 = JA s.1 ∧ o.2.2.2.2.2.2.2.2.2.1 = JA s.2.1 ∧ SPN G sp st ∧ (∀ q : Int, 0 ≤ q → q < NP G → T q = TP G q) ∧ OK (NP G) s ∧ LK (NP G) s (RP G)) := by
  unfold f_X7_searchFromPresent
  refine WP.bind (w_surveyPoses hw hs hsp hN _ _ _ _ _ _ _ _ _) fun o ho => ?_
  obtain ⟨k0, k1, k2, k3, sp, st, T, k4, k5, k6, k7, k8⟩ := ho
  obtain ⟨D', s, s', g1, g2, g3, g4, g5⟩ := one7 hw.1 hN k7 k8 (NU_b hw) rc dist found
  rw [if_pos k0]
  simp only [k1, k2, k3, k4, k5, k6]
  refine WP.ob g1 ?_
  refine WP.ob (num7 hw hs) ?_
  refine WP.ob g2 ?_
  refine WP.ob g3 ?_
  exact WP.ret ⟨rfl, rfl, rfl, rfl, sp, st, T, s', rfl, rfl, rfl, rfl, rfl, rfl, k7, k8, g4, g5⟩
theorem e_searchFromPresent_no (hw : WF G) (hs : SC G S) (hN : 5000 < NP G) (kn pn lk rc : Int32) (span stride tip dist found : Nat → Int32) (z1 z2 z3 z4 : Int32) (b c d t vs : Nat → Int32) :
    f_X7_searchFromPresent (J (G 0)) (JA (S 0)) (JA (S 1)) (JA (S 2)) (JA (S 3)) (JA (S 6)) kn pn lk rc span stride tip dist found z1 z2 z3 z4 b c d t vs = some (2, kn, pn, lk, rc, span, stride, tip, dist, found, z1, z2, z3, z4, b, c, d, t, vs) := by
  unfold f_X7_searchFromPresent
  exact ob _ (e_surveyPoses_no hw hs hN _ _ _ _ _ _ _ _ _ _ _ _ _ _ _) rfl
theorem w_connects (hw : WF G) (hN : NP G ≤ 5000) (fa qd : Int32) (po wy px py fr ti far qu : Nat → Int32) (hx : Z0 px) (hy : Z0 py) :
    WP (f_X8_connects fa qd (JA G) po wy px py fr ti far qu) (fun o => (Z0 o.2.2.2.2.1 ∧ Z0 o.2.2.2.2.2.1) ∧ ∃ (A T : Int → Int) (s : BS), o.2.1 = J s.2.2 ∧ o.2.2.2.2.2.2.1 = JA A ∧ o.2.2.2.2.2.2.2.1 = JA T ∧ o.2.2.2.2.2.2.2.2.1 = JA s.1 ∧ o.2.2.2.2.2.2.2.2.2 = JA s.2.1 ∧ (∀ q : Int, 0 ≤ q → q < NP G → A q = FRI G q ∧ T q = TP G q) ∧ OK (NP G) s ∧ LK (NP G) s (RP G)) := by
  have hP := NP_b hw.1
  have hU := NU_b hw
  unfold f_X8_connects
  refine WP.bind (w_laysAll hw.1 hw.2.2 hN _ _ _ _ _ _ _ hx hy) fun o ho => ?_
  obtain ⟨⟨x8, y8⟩, A, T, j1, j2, j3⟩ := ho
  obtain ⟨D', s', g1, g2, g3, g4⟩ := one8 hw.1 hN (fun q a b => (j3 q a b).1) hU qd far qu
  refine WP.ob g1 ?_
  refine WP.ob (e_numberNow hw.1) ?_
  rw [show HN G (GV G) (nn G) = NU G from rfl, j1, JG (by omega), JA_get _ (by omega)]
  rcases g2 with ⟨e1, e2, e3, e4⟩ | ⟨e1, s, e2, e3⟩
  · rw [if_pos (by rw [e1]; rfl)]
    refine WP.ret ⟨⟨x8, y8⟩, A, T, s', ?_, rfl, j2, ?_, e4.symm, j3, g3, g4⟩
    · rw [e2]; rfl
    · rw [e3]
  · rw [if_neg (by rw [e1]; decide)]
    refine WP.ob (e_numberNow hw.1) ?_
    rw [show HN G (GV G) (nn G) = NU G from rfl]
    refine WP.ob e2 ?_
    refine WP.ob e3 ?_
    exact WP.ret ⟨⟨x8, y8⟩, A, T, s', rfl, rfl, j2, rfl, rfl, j3, g3, g4⟩
theorem call_connected (hR : REL ss aa pl po pa ms ma) : WP (f_X7_connected (ss 10) (aa 1) (aa 2) (aa 3) (aa 4) (aa 0) (ss 2) (ss 3) (ss 4) (ss 5) (aa 12) (aa 13) (aa 14) (aa 20) (aa 21) (ss 18) (ss 19) (ss 20) (ss 21) (aa 15) (aa 16) (aa 17) (aa 18) (aa 19) ) (fun r => WP (f_X8_connected (ms 4) (ms 5) (ms 6) (ma 0) (ma 3) (ma 4) (ma 5) (ma 6) (ma 7) (ma 8) (ma 9) (ma 10) ) (fun q => ((r.1 = 0 ∧ q.2.1 = J 0 ∧ r.2.1 = q.1) ∨ (r.1 = 2 ∧ q.2.1 = J 1)) ∧ REL (va_up (va_up (va_up (va_up (va_up (va_up (va_up (va_up ss 2 r.2.2.1) 3 r.2.2.2.1) 4 r.2.2.2.2.1) 5 r.2.2.2.2.2.1) 18 r.2.2.2.2.2.2.2.2.2.2.2.1) 19 r.2.2.2.2.2.2.2.2.2.2.2.2.1) 20 r.2.2.2.2.2.2.2.2.2.2.2.2.2.1) 21 r.2.2.2.2.2.2.2.2.2.2.2.2.2.2.1) (va_up (va_up (va_up (va_up (va_up (va_up (va_up (va_up (va_up (va_up aa 12 r.2.2.2.2.2.2.1) 13 r.2.2.2.2.2.2.2.1) 14 r.2.2.2.2.2.2.2.2.1) 20 r.2.2.2.2.2.2.2.2.2.1) 21 r.2.2.2.2.2.2.2.2.2.2.1) 15 r.2.2.2.2.2.2.2.2.2.2.2.2.2.2.2.1) 16 r.2.2.2.2.2.2.2.2.2.2.2.2.2.2.2.2.1) 17 r.2.2.2.2.2.2.2.2.2.2.2.2.2.2.2.2.2.1) 18 r.2.2.2.2.2.2.2.2.2.2.2.2.2.2.2.2.2.2.1) 19 r.2.2.2.2.2.2.2.2.2.2.2.2.2.2.2.2.2.2.2) pl po pa (va_up (va_up (va_up ms 4 q.2.1) 5 q.2.2.1) 6 q.2.2.2.1) (va_up (va_up (va_up (va_up (va_up (va_up (va_up (va_up ma 3 q.2.2.2.2.1) 4 q.2.2.2.2.2.1) 5 q.2.2.2.2.2.2.1) 6 q.2.2.2.2.2.2.2.1) 7 q.2.2.2.2.2.2.2.2.1) 8 q.2.2.2.2.2.2.2.2.2.1) 9 q.2.2.2.2.2.2.2.2.2.2.1) 10 q.2.2.2.2.2.2.2.2.2.2.2))) := by
  obtain ⟨G, S, hn, hsv, hh, hsp, hrt, hbk, hin, her, hx, hy⟩ := hR
  have hn0 := hn
  obtain ⟨⟨n1, n2⟩, ⟨n3, n4, n5, n6, n7, n8, n9⟩, n10, hs, hw⟩ := hn
  by_cases q : NP G ≤ 5000
  · unfold f_X7_connected
    simp only [n1, n2, n3, n4, n5, n6, n7, n8, n9, n10]
    refine WP.bind (w_searchFromPresent hw hs hsp q _ _ _ _ _ _ _ _ _ _ _ _) fun o ho => ?_
    obtain ⟨k0, k1, k2, k3, sp, st, T, s, k4, k5, k6, k7, k8, k9, g1, g2, g3, g4⟩ := ho
    rw [if_pos k0]
    simp only [k1, k2, k3, k4, k5, k6, k7, k8, k9]
    refine WP.ret ?_
    unfold f_X8_connected
    refine WP.ob (e_isMany0 hw.1 q) ?_
    rw [if_pos (by rfl)]
    unfold f_X8_connected_L13
    rw [if_pos (by decide)]
    refine WP.bind (w_connects hw q _ _ _ _ _ _ _ _ _ _ hx hy) fun o2 ho2 => ?_
    obtain ⟨⟨x8, y8⟩, A, T2, s2, l1, l2, l3, l4, l5, l6, l7, l8⟩ := ho2
    refine WP.ret ⟨Or.inl ⟨rfl, rfl, ?_⟩, G, S, ⟨⟨n1, n2⟩, ⟨n3, n4, n5, n6, n7, n8, n9⟩, n10, hs, hw⟩, hsv, hh, Or.inr ⟨rfl, q, rfl, rfl, sp, st, T, rfl, rfl, rfl, g1, g2⟩, RRTE_k hrt, hbk, hin, her, x8, y8⟩
    show J s.2.2 = o2.2.1
    rw [l1, g4.1, l8.1]
  · have h7 : (f_X7_connected (ss 10) (aa 1) (aa 2) (aa 3) (aa 4) (aa 0) (ss 2) (ss 3) (ss 4) (ss 5) (aa 12) (aa 13) (aa 14) (aa 20) (aa 21) (ss 18) (ss 19) (ss 20) (ss 21) (aa 15) (aa 16) (aa 17) (aa 18) (aa 19) ) = some (2, J 0, (ss 2), (ss 3), (ss 4), (ss 5), (aa 12), (aa 13), (aa 14), (aa 20), (aa 21), (ss 18), (ss 19), (ss 20), (ss 21), (aa 15), (aa 16), (aa 17), (aa 18), (aa 19)) := by
      unfold f_X7_connected
      simp only [n1, n2, n3, n4, n5, n6, n7, n8, n9, n10]
      exact ob _ (e_searchFromPresent_no hw hs (by omega) _ _ _ _ _ _ _ _ _ _ _ _ _ _ _ _ _ _) rfl
    have h8 : (f_X8_connected (ms 4) (ms 5) (ms 6) (ma 0) (ma 3) (ma 4) (ma 5) (ma 6) (ma 7) (ma 8) (ma 9) (ma 10) ) = some (J 0, J 1, (ms 5), (ms 6), (ma 3), (ma 4), (ma 5), (ma 6), (ma 7), (ma 8), (ma 9), (ma 10)) := by
      unfold f_X8_connected f_X8_connected_L13
      rw [n10]
      exact ob _ (e_isMany1 hw.1 (by omega)) rfl
    exact ⟨_, h7, _, h8, Or.inr ⟨rfl, rfl⟩, G, S, hn0, hsv, hh, hsp, hrt, hbk, hin, her, hx, hy⟩
theorem TLY_b (hT : ∀ j : Nat, 0 ≤ T (Q j) → True) : ∀ (k : Nat) (c : Int), 0 ≤ TLY T Q k c ∧ TLY T Q k c ≤ k
  | 0, c => ⟨Int.le_refl _, Int.le_refl _⟩
  | k + 1, c => by
    have h1 := TLY_b hT k c
    have h2 := TLY_b hT k (T (Q k))
    show 0 ≤ up (TLY T Q k) (T (Q k)) (TLY T Q k (T (Q k)) + 1) c ∧ up (TLY T Q k) (T (Q k)) (TLY T Q k (T (Q k)) + 1) c ≤ ((k + 1 : Nat) : Int)
    by_cases q : c = T (Q k)
    · rw [q, up_same]; omega
    · rw [up_ne _ _ q]; omega
theorem TLY_congr {T' Q' : Int → Int} : ∀ k : Nat, (∀ j : Nat, j < k → T (Q j) = T' (Q' j)) → TLY T Q k = TLY T' Q' k
  | 0, _ => rfl
  | k + 1, h => by
    show up (TLY T Q k) (T (Q k)) (TLY T Q k (T (Q k)) + 1) = up (TLY T' Q' k) (T' (Q' k)) (TLY T' Q' k (T' (Q' k)) + 1)
    rw [TLY_congr k (fun j hj => h j (by omega)), h k (by omega)]
theorem TL_ok {s : BS} (hN : NP G ≤ 5000) (hs : OK (NP G) s) (hl : LK (NP G) s (RP G)) (hw : WF G) : (s.2.2 : Int) ≤ 5000 ∧ ∀ j : Nat, j < s.2.2 → (0 ≤ s.2.1 j ∧ s.2.1 j < NP G) ∧ 0 ≤ TP G (s.2.1 j) ∧ TP G (s.2.1 j) ≤ 440 := by
  have hP := NP_b hw.1
  have h1 := ok_le hs (by omega)
  refine ⟨by omega, fun j hj => ⟨(hs.1 j hj).1, ?_, (TP_b G _).2⟩⟩
  rw [hl.2.2 j (by rw [← hl.1]; exact hj)]
  exact (RP_ok hw).2.2 j (by rw [← hl.1]; exact hj)
theorem tally7 (hw : WF G) (hN : NP G ≤ 5000) {s : BS} (hs : OK (NP G) s) (hl : LK (NP G) s (RP G)) (hT : ∀ q : Int, 0 ≤ q → q < NP G → T q = TP G q) (ta : Nat → Int32) : ∃ F : Int → Int, f_X7_tallyTips (J (NP G)) (J s.2.2) (JA T) (JA s.2.1) ta = some (JA F) ∧ ∀ c : Int, 0 ≤ c → c < 441 → F c = TLY (TP G) s.2.1 s.2.2 c := by
  have hP := NP_b hw.1
  have h1 := TL_ok hN hs hl hw
  obtain ⟨TA, rfl, -⟩ := JA_ex ta
  let FF : Nat → Int → Int := fun k c => if 0 ≤ c ∧ c < 441 then TLY (TP G) s.2.1 k c else TA c
  have hFs : ∀ k : Nat, k < s.2.2 → up (FF k) (TP G (s.2.1 k)) (FF k (TP G (s.2.1 k)) + 1) = FF (k + 1) := by
    intro k hk
    have h2 := h1.2 k hk
    have e : FF k (TP G (s.2.1 k)) = TLY (TP G) s.2.1 k (TP G (s.2.1 k)) := if_pos (by omega)
    rw [e]
    funext c
    by_cases q : c = TP G (s.2.1 k)
    · rw [q, up_same]
      exact ((if_pos (by omega)).trans (up_same _ _ _)).symm
    · rw [up_ne _ _ q]
      by_cases z : 0 ≤ c ∧ c < 441
      · exact (if_pos z).trans ((if_pos z).trans (up_ne _ _ q)).symm
      · exact (if_neg z).trans (if_neg z).symm
  refine ⟨FF s.2.2, ?_, fun c c0 c1 => if_pos ⟨c0, c1⟩⟩
  unfold f_X7_tallyTips
  refine ob _ (e_fill441 (x := 0)) ?_
  refine lp_bind (fun k : Nat => (JA (FF k), J k)) s.2.2 ?_ (by omega) (fun k hk => ?_) (e := JA (FF s.2.2)) ?_ rfl
  · rfl
  · have h2 := h1.2 k hk
    have h3 := hT _ h2.1.1 h2.1.2
    unfold f_X7_tallyTips_B10
    dsimp only
    rw [if_neg (by rw [J_le (by omega)]; omega)]
    refine ob _ (e_reachedPose (by omega)) ?_
    refine ob _ (e_tipOf (by omega)) ?_
    rw [h3]
    refine ob _ (e_isCellNumber1 (by omega)) ?_
    rw [if_neg (by decide), JG (by omega), JG (by omega), JA_get _ (by omega), show (1 : Int32) = J 1 from rfl, J_add, JA_upd _ _ (by omega), hFs k hk]
    simp only [LET]
    rw [J_add]
    rfl
  · unfold f_X7_tallyTips_B10
    simp (disch := omega) only [↓reduceIte, j_lits, J_add, J_sub, J_mul, J_neg, J_le, J_lt, J_eqv, J_div, J_imax, J_imin, JA_get, JG, JA_upd, LET, Option.bind_some, lt_T, lt_F, le_T, le_F, eq_T, eq_F, and_true, true_and, Int.sub_neg, Int.natCast_add, n_lits]
noncomputable def NZ (F : Int → Int) : Nat → Int := CNT (fun c => 0 < F c)
theorem NZ_congr {F F' : Int → Int} : ∀ n : Nat, (∀ c : Int, 0 ≤ c → c < n → F c = F' c) → NZ F n = NZ F' n
  | 0, _ => rfl
  | n + 1, h => by
    have h1 := NZ_congr n (fun c a b => h c a (by omega))
    have h2 := h n (by omega) (by omega)
    by_cases q : 0 < F n
    · rw [show NZ F (n + 1) = NZ F n + 1 from CNT_y (P := fun c => 0 < F c) q, show NZ F' (n + 1) = NZ F' n + 1 from CNT_y (P := fun c => 0 < F' c) (by rw [← h2]; exact q), h1]
    · rw [show NZ F (n + 1) = NZ F n from CNT_n (P := fun c => 0 < F c) q, show NZ F' (n + 1) = NZ F' n from CNT_n (P := fun c => 0 < F' c) (by rw [← h2]; exact q), h1]
theorem NZ_up {F : Int → Int} {t : Int} (hF : ∀ c, 0 ≤ F c) (ht : 0 ≤ t) : ∀ n : Nat, NZ (up F t (F t + 1)) n = NZ F n + (if t < n ∧ F t = 0 then 1 else 0)
  | 0 => by
    rw [if_neg (by omega)]; rfl
  | n + 1 => by
    have h1 := NZ_up hF ht n
    have hFt := hF t
    by_cases q : (n : Int) = t
    · have e : up F t (F t + 1) n = F t + 1 := by rw [q, up_same]
      rw [show NZ (up F t (F t + 1)) (n + 1) = NZ (up F t (F t + 1)) n + 1 from CNT_y (P := fun c => 0 < up F t (F t + 1) c) (by show 0 < up F t (F t + 1) n; rw [e]; omega), h1, if_neg (by omega)]
      by_cases z : F t = 0
      · rw [show NZ F (n + 1) = NZ F n from CNT_n (P := fun c => 0 < F c) (by show ¬ 0 < F n; rw [q]; omega), if_pos (by omega)]
        omega
      · rw [show NZ F (n + 1) = NZ F n + 1 from CNT_y (P := fun c => 0 < F c) (by show 0 < F n; rw [q]; omega), if_neg (by omega)]
        omega
    · have e : up F t (F t + 1) n = F n := up_ne _ _ q
      by_cases z : 0 < F n
      · rw [show NZ (up F t (F t + 1)) (n + 1) = NZ (up F t (F t + 1)) n + 1 from CNT_y (P := fun c => 0 < up F t (F t + 1) c) (by show 0 < up F t (F t + 1) n; rw [e]; exact z), show NZ F (n + 1) = NZ F n + 1 from CNT_y (P := fun c => 0 < F c) z, h1]
        by_cases w : t < n ∧ F t = 0
        · rw [if_pos w, if_pos (by omega)]
        · rw [if_neg w, if_neg (by omega)]
          omega
      · rw [show NZ (up F t (F t + 1)) (n + 1) = NZ (up F t (F t + 1)) n from CNT_n (P := fun c => 0 < up F t (F t + 1) c) (by show ¬ 0 < up F t (F t + 1) n; rw [e]; exact z), show NZ F (n + 1) = NZ F n from CNT_n (P := fun c => 0 < F c) z, h1]
        by_cases w : t < n ∧ F t = 0
        · rw [if_pos w, if_pos (by omega)]
        · rw [if_neg w, if_neg (by omega)]
theorem NZ_0 : ∀ n : Nat, NZ (fun _ => 0) n = 0
  | 0 => rfl
  | n + 1 => (CNT_n (P := fun _ => 0 < (0 : Int)) (by decide)).trans (NZ_0 n)
/-- the reference counts: over any queue of poses whose tips are in the area -/
theorem counts8 {n : Nat} (hn : (n : Int) ≤ 5000) (hq : ∀ j : Nat, j < n → (0 ≤ Q j ∧ Q j < 5000) ∧ 0 ≤ T (Q j) ∧ T (Q j) ≤ 440) (ti : Nat → Int32) : ∃ F : Int → Int, f_X8_counts (J n) (JA T) (JA Q) ti = some (J (NZ (TLY T Q n) 441), JA F) ∧ ∀ c : Int, 0 ≤ c → c < 441 → F c = TLY T Q n c := by
  obtain ⟨TA, rfl, -⟩ := JA_ex ti
  let FF : Nat → Int → Int := fun k c => if 0 ≤ c ∧ c < 441 then TLY T Q k c else TA c
  have hFs : ∀ k : Nat, k < n → up (FF k) (T (Q k)) (FF k (T (Q k)) + 1) = FF (k + 1) := by
    intro k hk
    have h2 := hq k hk
    have e : FF k (T (Q k)) = TLY T Q k (T (Q k)) := if_pos (by omega)
    rw [e]
    funext c
    by_cases q : c = T (Q k)
    · rw [q, up_same]
      exact ((if_pos (by omega)).trans (up_same _ _ _)).symm
    · rw [up_ne _ _ q]
      by_cases z : 0 ≤ c ∧ c < 441
      · exact (if_pos z).trans ((if_pos z).trans (up_ne _ _ q)).symm
      · exact (if_neg z).trans (if_neg z).symm
  have hb : ∀ (k : Nat) (c : Int), 0 ≤ TLY T Q k c ∧ TLY T Q k c ≤ k := TLY_b (fun _ _ => trivial)
  have hNs : ∀ k : Nat, k < n → NZ (TLY T Q (k + 1)) 441 = NZ (TLY T Q k) 441 + (if FF k (T (Q k)) = 0 then 1 else 0) := by
    intro k hk
    have h2 := hq k hk
    have e : FF k (T (Q k)) = TLY T Q k (T (Q k)) := if_pos (by omega)
    rw [e]
    have h3 := NZ_up (F := TLY T Q k) (t := T (Q k)) (fun c => (hb k c).1) h2.2.1 441
    rw [show TLY T Q (k + 1) = up (TLY T Q k) (T (Q k)) (TLY T Q k (T (Q k)) + 1) from rfl, h3]
    by_cases z : TLY T Q k (T (Q k)) = 0
    · rw [if_pos (by omega), if_pos z]
    · rw [if_neg (by omega), if_neg z]
  refine ⟨FF n, ?_, fun c c0 c1 => if_pos ⟨c0, c1⟩⟩
  unfold f_X8_counts
  refine ob (JA (FF 0)) ?_ ?_
  · obtain ⟨N, hN⟩ : ∃ N : Nat, N = 441 := ⟨_, rfl⟩
    have hN' : (N : Int) = 441 := by omega
    refine lp_for (fun k : Nat => (JA (FLL k 0 TA), J k)) N (by rw [FL_0]; rfl) (by omega) (fun k hk => ?_) ?_
    · rw [← FL_s]
      unfold f_X8_counts_B4
      simp (disch := omega) only [↓reduceIte, j_lits, J_add, J_sub, J_mul, J_neg, J_le, J_lt, J_eqv, J_div, J_imax, J_imin, JA_get, JG, JA_upd, LET, Option.bind_some, lt_T, lt_F, le_T, le_F, eq_T, eq_F, and_true, true_and, Int.sub_neg, Int.natCast_add, n_lits]
    · rw [hN']
      unfold f_X8_counts_B4
      simp (disch := omega) only [↓reduceIte, j_lits, J_add, J_sub, J_mul, J_neg, J_le, J_lt, J_eqv, J_div, J_imax, J_imin, JA_get, JG, JA_upd, LET, Option.bind_some, lt_T, lt_F, le_T, le_F, eq_T, eq_F, and_true, true_and, Int.sub_neg, Int.natCast_add, n_lits]
      rfl
  · refine lp_bind (fun k : Nat => (JA (FF k), J (NZ (TLY T Q k) 441), J k)) n ?_ (by omega) (fun k hk => ?_) (e := (JA (FF n), J (NZ (TLY T Q n) 441))) ?_ rfl
    · exact pr2 rfl (pr2 (congrArg J (NZ_0 441).symm) rfl)
    · have h2 := hq k hk
      have h3 : 0 ≤ FF k (T (Q k)) ∧ FF k (T (Q k)) ≤ k := by
        have e : FF k (T (Q k)) = TLY T Q k (T (Q k)) := if_pos (by omega)
        rw [e]; exact hb k _
      have hL : ∀ x : Int, f_X8_counts_L59 (J n) (JA T) (JA Q) (JA (FF k)) (J k) (J (NZ (TLY T Q k) 441)) (J x) = some (.inl (JA (FF (k + 1)), J (NZ (TLY T Q k) 441 + x), J ((k + 1 : Nat) : Int))) := by
        intro x
        unfold f_X8_counts_L59
        simp (disch := omega) only [↓reduceIte, j_lits, J_add, J_sub, J_mul, J_neg, J_le, J_lt, J_eqv, J_div, J_imax, J_imin, JA_get, JG, JA_upd, LET, Option.bind_some, lt_T, lt_F, le_T, le_F, eq_T, eq_F, and_true, true_and, Int.sub_neg, Int.natCast_add, n_lits, hFs k hk]
      unfold f_X8_counts_B26
      dsimp only
      rw [if_neg (by rw [J_le (by omega)]; omega), JG (by omega), JA_get _ (by omega), JG (by omega), JA_get _ (by omega), JG (by omega), hNs k hk]
      by_cases z : FF k (T (Q k)) = 0
      · rw [if_pos z, if_pos (by rw [JA_get _ (by omega), z]; rfl)]
        exact hL 1
      · rw [if_neg z, if_neg (by rw [JA_get _ (by omega), show (0 : Int32) = J 0 from rfl, J_eqv (by omega)]; exact z)]
        exact hL 0
    · unfold f_X8_counts_B26
      simp (disch := omega) only [↓reduceIte, j_lits, J_add, J_sub, J_mul, J_neg, J_le, J_lt, J_eqv, J_div, J_imax, J_imin, JA_get, JG, JA_upd, LET, Option.bind_some, lt_T, lt_F, le_T, le_F, eq_T, eq_F, and_true, true_and, Int.sub_neg, Int.natCast_add, n_lits]
/-! the search and the counts together -/
theorem both_counts (hw : WF G) (hN : NP G ≤ 5000) {s s2 : BS} (h1 : OK (NP G) s) (h2 : LK (NP G) s (RP G)) (h3 : OK (NP G) s2) (h4 : LK (NP G) s2 (RP G)) (hT : ∀ q : Int, 0 ≤ q → q < NP G → T q = TP G q) : TLY (TP G) s.2.1 s.2.2 = TLY T s2.2.1 s2.2.2 := by
  rw [show s.2.2 = s2.2.2 by rw [h2.1, h4.1]]
  refine TLY_congr _ fun j hj => ?_
  have h5 := h3.1 j hj
  rw [hT _ h5.1.1 h5.1.2, h2.2.2 j (by rw [← h4.1]; exact hj), h4.2.2 j (by rw [← h4.1]; exact hj)]
end
