/-! planToName, the call -/
section
variable {ss : Nat → Int32} {aa : Nat → Nat → Int32} {pl po : Nat → Int32} {pa : Nat → Nat → Nat → Int32} {ms : Nat → Int32} {ma : Nat → Nat → Int32} {G G' D E Q T A B sp st F F' U JO VA NM ND W : Int → Int} {S : Nat → Int → Int} {P : Int → Prop} {X Y M : Nat → Int} {x y w N p q d m c : Int}
theorem w_name8 (hw : WF G) (hN : NP G ≤ 5000) (hc : 0 ≤ c ∧ c < 26) (hL : LIM G (fun k => ND (4 * c + k))) {p : Int} (hpp : p = HN G (fun k => ND (4 * c + k)) (nn G)) (hp : 0 ≤ p ∧ p < NP G) (pm spt th fa qd : Int32) (po wy px py fr ti far qu nm : Nat → Int32) (hx : Z0 px) (hy : Z0 py) :
    WP (f_X8_planToName_L44 pm spt th fa qd (JA G) (JA F) po wy px py fr ti far qu nm (JA ND) (J c) (J 0)) (fun o => (Z0 o.2.2.2.2.2.2.2.2.2.1 ∧ Z0 o.2.2.2.2.2.2.2.2.2.2.1) ∧ ((0 ≤ (SR G (pr1 G p)).1 (NU G) ∧ o.1 = J ((SR G (pr1 G p)).1 (NU G)) ∧ o.2.1 = J ((SR G (pr1 G p)).1 (NU G)) ∧ o.2.2.1 = J 0 ∧ o.2.2.2.1 = J 0 ∧ o.2.2.2.2.2.2.1 = JA (STP (NB G) (SR G (pr1 G p)).1 (NU G) F ((SR G (pr1 G p)).1 (NU G)).toNat)) ∨ ((SR G (pr1 G p)).1 (NU G) < 0 ∧ o.2.1 = pm ∧ o.2.2.1 = spt ∧ o.2.2.2.1 = J 4 ∧ o.2.2.2.2.2.2.1 = JA F))) := by
  have h0 := hw.1.1
  have hn := nn_eq hw.1
  unfold f_X8_planToName_L44
  rw [if_pos (by decide)]
  refine WP.ob (a := J p) ?_ ?_
  · rw [hpp]
    refine lp_for (fun k : Nat => (J (HN G (fun k => ND (4 * c + k)) k), J k)) (nn G) rfl (by omega) (fun k hk => ?_) ?_
    · unfold f_X8_planToName_B61
      dsimp only
      rw [show (0 : Int32) = J 0 from rfl, JG (by omega), JA_get _ (by omega), if_neg (by rw [J_le (by omega)]; omega)]
      refine ob _ (e_values (by omega)) ?_
      rw [show (4 : Int32) = J 4 from rfl, J_mul, J_add, JG (by omega), JA_get _ (by omega)]
      refine ob _ (e_down (by omega)) ?_
      simp only [LET]
      rw [J_mul, J_add, J_add, show (1 : Int32) = J 1 from rfl, J_add]
      rfl
    · unfold f_X8_planToName_B61
      dsimp only
      rw [show (0 : Int32) = J 0 from rfl, JG (by omega), JA_get _ (by omega), if_pos (by rw [J_le (by omega)]; omega)]
  · refine WP.bind (w_toPose hw hN hp fa qd po wy px py fr ti far qu hx hy) fun o ho => ?_
    obtain ⟨⟨x8, y8⟩, A, E, e1, e2, e3, e4⟩ := ho
    rw [e1, e2]
    by_cases z : 0 ≤ (SR G (pr1 G p)).1 (NU G)
    · refine WP.ob (e_leads (F := F) hw hN e3 pr1_f e4 z pm spt) ?_
      rw [if_neg (show ¬ (J 1 : Int32) = 0 by decide)]
      exact WP.ret ⟨⟨x8, y8⟩, Or.inl ⟨z, rfl, rfl, rfl, rfl, rfl⟩⟩
    · refine WP.ob (e_leads_no (F := F) hw hN e3 pr1_f e4 (by show (SR G (pr1 G p)).1 (NU G) < 0; omega) pm spt) ?_
      rw [if_pos (by rfl)]
      exact WP.ret ⟨⟨x8, y8⟩, Or.inr ⟨by omega, rfl, rfl, rfl, rfl⟩⟩
theorem call_planToName (hR : REL ss aa pl po pa ms ma) (x1 : Int32) (hc : ∃ c : Int, x1 = J c ∧ 0 ≤ c ∧ c ≤ 65535) : WP (f_X7_planToName (ss 10) (aa 1) (aa 2) (aa 3) (aa 4) (aa 0) (ss 2) (ss 3) (ss 4) (ss 5) (aa 12) (aa 13) (aa 14) (aa 20) (aa 21) (ss 18) (ss 19) (ss 20) (ss 21) (aa 15) (aa 16) (aa 17) (aa 18) (aa 19) (ss 6) (ss 7) (ss 8) (ss 9) (aa 23) (aa 25) (aa 26) (aa 27) (aa 11) x1) (fun r => WP (f_X8_planToName (ms 2) (ms 3) (ms 4) (ms 5) (ms 6) (ma 0) (ma 12) (ma 3) (ma 4) (ma 5) (ma 6) (ma 7) (ma 8) (ma 9) (ma 10) (ma 14) (ma 15) x1) (fun q => ((r.1 = 0 ∧ q.2.2.2.1 = J 0 ∧ r.2.1 = q.1) ∨ (r.1 = 1 ∧ q.2.2.2.1 = J 1) ∨ (r.1 = 6 ∧ q.2.2.2.1 = J 2) ∨ (r.1 = 2 ∧ q.2.2.2.1 = J 3) ∨ (r.1 = 4 ∧ q.2.2.2.1 = J 4)) ∧ REL (va_up (va_up (va_up (va_up (va_up (va_up (va_up (va_up (va_up (va_up (va_up (va_up ss 2 r.2.2.1) 3 r.2.2.2.1) 4 r.2.2.2.2.1) 5 r.2.2.2.2.2.1) 18 r.2.2.2.2.2.2.2.2.2.2.2.1) 19 r.2.2.2.2.2.2.2.2.2.2.2.2.1) 20 r.2.2.2.2.2.2.2.2.2.2.2.2.2.1) 21 r.2.2.2.2.2.2.2.2.2.2.2.2.2.2.1) 6 r.2.2.2.2.2.2.2.2.2.2.2.2.2.2.2.2.2.2.2.2.1) 7 r.2.2.2.2.2.2.2.2.2.2.2.2.2.2.2.2.2.2.2.2.2.1) 8 r.2.2.2.2.2.2.2.2.2.2.2.2.2.2.2.2.2.2.2.2.2.2.1) 9 r.2.2.2.2.2.2.2.2.2.2.2.2.2.2.2.2.2.2.2.2.2.2.2.1) (va_up (va_up (va_up (va_up (va_up (va_up (va_up (va_up (va_up (va_up (va_up (va_up aa 12 r.2.2.2.2.2.2.1) 13 r.2.2.2.2.2.2.2.1) 14 r.2.2.2.2.2.2.2.2.1) 20 r.2.2.2.2.2.2.2.2.2.1) 21 r.2.2.2.2.2.2.2.2.2.2.1) 15 r.2.2.2.2.2.2.2.2.2.2.2.2.2.2.2.1) 16 r.2.2.2.2.2.2.2.2.2.2.2.2.2.2.2.2.1) 17 r.2.2.2.2.2.2.2.2.2.2.2.2.2.2.2.2.2.1) 18 r.2.2.2.2.2.2.2.2.2.2.2.2.2.2.2.2.2.2.1) 19 r.2.2.2.2.2.2.2.2.2.2.2.2.2.2.2.2.2.2.2.1) 23 r.2.2.2.2.2.2.2.2.2.2.2.2.2.2.2.2.2.2.2.2.2.2.2.2.1) 11 r.2.2.2.2.2.2.2.2.2.2.2.2.2.2.2.2.2.2.2.2.2.2.2.2.2) pl po pa (va_up (va_up (va_up (va_up (va_up ms 2 q.2.1) 3 q.2.2.1) 4 q.2.2.2.1) 5 q.2.2.2.2.1) 6 q.2.2.2.2.2.1) (va_up (va_up (va_up (va_up (va_up (va_up (va_up (va_up (va_up ma 12 q.2.2.2.2.2.2.1) 3 q.2.2.2.2.2.2.2.1) 4 q.2.2.2.2.2.2.2.2.1) 5 q.2.2.2.2.2.2.2.2.2.1) 6 q.2.2.2.2.2.2.2.2.2.2.1) 7 q.2.2.2.2.2.2.2.2.2.2.2.1) 8 q.2.2.2.2.2.2.2.2.2.2.2.2.1) 9 q.2.2.2.2.2.2.2.2.2.2.2.2.2.1) 10 q.2.2.2.2.2.2.2.2.2.2.2.2.2.2))) := by
  obtain ⟨G, S, hn, hsv, hh, hsp, hrt, hbk, hin, her, hx, hy⟩ := hR
  obtain ⟨c, rfl, hc0, hc1⟩ := hc
  have hn0 := hn
  obtain ⟨⟨n1, n2⟩, ⟨n3, n4, n5, n6, n7, n8, n9⟩, n10, hs, hw⟩ := hn
  have h0 := hw.1.1
  have hnn := nn_eq hw.1
  have hP := NP_b hw.1
  have hbk0 := hbk
  obtain ⟨U, JO, VA, NM, ND, b1, b2, b3, b4, b5, b6, b7, b8⟩ := hbk
  have b8 : BK U JO VA NM ND := b8
  by_cases q0 : 0 ≤ c - 97 ∧ c - 97 < 26
  · rcases both_named hw hs b8 q0 with ⟨d1, d2⟩ | ⟨d1, d2, d3, d4, d5⟩
    · have h7 : (f_X7_planToName (ss 10) (aa 1) (aa 2) (aa 3) (aa 4) (aa 0) (ss 2) (ss 3) (ss 4) (ss 5) (aa 12) (aa 13) (aa 14) (aa 20) (aa 21) (ss 18) (ss 19) (ss 20) (ss 21) (aa 15) (aa 16) (aa 17) (aa 18) (aa 19) (ss 6) (ss 7) (ss 8) (ss 9) (aa 23) (aa 25) (aa 26) (aa 27) (aa 11) (J c)) = some (6, J 0, (ss 2), (ss 3), (ss 4), (ss 5), (aa 12), (aa 13), (aa 14), (aa 20), (aa 21), (ss 18), (ss 19), (ss 20), (ss 21), (aa 15), (aa 16), (aa 17), (aa 18), (aa 19), (ss 6), (ss 7), (ss 8), (ss 9), (aa 23), (aa 11)) := by
        unfold f_X7_planToName
        simp only [n1, n4, n5, b2, b3, b4]
        refine ob _ (e_requireName1 q0) ?_
        rw [if_pos rfl, show (97 : Int32) = J 97 from rfl, J_sub]
        exact ob _ d1 rfl
      have h8 : (f_X8_planToName (ms 2) (ms 3) (ms 4) (ms 5) (ms 6) (ma 0) (ma 12) (ma 3) (ma 4) (ma 5) (ma 6) (ma 7) (ma 8) (ma 9) (ma 10) (ma 14) (ma 15) (J c)) = some (J 0, (ms 2), (ms 3), J 2, (ms 5), (ms 6), (ma 12), (ma 3), (ma 4), (ma 5), (ma 6), (ma 7), (ma 8), (ma 9), (ma 10)) := by
        unfold f_X8_planToName f_X8_planToName_L44
        rw [show (97 : Int32) = J 97 from rfl, J_sub, n10, b5, b6]
        simp only [LET]
        refine ob _ (e_in1 (a := 0) (b := 25) (by omega)) ?_
        rw [if_neg (by decide)]
        exact ob _ d2 rfl
      exact ⟨_, h7, _, h8, Or.inr (Or.inr (Or.inl ⟨rfl, rfl⟩)), G, S, hn0, hsv, hh, hsp, hrt, hbk0, hin, her, hx, hy⟩
    · by_cases q : NP G ≤ 5000
      · obtain ⟨F, hF, -⟩ := JA_ex (aa 23)
        obtain ⟨F', hF', -⟩ := JA_ex (ma 12)
        obtain ⟨TR, hTR, -⟩ := JA_ex (aa 11)
        rw [hF, hF'] at hrt
        obtain ⟨p, hpp⟩ : ∃ p : Int, p = HN G (fun k => ND (4 * (c - 97) + k)) (nn G) := ⟨_, rfl⟩
        have hp : 0 ≤ p ∧ p < NP G := by
          rw [hpp]
          exact HN_b hw.1 d5 (nn G) (by omega)
        have h8 := w_name8 (F := F') hw q q0 d5 hpp hp (ms 2) (ms 3) (ms 4) (ms 5) (ms 6) (ma 3) (ma 4) (ma 5) (ma 6) (ma 7) (ma 8) (ma 9) (ma 10) (ma 14) hx hy
        have m8 : ∀ P, WP (f_X8_planToName_L44 (ms 2) (ms 3) (ms 4) (ms 5) (ms 6) (JA G) (JA F') (ma 3) (ma 4) (ma 5) (ma 6) (ma 7) (ma 8) (ma 9) (ma 10) (ma 14) (JA ND) (J (c - 97)) (J 0)) P → WP (f_X8_planToName (ms 2) (ms 3) (ms 4) (ms 5) (ms 6) (ma 0) (ma 12) (ma 3) (ma 4) (ma 5) (ma 6) (ma 7) (ma 8) (ma 9) (ma 10) (ma 14) (ma 15) (J c)) P := by
          intro P h
          unfold f_X8_planToName
          rw [show (97 : Int32) = J 97 from rfl, J_sub, n10, b6, hF']
          simp only [LET]
          refine WP.ob (e_in1 (a := 0) (b := 25) (by omega)) ?_
          rw [if_neg (by decide)]
          rw [b5] at h ⊢
          refine WP.ob d2 ?_
          rw [if_neg (by decide)]
          refine WP.ob (e_isMany0 hw.1 q) ?_
          rw [if_pos (by rfl)]
          exact h
        unfold f_X7_planToName
        simp only [n1, n2, n3, n4, n5, n6, n7, n8, n9, n10, b2, b3, b4, hF, hTR]
        simp only [n10] at m8
        refine WP.ob (e_requireName1 q0) ?_
        rw [if_pos rfl, show (97 : Int32) = J 97 from rfl, J_sub]
        refine WP.ob d1 ?_
        rw [if_neg (by decide)]
        refine WP.bind (w_surveyPoses hw hs hsp q _ _ _ _ _ _ _ _ _) fun o ho => ?_
        obtain ⟨k0, k1, k2, k3, sp, st, T, k4, k5, k6, k7, k8⟩ := ho
        rw [if_pos k0]
        simp only [k1, k2, k3, k4, k5, k6]
        refine WP.ob (a := JA (CPY VA TR ((c - 97) * 4) 0 4)) ?_ ?_
        · unfold f_X0_readValues
          refine ob _ (e_hasN1 q0 d3) ?_
          rw [if_neg (by decide), if_neg (by decide), show (4 : Int32) = J 4 from rfl, J_mul, show (0 : Int32) = J 0 from rfl, gcp_ok (by omega), cpy_ok (by omega)]
          rfl
        · have e : HN G (CPY VA TR ((c - 97) * 4) 0 4) (nn G) = p := by
            rw [hpp]
            refine HN_congr (nn G) fun k a b => ?_
            unfold CPY
            have d4 := d4 k.toNat (by omega)
            rw [show ((k.toNat : Nat) : Int) = k by omega] at d4
            rw [if_pos (by omega), show (c - 97) * 4 + (k - 0) = 4 * (c - 97) + k by omega, d4]
          refine WP.ob (e_numberOf_row hw.1 hs.rb) ?_
          rw [e]
          refine WP.bind (w_best7 (F := F) hw hs q k7 k8 hp _ _ _ _ _ _ _) fun o3 ho3 => ?_
          obtain ⟨a3, b3, c3, d3, e3, f3⟩ := o3
          by_cases z : 0 ≤ (SR G (pr1 G p)).1 (NU G)
          · rw [if_pos z] at ho3
            obtain ⟨rfl, rfl, rfl⟩ := ho3
            dsimp only
            rw [if_pos rfl]
            refine WP.ret (m8 _ (WP.mono h8 fun o8 ho8 => ?_))
            obtain ⟨r8, p8, s8, t8, u8, v8, w8, o8⟩ := o8
            obtain ⟨⟨x8, y8⟩, ⟨w, l1, l2, l3, l4, l5⟩ | ⟨w, -⟩⟩ := ho8
            · dsimp only at l1 l2 l3 l4 l5
              subst l1 l2 l3 l4 l5
              exact ⟨Or.inl ⟨rfl, rfl, rfl⟩, G, S, ⟨⟨n1, n2⟩, ⟨n3, n4, n5, n6, n7, n8, n9⟩, n10, hs, hw⟩, hsv, hh, Or.inr ⟨rfl, q, rfl, rfl, sp, st, T, rfl, rfl, rfl, k7, k8⟩, rrte_new hw q pr1_f z, hbk0, hin, her, x8, y8⟩
            · omega
          · rw [if_neg z] at ho3
            obtain ⟨rfl, rfl⟩ := ho3
            dsimp only
            rw [if_neg (by decide)]
            refine WP.ret (m8 _ (WP.mono h8 fun o8 ho8 => ?_))
            obtain ⟨r8, p8, s8, t8, u8, v8, w8, o8⟩ := o8
            obtain ⟨⟨x8, y8⟩, ⟨w, -⟩ | ⟨w, l1, l2, l3, l4⟩⟩ := ho8
            · omega
            · dsimp only at l1 l2 l3 l4
              subst l1 l2 l3 l4
              exact ⟨Or.inr (Or.inr (Or.inr (Or.inr ⟨rfl, rfl⟩))), G, S, ⟨⟨n1, n2⟩, ⟨n3, n4, n5, n6, n7, n8, n9⟩, n10, hs, hw⟩, hsv, hh, Or.inr ⟨rfl, q, rfl, rfl, sp, st, T, rfl, rfl, rfl, k7, k8⟩, RRTE_k hrt, hbk0, hin, her, x8, y8⟩
      · have h7 : (f_X7_planToName (ss 10) (aa 1) (aa 2) (aa 3) (aa 4) (aa 0) (ss 2) (ss 3) (ss 4) (ss 5) (aa 12) (aa 13) (aa 14) (aa 20) (aa 21) (ss 18) (ss 19) (ss 20) (ss 21) (aa 15) (aa 16) (aa 17) (aa 18) (aa 19) (ss 6) (ss 7) (ss 8) (ss 9) (aa 23) (aa 25) (aa 26) (aa 27) (aa 11) (J c)) = some (2, J 0, (ss 2), (ss 3), (ss 4), (ss 5), (aa 12), (aa 13), (aa 14), (aa 20), (aa 21), (ss 18), (ss 19), (ss 20), (ss 21), (aa 15), (aa 16), (aa 17), (aa 18), (aa 19), (ss 6), (ss 7), (ss 8), (ss 9), (aa 23), (aa 11)) := by
          unfold f_X7_planToName
          simp only [n1, n2, n3, n4, n5, n6, n7, n8, n9, n10, b2, b3, b4]
          refine ob _ (e_requireName1 q0) ?_
          rw [if_pos rfl, show (97 : Int32) = J 97 from rfl, J_sub]
          refine ob _ d1 ?_
          rw [if_neg (by decide)]
          exact ob _ (e_surveyPoses_no hw hs (by omega) _ _ _ _ _ _ _ _ _ _ _ _ _ _ _) rfl
        have h8 : (f_X8_planToName (ms 2) (ms 3) (ms 4) (ms 5) (ms 6) (ma 0) (ma 12) (ma 3) (ma 4) (ma 5) (ma 6) (ma 7) (ma 8) (ma 9) (ma 10) (ma 14) (ma 15) (J c)) = some (J 0, (ms 2), (ms 3), J 3, (ms 5), (ms 6), (ma 12), (ma 3), (ma 4), (ma 5), (ma 6), (ma 7), (ma 8), (ma 9), (ma 10)) := by
          unfold f_X8_planToName f_X8_planToName_L44
          rw [show (97 : Int32) = J 97 from rfl, J_sub, n10, b5, b6]
          simp only [LET]
          refine ob _ (e_in1 (a := 0) (b := 25) (by omega)) ?_
          rw [if_neg (by decide)]
          refine ob _ d2 ?_
          rw [if_neg (by decide)]
          exact ob _ (e_isMany1 hw.1 (by omega)) rfl
        exact ⟨_, h7, _, h8, Or.inr (Or.inr (Or.inr (Or.inl ⟨rfl, rfl⟩))), G, S, hn0, hsv, hh, hsp, hrt, hbk0, hin, her, hx, hy⟩
  · have h7 : (f_X7_planToName (ss 10) (aa 1) (aa 2) (aa 3) (aa 4) (aa 0) (ss 2) (ss 3) (ss 4) (ss 5) (aa 12) (aa 13) (aa 14) (aa 20) (aa 21) (ss 18) (ss 19) (ss 20) (ss 21) (aa 15) (aa 16) (aa 17) (aa 18) (aa 19) (ss 6) (ss 7) (ss 8) (ss 9) (aa 23) (aa 25) (aa 26) (aa 27) (aa 11) (J c)) = some (1, J 0, (ss 2), (ss 3), (ss 4), (ss 5), (aa 12), (aa 13), (aa 14), (aa 20), (aa 21), (ss 18), (ss 19), (ss 20), (ss 21), (aa 15), (aa 16), (aa 17), (aa 18), (aa 19), (ss 6), (ss 7), (ss 8), (ss 9), (aa 23), (aa 11)) := by
      unfold f_X7_planToName
      exact ob _ (e_requireName0 ⟨⟨hc0, hc1⟩, q0⟩) rfl
    have h8 : (f_X8_planToName (ms 2) (ms 3) (ms 4) (ms 5) (ms 6) (ma 0) (ma 12) (ma 3) (ma 4) (ma 5) (ma 6) (ma 7) (ma 8) (ma 9) (ma 10) (ma 14) (ma 15) (J c)) = some (J 0, (ms 2), (ms 3), J 1, (ms 5), (ms 6), (ma 12), (ma 3), (ma 4), (ma 5), (ma 6), (ma 7), (ma 8), (ma 9), (ma 10)) := by
      unfold f_X8_planToName
      rw [show (97 : Int32) = J 97 from rfl, J_sub, n10]
      simp only [LET]
      exact ob _ (e_in0 (a := 0) (b := 25) (by omega)) rfl
    exact ⟨_, h7, _, h8, Or.inr (Or.inl ⟨rfl, rfl⟩), G, S, hn0, hsv, hh, hsp, hrt, hbk0, hin, her, hx, hy⟩
end
