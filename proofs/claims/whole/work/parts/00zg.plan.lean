/-! plans: what both sides do with a search that ended -/
section
variable {ss : Nat → Int32} {aa : Nat → Nat → Int32} {pl po : Nat → Int32} {pa : Nat → Nat → Nat → Int32} {ms : Nat → Int32} {ma : Nat → Nat → Int32} {G D E Q T A sp st F F' : Int → Int} {S : Nat → Int → Int} {P : Int → Prop} {pr : Int → Bool}
theorem rrte_new (hw : WF G) (hN : NP G ≤ 5000) (hp : ∀ p : Int, pr p = true → 0 ≤ TP G p) (hd : 0 ≤ (SR G pr).1 (NU G)) : RRTE G (J 1) (J 1) (J (NU G)) (J ((SR G pr).1 (NU G))) (J 0) (JA (STP (NB G) (SR G pr).1 (NU G) F ((SR G pr).1 (NU G)).toNat)) (J ((SR G pr).1 (NU G))) (J 0) (JA (STP (NB G) (SR G pr).1 (NU G) F' ((SR G pr).1 (NU G)).toNat)) := by
  have hl := hw.1
  have h0 := NU_b hw
  have h1 := SR_d hl hp h0
  have e1 : ((((SR G pr).1 (NU G)).toNat : Nat) : Int) = (SR G pr).1 (NU G) := by omega
  refine Or.inr ⟨rfl, rfl, hN, ((SR G pr).1 (NU G)).toNat, 0, PP (NB G) (SR G pr).1 (NU G), _, _, rfl, by rw [e1], rfl, rfl, by rw [e1], rfl, rfl, by omega, Nat.zero_le _, fun i i0 i1 => ?_, ⟨fun i hi => ?_, fun i hi => ?_⟩, rfl⟩
  · unfold STP
    rw [if_pos ⟨i0, i1⟩, if_pos ⟨i0, i1⟩]
  · have h2 := PP_in hl hp h0 i (by omega)
    have h3 := SR_d hl hp h2.1
    exact ⟨h2.1, h3.2.2 (by omega)⟩
  · have h2 := PP_in hl hp h0 i (by omega)
    obtain ⟨a, b, c, e, f⟩ := SR_NR hl hp h2.1 (by omega)
    have e2 : STP (NB G) (SR G pr).1 (NU G) F ((SR G pr).1 (NU G)).toNat i = MVV (NB G) (SR G pr).1 (PP (NB G) (SR G pr).1 (NU G) i) := by
      unfold STP
      rw [if_pos (by omega), Int.toNat_natCast]
    rw [e2]
    refine ⟨by omega, ?_⟩
    rcases NB_r hl h2.1 (m := (MVV (NB G) (SR G pr).1 (PP (NB G) (SR G pr).1 (NU G) i) : Nat)) (by omega) with z | z
    · have := c.1; omega
    · exact z.2.1.symm
theorem e_requireWay (hw : WF G) (hs : SC G S) (hN : NP G ≤ 5000) (hp : ∀ p : Int, pr p = true → 0 ≤ TP G p) (hE : ∀ q : Int, 0 ≤ q → q < NP G → E q = (SR G pr).1 q) : f_X7_requireWay (J (G 0)) (JA (S 1)) (JA (S 2)) (JA (S 3)) (J (NP G)) (JA E) = some (if 0 ≤ (SR G pr).1 (NU G) then 0 else 4) := by
  have hP := NP_b hw.1
  have h0 := NU_b hw
  have h1 := SR_d hw.1 hp h0
  unfold f_X7_requireWay
  refine ob _ (num7 hw hs) ?_
  refine ob _ (e_distanceOf (by omega)) ?_
  rw [hE _ h0.1 h0.2, show (0 : Int32) = J 0 from rfl]
  by_cases z : 0 ≤ (SR G pr).1 (NU G)
  · rw [if_pos z, if_pos (by rw [J_le (by omega)]; exact z)]
  · rw [if_neg z, if_neg (by rw [J_le (by omega)]; exact z)]
theorem take_no (hw : WF G) (hs : SC G S) (hN : NP G ≤ 5000) (hp : ∀ p : Int, pr p = true → 0 ≤ TP G p) (hE : ∀ q : Int, 0 ≤ q → q < NP G → E q = (SR G pr).1 q) (hd : (SR G pr).1 (NU G) < 0) (c d e f : Int32) (span stride tip steps : Nat → Int32) : f_X7_takeBest (J (G 0)) (JA (S 1)) (JA (S 2)) (JA (S 3)) (J (NP G)) (J (G 0)) span stride tip (JA E) c d e f steps = some (4, 0, c, d, e, f, steps) := by
  unfold f_X7_takeBest
  refine ob _ (e_requireWay hw hs hN hp hE) ?_
  rw [if_neg (show ¬ 0 ≤ (SR G pr).1 (NU G) by omega)]
  rfl
theorem take_yes (hw : WF G) (hs : SC G S) (hN : NP G ≤ 5000) (hsp : SPN G sp st) (hT : ∀ q : Int, 0 ≤ q → q < NP G → T q = TP G q) (hp : ∀ p : Int, pr p = true → 0 ≤ TP G p) (hE : ∀ q : Int, 0 ≤ q → q < NP G → E q = (SR G pr).1 q) (hd : 0 ≤ (SR G pr).1 (NU G)) (c d e f : Int32) : f_X7_takeBest (J (G 0)) (JA (S 1)) (JA (S 2)) (JA (S 3)) (J (NP G)) (J (G 0)) (JA sp) (JA st) (JA T) (JA E) c d e f (JA F) = some (0, J ((SR G pr).1 (NU G)), J 1, J (NU G), J ((SR G pr).1 (NU G)), J 0, JA (STP (NB G) (SR G pr).1 (NU G) F ((SR G pr).1 (NU G)).toNat)) := by
  unfold f_X7_takeBest
  refine ob _ (e_requireWay hw hs hN hp hE) ?_
  rw [if_pos hd, if_pos rfl]
  refine ob _ (num7 hw hs) ?_
  refine ob _ (show f_X3_begin c d e f (J (NU G)) = some (J 1, J (NU G), J 0, J 0) from rfl) ?_
  refine ob _ (e_descend hw.1 hN hsp hT hp hE (NU_b hw) hd) ?_
  rfl
theorem w_best7 (hw : WF G) (hs : SC G S) (hN : NP G ≤ 5000) (hsp : SPN G sp st) (hT : ∀ q : Int, 0 ≤ q → q < NP G → T q = TP G q) {p : Int} (hp : 0 ≤ p ∧ p < NP G) (rc c d e f : Int32) (dist found : Nat → Int32) :
    WP (f_X7_planBestToPose (J (G 0)) (JA (S 1)) (JA (S 2)) (JA (S 3)) (J (NP G)) (J (G 0)) rc (JA sp) (JA st) (JA T) dist found c d e f (JA F) (J p)) (fun o => if 0 ≤ (SR G (pr1 G p)).1 (NU G) then o.1 = 0 ∧ o.2.1 = J ((SR G (pr1 G p)).1 (NU G)) ∧ o.2.2.2.2.2 = (J 1, J (NU G), J ((SR G (pr1 G p)).1 (NU G)), J 0, JA (STP (NB G) (SR G (pr1 G p)).1 (NU G) F ((SR G (pr1 G p)).1 (NU G)).toNat)) else o.1 = 4 ∧ o.2.2.2.2.2 = (c, d, e, f, JA F)) := by
  obtain ⟨D', s, s', g1, g2, g3, g4, g5⟩ := one7 hw.1 hN hsp hT hp rc dist found
  unfold f_X7_planBestToPose
  refine WP.ob g1 ?_
  refine WP.ob g2 ?_
  refine WP.ob g3 ?_
  have hE := g5.2.1
  by_cases z : 0 ≤ (SR G (pr1 G p)).1 (NU G)
  · refine WP.ob (take_yes (F := F) hw hs hN hsp hT pr1_f hE z c d e f) ?_
    refine WP.ret ?_
    rw [if_pos z]
    exact ⟨rfl, rfl, rfl⟩
  · refine WP.ob (take_no hw hs hN pr1_f hE (by omega) c d e f _ _ _ _) ?_
    refine WP.ret ?_
    rw [if_neg z]
    exact ⟨rfl, rfl⟩
theorem w_toPose (hw : WF G) (hN : NP G ≤ 5000) {p : Int} (hp : 0 ≤ p ∧ p < NP G) (fa qd : Int32) (po wy px py fr ti far qu : Nat → Int32) (hx : Z0 px) (hy : Z0 py) :
    WP (f_X8_toPose fa qd (JA G) po wy px py fr ti far qu (J p)) (fun o => (Z0 o.2.2.2.2.1 ∧ Z0 o.2.2.2.2.2.1) ∧ ∃ A E : Int → Int, o.2.2.2.2.2.2.1 = JA A ∧ o.2.2.2.2.2.2.2.2.1 = JA E ∧ (∀ q : Int, 0 ≤ q → q < NP G → A q = FRI G q) ∧ (∀ q : Int, 0 ≤ q → q < NP G → E q = (SR G (pr1 G p)).1 q)) := by
  have hP := NP_b hw.1
  unfold f_X8_toPose
  refine WP.bind (w_laysAll hw.1 hw.2.2 hN _ _ _ _ _ _ _ hx hy) fun o2 ho2 => ?_
  obtain ⟨⟨x8, y8⟩, A, T2, j1, j2, j3⟩ := ho2
  obtain ⟨D', s', g1, g2, g4, g5⟩ := one8 hw.1 hN (fun a b c => (j3 a b c).1) hp qd far qu
  refine WP.ob g1 ?_
  rw [j1, JG (by omega), JA_get _ (by omega)]
  rcases g2 with ⟨e1, e2, e3, e4⟩ | ⟨e1, s, e2, e3⟩
  · rw [e1, if_pos (by rfl)]
    refine WP.ret ⟨⟨x8, y8⟩, A, D', rfl, rfl, fun a b c => (j3 a b c).1, fun q a b => ?_⟩
    rw [← e3]
    exact g5.2.1 q a b
  · rw [e1, if_neg (by decide)]
    refine WP.ob e2 ?_
    refine WP.ob e3 ?_
    exact WP.ret ⟨⟨x8, y8⟩, A, s'.1, rfl, rfl, fun a b c => (j3 a b c).1, g5.2.1⟩
def PL8 (G : Int → Int) (pr : Int → Bool) (F : Int → Int) (pm spt : Int32) (o : Int32 × Int32 × Int32 × Int32 × Int32 × Int32 × (Nat → Int32) × (Nat → Int32) × (Nat → Int32) × (Nat → Int32) × (Nat → Int32) × (Nat → Int32) × (Nat → Int32) × (Nat → Int32) × (Nat → Int32)) : Prop := (Z0 o.2.2.2.2.2.2.2.2.2.1 ∧ Z0 o.2.2.2.2.2.2.2.2.2.2.1) ∧ ((0 ≤ (SR G pr).1 (NU G) ∧ o.1 = J ((SR G pr).1 (NU G)) ∧ o.2.1 = J ((SR G pr).1 (NU G)) ∧ o.2.2.1 = J 0 ∧ o.2.2.2.1 = J 0 ∧ o.2.2.2.2.2.2.1 = JA (STP (NB G) (SR G pr).1 (NU G) F ((SR G pr).1 (NU G)).toNat)) ∨ ((SR G pr).1 (NU G) < 0 ∧ o.2.1 = pm ∧ o.2.2.1 = spt ∧ o.2.2.2.1 = J 3 ∧ o.2.2.2.2.2.2.1 = JA F))
theorem w_planToPose8 (hw : WF G) (hN : NP G ≤ 5000) {p : Int} (hp : 0 ≤ p ∧ p < NP G) (pm spt fa qd : Int32) (po wy px py fr ti far qu : Nat → Int32) (hx : Z0 px) (hy : Z0 py) :
    WP (f_X8_planToPose pm spt (J 0) fa qd (JA G) (JA F) po wy px py fr ti far qu (J p)) (PL8 G (pr1 G p) F pm spt) := by
  unfold f_X8_planToPose
  refine WP.ob (e_isPose81 hw.1 hp) ?_
  rw [if_neg (by decide)]
  refine WP.ob (e_isMany0 hw.1 hN) ?_
  rw [if_pos (by rfl)]
  unfold f_X8_planToPose_L25
  rw [if_pos (by decide)]
  refine WP.bind (w_toPose hw hN hp fa qd po wy px py fr ti far qu hx hy) fun o ho => ?_
  obtain ⟨⟨x8, y8⟩, A, E, e1, e2, e3, e4⟩ := ho
  rw [e1, e2]
  by_cases z : 0 ≤ (SR G (pr1 G p)).1 (NU G)
  · refine WP.ob (e_leads (F := F) hw hN e3 pr1_f e4 z pm spt) ?_
    rw [if_neg (show ¬ (J 1 : Int32) = 0 by decide)]
    exact WP.ret ⟨⟨x8, y8⟩, Or.inl ⟨z, rfl, rfl, rfl, rfl, rfl⟩⟩
  · refine WP.ob (e_leads_no (F := F) hw hN e3 pr1_f e4 (by show (SR G (pr1 G p)).1 (NU G) < 0; omega) pm spt) ?_
    rw [if_pos (by rfl)]
    exact WP.ret ⟨⟨x8, y8⟩, Or.inr ⟨by omega, rfl, rfl, rfl, rfl⟩⟩
theorem call_planToPose (hR : REL ss aa pl po pa ms ma) (x1 : Int32) : WP (f_X7_planToPose (ss 10) (aa 1) (aa 2) (aa 3) (aa 4) (aa 0) (ss 2) (ss 3) (ss 4) (ss 5) (aa 12) (aa 13) (aa 14) (aa 20) (aa 21) (ss 18) (ss 19) (ss 20) (ss 21) (aa 15) (aa 16) (aa 17) (aa 18) (aa 19) (ss 6) (ss 7) (ss 8) (ss 9) (aa 23) x1) (fun r => WP (f_X8_planToPose (ms 2) (ms 3) (ms 4) (ms 5) (ms 6) (ma 0) (ma 12) (ma 3) (ma 4) (ma 5) (ma 6) (ma 7) (ma 8) (ma 9) (ma 10) x1) (fun q => ((r.1 = 0 ∧ q.2.2.2.1 = J 0 ∧ r.2.1 = q.1) ∨ (r.1 = 3 ∧ q.2.2.2.1 = J 1) ∨ (r.1 = 2 ∧ q.2.2.2.1 = J 2) ∨ (r.1 = 4 ∧ q.2.2.2.1 = J 3)) ∧ REL (va_up (va_up (va_up (va_up (va_up (va_up (va_up (va_up (va_up (va_up (va_up (va_up ss 2 r.2.2.1) 3 r.2.2.2.1) 4 r.2.2.2.2.1) 5 r.2.2.2.2.2.1) 18 r.2.2.2.2.2.2.2.2.2.2.2.1) 19 r.2.2.2.2.2.2.2.2.2.2.2.2.1) 20 r.2.2.2.2.2.2.2.2.2.2.2.2.2.1) 21 r.2.2.2.2.2.2.2.2.2.2.2.2.2.2.1) 6 r.2.2.2.2.2.2.2.2.2.2.2.2.2.2.2.2.2.2.2.2.1) 7 r.2.2.2.2.2.2.2.2.2.2.2.2.2.2.2.2.2.2.2.2.2.1) 8 r.2.2.2.2.2.2.2.2.2.2.2.2.2.2.2.2.2.2.2.2.2.2.1) 9 r.2.2.2.2.2.2.2.2.2.2.2.2.2.2.2.2.2.2.2.2.2.2.2.1) (va_up (va_up (va_up (va_up (va_up (va_up (va_up (va_up (va_up (va_up (va_up aa 12 r.2.2.2.2.2.2.1) 13 r.2.2.2.2.2.2.2.1) 14 r.2.2.2.2.2.2.2.2.1) 20 r.2.2.2.2.2.2.2.2.2.1) 21 r.2.2.2.2.2.2.2.2.2.2.1) 15 r.2.2.2.2.2.2.2.2.2.2.2.2.2.2.2.1) 16 r.2.2.2.2.2.2.2.2.2.2.2.2.2.2.2.2.1) 17 r.2.2.2.2.2.2.2.2.2.2.2.2.2.2.2.2.2.1) 18 r.2.2.2.2.2.2.2.2.2.2.2.2.2.2.2.2.2.2.1) 19 r.2.2.2.2.2.2.2.2.2.2.2.2.2.2.2.2.2.2.2.1) 23 r.2.2.2.2.2.2.2.2.2.2.2.2.2.2.2.2.2.2.2.2.2.2.2.2) pl po pa (va_up (va_up (va_up (va_up (va_up ms 2 q.2.1) 3 q.2.2.1) 4 q.2.2.2.1) 5 q.2.2.2.2.1) 6 q.2.2.2.2.2.1) (va_up (va_up (va_up (va_up (va_up (va_up (va_up (va_up (va_up ma 12 q.2.2.2.2.2.2.1) 3 q.2.2.2.2.2.2.2.1) 4 q.2.2.2.2.2.2.2.2.1) 5 q.2.2.2.2.2.2.2.2.2.1) 6 q.2.2.2.2.2.2.2.2.2.2.1) 7 q.2.2.2.2.2.2.2.2.2.2.2.1) 8 q.2.2.2.2.2.2.2.2.2.2.2.2.1) 9 q.2.2.2.2.2.2.2.2.2.2.2.2.2.1) 10 q.2.2.2.2.2.2.2.2.2.2.2.2.2.2))) := by
  obtain ⟨G, S, hn, hsv, hh, hsp, hrt, hbk, hin, her, hx, hy⟩ := hR
  have hn0 := hn
  obtain ⟨⟨n1, n2⟩, ⟨n3, n4, n5, n6, n7, n8, n9⟩, n10, hs, hw⟩ := hn
  have hP := NP_b hw.1
  obtain ⟨p, rfl, hpr⟩ := J_ex x1
  by_cases q0 : 0 ≤ p ∧ p < NP G
  · by_cases q : NP G ≤ 5000
    · obtain ⟨F, hF, -⟩ := JA_ex (aa 23)
      obtain ⟨F', hF', -⟩ := JA_ex (ma 12)
      unfold f_X7_planToPose
      simp only [n1, n2, n3, n4, n5, n6, n7, n8, n9, n10, hF]
      refine WP.ob (e_requirePose1 hw hs.rb q0) ?_
      rw [if_pos rfl]
      refine WP.bind (w_surveyPoses hw hs hsp q _ _ _ _ _ _ _ _ _) fun o ho => ?_
      obtain ⟨k0, k1, k2, k3, sp, st, T, k4, k5, k6, k7, k8⟩ := ho
      rw [if_pos k0]
      simp only [k1, k2, k3, k4, k5, k6]
      refine WP.bind (w_best7 (F := F) hw hs q k7 k8 q0 _ _ _ _ _ _ _) fun o3 ho3 => ?_
      obtain ⟨a3, b3, c3, d3, e3, f3⟩ := o3
      have h8 := w_planToPose8 (F := F') hw q q0 (ms 2) (ms 3) (ms 5) (ms 6) (ma 3) (ma 4) (ma 5) (ma 6) (ma 7) (ma 8) (ma 9) (ma 10) hx hy
      rw [hF']
      rw [hF, hF'] at hrt
      by_cases z : 0 ≤ (SR G (pr1 G p)).1 (NU G)
      · rw [if_pos z] at ho3
        obtain ⟨rfl, rfl, rfl⟩ := ho3
        dsimp only
        rw [if_pos rfl]
        refine WP.ret (WP.mono h8 fun o8 ho8 => ?_)
        obtain ⟨r8, p8, s8, t8, u8, v8, w8, o8⟩ := o8
        obtain ⟨⟨x8, y8⟩, ⟨w, l1, l2, l3, l4, l5⟩ | ⟨w, -⟩⟩ := ho8
        · dsimp only at l1 l2 l3 l4 l5
          subst l1 l2 l3 l4 l5
          exact ⟨Or.inl ⟨rfl, rfl, rfl⟩, G, S, ⟨⟨n1, n2⟩, ⟨n3, n4, n5, n6, n7, n8, n9⟩, n10, hs, hw⟩, hsv, hh, Or.inr ⟨rfl, q, rfl, rfl, sp, st, T, rfl, rfl, rfl, k7, k8⟩, rrte_new hw q pr1_f z, hbk, hin, her, x8, y8⟩
        · omega
      · rw [if_neg z] at ho3
        obtain ⟨rfl, rfl⟩ := ho3
        dsimp only
        rw [if_neg (by decide)]
        refine WP.ret (WP.mono h8 fun o8 ho8 => ?_)
        obtain ⟨r8, p8, s8, t8, u8, v8, w8, o8⟩ := o8
        obtain ⟨⟨x8, y8⟩, ⟨w, -⟩ | ⟨w, l1, l2, l3, l4⟩⟩ := ho8
        · omega
        · dsimp only at l1 l2 l3 l4
          subst l1 l2 l3 l4
          exact ⟨Or.inr (Or.inr (Or.inr ⟨rfl, rfl⟩)), G, S, ⟨⟨n1, n2⟩, ⟨n3, n4, n5, n6, n7, n8, n9⟩, n10, hs, hw⟩, hsv, hh, Or.inr ⟨rfl, q, rfl, rfl, sp, st, T, rfl, rfl, rfl, k7, k8⟩, RRTE_k hrt, hbk, hin, her, x8, y8⟩
    · have h7 : (f_X7_planToPose (ss 10) (aa 1) (aa 2) (aa 3) (aa 4) (aa 0) (ss 2) (ss 3) (ss 4) (ss 5) (aa 12) (aa 13) (aa 14) (aa 20) (aa 21) (ss 18) (ss 19) (ss 20) (ss 21) (aa 15) (aa 16) (aa 17) (aa 18) (aa 19) (ss 6) (ss 7) (ss 8) (ss 9) (aa 23) (J p)) = some (2, J 0, (ss 2), (ss 3), (ss 4), (ss 5), (aa 12), (aa 13), (aa 14), (aa 20), (aa 21), (ss 18), (ss 19), (ss 20), (ss 21), (aa 15), (aa 16), (aa 17), (aa 18), (aa 19), (ss 6), (ss 7), (ss 8), (ss 9), (aa 23)) := by
        unfold f_X7_planToPose
        simp only [n1, n2, n3, n4, n5, n6, n7, n8, n9, n10]
        refine ob _ (e_requirePose1 hw hs.rb q0) ?_
        rw [if_pos rfl]
        exact ob _ (e_surveyPoses_no hw hs (by omega) _ _ _ _ _ _ _ _ _ _ _ _ _ _ _) rfl
      have h8 : (f_X8_planToPose (ms 2) (ms 3) (ms 4) (ms 5) (ms 6) (ma 0) (ma 12) (ma 3) (ma 4) (ma 5) (ma 6) (ma 7) (ma 8) (ma 9) (ma 10) (J p)) = some (J 0, (ms 2), (ms 3), J 2, (ms 5), (ms 6), (ma 12), (ma 3), (ma 4), (ma 5), (ma 6), (ma 7), (ma 8), (ma 9), (ma 10)) := by
        unfold f_X8_planToPose f_X8_planToPose_L25
        rw [n10]
        refine ob _ (e_isPose81 hw.1 q0) ?_
        rw [if_neg (by decide)]
        exact ob _ (e_isMany1 hw.1 (by omega)) rfl
      exact ⟨_, h7, _, h8, Or.inr (Or.inr (Or.inl ⟨rfl, rfl⟩)), G, S, hn0, hsv, hh, hsp, hrt, hbk, hin, her, hx, hy⟩
  · have h7 : (f_X7_planToPose (ss 10) (aa 1) (aa 2) (aa 3) (aa 4) (aa 0) (ss 2) (ss 3) (ss 4) (ss 5) (aa 12) (aa 13) (aa 14) (aa 20) (aa 21) (ss 18) (ss 19) (ss 20) (ss 21) (aa 15) (aa 16) (aa 17) (aa 18) (aa 19) (ss 6) (ss 7) (ss 8) (ss 9) (aa 23) (J p)) = some (3, J 0, (ss 2), (ss 3), (ss 4), (ss 5), (aa 12), (aa 13), (aa 14), (aa 20), (aa 21), (ss 18), (ss 19), (ss 20), (ss 21), (aa 15), (aa 16), (aa 17), (aa 18), (aa 19), (ss 6), (ss 7), (ss 8), (ss 9), (aa 23)) := by
      unfold f_X7_planToPose
      simp only [n1, n2, n3, n4, n5, n6, n7, n8, n9, n10]
      exact ob _ (e_requirePose0 hw hs.rb ⟨hpr, q0⟩) rfl
    have h8 : (f_X8_planToPose (ms 2) (ms 3) (ms 4) (ms 5) (ms 6) (ma 0) (ma 12) (ma 3) (ma 4) (ma 5) (ma 6) (ma 7) (ma 8) (ma 9) (ma 10) (J p)) = some (J 0, (ms 2), (ms 3), J 1, (ms 5), (ms 6), (ma 12), (ma 3), (ma 4), (ma 5), (ma 6), (ma 7), (ma 8), (ma 9), (ma 10)) := by
      unfold f_X8_planToPose f_X8_planToPose_L25
      rw [n10]
      exact ob _ (e_isPose80 hw.1 ⟨hpr, q0⟩) rfl
    exact ⟨_, h7, _, h8, Or.inr (Or.inl ⟨rfl, rfl⟩), G, S, hn0, hsv, hh, hsp, hrt, hbk, hin, her, hx, hy⟩
end
