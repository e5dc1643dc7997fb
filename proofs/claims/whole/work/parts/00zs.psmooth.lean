/-! planSmooth -/
section
variable {ss : Nat → Int32} {aa : Nat → Nat → Int32} {pl po : Nat → Int32} {pa : Nat → Nat → Nat → Int32} {ms : Nat → Int32} {ma : Nat → Nat → Int32} {G D E Q T A B C sp st F F' : Int → Int} {S : Nat → Int → Int} {pr : Int → Bool} {s t : BS} {x y w N p q d b : Int} {m c : Nat}
theorem DOT_at (ht : OK (NP G) t) (hl : WL G) (h : NDN (NP G) (NB G) t.1) (h0 : 0 ≤ p ∧ p < NP G) (hd : 0 ≤ t.1 p) (hC : DOT (NB G) t.1 t.2.1 T t.2.2) : ∀ m : Nat, m < 8 → NR (NB G) t.1 p m → T (9 * NB G p m + m) = UT (NB G) t.1 (t.1 p - 1).toNat (NB G p m) m := by
  intro m hm hn
  have h1 := h.2.2 p m h0.1 h0.2 hm hn.1
  obtain ⟨j, j1, j2⟩ := (ht.2.1 _ hn.1 h1.1).2 (h1.2 hd)
  have h3 := hC j j1 m hm
  rw [j2, hn.2] at h3
  exact h3
theorem e_smoothly8 (hl : WL G) (hN : NP G ≤ 5000) (hA : ∀ q : Int, 0 ≤ q → q < NP G → A q = FRI G q) (hE : ∀ q : Int, 0 ≤ q → q < NP G → E q = t.1 q) (ht : OK (NP G) t) (h : NDN (NP G) (NB G) t.1) (hC : DOT (NB G) t.1 t.2.1 T t.2.2) (h0 : 0 ≤ p ∧ p < NP G) (hd : 0 ≤ t.1 p) (a2 a3 a4 a5 : Int32) (po wy px py ti qu : Nat → Int32) :
    LPF (fun z => f_X8_planSmooth_B150 (J (t.1 p)) a2 a3 a4 a5 (JA G) z.1 po wy px py (JA A) ti (JA E) qu (JA T) z.2.1 z.2.2.1 z.2.2.2) lfuel (JA F, J p, 8, 0) = some (JA (SST (NB G) t.1 p F (t.1 p).toNat)) := by
  have hP := NP_b hl
  have hb := h.1 p h0.1 h0.2
  have hD : ∀ q : Int, 0 ≤ q → q < NP G → -1 ≤ t.1 q ∧ t.1 q ≤ 5000 := fun q a b => by have := h.1 q a b; omega
  refine lp_for (fun k : Nat => (JA (SST (NB G) t.1 p F k), J (SPP (NB G) t.1 p k).1, J (SPP (NB G) t.1 p k).2, J k)) (t.1 p).toNat (by rw [SST_0]; rfl) (by omega) (fun k hk => ?_) ?_
  · have h1 := SPP_in h hN h0 k (by omega)
    obtain ⟨a, b, c, e, f⟩ := SM_ok h hN h1.1 (by omega) (SPP (NB G) t.1 p k).2
    have hT := DOT_at ht hl h h1.1 (by omega) hC
    obtain ⟨g1, g2, g3⟩ := NB_BH hl h1.1 a b
    have hls := e_leastTurns hl hN hA hE h h1.1 (by omega) hT h1.2.2
    unfold f_X8_planSmooth_B150
    dsimp only
    rw [if_neg (by rw [J_le (by omega)]; omega)]
    refine ob (J (SM (NB G) t.1 (SPP (NB G) t.1 p k).1 (SPP (NB G) t.1 p k).2)) ?_ ?_
    · refine lp_for (fun j : Nat => J j) (SM (NB G) t.1 (SPP (NB G) t.1 p k).1 (SPP (NB G) t.1 p k).2) rfl (by omega) (fun j hj => ?_) ?_
      · have hne := e_isNearer hl hN hA hE hD h1.1 (m := j) (by omega)
        unfold f_X8_planSmooth_B162
        by_cases z : NR (NB G) t.1 (SPP (NB G) t.1 p k).1 j
        · refine ob _ (hne.1 z) ?_
          rw [if_neg (by decide)]
          refine ob _ (e_turnsBy hl hN h1.1 (by omega) z (hT j (by omega) z) h1.2.2) ?_
          refine ob _ hls ?_
          have k1 := e j hj z
          have k2 := TBY_b (b := (SPP (NB G) t.1 p k).2) h hN h1.1 (by omega) (m := j) (by omega)
          have k3 := TBY_b (b := (SPP (NB G) t.1 p k).2) h hN h1.1 (by omega) a
          rw [if_neg (by rw [J_eqv (by omega)]; unfold TBY; omega), show (1 : Int32) = J 1 from rfl, J_add]
          rfl
        · refine ob _ (hne.2 z) ?_
          rw [if_pos (by rfl), show (1 : Int32) = J 1 from rfl, J_add]
          rfl
      · have hne := e_isNearer hl hN hA hE hD h1.1 g1
        unfold f_X8_planSmooth_B162
        refine ob _ (hne.1 b) ?_
        rw [if_neg (by decide)]
        refine ob _ (e_turnsBy hl hN h1.1 a b (hT _ a b) h1.2.2) ?_
        refine ob _ hls ?_
        rw [if_pos rfl]
    · rw [JG (by omega), JA_upd _ _ (by omega), SST_s]
      simp only [LET]
      refine ob _ (e_behind hl h1.1 (by omega)) ?_
      rw [← g2, show (1 : Int32) = J 1 from rfl, J_add]
      rfl
  · unfold f_X8_planSmooth_B150
    dsimp only
    rw [if_pos (by rw [J_le (by omega)]; omega)]
theorem w_toCell2 (hw : WF G) (hN : NP G ≤ 5000) (hx : (-10 ≤ x ∧ x ≤ 10) ∧ -10 ≤ y ∧ y ≤ 10) (fa qd : Int32) (po wy px py fr ti far qu : Nat → Int32) (hpx : Z0 px) (hpy : Z0 py) :
    WP (f_X8_toCell fa qd (JA G) po wy px py fr ti far qu (J (CN x y))) (fun o => (Z0 o.2.2.2.2.1 ∧ Z0 o.2.2.2.2.2.1) ∧ ∃ (A : Int → Int) (s : BS), o.2.1 = J s.2.2 ∧ o.2.2.2.2.2.2.1 = JA A ∧ o.2.2.2.2.2.2.2.2.1 = JA s.1 ∧ o.2.2.2.2.2.2.2.2.2 = JA s.2.1 ∧ (∀ q : Int, 0 ≤ q → q < NP G → A q = FRI G q) ∧ LK (NP G) s (SR G (prD G x y 0))) := by
  have hl := hw.1
  have hP := NP_b hl
  unfold f_X8_toCell
  refine WP.bind (w_laysAll hl hw.2.2 hN _ _ _ _ _ _ _ hpx hpy) fun o2 ho2 => ?_
  obtain ⟨⟨x8, y8⟩, A, T2, j1, j2, j3⟩ := ho2
  obtain ⟨z0, g1, rfl, g3, z1, z2, hz3⟩ := toCell_s hl hN qd far qu (prD G x y 0)
  have hk := sts_ok (pr := prD G x y 0) z1 hz3 (NP G).toNat (by omega)
  have hlk := sts_lk (pr := prD G x y 0) z2 (NP G).toNat (by omega)
  refine WP.ob g1 ?_
  rw [j1, j2]
  refine WP.ob (a := (J (sts (prD G x y 0) (NP G).toNat z0).2.2, JA (sts (prD G x y 0) (NP G).toNat z0).1, JA (sts (prD G x y 0) (NP G).toNat z0).2.1)) ?_ ?_
  · refine lp_for (fun k : Nat => (J (sts (prD G x y 0) k z0).2.2, JA (sts (prD G x y 0) k z0).1, JA (sts (prD G x y 0) k z0).2.1, J k)) (NP G).toNat (by show _ = (J z0.2.2, JA z0.1, JA z0.2.1, J 0); rw [g3]; rfl) (by omega) (fun k hk => ?_) ?_
    · have h1 := sts_ok (pr := prD G x y 0) z1 hz3 k (by omega)
      have h2 := TP_b G k
      have hj := j3 k (by omega) (by omega)
      unfold f_X8_toCell_B10
      dsimp only
      refine ob _ (e_poses8 hl) ?_
      rw [if_neg (by rw [J_le (by omega)]; omega), JG (by omega), JA_get _ (by omega), hj.1]
      rcases FRI_c G k with ⟨e1, e2⟩ | ⟨e1, e2⟩
      · rw [e1, if_neg (by decide), JG (by omega), JA_get _ (by omega), hj.2]
        have hc : (-2147483648 ≤ CN x y ∧ CN x y ≤ 2147483647) := by unfold CN; omega
        by_cases z : TP G k = CN x y
        · rw [if_pos (congrArg J z), sts_y (decide_eq_true ⟨e2, (DI_0 (by omega) hx).mpr z⟩)]
          refine ob _ (e_starts ⟨by omega, hN⟩ h1.1 (by omega) (h1.2 k (Int.le_refl _) (by omega))) ?_
          rw [show (1 : Int32) = J 1 from rfl, J_add]
          rfl
        · rw [if_neg (by rw [J_eqv ⟨by omega, hc⟩]; exact z), sts_n (fun h => z ((DI_0 (by omega) hx).mp (of_decide_eq_true h).2))]
          rw [show (1 : Int32) = J 1 from rfl, J_add]
          rfl
      · rw [e1, if_pos (by rfl), sts_n (fun h => by have := (of_decide_eq_true h).1; omega)]
        rw [show (1 : Int32) = J 1 from rfl, J_add]
        rfl
    · unfold f_X8_toCell_B10
      dsimp only
      refine ob _ (e_poses8 hl) ?_
      rw [if_pos (by rw [J_le (by omega)]; omega)]
  · refine WP.ob (e_spreads hl hN (fun a b c => (j3 a b c).1) hk.1 (i := 0) (by omega)) ?_
    refine WP.ret ⟨⟨x8, y8⟩, A, _, rfl, rfl, rfl, rfl, fun a b c => (j3 a b c).1, ?_⟩
    exact lk_spr (NB_n hl) _ _ _ _ (sts_ok (ok_E0 _ _ (fun _ _ _ => rfl)) (fun _ _ _ => rfl) _ (by omega)).1 hlk
/-- the moves of the smooth path -/
theorem SST_m (hl : WL G) (hN : NP G ≤ 5000) (h : NDN (NP G) (NB G) D) (h0 : 0 ≤ p ∧ p < NP G) : ∀ i : Int, 0 ≤ i → i < (D p).toNat → 0 ≤ SST (NB G) D p F (D p).toNat i ∧ SST (NB G) D p F (D p).toNat i < 8 := by
  intro i i0 i1
  have hb := h.1 p h0.1 h0.2
  have h1 := SPP_in h hN h0 i.toNat (by omega)
  obtain ⟨a, -⟩ := SM_ok h hN h1.1 (by omega) (SPP (NB G) D p i.toNat).2
  unfold SST
  rw [if_pos ⟨i0, i1⟩]
  omega
theorem rrte_smooth (hw : WF G) (hN : NP G ≤ 5000) (hp : ∀ p : Int, pr p = true → 0 ≤ TP G p) (hd : 0 ≤ (SR G pr).1 (NU G)) : RRTE G (J 1) (J 1) (J (NU G)) (J ((SR G pr).1 (NU G))) (J 0) (JA (SST (NB G) (SR G pr).1 (NU G) F ((SR G pr).1 (NU G)).toNat)) (J ((SR G pr).1 (NU G))) (J 0) (JA (SST (NB G) (SR G pr).1 (NU G) F' ((SR G pr).1 (NU G)).toNat)) := by
  have hl := hw.1
  have h0 := NU_b hw
  have h1 := SR_d hl hp h0
  have h := NDN_SR hl hp
  have e1 : ((((SR G pr).1 (NU G)).toNat : Nat) : Int) = (SR G pr).1 (NU G) := by omega
  refine Or.inr ⟨rfl, rfl, hN, ((SR G pr).1 (NU G)).toNat, 0, fun i => (SPP (NB G) (SR G pr).1 (NU G) i).1, _, _, rfl, by rw [e1], rfl, rfl, by rw [e1], rfl, rfl, by omega, Nat.zero_le _, fun i i0 i1 => ?_, ⟨fun i hi => ?_, fun i hi => ?_⟩, rfl⟩
  · unfold SST
    rw [if_pos ⟨i0, i1⟩, if_pos ⟨i0, i1⟩]
  · have h2 := SPP_in h hN h0 i (by omega)
    have h3 := SR_d hl hp h2.1
    exact ⟨h2.1, h3.2.2 (by omega)⟩
  · have h2 := SPP_in h hN h0 i (by omega)
    obtain ⟨a, b, c, e, f⟩ := SM_ok h hN h2.1 (by omega) (SPP (NB G) (SR G pr).1 (NU G) i).2
    have e2 : SST (NB G) (SR G pr).1 (NU G) F ((SR G pr).1 (NU G)).toNat i = SM (NB G) (SR G pr).1 (SPP (NB G) (SR G pr).1 (NU G) i).1 (SPP (NB G) (SR G pr).1 (NU G) i).2 := by
      unfold SST
      rw [if_pos (by omega), Int.toNat_natCast]
    obtain ⟨g1, g2, g3⟩ := NB_BH hl h2.1 a b
    rw [e2]
    exact ⟨by omega, g2.symm⟩
def PS8 (G : Int → Int) (pr : Int → Bool) (F : Int → Int) (pm spt : Int32) (o : Int32 × Int32 × Int32 × Int32 × Int32 × Int32 × (Nat → Int32) × (Nat → Int32) × (Nat → Int32) × (Nat → Int32) × (Nat → Int32) × (Nat → Int32) × (Nat → Int32) × (Nat → Int32) × (Nat → Int32) × (Nat → Int32)) : Prop := (Z0 o.2.2.2.2.2.2.2.2.2.1 ∧ Z0 o.2.2.2.2.2.2.2.2.2.2.1) ∧ ((0 ≤ (SR G pr).1 (NU G) ∧ ∃ F', o.1 = J (CHG (SST (NB G) (SR G pr).1 (NU G) F' ((SR G pr).1 (NU G)).toNat) (((SR G pr).1 (NU G)).toNat - 1)) ∧ o.2.1 = J ((SR G pr).1 (NU G)) ∧ o.2.2.1 = J 0 ∧ o.2.2.2.1 = J 0 ∧ o.2.2.2.2.2.2.1 = JA (SST (NB G) (SR G pr).1 (NU G) F' ((SR G pr).1 (NU G)).toNat)) ∨ ((SR G pr).1 (NU G) < 0 ∧ o.2.1 = pm ∧ o.2.2.1 = spt ∧ o.2.2.2.1 = J 3 ∧ o.2.2.2.2.2.2.1 = JA F))
theorem w_planSmooth8 (hw : WF G) (hN : NP G ≤ 5000) (hxy : (-10 ≤ x ∧ x ≤ 10) ∧ -10 ≤ y ∧ y ≤ 10) (pm spt fa qd : Int32) (po wy px py fr ti far qu tu : Nat → Int32) (hx : Z0 px) (hy : Z0 py) :
    WP (f_X8_planSmooth pm spt (J 0) fa qd (JA G) (JA F) po wy px py fr ti far qu tu (J x) (J y)) (PS8 G (prD G x y 0) F pm spt) := by
  have hl := hw.1
  have hP := NP_b hl
  have h0 := NU_b hw
  have h := NDN_SR (pr := prD G x y 0) hl prD_f
  obtain ⟨a1, a2, a3⟩ := SR_ok hl (prD G x y 0) prD_f
  unfold f_X8_planSmooth
  refine WP.ob (e_isCell1 hxy) ?_
  rw [if_neg (by decide)]
  refine WP.ob (e_isMany0 hw.1 hN) ?_
  rw [if_pos (by rfl)]
  unfold f_X8_planSmooth_L25
  rw [if_pos (by decide)]
  refine WP.ob (e_cellOf x y) ?_
  refine WP.bind (w_toCell2 hw hN hxy fa qd po wy px py fr ti far qu hx hy) fun o ho => ?_
  obtain ⟨⟨x8, y8⟩, A, s, e0, e1, e2, e3, e4, e5⟩ := ho
  rw [e0, e1, e2, e3, e5.1]
  refine WP.bind (w_turns hl hN e4 e5.2.1 (fun i hi => e5.2.2 i hi) a1 a2 h _ _ _ _ _ _ _ _ _ _ tu) fun r hr => ?_
  obtain ⟨T, rfl, hT⟩ := hr
  by_cases z : 0 ≤ (SR G (prD G x y 0)).1 (NU G)
  · have hb := h.1 _ h0.1 h0.2
    have e6 : ((((SR G (prD G x y 0)).1 (NU G)).toNat : Nat) : Int) = (SR G (prD G x y 0)).1 (NU G) := by omega
    refine WP.ob (e_leads (F := F) hw hN e4 prD_f e5.2.1 z pm spt) ?_
    rw [if_neg (show ¬ (J 1 : Int32) = 0 by decide)]
    refine WP.ob (e_numberNow hl) ?_
    refine WP.ob (e_smoothly8 hl hN e4 e5.2.1 a1 h hT h0 z _ _ _ _ _ _ _ _ _ _) ?_
    have hc := e_chg8 (n := ((SR G (prD G x y 0)).1 (NU G)).toNat) (by omega) (SST_m (F := STP (NB G) (SR G (prD G x y 0)).1 (NU G) F ((SR G (prD G x y 0)).1 (NU G)).toNat) hl hN h h0)
    rw [e6] at hc
    refine WP.ob hc ?_
    exact WP.ret ⟨⟨x8, y8⟩, Or.inl ⟨z, _, rfl, rfl, rfl, rfl, rfl⟩⟩
  · refine WP.ob (e_leads_no (F := F) hw hN e4 prD_f e5.2.1 (by show (SR G (prD G x y 0)).1 (NU G) < 0; omega) pm spt) ?_
    rw [if_pos (by rfl)]
    exact WP.ret ⟨⟨x8, y8⟩, Or.inr ⟨by omega, rfl, rfl, rfl, rfl⟩⟩
theorem call_planSmooth (hR : REL ss aa pl po pa ms ma) (x1 x2 : Int32) : WP (f_X7_planSmooth (ss 10) (aa 1) (aa 2) (aa 3) (aa 4) (aa 0) (ss 2) (ss 3) (ss 4) (ss 5) (aa 12) (aa 13) (aa 14) (aa 20) (aa 21) (aa 24) (ss 18) (ss 19) (ss 20) (ss 21) (aa 15) (aa 16) (aa 17) (aa 18) (aa 19) (ss 6) (ss 7) (ss 8) (ss 9) (aa 23) x1 x2) (fun r => WP (f_X8_planSmooth (ms 2) (ms 3) (ms 4) (ms 5) (ms 6) (ma 0) (ma 12) (ma 3) (ma 4) (ma 5) (ma 6) (ma 7) (ma 8) (ma 9) (ma 10) (ma 13) x1 x2) (fun q => ((r.1 = 0 ∧ q.2.2.2.1 = J 0 ∧ r.2.1 = q.1) ∨ (r.1 = 3 ∧ q.2.2.2.1 = J 1) ∨ (r.1 = 2 ∧ q.2.2.2.1 = J 2) ∨ (r.1 = 4 ∧ q.2.2.2.1 = J 3)) ∧ REL (va_up (va_up (va_up (va_up (va_up (va_up (va_up (va_up (va_up (va_up (va_up (va_up ss 2 r.2.2.1) 3 r.2.2.2.1) 4 r.2.2.2.2.1) 5 r.2.2.2.2.2.1) 18 r.2.2.2.2.2.2.2.2.2.2.2.2.1) 19 r.2.2.2.2.2.2.2.2.2.2.2.2.2.1) 20 r.2.2.2.2.2.2.2.2.2.2.2.2.2.2.1) 21 r.2.2.2.2.2.2.2.2.2.2.2.2.2.2.2.1) 6 r.2.2.2.2.2.2.2.2.2.2.2.2.2.2.2.2.2.2.2.2.2.1) 7 r.2.2.2.2.2.2.2.2.2.2.2.2.2.2.2.2.2.2.2.2.2.2.1) 8 r.2.2.2.2.2.2.2.2.2.2.2.2.2.2.2.2.2.2.2.2.2.2.2.1) 9 r.2.2.2.2.2.2.2.2.2.2.2.2.2.2.2.2.2.2.2.2.2.2.2.2.1) (va_up (va_up (va_up (va_up (va_up (va_up (va_up (va_up (va_up (va_up (va_up (va_up aa 12 r.2.2.2.2.2.2.1) 13 r.2.2.2.2.2.2.2.1) 14 r.2.2.2.2.2.2.2.2.1) 20 r.2.2.2.2.2.2.2.2.2.1) 21 r.2.2.2.2.2.2.2.2.2.2.1) 24 r.2.2.2.2.2.2.2.2.2.2.2.1) 15 r.2.2.2.2.2.2.2.2.2.2.2.2.2.2.2.2.1) 16 r.2.2.2.2.2.2.2.2.2.2.2.2.2.2.2.2.2.1) 17 r.2.2.2.2.2.2.2.2.2.2.2.2.2.2.2.2.2.2.1) 18 r.2.2.2.2.2.2.2.2.2.2.2.2.2.2.2.2.2.2.2.1) 19 r.2.2.2.2.2.2.2.2.2.2.2.2.2.2.2.2.2.2.2.2.1) 23 r.2.2.2.2.2.2.2.2.2.2.2.2.2.2.2.2.2.2.2.2.2.2.2.2.2) pl po pa (va_up (va_up (va_up (va_up (va_up ms 2 q.2.1) 3 q.2.2.1) 4 q.2.2.2.1) 5 q.2.2.2.2.1) 6 q.2.2.2.2.2.1) (va_up (va_up (va_up (va_up (va_up (va_up (va_up (va_up (va_up (va_up ma 12 q.2.2.2.2.2.2.1) 3 q.2.2.2.2.2.2.2.1) 4 q.2.2.2.2.2.2.2.2.1) 5 q.2.2.2.2.2.2.2.2.2.1) 6 q.2.2.2.2.2.2.2.2.2.2.1) 7 q.2.2.2.2.2.2.2.2.2.2.2.1) 8 q.2.2.2.2.2.2.2.2.2.2.2.2.1) 9 q.2.2.2.2.2.2.2.2.2.2.2.2.2.1) 10 q.2.2.2.2.2.2.2.2.2.2.2.2.2.2.1) 13 q.2.2.2.2.2.2.2.2.2.2.2.2.2.2.2))) := by
  obtain ⟨G, S, hn, hsv, hh, hsp, hrt, hbk, hin, her, hx, hy⟩ := hR
  have hn0 := hn
  obtain ⟨⟨n1, n2⟩, ⟨n3, n4, n5, n6, n7, n8, n9⟩, n10, hs, hw⟩ := hn
  have hP := NP_b hw.1
  obtain ⟨x, rfl, hxr⟩ := J_ex x1
  obtain ⟨y, rfl, hyr⟩ := J_ex x2
  by_cases q0 : (-10 ≤ x ∧ x ≤ 10) ∧ -10 ≤ y ∧ y ≤ 10
  · by_cases q : NP G ≤ 5000
    · obtain ⟨F, hF, -⟩ := JA_ex (aa 23)
      obtain ⟨F', hF', -⟩ := JA_ex (ma 12)
      have h := NDN_SR (pr := prD G x y 0) hw.1 prD_f
      obtain ⟨a1, a2, a3⟩ := SR_ok hw.1 (prD G x y 0) prD_f
      have h0 := NU_b hw
      have hb := h.1 _ h0.1 h0.2
      unfold f_X7_planSmooth
      simp only [n1, n2, n3, n4, n5, n6, n7, n8, n9, n10, hF]
      refine WP.ob (e_requireCell1 q0) ?_
      rw [if_pos rfl]
      refine WP.bind (w_surveyPoses hw hs hsp q _ _ _ _ _ _ _ _ _) fun o ho => ?_
      obtain ⟨k0, k1, k2, k3, sp, st, T, k4, k5, k6, k7, k8⟩ := ho
      rw [if_pos k0]
      simp only [k1, k2, k3, k4, k5, k6]
      refine WP.bind (w_tips7 (w := 0) hw.1 q k7 k8 q0 (by omega) _ _ _) fun o3 ho3 => ?_
      obtain ⟨s3, rfl, hok, hlk⟩ := ho3
      have h8 := w_planSmooth8 (F := F') hw q q0 (ms 2) (ms 3) (ms 5) (ms 6) (ma 3) (ma 4) (ma 5) (ma 6) (ma 7) (ma 8) (ma 9) (ma 10) (ma 13) hx hy
      rw [hF']
      rw [hF, hF'] at hrt
      refine WP.ob (e_requireWay hw hs q prD_f hlk.2.1) ?_
      by_cases z : 0 ≤ (SR G (prD G x y 0)).1 (NU G)
      · have e6 : ((((SR G (prD G x y 0)).1 (NU G)).toNat : Nat) : Int) = (SR G (prD G x y 0)).1 (NU G) := by omega
        rw [if_pos z, if_pos rfl]
        dsimp only
        rw [hlk.1]
        refine WP.bind (w_weighs hw.1 q k7 k8 hlk.2.1 (fun i hi => hlk.2.2 i hi) a1 a2 h _) fun r hr => ?_
        obtain ⟨C, rfl, hC⟩ := hr
        refine WP.ob (num7 hw hs) ?_
        refine WP.ob (show f_X3_begin (ss 6) (ss 7) (ss 8) (ss 9) (J (NU G)) = some (J 1, J (NU G), J 0, J 0) from rfl) ?_
        refine WP.ob (e_descendS (F := F) hw.1 q k7 k8 hlk.2.1 a1 h hC h0 z) ?_
        have hc := e_chg7 (n := ((SR G (prD G x y 0)).1 (NU G)).toNat) (by omega) (SST_m (F := F) hw.1 q h h0)
        rw [e6] at hc
        refine WP.ob hc ?_
        refine WP.ret (WP.mono h8 fun o8 ho8 => ?_)
        obtain ⟨r8, p8, s8, t8, u8, v8, w8, o8⟩ := o8
        obtain ⟨⟨x8, y8⟩, ⟨w, F'', l1, l2, l3, l4, l5⟩ | ⟨w, -⟩⟩ := ho8
        · dsimp only at l1 l2 l3 l4 l5
          subst l1 l2 l3 l4 l5
          refine ⟨Or.inl ⟨rfl, rfl, congrArg J ?_⟩, G, S, ⟨⟨n1, n2⟩, ⟨n3, n4, n5, n6, n7, n8, n9⟩, n10, hs, hw⟩, hsv, hh, Or.inr ⟨rfl, q, rfl, rfl, sp, st, T, rfl, rfl, rfl, k7, k8⟩, rrte_smooth hw q prD_f z, hbk, hin, her, x8, y8⟩
          by_cases w0 : (SR G (prD G x y 0)).1 (NU G) = 0
          · rw [w0]; rfl
          · refine CHG_congr _ fun i i0 i1 => ?_
            unfold SST
            rw [if_pos (by omega), if_pos (by omega)]
        · omega
      · rw [if_neg z, if_neg (by decide)]
        refine WP.ret (WP.mono h8 fun o8 ho8 => ?_)
        obtain ⟨r8, p8, s8, t8, u8, v8, w8, o8⟩ := o8
        obtain ⟨⟨x8, y8⟩, ⟨w, -⟩ | ⟨w, l1, l2, l3, l4⟩⟩ := ho8
        · omega
        · dsimp only at l1 l2 l3 l4
          subst l1 l2 l3 l4
          exact ⟨Or.inr (Or.inr (Or.inr ⟨rfl, rfl⟩)), G, S, ⟨⟨n1, n2⟩, ⟨n3, n4, n5, n6, n7, n8, n9⟩, n10, hs, hw⟩, hsv, hh, Or.inr ⟨rfl, q, rfl, rfl, sp, st, T, rfl, rfl, rfl, k7, k8⟩, RRTE_k hrt, hbk, hin, her, x8, y8⟩
    · have h7 : (f_X7_planSmooth (ss 10) (aa 1) (aa 2) (aa 3) (aa 4) (aa 0) (ss 2) (ss 3) (ss 4) (ss 5) (aa 12) (aa 13) (aa 14) (aa 20) (aa 21) (aa 24) (ss 18) (ss 19) (ss 20) (ss 21) (aa 15) (aa 16) (aa 17) (aa 18) (aa 19) (ss 6) (ss 7) (ss 8) (ss 9) (aa 23) (J x) (J y)) = some (2, J 0, (ss 2), (ss 3), (ss 4), (ss 5), (aa 12), (aa 13), (aa 14), (aa 20), (aa 21), (aa 24), (ss 18), (ss 19), (ss 20), (ss 21), (aa 15), (aa 16), (aa 17), (aa 18), (aa 19), (ss 6), (ss 7), (ss 8), (ss 9), (aa 23)) := by
        unfold f_X7_planSmooth
        simp only [n1, n2, n3, n4, n5, n6, n7, n8, n9, n10]
        refine ob _ (e_requireCell1 q0) ?_
        rw [if_pos rfl]
        exact ob _ (e_surveyPoses_no hw hs (by omega) _ _ _ _ _ _ _ _ _ _ _ _ _ _ _) rfl
      have h8 : (f_X8_planSmooth (ms 2) (ms 3) (ms 4) (ms 5) (ms 6) (ma 0) (ma 12) (ma 3) (ma 4) (ma 5) (ma 6) (ma 7) (ma 8) (ma 9) (ma 10) (ma 13) (J x) (J y)) = some (J 0, (ms 2), (ms 3), J 2, (ms 5), (ms 6), (ma 12), (ma 3), (ma 4), (ma 5), (ma 6), (ma 7), (ma 8), (ma 9), (ma 10), (ma 13)) := by
        unfold f_X8_planSmooth f_X8_planSmooth_L25
        rw [n10]
        refine ob _ (e_isCell1 q0) ?_
        rw [if_neg (by decide)]
        exact ob _ (e_isMany1 hw.1 (by omega)) rfl
      exact ⟨_, h7, _, h8, Or.inr (Or.inr (Or.inl ⟨rfl, rfl⟩)), G, S, hn0, hsv, hh, hsp, hrt, hbk, hin, her, hx, hy⟩
  · have h7 : (f_X7_planSmooth (ss 10) (aa 1) (aa 2) (aa 3) (aa 4) (aa 0) (ss 2) (ss 3) (ss 4) (ss 5) (aa 12) (aa 13) (aa 14) (aa 20) (aa 21) (aa 24) (ss 18) (ss 19) (ss 20) (ss 21) (aa 15) (aa 16) (aa 17) (aa 18) (aa 19) (ss 6) (ss 7) (ss 8) (ss 9) (aa 23) (J x) (J y)) = some (3, J 0, (ss 2), (ss 3), (ss 4), (ss 5), (aa 12), (aa 13), (aa 14), (aa 20), (aa 21), (aa 24), (ss 18), (ss 19), (ss 20), (ss 21), (aa 15), (aa 16), (aa 17), (aa 18), (aa 19), (ss 6), (ss 7), (ss 8), (ss 9), (aa 23)) := by
      unfold f_X7_planSmooth
      simp only [n1, n2, n3, n4, n5, n6, n7, n8, n9, n10]
      exact ob _ (e_requireCell0 ⟨hxr, hyr, q0⟩) rfl
    have h8 : (f_X8_planSmooth (ms 2) (ms 3) (ms 4) (ms 5) (ms 6) (ma 0) (ma 12) (ma 3) (ma 4) (ma 5) (ma 6) (ma 7) (ma 8) (ma 9) (ma 10) (ma 13) (J x) (J y)) = some (J 0, (ms 2), (ms 3), J 1, (ms 5), (ms 6), (ma 12), (ma 3), (ma 4), (ma 5), (ma 6), (ma 7), (ma 8), (ma 9), (ma 10), (ma 13)) := by
      unfold f_X8_planSmooth f_X8_planSmooth_L25
      rw [n10]
      exact ob _ (e_isCell0 ⟨hxr, hyr, q0⟩) rfl
    exact ⟨_, h7, _, h8, Or.inr (Or.inl ⟨rfl, rfl⟩), G, S, hn0, hsv, hh, hsp, hrt, hbk, hin, her, hx, hy⟩
end
