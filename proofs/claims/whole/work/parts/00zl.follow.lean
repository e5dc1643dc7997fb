/-! follow and back -/
def WLK (G : Int → Int) (S : Nat → Int → Int) (M : Nat → Int) : Nat → (Int → Int) × (Nat → Int → Int)
  | 0 => (G, S)
  | k + 1 => (up (WLK G S M k).1 (4 + 4 * (M k / 2)) ((WLK G S M k).1 (4 + 4 * (M k / 2)) + TU (M k)), VLS (WLK G S M k).2 (M k / 2) ((WLK G S M k).1 (4 + 4 * (M k / 2)) + TU (M k)))
section
variable {ss : Nat → Int32} {aa : Nat → Nat → Int32} {pl po : Nat → Int32} {pa : Nat → Nat → Nat → Int32} {ms : Nat → Int32} {ma : Nat → Nat → Int32} {G G' D E Q T A B sp st F F' : Int → Int} {S : Nat → Int → Int} {P : Int → Prop} {X Y M : Nat → Int} {x y w N p q d m : Int}
theorem EQG_trans {G'' : Int → Int} (h : EQG G'' G') (h2 : EQG G' G) : EQG G'' G := ⟨⟨h.1.1.trans h2.1.1, h.1.2.trans h2.1.2⟩, fun j => ⟨(h.2.1 j).1.trans (h2.2.1 j).1, (h.2.1 j).2.1.trans (h2.2.1 j).2.1, (h.2.1 j).2.2.trans (h2.2.1 j).2.2⟩, fun i hi => ⟨(h.2.2 i hi).1.trans (h2.2.2 i hi).1, (h.2.2 i hi).2.trans (h2.2.2 i hi).2⟩⟩
theorem step_on (hw : WF G) (hs : SC G S) (hm : 0 ≤ m ∧ m < 2 * G 0) (hq : 0 ≤ BH G (NU G) m) : (SC (up G (4 + 4 * (m / 2)) (G (4 + 4 * (m / 2)) + TU m)) (VLS S (m / 2) (G (4 + 4 * (m / 2)) + TU m)) ∧ WF (up G (4 + 4 * (m / 2)) (G (4 + 4 * (m / 2)) + TU m))) ∧ EQG (up G (4 + 4 * (m / 2)) (G (4 + 4 * (m / 2)) + TU m)) G ∧ NU (up G (4 + 4 * (m / 2)) (G (4 + 4 * (m / 2)) + TU m)) = BH G (NU G) m := by
  have hl := hw.1
  have h0 := hl.1
  have hU := NU_b hw
  have h1 := (BH_to hl hU hm.1 hm.2 hq).1
  rw [NU_DV hw (by omega) (by omega)] at h1
  have h1 : -G (2 + 4 * (m / 2)) ≤ G (4 + 4 * (m / 2)) + TU m ∧ G (4 + 4 * (m / 2)) + TU m ≤ G (3 + 4 * (m / 2)) := h1
  have e := EQG_up (G := G) (k := m / 2) (x := G (4 + 4 * (m / 2)) + TU m) (by omega)
  refine ⟨VL_ok hw hs (by omega) h1, e, ?_⟩
  have e4 : GV (up G (4 + 4 * (m / 2)) (G (4 + 4 * (m / 2)) + TU m)) = up (GV G) (m / 2) (GV G (m / 2) + TU m) := by
    funext j
    show up G (4 + 4 * (m / 2)) (G (4 + 4 * (m / 2)) + TU m) (4 + 4 * j) = _
    by_cases q : j = m / 2
    · rw [q, up_same, up_same]; rfl
    · rw [up_ne _ _ (by omega), up_ne _ _ q]; rfl
  unfold NU
  rw [EQG_nn e, EQG_HN e, e4]
  exact (BH_in hl hw.2.1 hm.1 hm.2 h1).symm
theorem WLK_ok (hw : WF G) (hs : SC G S) (hY : Y 0 = NU G) (n : Nat) (h : ∀ k : Nat, k < n → (0 ≤ M k ∧ M k < 2 * G 0) ∧ BH G (Y k) (M k) = Y (k + 1) ∧ 0 ≤ Y (k + 1)) : ∀ k : Nat, k ≤ n → (SC (WLK G S M k).1 (WLK G S M k).2 ∧ WF (WLK G S M k).1) ∧ EQG (WLK G S M k).1 G ∧ NU (WLK G S M k).1 = Y k ∧ ∀ q : Nat, ¬ q = 3 → (WLK G S M k).2 q = S q
  | 0, _ => ⟨⟨hs, hw⟩, ⟨⟨rfl, rfl⟩, fun _ => ⟨rfl, rfl, rfl⟩, fun _ _ => ⟨rfl, rfl⟩⟩, hY.symm, fun _ _ => rfl⟩
  | k + 1, hk => by
    obtain ⟨⟨h1, h2⟩, h3, h4, h5⟩ := WLK_ok hw hs hY n h k (by omega)
    obtain ⟨g1, g2, g3⟩ := h k (by omega)
    have e0 := h3.1.1
    have e1 : BH (WLK G S M k).1 (NU (WLK G S M k).1) (M k) = Y (k + 1) := by rw [EQG_BH h3, h4, g2]
    obtain ⟨k1, k2, k3⟩ := step_on h2 h1 (m := M k) (by omega) (by omega)
    refine ⟨k1, EQG_trans k2 h3, k3.trans e1, fun q hq => ?_⟩
    show VLS (WLK G S M k).2 (M k / 2) ((WLK G S M k).1 (4 + 4 * (M k / 2)) + TU (M k)) q = S q
    rw [← h5 q hq]
    unfold VLS
    split
    · exact absurd rfl hq
    · rfl
theorem EQG_PTH (h : EQG G' G) {n : Nat} (hp : PTH G X A n) : PTH G' X A n := by
  refine ⟨fun i hi => ?_, fun i hi => ?_⟩
  · rw [EQG_NP h, EQG_TP h]
    exact hp.1 i hi
  · rw [h.1.1, EQG_BH h]
    exact hp.2 i hi
theorem WLK_now (hn : RNOW G S (ss 10) (ss 11) (aa 1) (aa 2) (aa 3) (aa 4) (aa 5) (aa 6) (aa 0) (ma 0)) (k : Nat) (h : (SC (WLK G S M k).1 (WLK G S M k).2 ∧ WF (WLK G S M k).1) ∧ EQG (WLK G S M k).1 G ∧ NU (WLK G S M k).1 = y ∧ ∀ q : Nat, ¬ q = 3 → (WLK G S M k).2 q = S q) {vl g : Nat → Int32} (hv : vl = JA ((WLK G S M k).2 3)) (hg : g = JA (WLK G S M k).1) :
    RNOW (WLK G S M k).1 (WLK G S M k).2 (ss 10) (ss 11) (aa 1) (aa 2) (aa 3) vl (aa 5) (aa 6) (aa 0) g := by
  have hn0 := hn
  obtain ⟨⟨n1, n2⟩, ⟨n3, n4, n5, n6, n7, n8, n9⟩, n10, hs, hw⟩ := hn
  obtain ⟨⟨h1, h2⟩, h3, h4, h5⟩ := h
  exact ⟨⟨n1.trans (congrArg J h3.1.1.symm), n2.trans (congrArg J h3.1.2.symm)⟩, ⟨n3.trans (congrArg JA (h5 0 (by decide)).symm), n4.trans (congrArg JA (h5 1 (by decide)).symm), n5.trans (congrArg JA (h5 2 (by decide)).symm), hv, n7.trans (congrArg JA (h5 4 (by decide)).symm), n8.trans (congrArg JA (h5 5 (by decide)).symm), n9.trans (congrArg JA (h5 6 (by decide)).symm)⟩, hg, h1, h2⟩
theorem call_follow (hR : REL ss aa pl po pa ms ma) (x1 : Int32) : WP (f_X7_follow (ss 10) (aa 4) (ss 6) (ss 8) (ss 9) (aa 23) x1) (fun r => WP (f_X8_follow (ms 2) (ms 3) (ms 4) (ma 0) (ma 12) x1) (fun q => ((r.1 = 0 ∧ q.2.2.1 = J 0 ∧ r.2.1 = q.1) ∨ (r.1 = 1 ∧ q.2.2.1 = J 1) ∨ (r.1 = 4 ∧ q.2.2.1 = J 2)) ∧ REL (va_up ss 9 r.2.2.2) (va_up aa 4 r.2.2.1) pl po pa (va_up (va_up ms 3 q.2.1) 4 q.2.2.1) (va_up ma 0 q.2.2.2))) := by
  obtain ⟨G, S, hn, hsv, hh, hsp, hrt, hbk, hin, her, hx, hy⟩ := hR
  have hrt0 := hrt
  have hn0 := hn
  obtain ⟨⟨n1, n2⟩, ⟨n3, n4, n5, n6, n7, n8, n9⟩, n10, hs, hw⟩ := hn
  obtain ⟨x, rfl, hxr⟩ := J_ex x1
  have hl := hw.1
  have h0 := hl.1
  by_cases q : 0 ≤ x
  · rcases hrt with ⟨r1, r2⟩ | ⟨r1, r2, r3, n, p, X, A, B, r4, r5, r6, r7, r8, r9, r10, r11, r12, r13, r14, r15⟩
    · have h7 : (f_X7_follow (ss 10) (aa 4) (ss 6) (ss 8) (ss 9) (aa 23) (J x)) = some (4, J 0, (aa 4), (ss 9)) := by
        unfold f_X7_follow
        rw [r1, if_pos (by rw [show (0 : Int32) = J 0 from rfl, J_le (by omega)]; omega)]
        rfl
      have h8 : (f_X8_follow (ms 2) (ms 3) (ms 4) (ma 0) (ma 12) (J x)) = some (J 0, (ms 3), J 2, (ma 0)) := by
        obtain ⟨z, hz⟩ : ∃ z : Int32, z = (ms 3) := ⟨_, rfl⟩
        unfold f_X8_follow f_X8_follow_L21
        rw [r2, if_pos (by rw [show (0 : Int32) = J 0 from rfl, J_le (by omega)]; omega), if_neg (by decide)]
        refine lp_bind (fun k : Nat => ((ms 3), (ma 0), J 0)) 0 rfl (by omega) (fun k hk => absurd hk (Nat.not_lt_zero k)) (e := ((ms 3), (ma 0))) ?_ rfl
        unfold f_X8_follow_B26
        dsimp only
        by_cases z : x ≤ 0
        · rw [if_pos (by rw [J_le (by omega)]; exact z)]
        · rw [if_neg (by rw [J_le (by omega)]; exact z), if_neg (by decide)]
      exact ⟨_, h7, _, h8, Or.inr (Or.inr ⟨rfl, rfl⟩), G, S, hn0, hsv, hh, hsp, hrt0, hbk, hin, her, hx, hy⟩
    · obtain ⟨K, hK, hK1, hK2, hK3⟩ : ∃ K : Nat, (K : Int) = min x (n - p) ∧ p + K ≤ n ∧ (K : Int) ≤ x ∧ ((K : Int) = x ∨ p + K = n) := ⟨(min x (n - p)).toNat, by omega, by omega, by omega, by omega⟩
      have hY : ∀ k : Nat, k < K → (0 ≤ (fun k : Nat => A ((p + k : Nat) : Int)) k ∧ (fun k : Nat => A ((p + k : Nat) : Int)) k < 2 * G 0) ∧ BH G ((fun k => X (p + k)) k) ((fun k : Nat => A ((p + k : Nat) : Int)) k) = (fun k => X (p + k)) (k + 1) ∧ 0 ≤ (fun k => X (p + k)) (k + 1) := fun k hk => by
        have a := r14.2 (p + k) (by omega)
        have b := (r14.1 (p + k + 1) (by omega)).1
        exact ⟨a.1, a.2, b.1⟩
      have hW := WLK_ok (Y := fun k => X (p + k)) (M := fun k : Nat => A ((p + k : Nat) : Int)) hw hs r15 K hY
      have h7 : (f_X7_follow (ss 10) (aa 4) (ss 6) (ss 8) (ss 9) (aa 23) (J x)) = some (0, J (n - (p + K)), JA ((WLK G S (fun k : Nat => A ((p + k : Nat) : Int)) K).2 3), J (p + K)) := by
        unfold f_X7_follow
        rw [r1, r5, r6, r7, n1, n6, if_pos (by rw [show (0 : Int32) = J 0 from rfl, J_le (by omega)]; omega)]
        refine ob 0 rfl ?_
        rw [if_pos rfl, J_sub, J_imin (by omega), J_add, ← hK]
        simp only [LET]
        refine lp_bind (fun k : Nat => (JA ((WLK G S (fun k : Nat => A ((p + k : Nat) : Int)) k).2 3), J ((p + k : Nat) : Int))) K rfl (by omega) (fun k hk => ?_) (e := JA ((WLK G S (fun k : Nat => A ((p + k : Nat) : Int)) K).2 3)) ?_ (by rw [J_sub])
        · obtain ⟨⟨k1, k2⟩, k3, k4, k5⟩ := hW k (by omega)
          have k6 := (hY k hk).1
          have k6 : 0 ≤ A ((p + k : Nat) : Int) ∧ A ((p + k : Nat) : Int) < 2 * G 0 := k6
          have k7 := k1.vl (A ((p + k : Nat) : Int) / 2) (by omega) (by rw [k3.1.1]; omega)
          unfold f_X7_follow_B55
          dsimp only
          rw [if_neg (by rw [J_le (by omega)]; omega)]
          refine ob _ (e_stepAt (by omega)) ?_
          refine ob _ (e_jointOf (by omega)) ?_
          refine ob _ (e_turnOf _) ?_
          refine ob _ (e_turnBy (by omega)) ?_
          simp only [LET]
          rw [show (1 : Int32) = J 1 from rfl, J_add, k7]
          rfl
        · unfold f_X7_follow_B55
          dsimp only
          rw [if_pos (by rw [J_le (by omega)]; omega)]
      have h8 : (f_X8_follow (ms 2) (ms 3) (ms 4) (ma 0) (ma 12) (J x)) = some (J (n - (p + K)), J (p + K), J 0, JA (WLK G S (fun k : Nat => A ((p + k : Nat) : Int)) K).1) := by
        unfold f_X8_follow f_X8_follow_L21
        rw [r8, r9, r10, n10, if_pos (by rw [show (0 : Int32) = J 0 from rfl, J_le (by omega)]; omega), if_pos (by rw [show (0 : Int32) = J 0 from rfl, J_le (by omega)]; omega)]
        refine lp_bind (fun k : Nat => (J (p + k), JA (WLK G S (fun k : Nat => A ((p + k : Nat) : Int)) k).1, J k)) K ?_ (by omega) (fun k hk => ?_) (e := (J (p + K), JA (WLK G S (fun k : Nat => A ((p + k : Nat) : Int)) K).1)) ?_ ?_
        · show _ = (J ((p : Int) + ((0 : Nat) : Int)), JA G, J 0)
          rw [show (p : Int) + ((0 : Nat) : Int) = p by omega]
          rfl
        · obtain ⟨⟨k1, k2⟩, k3, k4, k5⟩ := hW k (by omega)
          have k6 := (hY k hk).1
          have k6 : 0 ≤ A ((p + k : Nat) : Int) ∧ A ((p + k : Nat) : Int) < 2 * G 0 := k6
          have k8 := k3.1.1
          unfold f_X8_follow_B26
          dsimp only
          rw [if_neg (by rw [J_le (by omega)]; omega), if_pos rfl, if_neg (by rw [J_le (by omega)]; omega), JG (by omega), JA_get _ (by omega), r13 _ (by omega) (by omega)]
          rw [show (p : Int) + (k : Int) = ((p + k : Nat) : Int) by omega]
          refine ob _ (e_turnsTo8 (by omega) (by omega)) ?_
          simp only [LET]
          rw [show (1 : Int32) = J 1 from rfl, J_add, J_add, show ((p + k : Nat) : Int) + 1 = (p : Int) + ((k + 1 : Nat) : Int) by omega]
          rfl
        · unfold f_X8_follow_B26
          dsimp only
          by_cases z : x ≤ K
          · rw [if_pos (by rw [J_le (by omega)]; exact z)]
          · rw [if_neg (by rw [J_le (by omega)]; exact z), if_pos rfl, if_pos (by rw [J_le (by omega)]; omega)]
        · rw [if_pos (by decide), J_sub]
          rfl
      have hWK := hW K (Nat.le_refl _)
      refine ⟨_, h7, _, h8, Or.inl ⟨rfl, rfl, rfl⟩, (WLK G S (fun k : Nat => A ((p + k : Nat) : Int)) K).1, (WLK G S (fun k : Nat => A ((p + k : Nat) : Int)) K).2, WLK_now hn0 K hWK rfl rfl, hsv, hh, EQG_RSPC hWK.2.1 hsp, Or.inr ⟨r1, r2, by rw [EQG_NP hWK.2.1]; exact r3, n, p + K, X, A, B, r4, r5, congrArg J (by omega), r7, r8, congrArg J (by omega), r10, r11, hK1, r13, EQG_PTH hWK.2.1 r14, hWK.2.2.1.symm⟩, hbk, hin, her, hx, hy⟩
  · have h7 : (f_X7_follow (ss 10) (aa 4) (ss 6) (ss 8) (ss 9) (aa 23) (J x)) = some (1, J 0, (aa 4), (ss 9)) := by
      unfold f_X7_follow
      rw [if_neg (by rw [show (0 : Int32) = J 0 from rfl, J_le (by omega)]; omega)]
      rfl
    have h8 : (f_X8_follow (ms 2) (ms 3) (ms 4) (ma 0) (ma 12) (J x)) = some (J 0, (ms 3), J 1, (ma 0)) := by
      unfold f_X8_follow f_X8_follow_L21
      rw [if_neg (by rw [show (0 : Int32) = J 0 from rfl, J_le (by omega)]; omega)]
      refine lp_bind (fun k : Nat => ((ms 3), (ma 0), J 0)) 0 rfl (by omega) (fun k hk => absurd hk (Nat.not_lt_zero k)) (e := ((ms 3), (ma 0))) ?_ rfl
      unfold f_X8_follow_B26
      dsimp only
      rw [if_pos (by rw [J_le (by omega)]; omega)]
    exact ⟨_, h7, _, h8, Or.inr (Or.inl ⟨rfl, rfl⟩), G, S, hn0, hsv, hh, hsp, hrt0, hbk, hin, her, hx, hy⟩
theorem call_back (hR : REL ss aa pl po pa ms ma) (x1 : Int32) : WP (f_X7_back (ss 10) (aa 4) (ss 6) (ss 8) (ss 9) (aa 23) x1) (fun r => WP (f_X8_back (ms 2) (ms 3) (ms 4) (ma 0) (ma 12) x1) (fun q => ((r.1 = 0 ∧ q.2.2.1 = J 0 ∧ r.2.1 = q.1) ∨ (r.1 = 1 ∧ q.2.2.1 = J 1) ∨ (r.1 = 4 ∧ q.2.2.1 = J 2)) ∧ REL (va_up ss 9 r.2.2.2) (va_up aa 4 r.2.2.1) pl po pa (va_up (va_up ms 3 q.2.1) 4 q.2.2.1) (va_up ma 0 q.2.2.2))) := by
  obtain ⟨G, S, hn, hsv, hh, hsp, hrt, hbk, hin, her, hx, hy⟩ := hR
  have hrt0 := hrt
  have hn0 := hn
  obtain ⟨⟨n1, n2⟩, ⟨n3, n4, n5, n6, n7, n8, n9⟩, n10, hs, hw⟩ := hn
  obtain ⟨x, rfl, hxr⟩ := J_ex x1
  have hl := hw.1
  have h0 := hl.1
  by_cases q : 0 ≤ x
  · rcases hrt with ⟨r1, r2⟩ | ⟨r1, r2, r3, n, p, X, A, B, r4, r5, r6, r7, r8, r9, r10, r11, r12, r13, r14, r15⟩
    · have h7 : (f_X7_back (ss 10) (aa 4) (ss 6) (ss 8) (ss 9) (aa 23) (J x)) = some (4, J 0, (aa 4), (ss 9)) := by
        unfold f_X7_back
        rw [r1, if_pos (by rw [show (0 : Int32) = J 0 from rfl, J_le (by omega)]; omega)]
        rfl
      have h8 : (f_X8_back (ms 2) (ms 3) (ms 4) (ma 0) (ma 12) (J x)) = some (J 0, (ms 3), J 2, (ma 0)) := by
        unfold f_X8_back f_X8_back_L21
        rw [r2, if_pos (by rw [show (0 : Int32) = J 0 from rfl, J_le (by omega)]; omega), if_neg (by decide)]
        refine lp_bind (fun k : Nat => ((ms 3), (ma 0), J 0)) 0 rfl (by omega) (fun k hk => absurd hk (Nat.not_lt_zero k)) (e := ((ms 3), (ma 0))) ?_ rfl
        unfold f_X8_back_B26
        dsimp only
        by_cases z : x ≤ 0
        · rw [if_pos (by rw [J_le (by omega)]; exact z)]
        · rw [if_neg (by rw [J_le (by omega)]; exact z), if_neg (by decide)]
      exact ⟨_, h7, _, h8, Or.inr (Or.inr ⟨rfl, rfl⟩), G, S, hn0, hsv, hh, hsp, hrt0, hbk, hin, her, hx, hy⟩
    · obtain ⟨K, hK, hK1, hK2, hK3⟩ : ∃ K : Nat, (K : Int) = min x p ∧ K ≤ p ∧ (K : Int) ≤ x ∧ ((K : Int) = x ∨ p = K) := ⟨(min x p).toNat, by omega, by omega, by omega, by omega⟩
      have hY : ∀ k : Nat, k < K → (0 ≤ (fun k : Nat => RV (A ((p - (k + 1) : Nat) : Int))) k ∧ (fun k : Nat => RV (A ((p - (k + 1) : Nat) : Int))) k < 2 * G 0) ∧ BH G ((fun k => X (p - k)) k) ((fun k : Nat => RV (A ((p - (k + 1) : Nat) : Int))) k) = (fun k => X (p - k)) (k + 1) ∧ 0 ≤ (fun k => X (p - k)) (k + 1) := fun k hk => by
        have a := r14.2 (p - (k + 1)) (by omega)
        have b := (r14.1 (p - (k + 1)) (by omega)).1
        have c := (r14.1 (p - (k + 1) + 1) (by omega)).1
        have d := BH_RV hl b a.1.1 a.1.2 (by rw [a.2]; exact c.1)
        rw [a.2, show p - (k + 1) + 1 = p - k by omega] at d
        exact ⟨RV_b a.1.1 a.1.2, d, b.1⟩
      have hW := WLK_ok (Y := fun k => X (p - k)) (M := fun k : Nat => RV (A ((p - (k + 1) : Nat) : Int))) hw hs r15 K hY
      have h7 : (f_X7_back (ss 10) (aa 4) (ss 6) (ss 8) (ss 9) (aa 23) (J x)) = some (0, J (p - K), JA ((WLK G S (fun k : Nat => RV (A ((p - (k + 1) : Nat) : Int))) K).2 3), J (p - K)) := by
        unfold f_X7_back
        rw [r1, r5, r6, r7, n1, n6, if_pos (by rw [show (0 : Int32) = J 0 from rfl, J_le (by omega)]; omega)]
        refine ob 0 rfl ?_
        rw [if_pos rfl, J_imin (by omega), J_sub, ← hK, show (1 : Int32) = J 1 from rfl, J_sub]
        simp only [LET]
        refine lp_bind (fun k : Nat => (JA ((WLK G S (fun k : Nat => RV (A ((p - (k + 1) : Nat) : Int))) k).2 3), J ((p : Int) - 1 - k))) K (by rw [show (p : Int) - 1 - ((0 : Nat) : Int) = p - 1 by omega]; rfl) (by omega) (fun k hk => ?_) (e := JA ((WLK G S (fun k : Nat => RV (A ((p - (k + 1) : Nat) : Int))) K).2 3)) ?_ rfl
        · obtain ⟨⟨k1, k2⟩, k3, k4, k5⟩ := hW k (by omega)
          have k6 := (r14.2 (p - (k + 1)) (by omega)).1
          have k9 := TU_RV (A ((p - (k + 1) : Nat) : Int))
          have k7 := k1.vl (A ((p - (k + 1) : Nat) : Int) / 2) (by omega) (by rw [k3.1.1]; omega)
          unfold f_X7_back_B49
          dsimp only
          rw [if_neg (by rw [J_lt (by omega)]; omega)]
          refine ob _ (e_stepAt (by omega)) ?_
          rw [show (p : Int) - 1 - k = ((p - (k + 1) : Nat) : Int) by omega]
          refine ob _ (e_jointOf (by omega)) ?_
          refine ob _ (e_turnOf _) ?_
          rw [J_neg]
          refine ob _ (e_turnBy (by omega)) ?_
          simp only [LET]
          rw [show (-1 : Int32) = J (-1) from rfl, J_add, k7, ← k9.1, show ((p - (k + 1) : Nat) : Int) + -1 = (p : Int) - 1 - ((k + 1 : Nat) : Int) by omega]
          show some (Sum.inl (JA (up ((WLK G S (fun k : Nat => RV (A ((p - (k + 1) : Nat) : Int))) k).2 3) _ _), _)) = some (Sum.inl (JA (up ((WLK G S (fun k : Nat => RV (A ((p - (k + 1) : Nat) : Int))) k).2 3) (RV (A ((p - (k + 1) : Nat) : Int)) / 2) _), _))
          rw [k9.2]
          rfl
        · unfold f_X7_back_B49
          dsimp only
          rw [if_pos (by rw [J_lt (by omega)]; omega)]
      have h8 : (f_X8_back (ms 2) (ms 3) (ms 4) (ma 0) (ma 12) (J x)) = some (J (p - K), J (p - K), J 0, JA (WLK G S (fun k : Nat => RV (A ((p - (k + 1) : Nat) : Int))) K).1) := by
        unfold f_X8_back f_X8_back_L21
        rw [r8, r9, r10, n10, if_pos (by rw [show (0 : Int32) = J 0 from rfl, J_le (by omega)]; omega), if_pos (by rw [show (0 : Int32) = J 0 from rfl, J_le (by omega)]; omega)]
        refine lp_bind (fun k : Nat => (J (p - k), JA (WLK G S (fun k : Nat => RV (A ((p - (k + 1) : Nat) : Int))) k).1, J k)) K ?_ (by omega) (fun k hk => ?_) (e := (J (p - K), JA (WLK G S (fun k : Nat => RV (A ((p - (k + 1) : Nat) : Int))) K).1)) ?_ ?_
        · show _ = (J ((p : Int) - ((0 : Nat) : Int)), JA G, J 0)
          rw [show (p : Int) - ((0 : Nat) : Int) = p by omega]
          rfl
        · obtain ⟨⟨k1, k2⟩, k3, k4, k5⟩ := hW k (by omega)
          have k6 := (r14.2 (p - (k + 1)) (by omega)).1
          have k8 := k3.1.1
          have k9 := RV_b k6.1 k6.2
          unfold f_X8_back_B26
          dsimp only
          rw [if_neg (by rw [J_le (by omega)]; omega), if_pos rfl, if_neg (by rw [show (0 : Int32) = J 0 from rfl, J_le (by omega)]; omega), show (1 : Int32) = J 1 from rfl, J_sub, show (p : Int) - (k : Int) - 1 = ((p - (k + 1) : Nat) : Int) by omega]
          simp only [LET]
          have e : ∀ t : Int32, t = J (RV (A ((p - (k + 1) : Nat) : Int))) → (f_X8_back_L95 (J n) (J ((p - (k + 1) : Nat) : Int)) 0 (JA (WLK G S (fun k : Nat => RV (A ((p - (k + 1) : Nat) : Int))) k).1) (JA B) (J x) (J k) t) = some (Sum.inl (J ((p : Int) - ((k + 1 : Nat) : Int)), JA (WLK G S (fun k : Nat => RV (A ((p - (k + 1) : Nat) : Int))) (k + 1)).1, J ((k + 1 : Nat) : Int))) := by
            intro t ht
            rw [ht]
            unfold f_X8_back_L95
            refine ob _ (e_turnsTo8 (by omega) (by omega)) ?_
            simp only [LET]
            rw [show (1 : Int32) = J 1 from rfl, J_add, show (p : Int) - ((k + 1 : Nat) : Int) = ((p - (k + 1) : Nat) : Int) by omega]
            rfl
          rw [JG (by omega), JG (by omega), JA_get _ (by omega), r13 _ (by omega) (by omega), show (2 : Int32) = J 2 from rfl, J_div (by omega), J_mul, J_sub, J_mod, show (0 : Int32) = J 0 from rfl]
          by_cases z : A ((p - (k + 1) : Nat) : Int) % 2 = 0
          · rw [if_pos (congrArg J z), J_add]
            exact e _ (congrArg J (by unfold RV; rw [if_pos z]))
          · rw [if_neg (by rw [J_eqv (by omega)]; exact z), JG (by omega), J_sub]
            exact e _ (congrArg J (by unfold RV; rw [if_neg z]))
        · unfold f_X8_back_B26
          dsimp only
          by_cases z : x ≤ K
          · rw [if_pos (by rw [J_le (by omega)]; exact z)]
          · rw [if_neg (by rw [J_le (by omega)]; exact z), if_pos rfl, if_pos (by rw [show (0 : Int32) = J 0 from rfl, J_le (by omega)]; omega)]
        · rw [if_pos (by decide)]
          rfl
      have hWK := hW K (Nat.le_refl _)
      refine ⟨_, h7, _, h8, Or.inl ⟨rfl, rfl, rfl⟩, (WLK G S (fun k : Nat => RV (A ((p - (k + 1) : Nat) : Int))) K).1, (WLK G S (fun k : Nat => RV (A ((p - (k + 1) : Nat) : Int))) K).2, WLK_now hn0 K hWK rfl rfl, hsv, hh, EQG_RSPC hWK.2.1 hsp, Or.inr ⟨r1, r2, by rw [EQG_NP hWK.2.1]; exact r3, n, p - K, X, A, B, r4, r5, congrArg J (by omega), r7, r8, congrArg J (by omega), r10, r11, by omega, r13, EQG_PTH hWK.2.1 r14, hWK.2.2.1.symm⟩, hbk, hin, her, hx, hy⟩
  · have h7 : (f_X7_back (ss 10) (aa 4) (ss 6) (ss 8) (ss 9) (aa 23) (J x)) = some (1, J 0, (aa 4), (ss 9)) := by
      unfold f_X7_back
      rw [if_neg (by rw [show (0 : Int32) = J 0 from rfl, J_le (by omega)]; omega)]
      rfl
    have h8 : (f_X8_back (ms 2) (ms 3) (ms 4) (ma 0) (ma 12) (J x)) = some (J 0, (ms 3), J 1, (ma 0)) := by
      unfold f_X8_back f_X8_back_L21
      rw [if_neg (by rw [show (0 : Int32) = J 0 from rfl, J_le (by omega)]; omega)]
      refine lp_bind (fun k : Nat => ((ms 3), (ma 0), J 0)) 0 rfl (by omega) (fun k hk => absurd hk (Nat.not_lt_zero k)) (e := ((ms 3), (ma 0))) ?_ rfl
      unfold f_X8_back_B26
      dsimp only
      rw [if_pos (by rw [J_le (by omega)]; omega)]
    exact ⟨_, h7, _, h8, Or.inr (Or.inl ⟨rfl, rfl⟩), G, S, hn0, hsv, hh, hsp, hrt0, hbk, hin, her, hx, hy⟩
end
