/-! pathCells -/
def TBK (t : Nat → Int) (F : Int → Int) : Nat → Int → Int
  | 0 => F
  | k + 1 => if TBK t F k (t k) = 0 then up (TBK t F k) (t k) 1 else TBK t F k
section
variable {ss : Nat → Int32} {aa : Nat → Nat → Int32} {pl po : Nat → Int32} {pa : Nat → Nat → Nat → Int32} {ms : Nat → Int32} {ma : Nat → Nat → Int32} {G G' D E Q T A B sp st F F' U JO VA NM ND W : Int → Int} {S : Nat → Int → Int} {P : Int → Prop} {X Y M t : Nat → Int} {x y w N p q d m c : Int}
def XQ (X : Nat → Int) : Int → Int := fun i => X i.toNat
theorem XQ_n (X : Nat → Int) (k : Nat) : XQ X k = X k := by unfold XQ; rw [Int.toNat_natCast]
theorem TBK_ok (hF : ∀ c : Int, 0 ≤ c → c < 441 → F c = 0) : ∀ k : Nat, ∀ c : Int, 0 ≤ c → c < 441 → (TBK (fun j => T (X j)) F k c = 0 ∧ TLY T (XQ X) k c = 0) ∨ (TBK (fun j => T (X j)) F k c = 1 ∧ 0 < TLY T (XQ X) k c)
  | 0, c, h0, h1 => Or.inl ⟨hF c h0 h1, rfl⟩
  | k + 1, c, h0, h1 => by
    have h := TBK_ok hF k
    have hb := (TLY_b (T := T) (Q := XQ X) (fun _ _ => trivial) k c).1
    show ((if TBK (fun j => T (X j)) F k (T (X k)) = 0 then up (TBK (fun j => T (X j)) F k) (T (X k)) 1 else TBK (fun j => T (X j)) F k) c = 0 ∧ up (TLY T (XQ X) k) (T (XQ X k)) (TLY T (XQ X) k (T (XQ X k)) + 1) c = 0) ∨ ((if TBK (fun j => T (X j)) F k (T (X k)) = 0 then up (TBK (fun j => T (X j)) F k) (T (X k)) 1 else TBK (fun j => T (X j)) F k) c = 1 ∧ 0 < up (TLY T (XQ X) k) (T (XQ X k)) (TLY T (XQ X) k (T (XQ X k)) + 1) c)
    rw [XQ_n]
    by_cases y : c = T (X k)
    · subst y
      rw [up_same]
      rcases h _ h0 h1 with ⟨a, b⟩ | ⟨a, b⟩
      · rw [if_pos a, up_same]; exact Or.inr ⟨rfl, by omega⟩
      · rw [if_neg (by omega)]; exact Or.inr ⟨a, by omega⟩
    · rw [up_ne _ _ y]
      by_cases z : TBK (fun j => T (X j)) F k (T (X k)) = 0
      · rw [if_pos z, up_ne _ _ y]; exact h c h0 h1
      · rw [if_neg z]; exact h c h0 h1
theorem NZ_s (hF : ∀ c : Int, 0 ≤ c → c < 441 → F c = 0) {k : Nat} (ht : 0 ≤ T (X k) ∧ T (X k) < 441) : NZ (TLY T (XQ X) (k + 1)) 441 = NZ (TLY T (XQ X) k) 441 + if TBK (fun j => T (X j)) F k (T (X k)) = 0 then 1 else 0 := by
  have hb : ∀ c : Int, 0 ≤ TLY T (XQ X) k c := fun c => (TLY_b (T := T) (Q := XQ X) (fun _ _ => trivial) k c).1
  have h := TBK_ok (T := T) (X := X) hF k (T (X k)) ht.1 ht.2
  have e : TLY T (XQ X) (k + 1) = up (TLY T (XQ X) k) (T (X k)) (TLY T (XQ X) k (T (X k)) + 1) := by
    show up (TLY T (XQ X) k) (T (XQ X k)) (TLY T (XQ X) k (T (XQ X k)) + 1) = _
    rw [XQ_n]
  rw [e, NZ_up hb ht.1]
  rcases h with ⟨a, b⟩ | ⟨a, b⟩
  · rw [if_pos a, if_pos ⟨ht.2, b⟩]
  · rw [if_neg (by omega), if_neg (by omega)]
theorem NZ_b (F : Int → Int) : ∀ n : Nat, 0 ≤ NZ F n ∧ NZ F n ≤ n
  | 0 => ⟨Int.le_refl _, Int.le_refl _⟩
  | n + 1 => by
    have h := NZ_b F n
    by_cases z : 0 < F n
    · rw [show NZ F (n + 1) = NZ F n + 1 from CNT_y (P := fun c => 0 < F c) z]; omega
    · rw [show NZ F (n + 1) = NZ F n from CNT_n (P := fun c => 0 < F c) z]; omega
/-- the reference -/
theorem e_walkBack (hl : WL G) {n : Nat} (hX : PTH G X A n) {p : Nat} (hp : p ≤ n) (hn : n < 5000) (hB : ∀ i : Int, 0 ≤ i → i < n → B i = A i) (u1 u2 u3 u4 : Int32) (r1 r2 r3 r4 r5 r6 r7 : Nat → Int32) : LPF (fun z => f_X8_pathCells_B37 u1 u2 u3 u4 (JA G) (JA B) r1 r2 r3 r4 r5 r6 r7 z.1 z.2) lfuel (J (X p), J ((p : Int) - 1)) = some (J (X 0)) := by
  have h0 := hl.1
  refine lp_for (fun k : Nat => (J (X (p - k)), J ((p : Int) - 1 - k))) p (by rw [show p - 0 = p from rfl, show (p : Int) - 1 - ((0 : Nat) : Int) = p - 1 by omega]) (by omega) (fun k hk => ?_) ?_
  · have a := hX.2 (p - (k + 1)) (by omega)
    have b := (hX.1 (p - (k + 1)) (by omega)).1
    have c := (hX.1 (p - (k + 1) + 1) (by omega)).1
    have d := BH_RV hl b a.1.1 a.1.2 (by rw [a.2]; exact c.1)
    rw [a.2, show p - (k + 1) + 1 = p - k by omega] at d
    have cc := (hX.1 (p - k) (by omega)).1
    have k9 := RV_b a.1.1 a.1.2
    have e : ∀ t : Int32, t = J (RV (A ((p - (k + 1) : Nat) : Int))) → (f_X8_pathCells_L73 u1 u2 u3 u4 (JA G) (JA B) r1 r2 r3 r4 r5 r6 r7 (J ((p - (k + 1) : Nat) : Int)) (J (X (p - k))) t) = some (Sum.inl (J (X (p - (k + 1))), J ((p : Int) - 1 - ((k + 1 : Nat) : Int)))) := by
      intro t ht
      rw [ht]
      unfold f_X8_pathCells_L73
      refine ob _ (e_behind hl cc k9) ?_
      rw [d, show (-1 : Int32) = J (-1) from rfl, J_add, show ((p - (k + 1) : Nat) : Int) + -1 = (p : Int) - 1 - ((k + 1 : Nat) : Int) by omega]
      rfl
    unfold f_X8_pathCells_B37
    dsimp only
    rw [show (p : Int) - 1 - (k : Int) = ((p - (k + 1) : Nat) : Int) by omega, if_neg (by rw [show (0 : Int32) = J 0 from rfl, J_lt (by omega)]; omega), JG (by omega), JG (by omega), JG (by omega), JA_get _ (by omega), hB _ (by omega) (by omega), show (2 : Int32) = J 2 from rfl, J_div (by omega), J_mul, J_sub, J_mod, show (0 : Int32) = J 0 from rfl, show (1 : Int32) = J 1 from rfl]
    by_cases z : A ((p - (k + 1) : Nat) : Int) % 2 = 0
    · rw [if_pos (congrArg J z), J_add]
      exact e _ (congrArg J (by unfold RV; rw [if_pos z]))
    · rw [if_neg (by rw [J_eqv (by omega)]; exact z), J_sub]
      exact e _ (congrArg J (by unfold RV; rw [if_neg z]))
  · unfold f_X8_pathCells_B37
    dsimp only
    rw [if_pos (by rw [show (0 : Int32) = J 0 from rfl, J_lt (by omega)]; omega), Nat.sub_self]
theorem w_walkOn (hw : WF G) (hN : NP G ≤ 5000) {n : Nat} (hX : PTH G X A n) (hn : n < 5000) (hB : ∀ i : Int, 0 ≤ i → i < n → B i = A i) (u2 u3 : Int32) (r1 r2 r3 r4 r5 r6 r7 : Nat → Int32) (hx : Z0 r3) (hy : Z0 r4) :
    WP (LPF (fun z => f_X8_pathCells_B90 (J n) u2 u3 z.1 (JA G) (JA B) z.2.1 z.2.2.1 z.2.2.2.1 z.2.2.2.2.1 z.2.2.2.2.2.1 z.2.2.2.2.2.2.1 r7 z.2.2.2.2.2.2.2.1 z.2.2.2.2.2.2.2.2) lfuel (0, r1, r2, r3, r4, r5, r6, J (X 0), 0)) (fun e => e.1 = J ((n + 1 : Nat) : Int) ∧ (Z0 e.2.2.2.1 ∧ Z0 e.2.2.2.2.1) ∧ ∃ T Q : Int → Int, e.2.2.2.2.2.1 = JA T ∧ e.2.2.2.2.2.2 = JA Q ∧ ∀ j : Nat, j < n + 1 → Q j = X j ∧ T (X j) = TP G (X j)) := by
  have hl := hw.1
  have h0 := hl.1
  have hnn := nn_eq hl
  obtain ⟨T0, rfl, -⟩ := JA_ex r5
  obtain ⟨Q0, rfl, -⟩ := JA_ex r6
  refine lp_wp (fun k s => s.1 = J k ∧ s.2.2.2.2.2.2.2.2 = J k ∧ (Z0 s.2.2.2.1 ∧ Z0 s.2.2.2.2.1) ∧ (k ≤ n → s.2.2.2.2.2.2.2.1 = J (X k)) ∧ ∃ T Q : Int → Int, s.2.2.2.2.2.1 = JA T ∧ s.2.2.2.2.2.2.1 = JA Q ∧ ∀ j : Nat, j < k → Q j = X j ∧ T (X j) = TP G (X j)) (n + 1) (by omega) ⟨rfl, rfl, ⟨hx, hy⟩, fun _ => rfl, T0, Q0, rfl, rfl, fun j hj => absurd hj (Nat.not_lt_zero j)⟩ (fun k s hk hI => ?_)
  obtain ⟨i1, i2, ⟨i3, i4⟩, i5, T, Q, i6, i7, i8⟩ := hI
  unfold f_X8_pathCells_B90
  by_cases z : k = n + 1
  · rw [i2, if_pos (by rw [J_lt (by omega)]; omega)]
    subst z
    exact WP.ret (Or.inr ⟨_, rfl, i1, ⟨i3, i4⟩, T, Q, i6, i7, i8⟩)
  · have i5 := i5 (by omega)
    have hXk := hX.1 k (by omega)
    have hTP := TP_two G (X k)
    obtain ⟨F, W, X', Y', g1, g2, g3, ⟨X'', g4, g4'⟩, ⟨Y'', g5, g5'⟩⟩ := w_takes8 hl hXk.1 s.2.1 s.2.2.1 s.2.2.2.1 s.2.2.2.2.1 i3 i4
    have g9 := g3.2 (nn G) (by omega)
    rw [hnn] at g9
    have g12 : CN (PX G (DV G (X k)) (nn G)) (PY G (DV G (X k)) (nn G)) = TP G (X k) := by
      rcases hTP with ⟨-, w, -⟩ | ⟨-, w⟩
      · exact w.symm
      · omega
    rw [i2, i5, i1, i6, i7, if_neg (by rw [J_lt (by omega)]; omega)]
    refine WP.ob g1 ?_
    try dsimp only
    rw [show (0 : Int32) = J 0 from rfl, JG (by omega), JA_get _ (by omega), JG (by omega), JG (by omega), JG (by omega), JA_get _ (by omega), JA_get _ (by omega), g9.1, g9.2]
    refine WP.ob (e_cellOf _ _) ?_
    rw [g12, JG (by omega), JA_upd _ _ (by omega)]
    simp only [LET]
    rw [JG (by omega), JA_upd _ _ (by omega), show (1 : Int32) = J 1 from rfl, J_add]
    have fin : ∀ j : Nat, j < k + 1 → up Q k (X k) j = X j ∧ up T (X k) (TP G (X k)) (X j) = TP G (X j) := by
      intro j hj
      constructor
      · by_cases y : j = k
        · rw [y, up_same]
        · rw [up_ne _ _ (by omega)]; exact (i8 j (by omega)).1
      · by_cases y : X j = X k
        · rw [y, up_same]
        · rw [up_ne _ _ y]
          have : ¬ j = k := fun e => y (by rw [e])
          exact (i8 j (by omega)).2
    by_cases y : n ≤ k
    · rw [if_pos (by rw [J_le (by omega)]; omega)]
      exact WP.ret (Or.inl ⟨_, rfl, by omega, rfl, rfl, ⟨⟨X'', g4, g4'⟩, ⟨Y'', g5, g5'⟩⟩, fun h => by omega, _, _, rfl, rfl, fin⟩)
    · have a := hX.2 k (by omega)
      rw [if_neg (by rw [J_le (by omega)]; omega), JG (by omega), JA_get _ (by omega), hB k (by omega) (by omega)]
      refine WP.ob (e_behind hl hXk.1 a.1) ?_
      rw [a.2]
      exact WP.ret (Or.inl ⟨_, rfl, by omega, rfl, rfl, ⟨⟨X'', g4, g4'⟩, ⟨Y'', g5, g5'⟩⟩, fun h => rfl, _, _, rfl, rfl, fin⟩)
theorem call_pathCells (hR : REL ss aa pl po pa ms ma) : WP (f_X7_pathCells (ss 3) (ss 4) (aa 12) (aa 13) (aa 14) (ss 6) (ss 7) (ss 8) (aa 23) (aa 22) ) (fun r => WP (f_X8_pathCells (ms 2) (ms 3) (ms 4) (ms 6) (ma 0) (ma 12) (ma 3) (ma 4) (ma 5) (ma 6) (ma 8) (ma 10) (ma 11) ) (fun q => ((r.1 = 0 ∧ q.2.1 = J 0 ∧ r.2.1 = q.1) ∨ (r.1 = 4 ∧ q.2.1 = J 1)) ∧ REL ss (va_up aa 22 r.2.2) pl po pa (va_up (va_up ms 4 q.2.1) 6 q.2.2.1) (va_up (va_up (va_up (va_up (va_up (va_up (va_up ma 3 q.2.2.2.1) 4 q.2.2.2.2.1) 5 q.2.2.2.2.2.1) 6 q.2.2.2.2.2.2.1) 8 q.2.2.2.2.2.2.2.1) 10 q.2.2.2.2.2.2.2.2.1) 11 q.2.2.2.2.2.2.2.2.2))) := by
  obtain ⟨G, S, hn, hsv, hh, hsp, hrt, hbk, hin, her, hx, hy⟩ := hR
  have hrt0 := hrt
  have hn0 := hn
  obtain ⟨⟨n1, n2⟩, ⟨n3, n4, n5, n6, n7, n8, n9⟩, n10, hs, hw⟩ := hn
  have hl := hw.1
  have h0 := hl.1
  rcases hrt with ⟨r1, r2⟩ | ⟨r1, r2, r3, n, p, X, A, B, r4, r5, r6, r7, r8, r9, r10, r11, r12, r13, r14, r15⟩
  · have h7 : (f_X7_pathCells (ss 3) (ss 4) (aa 12) (aa 13) (aa 14) (ss 6) (ss 7) (ss 8) (aa 23) (aa 22) ) = some (4, J 0, (aa 22)) := by
      unfold f_X7_pathCells
      rw [r1]
      rfl
    have h8 : (f_X8_pathCells (ms 2) (ms 3) (ms 4) (ms 6) (ma 0) (ma 12) (ma 3) (ma 4) (ma 5) (ma 6) (ma 8) (ma 10) (ma 11) ) = some (J 0, J 1, (ms 6), (ma 3), (ma 4), (ma 5), (ma 6), (ma 8), (ma 10), (ma 11)) := by
      unfold f_X8_pathCells
      rw [r2]
      rfl
    exact ⟨_, h7, _, h8, Or.inr ⟨rfl, rfl⟩, G, S, hn0, hsv, hh, hsp, hrt0, hbk, hin, her, hx, hy⟩
  · rcases hsp with hsp | ⟨s1, s2, s3, s4, sp, st, T, s5, s6, s7, s8, s9⟩
    · rw [r2] at hsp
      exact absurd hsp (by decide)
    have hP := NP_b hl
    obtain ⟨F0, hF0, -⟩ := JA_ex (aa 22)
    have hF : ∀ c : Int, 0 ≤ c → c < 441 → FLL 441 0 F0 c = 0 := fun c a b => FL_in ⟨a, b⟩
    obtain ⟨F1, hF1⟩ : ∃ F1, F1 = FLL 441 0 F0 := ⟨_, rfl⟩
    rw [← hF1] at hF
    have ht : ∀ k : Nat, k ≤ n → 0 ≤ TP G (X k) ∧ TP G (X k) < 441 := fun k hk => by
      have a := r14.1 k hk
      have b := TP_b G (X k)
      omega
    have h7 : (f_X7_pathCells (ss 3) (ss 4) (aa 12) (aa 13) (aa 14) (ss 6) (ss 7) (ss 8) (aa 23) (aa 22) ) = some (0, J (NZ (TLY (TP G) (XQ X) (n + 1)) 441), JA (TBK (fun j => TP G (X j)) F1 (n + 1))) := by
      unfold f_X7_pathCells
      rw [r1, r4, r5, r7, s3, s4, s5, s6, s7, hF0]
      refine ob 0 rfl ?_
      rw [if_pos rfl]
      refine ob _ (e_fill441 (x := 0)) ?_
      rw [← hF1]
      refine lp_bind (fun k : Nat => (JA (TBK (fun j => TP G (X j)) F1 k), J (NZ (TLY (TP G) (XQ X) k) 441), J (X (min k n)), J k)) (n + 1) ?_ (by omega) (fun k hk => ?_) (e := (JA (TBK (fun j => TP G (X j)) F1 (n + 1)), J (NZ (TLY (TP G) (XQ X) (n + 1)) 441))) ?_ ?_
      · show _ = (JA F1, J (NZ (fun _ => 0) 441), J (X (min 0 n)), J 0)
        rw [NZ_0, Nat.zero_min]
        rfl
      · have hXk := r14.1 k (by omega)
        have hTk := s9 _ hXk.1.1 hXk.1.2
        have t1 := ht k (by omega)
        have t2 := NZ_s (T := TP G) (X := X) hF (k := k) t1
        have t3 : TBK (fun j => TP G (X j)) F1 (k + 1) = if TBK (fun j => TP G (X j)) F1 k (TP G (X k)) = 0 then up (TBK (fun j => TP G (X j)) F1 k) (TP G (X k)) 1 else TBK (fun j => TP G (X j)) F1 k := rfl
        have t4 := TBK_ok (T := TP G) (X := X) hF k (TP G (X k)) t1.1 t1.2
        have fin : ∀ (u : Nat → Int32) (v : Int32), f_X7_pathCells_L74 (J (NP G)) (J (G 0)) (JA sp) (JA st) (JA T) (J 1) (J (X 0)) (J n) (JA A) u v (J (X k)) (J k) = some (Sum.inl (u, v, J (X (min (k + 1) n)), J ((k + 1 : Nat) : Int))) := by
          intro u v
          unfold f_X7_pathCells_L74
          rw [show (1 : Int32) = J 1 from rfl]
          by_cases y : n ≤ k
          · rw [if_pos (by rw [J_le (by omega)]; omega), J_add, show min (k + 1) n = k by omega]
            rfl
          · have a := r14.2 k (by omega)
            have b := r14.1 (k + 1) (by omega)
            have hT5 := s9 _ b.1.1 b.1.2
            rw [if_neg (by rw [J_le (by omega)]; omega)]
            refine ob _ (e_stepAt (by omega)) ?_
            refine ob _ (e_after hl s8 s2 (fun q a b => by rw [s9 q a b]; exact TP_b G q) hXk.1 (by omega)) ?_
            have e : NX G T (X k) (A k) = X (k + 1) := by
              unfold NX
              rw [a.2, if_pos (by omega)]
            rw [e, J_add, show min (k + 1) n = k + 1 by omega]
            rfl
        unfold f_X7_pathCells_B24
        dsimp only
        rw [if_neg (by rw [J_lt (by omega)]; omega), show min k n = k by omega]
        refine ob _ (e_tipOf (by omega)) ?_
        rw [hTk]
        refine ob _ (e_isCellNumber1 (by omega)) ?_
        rw [if_neg (by decide), JG (by omega)]
        rcases t4 with ⟨a, -⟩ | ⟨a, -⟩
        · rw [if_pos a] at t2 t3
          rw [if_pos (by rw [JA_get _ (by omega), a]; rfl), JG (by omega), show (1 : Int32) = J 1 from rfl, JA_upd _ _ (by omega), J_add, t2, t3]
          exact fin _ _
        · rw [if_neg (by omega)] at t2 t3
          rw [if_neg (by rw [JA_get _ (by omega), a]; decide), t2, t3, Int.add_zero]
          exact fin _ _
      · unfold f_X7_pathCells_B24
        dsimp only
        rw [if_pos (by rw [J_lt (by omega)]; omega)]
      · rfl
    obtain ⟨e14, h14, f1, ⟨f2, f3⟩, T2, Q2, f4, f5, f6⟩ := w_walkOn hw r3 r14 r11 r13 (ms 3) (ms 4) (ma 3) (ma 4) (ma 5) (ma 6) (ma 8) (ma 10) (ma 11) hx hy
    obtain ⟨F9, f7, -⟩ := counts8 (n := n + 1) (T := T2) (Q := Q2) (by omega) (fun j hj => by
      have a := f6 j hj
      have b := (r14.1 j (by omega)).1
      have c := ht j (by omega)
      rw [a.1, a.2]
      omega) (ma 11)
    have f8 : TLY T2 Q2 (n + 1) = TLY (TP G) (XQ X) (n + 1) := TLY_congr (n + 1) fun j hj => by
      have a := f6 j hj
      rw [XQ_n, a.1, a.2]
    refine WP.eq h7 ?_
    unfold f_X8_pathCells f_X8_pathCells_L13
    rw [r8, r9, r10, n10, if_pos (by rw [show (0 : Int32) = J 0 from rfl, J_le (by omega)]; omega), if_pos (by decide)]
    refine WP.ob (e_numberNow hl) ?_
    rw [← r15, show (1 : Int32) = J 1 from rfl, J_sub]
    simp only [LET]
    refine WP.ob (e_walkBack hl r14 r12 r11 r13 _ _ _ _ _ _ _ _ _ _ _) ?_
    refine WP.ob h14 ?_
    rw [f1, f4, f5]
    refine WP.ob f7 ?_
    exact WP.ret ⟨Or.inl ⟨trivial, rfl, congrArg J (by rw [f8])⟩, G, S, ⟨⟨n1, n2⟩, ⟨n3, n4, n5, n6, n7, n8, n9⟩, n10, hs, hw⟩, hsv, hh, Or.inr ⟨s1, s2, s3, s4, sp, st, T, s5, s6, s7, s8, s9⟩, Or.inr ⟨r1, r2, r3, n, p, X, A, B, r4, r5, r6, r7, r8, r9, r10, r11, r12, r13, r14, r15⟩, hbk, hin, her, f2, f3⟩
end
