/-! the walk along all links, and its fault -/
def BXf (G v : Int → Int) (n : Nat) (F : Int → Int) : Int → Int := fun j => if 0 ≤ j ∧ j < n then PX G v j.toNat else F j
def BYf (G v : Int → Int) (n : Nat) (F : Int → Int) : Int → Int := fun j => if 0 ≤ j ∧ j < n then PY G v j.toNat else F j
section
variable {G v w BL TR ln F B C D : Int → Int} {f f' x y : Int} {l l' k : Nat} {i : Int} {way px py : Int → Int}
theorem SU_congr : ∀ n : Nat, (∀ k : Int, 0 ≤ k → k < n → v k = w k) → SU v n = SU w n
  | 0, _ => rfl
  | n + 1, h => by
    show SU v n + v n = SU w n + w n
    rw [SU_congr n (fun k h0 h1 => h k h0 (by omega)), h n (by omega) (by omega)]
theorem WY_congr (n : Nat) (h : ∀ k : Int, 0 ≤ k → k < (n : Int) + 1 → v k = w k) : WY v n = WY w n := by
  unfold WY
  rw [SU_congr (n + 1) (fun k h0 h1 => h k h0 (by omega))]
theorem PX_congr : ∀ n : Nat, (∀ k : Int, 0 ≤ k → k < n → v k = w k) → PX G v n = PX G w n ∧ PY G v n = PY G w n
  | 0, _ => ⟨rfl, rfl⟩
  | n + 1, h => by
    have h1 := PX_congr n (fun k h0 h1 => h k h0 (by omega))
    show PX G v n + G (1 + 4 * n) * SX (WY v n) = PX G w n + G (1 + 4 * n) * SX (WY w n) ∧ PY G v n + G (1 + 4 * n) * SY (WY v n) = PY G w n + G (1 + 4 * n) * SY (WY w n)
    rw [h1.1, h1.2, WY_congr n (fun k h0 h1 => h k h0 (by omega))]
    exact ⟨rfl, rfl⟩
theorem LAID_congr (h : ∀ k : Int, 0 ≤ k → k < G 0 → v k = w k) (hv : LAID G v way px py) : LAID G w way px py := by
  refine ⟨fun k hk => ?_, fun k hk => ?_⟩
  · rw [hv.1 k hk]
    exact WY_congr k (fun j h0 h1 => h j h0 (by omega))
  · have h1 := PX_congr (G := G) k (fun j h0 h1 => h j h0 (by omega))
    have h2 := hv.2 k hk
    exact ⟨h2.1.trans h1.1, h2.2.trans h1.2⟩
theorem BXf_0 (G v F : Int → Int) : BXf G v 0 F = F ∧ BYf G v 0 F = F := by
  refine ⟨?_, ?_⟩ <;> funext j <;> exact if_neg (by omega)
theorem BXf_s (G v F : Int → Int) (k : Nat) : up (BXf G v k F) k (PX G v k) = BXf G v (k + 1) F ∧ up (BYf G v k F) k (PY G v k) = BYf G v (k + 1) F := by
  unfold BXf BYf
  refine ⟨?_, ?_⟩
  · funext j
    by_cases q : j = k
    · rw [q, up_same, if_pos (by omega), Int.toNat_natCast]
    · rw [up_ne _ _ q]
      by_cases q2 : 0 ≤ j ∧ j < k
      · rw [if_pos q2, if_pos (by omega)]
      · rw [if_neg q2, if_neg (by omega)]
  · funext j
    by_cases q : j = k
    · rw [q, up_same, if_pos (by omega), Int.toNat_natCast]
    · rw [up_ne _ _ q]
      by_cases q2 : 0 ≤ j ∧ j < k
      · rw [if_pos q2, if_pos (by omega)]
      · rw [if_neg q2, if_neg (by omega)]
theorem e_outer_own (hl : WL G) (hw : WS G) (hln : ∀ k : Int, 0 ≤ k → k < G 0 → ln k = G (1 + 4 * k)) (hF : ∀ k : Int, 0 ≤ k → k < G 0 → F k = v k) (hb : ∀ x y : Int, (-10 ≤ x ∧ x ≤ 10) ∧ -10 ≤ y ∧ y ≤ 10 → (ST BL x y ↔ OS G x y)) (t : TRD G v 0 0 TR) :
    WP (LPF (fun z => f_X6_along_own_B43 z.1 z.2.1 z.2.2.1 z.2.2.2.1 z.2.2.2.2.1 z.2.2.2.2.2.1 z.2.2.2.2.2.2.1 z.2.2.2.2.2.2.2.1 (J (G 0)) (JA ln) (JA F) (JA BL) z.2.2.2.2.2.2.2.2.1 z.2.2.2.2.2.2.2.2.2) lfuel (J 0, J 0, J 0, J 0, JA B, JA C, JA D, JA TR, J 0, J 0))
      (fun e => ∃ (f' : Int) (l' : Nat) (TR' : Int → Int), e = (J f', J l', J (PX G v (nn G)), J (PY G v (nn G)), JA (BXf G v (nn G) B), JA (BYf G v (nn G) C), JA (WYf G v (nn G) D), JA TR') ∧ WK (PRC G (nn G) 0) (P1 G v) (P2 G v) (P3 G v) f' l') := by
  have h0 := hl.1
  have h1 := nn_eq hl
  refine lp_inv (fun m s => ∃ (f' : Int) (l' : Nat) (TR' : Int → Int), (m : Int) ≤ G 0 ∧ s = (J f', J l', J (PX G v m), J (PY G v m), JA (BXf G v m B), JA (BYf G v m C), JA (WYf G v m D), JA TR', J (SU v m % 8), J m) ∧ WK (PRC G m 0) (P1 G v) (P2 G v) (P3 G v) f' l' ∧ TRD G v m 0 TR') (nn G) (by omega) ?_ (fun m s hm hI => ?_)
  · refine ⟨0, 0, TR, by omega, ?_, Or.inl ⟨rfl, fun a j z => ?_⟩, t⟩
    · rw [(BXf_0 G v B).1, (BXf_0 G v C).2, WYf_0]; rfl
    · rcases z with z | z <;> omega
  · obtain ⟨f', l', TR', hm2, rfl, w, t⟩ := hI
    by_cases q : (m : Int) = G 0
    · have q2 : m = nn G := by omega
      subst q2
      refine Or.inr ⟨_, ?_, ⟨f', l', TR', rfl, w⟩⟩
      unfold f_X6_along_own_B43
      simp (disch := omega) only [↓reduceIte, j_lits, J_add, J_sub, J_mul, J_neg, J_le, J_lt, J_eqv, J_div, J_imax, J_imin, JA_get, JG, JA_upd, LET, Option.bind_some, lt_T, lt_F, le_T, le_F, eq_T, eq_F, and_true, true_and, Int.sub_neg, Int.natCast_add, n_lits]
    · have h4 : (SU v m % 8 + v m) % 8 = WY v m := by
        unfold WY
        show _ = (SU v m + v m) % 8
        omega
      have h5 : SU v (m + 1) % 8 = WY v m := rfl
      have h6 := BXf_s G v B m
      have h7 := BXf_s G v C m
      obtain ⟨e, he, f2, l2, TR2, rfl, w2, t2⟩ := e_inner_own (F := F) hl hw hln hb (k := m) (by omega) w t (JA (BXf G v (m + 1) B)) (JA (BYf G v (m + 1) C)) (JA (WYf G v (m + 1) D))
      refine Or.inl ⟨by omega, (J f2, J l2, J (PX G v (m + 1)), J (PY G v (m + 1)), JA (BXf G v (m + 1) B), JA (BYf G v (m + 1) C), JA (WYf G v (m + 1) D), JA TR2, J (SU v (m + 1) % 8), J ((m + 1 : Nat) : Int)), ?_, f2, l2, TR2, by omega, rfl, w2, t2⟩
      rw [h5]
      unfold f_X6_along_own_B43
      simp (disch := omega) only [↓reduceIte, j_lits, J_add, J_sub, J_mul, J_neg, J_le, J_lt, J_eqv, J_div, J_imax, J_imin, JA_get, JG, JA_upd, LET, Option.bind_some, lt_T, lt_F, le_T, le_F, eq_T, eq_F, and_true, true_and, Int.sub_neg, Int.natCast_add, n_lits, hF m (by omega) (by omega), J_and7, h4, WYf_s, h6.1, h7.2, he]
theorem e_outer_row (hl : WL G) (hw : WS G) (hln : ∀ k : Int, 0 ≤ k → k < G 0 → ln k = G (1 + 4 * k)) (hF : ∀ k : Int, 0 ≤ k → k < G 0 → F k = v k) (hb : ∀ x y : Int, (-10 ≤ x ∧ x ≤ 10) ∧ -10 ≤ y ∧ y ≤ 10 → (ST BL x y ↔ OS G x y)) (t : TRD G v 0 0 TR) :
    WP (LPF (fun z => f_X6_along_row_B43 z.1 z.2.1 z.2.2.1 z.2.2.2.1 z.2.2.2.2.1 z.2.2.2.2.2.1 z.2.2.2.2.2.2.1 z.2.2.2.2.2.2.2.1 (J (G 0)) (JA ln) (JA BL) (JA F) z.2.2.2.2.2.2.2.2.1 z.2.2.2.2.2.2.2.2.2) lfuel (J 0, J 0, J 0, J 0, JA B, JA C, JA D, JA TR, J 0, J 0))
      (fun e => ∃ (f' : Int) (l' : Nat) (TR' : Int → Int), e = (J f', J l', J (PX G v (nn G)), J (PY G v (nn G)), JA (BXf G v (nn G) B), JA (BYf G v (nn G) C), JA (WYf G v (nn G) D), JA TR') ∧ WK (PRC G (nn G) 0) (P1 G v) (P2 G v) (P3 G v) f' l') := by
  have h0 := hl.1
  have h1 := nn_eq hl
  refine lp_inv (fun m s => ∃ (f' : Int) (l' : Nat) (TR' : Int → Int), (m : Int) ≤ G 0 ∧ s = (J f', J l', J (PX G v m), J (PY G v m), JA (BXf G v m B), JA (BYf G v m C), JA (WYf G v m D), JA TR', J (SU v m % 8), J m) ∧ WK (PRC G m 0) (P1 G v) (P2 G v) (P3 G v) f' l' ∧ TRD G v m 0 TR') (nn G) (by omega) ?_ (fun m s hm hI => ?_)
  · refine ⟨0, 0, TR, by omega, ?_, Or.inl ⟨rfl, fun a j z => ?_⟩, t⟩
    · rw [(BXf_0 G v B).1, (BXf_0 G v C).2, WYf_0]; rfl
    · rcases z with z | z <;> omega
  · obtain ⟨f', l', TR', hm2, rfl, w, t⟩ := hI
    by_cases q : (m : Int) = G 0
    · have q2 : m = nn G := by omega
      subst q2
      refine Or.inr ⟨_, ?_, ⟨f', l', TR', rfl, w⟩⟩
      unfold f_X6_along_row_B43
      simp (disch := omega) only [↓reduceIte, j_lits, J_add, J_sub, J_mul, J_neg, J_le, J_lt, J_eqv, J_div, J_imax, J_imin, JA_get, JG, JA_upd, LET, Option.bind_some, lt_T, lt_F, le_T, le_F, eq_T, eq_F, and_true, true_and, Int.sub_neg, Int.natCast_add, n_lits]
    · have h4 : (SU v m % 8 + v m) % 8 = WY v m := by
        unfold WY
        show _ = (SU v m + v m) % 8
        omega
      have h5 : SU v (m + 1) % 8 = WY v m := rfl
      have h6 := BXf_s G v B m
      have h7 := BXf_s G v C m
      obtain ⟨e, he, f2, l2, TR2, rfl, w2, t2⟩ := e_inner_row (F := F) hl hw hln hb (k := m) (by omega) w t (JA (BXf G v (m + 1) B)) (JA (BYf G v (m + 1) C)) (JA (WYf G v (m + 1) D))
      refine Or.inl ⟨by omega, (J f2, J l2, J (PX G v (m + 1)), J (PY G v (m + 1)), JA (BXf G v (m + 1) B), JA (BYf G v (m + 1) C), JA (WYf G v (m + 1) D), JA TR2, J (SU v (m + 1) % 8), J ((m + 1 : Nat) : Int)), ?_, f2, l2, TR2, by omega, rfl, w2, t2⟩
      rw [h5]
      unfold f_X6_along_row_B43
      simp (disch := omega) only [↓reduceIte, j_lits, J_add, J_sub, J_mul, J_neg, J_le, J_lt, J_eqv, J_div, J_imax, J_imin, JA_get, JG, JA_upd, LET, Option.bind_some, lt_T, lt_F, le_T, le_F, eq_T, eq_F, and_true, true_and, Int.sub_neg, Int.natCast_add, n_lits, hF m (by omega) (by omega), J_and7, h4, WYf_s, h6.1, h7.2, he]
theorem P1_OUT (hl : WL G) {n : Nat} (hn : (n : Int) ≤ G 0) (h : ∀ (a : Nat) (j : Int), a < n → 1 ≤ j → j ≤ G (1 + 4 * a) → ¬ P1 G v a j) : ∀ m : Nat, m ≤ n → (-10 ≤ PX G v m ∧ PX G v m ≤ 10) ∧ -10 ≤ PY G v m ∧ PY G v m ≤ 10
  | 0, _ => by
    show (-10 ≤ (0 : Int) ∧ (0 : Int) ≤ 10) ∧ -10 ≤ (0 : Int) ∧ (0 : Int) ≤ 10
    decide
  | m + 1, hm => by
    have h1 := hl.2 m (by omega) (by omega)
    have h2 := h m (G (1 + 4 * m)) (by omega) (by omega) (by omega)
    exact Classical.byContradiction h2
theorem between (G v : Int → Int) (k : Nat) {n j : Int} (hj : 0 ≤ j ∧ j ≤ n) (h1 : (-10 ≤ PX G v k ∧ PX G v k ≤ 10) ∧ -10 ≤ PY G v k ∧ PY G v k ≤ 10) (h2 : (-10 ≤ CX G v k n ∧ CX G v k n ≤ 10) ∧ -10 ≤ CY G v k n ∧ CY G v k n ≤ 10) : (-10 ≤ CX G v k j ∧ CX G v k j ≤ 10) ∧ -10 ≤ CY G v k j ∧ CY G v k j ≤ 10 := by
  unfold CX CY at *
  rcases SXY _ (WY_b v k) with ⟨a, b⟩ | ⟨a, b⟩ | ⟨a, b⟩ | ⟨a, b⟩ | ⟨a, b⟩ | ⟨a, b⟩ | ⟨a, b⟩ | ⟨a, b⟩ <;> rw [a, b] at h2 ⊢ <;> omega
theorem HIT_P2 (hs : WS G) (hl : WL G) (hk : (k : Int) < G 0) (h : HIT G v k) : ∃ (a : Nat) (j : Int), a ≤ k ∧ 1 ≤ j ∧ j ≤ G (1 + 4 * a) ∧ P2 G v a j := by
  obtain ⟨i, h1, h2⟩ := h
  by_cases q : i = 0
  · subst q
    have e := CX_0 G v k
    rw [e.1, e.2] at h2
    cases k with
    | zero => exact absurd ⟨rfl, rfl⟩ (OS_ar hs h2).2
    | succ k =>
      have h3 := hl.2 k (by omega) (by omega)
      exact ⟨k, G (1 + 4 * k), by omega, by omega, by omega, h2⟩
  · exact ⟨k, i, Nat.le_refl _, by omega, h1.2, h2⟩
theorem P3_CRS (hl : WL G) (hk : (k : Int) < G 0) {j : Int} (hj : 1 ≤ j ∧ j ≤ G (1 + 4 * k)) (h : P3 G v k j) : CRS G v k := by
  have ex : ¬ (PX G v k = CX G v k j ∧ PY G v k = CY G v k j) := by
    intro z
    have e := CX_0 G v k
    have := CX_ne G v k (i := 0) (j := j) ⟨e.1.trans z.1, e.2.trans z.2⟩
    omega
  rcases h with ⟨h1, h2⟩ | ⟨b, i, h1, h2, h3⟩
  · cases k with
    | zero =>
      refine absurd ⟨?_, ?_⟩ ex
      · exact h1.symm
      · exact h2.symm
    | succ k =>
      have h4 := hl.2 0 (by omega) (by omega)
      refine ⟨0, by omega, j, by omega, ⟨0, ⟨by omega, ?_⟩, ?_, ?_⟩, fun z => ex z.2⟩
      · show (0 : Int) ≤ G (1 + 4 * ((0 : Nat) : Int))
        rw [show 1 + 4 * ((0 : Nat) : Int) = 1 + 4 * 0 from rfl]
        omega
      · rw [(CX_0 G v 0).1, h1]; rfl
      · rw [(CX_0 G v 0).2, h2]; rfl
  · rcases h1 with ⟨a1, a2, a3⟩ | ⟨a1, a2, a3⟩
    · exact ⟨b, a1, j, by omega, ⟨i, by omega, h2, h3⟩, fun z => ex z.2⟩
    · subst a1
      have := CX_ne G v b (i := i) (j := j) ⟨h2, h3⟩
      omega
theorem CRS_P3 (hl : WL G) (hk : (k : Int) < G 0) (h : CRS G v k) : ∃ (a : Nat) (j : Int), a ≤ k ∧ 1 ≤ j ∧ j ≤ G (1 + 4 * a) ∧ P3 G v a j := by
  obtain ⟨a, ha, i, hi, ⟨i', hi', e1, e2⟩, hx⟩ := h
  have key : ∀ (b : Nat) (j : Int), a < b → (b : Int) < G 0 → 1 ≤ j → CX G v a i' = CX G v b j → CY G v a i' = CY G v b j → P3 G v b j := by
    intro b j hab hb hj f1 f2
    by_cases q : i' = 0
    · subst q
      have e := CX_0 G v a
      rw [e.1] at f1
      rw [e.2] at f2
      cases a with
      | zero => exact Or.inl ⟨f1.symm, f2.symm⟩
      | succ a =>
        have h3 := hl.2 a (by omega) (by omega)
        exact Or.inr ⟨a, G (1 + 4 * a), Or.inl ⟨by omega, by omega, by omega⟩, f1, f2⟩
    · exact Or.inr ⟨a, i', Or.inl ⟨hab, by omega, hi'.2⟩, f1, f2⟩
  by_cases q : i = 0
  · subst q
    have e := CX_0 G v k
    rw [e.1] at e1 hx
    rw [e.2] at e2 hx
    cases k with
    | zero => exact absurd ha (Nat.not_lt_zero a)
    | succ k =>
      have h3 := hl.2 k (by omega) (by omega)
      have hne : ¬ a = k := fun z => hx ⟨by omega, rfl, rfl⟩
      exact ⟨k, G (1 + 4 * k), by omega, by omega, by omega, key k _ (by omega) (by omega) (by omega) e1 e2⟩
  · exact ⟨k, i, Nat.le_refl _, by omega, hi.2, key k i ha hk (by omega) e1 e2⟩
theorem WK_FS (hl : WL G) (hs : WS G) (h : WK (PRC G (nn G) 0) (P1 G v) (P2 G v) (P3 G v) f l) : FS G v f l := by
  have h1 := nn_eq hl
  have hq : ∀ (a : Nat) (j : Int), PRC G (nn G) 0 a j ↔ a < nn G ∧ 1 ≤ j ∧ j ≤ G (1 + 4 * a) := by
    intro a j
    unfold PRC
    constructor
    · rintro (z | z)
      · exact z
      · omega
    · exact Or.inl
  have noOut : ∀ n : Nat, n ≤ nn G → (∀ (a : Nat) (j : Int), a < n → 1 ≤ j → j ≤ G (1 + 4 * a) → ¬ P1 G v a j) → ∀ j : Nat, j < n → ¬ OUT G v j := by
    intro n hn z j hj
    have z1 := P1_OUT hl (v := v) (n := n) (by omega) z
    have z2 := z1 j (by omega)
    have z3 := z1 (j + 1) (by omega)
    unfold OUT
    rintro (w | w)
    · exact w z2
    · exact w z3
  have noHit : ∀ n : Nat, n ≤ nn G → (∀ (a : Nat) (j : Int), a < n → 1 ≤ j → j ≤ G (1 + 4 * a) → ¬ P2 G v a j) → ∀ j : Nat, j < n → ¬ HIT G v j := by
    intro n hn z j hj w
    obtain ⟨a, j', a1, a2, a3, a4⟩ := HIT_P2 hs hl (by omega) w
    exact z a j' (by omega) a2 a3 a4
  have noCrs : ∀ n : Nat, n ≤ nn G → (∀ (a : Nat) (j : Int), a < n → 1 ≤ j → j ≤ G (1 + 4 * a) → ¬ P3 G v a j) → ∀ j : Nat, j < n → ¬ CRS G v j := by
    intro n hn z j hj w
    obtain ⟨a, j', a1, a2, a3, a4⟩ := CRS_P3 hl (by omega) w
    exact z a j' (by omega) a2 a3 a4
  rcases h with ⟨e, a1⟩ | ⟨e, ⟨j, b1, b2⟩, a2⟩ | ⟨e, a1, ⟨j, b1, b2⟩, a3⟩ | ⟨e, a1, ⟨j, b1, b2⟩, a3⟩
  · refine Or.inl ⟨e, fun j hj => ⟨?_, ?_, ?_⟩⟩
    · exact noOut (nn G) (Nat.le_refl _) (fun a j z1 z2 z3 => (a1 a j ((hq a j).mpr ⟨z1, z2, z3⟩)).1) j hj
    · exact noHit (nn G) (Nat.le_refl _) (fun a j z1 z2 z3 => (a1 a j ((hq a j).mpr ⟨z1, z2, z3⟩)).2.1) j hj
    · exact noCrs (nn G) (Nat.le_refl _) (fun a j z1 z2 z3 => (a1 a j ((hq a j).mpr ⟨z1, z2, z3⟩)).2.2) j hj
  · have b1 := (hq l j).mp b1
    have z1 : ∀ (a : Nat) (j : Int), a < l → 1 ≤ j → j ≤ G (1 + 4 * a) → ¬ P1 G v a j := fun a j y1 y2 y3 => a2 a j ((hq a j).mpr ⟨by omega, y2, y3⟩) y1
    refine Or.inr (Or.inl ⟨e, b1.1, ?_, noOut l (by omega) z1⟩)
    have z2 := P1_OUT hl (v := v) (n := l) (by omega) z1 l (Nat.le_refl _)
    refine Or.inr fun z3 => b2 ?_
    exact between G v l (n := G (1 + 4 * l)) (by omega) z2 z3
  · have b1 := (hq l j).mp b1
    refine Or.inr (Or.inr (Or.inl ⟨e, ?_, b1.1, ⟨j, by omega, b2⟩, ?_⟩))
    · exact noOut (nn G) (Nat.le_refl _) fun a j z1 z2 z3 => a1 a j ((hq a j).mpr ⟨z1, z2, z3⟩)
    · exact noHit l (by omega) fun a j z1 z2 z3 => a3 a j ((hq a j).mpr ⟨by omega, z2, z3⟩) z1
  · have b1 := (hq l j).mp b1
    refine Or.inr (Or.inr (Or.inr ⟨e, fun j hj => ⟨?_, ?_⟩, b1.1, P3_CRS hl (by omega) b1.2 b2, ?_⟩))
    · exact noOut (nn G) (Nat.le_refl _) (fun a j z1 z2 z3 => (a1 a j ((hq a j).mpr ⟨z1, z2, z3⟩)).1) j hj
    · exact noHit (nn G) (Nat.le_refl _) (fun a j z1 z2 z3 => (a1 a j ((hq a j).mpr ⟨z1, z2, z3⟩)).2) j hj
    · exact noCrs l (by omega) fun a j z1 z2 z3 => a3 a j ((hq a j).mpr ⟨by omega, z2, z3⟩) z1
theorem TRD_0 (G v F : Int → Int) : TRD G v 0 0 (up (FLL 21 0 F) 10 1024) := by
  intro x y hxy
  have h1 : ST (up (FLL 21 0 F) 10 1024) x y ↔ x = 0 ∧ y = 0 := by
    unfold ST
    by_cases q : y = 0
    · subst q
      rw [show up (FLL 21 0 F) 10 1024 (0 + 10) = 1024 from up_same _ _ _, tb_mid (by omega)]
      omega
    · rw [up_ne _ _ (by omega), show FLL 21 0 F (y + 10) = 0 from if_pos (by omega)]
      exact ⟨fun z => absurd z tb_zero, fun z => absurd z.2 q⟩
  rw [h1]
  refine ⟨Or.inl, fun z => z.elim id fun ⟨a, j, z, _⟩ => ?_⟩
  rcases z with z | z <;> omega
theorem e_along_own (hl : WL G) (hw : WS G) (hln : ∀ k : Int, 0 ≤ k → k < G 0 → ln k = G (1 + 4 * k)) (hF : ∀ k : Int, 0 ≤ k → k < G 0 → F k = v k) (hb : ∀ x y : Int, (-10 ≤ x ∧ x ≤ 10) ∧ -10 ≤ y ∧ y ≤ 10 → (ST BL x y ↔ OS G x y)) (z1 z2 z3 z4 : Int32) :
    ∃ (f : Int) (l : Nat) (TR' : Int → Int), f_X6_along_own z1 z2 z3 z4 (JA B) (JA C) (JA D) (JA TR) (J (G 0)) (JA ln) (JA F) (JA BL) = some (J f, J l, J (PX G v (nn G)), J (PY G v (nn G)), JA (BXf G v (nn G) B), JA (BYf G v (nn G) C), JA (WYf G v (nn G) D), JA TR') ∧ FS G v f l := by
  obtain ⟨e, he, f2, l2, TR2, rfl, w2⟩ := e_outer_own (B := B) (C := C) (D := D) hl hw hln hF hb (TRD_0 G v TR)
  refine ⟨f2, l2, TR2, ?_, WK_FS hl hw w2⟩
  unfold f_X6_along_own
  refine ob _ (e_fill21 (x := 0)) ?_
  simp (disch := omega) only [↓reduceIte, j_lits, J_add, J_sub, J_mul, J_neg, J_le, J_lt, J_eqv, J_div, J_imax, J_imin, JA_get, JG, JA_upd, LET, Option.bind_some, lt_T, lt_F, le_T, le_F, eq_T, eq_F, and_true, true_and, Int.sub_neg, Int.natCast_add, n_lits, he]
theorem e_along_row (hl : WL G) (hw : WS G) (hln : ∀ k : Int, 0 ≤ k → k < G 0 → ln k = G (1 + 4 * k)) (hF : ∀ k : Int, 0 ≤ k → k < G 0 → F k = v k) (hb : ∀ x y : Int, (-10 ≤ x ∧ x ≤ 10) ∧ -10 ≤ y ∧ y ≤ 10 → (ST BL x y ↔ OS G x y)) (z1 z2 z3 z4 : Int32) :
    ∃ (f : Int) (l : Nat) (TR' : Int → Int), f_X6_along_row z1 z2 z3 z4 (JA B) (JA C) (JA D) (JA TR) (J (G 0)) (JA ln) (JA BL) (JA F) = some (J f, J l, J (PX G v (nn G)), J (PY G v (nn G)), JA (BXf G v (nn G) B), JA (BYf G v (nn G) C), JA (WYf G v (nn G) D), JA TR') ∧ FS G v f l := by
  obtain ⟨e, he, f2, l2, TR2, rfl, w2⟩ := e_outer_row (B := B) (C := C) (D := D) hl hw hln hF hb (TRD_0 G v TR)
  refine ⟨f2, l2, TR2, ?_, WK_FS hl hw w2⟩
  unfold f_X6_along_row
  refine ob _ (e_fill21 (x := 0)) ?_
  simp (disch := omega) only [↓reduceIte, j_lits, J_add, J_sub, J_mul, J_neg, J_le, J_lt, J_eqv, J_div, J_imax, J_imin, JA_get, JG, JA_upd, LET, Option.bind_some, lt_T, lt_F, le_T, le_F, eq_T, eq_F, and_true, true_and, Int.sub_neg, Int.natCast_add, n_lits, he]
end
