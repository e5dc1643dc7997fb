/-! read: the class enters the entries; the reference adds them -/
section
variable {G G0 C T U N F : Int → Int} {S : Nat → Int → Int} {n a to k : Nat} {c s f x y d w sg i : Int}
/-- the signs of the class's input -/
def CT (n : Nat) (C T : Int → Int) : Prop := n ≤ 60 ∧ ∀ i : Int, 0 ≤ i → i < n → C i = T i ∧ 32 ≤ T i ∧ T i ≤ 126
theorem CT.at0 (h : CT n C T) (hi : 0 ≤ i ∧ i < n) : f_X2_signAt (J n) (JA C) (J i) = some (J (T i)) := e_signAt h.1 h.2 hi
def RN (n : Nat) (C : Int → Int) (to : Int) : (Nat → Int32) × Int32 × Int32 × Int32 → Option (((Nat → Int32) × Int32 × Int32 × Int32) ⊕ (Nat → Int32)) := fun z => f_X2_readNumbers_B16 (J n) (JA C) z.1 (J to) z.2.1 z.2.2.1 z.2.2.2
theorem rn_min (h : CT n C T) {to : Int} (hi : 0 ≤ i ∧ i < to ∧ to ≤ n) (hT : T i = 45) : RN n C to (JA N, J w, J sg, J i) = some (.inl (JA N, J w, J (-1), J (i + 1))) := by
  have h1 := h.1
  unfold RN f_X2_readNumbers_B16
  dsimp only
  rw [if_neg (by rw [J_le (by omega)]; omega)]
  refine ob _ (h.at0 (by omega)) ?_
  rw [if_pos (by rw [hT]; rfl), show (1 : Int32) = J 1 from rfl, J_add]
  rfl
theorem rn_dig (h : CT n C T) {to : Int} (hi : 0 ≤ i ∧ i < to ∧ to ≤ n) (hT : 48 ≤ T i ∧ T i ≤ 57) (hw : 0 ≤ w ∧ w < 3) : RN n C to (JA N, J w, J sg, J i) = some (.inl (JA (up N w (N w * 10 + sg * (T i - 48))), J w, J sg, J (i + 1))) := by
  have h1 := h.1
  unfold RN f_X2_readNumbers_B16
  dsimp only
  rw [if_neg (by rw [J_le (by omega)]; omega)]
  refine ob _ (h.at0 (by omega)) ?_
  rw [if_neg (by rw [show (45 : Int32) = J 45 from rfl, J_eqv (by omega)]; omega)]
  refine ob _ (isDig1 (x := T i) (a := 48) (b := 57) (by omega)) ?_
  rw [if_neg j1n, if_neg (by rw [show (3 : Int32) = J 3 from rfl, J_le (by omega)]; omega), JG (by omega), JG (by omega), JA_get _ (by omega), show (48 : Int32) = J 48 from rfl, show (10 : Int32) = J 10 from rfl, show (1 : Int32) = J 1 from rfl, J_sub, J_mul, J_mul, J_add, J_add, JA_upd _ _ (by omega)]
  rfl
theorem rn_sep (h : CT n C T) {to : Int} (hi : 1 ≤ i ∧ i < to ∧ to ≤ n) (hT : ¬ T i = 45 ∧ (T i < 48 ∨ 57 < T i)) (hp : 48 ≤ T (i - 1) ∧ T (i - 1) ≤ 57) : RN n C to (JA N, J w, J sg, J i) = some (.inl (JA N, J (w + 1), J 1, J (i + 1))) := by
  have h1 := h.1
  have h2 := h.2 i (by omega) (by omega)
  unfold RN f_X2_readNumbers_B16
  dsimp only
  rw [if_neg (by rw [J_le (by omega)]; omega)]
  refine ob _ (h.at0 (by omega)) ?_
  rw [if_neg (by rw [show (45 : Int32) = J 45 from rfl, J_eqv (by omega)]; omega)]
  refine ob _ (isDig0 (x := T i) (a := 48) (b := 57) (by omega)) ?_
  rw [if_pos (by rfl), show (1 : Int32) = J 1 from rfl, J_sub]
  refine ob _ (h.at0 (by omega)) ?_
  refine ob _ (isDig1 (x := T (i - 1)) (a := 48) (b := 57) (by omega)) ?_
  rw [if_neg (show ¬ J 1 = 0 from j1n), J_add, J_add]
  rfl
theorem rn_crd (h : CT n C T) {to : Int} {l : Nat} (hc : CRD T a l x) (hi : (a : Int) + l ≤ to ∧ to ≤ n) (hw : 0 ≤ w ∧ w < 3) (hN : N w = 0) : ∃ (N' : Int → Int) (sg : Int), GO (RN n C to) (JA N, J w, J 1, J a) (JA N', J w, J sg, J ((a : Int) + l)) l ∧ N' w = x ∧ (∀ v : Int, ¬ v = w → N' v = N v) ∧ 48 ≤ T ((a : Int) + l - 1) ∧ T ((a : Int) + l - 1) ≤ 57 := by
  rcases hc with ⟨rfl, c1, c2, rfl⟩ | ⟨rfl, c1, c2, rfl⟩ | ⟨rfl, c1, c2, c3, rfl⟩ | ⟨rfl, c1, c2, c3, rfl⟩
  · have g1 := rn_dig (N := N) (w := w) (sg := 1) h (i := a) (to := to) (by omega) ⟨c1, c2⟩ hw
    refine ⟨_, 1, GO.one g1, ?_, fun v hv => up_ne _ _ hv, ?_⟩
    · rw [up_same, hN]; omega
    · rw [show (a : Int) + ((1 : Nat) : Int) - 1 = a by omega]; exact ⟨c1, c2⟩
  · have g1 := rn_dig (N := N) (w := w) (sg := 1) h (i := a) (to := to) (by omega) (by omega) hw
    have g2 := rn_dig (N := up N w (N w * 10 + 1 * (T a - 48))) (w := w) (sg := 1) h (i := (a : Int) + 1) (to := to) (by omega) (by omega) hw
    rw [show (a : Int) + 1 + 1 = (a : Int) + ((2 : Nat) : Int) by omega] at g2
    refine ⟨_, 1, (GO.one g1).tr (GO.one g2), ?_, fun v hv => by rw [up_ne _ _ hv, up_ne _ _ hv], ?_⟩
    · rw [up_same, up_same, hN]; omega
    · rw [show (a : Int) + ((2 : Nat) : Int) - 1 = a + 1 by omega]; omega
  · have g1 := rn_min (N := N) (w := w) (sg := 1) h (i := a) (to := to) (by omega) c1
    have g2 := rn_dig (N := N) (w := w) (sg := -1) h (i := (a : Int) + 1) (to := to) (by omega) ⟨c2, c3⟩ hw
    rw [show (a : Int) + 1 + 1 = (a : Int) + ((2 : Nat) : Int) by omega] at g2
    refine ⟨_, -1, (GO.one g1).tr (GO.one g2), ?_, fun v hv => up_ne _ _ hv, ?_⟩
    · rw [up_same, hN]; omega
    · rw [show (a : Int) + ((2 : Nat) : Int) - 1 = a + 1 by omega]; omega
  · have g1 := rn_min (N := N) (w := w) (sg := 1) h (i := a) (to := to) (by omega) c1
    have g2 := rn_dig (N := N) (w := w) (sg := -1) h (i := (a : Int) + 1) (to := to) (by omega) (by omega) hw
    have g3 := rn_dig (N := up N w (N w * 10 + -1 * (T ((a : Int) + 1) - 48))) (w := w) (sg := -1) h (i := (a : Int) + 1 + 1) (to := to) (by omega) (by rw [show (a : Int) + 1 + 1 = a + 2 by omega]; omega) hw
    rw [show (a : Int) + 1 + 1 + 1 = (a : Int) + ((3 : Nat) : Int) by omega, show (a : Int) + 1 + 1 = a + 2 by omega] at g3
    rw [show (a : Int) + 1 + 1 = a + 2 by omega] at g2
    refine ⟨_, -1, ((GO.one g1).tr (GO.one g2)).tr (GO.one g3), ?_, fun v hv => by rw [up_ne _ _ hv, up_ne _ _ hv], ?_⟩
    · rw [up_same, up_same, hN]; omega
    · rw [show (a : Int) + ((3 : Nat) : Int) - 1 = a + 2 by omega]; omega
theorem rn_end {to : Int} (hi : (-2147483648 ≤ to ∧ to ≤ 2147483647)) : RN n C to (JA N, J w, J sg, J to) = some (.inr (JA N)) := by
  unfold RN f_X2_readNumbers_B16
  exact if_pos (by rw [J_le (by omega)]; omega)
/-- the class's numbers of an entry that begins at a -/
theorem w_numbers (h : CT n C T) {l : Nat} (he : ENT T a l d x y) (hl : a + l ≤ n) (nums : Nat → Int32) : WP (f_X2_readNumbers (J n) (JA C) nums (J ((a : Int) + 1)) (J ((a : Int) + l - 1))) (fun r => ∃ R, r = JA R ∧ ((T a = 76 ∧ R 0 = d ∧ R 1 = -x ∧ R 2 = y) ∨ (T a = 79 ∧ R 0 = x ∧ R 1 = y))) := by
  have h60 := h.1
  obtain ⟨N0, rfl, -⟩ := JA_ex nums
  unfold f_X2_readNumbers
  rw [show (0 : Int32) = J 0 from rfl, show (1 : Int32) = J 1 from rfl]
  refine WP.ob (e_fill3 (x := 0)) ?_
  have z0 : ∀ v : Int, 0 ≤ v → v < 3 → FLL 3 0 N0 v = 0 := fun v a b => if_pos ⟨a, b⟩
  generalize FLL 3 0 N0 = N at *
  rcases he with ⟨rfl, e1, ⟨e2, e2b, e2c⟩, e3, e4, ⟨e5, e5b, e5c⟩, e6, ⟨e7, e7b, e7c⟩, e8, e9⟩ | ⟨-, l1, l2, rfl, e1, e2, e3, e4, e5⟩
  · have c1 : CRD T (a + 1) 1 d := Or.inl ⟨rfl, by show 48 ≤ T ((a : Int) + 1); omega, by show T ((a : Int) + 1) ≤ 57; omega, e2c⟩
    have c2 : CRD T (a + 3) 2 (-x) := Or.inr (Or.inr (Or.inl ⟨rfl, e4, by rw [show ((a + 3 : Nat) : Int) + 1 = (a : Int) + 4 by omega]; omega, by rw [show ((a + 3 : Nat) : Int) + 1 = (a : Int) + 4 by omega]; omega, by rw [show ((a + 3 : Nat) : Int) + 1 = (a : Int) + 4 by omega]; omega⟩))
    have c3 : CRD T (a + 6) 1 y := Or.inl ⟨rfl, by show 48 ≤ T ((a : Int) + 6); omega, by show T ((a : Int) + 6) ≤ 57; omega, e7c⟩
    obtain ⟨N1, s1, g1, g2, g3, g4⟩ := rn_crd (to := (a : Int) + 8) (N := N) (w := 0) h c1 (by omega) (by omega) (z0 0 (by omega) (by omega))
    have k1 := rn_sep (N := N1) (w := 0) (sg := s1) (to := (a : Int) + 8) (i := (a : Int) + 2) h (by omega) (by omega) (by rw [show (a : Int) + 2 - 1 = ((a + 1 : Nat) : Int) + ((1 : Nat) : Int) - 1 by omega]; exact g4)
    obtain ⟨N2, s2, i1, i2, i3, i4⟩ := rn_crd (to := (a : Int) + 8) (N := N1) (w := 1) h c2 (by omega) (by omega) (by rw [g3 1 (by omega)]; exact z0 1 (by omega) (by omega))
    have k2 := rn_sep (N := N2) (w := 1) (sg := s2) (to := (a : Int) + 8) (i := (a : Int) + 5) h (by omega) (by omega) (by rw [show (a : Int) + 5 - 1 = ((a + 3 : Nat) : Int) + ((2 : Nat) : Int) - 1 by omega]; exact i4)
    obtain ⟨N3, s3, j1, j2, j3, j4⟩ := rn_crd (to := (a : Int) + 8) (N := N2) (w := 2) h c3 (by omega) (by omega) (by rw [i3 2 (by omega), g3 2 (by omega)]; exact z0 2 (by omega) (by omega))
    have k3 := rn_sep (N := N3) (w := 2) (sg := s3) (to := (a : Int) + 8) (i := (a : Int) + 7) h (by omega) (by omega) (by rw [show (a : Int) + 7 - 1 = ((a + 6 : Nat) : Int) + ((1 : Nat) : Int) - 1 by omega]; exact j4)
    rw [show ((a + 1 : Nat) : Int) + ((1 : Nat) : Int) = (a : Int) + 2 by omega] at g1
    rw [show ((a + 3 : Nat) : Int) + ((2 : Nat) : Int) = (a : Int) + 5 by omega] at i1
    rw [show ((a + 6 : Nat) : Int) + ((1 : Nat) : Int) = (a : Int) + 7 by omega] at j1
    rw [show (a : Int) + 2 + 1 = ((a + 3 : Nat) : Int) by omega] at k1
    rw [show (a : Int) + 5 + 1 = ((a + 6 : Nat) : Int) by omega] at k2
    rw [show (a : Int) + 7 + 1 = (a : Int) + 8 by omega] at k3
    have go := ((((g1.tr (GO.one k1)).tr i1).tr (GO.one k2)).tr j1).tr (GO.one k3)
    have fin := go.fin (rn_end (by omega)) (by omega)
    rw [show (a : Int) + ((9 : Nat) : Int) - 1 = (a : Int) + 8 by omega]
    refine WP.ob fin (WP.ret ⟨N3, rfl, Or.inl ⟨e1, ?_, ?_, j2⟩⟩)
    · rw [j3 0 (by omega), i3 0 (by omega), g2]
    · rw [j3 1 (by omega), i2]
  · have b1 := CRD_b e2
    have b2 := CRD_b e4
    obtain ⟨N1, s1, g1, g2, g3, g4⟩ := rn_crd (to := (a : Int) + 2 + l1 + l2) (N := N) (w := 0) h e2 (by omega) (by omega) (z0 0 (by omega) (by omega))
    have k1 := rn_sep (N := N1) (w := 0) (sg := s1) (to := (a : Int) + 2 + l1 + l2) (i := (a : Int) + 1 + l1) h (by omega) (by rw [show (a : Int) + 1 + l1 = ((a + 1 + l1 : Nat) : Int) by omega, e3]; omega) (by rw [show (a : Int) + 1 + l1 - 1 = ((a + 1 : Nat) : Int) + (l1 : Int) - 1 by omega]; exact g4)
    obtain ⟨N2, s2, i1, i2, i3, i4⟩ := rn_crd (to := (a : Int) + 2 + l1 + l2) (N := N1) (w := 1) h e4 (by omega) (by omega) (by rw [g3 1 (by omega)]; exact z0 1 (by omega) (by omega))
    rw [show ((a + 1 : Nat) : Int) + (l1 : Int) = (a : Int) + 1 + l1 by omega] at g1
    rw [show (a : Int) + 1 + l1 + 1 = ((a + 2 + l1 : Nat) : Int) by omega] at k1
    rw [show ((a + 2 + l1 : Nat) : Int) + (l2 : Int) = (a : Int) + 2 + l1 + l2 by omega] at i1
    have go := (g1.tr (GO.one k1)).tr i1
    have fin := go.fin (rn_end (by omega)) (by omega)
    rw [show (a : Int) + ((4 + l1 + l2 - 1 : Nat) : Int) - 1 = (a : Int) + 2 + l1 + l2 by omega]
    refine WP.ob fin (WP.ret ⟨N2, rfl, Or.inr ⟨e1, ?_, i2⟩⟩)
    rw [i3 0 (by omega), g2]
/-- no semicolon but at the end of an entry -/
theorem CRD_semi {l : Nat} (hc : CRD T a l x) {j : Int} (hj : a ≤ j ∧ j < (a : Int) + l) : ¬ T j = 59 := by
  intro h
  rcases hc with ⟨rfl, c1, c2, -⟩ | ⟨rfl, c1, c2, -⟩ | ⟨rfl, c1, c2, c3, -⟩ | ⟨rfl, c1, c2, c3, -⟩
  · have e : j = a := by omega
    rw [e] at h; omega
  · have e : j = a ∨ j = a + 1 := by omega
    rcases e with e | e <;> (rw [e] at h; omega)
  · have e : j = a ∨ j = a + 1 := by omega
    rcases e with e | e <;> (rw [e] at h; omega)
  · have e : j = a ∨ j = a + 1 ∨ j = a + 2 := by omega
    rcases e with e | e | e <;> (rw [e] at h; omega)
theorem ENT_semi {l : Nat} (he : ENT T a l d x y) {j : Int} (hj : a ≤ j ∧ j < (a : Int) + l - 1) : ¬ T j = 59 := by
  rcases he with ⟨rfl, e1, ⟨e2, e2b, e2c⟩, e3, e4, ⟨e5, e5b, e5c⟩, e6, ⟨e7, e7b, e7c⟩, e8, e9⟩ | ⟨-, l1, l2, rfl, e1, e2, e3, e4, e5⟩
  · intro h
    have e : j = a ∨ j = a + 1 ∨ j = a + 2 ∨ j = a + 3 ∨ j = a + 4 ∨ j = a + 5 ∨ j = a + 6 ∨ j = a + 7 := by omega
    rcases e with e | e | e | e | e | e | e | e <;> (rw [e] at h; omega)
  · have b1 := CRD_b e2
    have b2 := CRD_b e4
    by_cases z1 : j = a
    · rw [z1, e1]; omega
    · by_cases z2 : j < (a : Int) + 1 + l1
      · exact CRD_semi e2 (by omega)
      · by_cases z3 : j = (a : Int) + 1 + l1
        · rw [z3, show (a : Int) + 1 + l1 = ((a + 1 + l1 : Nat) : Int) by omega, e3]; omega
        · exact CRD_semi e4 (by omega)
theorem ENT_end {l : Nat} (he : ENT T a l d x y) : T ((a : Int) + l - 1) = 59 := by
  rcases he with ⟨rfl, e1, ⟨e2, e2b, e2c⟩, e3, e4, ⟨e5, e5b, e5c⟩, e6, ⟨e7, e7b, e7c⟩, e8, e9⟩ | ⟨-, l1, l2, rfl, e1, e2, e3, e4, e5⟩
  · rw [show (a : Int) + ((9 : Nat) : Int) - 1 = (a : Int) + 8 by omega]; exact e9
  · have b1 := CRD_b e2
    have b2 := CRD_b e4
    rw [show (a : Int) + ((4 + l1 + l2 - 1 : Nat) : Int) - 1 = ((a + 2 + l1 + l2 : Nat) : Int) by omega]; exact e5
end
