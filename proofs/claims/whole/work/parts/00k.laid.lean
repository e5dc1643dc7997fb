/-! where the links lie -/
def SX (d : Int) : Int := if d = 0 ∨ d = 1 ∨ d = 7 then 1 else if d = 2 ∨ d = 6 then 0 else -1
def SY (d : Int) : Int := if d = 0 ∨ d = 4 then 0 else if 4 ≤ d then -1 else 1
def SU (v : Int → Int) : Nat → Int
  | 0 => 0
  | k + 1 => SU v k + v k
def WY (v : Int → Int) (k : Nat) : Int := SU v (k + 1) % 8
def PX (G v : Int → Int) : Nat → Int
  | 0 => 0
  | k + 1 => PX G v k + G (1 + 4 * k) * SX (WY v k)
def PY (G v : Int → Int) : Nat → Int
  | 0 => 0
  | k + 1 => PY G v k + G (1 + 4 * k) * SY (WY v k)
def CX (G v : Int → Int) (k : Nat) (i : Int) : Int := PX G v k + i * SX (WY v k)
def CY (G v : Int → Int) (k : Nat) (i : Int) : Int := PY G v k + i * SY (WY v k)
def LAID (G v way px py : Int → Int) : Prop := (∀ k : Nat, (k : Int) < G 0 → way k = WY v k) ∧ ∀ k : Nat, (k : Int) ≤ G 0 → px k = PX G v k ∧ py k = PY G v k
def OUT (G v : Int → Int) (k : Nat) : Prop := ¬ ((-10 ≤ PX G v k ∧ PX G v k ≤ 10) ∧ -10 ≤ PY G v k ∧ PY G v k ≤ 10) ∨ ¬ ((-10 ≤ PX G v (k + 1) ∧ PX G v (k + 1) ≤ 10) ∧ -10 ≤ PY G v (k + 1) ∧ PY G v (k + 1) ≤ 10)
def HIT (G v : Int → Int) (k : Nat) : Prop := ∃ i : Int, (0 ≤ i ∧ i ≤ G (1 + 4 * k)) ∧ OS G (CX G v k i) (CY G v k i)
def HAS (G v : Int → Int) (k : Nat) (x y : Int) : Prop := ∃ i : Int, (0 ≤ i ∧ i ≤ G (1 + 4 * k)) ∧ CX G v k i = x ∧ CY G v k i = y
def CRA (G v : Int → Int) (k a : Nat) : Prop := ∃ i : Int, (0 ≤ i ∧ i ≤ G (1 + 4 * k)) ∧ HAS G v a (CX G v k i) (CY G v k i) ∧ ¬ (k = a + 1 ∧ PX G v k = CX G v k i ∧ PY G v k = CY G v k i)
def CRS (G v : Int → Int) (k : Nat) : Prop := ∃ a : Nat, a < k ∧ CRA G v k a
def FS (G v : Int → Int) (f : Int) (l : Nat) : Prop :=
  (f = 0 ∧ ∀ j : Nat, j < nn G → ¬ OUT G v j ∧ ¬ HIT G v j ∧ ¬ CRS G v j) ∨ (f = 1 ∧ l < nn G ∧ OUT G v l ∧ ∀ j : Nat, j < l → ¬ OUT G v j)
  ∨ (f = 2 ∧ (∀ j : Nat, j < nn G → ¬ OUT G v j) ∧ l < nn G ∧ HIT G v l ∧ ∀ j : Nat, j < l → ¬ HIT G v j)
  ∨ (f = 3 ∧ (∀ j : Nat, j < nn G → ¬ OUT G v j ∧ ¬ HIT G v j) ∧ l < nn G ∧ CRS G v l ∧ ∀ j : Nat, j < l → ¬ CRS G v j)
section
variable {G v way px py F : Int → Int}
theorem SXY (d : Int) (h : 0 ≤ d ∧ d < 8) : (SX d = 1 ∧ SY d = 0) ∨ (SX d = 1 ∧ SY d = 1) ∨ (SX d = 0 ∧ SY d = 1) ∨ (SX d = -1 ∧ SY d = 1) ∨ (SX d = -1 ∧ SY d = 0) ∨ (SX d = -1 ∧ SY d = -1) ∨ (SX d = 0 ∧ SY d = -1) ∨ (SX d = 1 ∧ SY d = -1) := by
  have h1 : d = 0 ∨ d = 1 ∨ d = 2 ∨ d = 3 ∨ d = 4 ∨ d = 5 ∨ d = 6 ∨ d = 7 := by omega
  rcases h1 with e | e | e | e | e | e | e | e <;> subst e <;> decide
theorem WY_b (v : Int → Int) (k : Nat) : 0 ≤ WY v k ∧ WY v k < 8 := by
  unfold WY
  omega
theorem CX_0 (G v : Int → Int) (k : Nat) : CX G v k 0 = PX G v k ∧ CY G v k 0 = PY G v k := by
  unfold CX CY
  rw [Int.zero_mul, Int.zero_mul, Int.add_zero, Int.add_zero]
  exact ⟨rfl, rfl⟩
theorem CX_n (G v : Int → Int) (k : Nat) : CX G v k (G (1 + 4 * k)) = PX G v (k + 1) ∧ CY G v k (G (1 + 4 * k)) = PY G v (k + 1) := ⟨rfl, rfl⟩
theorem CX_s (G v : Int → Int) (k : Nat) (i : Int) : CX G v k (i + 1) = CX G v k i + SX (WY v k) ∧ CY G v k (i + 1) = CY G v k i + SY (WY v k) := by
  unfold CX CY
  rw [Int.add_mul, Int.add_mul, Int.one_mul, Int.one_mul]
  omega
theorem CX_ne (G v : Int → Int) (k : Nat) {i j : Int} (h : CX G v k i = CX G v k j ∧ CY G v k i = CY G v k j) : i = j := by
  unfold CX CY at h
  rcases SXY _ (WY_b v k) with ⟨a, b⟩ | ⟨a, b⟩ | ⟨a, b⟩ | ⟨a, b⟩ | ⟨a, b⟩ | ⟨a, b⟩ | ⟨a, b⟩ | ⟨a, b⟩ <;> rw [a, b] at h <;> omega
theorem CX_b (G v : Int → Int) (k : Nat) {i : Int} (h : 0 ≤ i ∧ i ≤ 5) : (PX G v k - 5 ≤ CX G v k i ∧ CX G v k i ≤ PX G v k + 5) ∧ PY G v k - 5 ≤ CY G v k i ∧ CY G v k i ≤ PY G v k + 5 := by
  unfold CX CY
  rcases SXY _ (WY_b v k) with ⟨a, b⟩ | ⟨a, b⟩ | ⟨a, b⟩ | ⟨a, b⟩ | ⟨a, b⟩ | ⟨a, b⟩ | ⟨a, b⟩ | ⟨a, b⟩ <;> rw [a, b] <;> omega
theorem PX_b (hl : WL G) (v : Int → Int) : ∀ k : Nat, (k : Int) ≤ G 0 → (-5 * (k : Int) ≤ PX G v k ∧ PX G v k ≤ 5 * (k : Int)) ∧ -5 * (k : Int) ≤ PY G v k ∧ PY G v k ≤ 5 * (k : Int)
  | 0, _ => by
    show (-5 * ((0 : Nat) : Int) ≤ 0 ∧ (0 : Int) ≤ 5 * ((0 : Nat) : Int)) ∧ -5 * ((0 : Nat) : Int) ≤ 0 ∧ (0 : Int) ≤ 5 * ((0 : Nat) : Int)
    omega
  | k + 1, h => by
    have h1 := PX_b hl v k (by omega)
    have h2 := hl.2 k (by omega) (by omega)
    have h3 := CX_b G v k (i := G (1 + 4 * k)) (by omega)
    have h4 := CX_n G v k
    rw [h4.1, h4.2] at h3
    omega
theorem CX_r (hl : WL G) (v : Int → Int) {k : Nat} (hk : (k : Int) < G 0) {i : Int} (h : 0 ≤ i ∧ i ≤ 5) : (-25 ≤ CX G v k i ∧ CX G v k i ≤ 25) ∧ -25 ≤ CY G v k i ∧ CY G v k i ≤ 25 := by
  have h0 := hl.1
  have h1 := PX_b hl v k (by omega)
  have h2 := CX_b G v k h
  omega
theorem e_stepX8 {d : Int} (h : 0 ≤ d ∧ d < 8) : f_X8_stepX (J d) = some (J (SX d)) := by
  have h1 : d = 0 ∨ d = 1 ∨ d = 2 ∨ d = 3 ∨ d = 4 ∨ d = 5 ∨ d = 6 ∨ d = 7 := by omega
  rcases h1 with e | e | e | e | e | e | e | e <;> subst e <;> rfl
theorem e_stepY8 {d : Int} (h : 0 ≤ d ∧ d < 8) : f_X8_stepY (J d) = some (J (SY d)) := by
  have h1 : d = 0 ∨ d = 1 ∨ d = 2 ∨ d = 3 ∨ d = 4 ∨ d = 5 ∨ d = 6 ∨ d = 7 := by omega
  rcases h1 with e | e | e | e | e | e | e | e <;> subst e <;> rfl
theorem e_stepX7 {d : Int} (h : 0 ≤ d ∧ d < 8) : stepX (J d).toNatClampNeg = J (SX d) := by
  have h1 : d = 0 ∨ d = 1 ∨ d = 2 ∨ d = 3 ∨ d = 4 ∨ d = 5 ∨ d = 6 ∨ d = 7 := by omega
  rcases h1 with e | e | e | e | e | e | e | e <;> subst e <;> rfl
theorem e_stepY7 {d : Int} (h : 0 ≤ d ∧ d < 8) : stepY (J d).toNatClampNeg = J (SY d) := by
  have h1 : d = 0 ∨ d = 1 ∨ d = 2 ∨ d = 3 ∨ d = 4 ∨ d = 5 ∨ d = 6 ∨ d = 7 := by omega
  rcases h1 with e | e | e | e | e | e | e | e <;> subst e <;> rfl
/-! the reference lays a pose -/
def WYf (G v : Int → Int) (n : Nat) (F : Int → Int) : Int → Int := fun j => if 0 ≤ j ∧ j < n then WY v j.toNat else F j
def PXf (G v : Int → Int) (n : Nat) (F : Int → Int) : Int → Int := fun j => if 1 ≤ j ∧ j ≤ n then PX G v j.toNat else F j
def PYf (G v : Int → Int) (n : Nat) (F : Int → Int) : Int → Int := fun j => if 1 ≤ j ∧ j ≤ n then PY G v j.toNat else F j
theorem WYf_0 (G v F : Int → Int) : WYf G v 0 F = F := by
  funext j
  exact if_neg (by omega)
theorem PXf_0 (G v F : Int → Int) : PXf G v 0 F = F ∧ PYf G v 0 F = F := by
  refine ⟨?_, ?_⟩ <;> funext j <;> exact if_neg (by omega)
theorem WYf_s (G v F : Int → Int) (k : Nat) : up (WYf G v k F) k (WY v k) = WYf G v (k + 1) F := by
  funext j
  unfold WYf
  by_cases q : j = k
  · rw [q, up_same, if_pos (by omega), Int.toNat_natCast]
  · rw [up_ne _ _ q]
    by_cases q2 : 0 ≤ j ∧ j < k
    · rw [if_pos q2, if_pos (by omega)]
    · rw [if_neg q2, if_neg (by omega)]
theorem PXf_s (G v F : Int → Int) (k : Nat) : up (PXf G v k F) (k + 1) (PX G v (k + 1)) = PXf G v (k + 1) F ∧ up (PYf G v k F) (k + 1) (PY G v (k + 1)) = PYf G v (k + 1) F := by
  unfold PXf PYf
  refine ⟨?_, ?_⟩
  · funext j
    by_cases q : j = (k : Int) + 1
    · rw [q, up_same, if_pos (by omega)]
      exact congrArg (PX G v) (by omega)
    · rw [up_ne _ _ q]
      by_cases q2 : 1 ≤ j ∧ j ≤ k
      · rw [if_pos q2, if_pos (by omega)]
      · rw [if_neg q2, if_neg (by omega)]
  · funext j
    by_cases q : j = (k : Int) + 1
    · rw [q, up_same, if_pos (by omega)]
      exact congrArg (PY G v) (by omega)
    · rw [up_ne _ _ q]
      by_cases q2 : 1 ≤ j ∧ j ≤ k
      · rw [if_pos q2, if_pos (by omega)]
      · rw [if_neg q2, if_neg (by omega)]
theorem PXf_at (hx : px 0 = 0) (k : Nat) : PXf G v k px k = PX G v k := by
  unfold PXf
  by_cases q : 1 ≤ (k : Int) ∧ (k : Int) ≤ k
  · rw [if_pos q, Int.toNat_natCast]
  · rw [if_neg q]
    have h1 : k = 0 := by omega
    subst h1
    exact hx
theorem PYf_at (hx : py 0 = 0) (k : Nat) : PYf G v k py k = PY G v k := by
  unfold PYf
  by_cases q : 1 ≤ (k : Int) ∧ (k : Int) ≤ k
  · rw [if_pos q, Int.toNat_natCast]
  · rw [if_neg q]
    have h1 : k = 0 := by omega
    subst h1
    exact hx
theorem e_lays (hl : WL G) (hx : px 0 = 0) (hy : py 0 = 0) : f_X8_lays (JA G) (JA v) (JA way) (JA px) (JA py) = some (JA (WYf G v (nn G) way), JA (PXf G v (nn G) px), JA (PYf G v (nn G) py)) := by
  have h0 := hl.1
  have h1 := nn_eq hl
  unfold f_X8_lays
  refine lp_bind (fun k : Nat => (JA (WYf G v k way), JA (PXf G v k px), JA (PYf G v k py), J (SU v k), J k)) (nn G) ?_ (by omega) (fun k hk => ?_) (e := (JA (WYf G v (nn G) way), JA (PXf G v (nn G) px), JA (PYf G v (nn G) py))) ?_ rfl
  · rw [WYf_0, (PXf_0 G v px).1, (PXf_0 G v py).2]
    rfl
  · have h2 : (SU v k + v k) % 8 = WY v k := rfl
    have h3 := WY_b v k
    have h4 : PX G v k + G (1 + 4 * k) * SX (WY v k) = PX G v (k + 1) := rfl
    have h5 : PY G v k + G (1 + 4 * k) * SY (WY v k) = PY G v (k + 1) := rfl
    have h6 : WYf G v (k + 1) way k = WY v k := by
      rw [← WYf_s, up_same]
    have h7 := PXf_s G v px k
    have h8 := PXf_s G v py k
    have h9 : SU v (k + 1) = SU v k + v k := rfl
    unfold f_X8_lays_B4
    simp (disch := omega) only [↓reduceIte, j_lits, J_add, J_sub, J_mul, J_neg, J_le, J_lt, J_eqv, J_div, J_imax, J_imin, JA_get, JG, JA_upd, LET, Option.bind_some, lt_T, lt_F, le_T, le_F, eq_T, eq_F, and_true, true_and, Int.sub_neg, Int.natCast_add, n_lits, J_and7, h2, WYf_s, e_lengthOf, h6, e_stepX8, e_stepY8, PXf_at hx, PYf_at hy, h4, h5, h7.1, h8.2, h9]
  · unfold f_X8_lays_B4
    simp (disch := omega) only [↓reduceIte, j_lits, J_add, J_sub, J_mul, J_neg, J_le, J_lt, J_eqv, J_div, J_imax, J_imin, JA_get, JG, JA_upd, LET, Option.bind_some, lt_T, lt_F, le_T, le_F, eq_T, eq_F, and_true, true_and, Int.sub_neg, Int.natCast_add, n_lits]
theorem laid_of (hl : WL G) (hx : px 0 = 0) (hy : py 0 = 0) : LAID G v (WYf G v (nn G) way) (PXf G v (nn G) px) (PYf G v (nn G) py) ∧ PXf G v (nn G) px 0 = 0 ∧ PYf G v (nn G) py 0 = 0 := by
  have h1 := nn_eq hl
  have h2 : PXf G v (nn G) px 0 = 0 := (if_neg (by omega)).trans hx
  have h3 : PYf G v (nn G) py 0 = 0 := (if_neg (by omega)).trans hy
  refine ⟨⟨fun k hk => ?_, fun k hk => ?_⟩, h2, h3⟩
  · unfold WYf
    rw [if_pos (by omega), Int.toNat_natCast]
  · by_cases q : k = 0
    · subst q
      exact ⟨h2, h3⟩
    · unfold PXf PYf
      rw [if_pos (by omega), if_pos (by omega), Int.toNat_natCast]
      exact ⟨rfl, rfl⟩
def NOWi (G F : Int → Int) (n : Nat) : Int → Int := fun j => if 0 ≤ j ∧ j < n then G (4 + 4 * j) else F j
theorem e_now (hl : WL G) (hx : px 0 = 0) (hy : py 0 = 0) : ∃ F' way' px' py', f_X8_now (JA G) (JA F) (JA way) (JA px) (JA py) = some (JA F', JA way', JA px', JA py') ∧ (∀ k : Int, 0 ≤ k → k < G 0 → F' k = GV G k) ∧ LAID G F' way' px' py' ∧ px' 0 = 0 ∧ py' 0 = 0 := by
  have h0 := hl.1
  have h1 := nn_eq hl
  have h2 := laid_of (G := G) (v := NOWi G F (nn G)) (way := way) hl hx hy
  refine ⟨NOWi G F (nn G), _, _, _, ?_, fun k k0 k1 => if_pos (by omega), h2.1, h2.2.1, h2.2.2⟩
  unfold f_X8_now
  refine lp_bind (fun k : Nat => (JA (NOWi G F k), J k)) (nn G) ?_ (by omega) (fun k hk => ?_) (e := JA (NOWi G F (nn G))) ?_ ?_
  · refine pr2 (congrArg JA (funext fun j => ?_)) rfl
    exact (if_neg (by omega)).symm
  · have e1 : up (NOWi G F k) k (G (4 + 4 * k)) = NOWi G F (k + 1) := by
      funext j
      unfold NOWi
      by_cases q : j = k
      · rw [q, up_same, if_pos (by omega)]
      · rw [up_ne _ _ q]
        by_cases q2 : 0 ≤ j ∧ j < k
        · rw [if_pos q2, if_pos (by omega)]
        · rw [if_neg q2, if_neg (by omega)]
    unfold f_X8_now_B2
    simp (disch := omega) only [↓reduceIte, j_lits, J_add, J_sub, J_mul, J_neg, J_le, J_lt, J_eqv, J_div, J_imax, J_imin, JA_get, JG, JA_upd, LET, Option.bind_some, lt_T, lt_F, le_T, le_F, eq_T, eq_F, and_true, true_and, Int.sub_neg, Int.natCast_add, n_lits, e1]
  · unfold f_X8_now_B2
    simp (disch := omega) only [↓reduceIte, j_lits, J_add, J_sub, J_mul, J_neg, J_le, J_lt, J_eqv, J_div, J_imax, J_imin, JA_get, JG, JA_upd, LET, Option.bind_some, lt_T, lt_F, le_T, le_F, eq_T, eq_F, and_true, true_and, Int.sub_neg, Int.natCast_add, n_lits]
  · exact ob _ (e_lays hl hx hy) rfl
theorem e_takes {p : Int} (hl : WL G) (hx : px 0 = 0) (hy : py 0 = 0) (hp : 0 ≤ p ∧ p < NP G) : ∃ F' way' px' py', f_X8_takes (JA G) (JA F) (JA way) (JA px) (JA py) (J p) = some (JA F', JA way', JA px', JA py') ∧ (∀ k : Int, 0 ≤ k → k < G 0 → F' k = DV G p k) ∧ LAID G F' way' px' py' ∧ px' 0 = 0 ∧ py' 0 = 0 := by
  have h0 := hl.1
  have h1 := nn_eq hl
  have hN := NP_b hl
  have h2 := laid_of (G := G) (v := PS G p F) (way := way) hl hx hy
  refine ⟨PS G p F, _, _, _, ?_, fun k k0 k1 => if_pos ⟨k0, k1⟩, h2.1, h2.2.1, h2.2.2⟩
  unfold f_X8_takes
  simp (disch := omega) only [↓reduceIte, j_lits, J_add, J_sub, J_mul, J_neg, J_le, J_lt, J_eqv, J_div, J_imax, J_imin, JA_get, JG, JA_upd, LET, Option.bind_some, lt_T, lt_F, le_T, le_F, eq_T, eq_F, and_true, true_and, Int.sub_neg, Int.natCast_add, n_lits]
  refine lp_bind (fun i : Nat => (JA (PSi G p F i), J (LD G (nn G) p i), J ((nn G : Int) - 1 - i))) (nn G) ?_ (by omega) (fun i hi => ?_) (e := JA (PS G p F)) ?_ ?_
  · rw [PSi_0]
    exact pr2 rfl (pr2 rfl (congrArg J (by omega)))
  · have h3 := LD_b hl hp i (by omega)
    have h5 := VV_b hl (k := (nn G : Int) - 1 - i) (by omega) (by omega)
    have h6 := PW_r hl (Int.le_refl 0) (nn G - i) (by omega)
    have h4 := (DV_i G p hi).symm
    unfold f_X8_takes_B11
    simp (disch := omega) only [↓reduceIte, j_lits, J_add, J_sub, J_mul, J_neg, J_le, J_lt, J_eqv, J_div, J_imax, J_imin, JA_get, JG, JA_upd, LET, Option.bind_some, lt_T, lt_F, le_T, le_F, eq_T, eq_F, and_true, true_and, Int.sub_neg, Int.natCast_add, n_lits, e_values, e_down, JN, J_mod, h4, PSi_s, LDs]
    exact congrArg some (congrArg Sum.inl (pr2 rfl (pr2 rfl (congrArg J (by omega)))))
  · unfold f_X8_takes_B11
    simp (disch := omega) only [↓reduceIte, j_lits, J_add, J_sub, J_mul, J_neg, J_le, J_lt, J_eqv, J_div, J_imax, J_imin, JA_get, JG, JA_upd, LET, Option.bind_some, lt_T, lt_F, le_T, le_F, eq_T, eq_F, and_true, true_and, Int.sub_neg, Int.natCast_add, n_lits, PSi_n hl]
  · exact ob _ (e_lays hl hx hy) rfl
end
