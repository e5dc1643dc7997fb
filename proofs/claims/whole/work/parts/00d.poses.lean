/-! numbers of values, products, numbers of poses and their digits: integers alone -/
def WL (G : Int → Int) : Prop := (0 ≤ G 0 ∧ G 0 ≤ 4) ∧ ∀ k : Int, 0 ≤ k → k < G 0 → (1 ≤ G (1 + 4 * k) ∧ G (1 + 4 * k) ≤ 5) ∧ (0 ≤ G (2 + 4 * k) ∧ G (2 + 4 * k) ≤ 8) ∧ (0 ≤ G (3 + 4 * k) ∧ G (3 + 4 * k) ≤ 8)
def nn (G : Int → Int) : Nat := (G 0).toNat
def VV (G : Int → Int) (k : Int) : Int := G (2 + 4 * k) + G (3 + 4 * k) + 1
def PW (G : Int → Int) (a : Int) : Nat → Int
  | 0 => 1
  | j + 1 => PW G a j * VV G (a + j)
def HN (G v : Int → Int) : Nat → Int
  | 0 => 0
  | k + 1 => HN G v k * VV G k + v k + G (2 + 4 * k)
def LD (G : Int → Int) (n : Nat) (p : Int) : Nat → Int
  | 0 => p
  | i + 1 => LD G n p i / VV G ((n : Int) - 1 - i)
def DV (G : Int → Int) (p k : Int) : Int := LD G (nn G) p (nn G - 1 - k.toNat) % VV G k - G (2 + 4 * k)
def PS (G : Int → Int) (p : Int) (F : Int → Int) : Int → Int := fun i => if 0 ≤ i ∧ i < G 0 then DV G p i else F i
def LIM (G v : Int → Int) : Prop := ∀ k : Int, 0 ≤ k → k < G 0 → -G (2 + 4 * k) ≤ v k ∧ v k ≤ G (3 + 4 * k)
def BH (G : Int → Int) (p m : Int) : Int :=
  if 0 ≤ (p / PW G (m / 2 + 1) (nn G - 1 - (m / 2).toNat) % VV G (m / 2) + (if m % 2 = 0 then -1 else 1)) ∧ (p / PW G (m / 2 + 1) (nn G - 1 - (m / 2).toNat) % VV G (m / 2) + (if m % 2 = 0 then -1 else 1)) < VV G (m / 2) then p + (if m % 2 = 0 then -1 else 1) * PW G (m / 2 + 1) (nn G - 1 - (m / 2).toNat) else -1
section
variable {G v : Int → Int}
theorem nn_eq (h : WL G) : (nn G : Int) = G 0 := Int.toNat_of_nonneg h.1.1
theorem VV_b (h : WL G) {k : Int} (h0 : 0 ≤ k) (h1 : k < G 0) : 1 ≤ VV G k ∧ VV G k ≤ 17 := by
  have := h.2 k h0 h1
  unfold VV
  omega
theorem PW_b (h : WL G) {a : Int} (h0 : 0 ≤ a) : ∀ j : Nat, a + j ≤ G 0 → 1 ≤ PW G a j ∧ PW G a j ≤ 17 ^ j
  | 0, _ => by
    show 1 ≤ (1 : Int) ∧ (1 : Int) ≤ 17 ^ 0
    decide
  | j + 1, h1 => by
    have h2 := PW_b h h0 j (by omega)
    have h3 := VV_b h (k := a + j) (by omega) (by omega)
    show 1 ≤ PW G a j * VV G (a + j) ∧ PW G a j * VV G (a + j) ≤ 17 ^ (j + 1)
    have h4 : (1 : Int) * 1 ≤ PW G a j * VV G (a + j) := Int.mul_le_mul h2.1 h3.1 (by decide) (by omega)
    have h5 : PW G a j * VV G (a + j) ≤ 17 ^ j * 17 := Int.mul_le_mul h2.2 h3.2 (by omega) (by omega)
    rw [Int.pow_succ]
    omega
theorem PW_r (h : WL G) {a : Int} (h0 : 0 ≤ a) (j : Nat) (h1 : a + j ≤ G 0) : 1 ≤ PW G a j ∧ PW G a j ≤ 83521 := by
  have h2 := PW_b h h0 j h1
  have h3 := h.1
  have h4 : j = 0 ∨ j = 1 ∨ j = 2 ∨ j = 3 ∨ j = 4 := by omega
  rcases h4 with e | e | e | e | e <;> subst e <;> refine ⟨h2.1, Int.le_trans h2.2 (by decide)⟩
theorem PW_front (G : Int → Int) (a : Int) : ∀ j : Nat, PW G a (j + 1) = VV G a * PW G (a + 1) j
  | 0 => by
    show PW G a 0 * VV G (a + (0 : Nat)) = VV G a * 1
    show 1 * VV G (a + (0 : Nat)) = VV G a * 1
    rw [show a + ((0 : Nat) : Int) = a by omega]
    omega
  | j + 1 => by
    show PW G a (j + 1) * VV G (a + ((j + 1 : Nat) : Int)) = VV G a * (PW G (a + 1) j * VV G (a + 1 + j))
    rw [PW_front G a j, show a + ((j + 1 : Nat) : Int) = a + 1 + j by omega, Int.mul_assoc]
theorem HN_congr {w : Int → Int} : ∀ n : Nat, (∀ k : Int, 0 ≤ k → k < n → v k = w k) → HN G v n = HN G w n
  | 0, _ => rfl
  | n + 1, h => by
    show HN G v n * VV G n + v n + G (2 + 4 * n) = HN G w n * VV G n + w n + G (2 + 4 * n)
    rw [HN_congr n (fun k h0 h1 => h k h0 (by omega)), h n (by omega) (by omega)]
theorem HN_b (hl : WL G) (h : LIM G v) : ∀ n : Nat, (n : Int) ≤ G 0 → 0 ≤ HN G v n ∧ HN G v n < PW G 0 n
  | 0, _ => by
    show 0 ≤ (0 : Int) ∧ (0 : Int) < 1
    decide
  | n + 1, hn => by
    have h1 := HN_b hl h n (by omega)
    have h2 := VV_b hl (k := n) (by omega) (by omega)
    have h3 := h n (by omega) (by omega)
    show 0 ≤ HN G v n * VV G n + v n + G (2 + 4 * n) ∧ HN G v n * VV G n + v n + G (2 + 4 * n) < PW G 0 n * VV G (0 + n)
    rw [Int.zero_add]
    have h4 : (HN G v n) * VV G n ≤ (PW G 0 n - 1) * VV G n := Int.mul_le_mul_of_nonneg_right (by omega) (by omega)
    rw [Int.sub_mul] at h4
    have h5 : 0 ≤ HN G v n * VV G n := Int.mul_nonneg h1.1 (by omega)
    have h6 : VV G n = G (2 + 4 * n) + G (3 + 4 * n) + 1 := rfl
    omega
theorem LD_b (hl : WL G) {p : Int} (hp : 0 ≤ p ∧ p < PW G 0 (nn G)) : ∀ i : Nat, i ≤ nn G → 0 ≤ LD G (nn G) p i ∧ LD G (nn G) p i < PW G 0 (nn G - i)
  | 0, _ => hp
  | i + 1, h => by
    have h1 := LD_b hl hp i (by omega)
    have h2 := nn_eq hl
    have h3 := VV_b hl (k := (nn G : Int) - 1 - i) (by omega) (by omega)
    show 0 ≤ LD G (nn G) p i / VV G ((nn G : Int) - 1 - i) ∧ LD G (nn G) p i / VV G ((nn G : Int) - 1 - i) < PW G 0 (nn G - (i + 1))
    obtain ⟨m, hm⟩ : ∃ m, nn G - i = m + 1 := ⟨nn G - i - 1, by omega⟩
    have hm2 : nn G - (i + 1) = m := by omega
    rw [hm] at h1
    rw [hm2]
    have h4 : PW G 0 (m + 1) = PW G 0 m * VV G ((nn G : Int) - 1 - i) := by
      show PW G 0 m * VV G (0 + m) = _
      rw [show (0 : Int) + (m : Int) = (nn G : Int) - 1 - i by omega]
    rw [h4] at h1
    exact ⟨Int.ediv_nonneg h1.1 (by omega), Int.ediv_lt_of_lt_mul (by omega) h1.2⟩
theorem DV_at (hl : WL G) (p : Int) {k : Nat} (hk : k < nn G) : DV G p k = LD G (nn G) p (nn G - 1 - k) % VV G k - G (2 + 4 * k) := rfl
theorem DV_lim (hl : WL G) (p : Int) : LIM G (DV G p) := by
  intro k h0 h1
  have h2 := VV_b hl h0 h1
  have h3 := Int.emod_nonneg (LD G (nn G) p (nn G - 1 - k.toNat)) (b := VV G k) (by omega)
  have h4 := Int.emod_lt_of_pos (LD G (nn G) p (nn G - 1 - k.toNat)) (b := VV G k) (by omega)
  have h6 : VV G k = G (2 + 4 * k) + G (3 + 4 * k) + 1 := rfl
  unfold DV
  omega
theorem HN_DV0 (hl : WL G) {p : Int} (hp : 0 ≤ p ∧ p < PW G 0 (nn G)) : ∀ j : Nat, j ≤ nn G → HN G (DV G p) j = LD G (nn G) p (nn G - j)
  | 0, _ => by
    have h1 := LD_b hl hp (nn G) (Nat.le_refl _)
    have h2 : PW G 0 (nn G - nn G) = 1 := by rw [Nat.sub_self]; rfl
    show 0 = LD G (nn G) p (nn G - 0)
    rw [Nat.sub_zero]
    omega
  | j + 1, h => by
    have h1 := HN_DV0 hl hp j (by omega)
    have h2 := nn_eq hl
    show HN G (DV G p) j * VV G j + DV G p j + G (2 + 4 * j) = LD G (nn G) p (nn G - (j + 1))
    rw [h1]
    obtain ⟨i, hi⟩ : ∃ i, nn G - j = i + 1 := ⟨nn G - j - 1, by omega⟩
    have hi2 : nn G - (j + 1) = i := by omega
    have hi3 : nn G - 1 - ((j : Int)).toNat = i := by omega
    rw [hi, hi2]
    show LD G (nn G) p i / VV G ((nn G : Int) - 1 - i) * VV G j + (LD G (nn G) p (nn G - 1 - ((j : Int)).toNat) % VV G j - G (2 + 4 * j)) + G (2 + 4 * j) = LD G (nn G) p i
    rw [hi3, show (nn G : Int) - 1 - i = j by omega]
    have := Int.ediv_mul_add_emod (LD G (nn G) p i) (VV G j)
    omega
theorem HN_DV (hl : WL G) {p : Int} (hp : 0 ≤ p ∧ p < PW G 0 (nn G)) : HN G (DV G p) (nn G) = p := by
  rw [HN_DV0 hl hp _ (Nat.le_refl _), Nat.sub_self]
  rfl
theorem LD_HN (hl : WL G) (h : LIM G v) : ∀ i : Nat, i ≤ nn G → LD G (nn G) (HN G v (nn G)) i = HN G v (nn G - i)
  | 0, _ => rfl
  | i + 1, hi => by
    have h1 := LD_HN hl h i (by omega)
    have h2 := nn_eq hl
    show LD G (nn G) (HN G v (nn G)) i / VV G ((nn G : Int) - 1 - i) = HN G v (nn G - (i + 1))
    rw [h1]
    obtain ⟨m, hm⟩ : ∃ m, nn G - i = m + 1 := ⟨nn G - i - 1, by omega⟩
    have hm2 : nn G - (i + 1) = m := by omega
    rw [hm, hm2, show (nn G : Int) - 1 - i = m by omega]
    have h3 := VV_b hl (k := m) (by omega) (by omega)
    have h4 := h m (by omega) (by omega)
    have h6 : VV G m = G (2 + 4 * m) + G (3 + 4 * m) + 1 := rfl
    show (HN G v m * VV G m + v m + G (2 + 4 * m)) / VV G m = HN G v m
    rw [Int.add_assoc, Int.add_comm, Int.add_mul_ediv_right _ _ (by omega), Int.ediv_eq_zero_of_lt (by omega) (by omega)]
    omega
theorem DV_HN (hl : WL G) (h : LIM G v) {k : Int} (h0 : 0 ≤ k) (h1 : k < G 0) : DV G (HN G v (nn G)) k = v k := by
  have h2 := nn_eq hl
  obtain ⟨m, rfl⟩ : ∃ m : Nat, k = m := ⟨k.toNat, by omega⟩
  show LD G (nn G) (HN G v (nn G)) (nn G - 1 - ((m : Int)).toNat) % VV G m - G (2 + 4 * m) = v m
  rw [LD_HN hl h _ (by omega), show nn G - (nn G - 1 - ((m : Int)).toNat) = m + 1 by omega]
  have h3 := VV_b hl (k := m) (by omega) (by omega)
  have h4 := h m (by omega) (by omega)
  have h6 : VV G m = G (2 + 4 * m) + G (3 + 4 * m) + 1 := rfl
  show (HN G v m * VV G m + v m + G (2 + 4 * m)) % VV G m - G (2 + 4 * m) = v m
  rw [Int.add_assoc, Int.add_comm (HN G v m * VV G m), Int.add_mul_emod_self_right, Int.emod_eq_of_lt (by omega) (by omega)]
  omega
theorem LD_w (hl : WL G) (p : Int) : ∀ i : Nat, i ≤ nn G → p / PW G ((nn G : Int) - i) i = LD G (nn G) p i
  | 0, _ => Int.ediv_one p
  | i + 1, hi => by
    have h2 := nn_eq hl
    have h1 := LD_w hl p i (by omega)
    show p / PW G ((nn G : Int) - ((i + 1 : Nat) : Int)) (i + 1) = LD G (nn G) p i / VV G ((nn G : Int) - 1 - i)
    rw [PW_front, ← h1, show (nn G : Int) - ((i + 1 : Nat) : Int) + 1 = (nn G : Int) - i by omega, show (nn G : Int) - ((i + 1 : Nat) : Int) = (nn G : Int) - 1 - i by omega, Int.mul_comm]
    have h3 := PW_b hl (a := (nn G : Int) - i) (by omega) i (by omega)
    rw [Int.ediv_ediv_of_nonneg (by omega)]
theorem dig_w (hl : WL G) (p : Int) {k : Int} (h0 : 0 ≤ k) (h1 : k < G 0) : p / PW G (k + 1) (nn G - 1 - k.toNat) % VV G k = DV G p k + G (2 + 4 * k) := by
  have h2 := nn_eq hl
  have h3 := LD_w hl p (nn G - 1 - k.toNat) (by omega)
  rw [show (nn G : Int) - ((nn G - 1 - k.toNat : Nat) : Int) = k + 1 by omega] at h3
  rw [h3]
  unfold DV
  omega
theorem HN_up (k : Nat) (t : Int) : ∀ i : Nat, HN G (up v k (v k + t)) (k + 1 + i) = HN G v (k + 1 + i) + t * PW G (k + 1) i
  | 0 => by
    show HN G (up v k (v k + t)) k * VV G k + up v k (v k + t) k + G (2 + 4 * k) = HN G v k * VV G k + v k + G (2 + 4 * k) + t * 1
    rw [up_same, HN_congr (w := v) k (fun j h0 h1 => up_ne _ _ (by omega))]
    omega
  | i + 1 => by
    have h1 := HN_up k t i
    show HN G (up v k (v k + t)) (k + 1 + i) * VV G ((k + 1 + i : Nat) : Int) + up v k (v k + t) ((k + 1 + i : Nat) : Int) + G (2 + 4 * ((k + 1 + i : Nat) : Int)) = HN G v (k + 1 + i) * VV G ((k + 1 + i : Nat) : Int) + v ((k + 1 + i : Nat) : Int) + G (2 + 4 * ((k + 1 + i : Nat) : Int)) + t * (PW G (k + 1) i * VV G ((k : Int) + 1 + i))
    rw [h1, up_ne _ _ (by omega), show ((k + 1 + i : Nat) : Int) = (k : Int) + 1 + i by omega, Int.add_mul, Int.mul_assoc t]
    omega
theorem HN_upn (hl : WL G) {k : Int} (h0 : 0 ≤ k) (h1 : k < G 0) (t : Int) : HN G (up v k (v k + t)) (nn G) = HN G v (nn G) + t * PW G (k + 1) (nn G - 1 - k.toNat) := by
  have h2 := nn_eq hl
  obtain ⟨m, rfl⟩ : ∃ m : Nat, k = m := ⟨k.toNat, by omega⟩
  have h3 := HN_up (G := G) (v := v) m t (nn G - 1 - m)
  rw [show m + 1 + (nn G - 1 - m) = nn G by omega] at h3
  exact h3
end
/-! moves on numbers -/
def TU (m : Int) : Int := if m % 2 = 0 then -1 else 1
def RV (m : Int) : Int := if m % 2 = 0 then m + 1 else m - 1
section
variable {G v : Int → Int}
theorem TU_b (m : Int) : TU m = -1 ∨ TU m = 1 := by
  unfold TU
  by_cases q : m % 2 = 0
  · rw [if_pos q]; exact Or.inl rfl
  · rw [if_neg q]; exact Or.inr rfl
theorem TU_RV (m : Int) : TU (RV m) = -TU m ∧ RV m / 2 = m / 2 := by
  unfold TU RV
  by_cases q : m % 2 = 0
  · rw [if_pos q, if_pos q, if_neg (by omega)]; omega
  · rw [if_neg q, if_neg q, if_pos (by omega)]; omega
theorem RV_b {m : Int} {n : Int} (h0 : 0 ≤ m) (h1 : m < 2 * n) : 0 ≤ RV m ∧ RV m < 2 * n := by
  unfold RV
  by_cases q : m % 2 = 0
  · rw [if_pos q]; omega
  · rw [if_neg q]; omega
theorem RV_RV (m : Int) : RV (RV m) = m := by
  unfold RV
  by_cases q : m % 2 = 0
  · rw [if_pos q, if_neg (by omega)]; omega
  · rw [if_neg q, if_pos (by omega)]; omega
theorem BH_eq (hl : WL G) (p m : Int) (h0 : 0 ≤ m / 2) (h1 : m / 2 < G 0) : BH G p m = if -G (2 + 4 * (m / 2)) ≤ DV G p (m / 2) + TU m ∧ DV G p (m / 2) + TU m ≤ G (3 + 4 * (m / 2)) then p + TU m * PW G (m / 2 + 1) (nn G - 1 - (m / 2).toNat) else -1 := by
  unfold BH
  rw [dig_w hl p h0 h1]
  show (if 0 ≤ DV G p (m / 2) + G (2 + 4 * (m / 2)) + TU m ∧ DV G p (m / 2) + G (2 + 4 * (m / 2)) + TU m < VV G (m / 2) then _ else _) = _
  have h6 : VV G (m / 2) = G (2 + 4 * (m / 2)) + G (3 + 4 * (m / 2)) + 1 := rfl
  by_cases q : -G (2 + 4 * (m / 2)) ≤ DV G p (m / 2) + TU m ∧ DV G p (m / 2) + TU m ≤ G (3 + 4 * (m / 2))
  · rw [if_pos q, if_pos (by omega)]; rfl
  · rw [if_neg q, if_neg (by omega)]
theorem LIM_up (h : LIM G v) {k x : Int} (hx : -G (2 + 4 * k) ≤ x ∧ x ≤ G (3 + 4 * k)) : LIM G (up v k x) := by
  intro j h0 h1
  by_cases q : j = k
  · subst q; rw [up_same]; exact hx
  · rw [up_ne _ _ q]; exact h j h0 h1
theorem BH_in (hl : WL G) (h : LIM G v) {m : Int} (h0 : 0 ≤ m) (h1 : m < 2 * G 0) (hx : -G (2 + 4 * (m / 2)) ≤ v (m / 2) + TU m ∧ v (m / 2) + TU m ≤ G (3 + 4 * (m / 2))) : BH G (HN G v (nn G)) m = HN G (up v (m / 2) (v (m / 2) + TU m)) (nn G) := by
  rw [BH_eq hl _ _ (by omega) (by omega), DV_HN hl h (by omega) (by omega), if_pos hx, HN_upn hl (by omega) (by omega)]
theorem BH_out (hl : WL G) (h : LIM G v) {m : Int} (h0 : 0 ≤ m) (h1 : m < 2 * G 0) (hx : ¬ (-G (2 + 4 * (m / 2)) ≤ v (m / 2) + TU m ∧ v (m / 2) + TU m ≤ G (3 + 4 * (m / 2)))) : BH G (HN G v (nn G)) m = -1 := by
  rw [BH_eq hl _ _ (by omega) (by omega), DV_HN hl h (by omega) (by omega), if_neg hx]
theorem BH_to (hl : WL G) {p m : Int} (hp : 0 ≤ p ∧ p < PW G 0 (nn G)) (h0 : 0 ≤ m) (h1 : m < 2 * G 0) (hq : 0 ≤ BH G p m) :
    (-G (2 + 4 * (m / 2)) ≤ DV G p (m / 2) + TU m ∧ DV G p (m / 2) + TU m ≤ G (3 + 4 * (m / 2))) ∧ BH G p m = HN G (up (DV G p) (m / 2) (DV G p (m / 2) + TU m)) (nn G) := by
  have h2 := BH_eq hl p m (by omega) (by omega)
  by_cases q : -G (2 + 4 * (m / 2)) ≤ DV G p (m / 2) + TU m ∧ DV G p (m / 2) + TU m ≤ G (3 + 4 * (m / 2))
  · refine ⟨q, ?_⟩
    have h3 := BH_in hl (DV_lim hl p) h0 h1 q
    rw [HN_DV hl hp] at h3
    exact h3
  · rw [if_neg q] at h2
    omega
theorem BH_b (hl : WL G) {p m : Int} (hp : 0 ≤ p ∧ p < PW G 0 (nn G)) (h0 : 0 ≤ m) (h1 : m < 2 * G 0) (hq : 0 ≤ BH G p m) : BH G p m < PW G 0 (nn G) := by
  obtain ⟨h2, h3⟩ := BH_to hl hp h0 h1 hq
  rw [h3]
  have h4 := nn_eq hl
  exact (HN_b hl (LIM_up (DV_lim hl p) h2) (nn G) (by omega)).2
theorem BH_DV (hl : WL G) {p m : Int} (hp : 0 ≤ p ∧ p < PW G 0 (nn G)) (h0 : 0 ≤ m) (h1 : m < 2 * G 0) (hq : 0 ≤ BH G p m) {k : Int} (k0 : 0 ≤ k) (k1 : k < G 0) : DV G (BH G p m) k = up (DV G p) (m / 2) (DV G p (m / 2) + TU m) k := by
  obtain ⟨h2, h3⟩ := BH_to hl hp h0 h1 hq
  rw [h3]
  exact DV_HN hl (LIM_up (DV_lim hl p) h2) k0 k1
theorem BH_lt (hl : WL G) {p m : Int} (h0 : 0 ≤ m) (h1 : m < 2 * G 0) (hp : 0 ≤ p ∧ p < PW G 0 (nn G)) : -1 ≤ BH G p m := by
  have h2 := BH_eq hl p m (by omega) (by omega)
  by_cases q : -G (2 + 4 * (m / 2)) ≤ DV G p (m / 2) + TU m ∧ DV G p (m / 2) + TU m ≤ G (3 + 4 * (m / 2))
  · have h3 := BH_in hl (DV_lim hl p) h0 h1 q
    rw [HN_DV hl hp] at h3
    rw [h3]
    have h4 := nn_eq hl
    have := (HN_b hl (LIM_up (DV_lim hl p) q) (nn G) (by omega)).1
    omega
  · rw [if_neg q] at h2
    omega
theorem BH_RV (hl : WL G) {p m : Int} (hp : 0 ≤ p ∧ p < PW G 0 (nn G)) (h0 : 0 ≤ m) (h1 : m < 2 * G 0) (hq : 0 ≤ BH G p m) : BH G (BH G p m) (RV m) = p := by
  obtain ⟨h2, h3⟩ := BH_to hl hp h0 h1 hq
  have h4 := RV_b h0 h1
  have h5 := TU_RV m
  have h6 := DV_lim hl p (m / 2) (by omega) (by omega)
  have h7 : up (DV G p) (m / 2) (DV G p (m / 2) + TU m) (RV m / 2) + TU (RV m) = DV G p (m / 2) := by
    rw [h5.2, h5.1, up_same]; omega
  rw [h3, BH_in hl (LIM_up (DV_lim hl p) h2) h4.1 h4.2 (by rw [h7, h5.2]; exact h6), h7, h5.2]
  refine Eq.trans (HN_congr _ fun k k0 k1 => ?_) (HN_DV hl hp)
  by_cases q : k = m / 2
  · rw [q, up_same]
  · rw [up_ne _ _ q, up_ne _ _ q]
end
