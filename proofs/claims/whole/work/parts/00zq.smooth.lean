/-! the smooth path: integers alone, and the class's weights -/
def FAM (f : Nat → Int) : Nat → Nat
  | 0 => 0
  | k + 1 => if f (k + 1) < f (FAM f k) then k + 1 else FAM f k
noncomputable def UT (nb : Int → Int → Int) (D : Int → Int) : Nat → Int → Int → Int
  | 0, _, _ => 0
  | d + 1, p, b => (fun f : Nat → Int => f (FAM f 7)) (fun m : Nat => (@ite Int (NR nb D p m) (Classical.propDecidable _) (UT nb D d (nb p m) m) 1000000) + (if (m : Int) = b then 0 else 1))
noncomputable def WGT (nb : Int → Int → Int) (D : Int → Int) (p : Int) (m : Nat) : Int := @ite Int (NR nb D p m) (Classical.propDecidable _) (UT nb D (D p - 1).toNat (nb p m) m) 1000000
noncomputable def WB (nb : Int → Int → Int) (D : Int → Int) (p b : Int) (m : Nat) : Int := WGT nb D p m + (if (m : Int) = b then 0 else 1)
noncomputable def SM (nb : Int → Int → Int) (D : Int → Int) (p b : Int) : Nat := FAM (WB nb D p b) 7
noncomputable def SPP (nb : Int → Int → Int) (D : Int → Int) (p : Int) : Nat → Int × Int
  | 0 => (p, 8)
  | k + 1 => (nb (SPP nb D p k).1 (SM nb D (SPP nb D p k).1 (SPP nb D p k).2), SM nb D (SPP nb D p k).1 (SPP nb D p k).2)
noncomputable def SST (nb : Int → Int → Int) (D : Int → Int) (p : Int) (F : Int → Int) (k : Nat) : Int → Int := fun j => if 0 ≤ j ∧ j < k then SM nb D (SPP nb D p j.toNat).1 (SPP nb D p j.toNat).2 else F j
def NDN (N : Int) (nb : Int → Int → Int) (D : Int → Int) : Prop := (∀ p : Int, 0 ≤ p → p < N → -1 ≤ D p ∧ D p < N) ∧ (∀ p : Int, 0 ≤ p → p < N → 0 < D p → ∃ m : Nat, m < 8 ∧ NR nb D p m) ∧ ∀ (p : Int) (m : Nat), 0 ≤ p → p < N → m < 8 → 0 ≤ nb p m → nb p m < N ∧ (0 ≤ D p → 0 ≤ D (nb p m))
section
variable {G sp st T A C D E F Q : Int → Int} {N p q d b : Int} {m c : Nat} {s t : BS} {pr : Int → Bool} {nb : Int → Int → Int}
theorem FAM_ok (f : Nat → Int) : ∀ k : Nat, FAM f k ≤ k ∧ (∀ j : Nat, j ≤ k → f (FAM f k) ≤ f j) ∧ ∀ j : Nat, j < FAM f k → f (FAM f k) < f j
  | 0 => ⟨Nat.le_refl _, fun j hj => by have : j = 0 := by omega
                                        subst this; exact Int.le_refl _, fun j hj => absurd hj (Nat.not_lt_zero j)⟩
  | k + 1 => by
    obtain ⟨a, b, c⟩ := FAM_ok f k
    show (if f (k + 1) < f (FAM f k) then k + 1 else FAM f k) ≤ k + 1 ∧ (∀ j : Nat, j ≤ k + 1 → f (if f (k + 1) < f (FAM f k) then k + 1 else FAM f k) ≤ f j) ∧ ∀ j : Nat, j < (if f (k + 1) < f (FAM f k) then k + 1 else FAM f k) → f (if f (k + 1) < f (FAM f k) then k + 1 else FAM f k) < f j
    by_cases z : f (k + 1) < f (FAM f k)
    · rw [if_pos z]
      refine ⟨Nat.le_refl _, fun j hj => ?_, fun j hj => ?_⟩
      · by_cases w : j = k + 1
        · rw [w]; exact Int.le_refl _
        · have := b j (by omega); omega
      · have := b j (by omega); omega
    · rw [if_neg z]
      refine ⟨by omega, fun j hj => ?_, c⟩
      by_cases w : j = k + 1
      · rw [w]; omega
      · exact b j (by omega)
theorem FAM_congr {f g : Nat → Int} : ∀ k : Nat, (∀ j : Nat, j ≤ k → f j = g j) → FAM f k = FAM g k
  | 0, _ => rfl
  | k + 1, h => by
    have h1 := FAM_congr k (fun j hj => h j (by omega))
    have h2 := (FAM_ok g k).1
    show (if f (k + 1) < f (FAM f k) then k + 1 else FAM f k) = (if g (k + 1) < g (FAM g k) then k + 1 else FAM g k)
    rw [h1, h (k + 1) (Nat.le_refl _), h (FAM g k) (by omega)]
theorem WG_y (h : NR nb D p m) : WGT nb D p m = UT nb D (D p - 1).toNat (nb p m) m := if_pos h
theorem WG_n (h : ¬ NR nb D p m) : WGT nb D p m = 1000000 := if_neg h
theorem UT_s {d : Nat} (h : D p = (d : Int) + 1) : UT nb D (d + 1) p b = WB nb D p b (SM nb D p b) := by
  have e : (fun m : Nat => (@ite Int (NR nb D p m) (Classical.propDecidable _) (UT nb D d (nb p m) m) 1000000) + (if (m : Int) = b then 0 else 1)) = WB nb D p b := by
    funext m
    unfold WB WGT
    rw [show (D p - 1).toNat = d by omega]
  show (fun f : Nat → Int => f (FAM f 7)) (fun m : Nat => (@ite Int (NR nb D p m) (Classical.propDecidable _) (UT nb D d (nb p m) m) 1000000) + (if (m : Int) = b then 0 else 1)) = _
  rw [e]
  rfl
theorem b01 (m : Nat) (b : Int) : 0 ≤ (if (m : Int) = b then (0 : Int) else 1) ∧ (if (m : Int) = b then (0 : Int) else 1) ≤ 1 := by
  by_cases z : (m : Int) = b
  · rw [if_pos z]; omega
  · rw [if_neg z]; omega
theorem UT_b (h : NDN N nb D) : ∀ (d : Nat) (p b : Int), 0 ≤ p → p < N → D p = d → 0 ≤ UT nb D d p b ∧ UT nb D d p b ≤ d
  | 0, p, b, _, _, _ => ⟨Int.le_refl _, Int.le_refl _⟩
  | d + 1, p, b, h0, h1, hd => by
    rw [UT_s (by omega)]
    have hk : ∀ m : Nat, m < 8 → NR nb D p m → 0 ≤ WGT nb D p m ∧ WGT nb D p m ≤ d := by
      intro m hm hn
      have h3 := (h.2.2 p m h0 h1 hm hn.1).1
      have h4 := hn.2
      rw [WG_y hn, show (D p - 1).toNat = d by omega]
      exact UT_b h d _ _ hn.1 h3 (by omega)
    obtain ⟨a1, a2, a3⟩ := FAM_ok (WB nb D p b) 7
    obtain ⟨m, hm, hn⟩ := h.2.1 p h0 h1 (by omega)
    have h5 := a2 m (by omega)
    have h6 := hk m hm hn
    have h7 := b01 m b
    have h8 : WB nb D p b m = WGT nb D p m + (if (m : Int) = b then 0 else 1) := rfl
    show 0 ≤ WB nb D p b (FAM (WB nb D p b) 7) ∧ WB nb D p b (FAM (WB nb D p b) 7) ≤ ((d + 1 : Nat) : Int)
    refine ⟨?_, by omega⟩
    have h9 := b01 (FAM (WB nb D p b) 7) b
    have hx : WB nb D p b (FAM (WB nb D p b) 7) = WGT nb D p (FAM (WB nb D p b) 7) + (if ((FAM (WB nb D p b) 7 : Nat) : Int) = b then 0 else 1) := rfl
    by_cases z : NR nb D p (FAM (WB nb D p b) 7)
    · have := hk _ (by omega) z
      omega
    · rw [WG_n z] at hx
      omega
theorem WG_b (h : NDN N nb D) (h0 : 0 ≤ p ∧ p < N) (hd : 0 ≤ D p) (hm : m < 8) : 0 ≤ WGT nb D p m ∧ WGT nb D p m ≤ 1000000 ∨ 5000 < N := by
  by_cases z5 : 5000 < N
  · exact Or.inr z5
  refine Or.inl ?_
  by_cases z : NR nb D p m
  · have h3 := h.2.2 p m h0.1 h0.2 hm z.1
    have h4 := z.2
    have h5 := h.1 p h0.1 h0.2
    have h6 := h3.2 hd
    have := UT_b h (D p - 1).toNat (nb p m) m z.1 h3.1 (by omega)
    rw [WG_y z]
    omega
  · rw [WG_n z]; omega
theorem WB_b (h : NDN N nb D) (hN : N ≤ 5000) (h0 : 0 ≤ p ∧ p < N) (hd : 0 ≤ D p) (hm : m < 8) (b : Int) : 0 ≤ WB nb D p b m ∧ WB nb D p b m ≤ 1000001 := by
  have h1 := b01 m b
  have h2 : WB nb D p b m = WGT nb D p m + (if (m : Int) = b then 0 else 1) := rfl
  rcases WG_b h h0 hd hm with h3 | h3
  · omega
  · omega
theorem SM_ok (h : NDN N nb D) (hN : N ≤ 5000) (h0 : 0 ≤ p ∧ p < N) (hd : 0 < D p) (b : Int) : SM nb D p b < 8 ∧ NR nb D p (SM nb D p b) ∧ (∀ j : Nat, j < 8 → NR nb D p j → WB nb D p b (SM nb D p b) ≤ WB nb D p b j) ∧ (∀ j : Nat, j < SM nb D p b → NR nb D p j → WB nb D p b (SM nb D p b) < WB nb D p b j) ∧ nb p (SM nb D p b) < N := by
  obtain ⟨a1, a2, a3⟩ := FAM_ok (WB nb D p b) 7
  obtain ⟨m, hm, hn⟩ := h.2.1 p h0.1 h0.2 hd
  have h3 := h.2.2 p m h0.1 h0.2 hm hn.1
  have h4 := hn.2
  have h5 := h.1 p h0.1 h0.2
  have h6 := UT_b h (D p - 1).toNat (nb p m) m hn.1 h3.1 (by omega)
  have h7 := b01 m b
  have h8 : WB nb D p b m = WGT nb D p m + (if (m : Int) = b then 0 else 1) := rfl
  rw [WG_y hn] at h8
  have h9 := a2 m (by omega)
  have hb : NR nb D p (SM nb D p b) := by
    refine Classical.byContradiction fun z => ?_
    have hx : WB nb D p b (SM nb D p b) = WGT nb D p (SM nb D p b) + (if ((SM nb D p b : Nat) : Int) = b then 0 else 1) := rfl
    rw [WG_n z] at hx
    have hy := b01 (SM nb D p b) b
    have hz : WB nb D p b (SM nb D p b) ≤ WB nb D p b m := h9
    omega
  have a1 : SM nb D p b ≤ 7 := a1
  exact ⟨by omega, hb, fun j hj _ => a2 j (by omega), fun j hj _ => a3 j hj, (h.2.2 p _ h0.1 h0.2 (by omega) hb.1).1⟩
theorem SM_18 (nb : Int → Int → Int) (D : Int → Int) (p : Int) : SM nb D p (-1) = SM nb D p 8 := by
  refine FAM_congr 7 fun j hj => ?_
  unfold WB
  rw [if_neg (by omega), if_neg (by omega)]
theorem SST_s (k : Nat) : up (SST nb D p F k) k (SM nb D (SPP nb D p k).1 (SPP nb D p k).2) = SST nb D p F (k + 1) := by
  funext j
  unfold SST
  by_cases q : j = k
  · rw [q, up_same, if_pos (by omega), Int.toNat_natCast]
  · rw [up_ne _ _ q]
    by_cases q2 : 0 ≤ j ∧ j < k
    · rw [if_pos q2, if_pos (by omega)]
    · rw [if_neg q2, if_neg (by omega)]
theorem SST_0 : SST nb D p F 0 = F := funext fun j => if_neg (by omega)
theorem SPP_in (h : NDN N nb D) (hN : N ≤ 5000) (h0 : 0 ≤ p ∧ p < N) : ∀ k : Nat, (k : Int) ≤ D p → (0 ≤ (SPP nb D p k).1 ∧ (SPP nb D p k).1 < N) ∧ D (SPP nb D p k).1 = D p - k ∧ 0 ≤ (SPP nb D p k).2 ∧ (SPP nb D p k).2 ≤ 8
  | 0, _ => ⟨h0, by show D p = D p - ((0 : Nat) : Int); omega, by show (0 : Int) ≤ 8; omega, by show (8 : Int) ≤ 8; omega⟩
  | k + 1, hk => by
    have h1 := SPP_in h hN h0 k (by omega)
    obtain ⟨a, b, c, e, f⟩ := SM_ok h hN h1.1 (by omega) (SPP nb D p k).2
    refine ⟨⟨b.1, f⟩, ?_, ?_⟩
    · show D (nb (SPP nb D p k).1 (SM nb D (SPP nb D p k).1 (SPP nb D p k).2)) = _
      rw [b.2]; omega
    · show 0 ≤ ((SM nb D (SPP nb D p k).1 (SPP nb D p k).2 : Nat) : Int) ∧ ((SM nb D (SPP nb D p k).1 (SPP nb D p k).2 : Nat) : Int) ≤ 8
      omega
theorem NDN_SR (hl : WL G) (hp : ∀ p : Int, pr p = true → 0 ≤ TP G p) : NDN (NP G) (NB G) (SR G pr).1 := by
  obtain ⟨a1, a2, a3⟩ := SR_ok hl pr hp
  refine ⟨fun p h0 h1 => ?_, fun p h0 h1 h2 => ?_, fun p m h0 h1 h2 h3 => ?_⟩
  · have := SR_d hl hp ⟨h0, h1⟩; omega
  · obtain ⟨m, m1, m2, m3, m4⟩ := SR_near hl hp ⟨h0, h1⟩ h2
    exact ⟨m, m1, m2, m4⟩
  · refine ⟨NB_n hl p m h0 h1 (by omega) (by omega) h3, fun h4 => ?_⟩
    obtain ⟨j, j1, j2⟩ := (a1.2.1 p h0 h1).2 h4
    have h5 := a2.2.2.1 j m j1 j1 (by omega) (by omega)
    rw [j2] at h5
    exact h5 h3
/-! the class -/
theorem e_weightBehind (h : NDN N nb D) (hN : N ≤ 5000) (h0 : 0 ≤ p ∧ p < N) (hd : 0 ≤ D p) (hC : ∀ j : Nat, j < 8 → C (8 * p + j) = WGT nb D p j) (hm : m < 8) (hb : (-2147483648 ≤ b ∧ b ≤ 2147483647)) : f_X5_weightBehind (J N) (JA C) (J p) (J m) (J b) = some (J (WB nb D p b m)) := by
  have h1 := hC m hm
  unfold f_X5_weightBehind WB
  refine ob _ (e_isPose1 (by omega)) ?_
  rw [if_neg (by decide), show (0 : Int32) = J 0 from rfl, show (8 : Int32) = J 8 from rfl, show (1 : Int32) = J 1 from rfl, if_neg (by rw [J_lt (by omega)]; omega), if_pos (by rw [J_lt (by omega)]; omega), J_mul, J_add, show p * 8 + (m : Int) = 8 * p + m by omega, JG (by omega), JA_get _ (by omega), h1]
  by_cases z : (m : Int) = b
  · rw [if_pos (congrArg J z), if_pos z, J_add]
  · rw [if_neg (by rw [J_eqv (by omega)]; exact z), if_neg z, J_add]
theorem e_smoothest (h : NDN N nb D) (hN : N ≤ 5000) (h0 : 0 ≤ p ∧ p < N) (hd : 0 ≤ D p) (hC : ∀ j : Nat, j < 8 → C (8 * p + j) = WGT nb D p j) (hb : (-2147483648 ≤ b ∧ b ≤ 2147483647)) : f_X5_smoothest (J N) (JA C) (J p) (J b) = some (J (SM nb D p b)) := by
  unfold f_X5_smoothest
  refine lp_bind (fun k : Nat => (J (FAM (WB nb D p b) k), J ((k : Int) + 1))) 7 rfl (by omega) (fun k hk => ?_) (e := J (SM nb D p b)) ?_ rfl
  · obtain ⟨a1, a2, a3⟩ := FAM_ok (WB nb D p b) k
    have h1 := WB_b h hN h0 hd (m := k + 1) (by omega) b
    have h2 := WB_b h hN h0 hd (m := FAM (WB nb D p b) k) (by omega) b
    have h3 : f_X5_weightBehind (J N) (JA C) (J p) (J ((k : Int) + 1)) (J b) = some (J (WB nb D p b (k + 1))) := e_weightBehind h hN h0 hd hC (m := k + 1) (by omega) hb
    unfold f_X5_smoothest_B5
    dsimp only
    rw [if_neg (by rw [show (8 : Int32) = J 8 from rfl, J_le (by omega)]; omega)]
    refine ob _ h3 ?_
    refine ob _ (e_weightBehind h hN h0 hd hC (by omega) hb) ?_
    simp only [LET]
    rw [show (1 : Int32) = J 1 from rfl, J_add]
    by_cases z : WB nb D p b (k + 1) < WB nb D p b (FAM (WB nb D p b) k)
    · rw [if_neg (by rw [J_le (by omega)]; omega), show FAM (WB nb D p b) (k + 1) = k + 1 from if_pos z]
      rfl
    · rw [if_pos (by rw [J_le (by omega)]; omega), show FAM (WB nb D p b) (k + 1) = FAM (WB nb D p b) k from if_neg z]
      rfl
  · unfold f_X5_smoothest_B5
    exact if_pos (show (8 : Int32) ≤ J 8 from by decide)
theorem e_weigh5 (hl : WL G) (hN : NP G ≤ 5000) (hsp : SPN G sp st) (hT : ∀ q : Int, 0 ≤ q → q < NP G → T q = TP G q) (hE : ∀ q : Int, 0 ≤ q → q < NP G → E q = D q) (h : NDN (NP G) (NB G) D) (h0 : 0 ≤ p ∧ p < NP G) (hd : 0 ≤ D p) (hm : m < 8) (hC : NR (NB G) D p m → 0 < D (NB G p m) → ∀ j : Nat, j < 8 → C (8 * NB G p m + j) = WGT (NB G) D (NB G p m) j) :
    f_X5_weight (J (NP G)) (J (G 0)) (JA sp) (JA st) (JA T) (JA E) (JA C) (J p) (J m) = some (J (WGT (NB G) D p m)) := by
  have hP := NP_b hl
  have hD : ∀ q : Int, 0 ≤ q → q < NP G → -1 ≤ D q ∧ D q ≤ 5000 := fun q a b => by have := h.1 q a b; omega
  have hn := e_nearer hl hN hsp hT hE hD h0 hm
  unfold f_X5_weight
  by_cases z : NR (NB G) D p m
  · refine ob _ (hn.1 z) ?_
    have h3 := h.2.2 p m h0.1 h0.2 hm z.1
    have h4 := h3.2 hd
    have h5 := h.1 p h0.1 h0.2
    have z1 := z.1
    have z2 := z.2
    rw [if_pos (by rw [show (0 : Int32) = J 0 from rfl, J_le (by omega)]; exact z.1)]
    refine ob _ (e_distanceOf (by omega)) ?_
    rw [hE _ z.1 h3.1, WG_y z]
    by_cases y : D (NB G p m) = 0
    · rw [if_pos (by rw [y]; rfl), show (D p - 1).toNat = 0 by omega]
      rfl
    · have hC := hC z (by omega)
      rw [if_neg (by rw [show (0 : Int32) = J 0 from rfl, J_eqv (by omega)]; exact y)]
      refine ob _ (e_smoothest h hN ⟨z1, h3.1⟩ (by omega) hC (by omega)) ?_
      obtain ⟨a, -⟩ := SM_ok h hN ⟨z1, h3.1⟩ (by omega) m
      refine ob _ (e_weightBehind h hN ⟨z1, h3.1⟩ (by omega) hC a (by omega)) ?_
      obtain ⟨d, hd2⟩ : ∃ d : Nat, (D p - 1).toNat = d + 1 := ⟨(D p - 1).toNat - 1, by omega⟩
      rw [hd2, UT_s (by omega)]
  · refine ob _ (hn.2 z) ?_
    rw [WG_n z]
    rfl
/-- the places that lie in the queue ahead have been weighed -/
def DON (nb : Int → Int → Int) (D Q C : Int → Int) (i : Nat) : Prop := ∀ (j : Nat), j < i → ∀ m : Nat, m < 8 → C (8 * Q j + m) = WGT nb D (Q j) m
theorem near_ahead (hs : OK N s) (h : SV N nb c s) (hD : NDN N nb s.1) {i : Nat} (hi : i < s.2.2) (hm : m < 8) (hn : NR nb s.1 (s.2.1 i) m) : ∃ j : Nat, j < i ∧ s.2.1 j = nb (s.2.1 i) m := by
  have h1 := hs.1 i hi
  have h2 := hD.2.2 _ m h1.1.1 h1.1.2 hm hn.1
  obtain ⟨j, j1, j2⟩ := (hs.2.1 _ hn.1 h2.1).2 (h2.2 h1.2.1)
  refine ⟨j, ?_, j2⟩
  rcases Nat.lt_or_ge j i with y | y
  · exact y
  · have h3 := h.1 i j y j1
    rw [j2] at h3
    have h4 := hn.2
    omega
end
