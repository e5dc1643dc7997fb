/-! planToName -/
section
variable {ss : Nat → Int32} {aa : Nat → Nat → Int32} {pl po : Nat → Int32} {pa : Nat → Nat → Nat → Int32} {ms : Nat → Int32} {ma : Nat → Nat → Int32} {G G' D E Q T A B sp st F F' U JO VA NM ND W : Int → Int} {S : Nat → Int → Int} {P : Int → Prop} {X Y M : Nat → Int} {x y w N p q d m c : Int}
def AL (G W : Int → Int) (k : Nat) : Prop := -G (2 + 4 * k) ≤ W k ∧ W k ≤ G (3 + 4 * k)
theorem e_suits1 (hw : WF G) (hs : SC G S) (hc : 0 ≤ c ∧ c < 26) (h1 : U c = 1) (h2 : JO c = G 0) (hV : ∀ k : Nat, k < nn G → VA (4 * c + k) = W k ∧ -8 ≤ W k ∧ W k ≤ 8) (hA : ∀ k : Nat, k < nn G → AL G W k) : f_X0_suits (JA U) (JA JO) (JA VA) (J (G 0)) (JA (S 1)) (JA (S 2)) (J c) = some 1 := by
  have h0 := hw.1.1
  have hn := nn_eq hw.1
  unfold f_X0_suits
  refine ob _ (e_hasN1 hc h1) ?_
  rw [if_neg (by decide), JG (by omega), JA_get _ (by omega), if_pos (congrArg J h2)]
  refine lp_bind (fun k : Nat => J k) (nn G) rfl (by omega) (fun k hk => ?_) (e := Sum.inr ()) ?_ rfl
  · have a := hV k hk
    have b := hA k hk
    unfold f_X0_suits_B25
    rw [if_neg (by rw [J_le (by omega)]; omega), if_neg (by rw [show (4 : Int32) = J 4 from rfl, J_le (by omega)]; omega), show (4 : Int32) = J 4 from rfl, J_mul, J_add, JG (by omega), JA_get _ (by omega), show c * 4 + (k : Int) = 4 * c + k by omega, a.1]
    refine ob _ (e_allows1 hs h0 hw (by omega) b) ?_
    rw [if_neg (by decide)]
    simp only [LET]
    rw [show (1 : Int32) = J 1 from rfl, J_add]
    rfl
  · unfold f_X0_suits_B25
    rw [if_pos (by rw [J_le (by omega)]; omega)]
theorem e_suits0a (hc : 0 ≤ c ∧ c < 26) (h1 : U c = 0) (n : Int32) (lo hi : Nat → Int32) : f_X0_suits (JA U) (JA JO) (JA VA) n lo hi (J c) = some 0 := by
  unfold f_X0_suits
  exact ob _ (e_hasN0 hc h1) rfl
theorem e_suits0b (hc : 0 ≤ c ∧ c < 26) (h1 : U c = 1) (h2 : ¬ JO c = G 0) (hr : (-2147483648 ≤ JO c ∧ JO c ≤ 2147483647)) (hg : (-2147483648 ≤ G 0 ∧ G 0 ≤ 2147483647)) (lo hi : Nat → Int32) : f_X0_suits (JA U) (JA JO) (JA VA) (J (G 0)) lo hi (J c) = some 0 := by
  unfold f_X0_suits
  refine ob _ (e_hasN1 hc h1) ?_
  rw [if_neg (by decide), JG (by omega), JA_get _ (by omega), if_neg (by rw [J_eqv (by omega)]; exact h2)]
theorem e_suits0c (hw : WF G) (hs : SC G S) (hc : 0 ≤ c ∧ c < 26) (h1 : U c = 1) (h2 : JO c = G 0) (hV : ∀ k : Nat, k < nn G → VA (4 * c + k) = W k ∧ -8 ≤ W k ∧ W k ≤ 8) {k0 : Nat} (hk0 : k0 < nn G) (hA : ∀ k : Nat, k < k0 → AL G W k) (hB : ¬ AL G W k0) : f_X0_suits (JA U) (JA JO) (JA VA) (J (G 0)) (JA (S 1)) (JA (S 2)) (J c) = some 0 := by
  have h0 := hw.1.1
  have hn := nn_eq hw.1
  unfold f_X0_suits
  refine ob _ (e_hasN1 hc h1) ?_
  rw [if_neg (by decide), JG (by omega), JA_get _ (by omega), if_pos (congrArg J h2)]
  refine lp_bind (fun k : Nat => J k) k0 rfl (by omega) (fun k hk => ?_) (e := Sum.inl ()) ?_ rfl
  · have a := hV k (by omega)
    have b := hA k hk
    unfold f_X0_suits_B25
    rw [if_neg (by rw [J_le (by omega)]; omega), if_neg (by rw [show (4 : Int32) = J 4 from rfl, J_le (by omega)]; omega), show (4 : Int32) = J 4 from rfl, J_mul, J_add, JG (by omega), JA_get _ (by omega), show c * 4 + (k : Int) = 4 * c + k by omega, a.1]
    refine ob _ (e_allows1 hs h0 hw (by omega) b) ?_
    rw [if_neg (by decide)]
    simp only [LET]
    rw [show (1 : Int32) = J 1 from rfl, J_add]
    rfl
  · have a := hV k0 hk0
    unfold f_X0_suits_B25
    rw [if_neg (by rw [J_le (by omega)]; omega), if_neg (by rw [show (4 : Int32) = J 4 from rfl, J_le (by omega)]; omega), show (4 : Int32) = J 4 from rfl, J_mul, J_add, JG (by omega), JA_get _ (by omega), show c * 4 + (k0 : Int) = 4 * c + k0 by omega, a.1]
    refine ob _ (e_allows0 hs h0 hw (by omega) (by omega) hB) ?_
    rw [if_pos (by rfl)]
theorem e_isNamed1 (hw : WF G) (hc : 0 ≤ c ∧ c < 26) (h2 : NM c = G 0) (hV : ∀ k : Nat, k < nn G → ND (4 * c + k) = W k ∧ -8 ≤ W k ∧ W k ≤ 8) (hA : ∀ k : Nat, k < nn G → AL G W k) : f_X8_isNamed (JA G) (JA NM) (JA ND) (J c) = some (J 1) := by
  have h0 := hw.1.1
  have hn := nn_eq hw.1
  unfold f_X8_isNamed f_X8_isNamed_L20
  rw [JG (by omega), show (0 : Int32) = J 0 from rfl, JG (by omega), JA_get _ (by omega), JA_get _ (by omega), if_pos (congrArg J h2)]
  refine lp_bind (fun k : Nat => (J 1, J k)) (nn G) rfl (by omega) (fun k hk => ?_) (e := J 1) ?_ (if_pos (Or.inr rfl))
  · have a := hV k hk
    have b := hA k hk
    have b : -G (2 + 4 * k) ≤ W k ∧ W k ≤ G (3 + 4 * k) := b
    have e := hw.1.2 k (by omega) (by omega)
    unfold f_X8_isNamed_B23
    dsimp only
    rw [show (0 : Int32) = J 0 from rfl, JG (by omega), JA_get _ (by omega), if_neg (by rw [J_le (by omega)]; omega), if_neg (by decide), show (4 : Int32) = J 4 from rfl, J_mul, J_add, JG (by omega), JA_get _ (by omega), a.1]
    refine ob _ (e_down (by omega)) ?_
    refine ob _ (e_up (by omega)) ?_
    rw [J_neg]
    refine ob _ (e_in1 (by omega)) ?_
    simp only [LET]
    rw [show (1 : Int32) = J 1 from rfl, J_add]
    rfl
  · unfold f_X8_isNamed_B23
    dsimp only
    rw [show (0 : Int32) = J 0 from rfl, JG (by omega), JA_get _ (by omega), if_pos (by rw [J_le (by omega)]; omega)]
theorem e_isNamed0 (hw : WF G) (hc : 0 ≤ c ∧ c < 26) (h2 : ¬ NM c = G 0) (hr : (-2147483648 ≤ NM c ∧ NM c ≤ 2147483647)) : f_X8_isNamed (JA G) (JA NM) (JA ND) (J c) = some (J 0) := by
  have h0 := hw.1.1
  unfold f_X8_isNamed f_X8_isNamed_L20
  rw [JG (by omega), show (0 : Int32) = J 0 from rfl, JG (by omega), JA_get _ (by omega), JA_get _ (by omega), if_neg (by rw [J_eqv (by omega)]; exact h2)]
  refine lp_bind (fun k : Nat => (J 0, J k)) 0 rfl (by omega) (fun k hk => absurd hk (Nat.not_lt_zero k)) (e := J 0) ?_ (if_pos (Or.inl rfl))
  unfold f_X8_isNamed_B23
  dsimp only
  rw [show (0 : Int32) = J 0 from rfl, JG (by omega), JA_get _ (by omega)]
  by_cases z : G 0 ≤ 0
  · rw [if_pos (by rw [J_le (by omega)]; omega)]
  · rw [if_neg (by rw [J_le (by omega)]; omega), if_pos rfl]
theorem e_isNamed0c (hw : WF G) (hc : 0 ≤ c ∧ c < 26) (h2 : NM c = G 0) (hV : ∀ k : Nat, k < nn G → ND (4 * c + k) = W k ∧ -8 ≤ W k ∧ W k ≤ 8) {k0 : Nat} (hk0 : k0 < nn G) (hA : ∀ k : Nat, k < k0 → AL G W k) (hB : ¬ AL G W k0) : f_X8_isNamed (JA G) (JA NM) (JA ND) (J c) = some (J 0) := by
  have h0 := hw.1.1
  have hn := nn_eq hw.1
  unfold f_X8_isNamed f_X8_isNamed_L20
  rw [JG (by omega), show (0 : Int32) = J 0 from rfl, JG (by omega), JA_get _ (by omega), JA_get _ (by omega), if_pos (congrArg J h2)]
  refine lp_bind (fun k : Nat => (if k ≤ k0 then J 1 else J 0, J k)) (k0 + 1) (by rw [if_pos (Nat.zero_le _)]; rfl) (by omega) (fun k hk => ?_) (e := J 0) ?_ (if_pos (Or.inl rfl))
  · have a := hV k (by omega)
    have e := hw.1.2 k (by omega) (by omega)
    rw [if_pos (show k ≤ k0 by omega)]
    unfold f_X8_isNamed_B23
    dsimp only
    rw [show (0 : Int32) = J 0 from rfl, JG (by omega), JA_get _ (by omega), if_neg (by rw [J_le (by omega)]; omega), if_neg (by decide), show (4 : Int32) = J 4 from rfl, J_mul, J_add, JG (by omega), JA_get _ (by omega), a.1]
    refine ob _ (e_down (by omega)) ?_
    refine ob _ (e_up (by omega)) ?_
    rw [J_neg]
    by_cases z : k = k0
    · have hB : ¬ (-G (2 + 4 * k0) ≤ W k0 ∧ W k0 ≤ G (3 + 4 * k0)) := hB
      rw [if_neg (by omega), z]
      rw [z] at a e
      refine ob _ (e_in0 (by omega)) ?_
      simp only [LET]
      rw [show (1 : Int32) = J 1 from rfl, J_add]
      rfl
    · have b := hA k (by omega)
      have b : -G (2 + 4 * k) ≤ W k ∧ W k ≤ G (3 + 4 * k) := b
      rw [if_pos (by omega)]
      refine ob _ (e_in1 (by omega)) ?_
      simp only [LET]
      rw [show (1 : Int32) = J 1 from rfl, J_add]
      rfl
  · rw [if_neg (by omega)]
    unfold f_X8_isNamed_B23
    dsimp only
    rw [show (0 : Int32) = J 0 from rfl, JG (by omega), JA_get _ (by omega)]
    by_cases z : G 0 ≤ ((k0 + 1 : Nat) : Int)
    · rw [if_pos (by rw [J_le (by omega)]; omega)]
    · rw [if_neg (by rw [J_le (by omega)]; omega), if_pos rfl]
/-- suits and isNamed say the same -/
theorem both_named (hw : WF G) (hs : SC G S) (hb : BK U JO VA NM ND) (hc : 0 ≤ c ∧ c < 26) :
    (f_X0_suits (JA U) (JA JO) (JA VA) (J (G 0)) (JA (S 1)) (JA (S 2)) (J c) = some 0 ∧ f_X8_isNamed (JA G) (JA NM) (JA ND) (J c) = some (J 0)) ∨
    (f_X0_suits (JA U) (JA JO) (JA VA) (J (G 0)) (JA (S 1)) (JA (S 2)) (J c) = some 1 ∧ f_X8_isNamed (JA G) (JA NM) (JA ND) (J c) = some (J 1) ∧ U c = 1 ∧ (∀ k : Nat, k < nn G → VA (4 * c + k) = ND (4 * c + k)) ∧ LIM G (fun k => ND (4 * c + k))) := by
  have h0 := hw.1.1
  have hn := nn_eq hw.1
  rcases hb c hc.1 hc.2 with ⟨a, b, c1, d⟩ | ⟨a, b⟩
  · by_cases z : NM c = G 0
    · have hV : ∀ k : Nat, k < nn G → VA (4 * c + k) = (fun k => ND (4 * c + k)) (k : Int) ∧ -8 ≤ (fun k => ND (4 * c + k)) (k : Int) ∧ (fun k => ND (4 * c + k)) (k : Int) ≤ 8 := fun k hk => d k (by omega) (by omega)
      by_cases y : ∃ k : Nat, k < nn G ∧ ¬ AL G (fun k => ND (4 * c + k)) k
      · obtain ⟨k0, k1, k2, k3⟩ := first_nat y
        exact Or.inl ⟨e_suits0c hw hs hc a (b.symm.trans z) hV k1 (fun k hk => Classical.byContradiction fun u => k3 k hk u) k2, e_isNamed0c (W := fun k => ND (4 * c + k)) hw hc z (fun k hk => ⟨rfl, (hV k hk).2⟩) k1 (fun k hk => Classical.byContradiction fun u => k3 k hk u) k2⟩
      · have hA : ∀ k : Nat, k < nn G → AL G (fun k => ND (4 * c + k)) k := fun k hk => Classical.byContradiction fun u => y ⟨k, hk, u⟩
        refine Or.inr ⟨e_suits1 hw hs hc a (b.symm.trans z) hV hA, e_isNamed1 (W := fun k => ND (4 * c + k)) hw hc z (fun k hk => ⟨rfl, (hV k hk).2⟩) hA, a, fun k hk => (hV k hk).1, fun k k0 k1 => ?_⟩
        have e := hA k.toNat (by omega)
        unfold AL at e
        rw [show ((k.toNat : Nat) : Int) = k by omega] at e
        exact e
    · exact Or.inl ⟨e_suits0b hc a (by rw [← b]; exact z) (by omega) (by omega) _ _, e_isNamed0 hw hc z (by omega)⟩
  · exact Or.inl ⟨e_suits0a hc a _ _ _, e_isNamed0 hw hc (by omega) (by omega)⟩
end
