/-! what a search finds stays found; whoever is reached leads back -/
def MNF (f : Nat → Int) (r : Int) : Nat → Int
  | 0 => r
  | k + 1 => min (MNF f r k) (f k)
section
variable {ss : Nat → Int32} {aa : Nat → Nat → Int32} {pl po : Nat → Int32} {pa : Nat → Nat → Nat → Int32} {ms : Nat → Int32} {ma : Nat → Nat → Int32} {G D E Q T A sp st F F' : Int → Int} {S : Nat → Int → Int} {P : Int → Prop} {pr : Int → Bool} {s : BS} {x y w N p q d : Int} {nb : Int → Int → Int} {f : Nat → Int}
theorem MNF_le : ∀ (k j : Nat), j < k → MNF f w k ≤ f j
  | 0, j, h => absurd h (Nat.not_lt_zero j)
  | k + 1, j, h => by
    show min (MNF f w k) (f k) ≤ f j
    by_cases z : j = k
    · subst z; omega
    · have := MNF_le k j (by omega); omega
theorem MNF_at : ∀ (k : Nat), MNF f w k = w ∨ ∃ j : Nat, j < k ∧ MNF f w k = f j
  | 0 => Or.inl rfl
  | k + 1 => by
    show min (MNF f w k) (f k) = w ∨ ∃ j : Nat, j < k + 1 ∧ min (MNF f w k) (f k) = f j
    by_cases z : MNF f w k ≤ f k
    · rw [Int.min_eq_left z]
      rcases MNF_at k with h | ⟨j, h1, h2⟩
      · exact Or.inl h
      · exact Or.inr ⟨j, by omega, h2⟩
    · rw [Int.min_eq_right (by omega)]
      exact Or.inr ⟨k, by omega, rfl⟩
theorem MNF_b : ∀ (k : Nat), 0 ≤ w → (∀ j : Nat, j < k → 0 ≤ f j) → 0 ≤ MNF f w k ∧ MNF f w k ≤ w
  | 0, hw, _ => ⟨hw, Int.le_refl _⟩
  | k + 1, hw, h => by
    have h1 := MNF_b k hw (fun j hj => h j (by omega))
    have h2 := h k (by omega)
    show 0 ≤ min (MNF f w k) (f k) ∧ min (MNF f w k) (f k) ≤ w
    omega
theorem MNF_20 (a b : Int) : ∀ (k : Nat), 0 < k → (∀ j : Nat, j < k → f j ≤ a ∧ f j ≤ b) → MNF f a k = MNF f b k := fun k hk h => by
  have h1 := MNF_le (f := f) (w := a) k
  have h2 := MNF_le (f := f) (w := b) k
  have h3 := h 0 hk
  have h4 := h1 0 hk
  have h5 := h2 0 hk
  rcases MNF_at (f := f) (w := a) k with u | ⟨i, i1, i2⟩ <;> rcases MNF_at (f := f) (w := b) k with v | ⟨j, j1, j2⟩
  · omega
  · have := h1 j j1; omega
  · have := h2 i i1; omega
  · have := h1 j j1; have := h2 i i1; omega
theorem MNF_congr {f g : Nat → Int} : ∀ (k : Nat), (∀ j : Nat, j < k → f j = g j) → MNF f w k = MNF g w k
  | 0, _ => rfl
  | k + 1, h => by
    show min (MNF f w k) (f k) = min (MNF g w k) (g k)
    rw [MNF_congr k (fun j hj => h j (by omega)), h k (by omega)]
theorem tryq_kp (h : 0 ≤ s.1 p) : (tryq s q d).1 p = s.1 p := by
  unfold tryq
  by_cases z : 0 ≤ q ∧ s.1 q < 0
  · rw [if_pos z]
    exact up_ne _ _ (fun e => by rw [e] at h; omega)
  · rw [if_neg z]
theorem vism_kp (h : 0 ≤ s.1 p) : ∀ k : Nat, (vism nb q d k s).1 p = s.1 p
  | 0 => rfl
  | k + 1 => by
    have h1 := vism_kp h k
    show (tryq (vism nb q d k s) (nb q k) d).1 p = s.1 p
    rw [tryq_kp (by rw [h1]; exact h), h1]
theorem spr_kp : ∀ (f i : Nat) (s : BS), 0 ≤ s.1 p → (spr nb f i s).1 p = s.1 p
  | 0, _, _, _ => rfl
  | f + 1, i, s, h => by
    show (if i < s.2.2 then spr nb f (i + 1) (vism nb (s.2.1 i) (s.1 (s.2.1 i) + 1) 8 s) else s).1 p = s.1 p
    by_cases z : i < s.2.2
    · have h1 := vism_kp (nb := nb) (q := s.2.1 i) (d := s.1 (s.2.1 i) + 1) h 8
      rw [if_pos z, spr_kp f (i + 1) _ (by rw [h1]; exact h), h1]
    · rw [if_neg z]
theorem sts_set (hp : pr p = true) : ∀ k : Nat, (0 ≤ p ∧ p < k) → 0 ≤ (sts pr k s).1 p
  | 0, h => by omega
  | k + 1, h => by
    by_cases z : p < k
    · have h1 := sts_set hp k ⟨h.1, z⟩
      by_cases y : pr k = true
      · rw [sts_y y, tryq_kp h1]; exact h1
      · rw [sts_n y]; exact h1
    · have e : p = k := by omega
      rw [sts_y (by rw [← e]; exact hp), ← e]
      unfold tryq
      by_cases y : 0 ≤ p ∧ (sts pr k s).1 p < 0
      · rw [if_pos y]
        show 0 ≤ up _ p 0 p
        rw [up_same]
        exact Int.le_refl _
      · rw [if_neg y]; omega
theorem SR_st (h0 : 0 ≤ p ∧ p < NP G) (h : pr p = true) : 0 ≤ (SR G pr).1 p := by
  have h1 := sts_set (s := E0) h (NP G).toNat (by omega)
  unfold SR
  rw [spr_kp _ _ _ h1]
  exact h1
theorem SR_cl (hl : WL G) (hp : ∀ p : Int, pr p = true → 0 ≤ TP G p) (h0 : 0 ≤ p ∧ p < NP G) (h : 0 ≤ (SR G pr).1 p) {m : Int} (hm : 0 ≤ m ∧ m < 8) (hn : 0 ≤ NB G p m) : 0 ≤ (SR G pr).1 (NB G p m) := by
  obtain ⟨a1, a2, a3⟩ := SR_ok hl pr hp
  obtain ⟨j, j1, j2⟩ := (a1.2.1 p h0.1 h0.2).2 h
  have h1 := a2.2.2.1 j m j1 j1 hm.1 hm.2
  rw [j2] at h1
  exact h1 hn
theorem tryq_z (hd : 1 ≤ d) (h : (tryq s q d).1 p = 0) : s.1 p = 0 := by
  unfold tryq at h
  by_cases z : 0 ≤ q ∧ s.1 q < 0
  · rw [if_pos z] at h
    have h : up s.1 q d p = 0 := h
    by_cases e : p = q
    · rw [e, up_same] at h; omega
    · rw [up_ne _ _ e] at h; exact h
  · rw [if_neg z] at h; exact h
theorem vism_z (hd : 1 ≤ d) : ∀ k : Nat, (vism nb q d k s).1 p = 0 → s.1 p = 0
  | 0, h => h
  | k + 1, h => vism_z hd k (tryq_z hd h)
theorem spr_z (hn : ∀ p m : Int, 0 ≤ p → p < N → 0 ≤ m → m < 8 → 0 ≤ nb p m → nb p m < N) : ∀ (f i : Nat) (s : BS), OK N s → (spr nb f i s).1 p = 0 → s.1 p = 0
  | 0, _, _, _, h => h
  | f + 1, i, s, hs, h => by
    have h : (if i < s.2.2 then spr nb f (i + 1) (vism nb (s.2.1 i) (s.1 (s.2.1 i) + 1) 8 s) else s).1 p = 0 := h
    by_cases z : i < s.2.2
    · rw [if_pos z] at h
      have h1 := vism_keep hs z hn 8 (Nat.le_refl _)
      have h2 := hs.1 i z
      exact vism_z (by omega) 8 (spr_z hn f (i + 1) _ h1.1 h)
    · rw [if_neg z] at h; exact h
theorem RP_0 (hw : WF G) (h : (RP G).1 p = 0) : p = NU G := by
  have h0 := NU_b hw
  unfold RP at h
  rw [SR1 h0] at h
  have zE : OK (NP G) E0 := ok_E0 _ _ (fun _ _ _ => rfl)
  have h3 : OK (NP G) (if 0 ≤ TP G (NU G) then tryq E0 (NU G) 0 else E0) := by
    by_cases z : 0 ≤ TP G (NU G)
    · rw [if_pos z]; exact ok_tryq zE (fun _ => h0.2) ⟨Int.le_refl _, by omega⟩
    · rw [if_neg z]; exact zE
  have h4 := spr_z (NB_n hw.1) _ _ _ h3 h
  by_cases z : 0 ≤ TP G (NU G)
  · rw [if_pos z] at h4
    unfold tryq at h4
    rw [if_pos (show 0 ≤ NU G ∧ E0.1 (NU G) < 0 from ⟨h0.1, by show (-1 : Int) < 0; omega⟩)] at h4
    have h4 : up (fun _ => -1) (NU G) 0 p = 0 := h4
    by_cases e : p = NU G
    · exact e
    · rw [up_ne _ _ e] at h4; omega
  · rw [if_neg z] at h4
    have h4 : (-1 : Int) = 0 := h4
    omega
theorem leads_home (hw : WF G) (hp : ∀ p : Int, pr p = true → 0 ≤ TP G p) : ∀ (n : Nat) (q : Int), (0 ≤ q ∧ q < NP G) → (RP G).1 q = n → 0 ≤ (SR G pr).1 q → 0 ≤ (SR G pr).1 (NU G)
  | 0, q, h0, h1, h2 => by rw [← RP_0 hw h1]; exact h2
  | n + 1, q, h0, h1, h2 => by
    obtain ⟨m, m1, m2, m3, m4⟩ := SR_near (pr := pr1 G (NU G)) hw.1 pr1_f h0 (by show 0 < (RP G).1 q; omega)
    have m4 : (RP G).1 (NB G q m) = (RP G).1 q - 1 := m4
    exact leads_home hw hp n (NB G q m) ⟨m2, m3⟩ (by omega) (SR_cl hw.1 hp h0 h2 (by omega) m2)
/-- the least distance of what is reached -/
noncomputable def NRD (G : Int → Int) (x y : Int) (j : Nat) : Int := DT G x y ((RP G).2.1 j)
theorem near_home (hw : WF G) (hN : NP G ≤ 5000) (hx : (-10 ≤ x ∧ x ≤ 10) ∧ -10 ≤ y ∧ y ≤ 10) (hc : 0 < (RP G).2.2) : 0 ≤ (SR G (prD G x y (MNF (NRD G x y) 20 (RP G).2.2))).1 (NU G) := by
  have hk := RP_ok hw
  have ok := TL_ok hN hk.1 ⟨rfl, fun _ _ _ => rfl, fun _ _ => rfl⟩ hw
  have h0 := (ok.2 0 hc)
  have hj : ∃ j : Nat, j < (RP G).2.2 ∧ MNF (NRD G x y) 20 (RP G).2.2 = NRD G x y j := by
    rcases MNF_at (f := NRD G x y) (w := 20) (RP G).2.2 with h | h
    · have h1 := MNF_le (f := NRD G x y) (w := 20) (RP G).2.2 0 hc
      have h2 : 0 ≤ NRD G x y 0 ∧ NRD G x y 0 ≤ 20 := DT_b h0.2.1 hx
      exact ⟨0, hc, by omega⟩
    · exact h
  obtain ⟨j, j1, j2⟩ := hj
  have h3 := ok.2 j j1
  have h4 := (hk.1.1 j j1).2
  refine leads_home hw prD_f ((RP G).1 ((RP G).2.1 j)).toNat ((RP G).2.1 j) h3.1 (by omega) (SR_st h3.1 ?_)
  exact decide_eq_true ⟨h3.2.1, j2.symm⟩
end
