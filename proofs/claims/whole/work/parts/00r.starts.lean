/-! where searches start -/
def E0 : BS := (fun _ => -1, fun _ => 0, 0)
def sts (pr : Int → Bool) : Nat → BS → BS
  | 0, s => s
  | k + 1, s => if pr k = true then tryq (sts pr k s) k 0 else sts pr k s
noncomputable def AF (G : Int → Int) (s : BS) : Prop := ∀ j : Nat, j < s.2.2 → 0 ≤ TP G (s.2.1 j)
section
variable {G T A : Int → Int} {N p q d m : Int} {s t : BS} {pr : Int → Bool}
theorem ok_E0 (D Q : Int → Int) (h : ∀ p : Int, 0 ≤ p → p < N → D p = -1) : OK N (D, Q, 0) := by
  refine ⟨fun j hj => absurd hj (Nat.not_lt_zero j), fun p p0 p1 => ?_, fun i j _ hj => absurd hj (Nat.not_lt_zero j)⟩
  show -1 ≤ D p ∧ (0 ≤ D p → _)
  rw [h p p0 p1]
  exact ⟨Int.le_refl _, fun z => absurd z (by decide)⟩
theorem lk_E0 (D Q : Int → Int) (h : ∀ p : Int, 0 ≤ p → p < N → D p = -1) : LK N (D, Q, 0) E0 := ⟨rfl, fun p p0 p1 => h p p0 p1, fun i hi => absurd hi (Nat.not_lt_zero i)⟩
theorem sts_ok (h : OK N s) (hD : ∀ p : Int, 0 ≤ p → p < N → s.1 p = -1) : ∀ k : Nat, (k : Int) ≤ N → OK N (sts pr k s) ∧ (∀ p : Int, (k : Int) ≤ p → p < N → (sts pr k s).1 p = -1)
  | 0, _ => ⟨h, fun p p0 p1 => hD p (by omega) p1⟩
  | k + 1, hk => by
    have h1 := sts_ok h hD k (by omega)
    show OK N (if pr k = true then tryq (sts pr k s) k 0 else sts pr k s) ∧ (∀ p : Int, ((k + 1 : Nat) : Int) ≤ p → p < N → (if pr k = true then tryq (sts pr k s) k 0 else sts pr k s).1 p = -1)
    by_cases z : pr k = true
    · rw [if_pos z]
      refine ⟨ok_tryq h1.1 (fun _ => by omega) ⟨Int.le_refl _, by omega⟩, fun p p0 p1 => ?_⟩
      unfold tryq
      rw [if_pos (by have := h1.2 k (Int.le_refl _) (by omega); omega)]
      exact (up_ne _ _ (by omega)).trans (h1.2 p (by omega) p1)
    · rw [if_neg z]
      exact ⟨h1.1, fun p p0 p1 => h1.2 p (by omega) p1⟩
theorem sts_lk (h : LK N s t) : ∀ k : Nat, (k : Int) ≤ N → LK N (sts pr k s) (sts pr k t)
  | 0, _ => h
  | k + 1, hk => by
    have h1 := sts_lk h k (by omega)
    show LK N (if pr k = true then tryq (sts pr k s) k 0 else sts pr k s) (if pr k = true then tryq (sts pr k t) k 0 else sts pr k t)
    by_cases z : pr k = true
    · rw [if_pos z, if_pos z]
      exact lk_tryq h1 (fun _ => by omega)
    · rw [if_neg z, if_neg z]
      exact h1
def ZD (s : BS) : Prop := ∀ j : Nat, j < s.2.2 → s.1 (s.2.1 j) = 0
theorem zd_tryq (h : ZD s) : ZD (tryq s q 0) := by
  unfold tryq
  by_cases z : 0 ≤ q ∧ s.1 q < 0
  · rw [if_pos z]
    intro j hj
    have hj : j < s.2.2 + 1 := hj
    show (up s.1 q 0) ((up s.2.1 s.2.2 q) j) = 0
    by_cases w : j = s.2.2
    · rw [w, up_same, up_same]
    · rw [up_ne s.2.1 _ (by omega)]
      by_cases w2 : s.2.1 j = q
      · rw [w2, up_same]
      · rw [up_ne _ _ w2]
        exact h j (by omega)
  · rw [if_neg z]
    exact h
theorem zd_sts (h : ZD s) : ∀ k : Nat, ZD (sts pr k s)
  | 0 => h
  | k + 1 => by
    show ZD (if pr k = true then tryq (sts pr k s) k 0 else sts pr k s)
    by_cases z : pr k = true
    · rw [if_pos z]; exact zd_tryq (zd_sts h k)
    · rw [if_neg z]; exact zd_sts h k
theorem zd_sv {nb : Int → Int → Int} (h : ZD s) : SV N nb 0 s := by
  refine ⟨fun j k hjk hk => ?_, fun k h0 hk => ?_, fun j m hj => absurd hj (Nat.not_lt_zero j), fun k hk => Or.inl (h k hk)⟩
  · rw [h k hk, h j (by omega)]; exact Int.le_refl _
  · rw [h k hk, h 0 h0]; decide
theorem af_tryq (h : AF G s) (hq : 0 ≤ q → 0 ≤ TP G q) : AF G (tryq s q d) := by
  unfold tryq
  by_cases z : 0 ≤ q ∧ s.1 q < 0
  · rw [if_pos z]
    intro j hj
    have hj : j < s.2.2 + 1 := hj
    show 0 ≤ TP G ((up s.2.1 s.2.2 q) j)
    by_cases w : j = s.2.2
    · rw [w, up_same]; exact hq z.1
    · rw [up_ne _ _ (by omega)]; exact h j (by omega)
  · rw [if_neg z]
    exact h
theorem af_sts (h : AF G s) (hp : ∀ p : Int, pr p = true → 0 ≤ TP G p) : ∀ k : Nat, AF G (sts pr k s)
  | 0 => h
  | k + 1 => by
    show AF G (if pr k = true then tryq (sts pr k s) k 0 else sts pr k s)
    by_cases z : pr k = true
    · rw [if_pos z]; exact af_tryq (af_sts h hp k) (fun _ => hp k z)
    · rw [if_neg z]; exact af_sts h hp k
theorem af_vism (hl : WL G) (hp : 0 ≤ p ∧ p < NP G) (h : AF G s) : ∀ k : Nat, AF G (vism (NB G) p d k s)
  | 0 => h
  | k + 1 => by
    refine af_tryq (af_vism hl hp h k) (fun z => ?_)
    rcases NB_r hl hp (m := k) (by omega) with w | w
    · omega
    · exact w.2.2.2.2
theorem af_spr (hl : WL G) : ∀ (f i : Nat) (s : BS), OK (NP G) s → AF G s → AF G (spr (NB G) f i s)
  | 0, _, _, _, h => h
  | f + 1, i, s, hs, h => by
    show AF G (if i < s.2.2 then spr (NB G) f (i + 1) (vism (NB G) (s.2.1 i) (s.1 (s.2.1 i) + 1) 8 s) else s)
    by_cases z : i < s.2.2
    · rw [if_pos z]
      have h1 := hs.1 i z
      exact af_spr hl f (i + 1) _ (vism_keep hs z (NB_n hl) 8 (Nat.le_refl _)).1 (af_vism hl h1.1 h 8)
    · rw [if_neg z]
      exact h
/-- a search from the places of pr -/
noncomputable def SR (G : Int → Int) (pr : Int → Bool) : BS := spr (NB G) ((NP G).toNat + 1) 0 (sts pr (NP G).toNat E0)
theorem SR_ok (hl : WL G) (pr : Int → Bool) (hp : ∀ p : Int, pr p = true → 0 ≤ TP G p) : OK (NP G) (SR G pr) ∧ SV (NP G) (NB G) (SR G pr).2.2 (SR G pr) ∧ AF G (SR G pr) := by
  have hP := NP_b hl
  have h1 : OK (NP G) E0 := ok_E0 _ _ (fun _ _ _ => rfl)
  have h2 := (sts_ok (pr := pr) h1 (fun _ _ _ => rfl) (NP G).toNat (by omega)).1
  have h3 : ZD (sts pr (NP G).toNat E0) := zd_sts (fun j hj => absurd hj (Nat.not_lt_zero j)) _
  have h4 : AF G (sts pr (NP G).toNat E0) := af_sts (fun j hj => absurd hj (Nat.not_lt_zero j)) hp _
  exact ⟨ok_spr (NB_n hl) _ _ _ h2, SV_spr (by omega) (NB_n hl) _ _ _ (by omega) h2 (zd_sv h3), af_spr hl _ _ _ h2 h4⟩
theorem SR_near (hl : WL G) (hp : ∀ p : Int, pr p = true → 0 ≤ TP G p) (h0 : 0 ≤ p ∧ p < NP G) (h : 0 < (SR G pr).1 p) : ∃ m : Nat, m < 8 ∧ 0 ≤ NB G p m ∧ NB G p m < NP G ∧ (SR G pr).1 (NB G p m) = (SR G pr).1 p - 1 := by
  obtain ⟨a1, a2, a3⟩ := SR_ok hl pr hp
  obtain ⟨k, k1, k2⟩ := (a1.2.1 p h0.1 h0.2).2 (by omega)
  rcases a2.2.2.2 k k1 with b | ⟨j, m, b1, b2, b3, b4⟩
  · rw [k2] at b; omega
  · have hj := a1.1 j (by omega)
    have h3 := NB_sym hl hj.1 (a3 j (by omega)) b2 (by rw [b3, k2]; exact h0.1)
    rw [b3, k2] at h3
    rw [k2] at b4
    have e : ((RV m).toNat : Int) = RV m := by omega
    refine ⟨(RV m).toNat, by omega, ?_⟩
    rw [e, h3.2]
    exact ⟨hj.1.1, hj.1.2, by omega⟩
theorem SR_d (hl : WL G) (hp : ∀ p : Int, pr p = true → 0 ≤ TP G p) (h0 : 0 ≤ p ∧ p < NP G) : -1 ≤ (SR G pr).1 p ∧ (SR G pr).1 p < NP G ∧ (0 ≤ (SR G pr).1 p → 0 ≤ TP G p) := by
  have hP := NP_b hl
  obtain ⟨a1, a2, a3⟩ := SR_ok hl pr hp
  have h1 := a1.2.1 p h0.1 h0.2
  have h2 := ok_le a1 (by omega)
  by_cases z : 0 ≤ (SR G pr).1 p
  · obtain ⟨j, j1, j2⟩ := h1.2 z
    have h3 := a1.1 j j1
    rw [j2] at h3
    have h4 := a3 j j1
    rw [j2] at h4
    exact ⟨by omega, by omega, fun _ => h4⟩
  · exact ⟨h1.1, by omega, fun w => absurd w z⟩
/-! the class begins a search -/
theorem e_beginSearch (c : Int32) (D : Int → Int) : f_X5_beginSearch c (JA D) = some (J 0, JA (FLL 5000 (-1) D)) := by
  unfold f_X5_beginSearch
  rw [show ((-1) : Int32) = J (-1) from rfl, show (0 : Int32) = J 0 from rfl]
  exact ob _ (e_fill5000 (x := -1)) rfl
theorem FL_in {n x : Int} {F : Int → Int} (h : 0 ≤ p ∧ p < n) : FLL n x F p = x := if_pos h
theorem reach_st (hN : 0 ≤ NP G ∧ NP G ≤ 5000) (hT : ∀ q : Int, 0 ≤ q → q < NP G → T q = TP G q) (hs : OK (NP G) s) (hp : 0 ≤ p ∧ p < NP G) : f_X5_reach (J (NP G)) (J s.2.2) (JA T) (JA s.1) (JA s.2.1) (J p) (J 0) = some (J (if 0 ≤ TP G p then tryq s p 0 else s).2.2, JA (if 0 ≤ TP G p then tryq s p 0 else s).1, JA (if 0 ≤ TP G p then tryq s p 0 else s).2.1) := by
  have h1 := TP_b G p
  have h2 := hT p hp.1 hp.2
  by_cases z : 0 ≤ TP G p
  · rw [if_pos z]
    exact e_reach hN hs (Or.inr ⟨hp.1, hp.2, by omega, by omega⟩)
  · rw [if_neg z]
    exact e_reach_no hN ⟨hp.1, hp.2, by omega⟩ s.1 s.1 s.2.1 s.2.2
/-! one start -/
theorem spr_E (nb : Int → Int → Int) (f : Nat) (D Q : Int → Int) : spr nb f 0 (D, Q, 0) = (D, Q, 0) := by
  cases f with
  | zero => rfl
  | succ f => exact if_neg (Nat.lt_irrefl 0)
noncomputable def pr1 (G : Int → Int) (p : Int) : Int → Bool := fun q => decide (q = p ∧ 0 ≤ TP G p)
theorem pr1_f (q : Int) (h : pr1 G p q = true) : 0 ≤ TP G q := by
  have h := of_decide_eq_true h
  rw [h.1]; exact h.2
theorem sts1 (hp : 0 ≤ p) (s : BS) : ∀ k : Nat, sts (pr1 G p) k s = if p < k ∧ 0 ≤ TP G p then tryq s p 0 else s
  | 0 => by
    rw [if_neg (by omega)]; rfl
  | k + 1 => by
    show (if pr1 G p k = true then tryq (sts (pr1 G p) k s) k 0 else sts (pr1 G p) k s) = _
    rw [sts1 hp s k]
    by_cases z : (k : Int) = p ∧ 0 ≤ TP G p
    · rw [if_pos (show pr1 G p k = true from decide_eq_true z), if_neg (by omega), if_pos (by omega), z.1]
    · rw [if_neg (show ¬ pr1 G p k = true from fun w => z (of_decide_eq_true w))]
      by_cases z2 : p < k ∧ 0 ≤ TP G p
      · rw [if_pos z2, if_pos (by omega)]
      · rw [if_neg z2, if_neg (by omega)]
theorem SR1 (hp : 0 ≤ p ∧ p < NP G) : SR G (pr1 G p) = spr (NB G) ((NP G).toNat + 1) 0 (if 0 ≤ TP G p then tryq E0 p 0 else E0) := by
  unfold SR
  rw [sts1 hp.1]
  by_cases z : 0 ≤ TP G p
  · rw [if_pos z, if_pos (by omega)]
  · rw [if_neg z, if_neg (by omega)]
/-! the reference's -/
theorem e_forgets (hl : WL G) (hN : NP G ≤ 5000) (c : Int32) (D : Int → Int) : f_X8_forgets c (JA G) (JA D) = some (J 0, JA (FLL (NP G) (-1) D)) := by
  have hP := NP_b hl
  unfold f_X8_forgets
  refine lp_bind (fun k : Nat => (JA (FLL k (-1) D), J k)) (NP G).toNat (by rw [FL_0]; rfl) (by omega) (fun k hk => ?_) (e := JA (FLL (NP G) (-1) D)) ?_ rfl
  · rw [← FL_s]
    unfold f_X8_forgets_B7
    refine ob _ (e_poses8 hl) ?_
    simp (disch := omega) only [↓reduceIte, j_lits, J_add, J_sub, J_mul, J_neg, J_le, J_lt, J_eqv, J_div, J_imax, J_imin, JA_get, JG, JA_upd, LET, Option.bind_some, lt_T, lt_F, le_T, le_F, eq_T, eq_F, and_true, true_and, Int.sub_neg, Int.natCast_add, n_lits]
  · have e : (((NP G).toNat : Nat) : Int) = NP G := by omega
    rw [e]
    unfold f_X8_forgets_B7
    refine ob _ (e_poses8 hl) ?_
    simp (disch := omega) only [↓reduceIte, j_lits, J_add, J_sub, J_mul, J_neg, J_le, J_lt, J_eqv, J_div, J_imax, J_imin, JA_get, JG, JA_upd, LET, Option.bind_some, lt_T, lt_F, le_T, le_F, eq_T, eq_F, and_true, true_and, Int.sub_neg, Int.natCast_add, n_lits]
theorem e_starts (hN : 0 ≤ N ∧ N ≤ 5000) (hs : OK N s) (hp : 0 ≤ p ∧ p < N) (hD : s.1 p = -1) : f_X8_starts (J s.2.2) (JA s.1) (JA s.2.1) (J p) = some (J (tryq s p 0).2.2, JA (tryq s p 0).1, JA (tryq s p 0).2.1) := by
  have hc := ok_le hs hN.1
  have hne : ¬ (s.2.2 : Int) = N := by
    intro e
    have h7 := ok_le (ok_adds (d := 0) hs hp (by omega) (by omega)) hN.1
    have h9 : (adds s p 0).2.2 = s.2.2 + 1 := rfl
    omega
  unfold tryq f_X8_starts
  rw [if_pos (by omega)]
  simp (disch := omega) only [↓reduceIte, j_lits, J_add, J_sub, J_mul, J_neg, J_le, J_lt, J_eqv, J_div, J_imax, J_imin, JA_get, JG, JA_upd, LET, Option.bind_some, lt_T, lt_F, le_T, le_F, eq_T, eq_F, and_true, true_and, Int.sub_neg, Int.natCast_add, n_lits]
  rfl
end
