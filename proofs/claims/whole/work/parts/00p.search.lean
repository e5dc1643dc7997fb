/-! searches: integers alone -/
abbrev BS : Type := (Int → Int) × (Int → Int) × Nat
def adds (s : BS) (q d : Int) : BS := (up s.1 q d, up s.2.1 s.2.2 q, s.2.2 + 1)
def tryq (s : BS) (q d : Int) : BS := if 0 ≤ q ∧ s.1 q < 0 then adds s q d else s
def vism (nb : Int → Int → Int) (p d : Int) : Nat → BS → BS
  | 0, s => s
  | k + 1, s => tryq (vism nb p d k s) (nb p k) d
def spr (nb : Int → Int → Int) : Nat → Nat → BS → BS
  | 0, _, s => s
  | f + 1, i, s => if i < s.2.2 then spr nb f (i + 1) (vism nb (s.2.1 i) (s.1 (s.2.1 i) + 1) 8 s) else s
def OK (N : Int) (s : BS) : Prop := (∀ j : Nat, j < s.2.2 → (0 ≤ s.2.1 j ∧ s.2.1 j < N) ∧ 0 ≤ s.1 (s.2.1 j) ∧ s.1 (s.2.1 j) ≤ j) ∧ (∀ p : Int, 0 ≤ p → p < N → -1 ≤ s.1 p ∧ (0 ≤ s.1 p → ∃ j : Nat, j < s.2.2 ∧ s.2.1 j = p)) ∧ ∀ i j : Nat, i < j → j < s.2.2 → ¬ s.2.1 i = s.2.1 j
theorem pigeon : ∀ (N c : Nat) (Q : Nat → Int), (∀ i : Nat, i < c → 0 ≤ Q i ∧ Q i < N) → (∀ i j : Nat, i < j → j < c → ¬ Q i = Q j) → c ≤ N
  | 0, c, Q, h, _ => by
    cases c with
    | zero => exact Nat.le_refl _
    | succ c => have := h 0 (by omega); omega
  | N + 1, c, Q, h, hd => by
    by_cases q : ∃ i : Nat, i < c ∧ Q i = N
    · obtain ⟨i, hi, e⟩ := q
      have := pigeon N (c - 1) (fun j => if j < i then Q j else Q (j + 1)) (fun j hj => by
        by_cases z : j < i
        · have h1 := h j (by omega)
          have h2 := hd j i z hi
          show 0 ≤ (if j < i then Q j else Q (j + 1)) ∧ (if j < i then Q j else Q (j + 1)) < N
          rw [if_pos z]; omega
        · have h1 := h (j + 1) (by omega)
          have h2 := hd i (j + 1) (by omega) (by omega)
          show 0 ≤ (if j < i then Q j else Q (j + 1)) ∧ (if j < i then Q j else Q (j + 1)) < N
          rw [if_neg z]; omega) (fun j k hjk hk => by
        show ¬ (if j < i then Q j else Q (j + 1)) = (if k < i then Q k else Q (k + 1))
        by_cases z : j < i
        · by_cases w : k < i
          · rw [if_pos z, if_pos w]; exact hd j k hjk (by omega)
          · rw [if_pos z, if_neg w]; exact hd j (k + 1) (by omega) (by omega)
        · rw [if_neg z, if_neg (by omega)]; exact hd (j + 1) (k + 1) (by omega) (by omega))
      omega
    · have := pigeon N c Q (fun i hi => by
        have h1 := h i hi
        have h2 : ¬ Q i = N := fun e => q ⟨i, hi, e⟩
        omega) hd
      omega
section
variable {N : Int} {s : BS} {nb : Int → Int → Int} {p q d : Int}
theorem ok_le (h : OK N s) (hN : 0 ≤ N) : (s.2.2 : Int) ≤ N := by
  have := pigeon N.toNat s.2.2 (fun i => s.2.1 i) (fun i hi => by
    have := (h.1 i hi).1
    show 0 ≤ s.2.1 i ∧ s.2.1 i < N.toNat
    omega) (fun i j h1 h2 => h.2.2 i j h1 h2)
  omega
theorem ok_adds (h : OK N s) (hq : 0 ≤ q ∧ q < N) (hn : s.1 q < 0) (hd : 0 ≤ d ∧ d ≤ s.2.2) : OK N (adds s q d) := by
  have new : ∀ j : Nat, j < s.2.2 → ¬ s.2.1 j = q := by
    intro j hj e
    have := (h.1 j hj).2.1
    rw [e] at this
    omega
  have old : ∀ j : Nat, j < s.2.2 → (up s.2.1 s.2.2 q) j = s.2.1 j := fun j hj => up_ne _ _ (by omega)
  refine ⟨fun j hj => ?_, fun p p0 p1 => ?_, fun i j hij hj => ?_⟩
  · have hj : j < s.2.2 + 1 := hj
    show (0 ≤ (up s.2.1 s.2.2 q) j ∧ (up s.2.1 s.2.2 q) j < N) ∧ 0 ≤ (up s.1 q d) ((up s.2.1 s.2.2 q) j) ∧ (up s.1 q d) ((up s.2.1 s.2.2 q) j) ≤ j
    by_cases z : j = s.2.2
    · rw [z, up_same, up_same]
      omega
    · have h1 := h.1 j (by omega)
      rw [old j (by omega), up_ne _ _ (new j (by omega))]
      exact h1
  · show -1 ≤ (up s.1 q d) p ∧ (0 ≤ (up s.1 q d) p → ∃ j : Nat, j < s.2.2 + 1 ∧ (up s.2.1 s.2.2 q) j = p)
    by_cases z : p = q
    · rw [z, up_same]
      exact ⟨by omega, fun _ => ⟨s.2.2, by omega, up_same _ _ _⟩⟩
    · rw [up_ne _ _ z]
      have h1 := h.2.1 p p0 p1
      refine ⟨h1.1, fun w => ?_⟩
      obtain ⟨j, hj, e⟩ := h1.2 w
      exact ⟨j, by omega, (old j hj).trans e⟩
  · have hj : j < s.2.2 + 1 := hj
    show ¬ (up s.2.1 s.2.2 q) i = (up s.2.1 s.2.2 q) j
    rw [old i (by omega)]
    by_cases z : j = s.2.2
    · rw [z, up_same]
      exact new i (by omega)
    · rw [old j (by omega)]
      exact h.2.2 i j hij (by omega)
theorem ok_tryq (h : OK N s) (hq : 0 ≤ q → q < N) (hd : 0 ≤ d ∧ d ≤ s.2.2) : OK N (tryq s q d) := by
  unfold tryq
  by_cases z : 0 ≤ q ∧ s.1 q < 0
  · rw [if_pos z]
    exact ok_adds h ⟨z.1, hq z.1⟩ z.2 hd
  · rw [if_neg z]
    exact h
theorem tryq_le (s : BS) (q d : Int) : s.2.2 ≤ (tryq s q d).2.2 := by
  unfold tryq
  by_cases z : 0 ≤ q ∧ s.1 q < 0
  · rw [if_pos z]; exact Nat.le_succ _
  · rw [if_neg z]; exact Nat.le_refl _
theorem ok_vism (h : OK N s) (hp : ∀ m : Int, 0 ≤ m → m < 8 → 0 ≤ nb p m → nb p m < N) (hd : 0 ≤ d ∧ d ≤ s.2.2) : ∀ k : Nat, k ≤ 8 → OK N (vism nb p d k s) ∧ s.2.2 ≤ (vism nb p d k s).2.2
  | 0, _ => ⟨h, Nat.le_refl _⟩
  | k + 1, hk => by
    have h1 := ok_vism h hp hd k (by omega)
    have h2 := tryq_le (vism nb p d k s) (nb p k) d
    exact ⟨ok_tryq h1.1 (fun z => hp k (by omega) (by omega) z) ⟨hd.1, by omega⟩, Nat.le_trans h1.2 h2⟩
theorem ok_spr (hn : ∀ p m : Int, 0 ≤ p → p < N → 0 ≤ m → m < 8 → 0 ≤ nb p m → nb p m < N) : ∀ (f i : Nat) (s : BS), OK N s → OK N (spr nb f i s)
  | 0, _, _, h => h
  | f + 1, i, s, h => by
    show OK N (if i < s.2.2 then spr nb f (i + 1) (vism nb (s.2.1 i) (s.1 (s.2.1 i) + 1) 8 s) else s)
    by_cases z : i < s.2.2
    · rw [if_pos z]
      have h1 := h.1 i z
      exact ok_spr hn f (i + 1) _ (ok_vism h (fun m m0 m1 w => hn _ m h1.1.1 h1.1.2 m0 m1 w) ⟨by omega, by omega⟩ 8 (Nat.le_refl _)).1
    · rw [if_neg z]
      exact h
/-! two states that look alike -/
def LK (N : Int) (s t : BS) : Prop := s.2.2 = t.2.2 ∧ (∀ p : Int, 0 ≤ p → p < N → s.1 p = t.1 p) ∧ ∀ i : Nat, i < t.2.2 → s.2.1 i = t.2.1 i
variable {t : BS}
theorem lk_tryq (h : LK N s t) (hq : 0 ≤ q → q < N) : LK N (tryq s q d) (tryq t q d) := by
  unfold tryq
  by_cases z : 0 ≤ q ∧ t.1 q < 0
  · have z' : 0 ≤ q ∧ s.1 q < 0 := ⟨z.1, by rw [h.2.1 q z.1 (hq z.1)]; exact z.2⟩
    rw [if_pos z, if_pos z']
    refine ⟨congrArg (· + 1) h.1, fun p p0 p1 => ?_, fun i hi => ?_⟩
    · show (up s.1 q d) p = (up t.1 q d) p
      by_cases w : p = q
      · rw [w, up_same, up_same]
      · rw [up_ne _ _ w, up_ne _ _ w]
        exact h.2.1 p p0 p1
    · have hi : i < t.2.2 + 1 := hi
      show (up s.2.1 s.2.2 q) i = (up t.2.1 t.2.2 q) i
      rw [h.1]
      by_cases w : i = t.2.2
      · rw [w, up_same, up_same]
      · rw [up_ne _ _ (by omega), up_ne _ _ (by omega)]
        exact h.2.2 i (by omega)
  · have z' : ¬ (0 ≤ q ∧ s.1 q < 0) := fun w => z ⟨w.1, by rw [← h.2.1 q w.1 (hq w.1)]; exact w.2⟩
    rw [if_neg z, if_neg z']
    exact h
theorem lk_vism (h : LK N s t) (hp : ∀ m : Int, 0 ≤ m → m < 8 → 0 ≤ nb p m → nb p m < N) : ∀ k : Nat, k ≤ 8 → LK N (vism nb p d k s) (vism nb p d k t)
  | 0, _ => h
  | k + 1, hk => lk_tryq (lk_vism h hp k (by omega)) (fun z => hp k (by omega) (by omega) z)
/-! what a search from places of distance 0 gives -/
def SV (N : Int) (nb : Int → Int → Int) (i : Nat) (s : BS) : Prop :=
  (∀ j k : Nat, j ≤ k → k < s.2.2 → s.1 (s.2.1 j) ≤ s.1 (s.2.1 k)) ∧ (∀ k : Nat, i < s.2.2 → k < s.2.2 → s.1 (s.2.1 k) ≤ s.1 (s.2.1 i) + 1)
  ∧ (∀ (j : Nat) (m : Int), j < i → j < s.2.2 → 0 ≤ m → m < 8 → 0 ≤ nb (s.2.1 j) m → 0 ≤ s.1 (nb (s.2.1 j) m))
  ∧ ∀ k : Nat, k < s.2.2 → s.1 (s.2.1 k) = 0 ∨ ∃ (j : Nat) (m : Int), j < k ∧ (0 ≤ m ∧ m < 8) ∧ nb (s.2.1 j) m = s.2.1 k ∧ s.1 (s.2.1 k) = s.1 (s.2.1 j) + 1
/-- in the midst of place i, k moves done -/
def SW (N : Int) (nb : Int → Int → Int) (i : Nat) (c : Nat) (s : BS) : Prop :=
  (∀ j k : Nat, j ≤ k → k < s.2.2 → s.1 (s.2.1 j) ≤ s.1 (s.2.1 k)) ∧ (i < s.2.2 ∧ ∀ k : Nat, k < s.2.2 → s.1 (s.2.1 k) ≤ s.1 (s.2.1 i) + 1)
  ∧ (∀ (j : Nat) (m : Int), j ≤ i → (j = i → m < c) → 0 ≤ m → m < 8 → 0 ≤ nb (s.2.1 j) m → 0 ≤ s.1 (nb (s.2.1 j) m))
  ∧ ∀ k : Nat, k < s.2.2 → s.1 (s.2.1 k) = 0 ∨ ∃ (j : Nat) (m : Int), j < k ∧ (0 ≤ m ∧ m < 8) ∧ nb (s.2.1 j) m = s.2.1 k ∧ s.1 (s.2.1 k) = s.1 (s.2.1 j) + 1
theorem SW_s {i c : Nat} (hN : 0 ≤ N) (hs : OK N s) (hn : ∀ p m : Int, 0 ≤ p → p < N → 0 ≤ m → m < 8 → 0 ≤ nb p m → nb p m < N) (hc : c < 8) (h : SW N nb i c s) : SW N nb i (c + 1) (tryq s (nb (s.2.1 i) c) (s.1 (s.2.1 i) + 1)) := by
  obtain ⟨a1, ⟨a2, a3⟩, a4, a5⟩ := h
  have hi := hs.1 i a2
  unfold tryq
  by_cases z : 0 ≤ nb (s.2.1 i) c ∧ s.1 (nb (s.2.1 i) c) < 0
  · rw [if_pos z]
    have hq := hn (s.2.1 i) c hi.1.1 hi.1.2 (by omega) (by omega) z.1
    have old : ∀ j : Nat, j < s.2.2 → (up s.2.1 s.2.2 (nb (s.2.1 i) c)) j = s.2.1 j := fun j hj => up_ne _ _ (by omega)
    have oldD : ∀ j : Nat, j < s.2.2 → (up s.1 (nb (s.2.1 i) c) (s.1 (s.2.1 i) + 1)) (s.2.1 j) = s.1 (s.2.1 j) := fun j hj => up_ne _ _ (fun e => by have := (hs.1 j hj).2.1; rw [e] at this; omega)
    have newQ : (up s.2.1 s.2.2 (nb (s.2.1 i) c)) s.2.2 = nb (s.2.1 i) c := up_same _ _ _
    have newD : (up s.1 (nb (s.2.1 i) c) (s.1 (s.2.1 i) + 1)) (nb (s.2.1 i) c) = s.1 (s.2.1 i) + 1 := up_same _ _ _
    have grow : ∀ q : Int, 0 ≤ s.1 q → 0 ≤ (up s.1 (nb (s.2.1 i) c) (s.1 (s.2.1 i) + 1)) q := by
      intro q hq
      by_cases w : q = nb (s.2.1 i) c
      · rw [w, newD]; omega
      · rw [up_ne _ _ w]; exact hq
    refine ⟨fun j k hjk hk => ?_, ⟨Nat.lt_succ_of_lt a2, fun k hk => ?_⟩, fun j m hj hjm m0 m1 => ?_, fun k hk => ?_⟩
    · have hk : k < s.2.2 + 1 := hk
      show (up s.1 (nb (s.2.1 i) c) (s.1 (s.2.1 i) + 1)) ((up s.2.1 s.2.2 (nb (s.2.1 i) c)) j) ≤ (up s.1 (nb (s.2.1 i) c) (s.1 (s.2.1 i) + 1)) ((up s.2.1 s.2.2 (nb (s.2.1 i) c)) k)
      by_cases w : k = s.2.2
      · rw [w, newQ, newD]
        by_cases w2 : j = s.2.2
        · rw [w2, newQ, newD]; exact Int.le_refl _
        · rw [old j (by omega), oldD j (by omega)]
          exact a3 j (by omega)
      · rw [old k (by omega), oldD k (by omega), old j (by omega), oldD j (by omega)]
        exact a1 j k hjk (by omega)
    · have hk : k < s.2.2 + 1 := hk
      show (up s.1 (nb (s.2.1 i) c) (s.1 (s.2.1 i) + 1)) ((up s.2.1 s.2.2 (nb (s.2.1 i) c)) k) ≤ (up s.1 (nb (s.2.1 i) c) (s.1 (s.2.1 i) + 1)) ((up s.2.1 s.2.2 (nb (s.2.1 i) c)) i) + 1
      rw [old i a2, oldD i a2]
      by_cases w : k = s.2.2
      · rw [w, newQ, newD]; exact Int.le_refl _
      · rw [old k (by omega), oldD k (by omega)]
        exact a3 k (by omega)
    · show 0 ≤ nb ((up s.2.1 s.2.2 (nb (s.2.1 i) c)) j) m → 0 ≤ (up s.1 (nb (s.2.1 i) c) (s.1 (s.2.1 i) + 1)) (nb ((up s.2.1 s.2.2 (nb (s.2.1 i) c)) j) m)
      rw [old j (by omega)]
      intro w
      by_cases w2 : j = i ∧ m = c
      · rw [w2.1, w2.2, newD]; omega
      · refine grow _ (a4 j m hj (fun e => ?_) m0 m1 w)
        have := hjm e
        have : ¬ m = c := fun e2 => w2 ⟨e, e2⟩
        omega
    · have hk : k < s.2.2 + 1 := hk
      show (up s.1 (nb (s.2.1 i) c) (s.1 (s.2.1 i) + 1)) ((up s.2.1 s.2.2 (nb (s.2.1 i) c)) k) = 0 ∨ ∃ (j : Nat) (m : Int), j < k ∧ (0 ≤ m ∧ m < 8) ∧ nb ((up s.2.1 s.2.2 (nb (s.2.1 i) c)) j) m = (up s.2.1 s.2.2 (nb (s.2.1 i) c)) k ∧ (up s.1 (nb (s.2.1 i) c) (s.1 (s.2.1 i) + 1)) ((up s.2.1 s.2.2 (nb (s.2.1 i) c)) k) = (up s.1 (nb (s.2.1 i) c) (s.1 (s.2.1 i) + 1)) ((up s.2.1 s.2.2 (nb (s.2.1 i) c)) j) + 1
      by_cases w : k = s.2.2
      · rw [w, newQ, newD]
        refine Or.inr ⟨i, c, a2, ⟨by omega, by omega⟩, ?_, ?_⟩
        · rw [old i a2]
        · rw [old i a2, oldD i a2]
      · rw [old k (by omega), oldD k (by omega)]
        rcases a5 k (by omega) with b | ⟨j, m, b1, b2, b3, b4⟩
        · exact Or.inl b
        · refine Or.inr ⟨j, m, b1, b2, ?_, ?_⟩
          · rw [old j (by omega)]; exact b3
          · rw [old j (by omega), oldD j (by omega)]; exact b4
  · rw [if_neg z]
    refine ⟨a1, ⟨a2, a3⟩, fun j m hj hjm m0 m1 w => ?_, a5⟩
    by_cases w2 : j = i ∧ m = c
    · obtain ⟨e1, e2⟩ := w2
      subst e1 e2
      have := (hs.2.1 _ w (hn _ _ hi.1.1 hi.1.2 m0 m1 w)).1
      have : ¬ s.1 (nb (s.2.1 j) c) < 0 := fun y => z ⟨w, y⟩
      omega
    · refine a4 j m hj (fun e => ?_) m0 m1 w
      have := hjm e
      have : ¬ m = c := fun e2 => w2 ⟨e, e2⟩
      omega
theorem vism_keep {i : Nat} (hs : OK N s) (hi : i < s.2.2) (hn : ∀ p m : Int, 0 ≤ p → p < N → 0 ≤ m → m < 8 → 0 ≤ nb p m → nb p m < N) : ∀ k : Nat, k ≤ 8 → OK N (vism nb (s.2.1 i) (s.1 (s.2.1 i) + 1) k s) ∧ s.2.2 ≤ (vism nb (s.2.1 i) (s.1 (s.2.1 i) + 1) k s).2.2 ∧ (vism nb (s.2.1 i) (s.1 (s.2.1 i) + 1) k s).2.1 i = s.2.1 i ∧ (vism nb (s.2.1 i) (s.1 (s.2.1 i) + 1) k s).1 (s.2.1 i) = s.1 (s.2.1 i)
  | 0, _ => ⟨hs, Nat.le_refl _, rfl, rfl⟩
  | k + 1, hk => by
    obtain ⟨h1, h2, h3, h4⟩ := vism_keep hs hi hn k (by omega)
    have hI := hs.1 i hi
    have h5 := ok_vism hs (p := s.2.1 i) (d := s.1 (s.2.1 i) + 1) (nb := nb) (fun m m0 m1 w => hn _ m hI.1.1 hI.1.2 m0 m1 w) ⟨by omega, by omega⟩ (k + 1) hk
    refine ⟨h5.1, h5.2, ?_, ?_⟩
    · show (tryq (vism nb (s.2.1 i) (s.1 (s.2.1 i) + 1) k s) (nb (s.2.1 i) k) (s.1 (s.2.1 i) + 1)).2.1 i = s.2.1 i
      unfold tryq
      by_cases z : 0 ≤ nb (s.2.1 i) k ∧ (vism nb (s.2.1 i) (s.1 (s.2.1 i) + 1) k s).1 (nb (s.2.1 i) k) < 0
      · rw [if_pos z]
        exact (up_ne _ _ (by omega)).trans h3
      · rw [if_neg z]
        exact h3
    · show (tryq (vism nb (s.2.1 i) (s.1 (s.2.1 i) + 1) k s) (nb (s.2.1 i) k) (s.1 (s.2.1 i) + 1)).1 (s.2.1 i) = s.1 (s.2.1 i)
      unfold tryq
      by_cases z : 0 ≤ nb (s.2.1 i) k ∧ (vism nb (s.2.1 i) (s.1 (s.2.1 i) + 1) k s).1 (nb (s.2.1 i) k) < 0
      · rw [if_pos z]
        refine (up_ne _ _ (fun e => ?_)).trans h4
        have h6 := z.2
        rw [← e, h4] at h6
        omega
      · rw [if_neg z]
        exact h4
theorem SW_vism {i : Nat} (hN : 0 ≤ N) (hs : OK N s) (hi : i < s.2.2) (hn : ∀ p m : Int, 0 ≤ p → p < N → 0 ≤ m → m < 8 → 0 ≤ nb p m → nb p m < N) (h : SW N nb i 0 s) : ∀ k : Nat, k ≤ 8 → SW N nb i k (vism nb (s.2.1 i) (s.1 (s.2.1 i) + 1) k s)
  | 0, _ => h
  | k + 1, hk => by
    have h1 := SW_vism hN hs hi hn h k (by omega)
    obtain ⟨h2, h3, h4, h5⟩ := vism_keep hs hi hn k (by omega)
    have h6 := SW_s hN h2 hn (by omega) h1
    rw [h4, h5] at h6
    exact h6
theorem SV_spr (hN : 0 ≤ N) (hn : ∀ p m : Int, 0 ≤ p → p < N → 0 ≤ m → m < 8 → 0 ≤ nb p m → nb p m < N) : ∀ (f i : Nat) (s : BS), N < (f : Int) + i → OK N s → SV N nb i s → SV N nb ((spr nb f i s).2.2) (spr nb f i s)
  | 0, i, s, hf, hs, h => by
    have := ok_le hs hN
    refine ⟨h.1, fun k z => absurd z (Nat.lt_irrefl _), fun j m hj hj2 => h.2.2.1 j m (by have hj2 : j < s.2.2 := hj2; omega) hj2, h.2.2.2⟩
  | f + 1, i, s, hf, hs, h => by
    show SV N nb ((if i < s.2.2 then spr nb f (i + 1) (vism nb (s.2.1 i) (s.1 (s.2.1 i) + 1) 8 s) else s).2.2) (if i < s.2.2 then spr nb f (i + 1) (vism nb (s.2.1 i) (s.1 (s.2.1 i) + 1) 8 s) else s)
    by_cases z : i < s.2.2
    · rw [if_pos z]
      have hw : SW N nb i 0 s := ⟨h.1, ⟨z, fun k hk => h.2.1 k z hk⟩, fun j m hj hjm m0 m1 => h.2.2.1 j m (by
        rcases Nat.lt_or_ge j i with y | y
        · exact y
        · have := hjm (by omega); omega) (by omega) m0 m1, h.2.2.2⟩
      obtain ⟨h2, h3, h4, h5⟩ := vism_keep hs z hn 8 (Nat.le_refl _)
      obtain ⟨b1, b2, b3, b4⟩ := SW_vism hN hs z hn hw 8 (Nat.le_refl _)
      refine SV_spr hN hn f (i + 1) _ (by omega) h2 ⟨b1, fun k hi hk => ?_, fun j m hj hj2 m0 m1 => b3 j m (by omega) (fun _ => m1) m0 m1, b4⟩
      exact Int.le_trans (b2.2 k hk) (Int.add_le_add_right (b1 i (i + 1) (by omega) hi) 1)
    · rw [if_neg z]
      refine ⟨h.1, fun k y => absurd y (Nat.lt_irrefl _), fun j m hj hj2 => h.2.2.1 j m (by omega) hj2, h.2.2.2⟩
end
