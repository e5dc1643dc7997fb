/-! read: whole texts, and their entries in the reference -/
section
variable {T U U' : Int → Int} {n a b e k : Nat} {c s f x y d : Int}
theorem ENTS_congr : ∀ (k a : Nat), (∀ i : Int, 0 ≤ i → i < 3 * (k : Int) → U' i = U i) → ENTS T U k a → ENTS T U' k a
  | 0, _, _, h => h
  | k + 1, a, hu, h => by
    obtain ⟨a0, l, h1, h2, h3⟩ := h
    refine ⟨a0, l, ENTS_congr k a0 (fun i i0 i1 => hu i i0 (by omega)) h1, h2, ?_⟩
    rw [hu _ (by omega) (by omega), hu _ (by omega) (by omega), hu _ (by omega) (by omega)]
    exact h3
theorem CRD_b {l : Nat} (h : CRD T a l x) : 1 ≤ l ∧ l ≤ 3 ∧ -10 ≤ x ∧ x ≤ 10 := by
  unfold CRD at h
  omega
theorem ENT_b {l : Nat} (h : ENT T a l d x y) : 5 ≤ l := by
  rcases h with ⟨h, -⟩ | ⟨-, l1, l2, h1, -, h2, -, h3, -⟩
  · omega
  · have := CRD_b h2
    have := CRD_b h3
    omega
theorem ENTS_b : ∀ (k a : Nat), ENTS T U k a → 5 * k ≤ a
  | 0, _, _ => by omega
  | k + 1, a, h => by
    obtain ⟨a0, l, h1, h2, h3⟩ := h
    have := ENTS_b k a0 h1
    have := ENT_b h3
    omega
theorem UP3_at (U : Int → Int) (k d x y : Int) : UP3 U k d x y (3 * k) = d ∧ UP3 U k d x y (3 * k + 1) = x ∧ UP3 U k d x y (3 * k + 2) = y := by
  unfold UP3
  refine ⟨?_, ?_, up_same _ _ _⟩
  · rw [up_ne _ _ (by omega), up_ne _ _ (by omega), up_same]
  · rw [up_ne _ _ (by omega), up_same]
theorem UP3_lo (U : Int → Int) (k d x y : Int) {i : Int} (h : i < 3 * k) : UP3 U k d x y i = U i := by
  unfold UP3
  rw [up_ne _ _ (by omega), up_ne _ _ (by omega), up_ne _ _ (by omega)]
theorem e_L47 (h : TX n T) (ha : a ≤ n) (hs : SAT T a = 8 ∨ SAT T a = 16 ∨ (SAT T a = 15 ∧ (a = n ∨ ¬ T a = 48))) (num : Int32) (told : Nat → Int32) :
    (a < n ∧ T a = 59 ∧ SAT T (a + 1) = 0 ∧ f_X8_isText_L47 (J n) (J a) (J k) num (JA T) told = if a + 1 < n then some (.inl (J ((a + 1 : Nat) : Int), J ((k + 1 : Nat) : Int), num, told)) else some (.inr (.inr (.inr (.inr (J ((a + 1 : Nat) : Int), J ((k + 1 : Nat) : Int), num, told))))))
    ∨ (FAT n T a ∧ f_X8_isText_L47 (J n) (J a) (J k) num (JA T) told = some (.inr (.inr (.inr (.inl (J a, J k, num, told)))))) := by
  have h1 := h.1
  unfold f_X8_isText_L47
  rcases w_skips h ha (c := 59) (by omega) with ⟨g1, g2, g3⟩ | ⟨g1, g2⟩
  · refine Or.inl ⟨g1, g2, ?_, ob _ g3 ?_⟩
    · rcases hs with hs | hs | ⟨hs, -⟩
      · exact sa_s hs (by rw [g2]; rfl)
      · exact sa_s hs (by rw [g2]; rfl)
      · exact sa_s hs (by rw [g2]; rfl)
    · rw [if_neg j1n]
      simp only [LET]
      rw [show (1 : Int32) = J 1 from rfl, J_add]
      by_cases z : a + 1 < n
      · rw [if_pos z, if_pos (by rw [J_lt (by omega)]; omega)]
        rfl
      · rw [if_neg z, if_neg (by rw [J_lt (by omega)]; omega)]
        rfl
  · refine Or.inr ⟨?_, ob _ g2 ?_⟩
    · rcases hs with hs | hs | ⟨hs, h7⟩
      · exact fat_of ha hs (by omega) (or2 g1 (fun w => by unfold stp; omega))
      · exact fat_of ha hs (by omega) (or2 g1 (fun w => by unfold stp; omega))
      · refine fat_of ha hs (by omega) ?_
        rcases g1 with m1 | ⟨m1, m3⟩
        · exact Or.inl m1
        · have := h7.resolve_left (by omega)
          exact Or.inr ⟨m1, by unfold stp; omega⟩
    · rw [if_pos (by rfl)]
def TXO (n : Nat) (T : Int → Int) (o : Int32 × Int32 × Int32 × Int32 × (Nat → Int32)) : Prop := (o.1 = J 0 ∧ ∃ e : Nat, o.2.1 = J e ∧ FAT n T e) ∨ (o.1 = J 1 ∧ 0 < n ∧ SAT T n = 0 ∧ ∃ (k : Nat) (U : Int → Int), o.2.2.1 = J k ∧ o.2.2.2.2 = JA U ∧ 0 < k ∧ k ≤ 12 ∧ ENTS T U k n)
def TXE (e : (Int32 × Int32 × Int32 × (Nat → Int32)) ⊕ (Int32 × Int32 × Int32 × (Nat → Int32)) ⊕ (Int32 × Int32 × Int32 × (Nat → Int32)) ⊕ (Int32 × Int32 × Int32 × (Nat → Int32))) : Option (Int32 × Int32 × Int32 × Int32 × (Nat → Int32)) := match e with | .inl u_8 => some ((0, u_8.1, u_8.2.1, u_8.2.2.1, u_8.2.2.2)) | .inr (.inl u_9) => some ((0, u_9.1, u_9.2.1, u_9.2.2.1, u_9.2.2.2)) | .inr (.inr (.inl u_10)) => some ((0, u_10.1, u_10.2.1, u_10.2.2.1, u_10.2.2.2)) | .inr (.inr (.inr u_11)) => some ((1, u_11.1, u_11.2.1, u_11.2.2.1, u_11.2.2.2))
theorem w_isText (h : TX n T) (at0 tl num : Int32) (told : Nat → Int32) : WP (f_X8_isText (J n) at0 tl num (JA T) told) (TXO n T) := by
  have h60 := h.1
  obtain ⟨U0, rfl, -⟩ := JA_ex told
  unfold f_X8_isText
  refine WP.bind (P0 := fun e => WP (TXE e) (TXO n T)) (lp_wp (fun (k : Nat) z => ∃ (a : Nat) (num : Int32) (U : Int → Int), z = (J a, J k, num, JA U) ∧ (a < n ∨ n = 0 ∧ a = 0) ∧ SAT T a = 0 ∧ ENTS T U k a) 12 (by omega) ⟨0, num, U0, rfl, by omega, rfl, rfl⟩ (fun k z hk hi => ?_)) (fun e he => he)
  obtain ⟨a, num, U, rfl, ha, hs, hE⟩ := hi
  have hb := ENTS_b k a hE
  have hk2 : k < 12 := by omega
  have bad : ∀ (b : Nat) (w1 w2 : Int32) (V : Nat → Int32), FAT n T b → TXO n T (0, J b, w1, w2, V) := fun b w1 w2 V hf => Or.inl ⟨rfl, b, rfl, hf⟩
  have tail : ∀ (a' : Nat) (num : Int32) (d x y : Int), a' ≤ n → a ≤ a' → (SAT T a' = 8 ∨ SAT T a' = 16 ∨ (SAT T a' = 15 ∧ (a' = n ∨ ¬ T a' = 48))) → (T a' = 59 → ENT T a (a' + 1 - a) d x y) → WP (f_X8_isText_L47 (J n) (J a') (J k) num (JA T) (JA (UP3 U k d x y))) (fun q => (∃ s', q = .inl s' ∧ k < 12 ∧ ∃ (a : Nat) (num : Int32) (U : Int → Int), s' = (J a, J ((k + 1 : Nat) : Int), num, JA U) ∧ (a < n ∨ n = 0 ∧ a = 0) ∧ SAT T a = 0 ∧ ENTS T U (k + 1) a) ∨ ∃ e, q = .inr e ∧ WP (TXE e) (TXO n T)) := by
    intro a' num d x y h1 h1a h2 h3
    rcases e_L47 (k := k) h h1 h2 num (JA (UP3 U k d x y)) with ⟨g1, g2, g3, g4⟩ | ⟨g1, g2⟩
    · have hnew : ENTS T (UP3 U k d x y) (k + 1) (a' + 1) := by
        obtain ⟨u1, u2, u3⟩ := UP3_at U k d x y
        refine ⟨a, a' + 1 - a, ENTS_congr k a (fun i i0 i1 => UP3_lo U k d x y i1) hE, by omega, ?_⟩
        rw [u1, u2, u3]
        exact h3 g2
      rw [g4]
      by_cases z : a' + 1 < n
      · rw [if_pos z]
        exact WP.ret (Or.inl ⟨_, rfl, hk2, a' + 1, num, _, rfl, Or.inl z, g3, hnew⟩)
      · rw [if_neg z]
        have e : a' + 1 = n := by omega
        rw [e] at g3 hnew ⊢
        refine WP.ret (Or.inr ⟨_, rfl, WP.ret (Or.inr ⟨rfl, by omega, g3, k + 1, _, rfl, rfl, by omega, by omega, hnew⟩)⟩)
    · exact WP.eq g2 (Or.inr ⟨_, rfl, WP.ret (bad a' _ _ _ g1)⟩)
  unfold f_X8_isText_B10
  dsimp only
  rcases w_skips h (a := a) (c := 76) (by omega) (by omega) with ⟨g1, g2, g3⟩ | ⟨g1, g2⟩
  · refine WP.ob g3 ?_
    have hs1 : SAT T (a + 1) = 1 := sa_s hs (by rw [g2]; rfl)
    rw [if_neg j1n]
    refine WP.bind (w_linkHere (U := U) h (a := a + 1) (by omega) hs1 (k := k) (by omega) num) fun o ho => ?_
    rcases ho with ⟨i1, e, i2, i3⟩ | ⟨i1, l, d, x, y, i2, i3, i4, i5, i6, i7⟩
    · rw [if_pos (show o.1 = 0 from i1), i2]
      exact WP.ret (Or.inr ⟨_, rfl, WP.ret (bad e _ _ _ i3)⟩)
    · subst i5
      rw [if_neg (by rw [i1]; decide), i2, i4]
      refine tail (a + 1 + 7) _ d x y i3 (by omega) (Or.inl i6) (fun g4 => Or.inl ⟨by omega, g2, ?_⟩)
      have e1 : ((a + 1 : Nat) : Int) = (a : Int) + 1 := rfl
      rw [e1, show (a : Int) + 1 + 1 = (a : Int) + 2 by omega, show (a : Int) + 1 + 2 = (a : Int) + 3 by omega, show (a : Int) + 1 + 3 = (a : Int) + 4 by omega, show (a : Int) + 1 + 4 = (a : Int) + 5 by omega, show (a : Int) + 1 + 5 = (a : Int) + 6 by omega, show (a : Int) + 1 + 6 = (a : Int) + 7 by omega] at i7
      rw [show ((a + 1 + 7 : Nat) : Int) = (a : Int) + 8 by omega] at g4
      exact ⟨i7.1, i7.2.1, i7.2.2.1, i7.2.2.2.1, i7.2.2.2.2.1, i7.2.2.2.2.2.1, i7.2.2.2.2.2.2, g4⟩
  · refine WP.ob g2 ?_
    rw [if_pos (by rfl)]
    rcases w_skips h (a := a) (c := 79) (by omega) (by omega) with ⟨k1, k2, k3⟩ | ⟨k1, k2⟩
    · refine WP.ob k3 ?_
      have hs1 : SAT T (a + 1) = 9 := sa_s hs (by rw [k2]; rfl)
      rw [if_neg j1n]
      refine WP.bind (w_stoneHere (U := U) h (a := a + 1) (by omega) hs1 (k := k) (by omega) num) fun o ho => ?_
      rcases ho with ⟨i1, e, i2, i3⟩ | ⟨i1, l, d, x, y, i2, i3, i4, i5, l1, l2, i6, i7, i8, i9, i10⟩
      · rw [if_pos (show o.1 = 0 from i1), i2]
        exact WP.ret (Or.inr ⟨_, rfl, WP.ret (bad e _ _ _ i3)⟩)
      · subst i5
        rw [if_neg (by rw [i1]; decide), i2, i4]
        refine tail (a + 1 + l) _ 0 x y i3 (by omega) (Or.inr i10) (fun g4 => Or.inr ⟨rfl, l1, l2, by omega, k2, i7, i8, ?_, ?_⟩)
        · rw [show a + 2 + l1 = a + 1 + 1 + l1 by omega]; exact i9
        · rw [show a + 2 + l1 + l2 = a + 1 + l by omega]; exact g4
    · refine WP.ob k2 ?_
      rw [if_pos (by rfl)]
      refine WP.ret (Or.inr ⟨_, rfl, WP.ret (bad a _ _ _ ⟨by omega, by omega, ?_⟩)⟩)
      rcases ha with ha | ⟨ha, ha2⟩
      · refine Or.inl ⟨ha, ?_⟩
        have y1 : ¬ T a = 76 := by rcases g1 with g1 | g1 <;> omega
        have y2 : ¬ T a = 79 := by rcases k1 with k1 | k1 <;> omega
        have : SAT T (a + 1) = -1 := sa_s hs (by unfold stp; omega)
        omega
      · exact Or.inr ⟨by omega, Or.inr ha⟩
/-! the class's side: the numbers of an entry -/
def GO {σ ε : Type} (b : σ → Option (σ ⊕ ε)) (s s' : σ) (k : Nat) : Prop := ∀ f : Nat, LPF b (f + k) s = LPF b f s'
theorem GO.one {σ ε : Type} {b : σ → Option (σ ⊕ ε)} {s s' : σ} (h : b s = some (.inl s')) : GO b s s' 1 := fun f => lpf_s h
theorem GO.ref {σ ε : Type} (b : σ → Option (σ ⊕ ε)) (s : σ) : GO b s s 0 := fun _ => rfl
theorem GO.tr {σ ε : Type} {b : σ → Option (σ ⊕ ε)} {s s' s'' : σ} {j k : Nat} (h1 : GO b s s' j) (h2 : GO b s' s'' k) : GO b s s'' (j + k) := fun f => by
  rw [show f + (j + k) = (f + k) + j by omega, h1, h2]
theorem GO.fin {σ ε : Type} {b : σ → Option (σ ⊕ ε)} {s s' : σ} {k : Nat} {e : ε} (h1 : GO b s s' k) (h2 : b s' = some (.inr e)) (hk : k < 1000000) : LPF b lfuel s = some e := by
  have e1 : lfuel = (lfuel - k - 1 + 1) + k := by
    show 1000000 = (1000000 - k - 1 + 1) + k
    omega
  rw [e1, h1]
  exact lpf_e h2
end
