/-! read: the reference's descent -/
def TX (n : Nat) (T : Int → Int) : Prop := n ≤ 60 ∧ ∀ i : Int, 0 ≤ i → i < n → 32 ≤ T i ∧ T i ≤ 126
def CRD (T : Int → Int) (a l : Nat) (x : Int) : Prop := (l = 1 ∧ 48 ≤ T a ∧ T a ≤ 57 ∧ x = T a - 48) ∨ (l = 2 ∧ T a = 49 ∧ T ((a : Int) + 1) = 48 ∧ x = 10) ∨ (l = 2 ∧ T a = 45 ∧ 48 ≤ T ((a : Int) + 1) ∧ T ((a : Int) + 1) ≤ 57 ∧ x = -(T ((a : Int) + 1) - 48)) ∨ (l = 3 ∧ T a = 45 ∧ T ((a : Int) + 1) = 49 ∧ T ((a : Int) + 2) = 48 ∧ x = -10)
def ENL (T : Int → Int) (a : Nat) (d u v : Int) : Prop := T a = 76 ∧ (49 ≤ T ((a : Int) + 1) ∧ T ((a : Int) + 1) ≤ 53 ∧ d = T ((a : Int) + 1) - 48) ∧ T ((a : Int) + 2) = 40 ∧ T ((a : Int) + 3) = 45 ∧ (48 ≤ T ((a : Int) + 4) ∧ T ((a : Int) + 4) ≤ 56 ∧ u = T ((a : Int) + 4) - 48) ∧ T ((a : Int) + 5) = 44 ∧ (48 ≤ T ((a : Int) + 6) ∧ T ((a : Int) + 6) ≤ 56 ∧ v = T ((a : Int) + 6) - 48) ∧ T ((a : Int) + 7) = 41 ∧ T ((a : Int) + 8) = 59
def ENS (T : Int → Int) (a l : Nat) (x y : Int) : Prop := ∃ l1 l2 : Nat, l = 4 + l1 + l2 - 1 ∧ T a = 79 ∧ CRD T (a + 1) l1 x ∧ T ((a + 1 + l1 : Nat) : Int) = 44 ∧ CRD T (a + 2 + l1) l2 y ∧ T ((a + 2 + l1 + l2 : Nat) : Int) = 59
def ENT (T : Int → Int) (a l : Nat) (d x y : Int) : Prop := (l = 9 ∧ ENL T a d x y) ∨ (d = 0 ∧ ENS T a l x y)
def ENTS (T U : Int → Int) : Nat → Nat → Prop
  | 0, a => a = 0
  | k + 1, a => ∃ a0 l : Nat, ENTS T U k a0 ∧ a = a0 + l ∧ ENT T a0 l (U (3 * (k : Int))) (U (3 * (k : Int) + 1)) (U (3 * (k : Int) + 2))
section
variable {T U : Int → Int} {n a b e : Nat} {c s f x y lo hi : Int}
theorem j1n : ¬ (J 1 : Int32) = 0 := by decide
theorem or2 {A B P Q : Prop} (h : A ∨ (B ∧ P)) (k : P → Q) : A ∨ (B ∧ Q) := h.imp id (fun z => ⟨z.1, k z.2⟩)
theorem w_here (h : TX n T) (ha : a ≤ n) : f_X8_here (J n) (J a) (JA T) = some (J (if (a : Int) < n then T a else -1)) := by
  have h1 := h.1
  unfold f_X8_here
  by_cases z : (a : Int) < n
  · rw [if_neg (by rw [J_le (by omega)]; omega), JG (by omega), JA_get _ (by omega), if_pos z]
  · rw [if_pos (by rw [J_le (by omega)]; omega), if_neg z]
    rfl
theorem w_skips (h : TX n T) (ha : a ≤ n) (hc : 32 ≤ c ∧ c ≤ 126) : (a < n ∧ T a = c ∧ f_X8_skips (J n) (J a) (JA T) (J c) = some (J 1, J ((a + 1 : Nat) : Int))) ∨ ((a = n ∨ (a < n ∧ ¬ T a = c)) ∧ f_X8_skips (J n) (J a) (JA T) (J c) = some (J 0, J a)) := by
  have h1 := h.1
  unfold f_X8_skips
  by_cases z : a < n
  · have h2 := h.2 a (by omega) (by omega)
    by_cases y : T a = c
    · refine Or.inl ⟨z, y, ob _ (w_here h ha) ?_⟩
      rw [if_pos (show (a : Int) < n by omega), if_pos (congrArg J y)]
      simp only [LET]
      rw [show (1 : Int32) = J 1 from rfl, J_add]
      rfl
    · refine Or.inr ⟨Or.inr ⟨z, y⟩, ob _ (w_here h ha) ?_⟩
      rw [if_pos (show (a : Int) < n by omega), if_neg (by rw [J_eqv (by omega)]; exact y)]
      rfl
  · refine Or.inr ⟨Or.inl (by omega), ob _ (w_here h ha) ?_⟩
    rw [if_neg (show ¬ (a : Int) < n by omega), if_neg (by rw [J_eqv (by omega)]; omega)]
    rfl
theorem w_digit (h : TX n T) (ha : a ≤ n) (hl : 0 ≤ lo ∧ lo ≤ hi ∧ hi ≤ 9) (num : Int32) : (a < n ∧ (48 + lo ≤ T a ∧ T a ≤ 48 + hi) ∧ f_X8_digit (J n) (J a) num (JA T) (J lo) (J hi) = some (J 1, J ((a + 1 : Nat) : Int), J (T a - 48))) ∨ ((a = n ∨ (a < n ∧ ¬ (48 + lo ≤ T a ∧ T a ≤ 48 + hi))) ∧ f_X8_digit (J n) (J a) num (JA T) (J lo) (J hi) = some (J 0, J a, num)) := by
  have h1 := h.1
  unfold f_X8_digit
  rw [show (48 : Int32) = J 48 from rfl, J_add, J_add]
  by_cases z : a < n
  · have h2 := h.2 a (by omega) (by omega)
    have h3 := w_here h ha
    rw [if_pos (show (a : Int) < n by omega)] at h3
    by_cases y : 48 + lo ≤ T a ∧ T a ≤ 48 + hi
    · refine Or.inl ⟨z, y, ob _ h3 ?_⟩
      refine ob _ (e_in1 (by omega)) ?_
      rw [if_neg j1n]
      refine ob _ h3 ?_
      simp only [LET]
      rw [J_sub, show (1 : Int32) = J 1 from rfl, J_add]
      rfl
    · refine Or.inr ⟨Or.inr ⟨z, y⟩, ob _ h3 ?_⟩
      exact ob _ (e_in0 (by omega)) rfl
  · have h3 := w_here h ha
    rw [if_neg (show ¬ (a : Int) < n by omega)] at h3
    refine Or.inr ⟨Or.inl (by omega), ob _ h3 ?_⟩
    exact ob _ (e_in0 (by omega)) rfl
theorem fat_of (ha : a ≤ n) (hs : SAT T a = s) (h0 : 0 < s) (h : a = n ∨ (a < n ∧ stp s (T a) < 0)) : FAT n T a := by
  refine ⟨ha, by omega, ?_⟩
  rcases h with h | ⟨h, h2⟩
  · subst h
    exact Or.inr ⟨rfl, Or.inl (by omega)⟩
  · refine Or.inl ⟨h, ?_⟩
    show stp (SAT T a) (T a) < 0
    rw [hs]
    exact h2
theorem sa_s {r : Int} (hs : SAT T a = s) (h : stp s (T a) = r) : SAT T (a + 1) = r := by
  show stp (SAT T a) (T a) = r
  rw [hs]
  exact h
/-! a coordinate -/
def CTAIL (n a num : Int32) (T : Nat → Int32) (y : Int32) : Option (Int32 × Int32 × Int32) := (f_X8_digit n a num T 0 9).bind fun o_2 => if o_2.1 = 0 then (some ((0, o_2.2.1, o_2.2.2))) else (if o_2.2.2 = 1 then ((f_X8_skips n o_2.2.1 T 48).bind fun o_3 => if o_3.1 = 0 then (f_X8_coordinate_L42 n o_3.2 o_2.2.2 T y) else (f_X8_coordinate_L42 n o_3.2 10 T y)) else (f_X8_coordinate_L42 n o_2.2.1 o_2.2.2 T y))
def CPO (n : Nat) (T : Int → Int) (f : Int) (b : Nat) (P : Nat → Int → Prop) (o : Int32 × Int32 × Int32) : Prop := (o.1 = J 0 ∧ ∃ e : Nat, o.2.1 = J e ∧ FAT n T e) ∨ (o.1 = J 1 ∧ ∃ (l : Nat) (x : Int), o.2.1 = J ((b + l : Nat) : Int) ∧ o.2.2 = J x ∧ b + l ≤ n ∧ P l x ∧ (SAT T (b + l) = f + 3 ∨ (SAT T (b + l) = f + 2 ∧ (b + l = n ∨ ¬ T ((b + l : Nat) : Int) = 48))))
theorem w_ctail (h : TX n T) (ha : b ≤ n) (hf : f = 9 ∨ f = 13) (hs : SAT T b = s) (h1 : (s = f ∧ (b = n ∨ ¬ T b = 45)) ∨ s = f + 1) (num : Int32) {y : Int32} {sg : Int} (hy : ∀ at0 x : Int, f_X8_coordinate_L42 (J n) (J at0) (J x) (JA T) y = some (J 1, J at0, J (sg * x))) :
    WP (CTAIL (J n) (J b) num (JA T) y) (CPO n T f b (fun l x => (l = 1 ∧ 48 ≤ T b ∧ T b ≤ 57 ∧ x = sg * (T b - 48)) ∨ (l = 2 ∧ T b = 49 ∧ T ((b : Int) + 1) = 48 ∧ x = sg * 10))) := by
  have q1 : stp s 49 = f + 2 := by rcases hf with rfl | rfl <;> rcases h1 with ⟨rfl, -⟩ | rfl <;> rfl
  have q2 : ∀ c : Int, 48 ≤ c → c ≤ 57 → ¬ c = 49 → stp s c = f + 3 := by
    intro c c0 c1 c2
    rcases hf with rfl | rfl <;> rcases h1 with ⟨rfl, -⟩ | rfl <;> (unfold stp; omega)
  have q3 : ∀ c : Int, ¬ (48 ≤ c ∧ c ≤ 57) → ¬ c = 45 ∨ s = f + 1 → stp s c < 0 := by
    intro c c0 c1
    rcases hf with rfl | rfl <;> rcases h1 with ⟨rfl, -⟩ | rfl <;> (unfold stp; omega)
  have q4 : stp (f + 2) 48 = f + 3 := by rcases hf with rfl | rfl <;> rfl
  unfold CTAIL
  rcases w_digit h ha (lo := 0) (hi := 9) (by omega) num with ⟨d1, d2, d3⟩ | ⟨d1, d2⟩
  · refine WP.ob d3 ?_
    rw [if_neg j1n]
    have hT := h.2 b (by omega) (by omega)
    by_cases z : T b = 49
    · have hs1 : SAT T (b + 1) = f + 2 := sa_s hs (by rw [z]; exact q1)
      rw [if_pos (by rw [z]; rfl)]
      rcases w_skips h (a := b + 1) (c := 48) (by omega) (by omega) with ⟨g1, g2, g3⟩ | ⟨g1, g2⟩
      · refine WP.ob g3 ?_
        rw [if_neg j1n]
        refine WP.eq (hy _ 10) (Or.inr ⟨rfl, 2, _, rfl, rfl, by omega, Or.inr ⟨rfl, z, g2, rfl⟩, Or.inl ?_⟩)
        exact sa_s hs1 (by rw [g2]; exact q4)
      · refine WP.ob g2 ?_
        rw [if_pos (by rfl)]
        refine WP.eq (hy _ _) (Or.inr ⟨rfl, 1, _, rfl, rfl, by omega, Or.inl ⟨rfl, by omega, by omega, rfl⟩, Or.inr ⟨hs1, ?_⟩⟩)
        rcases g1 with g1 | ⟨-, g1⟩
        · exact Or.inl g1
        · exact Or.inr g1
    · rw [if_neg (by rw [show (1 : Int32) = J 1 from rfl, J_eqv (by omega)]; omega)]
      refine WP.eq (hy _ _) (Or.inr ⟨rfl, 1, _, rfl, rfl, by omega, Or.inl ⟨rfl, by omega, by omega, rfl⟩, Or.inl ?_⟩)
      exact sa_s hs (q2 _ (by omega) (by omega) z)
  · refine WP.ob d2 ?_
    rw [if_pos (by rfl)]
    refine WP.ret (Or.inl ⟨rfl, b, rfl, fat_of ha hs (by omega) ?_⟩)
    rcases d1 with d1 | ⟨d1, d3⟩
    · exact Or.inl d1
    · refine Or.inr ⟨d1, q3 _ (by omega) ?_⟩
      rcases h1 with ⟨-, h1⟩ | h1
      · exact Or.inl (h1.resolve_left (by omega))
      · exact Or.inr h1
theorem w_coordinate (h : TX n T) (ha : a ≤ n) (hf : f = 9 ∨ f = 13) (hs : SAT T a = f) (num : Int32) : WP (f_X8_coordinate (J n) (J a) num (JA T)) (CPO n T f a (CRD T a)) := by
  have e : f_X8_coordinate (J n) (J a) num (JA T) = (f_X8_skips (J n) (J a) (JA T) (J 45)).bind fun o_1 => CTAIL (J n) o_1.2 num (JA T) o_1.1 := rfl
  rw [e]
  rcases w_skips h ha (c := 45) (by omega) with ⟨g1, g2, g3⟩ | ⟨g1, g2⟩
  · refine WP.ob g3 ?_
    have hs1 : SAT T (a + 1) = f + 1 := sa_s hs (by rw [g2]; rcases hf with rfl | rfl <;> rfl)
    refine WP.mono (w_ctail h (b := a + 1) (sg := -1) (by omega) hf hs1 (Or.inr rfl) num (fun at0 x => ?_)) fun o ho => ?_
    · unfold f_X8_coordinate_L42 f_X8_coordinate_L59
      rw [if_neg j1n, J_neg, show -1 * x = -x by omega]
      rfl
    · rcases ho with ho | ⟨ho, l, x, o1, o2, o3, o4, o5⟩
      · exact Or.inl ho
      · have e1 : a + 1 + l = a + (l + 1) := by omega
        rw [e1] at o1 o3 o5
        refine Or.inr ⟨ho, l + 1, x, o1, o2, o3, ?_, o5⟩
        rw [show ((a + 1 : Nat) : Int) = (a : Int) + 1 from rfl, show (a : Int) + 1 + 1 = (a : Int) + 2 by omega] at o4
        rcases o4 with o4 | o4
        · exact Or.inr (Or.inr (Or.inl ⟨by omega, g2, by omega, by omega, by omega⟩))
        · exact Or.inr (Or.inr (Or.inr ⟨by omega, g2, by omega, by omega, by omega⟩))
  · refine WP.ob g2 ?_
    refine WP.mono (w_ctail h (b := a) (sg := 1) ha hf hs (Or.inl ⟨rfl, ?_⟩) num (fun at0 x => ?_)) fun o ho => ?_
    · rcases g1 with g1 | ⟨-, g1⟩
      · exact Or.inl g1
      · exact Or.inr g1
    · unfold f_X8_coordinate_L42 f_X8_coordinate_L59
      rw [if_pos (by rfl), Int.one_mul]
      rfl
    · rcases ho with ho | ⟨ho, l, x, o1, o2, o3, o4, o5⟩
      · exact Or.inl ho
      · refine Or.inr ⟨ho, l, x, o1, o2, o3, ?_, o5⟩
        rcases o4 with o4 | o4
        · exact Or.inl ⟨by omega, by omega, by omega, by omega⟩
        · exact Or.inr (Or.inl ⟨by omega, by omega, by omega, by omega⟩)
/-! links and obstacles -/
def UP3 (U : Int → Int) (k d x y : Int) : Int → Int := up (up (up U (3 * k) d) (3 * k + 1) x) (3 * k + 2) y
def EPO (n : Nat) (T U : Int → Int) (k : Int) (a : Nat) (P : Nat → Int → Int → Int → Prop) (o : Int32 × Int32 × Int32 × (Nat → Int32)) : Prop := (o.1 = J 0 ∧ ∃ e : Nat, o.2.1 = J e ∧ FAT n T e) ∨ (o.1 = J 1 ∧ ∃ (l : Nat) (d x y : Int), o.2.1 = J ((a + l : Nat) : Int) ∧ a + l ≤ n ∧ o.2.2.2 = JA (UP3 U k d x y) ∧ P l d x y)
theorem w_linkHere (h : TX n T) (ha : a ≤ n) (hs : SAT T a = 1) {k : Int} (hk : 0 ≤ k ∧ 3 * k + 2 < 60) (num : Int32) : WP (f_X8_linkHere (J n) (J a) (J k) num (JA T) (JA U)) (EPO n T U k a (fun l d x y => l = 7 ∧ SAT T (a + 7) = 8 ∧ (49 ≤ T a ∧ T a ≤ 53 ∧ d = T a - 48) ∧ T ((a : Int) + 1) = 40 ∧ T ((a : Int) + 2) = 45 ∧ (48 ≤ T ((a : Int) + 3) ∧ T ((a : Int) + 3) ≤ 56 ∧ x = T ((a : Int) + 3) - 48) ∧ T ((a : Int) + 4) = 44 ∧ (48 ≤ T ((a : Int) + 5) ∧ T ((a : Int) + 5) ≤ 56 ∧ y = T ((a : Int) + 5) - 48) ∧ T ((a : Int) + 6) = 41)) := by
  have bad : ∀ (b : Nat) (s : Int) (w : Int32) (V : Nat → Int32), b ≤ n → SAT T b = s → 0 < s → (b = n ∨ (b < n ∧ stp s (T b) < 0)) → ∀ P, EPO n T U k a P (0, J b, w, V) := fun b s w V h1 h2 h3 h4 P => Or.inl ⟨rfl, b, rfl, fat_of h1 h2 h3 h4⟩
  unfold f_X8_linkHere
  rcases w_digit h ha (lo := 1) (hi := 5) (by omega) num with ⟨d1, d2, d3⟩ | ⟨d1, d2⟩
  · refine WP.ob d3 ?_
    have hs1 : SAT T (a + 1) = 2 := sa_s hs (by unfold stp; omega)
    rw [if_neg j1n, show (3 : Int32) = J 3 from rfl, J_mul, JG (by omega)]
    simp only [LET]
    rw [JA_upd _ _ (by omega)]
    rcases w_skips h (a := a + 1) (c := 40) (by omega) (by omega) with ⟨g1, g2, g3⟩ | ⟨g1, g2⟩
    · refine WP.ob g3 ?_
      have hs2 : SAT T (a + 2) = 3 := sa_s hs1 (by rw [g2]; rfl)
      rw [if_neg j1n]
      rcases w_skips h (a := a + 2) (c := 45) (by omega) (by omega) with ⟨i1, i2, i3⟩ | ⟨i1, i2⟩
      · refine WP.ob i3 ?_
        have hs3 : SAT T (a + 3) = 4 := sa_s hs2 (by rw [i2]; rfl)
        rw [if_neg j1n]
        rcases w_digit h (a := a + 3) (by omega) (lo := 0) (hi := 8) (by omega) (J (T a - 48)) with ⟨j1, j2, j3⟩ | ⟨j1, j2⟩
        · refine WP.ob j3 ?_
          have hs4 : SAT T (a + 4) = 5 := sa_s hs3 (by unfold stp; omega)
          rw [if_neg j1n, show (1 : Int32) = J 1 from rfl, J_add, JG (by omega), JA_upd _ _ (by omega)]
          rcases w_skips h (a := a + 4) (c := 44) (by omega) (by omega) with ⟨k1, k2, k3⟩ | ⟨k1, k2⟩
          · refine WP.ob k3 ?_
            have hs5 : SAT T (a + 5) = 6 := sa_s hs4 (by rw [k2]; rfl)
            rw [if_neg j1n]
            rcases w_digit h (a := a + 5) (by omega) (lo := 0) (hi := 8) (by omega) (J (T ((a + 3 : Nat) : Int) - 48)) with ⟨l1, l2, l3⟩ | ⟨l1, l2⟩
            · refine WP.ob l3 ?_
              have hs6 : SAT T (a + 6) = 7 := sa_s hs5 (by unfold stp; omega)
              rw [if_neg j1n, show (2 : Int32) = J 2 from rfl, J_add, JG (by omega), JA_upd _ _ (by omega)]
              rcases w_skips h (a := a + 6) (c := 41) (by omega) (by omega) with ⟨m1, m2, m3⟩ | ⟨m1, m2⟩
              · refine WP.ob m3 ?_
                have hs7 : SAT T (a + 7) = 8 := sa_s hs6 (by rw [m2]; rfl)
                rw [show (J 1, J ((a + 6 + 1 : Nat) : Int)).1 = J 1 from rfl, JB1]
                refine WP.ret (Or.inr ⟨rfl, 7, _, _, _, rfl, by omega, rfl, rfl, hs7, ⟨by omega, by omega, rfl⟩, g2, i2, ⟨?_, ?_, rfl⟩, k2, ⟨?_, ?_, rfl⟩, m2⟩)
                · have := j2.1; show 48 ≤ T ((a + 3 : Nat) : Int); omega
                · have := j2.2; show T ((a + 3 : Nat) : Int) ≤ 56; omega
                · have := l2.1; show 48 ≤ T ((a + 5 : Nat) : Int); omega
                · have := l2.2; show T ((a + 5 : Nat) : Int) ≤ 56; omega
              · refine WP.ob m2 ?_
                rw [show (J 0, J ((a + 6 : Nat) : Int)).1 = J 0 from rfl, JB0]
                exact WP.ret (bad (a + 6) 7 _ _ (by omega) hs6 (by omega) (or2 m1 (fun w => by unfold stp; omega)) _)
            · refine WP.ob l2 ?_
              rw [if_pos (by rfl)]
              exact WP.ret (bad (a + 5) 6 _ _ (by omega) hs5 (by omega) (or2 l1 (fun w => by unfold stp; omega)) _)
          · refine WP.ob k2 ?_
            rw [if_pos (by rfl)]
            exact WP.ret (bad (a + 4) 5 _ _ (by omega) hs4 (by omega) (or2 k1 (fun w => by unfold stp; omega)) _)
        · refine WP.ob j2 ?_
          rw [if_pos (by rfl)]
          exact WP.ret (bad (a + 3) 4 _ _ (by omega) hs3 (by omega) (or2 j1 (fun w => by unfold stp; omega)) _)
      · refine WP.ob i2 ?_
        rw [if_pos (by rfl)]
        exact WP.ret (bad (a + 2) 3 _ _ (by omega) hs2 (by omega) (or2 i1 (fun w => by unfold stp; omega)) _)
    · refine WP.ob g2 ?_
      rw [if_pos (by rfl)]
      exact WP.ret (bad (a + 1) 2 _ _ (by omega) hs1 (by omega) (or2 g1 (fun w => by unfold stp; omega)) _)
  · refine WP.ob d2 ?_
    rw [if_pos (by rfl)]
    exact WP.ret (bad a 1 _ _ ha hs (by omega) (or2 d1 (fun w => by unfold stp; omega)) _)
theorem w_stoneHere (h : TX n T) (ha : a ≤ n) (hs : SAT T a = 9) {k : Int} (hk : 0 ≤ k ∧ 3 * k + 2 < 60) (num : Int32) : WP (f_X8_stoneHere (J n) (J a) (J k) num (JA T) (JA U)) (EPO n T U k a (fun l d x y => d = 0 ∧ ∃ l1 l2 : Nat, l = 1 + l1 + l2 ∧ CRD T a l1 x ∧ T ((a + l1 : Nat) : Int) = 44 ∧ CRD T (a + 1 + l1) l2 y ∧ (SAT T (a + l) = 16 ∨ (SAT T (a + l) = 15 ∧ (a + l = n ∨ ¬ T ((a + l : Nat) : Int) = 48))))) := by
  unfold f_X8_stoneHere
  rw [show (3 : Int32) = J 3 from rfl, J_mul, JG (by omega), show (0 : Int32) = J 0 from rfl]
  simp only [LET]
  rw [JA_upd _ _ (by omega)]
  refine WP.bind (w_coordinate h ha (Or.inl rfl) hs num) fun o ho => ?_
  rcases ho with ⟨h1, e, h2, h3⟩ | ⟨h1, l1, x, h2, h3, h4, h5, h6⟩
  · rw [if_pos h1]
    exact WP.ret (Or.inl ⟨rfl, e, h2, h3⟩)
  · rw [if_neg (by rw [h1]; decide), h2, h3, show (1 : Int32) = J 1 from rfl, J_add, JG (by omega), JA_upd _ _ (by omega)]
    rcases w_skips h (a := a + l1) (c := 44) h4 (by omega) with ⟨g1, g2, g3⟩ | ⟨g1, g2⟩
    · refine WP.ob g3 ?_
      rw [if_neg (show ¬ (J 1 : Int32) = J 0 by decide)]
      have hs1 : SAT T (a + l1 + 1) = 13 := by
        rcases h6 with h6 | ⟨h6, -⟩
        · exact sa_s h6 (by rw [g2]; rfl)
        · exact sa_s h6 (by rw [g2]; rfl)
      refine WP.bind (w_coordinate h (a := a + l1 + 1) (by omega) (Or.inr rfl) hs1 (J x)) fun o ho => ?_
      rcases ho with ⟨i1, e, i2, i3⟩ | ⟨i1, l2, y, i2, i3, i4, i5, i6⟩
      · rw [if_pos i1]
        exact WP.ret (Or.inl ⟨rfl, e, i2, i3⟩)
      · rw [if_neg (by rw [i1]; decide), i2, i3, show (2 : Int32) = J 2 from rfl, J_add, JG (by omega), JA_upd _ _ (by omega)]
        have e1 : a + l1 + 1 + l2 = a + (1 + l1 + l2) := by omega
        have e2 : a + l1 + 1 = a + 1 + l1 := by omega
        rw [e1] at i4 i6
        rw [e2] at i5
        refine WP.ret (Or.inr ⟨rfl, 1 + l1 + l2, 0, x, y, ?_, i4, rfl, rfl, l1, l2, rfl, h5, g2, i5, i6⟩)
        rw [← e1]
    · refine WP.ob g2 ?_
      rw [if_pos (by rfl)]
      refine WP.ret (Or.inl ⟨rfl, a + l1, rfl, ?_⟩)
      rcases h6 with h6 | ⟨h6, h7⟩
      · refine fat_of h4 h6 (by omega) ?_
        rcases g1 with m1 | ⟨m1, m3⟩
        · exact Or.inl m1
        · exact Or.inr ⟨m1, by unfold stp; omega⟩
      · refine fat_of h4 h6 (by omega) ?_
        rcases g1 with m1 | ⟨m1, m3⟩
        · exact Or.inl m1
        · have := h7.resolve_left (by omega)
          exact Or.inr ⟨m1, by unfold stp; omega⟩
end
