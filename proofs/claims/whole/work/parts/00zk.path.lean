/-! pathLength, pathMove, pathChanges, errorPosition -/
def CHG (A : Int → Int) : Nat → Int
  | 0 => 0
  | k + 1 => if A ((k : Int) + 1) = A k then CHG A k else CHG A k + 1
section
variable {ss : Nat → Int32} {aa : Nat → Nat → Int32} {pl po : Nat → Int32} {pa : Nat → Nat → Nat → Int32} {ms : Nat → Int32} {ma : Nat → Nat → Int32} {G D E Q T A B sp st F F' : Int → Int} {S : Nat → Int → Int} {P : Int → Prop} {X : Nat → Int} {x y w N p q d : Int}
theorem CHG_b (A : Int → Int) : ∀ k : Nat, 0 ≤ CHG A k ∧ CHG A k ≤ k
  | 0 => ⟨Int.le_refl _, Int.le_refl _⟩
  | k + 1 => by
    have h := CHG_b A k
    show 0 ≤ (if A ((k : Int) + 1) = A k then CHG A k else CHG A k + 1) ∧ (if A ((k : Int) + 1) = A k then CHG A k else CHG A k + 1) ≤ ((k + 1 : Nat) : Int)
    by_cases z : A ((k : Int) + 1) = A k
    · rw [if_pos z]; omega
    · rw [if_neg z]; omega
theorem CHG_congr : ∀ k : Nat, (∀ i : Int, 0 ≤ i → i ≤ k → B i = A i) → CHG B k = CHG A k
  | 0, _ => rfl
  | k + 1, h => by
    show (if B ((k : Int) + 1) = B k then CHG B k else CHG B k + 1) = (if A ((k : Int) + 1) = A k then CHG A k else CHG A k + 1)
    rw [CHG_congr k (fun i a b => h i a (by omega)), h _ (by omega) (by omega), h k (by omega) (by omega)]
theorem e_stepAt {n : Int} (h : 0 ≤ x ∧ x < n ∧ n < 5000) : f_X3_stepAt (J n) (JA A) (J x) = some (J (A x)) := by
  unfold f_X3_stepAt
  simp (disch := omega) only [↓reduceIte, j_lits, J_add, J_sub, J_mul, J_neg, J_le, J_lt, J_eqv, J_div, J_imax, J_imin, JA_get, JG, JA_upd, LET, Option.bind_some, lt_T, lt_F, le_T, le_F, eq_T, eq_F, and_true, true_and, Int.sub_neg, Int.natCast_add, n_lits]
theorem e_chg7 {n : Nat} (hn : n < 5000) (hA : ∀ i : Int, 0 ≤ i → i < n → 0 ≤ A i ∧ A i < 8) : f_X3_changes (J n) (JA A) = some (J (CHG A (n - 1))) := by
  unfold f_X3_changes
  refine lp_bind (fun k : Nat => (J (CHG A k), J (1 + k))) (n - 1) rfl (by omega) (fun k hk => ?_) (e := J (CHG A (n - 1))) ?_ rfl
  · have h1 := hA (1 + (k : Int)) (by omega) (by omega)
    have h2 := hA k (by omega) (by omega)
    have h3 := CHG_b A k
    unfold f_X3_changes_B4
    dsimp only
    rw [if_neg (by rw [J_le (by omega)]; omega)]
    refine ob _ (e_stepAt (by omega)) ?_
    rw [show (1 : Int32) = J 1 from rfl, J_sub, show 1 + (k : Int) - 1 = k by omega]
    refine ob _ (e_stepAt (by omega)) ?_
    by_cases z : A (1 + (k : Int)) = A k
    · rw [if_pos (congrArg J z), show CHG A (k + 1) = CHG A k from if_pos (by rw [← z, show 1 + (k : Int) = (k : Int) + 1 by omega])]
      simp only [LET]
      rw [J_add, show 1 + (k : Int) + 1 = 1 + ((k + 1 : Nat) : Int) by omega]
    · rw [if_neg (by rw [J_eqv (by omega)]; exact z), show CHG A (k + 1) = CHG A k + 1 from if_neg (fun w => z (by rw [← w, show 1 + (k : Int) = (k : Int) + 1 by omega]))]
      simp only [LET]
      rw [J_add, J_add, show 1 + (k : Int) + 1 = 1 + ((k + 1 : Nat) : Int) by omega]
  · unfold f_X3_changes_B4
    dsimp only
    rw [if_pos (by rw [J_le (by omega)]; omega)]
theorem e_chg8 {n : Nat} (hn : n < 5000) (hA : ∀ i : Int, 0 ≤ i → i < n → 0 ≤ A i ∧ A i < 8) : f_X8_changesOf (J n) (JA A) = some (J (CHG A (n - 1))) := by
  unfold f_X8_changesOf
  refine lp_bind (fun k : Nat => (J (CHG A k), J (1 + k))) (n - 1) rfl (by omega) (fun k hk => ?_) (e := J (CHG A (n - 1))) ?_ rfl
  · have h1 := hA (1 + (k : Int)) (by omega) (by omega)
    have h2 := hA k (by omega) (by omega)
    have h3 := CHG_b A k
    unfold f_X8_changesOf_B4
    dsimp only
    rw [if_neg (by rw [J_le (by omega)]; omega), JG (by omega), show (1 : Int32) = J 1 from rfl, J_sub, show 1 + (k : Int) - 1 = k by omega, JG (by omega), JA_get _ (by omega), JA_get _ (by omega)]
    by_cases z : A (1 + (k : Int)) = A k
    · rw [if_pos (congrArg J z), show CHG A (k + 1) = CHG A k from if_pos (by rw [← z, show 1 + (k : Int) = (k : Int) + 1 by omega])]
      simp only [LET]
      rw [show (0 : Int32) = J 0 from rfl, J_add, J_add, show 1 + (k : Int) + 1 = 1 + ((k + 1 : Nat) : Int) by omega, Int.add_zero]
    · rw [if_neg (by rw [J_eqv (by omega)]; exact z), show CHG A (k + 1) = CHG A k + 1 from if_neg (fun w => z (by rw [← w, show 1 + (k : Int) = (k : Int) + 1 by omega]))]
      simp only [LET]
      rw [J_add, J_add, show 1 + (k : Int) + 1 = 1 + ((k + 1 : Nat) : Int) by omega]
  · unfold f_X8_changesOf_B4
    dsimp only
    rw [if_pos (by rw [J_le (by omega)]; omega)]
theorem call_pathLength (hR : REL ss aa pl po pa ms ma) : WP (f_X7_pathLength (ss 6) (ss 8) ) (fun r => WP (f_X8_pathLength (ms 2) (ms 4) ) (fun q => ((r.1 = 0 ∧ q.2 = J 0 ∧ r.2 = q.1) ∨ (r.1 = 4 ∧ q.2 = J 1)) ∧ REL ss aa pl po pa (va_up ms 4 q.2) ma)) := by
  obtain ⟨G, S, hn, hsv, hh, hsp, hrt, hbk, hin, her, hx, hy⟩ := hR
  have hrt0 := hrt
  rcases hrt with ⟨r1, r2⟩ | ⟨r1, r2, r3, n, p, X, A, B, r4, r5, r6, r7, r8, r9, r10, r11, r12, r13, r14, r15⟩
  · have h7 : (f_X7_pathLength (ss 6) (ss 8) ) = some (4, J 0) := by
      unfold f_X7_pathLength
      rw [r1]
      rfl
    have h8 : (f_X8_pathLength (ms 2) (ms 4) ) = some (J 0, J 1) := by
      unfold f_X8_pathLength
      rw [r2]
      rfl
    exact ⟨_, h7, _, h8, Or.inr ⟨rfl, rfl⟩, G, S, hn, hsv, hh, hsp, hrt0, hbk, hin, her, hx, hy⟩
  · have h7 : (f_X7_pathLength (ss 6) (ss 8) ) = some (0, J n) := by
      unfold f_X7_pathLength
      rw [r1, r5]
      rfl
    have h8 : (f_X8_pathLength (ms 2) (ms 4) ) = some (J n, J 0) := by
      unfold f_X8_pathLength
      rw [r8, if_pos (by rw [show (0 : Int32) = J 0 from rfl, J_le (by omega)]; omega)]
      rfl
    exact ⟨_, h7, _, h8, Or.inl ⟨rfl, rfl, rfl⟩, G, S, hn, hsv, hh, hsp, hrt0, hbk, hin, her, hx, hy⟩
theorem call_pathMove (hR : REL ss aa pl po pa ms ma) (x1 : Int32) : WP (f_X7_pathMove (ss 6) (ss 8) (aa 23) x1) (fun r => WP (f_X8_pathMove (ms 2) (ms 4) (ma 12) x1) (fun q => ((r.1 = 0 ∧ q.2 = J 0 ∧ r.2 = q.1) ∨ (r.1 = 4 ∧ q.2 = J 1)) ∧ REL ss aa pl po pa (va_up ms 4 q.2) ma)) := by
  obtain ⟨G, S, hn, hsv, hh, hsp, hrt, hbk, hin, her, hx, hy⟩ := hR
  have hrt0 := hrt
  obtain ⟨x, rfl, hxr⟩ := J_ex x1
  rcases hrt with ⟨r1, r2⟩ | ⟨r1, r2, r3, n, p, X, A, B, r4, r5, r6, r7, r8, r9, r10, r11, r12, r13, r14, r15⟩
  · have h7 : (f_X7_pathMove (ss 6) (ss 8) (aa 23) (J x)) = some (4, J 0) := by
      unfold f_X7_pathMove
      rw [r1]
      rfl
    have h8 : (f_X8_pathMove (ms 2) (ms 4) (ma 12) (J x)) = some (J 0, J 1) := by
      unfold f_X8_pathMove f_X8_pathMove_L20
      rw [r2]
      exact ob _ (show f_X8_in (J x) 0 (J (-2)) = some (J 0) from e_in0 (a := 0) (b := -2) (by omega)) rfl
    exact ⟨_, h7, _, h8, Or.inr ⟨rfl, rfl⟩, G, S, hn, hsv, hh, hsp, hrt0, hbk, hin, her, hx, hy⟩
  · by_cases z : 0 ≤ x ∧ x < n
    · have hb := r13 x z.1 z.2
      have h7 : (f_X7_pathMove (ss 6) (ss 8) (aa 23) (J x)) = some (0, J (A x)) := by
        unfold f_X7_pathMove
        rw [r1, r5, r7]
        refine ob 0 rfl ?_
        rw [if_pos rfl, if_neg (by rw [show (0 : Int32) = J 0 from rfl, J_lt (by omega)]; omega), if_pos (by rw [J_lt (by omega)]; omega)]
        exact ob _ (e_stepAt (by omega)) rfl
      have h8 : (f_X8_pathMove (ms 2) (ms 4) (ma 12) (J x)) = some (J (A x), J 0) := by
        unfold f_X8_pathMove f_X8_pathMove_L20
        rw [r8, r10, show (1 : Int32) = J 1 from rfl, J_sub]
        refine ob _ (e_in1 (a := 0) (by omega)) ?_
        rw [if_neg (by decide), if_pos (by decide), JG (by omega), JA_get _ (by omega), hb]
        rfl
      exact ⟨_, h7, _, h8, Or.inl ⟨rfl, rfl, rfl⟩, G, S, hn, hsv, hh, hsp, hrt0, hbk, hin, her, hx, hy⟩
    · have h7 : (f_X7_pathMove (ss 6) (ss 8) (aa 23) (J x)) = some (4, J 0) := by
        unfold f_X7_pathMove f_X7_pathMove_L19
        rw [r1, r5, r7]
        refine ob 0 rfl ?_
        by_cases y : x < 0
        · rw [if_pos rfl, if_pos (by rw [show (0 : Int32) = J 0 from rfl, J_lt (by omega)]; omega)]
          rfl
        · rw [if_pos rfl, if_neg (by rw [show (0 : Int32) = J 0 from rfl, J_lt (by omega)]; omega), if_neg (by rw [J_lt (by omega)]; omega)]
          rfl
      have h8 : (f_X8_pathMove (ms 2) (ms 4) (ma 12) (J x)) = some (J 0, J 1) := by
        unfold f_X8_pathMove f_X8_pathMove_L20
        rw [r8, show (1 : Int32) = J 1 from rfl, J_sub]
        exact ob _ (e_in0 (a := 0) (by omega)) rfl
      exact ⟨_, h7, _, h8, Or.inr ⟨rfl, rfl⟩, G, S, hn, hsv, hh, hsp, hrt0, hbk, hin, her, hx, hy⟩
theorem call_pathChanges (hR : REL ss aa pl po pa ms ma) : WP (f_X7_pathChanges (ss 6) (ss 8) (aa 23) ) (fun r => WP (f_X8_pathChanges (ms 2) (ms 4) (ma 12) ) (fun q => ((r.1 = 0 ∧ q.2 = J 0 ∧ r.2 = q.1) ∨ (r.1 = 4 ∧ q.2 = J 1)) ∧ REL ss aa pl po pa (va_up ms 4 q.2) ma)) := by
  obtain ⟨G, S, hn, hsv, hh, hsp, hrt, hbk, hin, her, hx, hy⟩ := hR
  have hrt0 := hrt
  have hw := hn.2.2.2.2
  have hl := hw.1
  have h0 := hl.1
  rcases hrt with ⟨r1, r2⟩ | ⟨r1, r2, r3, n, p, X, A, B, r4, r5, r6, r7, r8, r9, r10, r11, r12, r13, r14, r15⟩
  · have h7 : (f_X7_pathChanges (ss 6) (ss 8) (aa 23) ) = some (4, J 0) := by
      unfold f_X7_pathChanges
      rw [r1]
      rfl
    have h8 : (f_X8_pathChanges (ms 2) (ms 4) (ma 12) ) = some (J 0, J 1) := by
      unfold f_X8_pathChanges
      rw [r2]
      rfl
    exact ⟨_, h7, _, h8, Or.inr ⟨rfl, rfl⟩, G, S, hn, hsv, hh, hsp, hrt0, hbk, hin, her, hx, hy⟩
  · have hA : ∀ i : Int, 0 ≤ i → i < n → 0 ≤ A i ∧ A i < 8 := fun i a b => by
      have h := (r14.2 i.toNat (by omega)).1
      rw [show ((i.toNat : Nat) : Int) = i by omega] at h
      omega
    have h7 : (f_X7_pathChanges (ss 6) (ss 8) (aa 23) ) = some (0, J (CHG A (n - 1))) := by
      unfold f_X7_pathChanges
      rw [r1, r5, r7]
      refine ob 0 rfl ?_
      rw [if_pos rfl]
      exact ob _ (e_chg7 r11 hA) rfl
    have h8 : (f_X8_pathChanges (ms 2) (ms 4) (ma 12) ) = some (J (CHG A (n - 1)), J 0) := by
      have e : CHG B (n - 1) = CHG A (n - 1) := by
        by_cases z : n = 0
        · subst z; rfl
        · exact CHG_congr _ (fun i a b => r13 i a (by omega))
      unfold f_X8_pathChanges f_X8_pathChanges_L13
      rw [r8, r10, if_pos (by rw [show (0 : Int32) = J 0 from rfl, J_le (by omega)]; omega), if_pos (by decide)]
      refine ob _ (e_chg8 r11 (fun i a b => by rw [r13 i a b]; exact hA i a b)) ?_
      rw [e]
      rfl
    exact ⟨_, h7, _, h8, Or.inl ⟨rfl, rfl, rfl⟩, G, S, hn, hsv, hh, hsp, hrt0, hbk, hin, her, hx, hy⟩
theorem call_errorPosition (hR : REL ss aa pl po pa ms ma) : WP (f_X7_errorPosition (ss 1) ) (fun r => WP (f_X8_errorPosition (ms 4) (ms 9) ) (fun q => ((r.1 = 0 ∧ q.2 = J 0 ∧ r.2 = q.1) ∨ (r.1 = 4 ∧ q.2 = J 1)) ∧ REL ss aa pl po pa (va_up ms 4 q.2) ma)) := by
  obtain ⟨G, S, hn, hsv, hh, hsp, hrt, hbk, hin, her, hx, hy⟩ := hR
  have her0 := her
  obtain ⟨e, e1, e2, e3, e4⟩ := her
  by_cases z : 0 ≤ e
  · have h7 : (f_X7_errorPosition (ss 1) ) = some (0, J e) := by
      unfold f_X7_errorPosition
      rw [e1, if_pos (by rw [show (0 : Int32) = J 0 from rfl, J_le (by omega)]; omega)]
    have h8 : (f_X8_errorPosition (ms 4) (ms 9) ) = some (J e, J 0) := by
      unfold f_X8_errorPosition
      rw [e2, if_pos (by rw [show (0 : Int32) = J 0 from rfl, J_le (by omega)]; omega)]
      rfl
    exact ⟨_, h7, _, h8, Or.inl ⟨rfl, rfl, rfl⟩, G, S, hn, hsv, hh, hsp, hrt, hbk, hin, her0, hx, hy⟩
  · have h7 : (f_X7_errorPosition (ss 1) ) = some (4, J 0) := by
      unfold f_X7_errorPosition
      rw [e1, if_neg (by rw [show (0 : Int32) = J 0 from rfl, J_le (by omega)]; omega)]
      rfl
    have h8 : (f_X8_errorPosition (ms 4) (ms 9) ) = some (J 0, J 1) := by
      unfold f_X8_errorPosition
      rw [e2, if_neg (by rw [show (0 : Int32) = J 0 from rfl, J_le (by omega)]; omega)]
      rfl
    exact ⟨_, h7, _, h8, Or.inr ⟨rfl, rfl⟩, G, S, hn, hsv, hh, hsp, hrt, hbk, hin, her0, hx, hy⟩
end
