/-! the present pose, and moves from it -/
section
variable {G v w : Int → Int} {f : Int} {l : Nat}
theorem CX_congr {k : Nat} (h : ∀ j : Int, 0 ≤ j → j < (k : Int) + 1 → v j = w j) (i : Int) : CX G v k i = CX G w k i ∧ CY G v k i = CY G w k i := by
  have h1 := PX_congr (G := G) k (fun j a b => h j a (by omega))
  have h2 := WY_congr k h
  unfold CX CY
  rw [h1.1, h1.2, h2]
  exact ⟨rfl, rfl⟩
theorem OUT_congr {k : Nat} (h : ∀ j : Int, 0 ≤ j → j < (k : Int) + 1 → v j = w j) : OUT G v k = OUT G w k := by
  have h1 := PX_congr (G := G) k (fun j a b => h j a (by omega))
  have h2 := PX_congr (G := G) (k + 1) (fun j a b => h j a (by omega))
  unfold OUT
  rw [h1.1, h1.2, h2.1, h2.2]
theorem HIT_congr {k : Nat} (h : ∀ j : Int, 0 ≤ j → j < (k : Int) + 1 → v j = w j) : HIT G v k = HIT G w k := by
  unfold HIT
  simp only [(CX_congr h _).1, (CX_congr h _).2]
theorem HAS_congr {k : Nat} (h : ∀ j : Int, 0 ≤ j → j < (k : Int) + 1 → v j = w j) (x y : Int) : HAS G v k x y = HAS G w k x y := by
  unfold HAS
  simp only [(CX_congr h _).1, (CX_congr h _).2]
theorem CRS_congr {k : Nat} (h : ∀ j : Int, 0 ≤ j → j < (k : Int) + 1 → v j = w j) : CRS G v k = CRS G w k := by
  have h1 := PX_congr (G := G) k (fun j a b => h j a (by omega))
  have key : ∀ a : Nat, a < k → CRA G v k a = CRA G w k a := by
    intro a ha
    have h2 : ∀ j : Int, 0 ≤ j → j < (a : Int) + 1 → v j = w j := fun j x y => h j x (by omega)
    unfold CRA
    simp only [(CX_congr h _).1, (CX_congr h _).2, HAS_congr h2, h1.1, h1.2]
  unfold CRS
  exact propext ⟨fun ⟨a, x, y⟩ => ⟨a, x, key a x ▸ y⟩, fun ⟨a, x, y⟩ => ⟨a, x, (key a x).symm ▸ y⟩⟩
theorem FS_congr (hl : WL G) (h : ∀ k : Int, 0 ≤ k → k < G 0 → v k = w k) (hf : FS G v f l) : FS G w f l := by
  have h1 := nn_eq hl
  have hk : ∀ k : Nat, k < nn G → ∀ j : Int, 0 ≤ j → j < (k : Int) + 1 → v j = w j := fun k hk j a b => h j a (by omega)
  rcases hf with ⟨e, a1⟩ | ⟨e, a1, a2, a3⟩ | ⟨e, a1, a2, a3, a4⟩ | ⟨e, a1, a2, a3, a4⟩
  · exact Or.inl ⟨e, fun j hj => by rw [← OUT_congr (hk j hj), ← HIT_congr (hk j hj), ← CRS_congr (hk j hj)]; exact a1 j hj⟩
  · exact Or.inr (Or.inl ⟨e, a1, by rw [← OUT_congr (hk l a1)]; exact a2, fun j hj => by rw [← OUT_congr (hk j (by omega))]; exact a3 j hj⟩)
  · exact Or.inr (Or.inr (Or.inl ⟨e, fun j hj => by rw [← OUT_congr (hk j hj)]; exact a1 j hj, a2, by rw [← HIT_congr (hk l a2)]; exact a3, fun j hj => by rw [← HIT_congr (hk j (by omega))]; exact a4 j hj⟩))
  · exact Or.inr (Or.inr (Or.inr ⟨e, fun j hj => by rw [← OUT_congr (hk j hj), ← HIT_congr (hk j hj)]; exact a1 j hj, a2, by rw [← CRS_congr (hk l a2)]; exact a3, fun j hj => by rw [← CRS_congr (hk j (by omega))]; exact a4 j hj⟩))
theorem FR_congr (hl : WL G) (h : ∀ k : Int, 0 ≤ k → k < G 0 → v k = w k) : FR G v ↔ FR G w := ⟨FS_congr hl h, FS_congr hl fun k a b => (h k a b).symm⟩
def NU (G : Int → Int) : Int := HN G (GV G) (nn G)
theorem NU_b (hw : WF G) : 0 ≤ NU G ∧ NU G < NP G := HN_now hw
theorem NU_DV (hw : WF G) {k : Int} (h0 : 0 ≤ k) (h1 : k < G 0) : DV G (NU G) k = GV G k := DV_HN hw.1 hw.2.1 h0 h1
theorem NU_FR (hw : WF G) : 0 ≤ TP G (NU G) ↔ FR G (GV G) := by
  have h1 := FR_congr (v := DV G (NU G)) (w := GV G) hw.1 (fun k a b => NU_DV hw a b)
  have h2 := TP_two G (NU G)
  constructor
  · intro h
    rcases h2 with ⟨z, -⟩ | ⟨-, z⟩
    · exact h1.mp z
    · omega
  · intro h
    rcases h2 with ⟨-, -, z, -⟩ | ⟨z, -⟩
    · exact z
    · exact absurd (h1.mpr h) z
/-- whether a move leads to a free pose -/
noncomputable def MM (G : Int → Int) (m : Int) : Prop := 0 ≤ BH G (NU G) m ∧ 0 ≤ TP G (BH G (NU G) m)
theorem MM_iff (hw : WF G) {m : Int} (h0 : 0 ≤ m) (h1 : m < 2 * G 0) : MM G m ↔ (-G (2 + 4 * (m / 2)) ≤ GV G (m / 2) + TU m ∧ GV G (m / 2) + TU m ≤ G (3 + 4 * (m / 2))) ∧ FR G (up (GV G) (m / 2) (GV G (m / 2) + TU m)) := by
  have hl := hw.1
  have hN := NU_b hw
  have e := BH_eq hl (NU G) m (by omega) (by omega)
  rw [NU_DV hw (by omega) (by omega)] at e
  by_cases q : -G (2 + 4 * (m / 2)) ≤ GV G (m / 2) + TU m ∧ GV G (m / 2) + TU m ≤ G (3 + 4 * (m / 2))
  · have hin := BH_in hl hw.2.1 h0 h1 q
    have hlim := LIM_up hw.2.1 q
    have h3 := HN_b hl hlim (nn G) (by have := nn_eq hl; omega)
    have h4 : 0 ≤ BH G (NU G) m := by
      show 0 ≤ BH G (HN G (GV G) (nn G)) m
      rw [hin]; exact h3.1
    have h5 := FR_congr (v := DV G (BH G (NU G) m)) (w := up (GV G) (m / 2) (GV G (m / 2) + TU m)) hl (fun k a b => by
      show DV G (BH G (HN G (GV G) (nn G)) m) k = _
      rw [hin]
      exact DV_HN hl hlim a b)
    have h6 := TP_two G (BH G (NU G) m)
    constructor
    · rintro ⟨-, z⟩
      refine ⟨q, h5.mp ?_⟩
      rcases h6 with ⟨y, -⟩ | ⟨-, y⟩
      · exact y
      · omega
    · rintro ⟨-, z⟩
      refine ⟨h4, ?_⟩
      rcases h6 with ⟨-, -, y, -⟩ | ⟨y, -⟩
      · exact y
      · exact absurd (h5.mpr z) y
  · rw [if_neg q] at e
    constructor
    · rintro ⟨z, -⟩; omega
    · rintro ⟨z, -⟩; exact absurd z q
end
section
variable {G : Int → Int} {S : Nat → Int → Int}
theorem SC.bl (hs : SC G S) : ∀ x y : Int, (-10 ≤ x ∧ x ≤ 10) ∧ -10 ≤ y ∧ y ≤ 10 → (ST (S 6) x y ↔ OS G x y) := hs.2.2
theorem SC.ln (hs : SC G S) : ∀ k : Int, 0 ≤ k → k < G 0 → S 0 k = G (1 + 4 * k) := fun k a b => (hs.1 k a b).1
theorem SC.vl (hs : SC G S) : ∀ k : Int, 0 ≤ k → k < G 0 → S 3 k = GV G k := fun k a b => (hs.1 k a b).2.2.2
theorem w_isFreeNow (hw : WF G) (hs : SC G S) (z1 z2 z3 z4 : Int32) (b c d t : Nat → Int32) : WP (f_X7_isFreeNow (J (G 0)) (JA (S 0)) (JA (S 3)) (JA (S 6)) z1 z2 z3 z4 b c d t) (fun o => (o.1 = J 1 ∧ FR G (GV G)) ∨ (o.1 = J 0 ∧ ¬ FR G (GV G))) := by
  unfold f_X7_isFreeNow
  refine WP.bind (w_along_own (v := GV G) hw.1 hw.2.2 hs.ln hs.vl hs.bl z1 z2 z3 z4 b c d t) fun o ho => ?_
  obtain ⟨f, l, B, C, D, g1, g2, -⟩ := ho
  have g3 := FS_c g1
  by_cases q : f = 0
  · rw [if_pos (by rw [g2, q]; rfl)]
    exact WP.ret (Or.inl ⟨rfl, (FR_of g1).mpr q⟩)
  · rw [if_neg (by rw [g2, show (0 : Int32) = J 0 from rfl, J_eqv (by omega)]; exact q)]
    exact WP.ret (Or.inr ⟨rfl, fun z => q ((FR_of g1).mp z)⟩)
theorem e_allows1 (hs : SC G S) (h0 : 0 ≤ G 0 ∧ G 0 ≤ 4) {k x : Int} (hw : WF G) (hk : 0 ≤ k ∧ k < G 0) (hx : -G (2 + 4 * k) ≤ x ∧ x ≤ G (3 + 4 * k)) : f_X4_allows (J (G 0)) (JA (S 1)) (JA (S 2)) (J k) (J x) = some (J 1) := by
  have h1 := hs.1 k hk.1 hk.2
  have h2 := hw.1.2 k hk.1 hk.2
  unfold f_X4_allows
  refine ob _ (e_hasLink1 (by omega)) ?_
  simp (disch := omega) only [↓reduceIte, j_lits, J_add, J_sub, J_mul, J_neg, J_le, J_lt, J_eqv, J_div, J_imax, J_imin, JA_get, JG, JA_upd, LET, Option.bind_some, lt_T, lt_F, le_T, le_F, eq_T, eq_F, and_true, true_and, Int.sub_neg, Int.natCast_add, n_lits, h1.2.1, h1.2.2.1]
theorem e_allows0 (hs : SC G S) (h0 : 0 ≤ G 0 ∧ G 0 ≤ 4) {k x : Int} (hw : WF G) (hk : 0 ≤ k ∧ k < G 0) (hr : (-2147483648 ≤ x ∧ x ≤ 2147483647)) (hx : ¬ (-G (2 + 4 * k) ≤ x ∧ x ≤ G (3 + 4 * k))) : f_X4_allows (J (G 0)) (JA (S 1)) (JA (S 2)) (J k) (J x) = some (J 0) := by
  have h1 := hs.1 k hk.1 hk.2
  have h2 := hw.1.2 k hk.1 hk.2
  unfold f_X4_allows
  refine ob _ (e_hasLink1 (by omega)) ?_
  by_cases q : x < -G (2 + 4 * k)
  · simp (disch := omega) only [↓reduceIte, j_lits, J_add, J_sub, J_mul, J_neg, J_le, J_lt, J_eqv, J_div, J_imax, J_imin, JA_get, JG, JA_upd, LET, Option.bind_some, lt_T, lt_F, le_T, le_F, eq_T, eq_F, and_true, true_and, Int.sub_neg, Int.natCast_add, n_lits, h1.2.1, h1.2.2.1]
  · simp (disch := omega) only [↓reduceIte, j_lits, J_add, J_sub, J_mul, J_neg, J_le, J_lt, J_eqv, J_div, J_imax, J_imin, JA_get, JG, JA_upd, LET, Option.bind_some, lt_T, lt_F, le_T, le_F, eq_T, eq_F, and_true, true_and, Int.sub_neg, Int.natCast_add, n_lits, h1.2.1, h1.2.2.1]
theorem w_leadsToFree (hw : WF G) (hs : SC G S) {m : Int} (hm : 0 ≤ m ∧ m < 2 * G 0) (z1 z2 z3 z4 : Int32) (b c d t tr : Nat → Int32) : WP (f_X7_leadsToFree (J (G 0)) (JA (S 0)) (JA (S 1)) (JA (S 2)) (JA (S 3)) (JA (S 6)) z1 z2 z3 z4 b c d t tr (J m)) (fun o => (o.1 = J 1 ∧ MM G m) ∨ (o.1 = J 0 ∧ ¬ MM G m)) := by
  have h0 := hw.1.1
  have h1 := hs.1 (m / 2) (by omega) (by omega)
  have h2 := hw.2.1 (m / 2) (by omega) (by omega)
  have h3 := hw.1.2 (m / 2) (by omega) (by omega)
  have h4 := TU_b m
  have h5 := MM_iff hw hm.1 hm.2
  obtain ⟨TR, rfl, -⟩ := JA_ex tr
  have hS : S 3 (m / 2) = GV G (m / 2) := h1.2.2.2
  unfold f_X7_leadsToFree
  refine WP.ob (e_jointOf (by omega)) ?_
  refine WP.ob (e_valueOf (by omega)) ?_
  refine WP.ob (e_turnOf m) ?_
  simp only [LET]
  rw [if_neg (by rw [show (0 : Int32) = J 0 from rfl, J_lt (by omega)]; omega), if_neg (by rw [show (4 : Int32) = J 4 from rfl, J_le (by omega)]; omega), J_add, hS]
  by_cases q : -G (2 + 4 * (m / 2)) ≤ GV G (m / 2) + TU m ∧ GV G (m / 2) + TU m ≤ G (3 + 4 * (m / 2))
  · refine WP.ob (e_allows1 hs h0 hw (by omega) q) ?_
    rw [if_neg (by decide), gcp4, cpy4, JG (by omega), JA_upd _ _ (by omega)]
    refine WP.bind (w_along_row (v := up (GV G) (m / 2) (GV G (m / 2) + TU m)) hw.1 hw.2.2 hs.ln (fun k a b => ?_) hs.bl z1 z2 z3 z4 b c d t) fun o ho => ?_
    · by_cases z : k = m / 2
      · rw [z, up_same, up_same]
      · rw [up_ne _ _ z, up_ne _ _ z, CP_in (by omega)]
        exact hs.vl k a b
    · obtain ⟨f, l, g1, g2, -⟩ := ho
      have g3 := FS_c g1
      by_cases z : f = 0
      · rw [if_pos (by rw [g2, z]; rfl)]
        exact WP.ret (Or.inl ⟨rfl, h5.mpr ⟨q, (FR_of g1).mpr z⟩⟩)
      · rw [if_neg (by rw [g2, show (0 : Int32) = J 0 from rfl, J_eqv (by omega)]; exact z)]
        exact WP.ret (Or.inr ⟨rfl, fun y => z ((FR_of g1).mp (h5.mp y).2)⟩)
  · refine WP.ob (e_allows0 hs h0 hw (by omega) (by omega) q) ?_
    rw [if_pos (by rfl)]
    exact WP.ret (Or.inr ⟨rfl, fun y => q (h5.mp y).1⟩)
theorem w_isFreeNow8 (hw : WF G) (fa : Int32) (po wy px py : Nat → Int32) (hx : Z0 px) (hy : Z0 py) : WP (f_X8_isFreeNow fa (JA G) po wy px py) (fun o => ((o.1 = J 1 ∧ FR G (GV G)) ∨ (o.1 = J 0 ∧ ¬ FR G (GV G))) ∧ Z0 o.2.2.2.2.1 ∧ Z0 o.2.2.2.2.2) := by
  unfold f_X8_isFreeNow
  refine WP.ob (e_numberNow hw.1) ?_
  refine WP.bind (w_isFree8 hw.1 hw.2.2 (NU_b hw) fa po wy px py hx hy) fun o ho => ?_
  obtain ⟨f, l, W, X, Y, g1, g2, ⟨g3, g4, g5⟩, g6, g7, g8, -⟩ := ho
  have h1 := NU_FR hw
  rw [g2]
  rcases FRI_c G (NU G) with ⟨e1, e2⟩ | ⟨e1, e2⟩
  · rw [e1]
    exact WP.ret ⟨Or.inl ⟨rfl, h1.mp e2⟩, ⟨X, g4, g7⟩, ⟨Y, g5, g8⟩⟩
  · rw [e1]
    exact WP.ret ⟨Or.inr ⟨rfl, fun z => by have := h1.mpr z; omega⟩, ⟨X, g4, g7⟩, ⟨Y, g5, g8⟩⟩
theorem w_mayMove (hw : WF G) {m : Int} (hm : 0 ≤ m ∧ m < 2 * G 0) (fa : Int32) (po wy px py : Nat → Int32) (hx : Z0 px) (hy : Z0 py) : WP (f_X8_mayMove fa (JA G) po wy px py (J m)) (fun o => ((o.1 = J 1 ∧ FR G (GV G) ∧ MM G m) ∨ (o.1 = J 0 ∧ ¬ (FR G (GV G) ∧ MM G m))) ∧ Z0 o.2.2.2.2.1 ∧ Z0 o.2.2.2.2.2) := by
  have h0 := hw.1.1
  have hN := NU_b hw
  have hP := NP_b hw.1
  have hlt := BH_lt hw.1 hm.1 hm.2 hN
  unfold f_X8_mayMove
  refine WP.ob (e_numberNow hw.1) ?_
  refine WP.ob (e_behind hw.1 hN hm) ?_
  by_cases q : BH G (NU G) m < 0
  · rw [if_pos (by
      have e : BH G (HN G (GV G) (nn G)) m = -1 := by
        have : BH G (HN G (GV G) (nn G)) m = BH G (NU G) m := rfl
        omega
      show J (BH G (HN G (GV G) (nn G)) m) < 0
      rw [e]; decide)]
    exact WP.ret ⟨Or.inr ⟨rfl, fun z => by have := z.2.1; omega⟩, hx, hy⟩
  · have hb := BH_b hw.1 hN hm.1 hm.2 (by omega)
    have hb : BH G (NU G) m < NP G := hb
    rw [show BH G (HN G (GV G) (nn G)) m = BH G (NU G) m from rfl, if_neg (by rw [show (0 : Int32) = J 0 from rfl, J_lt (by omega)]; exact q)]
    refine WP.bind (w_isFreeNow8 hw fa po wy px py hx hy) fun o ho => ?_
    obtain ⟨ho, hx', hy'⟩ := ho
    rcases ho with ⟨e, z⟩ | ⟨e, z⟩
    · rw [e, if_neg (by decide)]
      refine WP.bind (w_isFree8 (p := BH G (NU G) m) hw.1 hw.2.2 (by omega) _ _ _ _ _ hx' hy') fun o2 ho2 => ?_
      obtain ⟨f, l, W, X, Y, g1, g2, ⟨g3, g4, g5⟩, g6, g7, g8, -⟩ := ho2
      rw [g2]
      rcases FRI_c G (BH G (NU G) m) with ⟨e1, e2⟩ | ⟨e1, e2⟩
      · rw [e1, if_neg (by decide)]
        exact WP.ret ⟨Or.inl ⟨rfl, z, by omega, e2⟩, ⟨X, g4, g7⟩, ⟨Y, g5, g8⟩⟩
      · rw [e1, if_pos (by rfl)]
        exact WP.ret ⟨Or.inr ⟨rfl, fun y => by have := y.2.2; omega⟩, ⟨X, g4, g7⟩, ⟨Y, g5, g8⟩⟩
    · rw [e, if_pos (by rfl)]
      exact WP.ret ⟨Or.inr ⟨rfl, fun y => z y.1⟩, hx', hy'⟩
end
