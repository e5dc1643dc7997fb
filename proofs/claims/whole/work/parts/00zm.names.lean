/-! append, bookmark, planToName -/
section
variable {ss : Nat → Int32} {aa : Nat → Nat → Int32} {pl po : Nat → Int32} {pa : Nat → Nat → Nat → Int32} {ms : Nat → Int32} {ma : Nat → Nat → Int32} {G G' D E Q T A B sp st F F' U JO VA NM ND : Int → Int} {S : Nat → Int → Int} {P : Int → Prop} {X Y M : Nat → Int} {x y w N p q d m c : Int}
theorem gcp_ok {α : Type} {a b n : Int} {n0 n1 : Nat} {k : Option α} (h : (0 ≤ a ∧ 0 ≤ b ∧ 0 ≤ n) ∧ (a + n ≤ n0 ∧ b + n ≤ n1) ∧ a ≤ 2147483647 ∧ b ≤ 2147483647 ∧ n ≤ 2147483647) : GCP (J a) (J b) (J n) n0 n1 k = k := by
  unfold GCP
  refine if_neg ?_
  rw [J_nat (by omega), J_nat (by omega), J_nat (by omega), show (0 : Int32) = J 0 from rfl, J_lt (by omega), J_lt (by omega), J_lt (by omega)]
  omega
def CPY (F D : Int → Int) (a b n : Int) : Int → Int := fun i => if b ≤ i ∧ i < b + n then F (a + (i - b)) else D i
theorem cpy_ok {a b n : Int} (h : (0 ≤ a ∧ 0 ≤ b ∧ 0 ≤ n) ∧ a ≤ 2147483647 ∧ b ≤ 2147483647 ∧ n ≤ 2147483647) : va_cpy (JA F) (JA D) (J a).toNatClampNeg (J b).toNatClampNeg (J n).toNatClampNeg = JA (CPY F D a b n) := by
  funext k
  rw [J_nat (by omega), J_nat (by omega), J_nat (by omega)]
  show (if b.toNat ≤ k ∧ k < b.toNat + n.toNat then J (F ((a.toNat + (k - b.toNat) : Nat) : Int)) else J (D k)) = J (if b ≤ (k : Int) ∧ (k : Int) < b + n then F (a + (k - b)) else D k)
  by_cases q : b ≤ (k : Int) ∧ (k : Int) < b + n
  · rw [if_pos (by omega), if_pos q]
    exact congrArg J (congrArg F (by omega))
  · rw [if_neg (by omega), if_neg q]
theorem nar_cc (h : 0 ≤ c ∧ c ≤ 126) : vp_nar .char (J c) = J c := by
  have h1 : ∀ n : Fin 127, vp_nar .char (J n.val) = J n.val := by decide
  have h2 := h1 ⟨c.toNat, by omega⟩
  rw [show ((⟨c.toNat, by omega⟩ : Fin 127).val : Int) = c by show ((c.toNat : Nat) : Int) = c; omega] at h2
  exact h2
theorem call_append (hR : REL ss aa pl po pa ms ma) (x1 : Int32) (hc : ∃ c : Int, x1 = J c ∧ 0 ≤ c ∧ c ≤ 65535) : WP (f_X7_append (ss 23) (aa 28) x1) (fun r => WP (f_X8_append (ms 4) (ms 7) (ma 16) x1) (fun q => ((r.1 = 0 ∧ q.2.1 = J 0 ∧ r.2.1 = q.1) ∨ (r.1 = 1 ∧ q.2.1 = J 1) ∨ (r.1 = 2 ∧ q.2.1 = J 2)) ∧ REL (va_up ss 23 r.2.2.1) (va_up aa 28 r.2.2.2) pl po pa (va_up (va_up ms 4 q.2.1) 7 q.2.2.1) (va_up ma 16 q.2.2.2))) := by
  obtain ⟨G, S, hn, hsv, hh, hsp, hrt, hbk, hin, her, hx, hy⟩ := hR
  obtain ⟨c, rfl, hc0, hc1⟩ := hc
  have hin0 := hin
  obtain ⟨n, C, T, i1, i2, i3, i4, i5, i6⟩ := hin
  by_cases q : 32 ≤ c ∧ c ≤ 126
  · by_cases z : n = 60
    · have h7 : (f_X7_append (ss 23) (aa 28) (J c)) = some (2, J 0, (ss 23), (aa 28)) := by
        unfold f_X7_append
        rw [i1, if_neg (by rw [show (32 : Int32) = J 32 from rfl, J_lt (by omega)]; omega), if_pos (by rw [show (126 : Int32) = J 126 from rfl, J_le (by omega)]; omega), if_neg (by rw [show (60 : Int32) = J 60 from rfl, J_lt (by omega)]; omega)]
        rfl
      have h8 : (f_X8_append (ms 4) (ms 7) (ma 16) (J c)) = some (J 0, J 2, (ms 7), (ma 16)) := by
        unfold f_X8_append
        refine ob _ (e_in1 (x := c) (a := 32) (b := 126) (by omega)) ?_
        rw [i2, if_neg (by decide), z]
        rfl
      exact ⟨_, h7, _, h8, Or.inr (Or.inr ⟨rfl, rfl⟩), G, S, hn, hsv, hh, hsp, hrt, hbk, hin0, her, hx, hy⟩
    · have h7 : (f_X7_append (ss 23) (aa 28) (J c)) = some (0, J (n + 1), J (n + 1), JA (up C n c)) := by
        unfold f_X7_append
        rw [i1, i3, if_neg (by rw [show (32 : Int32) = J 32 from rfl, J_lt (by omega)]; omega), if_pos (by rw [show (126 : Int32) = J 126 from rfl, J_le (by omega)]; omega), if_pos (by rw [show (60 : Int32) = J 60 from rfl, J_lt (by omega)]; omega)]
        refine ob (J (n + 1), JA (up C n c)) ?_ rfl
        unfold f_X2_put
        rw [if_neg (by rw [show (0 : Int32) = J 0 from rfl, J_lt (by omega)]; omega), if_neg (by rw [show (60 : Int32) = J 60 from rfl, J_le (by omega)]; omega), JG (by omega), nar_cc (by omega), JA_upd _ _ (by omega), show (1 : Int32) = J 1 from rfl, J_add]
        rfl
      have h8 : (f_X8_append (ms 4) (ms 7) (ma 16) (J c)) = some (J (n + 1), J 0, J (n + 1), JA (up T n c)) := by
        unfold f_X8_append
        refine ob _ (e_in1 (x := c) (a := 32) (b := 126) (by omega)) ?_
        rw [i2, i4, if_neg (by decide), if_neg (by rw [show (60 : Int32) = J 60 from rfl, J_eqv (by omega)]; exact z)]
        unfold f_X8_append_L30
        rw [if_pos (by decide), JG (by omega), JA_upd _ _ (by omega), show (1 : Int32) = J 1 from rfl, J_add]
        rfl
      refine ⟨_, h7, _, h8, Or.inl ⟨rfl, rfl, rfl⟩, G, S, hn, hsv, hh, hsp, hrt, hbk, ⟨n + 1, up C n c, up T n c, rfl, rfl, rfl, rfl, by omega, fun i a b => ?_⟩, her, hx, hy⟩
      by_cases y : i = n
      · rw [y, up_same, up_same]; omega
      · rw [up_ne _ _ y, up_ne _ _ y]
        exact i6 i a (by omega)
  · have h7 : (f_X7_append (ss 23) (aa 28) (J c)) = some (1, J 0, (ss 23), (aa 28)) := by
      unfold f_X7_append f_X7_append_L12
      by_cases y : c < 32
      · rw [if_pos (by rw [show (32 : Int32) = J 32 from rfl, J_lt (by omega)]; omega)]
        rfl
      · rw [if_neg (by rw [show (32 : Int32) = J 32 from rfl, J_lt (by omega)]; omega), if_neg (by rw [show (126 : Int32) = J 126 from rfl, J_le (by omega)]; omega)]
        rfl
    have h8 : (f_X8_append (ms 4) (ms 7) (ma 16) (J c)) = some (J 0, J 1, (ms 7), (ma 16)) := by
      unfold f_X8_append
      refine ob _ (e_in0 (x := c) (a := 32) (b := 126) (by omega)) ?_
      rw [if_pos (by rfl)]
      rfl
    exact ⟨_, h7, _, h8, Or.inr (Or.inl ⟨rfl, rfl⟩), G, S, hn, hsv, hh, hsp, hrt, hbk, hin0, her, hx, hy⟩
/-! names -/
def BK (U JO VA NM ND : Int → Int) : Prop := ∀ c : Int, 0 ≤ c → c < 26 → (U c = 1 ∧ NM c = JO c ∧ (0 ≤ NM c ∧ NM c ≤ 4) ∧ ∀ k : Int, 0 ≤ k → k < NM c → VA (4 * c + k) = ND (4 * c + k) ∧ -8 ≤ ND (4 * c + k) ∧ ND (4 * c + k) ≤ 8) ∨ (U c = 0 ∧ NM c = -1)
theorem BK_c (h : BK U JO VA NM ND) (hc : 0 ≤ c ∧ c < 26) : (U c = 1 ∧ 0 ≤ NM c ∧ NM c ≤ 4) ∨ (U c = 0 ∧ NM c = -1) := by
  rcases h c hc.1 hc.2 with ⟨a, -, b, -⟩ | h
  · exact Or.inl ⟨a, b⟩
  · exact Or.inr h
theorem CU_up : ∀ n : Nat, 0 ≤ c → CU (up U c x) n = CU U n + (if c < n then x - U c else 0)
  | 0, h => by rw [if_neg (by omega)]; rfl
  | n + 1, h => by
    show CU (up U c x) n + up U c x n = CU U n + U n + _
    rw [CU_up n h]
    by_cases z : c = n
    · rw [← z, up_same, if_neg (by omega), if_pos (by omega)]; omega
    · rw [up_ne _ _ (fun e => z e.symm)]
      by_cases y : c < n
      · rw [if_pos y, if_pos (by omega)]; omega
      · rw [if_neg y, if_neg (by omega)]; omega
theorem CU_b (h : ∀ c : Int, 0 ≤ c → c < 26 → 0 ≤ U c ∧ U c ≤ 1) : ∀ n : Nat, n ≤ 26 → 0 ≤ CU U n ∧ CU U n ≤ n
  | 0, _ => ⟨Int.le_refl _, Int.le_refl _⟩
  | n + 1, hn => by
    have h1 := CU_b h n (by omega)
    have h2 := h n (by omega) (by omega)
    show 0 ≤ CU U n + U n ∧ CU U n + U n ≤ ((n + 1 : Nat) : Int)
    omega
theorem BK_01 (h : BK U JO VA NM ND) : ∀ c : Int, 0 ≤ c → c < 26 → 0 ≤ U c ∧ U c ≤ 1 := fun c a b => by
  rcases BK_c h ⟨a, b⟩ with z | z <;> omega
theorem e_hasN1 (hc : 0 ≤ c ∧ c < 26) (h : U c = 1) : f_X0_has (JA U) (J c) = some (J 1) := by
  unfold f_X0_has
  simp (disch := omega) only [↓reduceIte, j_lits, J_add, J_sub, J_mul, J_neg, J_le, J_lt, J_eqv, J_div, J_imax, J_imin, JA_get, JG, JA_upd, LET, Option.bind_some, lt_T, lt_F, le_T, le_F, eq_T, eq_F, and_true, true_and, Int.sub_neg, Int.natCast_add, n_lits, h]
theorem e_hasN0 (hc : 0 ≤ c ∧ c < 26) (h : U c = 0) : f_X0_has (JA U) (J c) = some (J 0) := by
  unfold f_X0_has
  simp (disch := omega) only [↓reduceIte, j_lits, J_add, J_sub, J_mul, J_neg, J_le, J_lt, J_eqv, J_div, J_imax, J_imin, JA_get, JG, JA_upd, LET, Option.bind_some, lt_T, lt_F, le_T, le_F, eq_T, eq_F, and_true, true_and, Int.sub_neg, Int.natCast_add, n_lits, h]
theorem e_requireName1 (h : 0 ≤ c - 97 ∧ c - 97 < 26) : f_X7_requireName (J c) = some 0 := by
  unfold f_X7_requireName
  simp (disch := omega) only [↓reduceIte, j_lits, J_add, J_sub, J_mul, J_neg, J_le, J_lt, J_eqv, J_div, J_imax, J_imin, JA_get, JG, JA_upd, LET, Option.bind_some, lt_T, lt_F, le_T, le_F, eq_T, eq_F, and_true, true_and, Int.sub_neg, Int.natCast_add, n_lits]
theorem e_requireName0 (h : (0 ≤ c ∧ c ≤ 65535) ∧ ¬ (0 ≤ c - 97 ∧ c - 97 < 26)) : f_X7_requireName (J c) = some 1 := by
  unfold f_X7_requireName f_X7_requireName_L12
  by_cases y : c < 97
  · simp (disch := omega) only [↓reduceIte, j_lits, J_add, J_sub, J_mul, J_neg, J_le, J_lt, J_eqv, J_div, J_imax, J_imin, JA_get, JG, JA_upd, LET, Option.bind_some, lt_T, lt_F, le_T, le_F, eq_T, eq_F, and_true, true_and, Int.sub_neg, Int.natCast_add, n_lits]
  · simp (disch := omega) only [↓reduceIte, j_lits, J_add, J_sub, J_mul, J_neg, J_le, J_lt, J_eqv, J_div, J_imax, J_imin, JA_get, JG, JA_upd, LET, Option.bind_some, lt_T, lt_F, le_T, le_F, eq_T, eq_F, and_true, true_and, Int.sub_neg, Int.natCast_add, n_lits]
theorem e_used8 (h : BK U JO VA NM ND) : f_X8_used (JA NM) = some (J (CU U 26)) := by
  obtain ⟨N, hN⟩ : ∃ N : Nat, N = 26 := ⟨_, rfl⟩
  unfold f_X8_used
  rw [← hN]
  refine lp_bind (fun k : Nat => (J (CU U k), J k)) N rfl (by omega) (fun k hk => ?_) (e := J (CU U N)) ?_ rfl
  · unfold f_X8_used_B4
    dsimp only
    rw [if_neg (by rw [show (26 : Int32) = J 26 from rfl, J_le (by omega)]; omega), JG (by omega), JA_get _ (by omega)]
    have e : CU U (k + 1) = CU U k + U k := rfl
    rcases BK_c h (c := k) (by omega) with z | z
    · rw [z.1] at e
      rw [e, if_neg (by rw [show (0 : Int32) = J 0 from rfl, J_lt (by omega)]; omega)]
      simp only [LET]
      rw [show (1 : Int32) = J 1 from rfl, J_add, J_add]
      rfl
    · rw [z.1] at e
      rw [e, if_pos (by rw [show (0 : Int32) = J 0 from rfl, J_lt (by omega)]; omega)]
      simp only [LET]
      rw [show (1 : Int32) = J 1 from rfl, show (0 : Int32) = J 0 from rfl, J_add, J_add]
      rfl
  · unfold f_X8_used_B4
    dsimp only
    rw [if_pos (by rw [show (26 : Int32) = J 26 from rfl, J_le (by omega)]; omega)]
theorem BK_put (h : BK U JO VA NM ND) (hc : 0 ≤ c ∧ c < 26) (hw : WF G) {vl : Int → Int} (hv : ∀ k : Int, 0 ≤ k → k < G 0 → vl k = G (4 + 4 * k)) {ND' : Int → Int} (hD : ∀ i : Int, ND' i = if 4 * c ≤ i ∧ i < 4 * c + G 0 then G (4 + 4 * (i - 4 * c)) else ND i) : BK (up U c 1) (up JO c (G 0)) (CPY vl VA 0 (c * 4) 4) (up NM c (G 0)) ND' := by
  intro e e0 e1
  have h0 := hw.1.1
  by_cases z : e = c
  · subst z
    rw [up_same, up_same, up_same]
    refine Or.inl ⟨rfl, rfl, by omega, fun k k0 k1 => ?_⟩
    have a := hw.1.2 k k0 k1
    have b := hw.2.1 k k0 k1
    have b : -G (2 + 4 * k) ≤ G (4 + 4 * k) ∧ G (4 + 4 * k) ≤ G (3 + 4 * k) := b
    rw [hD, if_pos (by omega), show 4 * e + k - 4 * e = k by omega]
    unfold CPY
    rw [if_pos (by omega), show 0 + (4 * e + k - e * 4) = k by omega, hv k k0 k1]
    omega
  · rw [up_ne _ _ z, up_ne _ _ z, up_ne _ _ z]
    rcases h e e0 e1 with ⟨a, b, c1, d⟩ | ⟨a, b⟩
    · refine Or.inl ⟨a, b, c1, fun k k0 k1 => ?_⟩
      have d := d k k0 k1
      rw [hD, if_neg (by omega)]
      unfold CPY
      rw [if_neg (by omega)]
      exact d
    · exact Or.inr ⟨a, b⟩
def NDF (G ND : Int → Int) (c : Int) (n : Nat) : Int → Int := fun i => if 4 * c ≤ i ∧ i < 4 * c + n then G (4 + 4 * (i - 4 * c)) else ND i
theorem e_named8 (h0 : 0 ≤ G 0 ∧ G 0 ≤ 4) (hc : 0 ≤ c ∧ c < 26) (nm : Nat → Int32) (u : Int32) : LPF (fun z => f_X8_bookmark_B69 u (JA G) nm z.1 (J c) z.2) lfuel (JA ND, 0) = some (JA (NDF G ND c (G 0).toNat)) := by
  refine lp_for (fun k : Nat => (JA (NDF G ND c k), J k)) (G 0).toNat ?_ (by omega) (fun k hk => ?_) ?_
  · have e : NDF G ND c 0 = ND := funext fun i => if_neg (by omega)
    show _ = (JA (NDF G ND c 0), J 0)
    rw [e]
    rfl
  · have e : up (NDF G ND c k) (4 * c + k) (G (4 + 4 * k)) = NDF G ND c (k + 1) := by
      funext i
      by_cases z : i = 4 * c + k
      · rw [z, up_same]
        unfold NDF
        rw [if_pos (by omega), show 4 * c + (k : Int) - 4 * c = k by omega]
      · rw [up_ne _ _ z]
        unfold NDF
        by_cases y : 4 * c ≤ i ∧ i < 4 * c + k
        · rw [if_pos y, if_pos (by omega)]
        · rw [if_neg y, if_neg (by omega)]
    unfold f_X8_bookmark_B69
    dsimp only
    rw [show (0 : Int32) = J 0 from rfl, JG (by omega), JA_get _ (by omega), if_neg (by rw [J_le (by omega)]; omega), show (4 : Int32) = J 4 from rfl, J_mul, J_mul, J_add, J_add, JG (by omega), JG (by omega), JA_get _ (by omega), JA_upd _ _ (by omega), e, show (1 : Int32) = J 1 from rfl, J_add]
    rfl
  · unfold f_X8_bookmark_B69
    dsimp only
    rw [show (0 : Int32) = J 0 from rfl, JG (by omega), JA_get _ (by omega), if_pos (by rw [J_le (by omega)]; omega)]
theorem e_put0 (hc : 0 ≤ c ∧ c < 26) (h : U c = 0) {n : Int} (hn : 0 ≤ n ∧ n ≤ 26) : f_X0_put (J n) (JA U) (JA JO) (JA VA) (J x) (JA F) (J c) = some (J (n + 1), JA (up U c 1), JA (up JO c x), JA (CPY F VA 0 (c * 4) 4)) := by
  unfold f_X0_put f_X0_put_L37
  rw [if_neg (by rw [show (0 : Int32) = J 0 from rfl, J_lt (by omega)]; omega), if_pos (by rw [show (26 : Int32) = J 26 from rfl, J_lt (by omega)]; omega), JG (by omega), JA_get _ (by omega), h, if_pos (by rfl), JG (by omega), show (1 : Int32) = J 1 from rfl, nar1, JA_upd _ _ (by omega)]
  simp only [LET]
  rw [JG (by omega), JA_upd _ _ (by omega), J_add, show (4 : Int32) = J 4 from rfl, J_mul, show (0 : Int32) = J 0 from rfl, gcp_ok (by omega), cpy_ok (by omega)]
theorem e_put1 (hc : 0 ≤ c ∧ c < 26) (h : U c = 1) {n : Int} : f_X0_put (J n) (JA U) (JA JO) (JA VA) (J x) (JA F) (J c) = some (J n, JA U, JA (up JO c x), JA (CPY F VA 0 (c * 4) 4)) := by
  unfold f_X0_put f_X0_put_L37
  rw [if_neg (by rw [show (0 : Int32) = J 0 from rfl, J_lt (by omega)]; omega), if_pos (by rw [show (26 : Int32) = J 26 from rfl, J_lt (by omega)]; omega), JG (by omega), JA_get _ (by omega), h, if_neg (by decide), JG (by omega), JA_upd _ _ (by omega)]
  simp only [LET]
  rw [show (4 : Int32) = J 4 from rfl, J_mul, show (0 : Int32) = J 0 from rfl, gcp_ok (by omega), cpy_ok (by omega)]
theorem call_bookmark (hR : REL ss aa pl po pa ms ma) (x1 : Int32) (hc : ∃ c : Int, x1 = J c ∧ 0 ≤ c ∧ c ≤ 65535) : WP (f_X7_bookmark (ss 10) (aa 4) (ss 22) (aa 25) (aa 26) (aa 27) x1) (fun r => WP (f_X8_bookmark (ms 4) (ma 0) (ma 14) (ma 15) x1) (fun q => ((r.1 = 0 ∧ q.2.1 = J 0 ∧ r.2.1 = q.1) ∨ (r.1 = 1 ∧ q.2.1 = J 1) ∨ (r.1 = 2 ∧ q.2.1 = J 2)) ∧ REL (va_up ss 22 r.2.2.1) (va_up (va_up (va_up aa 25 r.2.2.2.1) 26 r.2.2.2.2.1) 27 r.2.2.2.2.2) pl po pa (va_up ms 4 q.2.1) (va_up (va_up ma 14 q.2.2.1) 15 q.2.2.2))) := by
  obtain ⟨G, S, hn, hsv, hh, hsp, hrt, hbk, hin, her, hx, hy⟩ := hR
  obtain ⟨c, rfl, hc0, hc1⟩ := hc
  have hn0 := hn
  obtain ⟨⟨n1, n2⟩, ⟨n3, n4, n5, n6, n7, n8, n9⟩, n10, hs, hw⟩ := hn
  have h0 := hw.1.1
  have hbk0 := hbk
  obtain ⟨U, JO, VA, NM, ND, b1, b2, b3, b4, b5, b6, b7, b8⟩ := hbk
  have b8 : BK U JO VA NM ND := b8
  have hU := CU_b (BK_01 b8) 26 (Nat.le_refl _)
  by_cases q : 0 ≤ c - 97 ∧ c - 97 < 26
  · have hnd := BK_put b8 q hw (vl := S 3) (ND' := NDF G ND (c - 97) (G 0).toNat) (fun k a b => hs.vl k a b) (fun i => by unfold NDF; rw [show (((G 0).toNat : Nat) : Int) = G 0 by omega])
    have hCU := CU_up (U := U) (c := c - 97) (x := 1) 26 q.1
    rw [if_pos (by omega)] at hCU
    have h8 : ∀ t : Int32, f_X8_bookmark_L43 t (JA G) (JA NM) (JA ND) (J (c - 97)) (J 0) = some (J (CU (up U (c - 97) 1) 26), J 0, JA (up NM (c - 97) (G 0)), JA (NDF G ND (c - 97) (G 0).toNat)) := by
      intro t
      unfold f_X8_bookmark_L43
      rw [if_pos (by decide), show (0 : Int32) = J 0 from rfl, JG (by omega), JG (by omega), JA_get _ (by omega), JA_upd _ _ (by omega)]
      simp only [LET]
      refine ob _ (e_named8 (c := c - 97) h0 q _ _) ?_
      exact ob _ (e_used8 hnd) rfl
    rcases BK_c b8 q with ⟨z1, z2⟩ | ⟨z1, z2⟩
    · rw [z1] at hCU
      have h7 : (f_X7_bookmark (ss 10) (aa 4) (ss 22) (aa 25) (aa 26) (aa 27) (J c)) = some (0, J (CU U 26), (ss 22), (aa 25), JA (up JO (c - 97) (G 0)), JA (CPY (S 3) VA 0 ((c - 97) * 4) 4)) := by
        unfold f_X7_bookmark
        simp only [n1, n2, n3, n4, n5, n6, n7, n8, n9, n10, b1, b2, b3, b4]
        refine ob _ (e_requireName1 q) ?_
        rw [if_pos rfl, show (97 : Int32) = J 97 from rfl, J_sub]
        refine ob _ (e_hasN1 q z1) ?_
        rw [if_neg (by decide)]
        unfold f_X7_bookmark_L41
        rw [show (97 : Int32) = J 97 from rfl, J_sub]
        exact ob _ (e_put1 q z1) rfl
      have h8' : (f_X8_bookmark (ms 4) (ma 0) (ma 14) (ma 15) (J c)) = some (J (CU (up U (c - 97) 1) 26), J 0, JA (up NM (c - 97) (G 0)), JA (NDF G ND (c - 97) (G 0).toNat)) := by
        unfold f_X8_bookmark
        rw [show (97 : Int32) = J 97 from rfl, J_sub, n10, b5, b6]
        simp only [LET]
        refine ob _ (e_in1 (a := 0) (b := 25) (by omega)) ?_
        rw [if_neg (by decide), JG (by omega), JA_get _ (by omega), if_pos (by rw [show (0 : Int32) = J 0 from rfl, J_le (by omega)]; omega)]
        exact h8 _
      have e1 : up U (c - 97) 1 = U := by
        funext i
        by_cases y : i = c - 97
        · rw [y, up_same, z1]
        · rw [up_ne _ _ y]
      rw [e1] at hnd
      refine ⟨_, h7, _, h8', Or.inl ⟨rfl, rfl, congrArg J (by omega)⟩, G, S, hn0, hsv, hh, hsp, hrt, ⟨U, _, _, _, _, b1, b2, rfl, rfl, rfl, rfl, b7, hnd⟩, hin, her, hx, hy⟩
    · rw [z1] at hCU
      by_cases y : CU U 26 < 6
      · have h7 : (f_X7_bookmark (ss 10) (aa 4) (ss 22) (aa 25) (aa 26) (aa 27) (J c)) = some (0, J (CU U 26 + 1), J (CU U 26 + 1), JA (up U (c - 97) 1), JA (up JO (c - 97) (G 0)), JA (CPY (S 3) VA 0 ((c - 97) * 4) 4)) := by
          unfold f_X7_bookmark
          simp only [n1, n2, n3, n4, n5, n6, n7, n8, n9, n10, b1, b2, b3, b4]
          refine ob _ (e_requireName1 q) ?_
          rw [if_pos rfl, show (97 : Int32) = J 97 from rfl, J_sub]
          refine ob _ (e_hasN0 q z1) ?_
          rw [if_pos (by rfl), if_pos (by rw [show (6 : Int32) = J 6 from rfl, J_lt (by omega)]; omega)]
          unfold f_X7_bookmark_L41
          rw [show (97 : Int32) = J 97 from rfl, J_sub]
          exact ob _ (e_put0 q z1 (by omega)) rfl
        have h8' : (f_X8_bookmark (ms 4) (ma 0) (ma 14) (ma 15) (J c)) = some (J (CU (up U (c - 97) 1) 26), J 0, JA (up NM (c - 97) (G 0)), JA (NDF G ND (c - 97) (G 0).toNat)) := by
          unfold f_X8_bookmark
          rw [show (97 : Int32) = J 97 from rfl, J_sub, n10, b5, b6]
          simp only [LET]
          refine ob _ (e_in1 (a := 0) (b := 25) (by omega)) ?_
          rw [if_neg (by decide), JG (by omega), JA_get _ (by omega), if_neg (by rw [show (0 : Int32) = J 0 from rfl, J_le (by omega)]; omega)]
          refine ob _ (e_used8 b8) ?_
          rw [if_neg (by rw [show (6 : Int32) = J 6 from rfl, J_eqv (by omega)]; omega)]
          exact h8 _
        exact ⟨_, h7, _, h8', Or.inl ⟨rfl, rfl, congrArg J (by omega)⟩, G, S, hn0, hsv, hh, hsp, hrt, ⟨_, _, _, _, _, congrArg J (by omega), rfl, rfl, rfl, rfl, rfl, by omega, hnd⟩, hin, her, hx, hy⟩
      · have h7 : (f_X7_bookmark (ss 10) (aa 4) (ss 22) (aa 25) (aa 26) (aa 27) (J c)) = some (2, J 0, (ss 22), (aa 25), (aa 26), (aa 27)) := by
          unfold f_X7_bookmark
          simp only [n1, n2, n3, n4, n5, n6, n7, n8, n9, n10, b1, b2, b3, b4]
          refine ob _ (e_requireName1 q) ?_
          rw [if_pos rfl, show (97 : Int32) = J 97 from rfl, J_sub]
          refine ob _ (e_hasN0 q z1) ?_
          rw [if_pos (by rfl), if_neg (by rw [show (6 : Int32) = J 6 from rfl, J_lt (by omega)]; omega)]
          rfl
        have h8' : (f_X8_bookmark (ms 4) (ma 0) (ma 14) (ma 15) (J c)) = some (J 0, J 2, (ma 14), (ma 15)) := by
          unfold f_X8_bookmark
          rw [show (97 : Int32) = J 97 from rfl, J_sub, n10, b5, b6]
          simp only [LET]
          refine ob _ (e_in1 (a := 0) (b := 25) (by omega)) ?_
          rw [if_neg (by decide), JG (by omega), JA_get _ (by omega), if_neg (by rw [show (0 : Int32) = J 0 from rfl, J_le (by omega)]; omega)]
          refine ob _ (e_used8 b8) ?_
          rw [if_pos (by rw [show (6 : Int32) = J 6 from rfl, J_eqv (by omega)]; omega)]
          rfl
        exact ⟨_, h7, _, h8', Or.inr (Or.inr ⟨rfl, rfl⟩), G, S, hn0, hsv, hh, hsp, hrt, hbk0, hin, her, hx, hy⟩
  · have h7 : (f_X7_bookmark (ss 10) (aa 4) (ss 22) (aa 25) (aa 26) (aa 27) (J c)) = some (1, J 0, (ss 22), (aa 25), (aa 26), (aa 27)) := by
      unfold f_X7_bookmark
      exact ob _ (e_requireName0 ⟨⟨hc0, hc1⟩, q⟩) rfl
    have h8 : (f_X8_bookmark (ms 4) (ma 0) (ma 14) (ma 15) (J c)) = some (J 0, J 1, (ma 14), (ma 15)) := by
      unfold f_X8_bookmark
      rw [show (97 : Int32) = J 97 from rfl, J_sub, n10]
      simp only [LET]
      exact ob _ (e_in0 (a := 0) (b := 25) (by omega)) rfl
    exact ⟨_, h7, _, h8, Or.inr (Or.inl ⟨rfl, rfl⟩), G, S, hn0, hsv, hh, hsp, hrt, hbk0, hin, her, hx, hy⟩
end
