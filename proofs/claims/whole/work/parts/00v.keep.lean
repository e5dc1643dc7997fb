/-! clear, undo, save, restore -/
section
variable {ss : Nat → Int32} {aa : Nat → Nat → Int32} {pl po : Nat → Int32} {pa : Nat → Nat → Nat → Int32} {ms : Nat → Int32} {ma : Nat → Nat → Int32} {G : Int → Int} {S D : Nat → Int → Int}
theorem rows7 (a b c d e f g : Nat → Int32) : ∃ D : Nat → Int → Int, a = JA (D 0) ∧ b = JA (D 1) ∧ c = JA (D 2) ∧ d = JA (D 3) ∧ e = JA (D 4) ∧ f = JA (D 5) ∧ g = JA (D 6) := by
  obtain ⟨A, rfl, -⟩ := JA_ex a
  obtain ⟨B, rfl, -⟩ := JA_ex b
  obtain ⟨C, rfl, -⟩ := JA_ex c
  obtain ⟨D, rfl, -⟩ := JA_ex d
  obtain ⟨E, rfl, -⟩ := JA_ex e
  obtain ⟨F, rfl, -⟩ := JA_ex f
  obtain ⟨H, rfl, -⟩ := JA_ex g
  exact ⟨fun q => match q with
    | 0 => A
    | 1 => B
    | 2 => C
    | 3 => D
    | 4 => E
    | 5 => F
    | _ => H, rfl, rfl, rfl, rfl, rfl, rfl, rfl⟩
theorem RHIS_0 {ch old pasts : Int32} {past : Nat → Int32} (h : RHIS ch old pl po pa pasts past) : RHIS (J 0) old pl po pa (J 0) past := by
  obtain ⟨c, o, P, e1, e2, e3, e4, h5⟩ := h
  exact ⟨0, o, P, rfl, e2, rfl, e4, ⟨by omega, by omega, h5.1.2.2⟩, fun i i0 i1 => by omega⟩
theorem call_clear (hR : REL ss aa pl po pa ms ma) : WP (f_X7_clear (ss 10) (ss 11) (aa 0) (ss 12) (ss 2) (ss 6) ) (fun r => WP (f_X8_clear (ms 1) (ms 2) (ms 4) (ma 0) ) (fun q => (r.1 = q.1) ∧ REL (va_up (va_up (va_up (va_up (va_up ss 10 r.2.1) 11 r.2.2.1) 12 r.2.2.2.2.1) 2 r.2.2.2.2.2.1) 6 r.2.2.2.2.2.2) (va_up aa 0 r.2.2.2.1) pl po pa (va_up (va_up (va_up ms 1 q.2.1) 2 q.2.2.1) 4 q.2.2.2.1) (va_up ma 0 q.2.2.2.2))) := by
  obtain ⟨G, S, hn, hsv, hh, hsp, hrt, hbk, hin, her, hx, hy⟩ := hR
  have hn0 := hn
  obtain ⟨⟨n1, n2⟩, ⟨n3, n4, n5, n6, n7, n8, n9⟩, n10, hs, hw⟩ := hn
  have h0 := hw.1.1
  have h7 : (f_X7_clear (ss 10) (ss 11) (aa 0) (ss 12) (ss 2) (ss 6) ) = some (J (G 0), J 0, J 0, JA (FLL 21 0 (S 6)), J 0, J 0, J 0) := by
    unfold f_X7_clear
    simp only [n1, n9]
    refine ob (J 0, J 0, JA (FLL 21 0 (S 6))) ?_ rfl
    unfold f_X4_empty
    exact ob _ (e_fill21 (x := 0)) rfl
  have h8 : (f_X8_clear (ms 1) (ms 2) (ms 4) (ma 0) ) = some (J (G 0), J 0, J (-1), J 0, JA (up (up G 0 0) 20 0)) := by
    unfold f_X8_clear
    simp (disch := omega) only [↓reduceIte, j_lits, J_add, J_sub, J_mul, J_neg, J_le, J_lt, J_eqv, J_div, J_imax, J_imin, JA_get, JG, JA_upd, LET, Option.bind_some, lt_T, lt_F, le_T, le_F, eq_T, eq_F, and_true, true_and, Int.sub_neg, Int.natCast_add, n_lits, n10]
  have e : ∀ i : Int, ¬ i = 0 → ¬ i = 20 → up (up G 0 0) 20 0 i = G i := fun i a b => by rw [up_ne _ _ b, up_ne _ _ a]
  have e0 : up (up G 0 0) 20 0 0 = 0 := by rw [up_ne _ _ (by omega), up_same]
  have e20 : up (up G 0 0) 20 0 20 = 0 := up_same _ _ _
  have k1 : SC (up (up G 0 0) 20 0) (OXS S (S 4) (S 5) (FLL 21 0 (S 6))) := by
    refine ⟨fun k k0 k1 => by rw [e0] at k1; omega, fun i i0 i1 => by rw [e20] at i1; omega, fun x y hxy => ⟨fun z => ?_, fun z => ?_⟩⟩
    · have z : TB (J (FLL 21 0 (S 6) (y + 10))) (x + 10) := z
      rw [show FLL 21 0 (S 6) (y + 10) = 0 from if_pos (by omega)] at z
      exact absurd z tb_zero
    · obtain ⟨i, z1, -⟩ := z
      rw [e20] at z1
      omega
  have k2 : WF (up (up G 0 0) 20 0) := by
    refine ⟨⟨by rw [e0]; omega, fun k k0 k1 => by rw [e0] at k1; omega⟩, fun k k0 k1 => by rw [e0] at k1; omega, by rw [e20]; omega, fun i i0 i1 => by rw [e20] at i1; omega, fun i j i0 i1 i2 => by rw [e20] at i2; omega⟩
  exact ⟨_, h7, _, h8, rfl, up (up G 0 0) 20 0, OXS S (S 4) (S 5) (FLL 21 0 (S 6)), ⟨⟨congrArg J e0.symm, congrArg J e20.symm⟩, ⟨n3, n4, n5, n6, n7, n8, rfl⟩, rfl, k1, k2⟩, hsv, RHIS_0 hh, RSPC_0 _ _ _ _ _ _, RRTE_0 _ _ _ _ _ _ _ _, hbk, hin, her, hx, hy⟩
theorem call_undo (hR : REL ss aa pl po pa ms ma) : WP (f_X7_undo (ss 10) (ss 11) (aa 1) (aa 2) (aa 3) (aa 4) (aa 5) (aa 6) (aa 0) (ss 12) (ss 13) (ss 2) (ss 6) pl po pa ) (fun r => WP (f_X8_undo (ms 1) (ms 2) (ms 4) (ma 0) (ma 1) ) (fun q => ((r.1 = 0 ∧ q.2.2.2.1 = J 0 ∧ r.2.1 = q.1) ∨ (r.1 = 4 ∧ q.2.2.2.1 = J 1)) ∧ REL (va_up (va_up (va_up (va_up (va_up ss 10 r.2.2.1) 11 r.2.2.2.1) 12 r.2.2.2.2.2.2.2.2.2.2.2.1) 2 r.2.2.2.2.2.2.2.2.2.2.2.2.1) 6 r.2.2.2.2.2.2.2.2.2.2.2.2.2) (va_up (va_up (va_up (va_up (va_up (va_up (va_up aa 1 r.2.2.2.2.1) 2 r.2.2.2.2.2.1) 3 r.2.2.2.2.2.2.1) 4 r.2.2.2.2.2.2.2.1) 5 r.2.2.2.2.2.2.2.2.1) 6 r.2.2.2.2.2.2.2.2.2.1) 0 r.2.2.2.2.2.2.2.2.2.2.1) pl po pa (va_up (va_up (va_up ms 1 q.2.1) 2 q.2.2.1) 4 q.2.2.2.1) (va_up ma 0 q.2.2.2.2))) := by
  obtain ⟨G, S, hn, hsv, hh, hsp, hrt, hbk, hin, her, hx, hy⟩ := hR
  have hh0 := hh
  have hn0 := hn
  obtain ⟨⟨n1, n2⟩, ⟨n3, n4, n5, n6, n7, n8, n9⟩, n10, hs, hw⟩ := hn
  obtain ⟨c, o, P, p1, p2, p3, p4, hr⟩ := hh
  have h0 := hr.1
  by_cases q : 0 < c
  · obtain ⟨S', g1, g2, g3, g4⟩ := e_takeLatest (D := S) hr q (J (G 0)) (J (G 20))
    obtain ⟨G', g5, g6⟩ := e_undo8 (G := G) (P := P) (c := c) ⟨q, h0.2.1⟩ (ms 2) (ms 4)
    have h7 : (f_X7_undo (ss 10) (ss 11) (aa 1) (aa 2) (aa 3) (aa 4) (aa 5) (aa 6) (aa 0) (ss 12) (ss 13) (ss 2) (ss 6) pl po pa ) = some (0, J (c - 1), J (GP P (c - 1) 0), J (GP P (c - 1) 20), JA (S' 0), JA (S' 1), JA (S' 2), JA (S' 3), JA (S' 4), JA (S' 5), JA (S' 6), J (c - 1), J 0, J 0) := by
      unfold f_X7_undo
      simp only [n1, n2, n3, n4, n5, n6, n7, n8, n9, n10, p1, p2]
      rw [if_pos (by rw [show (0 : Int32) = J 0 from rfl, J_lt (by omega)]; exact q)]
      exact ob _ g1 rfl
    have h8 : (f_X8_undo (ms 1) (ms 2) (ms 4) (ma 0) (ma 1) ) = some (J (c - 1), J (c - 1), J (-1), J 0, JA G') := by
      simp only [n10, p3, p4]
      exact g5
    exact ⟨_, h7, _, h8, Or.inl ⟨rfl, rfl, rfl⟩, G', S', ⟨⟨congrArg J (g6 0 (by omega) (by omega)).symm, congrArg J (g6 20 (by omega) (by omega)).symm⟩, ⟨rfl, rfl, rfl, rfl, rfl, rfl, rfl⟩, rfl, SC_congr g6 g3 g2, WF_congr g6 g3⟩, hsv, ⟨c - 1, o, P, rfl, p2, rfl, p4, g4⟩, RSPC_0 _ _ _ _ _ _, RRTE_0 _ _ _ _ _ _ _ _, hbk, hin, her, hx, hy⟩
  · have h7 : (f_X7_undo (ss 10) (ss 11) (aa 1) (aa 2) (aa 3) (aa 4) (aa 5) (aa 6) (aa 0) (ss 12) (ss 13) (ss 2) (ss 6) pl po pa ) = some (4, J 0, (ss 10), (ss 11), (aa 1), (aa 2), (aa 3), (aa 4), (aa 5), (aa 6), (aa 0), (ss 12), (ss 2), (ss 6)) := by
      unfold f_X7_undo
      rw [p1, if_neg (by rw [show (0 : Int32) = J 0 from rfl, J_lt (by omega)]; exact q)]
      rfl
    have hc : c = 0 := by omega
    have h8 : (f_X8_undo (ms 1) (ms 2) (ms 4) (ma 0) (ma 1) ) = some (J 0, (ms 1), (ms 2), J 1, (ma 0)) := by
      rw [p3, hc, n10, p4]
      exact e_undo8_no _ _
    exact ⟨_, h7, _, h8, Or.inr ⟨rfl, rfl⟩, G, S, hn0, hsv, hh0, hsp, hrt, hbk, hin, her, hx, hy⟩
theorem call_save (hR : REL ss aa pl po pa ms ma) : WP (f_X7_save (ss 0) (ss 10) (ss 11) (aa 1) (aa 2) (aa 3) (aa 4) (aa 5) (aa 6) (aa 0) (ss 26) (ss 27) (aa 37) (aa 38) (aa 39) (aa 40) (aa 41) (aa 42) (aa 43) ) (fun r => WP (f_X8_save (ms 0) (ms 4) (ma 0) (ma 2) ) (fun q => (r.1 = q.1) ∧ REL (va_up (va_up (va_up ss 0 r.2.1) 26 r.2.2.1) 27 r.2.2.2.1) (va_up (va_up (va_up (va_up (va_up (va_up (va_up aa 37 r.2.2.2.2.1) 38 r.2.2.2.2.2.1) 39 r.2.2.2.2.2.2.1) 40 r.2.2.2.2.2.2.2.1) 41 r.2.2.2.2.2.2.2.2.1) 42 r.2.2.2.2.2.2.2.2.2.1) 43 r.2.2.2.2.2.2.2.2.2.2) pl po pa (va_up (va_up ms 0 q.2.1) 4 q.2.2.1) (va_up ma 2 q.2.2.2))) := by
  obtain ⟨G, S, hn, hsv, hh, hsp, hrt, hbk, hin, her, hx, hy⟩ := hR
  have hn0 := hn
  obtain ⟨⟨n1, n2⟩, ⟨n3, n4, n5, n6, n7, n8, n9⟩, n10, hs, hw⟩ := hn
  have h0 := hw.1.1
  obtain ⟨D, d1, d2, d3, d4, d5, d6, d7⟩ := rows7 (aa 37) (aa 38) (aa 39) (aa 40) (aa 41) (aa 42) (aa 43)
  obtain ⟨K, hK, -⟩ := JA_ex (ma 2)
  obtain ⟨K', g1, g2⟩ := e_save8 (G := G) (K := K) (ms 0) (ms 4)
  have h7 : (f_X7_save (ss 0) (ss 10) (ss 11) (aa 1) (aa 2) (aa 3) (aa 4) (aa 5) (aa 6) (aa 0) (ss 26) (ss 27) (aa 37) (aa 38) (aa 39) (aa 40) (aa 41) (aa 42) (aa 43) ) = some (J (G 0), J 1, J (G 0), J (G 20), JA (CPS S D 0), JA (CPS S D 1), JA (CPS S D 2), JA (CPS S D 3), JA (CPS S D 4), JA (CPS S D 5), JA (CPS S D 6)) := by
    unfold f_X7_save
    simp only [n1, n2, n3, n4, n5, n6, n7, n8, n9, n10, d1, d2, d3, d4, d5, d6, d7]
    exact ob _ (e_copyFrom _ _ _ _) rfl
  have h8 : (f_X8_save (ms 0) (ms 4) (ma 0) (ma 2) ) = some (J (G 0), J 1, J 0, JA K') := by
    rw [n10, hK]
    exact g1
  exact ⟨_, h7, _, h8, rfl, G, S, hn0, Or.inr ⟨rfl, rfl, K', CPS S D, ⟨congrArg J (g2 0 (by omega) (by omega)).symm, congrArg J (g2 20 (by omega) (by omega)).symm⟩, ⟨rfl, rfl, rfl, rfl, rfl, rfl, rfl⟩, rfl, SC_congr g2 hw (SC_CPS hw hs), WF_congr g2 hw⟩, hh, hsp, hrt, hbk, hin, her, hx, hy⟩
theorem call_restore (hR : REL ss aa pl po pa ms ma) : WP (f_X7_restore (ss 0) (ss 10) (ss 11) (aa 1) (aa 2) (aa 3) (aa 4) (aa 5) (aa 6) (aa 0) (ss 26) (ss 27) (aa 37) (aa 38) (aa 39) (aa 40) (aa 41) (aa 42) (aa 43) (ss 12) (ss 2) (ss 6) ) (fun r => WP (f_X8_restore (ms 0) (ms 1) (ms 2) (ms 4) (ma 0) (ma 2) ) (fun q => ((r.1 = 0 ∧ q.2.2.2.1 = J 0 ∧ r.2.1 = q.1) ∨ (r.1 = 2 ∧ q.2.2.2.1 = J 1)) ∧ REL (va_up (va_up (va_up (va_up (va_up ss 10 r.2.2.1) 11 r.2.2.2.1) 12 r.2.2.2.2.2.2.2.2.2.2.2.1) 2 r.2.2.2.2.2.2.2.2.2.2.2.2.1) 6 r.2.2.2.2.2.2.2.2.2.2.2.2.2) (va_up (va_up (va_up (va_up (va_up (va_up (va_up aa 1 r.2.2.2.2.1) 2 r.2.2.2.2.2.1) 3 r.2.2.2.2.2.2.1) 4 r.2.2.2.2.2.2.2.1) 5 r.2.2.2.2.2.2.2.2.1) 6 r.2.2.2.2.2.2.2.2.2.1) 0 r.2.2.2.2.2.2.2.2.2.2.1) pl po pa (va_up (va_up (va_up ms 1 q.2.1) 2 q.2.2.1) 4 q.2.2.2.1) (va_up ma 0 q.2.2.2.2))) := by
  obtain ⟨G, S, hn, hsv, hh, hsp, hrt, hbk, hin, her, hx, hy⟩ := hR
  have hsv0 := hsv
  have hn0 := hn
  obtain ⟨⟨n1, n2⟩, ⟨n3, n4, n5, n6, n7, n8, n9⟩, n10, hs, hw⟩ := hn
  rcases hsv with ⟨s1, s2⟩ | ⟨s1, s2, K, S', ⟨⟨m1, m2⟩, ⟨m3, m4, m5, m6, m7, m8, m9⟩, m10, hs', hw'⟩⟩
  · have h7 : (f_X7_restore (ss 0) (ss 10) (ss 11) (aa 1) (aa 2) (aa 3) (aa 4) (aa 5) (aa 6) (aa 0) (ss 26) (ss 27) (aa 37) (aa 38) (aa 39) (aa 40) (aa 41) (aa 42) (aa 43) (ss 12) (ss 2) (ss 6) ) = some (2, J 0, (ss 10), (ss 11), (aa 1), (aa 2), (aa 3), (aa 4), (aa 5), (aa 6), (aa 0), (ss 12), (ss 2), (ss 6)) := by
      unfold f_X7_restore
      rw [s1, if_pos (by rfl)]
      rfl
    have h8 : (f_X8_restore (ms 0) (ms 1) (ms 2) (ms 4) (ma 0) (ma 2) ) = some (J 0, (ms 1), (ms 2), J 1, (ma 0)) := by
      obtain ⟨K, hK, -⟩ := JA_ex (ma 2)
      rw [s2, n10, hK]
      exact e_restore8_no _ _ _
    exact ⟨_, h7, _, h8, Or.inr ⟨rfl, rfl⟩, G, S, hn0, hsv0, hh, hsp, hrt, hbk, hin, her, hx, hy⟩
  · obtain ⟨G', g1, g2⟩ := e_restore8 (G := G) (K := K) (ms 1) (ms 2) (ms 4)
    have h7 : (f_X7_restore (ss 0) (ss 10) (ss 11) (aa 1) (aa 2) (aa 3) (aa 4) (aa 5) (aa 6) (aa 0) (ss 26) (ss 27) (aa 37) (aa 38) (aa 39) (aa 40) (aa 41) (aa 42) (aa 43) (ss 12) (ss 2) (ss 6) ) = some (0, J (K 0), J (K 0), J (K 20), JA (CPS S' S 0), JA (CPS S' S 1), JA (CPS S' S 2), JA (CPS S' S 3), JA (CPS S' S 4), JA (CPS S' S 5), JA (CPS S' S 6), J 0, J 0, J 0) := by
      unfold f_X7_restore
      simp only [n1, n2, n3, n4, n5, n6, n7, n8, n9, n10, s1, m1, m2, m3, m4, m5, m6, m7, m8, m9]
      rw [if_neg (by decide)]
      exact ob _ (e_copyFrom _ _ _ _) rfl
    have h8 : (f_X8_restore (ms 0) (ms 1) (ms 2) (ms 4) (ma 0) (ma 2) ) = some (J (G' 0), J 0, J (-1), J 0, JA G') := by
      rw [s2, n10, m10]
      exact g1
    exact ⟨_, h7, _, h8, Or.inl ⟨rfl, rfl, congrArg J (g2 0 (by omega) (by omega)).symm⟩, G', CPS S' S, ⟨⟨congrArg J (g2 0 (by omega) (by omega)).symm, congrArg J (g2 20 (by omega) (by omega)).symm⟩, ⟨rfl, rfl, rfl, rfl, rfl, rfl, rfl⟩, rfl, SC_congr g2 hw' (SC_CPS hw' hs'), WF_congr g2 hw'⟩, hsv0, RHIS_0 hh, RSPC_0 _ _ _ _ _ _, RRTE_0 _ _ _ _ _ _ _ _, hbk, hin, her, hx, hy⟩
end
/-! what values alone don't change -/
def EQG (G' G : Int → Int) : Prop := (G' 0 = G 0 ∧ G' 20 = G 20) ∧ (∀ j : Int, G' (1 + 4 * j) = G (1 + 4 * j) ∧ G' (2 + 4 * j) = G (2 + 4 * j) ∧ G' (3 + 4 * j) = G (3 + 4 * j)) ∧ ∀ i : Int, 0 ≤ i → G' (21 + 2 * i) = G (21 + 2 * i) ∧ G' (21 + 2 * i + 1) = G (21 + 2 * i + 1)
section
variable {G G' v : Int → Int}
theorem EQG_up {k x : Int} (hk : 0 ≤ k ∧ k < 4) : EQG (up G (4 + 4 * k) x) G :=
  ⟨⟨up_ne _ _ (by omega), up_ne _ _ (by omega)⟩, fun j => ⟨up_ne _ _ (by omega), up_ne _ _ (by omega), up_ne _ _ (by omega)⟩, fun i hi => ⟨up_ne _ _ (by omega), up_ne _ _ (by omega)⟩⟩
theorem EQG_nn (h : EQG G' G) : nn G' = nn G := by unfold nn; rw [h.1.1]
theorem EQG_VV (h : EQG G' G) (k : Int) : VV G' k = VV G k := by unfold VV; rw [(h.2.1 k).2.1, (h.2.1 k).2.2]
theorem EQG_PW (h : EQG G' G) (a : Int) : ∀ j : Nat, PW G' a j = PW G a j
  | 0 => rfl
  | j + 1 => by
    show PW G' a j * VV G' (a + j) = PW G a j * VV G (a + j)
    rw [EQG_PW h a j, EQG_VV h]
theorem EQG_NP (h : EQG G' G) : NP G' = NP G := by unfold NP; rw [EQG_nn h, EQG_PW h]
theorem EQG_LD (h : EQG G' G) (n : Nat) (p : Int) : ∀ i : Nat, LD G' n p i = LD G n p i
  | 0 => rfl
  | i + 1 => by
    show LD G' n p i / VV G' ((n : Int) - 1 - i) = LD G n p i / VV G ((n : Int) - 1 - i)
    rw [EQG_LD h n p i, EQG_VV h]
theorem EQG_DV (h : EQG G' G) (p : Int) : DV G' p = DV G p := by
  funext k
  unfold DV
  rw [EQG_nn h, EQG_LD h, EQG_VV h, (h.2.1 k).2.1]
theorem EQG_HN (h : EQG G' G) (v : Int → Int) : ∀ n : Nat, HN G' v n = HN G v n
  | 0 => rfl
  | n + 1 => by
    show HN G' v n * VV G' n + v n + G' (2 + 4 * n) = HN G v n * VV G n + v n + G (2 + 4 * n)
    rw [EQG_HN h v n, EQG_VV h, (h.2.1 n).2.1]
theorem EQG_BH (h : EQG G' G) (p m : Int) : BH G' p m = BH G p m := by
  unfold BH
  rw [EQG_nn h, EQG_PW h, EQG_VV h]
theorem EQG_PX (h : EQG G' G) (v : Int → Int) : ∀ k : Nat, PX G' v k = PX G v k ∧ PY G' v k = PY G v k
  | 0 => ⟨rfl, rfl⟩
  | k + 1 => by
    have h1 := EQG_PX h v k
    show PX G' v k + G' (1 + 4 * k) * SX (WY v k) = PX G v k + G (1 + 4 * k) * SX (WY v k) ∧ PY G' v k + G' (1 + 4 * k) * SY (WY v k) = PY G v k + G (1 + 4 * k) * SY (WY v k)
    rw [h1.1, h1.2, (h.2.1 k).1]
    exact ⟨rfl, rfl⟩
theorem EQG_CX (h : EQG G' G) (v : Int → Int) (k : Nat) (i : Int) : CX G' v k i = CX G v k i ∧ CY G' v k i = CY G v k i := by
  unfold CX CY
  rw [(EQG_PX h v k).1, (EQG_PX h v k).2]
  exact ⟨rfl, rfl⟩
theorem EQG_OS (h : EQG G' G) (x y : Int) : OS G' x y = OS G x y := propext (OS_congr h.1.2 (fun i i0 _ => h.2.2 i i0) x y)
theorem EQG_OUT (h : EQG G' G) (v : Int → Int) (k : Nat) : OUT G' v k = OUT G v k := by
  unfold OUT
  rw [(EQG_PX h v k).1, (EQG_PX h v k).2, (EQG_PX h v (k + 1)).1, (EQG_PX h v (k + 1)).2]
theorem EQG_HIT (h : EQG G' G) (v : Int → Int) (k : Nat) : HIT G' v k = HIT G v k := by
  unfold HIT
  simp only [(h.2.1 k).1, (EQG_CX h v k _).1, (EQG_CX h v k _).2, EQG_OS h]
theorem EQG_HAS (h : EQG G' G) (v : Int → Int) (k : Nat) (x y : Int) : HAS G' v k x y = HAS G v k x y := by
  unfold HAS
  simp only [(h.2.1 k).1, (EQG_CX h v k _).1, (EQG_CX h v k _).2]
theorem EQG_CRA (h : EQG G' G) (v : Int → Int) (k a : Nat) : CRA G' v k a = CRA G v k a := by
  unfold CRA
  simp only [(h.2.1 k).1, (EQG_CX h v k _).1, (EQG_CX h v k _).2, EQG_HAS h, (EQG_PX h v k).1, (EQG_PX h v k).2]
theorem EQG_CRS (h : EQG G' G) (v : Int → Int) (k : Nat) : CRS G' v k = CRS G v k := by
  unfold CRS
  simp only [EQG_CRA h]
theorem EQG_FS (h : EQG G' G) (v : Int → Int) (f : Int) (l : Nat) : FS G' v f l = FS G v f l := by
  unfold FS
  simp only [EQG_OUT h, EQG_HIT h, EQG_CRS h, EQG_nn h]
theorem EQG_TP (h : EQG G' G) (p : Int) : TP G' p = TP G p := by
  have e : FR G' (DV G' p) = FR G (DV G p) := by
    unfold FR
    rw [EQG_DV h, EQG_FS h]
  by_cases q : FR G (DV G p)
  · rw [TP_free q, TP_free (e ▸ q), EQG_DV h, EQG_nn h, (EQG_PX h _ _).1, (EQG_PX h _ _).2]
  · rw [TP_not q, TP_not (fun z => q (e ▸ z))]
theorem EQG_SPN (h : EQG G' G) {sp st : Int → Int} (hs : SPN G sp st) : SPN G' sp st := by
  intro k k0 k1
  rw [h.1.1] at k1
  rw [EQG_VV h, EQG_PW h, EQG_nn h]
  exact hs k k0 k1
theorem EQG_RSPC (h : EQG G' G) {a b c : Int32} {d e f : Nat → Int32} (hs : RSPC G a b c d e f) : RSPC G' a b c d e f := by
  rcases hs with hs | ⟨h1, h2, h3, h4, sp, st, T, h5, h6, h7, h8, h9⟩
  · exact Or.inl hs
  · refine Or.inr ⟨h1, by rw [EQG_NP h]; exact h2, by rw [EQG_NP h]; exact h3, by rw [h.1.1]; exact h4, sp, st, T, h5, h6, h7, EQG_SPN h h8, fun q q0 q1 => ?_⟩
    rw [EQG_NP h] at q1
    rw [EQG_TP h]
    exact h9 q q0 q1
end
