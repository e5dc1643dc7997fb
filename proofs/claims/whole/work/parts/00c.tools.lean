/-! integers as Int32, rows of integers -/
def J (z : Int) : Int32 := Int32.ofInt z
def JA (F : Int → Int) : Nat → Int32 := fun i => J (F i)
def up (F : Int → Int) (a v : Int) : Int → Int := fun i => if i = a then v else F i
theorem J_of (x : Int32) : J x.toInt = x := Int32.ofInt_toInt x
theorem J_val {z : Int} (h : -2147483648 ≤ z ∧ z ≤ 2147483647) : (J z).toInt = z := Int32.toInt_ofInt_of_le (by omega) (by omega)
theorem J_rng (x : Int32) : -2147483648 ≤ x.toInt ∧ x.toInt ≤ 2147483647 := ⟨by have := x.le_toInt; omega, by have := x.toInt_lt; omega⟩
theorem J_ex (x : Int32) : ∃ z : Int, x = J z ∧ -2147483648 ≤ z ∧ z ≤ 2147483647 := ⟨x.toInt, (J_of x).symm, J_rng x⟩
theorem JA_ex (f : Nat → Int32) : ∃ F : Int → Int, f = JA F ∧ ∀ i, -2147483648 ≤ F i ∧ F i ≤ 2147483647 :=
  ⟨fun i => (f i.toNat).toInt, funext fun i => by show f i = J (f (Int.toNat (i : Int))).toInt; rw [Int.toNat_natCast, J_of], fun i => J_rng _⟩
theorem J_eqv {a b : Int} (h : (-2147483648 ≤ a ∧ a ≤ 2147483647) ∧ (-2147483648 ≤ b ∧ b ≤ 2147483647)) : (J a = J b) = (a = b) :=
  propext ⟨fun q => by have := congrArg Int32.toInt q; rwa [J_val h.1, J_val h.2] at this, fun q => by rw [q]⟩
theorem J_lt {a b : Int} (h : (-2147483648 ≤ a ∧ a ≤ 2147483647) ∧ (-2147483648 ≤ b ∧ b ≤ 2147483647)) : (J a < J b) = (a < b) := by
  rw [Int32.lt_iff_toInt_lt, J_val h.1, J_val h.2]
theorem J_le {a b : Int} (h : (-2147483648 ≤ a ∧ a ≤ 2147483647) ∧ (-2147483648 ≤ b ∧ b ≤ 2147483647)) : (J a ≤ J b) = (a ≤ b) := by
  rw [Int32.le_iff_toInt_le, J_val h.1, J_val h.2]
theorem J_add (a b : Int) : J a + J b = J (a + b) := (Int32.ofInt_add a b).symm
theorem J_sub (a b : Int) : J a - J b = J (a - b) := (Int32.ofInt_sub a b).symm
theorem J_mul (a b : Int) : J a * J b = J (a * b) := (Int32.ofInt_mul a b).symm
theorem J_neg (a : Int) : -J a = J (-a) := (Int32.ofInt_neg a).symm
theorem J_nat {a : Int} (h : -2147483648 ≤ a ∧ a ≤ 2147483647) : (J a).toNatClampNeg = a.toNat := by
  show (J a).toInt.toNat = a.toNat
  rw [J_val h]
theorem J_div {a b : Int} (h : (0 ≤ a ∧ a ≤ 2147483647) ∧ (0 < b ∧ b ≤ 2147483647)) : J a / J b = J (a / b) := by
  have h1 : (J a / J b).toInt = a / b := by
    rw [Int32.toInt_div_of_ne_right, J_val (by omega), J_val (by omega), Int.tdiv_eq_ediv_of_nonneg h.1.1]
    intro q
    have := congrArg Int32.toInt q
    rw [J_val (by omega)] at this
    have h2 : (-1 : Int32).toInt = -1 := by decide
    omega
  have h2 := J_of (J a / J b)
  rw [h1] at h2
  exact h2.symm
theorem J_imax {a b : Int} (h : (-2147483648 ≤ a ∧ a ≤ 2147483647) ∧ (-2147483648 ≤ b ∧ b ≤ 2147483647)) : imax (J a) (J b) = J (max a b) := by
  unfold imax
  by_cases q : a < b
  · rw [if_pos (by rw [J_lt h]; exact q)]; exact congrArg J (by omega)
  · rw [if_neg (by rw [J_lt h]; exact q)]; exact congrArg J (by omega)
theorem J_imin {a b : Int} (h : (-2147483648 ≤ a ∧ a ≤ 2147483647) ∧ (-2147483648 ≤ b ∧ b ≤ 2147483647)) : imin (J a) (J b) = J (min a b) := by
  unfold imin
  by_cases q : b < a
  · rw [if_pos (by rw [J_lt ⟨h.2, h.1⟩]; exact q)]; exact congrArg J (by omega)
  · rw [if_neg (by rw [J_lt ⟨h.2, h.1⟩]; exact q)]; exact congrArg J (by omega)
theorem j_lits : ((0 : Int32) = J 0 ∧ (1 : Int32) = J 1 ∧ (2 : Int32) = J 2 ∧ (3 : Int32) = J 3 ∧ (4 : Int32) = J 4 ∧ (5 : Int32) = J 5 ∧ (6 : Int32) = J 6 ∧ (7 : Int32) = J 7 ∧ (8 : Int32) = J 8 ∧ (9 : Int32) = J 9 ∧ (10 : Int32) = J 10 ∧ (13 : Int32) = J 13)
    ∧ ((20 : Int32) = J 20 ∧ (21 : Int32) = J 21 ∧ (26 : Int32) = J 26 ∧ (31 : Int32) = J 31 ∧ (32 : Int32) = J 32 ∧ (40 : Int32) = J 40 ∧ (41 : Int32) = J 41 ∧ (44 : Int32) = J 44 ∧ (45 : Int32) = J 45 ∧ (48 : Int32) = J 48 ∧ (49 : Int32) = J 49 ∧ (53 : Int32) = J 53 ∧ (56 : Int32) = J 56 ∧ (57 : Int32) = J 57 ∧ (59 : Int32) = J 59 ∧ (60 : Int32) = J 60 ∧ (76 : Int32) = J 76 ∧ (79 : Int32) = J 79 ∧ (97 : Int32) = J 97)
    ∧ ((122 : Int32) = J 122 ∧ (126 : Int32) = J 126 ∧ (141 : Int32) = J 141 ∧ (441 : Int32) = J 441 ∧ (987 : Int32) = J 987 ∧ (1000 : Int32) = J 1000 ∧ (1128 : Int32) = J 1128 ∧ (5000 : Int32) = J 5000 ∧ (40000 : Int32) = J 40000 ∧ (45000 : Int32) = J 45000 ∧ (1024 : Int32) = J 1024 ∧ (1000000 : Int32) = J 1000000 ∧ (2147483647 : Int32) = J 2147483647) := by
  refine ⟨⟨?_, ?_, ?_, ?_, ?_, ?_, ?_, ?_, ?_, ?_, ?_, ?_⟩, ⟨?_, ?_, ?_, ?_, ?_, ?_, ?_, ?_, ?_, ?_, ?_, ?_, ?_, ?_, ?_, ?_, ?_, ?_, ?_⟩, ?_, ?_, ?_, ?_, ?_, ?_, ?_, ?_, ?_, ?_, ?_, ?_, ?_⟩ <;> rfl
theorem JA_get (F : Int → Int) {a : Int} (h : 0 ≤ a ∧ a ≤ 2147483647) : JA F (J a).toNatClampNeg = J (F a) := by
  rw [J_nat (by omega)]
  show J (F (a.toNat : Int)) = J (F a)
  rw [Int.toNat_of_nonneg h.1]
theorem JG {α : Type} {a : Int} {n : Nat} {k : Option α} (h : 0 ≤ a ∧ a < n ∧ a ≤ 2147483647) : GD (J a) n k = k := by
  unfold GD
  rw [if_neg]
  rw [J_nat (by omega), show (0 : Int32) = J 0 from rfl, J_lt (by omega)]
  omega
theorem JN {α : Type} {a : Int} {k : Option α} (h : a ≠ 0 ∧ -2147483648 ≤ a ∧ a ≤ 2147483647) : GN (J a) k = k := by
  unfold GN
  rw [if_neg]
  rw [show (0 : Int32) = J 0 from rfl, J_eqv (by omega)]
  exact h.1
theorem JB0 {α : Type} {k : Option α} : GB (J 0) k = k := rfl
theorem JB1 {α : Type} {k : Option α} : GB (J 1) k = k := rfl
theorem JA_upd (F : Int → Int) {a : Int} (v : Int) (h : 0 ≤ a ∧ a ≤ 2147483647) : upd (JA F) (J a).toNatClampNeg (J v) = JA (up F a v) := by
  funext j
  rw [J_nat (by omega)]
  show (if j = a.toNat then J v else J (F j)) = J (if (j : Int) = a then v else F j)
  by_cases q : j = a.toNat
  · rw [if_pos q, if_pos (by omega)]
  · rw [if_neg q, if_neg (by omega)]
theorem up_same (F : Int → Int) (a v : Int) : up F a v a = v := if_pos rfl
theorem up_ne (F : Int → Int) {a b : Int} (v : Int) (h : ¬ b = a) : up F a v b = F b := if_neg h
theorem J_mod (a b : Int) : a - a / b * b = a % b := by
  rw [Int.emod_def, Int.mul_comm b]
theorem pr2 {α β : Type} {a a' : α} {b b' : β} (h1 : a = a') (h2 : b = b') : (a, b) = (a', b') := by rw [h1, h2]
/-! what an option answers -/
abbrev WP {α : Type} (o : Option α) (P : α → Prop) : Prop := ∃ a, o = some a ∧ P a
theorem WP.ret {α : Type} {a : α} {P : α → Prop} (h : P a) : WP (some a) P := ⟨a, rfl, h⟩
theorem WP.eq {α : Type} {o : Option α} {a : α} {P : α → Prop} (e : o = some a) (h : P a) : WP o P := ⟨a, e, h⟩
theorem WP.bind {α β : Type} {o : Option α} {K : α → Option β} {P : β → Prop} {P0 : α → Prop} (h : WP o P0) (hk : ∀ a, P0 a → WP (K a) P) : WP (o.bind K) P := by
  obtain ⟨a, e, h⟩ := h
  rw [e]
  exact hk a h
theorem WP.mono {α : Type} {o : Option α} {P P' : α → Prop} (h : WP o P) (hk : ∀ a, P a → P' a) : WP o P' := by
  obtain ⟨a, e, h⟩ := h
  exact ⟨a, e, hk a h⟩
/-! loops -/
theorem lpf_s {σ ε : Type} {b : σ → Option (σ ⊕ ε)} {n : Nat} {s s' : σ} (h : b s = some (.inl s')) : LPF b (n + 1) s = LPF b n s' := by
  rw [LPF, h]; rfl
theorem lpf_e {σ ε : Type} {b : σ → Option (σ ⊕ ε)} {n : Nat} {s : σ} {e : ε} (h : b s = some (.inr e)) : LPF b (n + 1) s = some e := by
  rw [LPF, h]; rfl
theorem lp_go {σ ε : Type} {b : σ → Option (σ ⊕ ε)} (S : Nat → σ) (n : Nat) {e : ε} (hs : ∀ k : Nat, k < n → b (S k) = some (.inl (S (k + 1)))) (he : b (S n) = some (.inr e)) :
    ∀ (j k f : Nat), j + k = n → j < f → LPF b f (S k) = some e
  | 0, k, f + 1, h, _ => by
    have : k = n := by omega
    subst this
    exact lpf_e he
  | j + 1, k, f + 1, h, hf => by
    rw [lpf_s (hs k (by omega))]
    exact lp_go S n hs he j (k + 1) f (by omega) (by omega)
theorem lp_for {σ ε : Type} {b : σ → Option (σ ⊕ ε)} {s0 : σ} (S : Nat → σ) (n : Nat) {e : ε} (h0 : s0 = S 0) (hn : n < 1000000) (hs : ∀ k : Nat, k < n → b (S k) = some (.inl (S (k + 1)))) (he : b (S n) = some (.inr e)) : LPF b lfuel s0 = some e := by
  rw [h0]
  exact lp_go S n hs he n 0 lfuel (by omega) hn
theorem lp_bind {σ ε ρ : Type} {b : σ → Option (σ ⊕ ε)} {s0 : σ} {K : ε → Option ρ} {r : Option ρ} (S : Nat → σ) (n : Nat) {e : ε} (h0 : s0 = S 0) (hn : n < 1000000) (hs : ∀ k : Nat, k < n → b (S k) = some (.inl (S (k + 1)))) (he : b (S n) = some (.inr e)) (hk : K e = r) : (LPF b lfuel s0).bind K = r := by
  rw [lp_for S n h0 hn hs he]
  exact hk
theorem lp_inv0 {σ ε : Type} {b : σ → Option (σ ⊕ ε)} (I : Nat → σ → Prop) (P : ε → Prop) (n : Nat) (hs : ∀ (k : Nat) (s : σ), k ≤ n → I k s → (k < n ∧ ∃ s', b s = some (.inl s') ∧ I (k + 1) s') ∨ ∃ e, b s = some (.inr e) ∧ P e) :
    ∀ (j k f : Nat) (s : σ), j + k = n → j < f → I k s → WP (LPF b f s) P
  | 0, k, f + 1, s, h, _, hi => by
    rcases hs k s (by omega) hi with ⟨q, -⟩ | ⟨e, q, hp⟩
    · omega
    · rw [lpf_e q]; exact WP.ret hp
  | j + 1, k, f + 1, s, h, hf, hi => by
    rcases hs k s (by omega) hi with ⟨-, s', q, hp⟩ | ⟨e, q, hp⟩
    · rw [lpf_s q]
      exact lp_inv0 I P n hs j (k + 1) f s' (by omega) (by omega) hp
    · rw [lpf_e q]; exact WP.ret hp
theorem lp_inv {σ ε : Type} {b : σ → Option (σ ⊕ ε)} {s0 : σ} (I : Nat → σ → Prop) {P : ε → Prop} (n : Nat) (hn : n < 1000000) (h0 : I 0 s0) (hs : ∀ (k : Nat) (s : σ), k ≤ n → I k s → (k < n ∧ ∃ s', b s = some (.inl s') ∧ I (k + 1) s') ∨ ∃ e, b s = some (.inr e) ∧ P e) : WP (LPF b lfuel s0) P :=
  lp_inv0 I P n hs n 0 lfuel s0 (by omega) hn h0
/-! bits -/
theorem J_and7 (a : Int) : J a &&& J 7 = J (a % 8) := by
  have h : (J a &&& J 7).toInt = a % 8 := by
    show ((BitVec.ofInt 32 a) &&& 7#32).toInt = a % 8
    have h1 : ((BitVec.ofInt 32 a) &&& 7#32).toNat = (a % 8).toNat := by
      rw [BitVec.toNat_and, BitVec.toNat_ofInt]
      show (a % 4294967296).toNat &&& 7 = (a % 8).toNat
      refine (Nat.and_two_pow_sub_one_eq_mod (a % 4294967296).toNat 3).trans ?_
      omega
    rw [BitVec.toInt_eq_toNat_cond, h1]
    rw [if_pos (by omega)]
    omega
  have h2 := J_of (J a &&& J 7)
  rw [h] at h2
  exact h2.symm
theorem J_and1 (a : Int) : J a &&& J 1 = J (a % 2) := by
  have h : (J a &&& J 1).toInt = a % 2 := by
    show ((BitVec.ofInt 32 a) &&& 1#32).toInt = a % 2
    have h1 : ((BitVec.ofInt 32 a) &&& 1#32).toNat = (a % 2).toNat := by
      rw [BitVec.toNat_and, BitVec.toNat_ofInt]
      show (a % 4294967296).toNat &&& 1 = (a % 2).toNat
      refine (Nat.and_two_pow_sub_one_eq_mod (a % 4294967296).toNat 1).trans ?_
      omega
    rw [BitVec.toInt_eq_toNat_cond, h1]
    rw [if_pos (by omega)]
    omega
  have h2 := J_of (J a &&& J 1)
  rw [h] at h2
  exact h2.symm
theorem J_shr1 {a : Int} (h : -2147483648 ≤ a ∧ a ≤ 2147483647) : J a >>> (J 1 &&& J 31) = J (a / 2) := by
  have h : (J a >>> (J 1 &&& J 31)).toInt = a / 2 := by
    show (BitVec.sshiftRight (BitVec.ofInt 32 a) 1).toInt = a / 2
    rw [BitVec.toInt_sshiftRight]
    show (J a).toInt >>> 1 = a / 2
    rw [J_val h, Int.shiftRight_eq_div_pow]
    omega
  have h2 := J_of (J a >>> (J 1 &&& J 31))
  rw [h] at h2
  exact h2.symm
theorem J_shr3 {a : Int} (h : -2147483648 ≤ a ∧ a ≤ 2147483647) : J a >>> (J 3 &&& J 31) = J (a / 8) := by
  have h : (J a >>> (J 3 &&& J 31)).toInt = a / 8 := by
    show (BitVec.sshiftRight (BitVec.ofInt 32 a) 3).toInt = a / 8
    rw [BitVec.toInt_sshiftRight]
    show (J a).toInt >>> 3 = a / 8
    rw [J_val h, Int.shiftRight_eq_div_pow]
    omega
  have h2 := J_of (J a >>> (J 3 &&& J 31))
  rw [h] at h2
  exact h2.symm
theorem cs (k : Nat) : ((k + 1 : Nat) : Int) = (k : Int) + 1 := rfl
theorem c0 : ((0 : Nat) : Int) = 0 := rfl
theorem lt_T {a b : Int} (h : a < b) : (a < b) = True := eq_true h
theorem lt_F {a b : Int} (h : ¬ a < b) : (a < b) = False := eq_false h
theorem le_T {a b : Int} (h : a ≤ b) : (a ≤ b) = True := eq_true h
theorem le_F {a b : Int} (h : ¬ a ≤ b) : (a ≤ b) = False := eq_false h
theorem eq_T {a b : Int} (h : a = b) : (a = b) = True := eq_true h
theorem eq_F {a b : Int} (h : ¬ a = b) : (a = b) = False := eq_false h
theorem ob {α β : Type} {o : Option α} {K : α → Option β} {r : Option β} (a : α) (h : o = some a) (k : K a = r) : o.bind K = r := by
  rw [h]
  exact k
theorem n_lits : ((0 : Nat) : Int) = 0 ∧ ((1 : Nat) : Int) = 1 ∧ ((2 : Nat) : Int) = 2 ∧ ((3 : Nat) : Int) = 3 ∧ ((4 : Nat) : Int) = 4 ∧ ((5 : Nat) : Int) = 5 ∧ ((7 : Nat) : Int) = 7 ∧ ((8 : Nat) : Int) = 8 ∧ ((9 : Nat) : Int) = 9 ∧ ((21 : Nat) : Int) = 21 ∧ ((26 : Nat) : Int) = 26 ∧ ((60 : Nat) : Int) = 60 ∧ ((141 : Nat) : Int) = 141 ∧ ((440 : Nat) : Int) = 440 ∧ ((441 : Nat) : Int) = 441 ∧ ((987 : Nat) : Int) = 987 ∧ ((5000 : Nat) : Int) = 5000 :=
  ⟨rfl, rfl, rfl, rfl, rfl, rfl, rfl, rfl, rfl, rfl, rfl, rfl, rfl, rfl, rfl, rfl, rfl⟩
theorem WP.ob {α β : Type} {o : Option α} {K : α → Option β} {P : β → Prop} {a : α} (h : o = some a) (k : WP (K a) P) : WP (o.bind K) P := by
  rw [h]
  exact k
theorem lp_wp {σ ε : Type} {b : σ → Option (σ ⊕ ε)} {s0 : σ} (I : Nat → σ → Prop) {P : ε → Prop} (n : Nat) (hn : n < 1000000) (h0 : I 0 s0) (hs : ∀ (k : Nat) (s : σ), k ≤ n → I k s → WP (b s) (fun q => (∃ s', q = .inl s' ∧ k < n ∧ I (k + 1) s') ∨ ∃ e, q = .inr e ∧ P e)) : WP (LPF b lfuel s0) P := by
  refine lp_inv I n hn h0 fun k s hk hi => ?_
  obtain ⟨q, hq, h⟩ := hs k s hk hi
  rcases h with ⟨s', rfl, h1, h2⟩ | ⟨e, rfl, h1⟩
  · exact Or.inl ⟨h1, s', hq, h2⟩
  · exact Or.inr ⟨e, hq, h1⟩
