/-! the pure words that the functions of the methods are made of -/
def GD {α : Type} (i : Int32) (n : Nat) (k : Option α) : Option α := if i < 0 ∨ n ≤ i.toNatClampNeg then none else k
def GN {α : Type} (y : Int32) (k : Option α) : Option α := if y = 0 then none else k
def GB {α : Type} (v : Int32) (k : Option α) : Option α := if v = 0 ∨ v = 1 then k else none
def GC {α : Type} (v : Int32) (k : Option α) : Option α := if (v.toUInt32 % 65536).toInt32 = v then k else none
def GCP {α : Type} (sp dp n : Int32) (n0 n1 : Nat) (k : Option α) : Option α := if sp < 0 ∨ dp < 0 ∨ n < 0 ∨ n0 < sp.toNatClampNeg + n.toNatClampNeg ∨ n1 < dp.toNatClampNeg + n.toNatClampNeg then none else k
def LET {α β : Type} (a : α) (f : α → β) : β := f a
def LPF {σ ε : Type} (b : σ → Option (σ ⊕ ε)) : Nat → σ → Option ε
  | 0, _ => none
  | n + 1, s => (b s).bind fun q => match q with
    | .inl s' => LPF b n s'
    | .inr e => some e
def lfuel : Nat := 1000000
def imax (x y : Int32) : Int32 := if x < y then y else x
def imin (x y : Int32) : Int32 := if y < x then y else x
def iabs (x : Int32) : Int32 := if 0 ≤ x then x else 0 - x
def stepX : Nat → Int32 := fun k => match k with | 0 => 1 | 1 => 1 | 2 => 0 | 3 => -1 | 4 => -1 | 5 => -1 | 6 => 0 | _ => 1
def stepY : Nat → Int32 := fun k => match k with | 0 => 0 | 1 => 1 | 2 => 1 | 3 => 1 | 4 => 0 | 5 => -1 | 6 => -1 | _ => -1
def SW8 {α : Type} (e : Int32) (k0 k1 k2 k3 k4 k5 k6 k7 : Option α) : Option α := if e = 0 then k0 else if e = 1 then k1 else if e = 2 then k2 else if e = 3 then k3 else if e = 4 then k4 else if e = 5 then k5 else if e = 6 then k6 else if e = 7 then k7 else none
def f7 (a b c d e f g : Nat → Int32) : Nat → Nat → Int32 := fun k => match k with | 0 => a | 1 => b | 2 => c | 3 => d | 4 => e | 5 => f | _ => g
