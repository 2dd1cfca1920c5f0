/-! THE CLASS's map, as pure functions: f, n its bytes, g where its textures lie -/
def tat (g : Nat → Int32) (k : Int32) : Int32 := if k < 0 then 0 else if 16 ≤ k then 0 else g k.toNatClampNeg
def mwd (f : Nat → Int32) (n : Nat) (g : Nat → Int32) (k : Int32) : Int32 := 1 <<< (rg f n (tat g k) &&& 31)
def mht (f : Nat → Int32) (n : Nat) (g : Nat → Int32) (k : Int32) : Int32 := 1 <<< (rg f n (tat g k + 1) &&& 31)
def mtx (f : Nat → Int32) (n : Nat) (g : Nat → Int32) (k dn ac : Int32) : Int32 := if dn < 0 then -1 else if mht f n g k ≤ dn then -1 else if ac < 0 then -1 else if ac < mwd f n g k then rg f n (((tat g k + 2) + mwd f n g k * dn) + ac) else -1
abbrev SG : Type := Int32 × (Nat → Int32)
def tkS (f : Nat → Int32) (n : Nat) (k : Nat) (z : SG) : SG := (z.1 + (2 + mwd f n (upd z.2 k z.1) (nI k) * mht f n (upd z.2 k z.1) (nI k)), upd z.2 k z.1)
def tkl (f : Nat → Int32) (n : Nat) (tx : Int32) : Nat → Nat → SG → SG
  | 0, _, z => z
  | d + 1, k, z => if tx ≤ nI k then z else tkl f n tx d (k + 1) (tkS f n k z)
def mcn (pr c : Int32) : Int32 := if pr = 0 then -1 else c
