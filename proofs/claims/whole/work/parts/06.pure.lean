/-! numbers -/
theorem in_a {k : Int32} {n N : Nat} (h0 : ¬ k < 0) (h1 : ¬ nI n ≤ k) (hn : n ≤ N) (hN : N < 2 ^ 31) : vp_in k N := by
  obtain ⟨j, hj, rfl⟩ := nI_of h0
  rw [nI_leI (by omega) hj] at h1
  exact vp_in_nI (by omega) hN
theorem in_b {k : Int32} {n N : Nat} (h0 : ¬ k < 0) (h1 : k < nI n) (hn : n ≤ N) (hN : N < 2 ^ 31) : vp_in k N := by
  obtain ⟨j, hj, rfl⟩ := nI_of h0
  rw [nI_ltI hj (by omega)] at h1
  exact vp_in_nI (by omega) hN
theorem in_n {i N : Nat} (h : i < N) (hN : N < 2 ^ 31) : vp_in (nI i) N := vp_in_nI h hN
theorem nI_cl {k : Int32} (h : ¬ k < 0) : nI k.toNatClampNeg = k := by
  obtain ⟨j, hj, rfl⟩ := nI_of h
  rw [nI_clamp hj]
/-! THE CLASS's rows, as pure functions -/
/-- byte k of a row of n bytes; -1 if there is none -/
def rg (f : Nat → Int32) (n : Nat) (k : Int32) : Int32 := if k < 0 then -1 else if nI n ≤ k then -1 else f k.toNatClampNeg &&& 255
/-- a number of two bytes, below 0 as 65536 more -/
def w16 (z : Int32) : Int32 := if z ≤ 32767 then z else z - 65536
def rsg (f : Nat → Int32) (n : Nat) (k : Int32) : Int32 := w16 (256 * rg f n k + rg f n (k + 1))
def rput (n : Nat) (k : Int32) : Int32 := if k < 0 then 0 else if k < nI n then 1 else 0
def rputF (f : Nat → Int32) (n : Nat) (k b : Int32) : Nat → Int32 := if k < 0 then f else if k < nI n then upd f k.toNatClampNeg b.toInt8.toInt32 else f
def rsh (n : Nat) (k : Int32) : Int32 := if k < 0 then 0 else if k ≤ nI n then 1 else 0
def rshN (n : Nat) (k : Int32) : Nat := if k < 0 then n else if k ≤ nI n then k.toNatClampNeg else n
def md251 (x : Int32) : Int32 := x - x / 251 * 251
/-- the two sums of the first k bytes -/
def sum2 (f : Nat → Int32) : Nat → Int32 × Int32
  | 0 => (0, 0)
  | k + 1 => (md251 ((sum2 f k).1 + (f k &&& 255)), md251 ((sum2 f k).2 + md251 ((sum2 f k).1 + (f k &&& 255))))
