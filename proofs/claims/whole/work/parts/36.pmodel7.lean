/-! THE REFERENCE's looks into the map, the rest -/
theorem wh_u {what : Int32} {m : Nat} (hm : m < 2 ^ 31) (h0 : ¬ what < 0) (h1 : what ≤ nI m) : ∃ u : Nat, what = nI u ∧ u ≤ m := by
  obtain ⟨u, hu, rfl⟩ := nI_of h0
  rw [nI_leI hu hm] at h1
  exact ⟨u, rfl, h1⟩
theorem n2 (a u : Nat) : nI a + 2 * nI u = nI (a + 2 * u) := by
  rw [show (2 : Int32) = nI 2 from rfl, pk_mul, nI_add]
theorem n2b (a u : Nat) : nI a + 2 + nI u = nI (a + 2 + u) := by
  rw [show (2 : Int32) = nI 2 from rfl, nI_add, nI_add]
theorem n10 (a : Nat) : nI a + 10 = nI (a + 10) := by
  rw [show (10 : Int32) = nI 10 from rfl, nI_add]
abbrev yT (fm : Nat → Int32) : Nat := yta fm (yb fm 3) (yb fm 4)
def ysA (fm : Nat → Int32) (nm : Nat) (k what : Int32) : Int32 := if yhs fm nm 5 k = 0 then 100000 else if what < 0 then 100000 else if what ≤ 6 then (if 2 ≤ what then fm (yT fm + 9 * k.toNatClampNeg + 2 + what.toNatClampNeg) &&& 255 else ypr fm (yT fm + 9 * k.toNatClampNeg + 2 * what.toNatClampNeg)) else 100000
def yoA (fm : Nat → Int32) (nm : Nat) (what : Int32) : Int32 := if nI nm = 0 then 100000 else if what < 0 then 100000 else if what ≤ 3 then (if 2 ≤ what then fm (yT fm + 9 * yb fm 5 + 14 * yb fm 6 + 2 + what.toNatClampNeg) &&& 255 else ypr fm (yT fm + 9 * yb fm 5 + 14 * yb fm 6 + 2 * what.toNatClampNeg)) else 100000
