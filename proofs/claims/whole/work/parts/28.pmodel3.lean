/-! THE REFERENCE's walls -/
def yb (f : Nat → Int32) (a : Nat) : Nat := (f a &&& 255).toNatClampNeg
theorem yb_ex (x : Int32) : ∃ j : Nat, j < 256 ∧ x &&& 255 = nI j := pk_andE x 8 (by decide)
theorem yb_eq (f : Nat → Int32) (a : Nat) : nI (yb f a) = f a &&& 255 := by
  obtain ⟨j, hj, e⟩ := yb_ex (f a)
  rw [yb, e, nI_clamp (by omega)]
theorem yb_lt (f : Nat → Int32) (a : Nat) : yb f a < 256 := by
  obtain ⟨j, hj, e⟩ := yb_ex (f a)
  rw [yb, e, nI_clamp (by omega)]
  exact hj
def yX (f : Nat → Int32) (v : Nat) : Int64 := (ypr f (7 + 4 * v)).toInt64
def yY (f : Nat → Int32) (v : Nat) : Int64 := (ypr f (9 + 4 * v)).toInt64
def ycr (f : Nat → Int32) (a b : Nat) : Int64 := (yX f (yb f (a + 1)) - yX f (yb f (a + 0))) * (yY f b - yY f (yb f (a + 0))) - (yY f (yb f (a + 1)) - yY f (yb f (a + 0))) * (yX f b - yX f (yb f (a + 0)))
def ysd (f : Nat → Int32) (a b : Nat) : Int32 := if 0 ≤ lg_cmp (ycr f a b) 0 then (if lg_cmp (ycr f a b) 0 ≤ 0 then 0 else 1) else -1
def ydt (f : Nat → Int32) (a b : Nat) : Int64 := (yX f (yb f (a + 0)) - yX f b) * (yX f (yb f (a + 1)) - yX f b) + (yY f (yb f (a + 0)) - yY f b) * (yY f (yb f (a + 1)) - yY f b)
def yli (f : Nat → Int32) (a b : Nat) : Int32 := if nI b = nI (yb f (a + 0)) then 0 else if nI b = nI (yb f (a + 1)) then 0 else if ysd f a b = 0 then (if 0 ≤ lg_cmp (ydt f a b) 0 then 0 else 1) else 0
def ys2_ (B C D : Nat) : Int32 := if nI B = nI C then 1 else if nI B = nI D then 1 else 0
def ysm (A B C D : Nat) : Int32 := if nI A = nI C then ys2_ B C D else if nI A = nI D then ys2_ B C D else 0
def ycu (f : Nat → Int32) (a b A B C D : Nat) : Int32 := if 0 ≤ ysd f a C * ysd f a D then 0 else if 0 ≤ ysd f b A * ysd f b B then 0 else 1
def yt6 (f : Nat → Int32) (a b A B C D : Nat) : Int32 := if yli f a C = 0 then (if yli f a D = 0 then (if yli f b A = 0 then (if yli f b B = 0 then 0 else 1) else 1) else 1) else 1
def ytc (f : Nat → Int32) (a b : Nat) : Int32 := if ysm (yb f (a + 0)) (yb f (a + 1)) (yb f (b + 0)) (yb f (b + 1)) = 0 then (if ycu f a b (yb f (a + 0)) (yb f (a + 1)) (yb f (b + 0)) (yb f (b + 1)) = 0 then yt6 f a b (yb f (a + 0)) (yb f (a + 1)) (yb f (b + 0)) (yb f (b + 1)) else 1) else 1
