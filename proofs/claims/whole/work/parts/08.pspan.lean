/-! THE CLASS's spans, as pure functions -/
def mnI (x y : Int32) : Int32 := if y < x then y else x
def mxI (x y : Int32) : Int32 := if x < y then y else x
/-- a span: from x, y to x, y -/
abbrev E4 : Type := Int32 × Int32 × Int32 × Int32
def trn (cx cy px py qx qy : Int32) : Int64 := (px - cx).toInt64 * (qy - cy).toInt64 - (py - cy).toInt64 * (qx - cx).toInt64
def sgn (x : Int64) : Int32 := ((x >>> ((63 : Int32).toInt64 &&& 63)) ||| ((-x).toUInt64 >>> ((63 : Int32).toInt64.toUInt64 &&& Int64.toUInt64 63)).toInt64).toInt32
def alg (cx cy px py qx qy : Int32) : Int64 := (px - cx).toInt64 * (qx - cx).toInt64 + (py - cy).toInt64 * (qy - cy).toInt64
def swy (cx cy px py qx qy : Int32) : Int32 := if lg_cmp (alg cx cy px py qx qy) 0 ≤ 0 then 0 else if lg_cmp (trn cx cy px py qx qy) 0 = 0 then 1 else 0
theorem swy_z (cx cy px py qx qy : Int32) : narrow .boolean (.int (swy cx cy px py qx qy)) = .int (swy cx cy px py qx qy) := by
  unfold swy
  split
  · rfl
  · split <;> rfl
def sid (a : E4) (x y : Int32) : Int32 := sgn (trn a.1 a.2.1 a.2.2.1 a.2.2.2 x y)
def lpt (a b : E4) : Int32 := if 0 < sid a b.1 b.2.1 * sid a b.2.2.1 b.2.2.2 then 0 else 1
def bxa (a b : E4) : Int32 := if mxI a.1 a.2.2.1 < mnI b.1 b.2.2.1 then 1 else if mxI b.1 b.2.2.1 < mnI a.1 a.2.2.1 then 1 else if mxI a.2.1 a.2.2.2 < mnI b.2.1 b.2.2.2 then 1 else if mnI a.2.1 a.2.2.2 ≤ mxI b.2.1 b.2.2.2 then 0 else 1
def mt5 (a b : E4) : Int32 := if lpt a b = 0 then 0 else if lpt b a = 0 then 0 else 1
def mt4 (a b : E4) : Int32 := if a.2.2.1 = b.2.2.1 then (if a.2.2.2 = b.2.2.2 then swy a.2.2.1 a.2.2.2 a.1 a.2.1 b.1 b.2.1 else mt5 a b) else mt5 a b
def mt3 (a b : E4) : Int32 := if a.2.2.1 = b.1 then (if a.2.2.2 = b.2.1 then swy a.2.2.1 a.2.2.2 a.1 a.2.1 b.2.2.1 b.2.2.2 else mt4 a b) else mt4 a b
def mt2 (a b : E4) : Int32 := if a.1 = b.2.2.1 then (if a.2.1 = b.2.2.2 then swy a.1 a.2.1 a.2.2.1 a.2.2.2 b.1 b.2.1 else mt3 a b) else mt3 a b
def mt1 (a b : E4) : Int32 := if a.1 = b.1 then (if a.2.1 = b.2.1 then swy a.1 a.2.1 a.2.2.1 a.2.2.2 b.2.2.1 b.2.2.2 else mt2 a b) else mt2 a b
/-- do the two spans meet? -/
def mts (a b : E4) : Int32 := if bxa a b = 0 then mt1 a b else 0
