/-! THE REFERENCE's reading, part by part -/
theorem cl_lt (B : Int32) : B.toNatClampNeg < 2 ^ 31 := by
  by_cases h : B < 0
  · have : B.toNatClampNeg = 0 := by
      have h1 : B.toInt < 0 := Int32.lt_iff_toInt_lt.mp h
      rw [Int32.toNatClampNeg]
      omega
    omega
  · obtain ⟨j, hj, rfl⟩ := nI_of h
    rw [nI_clamp hj]
    exact hj
theorem le_nI {B : Int32} {i : Nat} (hi : i < 2 ^ 31) : B ≤ nI i ↔ B.toNatClampNeg ≤ i := by
  by_cases h : B < 0
  · have h1 : B.toInt < 0 := Int32.lt_iff_toInt_lt.mp h
    have h2 : B.toNatClampNeg = 0 := by
      rw [Int32.toNatClampNeg]
      omega
    constructor
    · intro _
      omega
    · intro _
      rw [Int32.le_iff_toInt_le, nI_toInt hi]
      omega
  · obtain ⟨j, hj, rfl⟩ := nI_of h
    rw [nI_clamp hj, nI_leI hj hi]
def yx1 (f : Nat → Int32) (n : Nat) (q : S5) : Int32 × S5 := ynx f n q 0 4
def yx2 (f : Nat → Int32) (n : Nat) (q : S5) : Int32 × S5 := ynx f n (yx1 f n q).2 0 4
def yxi (f : Nat → Int32) (n : Nat) : Nat → S5 → S5
  | 0, q => q
  | d + 1, q => if q.2.1 = 0 then yxi f n d (ynx f n q 0 15).2 else q
def yxB (f : Nat → Int32) (n : Nat) (q : S5) : Int32 := 1 <<< (((yx1 f n q).1 + (yx2 f n q).1) &&& 31)
def yxt (f : Nat → Int32) (n : Nat) (q : S5) : S5 := yxi f n (yxB f n q).toNatClampNeg (yx2 f n q).2
def ys1 (f : Nat → Int32) (n : Nat) (q : S5) : Int32 × S5 := ytw f n q (-1024) 1024
def ys2 (f : Nat → Int32) (n : Nat) (q : S5) : Int32 × S5 := ytw f n (ys1 f n q).2 (-1024) 1024
def ys3 (f : Nat → Int32) (n : Nat) (q : S5) : S5 := if (ys2 f n q).2.2.1 = 0 then (if (ys1 f n q).1 < (ys2 f n q).1 then (ys2 f n q).2 else ywr (ys2 f n q).2 3 (ys1 f n q).2.1) else (ys2 f n q).2
def ys4 (f : Nat → Int32) (n : Nat) (t : Int32) (q : S5) : Int32 × S5 := ynx f n (ys3 f n q) 0 (t - 1)
def ys5 (f : Nat → Int32) (n : Nat) (t : Int32) (q : S5) : Int32 × S5 := yor f n (ys4 f n t q).2 t
def ys6 (f : Nat → Int32) (n : Nat) (t : Int32) (q : S5) : Int32 × S5 := ynx f n (ys5 f n t q).2 0 15
def ys7 (f : Nat → Int32) (n : Nat) (t : Int32) (q : S5) : Int32 × S5 := ynx f n (ys6 f n t q).2 0 3
def ysc (f : Nat → Int32) (n : Nat) (t : Int32) (q : S5) : S5 := (ynx f n (ys7 f n t q).2 0 255).2
def yw1 (f : Nat → Int32) (n : Nat) (v : Int32) (q : S5) : Int32 × S5 := ynx f n q 0 (v - 1)
def yw2 (f : Nat → Int32) (n : Nat) (v : Int32) (q : S5) : Int32 × S5 := ynx f n (yw1 f n v q).2 0 (v - 1)
def yw3 (f : Nat → Int32) (n : Nat) (v : Int32) (q : S5) : S5 := if (yw2 f n v q).2.2.1 = 0 then (if (yw1 f n v q).1 = (yw2 f n v q).1 then ywr (yw2 f n v q).2 3 ((yw2 f n v q).2.1 - 1) else (yw2 f n v q).2) else (yw2 f n v q).2
def yw4 (f : Nat → Int32) (n : Nat) (v s : Int32) (q : S5) : Int32 × S5 := ynx f n (yw3 f n v q) 0 (s - 1)
def yw5 (f : Nat → Int32) (n : Nat) (v s : Int32) (q : S5) : Int32 × S5 := yor f n (yw4 f n v s q).2 s
def yws (f : Nat → Int32) (n : Nat) (t b : Int32) (k : Nat) (q : S5) : S5 := if (yor f n q t).2.2.1 = 0 then (if nI k ≤ 2 then (yor f n q t).2 else if b = 255 then (if (yor f n q t).1 = 255 then (yor f n q t).2 else ywr (yor f n q t).2 3 ((yor f n q t).2.1 - 1)) else (yor f n q t).2) else (yor f n q t).2
def ywt (f : Nat → Int32) (n : Nat) (t b : Int32) : Nat → Nat → S5 → S5
  | 0, _, q => q
  | d + 1, k, q => ywt f n t b d (k + 1) (yws f n t b k q)
def yw6 (f : Nat → Int32) (n : Nat) (v t s : Int32) (q : S5) : S5 := ywt f n t (yw5 f n v s q).1 6 0 (yw5 f n v s q).2
def ywa (f : Nat → Int32) (n : Nat) (v t s : Int32) (q : S5) : S5 := (ynx f n (ynx f n (ynx f n (ynx f n (yw6 f n v t s q) 0 255).2 0 3).2 0 5).2 0 255).2
def yck (f : Nat → Int32) (n : Nat) (due : Int32) (q : S5) : S5 := if (ynx f n q 0 255).2.2.1 = 0 then (if (ynx f n q 0 255).1 = due then (ynx f n q 0 255).2 else ywr (ynx f n q 0 255).2 4 q.1) else (ynx f n q 0 255).2
theorem ok5_vl {f : Nat → Int32} {n : Nat} {x y a : Int32} : ∀ (d o : Nat) (q : S5), ok5 n q → ok5 n (yvl f x y a d o q)
  | 0, _, _, h => h
  | d + 1, o, q, h => by
    unfold yvl
    split
    · refine ok5_vl d (o + 1) _ ?_
      split
      · split
        · exact ok5_wr h _ _
        · exact h
      · exact h
    · exact h
theorem ok5_vx {f : Nat → Int32} {n k : Nat} {q : S5} (h : ok5 n q) : ok5 n (yvx f n k q) := ok5_vl _ _ _ (ok5_tw (ok5_tw h _ _) _ _)
theorem ok5_xi {f : Nat → Int32} {n : Nat} : ∀ (d : Nat) (q : S5), ok5 n q → ok5 n (yxi f n d q)
  | 0, _, h => h
  | d + 1, q, h => by
    unfold yxi
    split
    · exact ok5_xi d _ (ok5_nx h _ _)
    · exact h
theorem ok5_xt {f : Nat → Int32} {n : Nat} {q : S5} (h : ok5 n q) : ok5 n (yxt f n q) := ok5_xi _ _ (ok5_nx (ok5_nx h _ _) _ _)
theorem ok5_s3 {f : Nat → Int32} {n : Nat} {q : S5} (h : ok5 n q) : ok5 n (ys3 f n q) := by
  have h1 : ok5 n (ys2 f n q).2 := ok5_tw (ok5_tw h _ _) _ _
  unfold ys3
  split
  · split
    · exact h1
    · exact ok5_wr h1 _ _
  · exact h1
theorem ok5_sc {f : Nat → Int32} {n : Nat} {t : Int32} {q : S5} (h : ok5 n q) : ok5 n (ysc f n t q) := ok5_nx (ok5_nx (ok5_nx (ok5_or (ok5_nx (ok5_s3 h) _ _) _) _ _) _ _) _ _
theorem ok5_w3 {f : Nat → Int32} {n : Nat} {v : Int32} {q : S5} (h : ok5 n q) : ok5 n (yw3 f n v q) := by
  have h1 : ok5 n (yw2 f n v q).2 := ok5_nx (ok5_nx h _ _) _ _
  unfold yw3
  split
  · split
    · exact ok5_wr h1 _ _
    · exact h1
  · exact h1
theorem ok5_ws {f : Nat → Int32} {n : Nat} {t b : Int32} {k : Nat} {q : S5} (h : ok5 n q) : ok5 n (yws f n t b k q) := by
  have h1 : ok5 n (yor f n q t).2 := ok5_or h _
  unfold yws
  split
  · split
    · exact h1
    · split
      · split
        · exact h1
        · exact ok5_wr h1 _ _
      · exact h1
  · exact h1
theorem ok5_wt {f : Nat → Int32} {n : Nat} {t b : Int32} : ∀ (d k : Nat) (q : S5), ok5 n q → ok5 n (ywt f n t b d k q)
  | 0, _, _, h => h
  | d + 1, k, q, h => ok5_wt d (k + 1) _ (ok5_ws h)
theorem ok5_w6 {f : Nat → Int32} {n : Nat} {v t s : Int32} {q : S5} (h : ok5 n q) : ok5 n (yw6 f n v t s q) := by
  have h1 : ok5 n (yw5 f n v s q).2 := ok5_or (ok5_nx (ok5_w3 h) _ _) _
  unfold yw6
  exact ok5_wt 6 0 _ h1
theorem ok5_wa {f : Nat → Int32} {n : Nat} {v t s : Int32} {q : S5} (h : ok5 n q) : ok5 n (ywa f n v t s q) := by
  have h1 : ok5 n (yw6 f n v t s q) := ok5_w6 h
  unfold ywa
  exact ok5_nx (ok5_nx (ok5_nx (ok5_nx h1 _ _) _ _) _ _) _ _
theorem ok5_ck {f : Nat → Int32} {n : Nat} {due : Int32} {q : S5} (h : ok5 n q) : ok5 n (yck f n due q) := by
  have h1 : ok5 n (ynx f n q 0 255).2 := ok5_nx h _ _
  unfold yck
  split
  · split
    · exact h1
    · exact ok5_wr h1 _ _
  · exact h1
theorem nx7 (o : Nat) : (7 : Int32) + 4 * nI o = nI (7 + 4 * o) := by
  rw [show (4 : Int32) = nI 4 from rfl, show (7 : Int32) = nI 7 from rfl, pk_mul, nI_add]
theorem nx9 (o : Nat) : (9 : Int32) + 4 * nI o = nI (9 + 4 * o) := by
  rw [show (4 : Int32) = nI 4 from rfl, show (9 : Int32) = nI 9 from rfl, pk_mul, nI_add]
