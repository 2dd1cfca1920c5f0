/-! THE REFERENCE, as pure functions. A reading: p, fault, place, one, two -/
abbrev S5 : Type := Int32 × Int32 × Int32 × Int32 × Int32
def ywr (q : S5) (num pl : Int32) : S5 := if q.2.1 = 0 then (q.1, num, pl, q.2.2.2) else q
def yad (q : S5) (b : Int32) : S5 := (q.1, q.2.1, q.2.2.1, md251 (q.2.2.2.1 + b), md251 (q.2.2.2.2 + md251 (q.2.2.2.1 + b)))
def yby (f : Nat → Int32) (q : S5) : Int32 := f q.1.toNatClampNeg &&& 255
def ynS (f : Nat → Int32) (q : S5) (lo hi : Int32) : S5 := if yby f q < lo then ywr q 3 q.1 else if yby f q ≤ hi then q else ywr q 3 q.1
def ynx (f : Nat → Int32) (n : Nat) (q : S5) (lo hi : Int32) : Int32 × S5 := if q.2.1 ≤ 0 then (if q.1 = nI n then (0, ywr q 1 (nI n)) else (yby f q, ((yad (ynS f q lo hi) (yby f q)).1 + 1, (yad (ynS f q lo hi) (yby f q)).2))) else (0, q)
def yor (f : Nat → Int32) (n : Nat) (q : S5) (m : Int32) : Int32 × S5 := ((ynx f n q 0 255).1, if (ynx f n q 0 255).2.2.1 = 0 then (if (ynx f n q 0 255).1 < m then (ynx f n q 0 255).2 else if (ynx f n q 0 255).1 = 255 then (ynx f n q 0 255).2 else ywr (ynx f n q 0 255).2 3 ((ynx f n q 0 255).2.1 - 1)) else (ynx f n q 0 255).2)
def yt1 (f : Nat → Int32) (n : Nat) (q : S5) : Int32 × S5 := ynx f n q 0 255
def yt2 (f : Nat → Int32) (n : Nat) (q : S5) : Int32 × S5 := ynx f n (yt1 f n q).2 0 255
def ytv (f : Nat → Int32) (n : Nat) (q : S5) : Int32 := w16 ((yt1 f n q).1 * 256 + (yt2 f n q).1)
def ytw (f : Nat → Int32) (n : Nat) (q : S5) (lo hi : Int32) : Int32 × S5 := (ytv f n q, if (yt2 f n q).2.2.1 = 0 then (if ytv f n q < lo then ywr (yt2 f n q).2 3 q.1 else if ytv f n q ≤ hi then (yt2 f n q).2 else ywr (yt2 f n q).2 3 q.1) else (yt2 f n q).2)
def ypr (f : Nat → Int32) (a : Nat) : Int32 := w16 ((f a &&& 255) * 256 + (f (a + 1) &&& 255))
def ok5 (n : Nat) (q : S5) : Prop := ∃ P : Nat, P ≤ n ∧ q.1 = nI P
theorem ok5_wr {n : Nat} {q : S5} (h : ok5 n q) (a b : Int32) : ok5 n (ywr q a b) := by
  unfold ywr
  split
  · exact h
  · exact h
theorem y_in {n : Nat} {q : S5} (h : ok5 n q) (h2 : ¬ q.1 = nI n) (hn : n ≤ 8192) : vp_in q.1 8192 := by
  obtain ⟨P, hP, e⟩ := h
  rw [e] at h2 ⊢
  have h3 : P ≠ n := fun q => h2 (by rw [q])
  exact vp_in_nI (by omega) (by decide)
theorem ywr_1 (q : S5) (a b : Int32) : (ywr q a b).1 = q.1 := by
  unfold ywr
  split <;> rfl
theorem ynS_1 (f : Nat → Int32) (q : S5) (lo hi : Int32) : (ynS f q lo hi).1 = q.1 := by
  unfold ynS
  split
  · exact ywr_1 _ _ _
  · split
    · rfl
    · exact ywr_1 _ _ _
theorem ok5_nx {f : Nat → Int32} {n : Nat} {q : S5} (h : ok5 n q) (lo hi : Int32) : ok5 n (ynx f n q lo hi).2 := by
  unfold ynx
  split
  · split
    · exact ok5_wr h _ _
    · rename_i h2
      obtain ⟨P, hP, e⟩ := h
      refine ⟨P + 1, ?_, ?_⟩
      · rw [e] at h2
        have h3 : P ≠ n := fun q => h2 (by rw [q])
        omega
      · show (ynS f q lo hi).1 + 1 = _
        rw [ynS_1, e, nI_1]
  · exact h
theorem ok5_or {f : Nat → Int32} {n : Nat} {q : S5} (h : ok5 n q) (m : Int32) : ok5 n (yor f n q m).2 := by
  have h1 : ok5 n (ynx f n q 0 255).2 := ok5_nx h _ _
  unfold yor
  dsimp only
  split
  · split
    · exact h1
    · split
      · exact h1
      · exact ok5_wr h1 _ _
  · exact h1
theorem ok5_tw {f : Nat → Int32} {n : Nat} {q : S5} (h : ok5 n q) (lo hi : Int32) : ok5 n (ytw f n q lo hi).2 := by
  have h1 : ok5 n (yt2 f n q).2 := ok5_nx (ok5_nx h _ _) _ _
  unfold ytw
  dsimp only
  split
  · split
    · exact ok5_wr h1 _ _
    · split
      · exact h1
      · exact ok5_wr h1 _ _
  · exact h1
/-- the vertices o, o + 1 .. below k: is one at x, y? -/
def yvl (f : Nat → Int32) (x y a : Int32) : Nat → Nat → S5 → S5
  | 0, _, q => q
  | d + 1, o, q => if q.2.1 = 0 then yvl f x y a d (o + 1) (if ypr f (7 + 4 * o) = x then (if ypr f (9 + 4 * o) = y then ywr q 3 a else q) else q) else q
def yv1 (f : Nat → Int32) (n : Nat) (q : S5) : Int32 × S5 := ytw f n q (-32768) 32767
def yv2 (f : Nat → Int32) (n : Nat) (q : S5) : Int32 × S5 := ytw f n (yv1 f n q).2 (-32768) 32767
def yvx (f : Nat → Int32) (n : Nat) (k : Nat) (q : S5) : S5 := yvl f (yv1 f n q).1 (yv2 f n q).1 (yv1 f n q).2.1 k 0 (yv2 f n q).2
