/-! geometry of two spans, whole numbers -/
/-- which side of a to b is c on? -/
def gc (ax ay bx by' cx cy : Int) : Int := (bx - ax) * (cy - ay) - (by' - ay) * (cx - ax)
/-- below 0: c is between a and b (if on their line) -/
def gd (ax ay bx by' cx cy : Int) : Int := (ax - cx) * (bx - cx) + (ay - cy) * (by' - cy)
theorem g_lg (a b : Int) : a < b ∨ b ≤ a := by omega
theorem g_sq (x : Int) : 0 ≤ x * x := by
  rcases Int.le_total 0 x with h | h
  · exact Int.mul_nonneg h h
  · exact Int.mul_nonneg_of_nonpos_of_nonpos h h
theorem g_sq0 {x : Int} (h : x ≠ 0) : 0 < x * x := by
  have h1 := g_sq x
  have h2 : x * x ≠ 0 := Int.mul_ne_zero h h
  omega
theorem g_sum {x y : Int} (h : ¬ (x = 0 ∧ y = 0)) : 0 < x * x + y * y := by
  have h1 := g_sq x
  have h2 := g_sq y
  by_cases hx : x = 0
  · have hy : y ≠ 0 := fun q => h ⟨hx, q⟩
    have := g_sq0 hy
    omega
  · have := g_sq0 hx
    omega
/-- p, q on one line through 0, neither 0: p·q is not 0 -/
theorem g_dot {px py qx qy : Int} (hc : px * qy = py * qx) (h1 : ¬ (px = 0 ∧ py = 0)) (h2 : ¬ (qx = 0 ∧ qy = 0)) : px * qx + py * qy ≠ 0 := by
  intro h
  have e : (px * qx + py * qy) * (px * qx + py * qy) = (px * px + py * py) * (qx * qx + qy * qy) := by grind
  have := Int.mul_pos (g_sum h1) (g_sum h2)
  rw [← e, h] at this
  omega
theorem g_neg_of {a b c : Int} (ha : 0 < a) (h : b * a = c) (hc : c ≤ 0) : b ≤ 0 := by
  rcases g_lg 0 b with q | q
  · have := Int.mul_pos q ha
    omega
  · exact q
/-- the key: a1, a2 on one line with the point b1 (p = a1 - b1, q = a2 - b1), w any way: sides of w -/
theorem g_key {px py qx qy wx wy : Int} (hc : px * qy = py * qx) : (wx * py - wy * px) * (wx * qy - wy * qx) * ((qx - px) * (qx - px) + (qy - py) * (qy - py)) = (px * qx + py * qy) * ((wx * (qy - py) - wy * (qx - px)) * (wx * (qy - py) - wy * (qx - px))) := by grind
/-- b1 on the line of a, the ends of a not on one side of b: then b1 is between -/
theorem g_in {px py qx qy wx wy : Int} (hc : px * qy = py * qx) (h1 : ¬ (px = 0 ∧ py = 0)) (h2 : ¬ (qx = 0 ∧ qy = 0)) (hw : wx * (qy - py) - wy * (qx - px) ≠ 0) (hs : (wx * py - wy * px) * (wx * qy - wy * qx) ≤ 0) : px * qx + py * qy < 0 := by
  have k := g_key (wx := wx) (wy := wy) hc
  have n1 := g_dot hc h1 h2
  have n2 : 0 ≤ (qx - px) * (qx - px) + (qy - py) * (qy - py) := Int.add_nonneg (g_sq _) (g_sq _)
  have n3 : (wx * py - wy * px) * (wx * qy - wy * qx) * ((qx - px) * (qx - px) + (qy - py) * (qy - py)) ≤ 0 := Int.mul_nonpos_of_nonpos_of_nonneg hs n2
  have n4 := g_neg_of (g_sq0 hw) k.symm n3
  omega
/-- between: the sides of the other are not the same -/
theorem g_out {px py qx qy wx wy : Int} (hc : px * qy = py * qx) (hd : px * qx + py * qy < 0) : (wx * py - wy * px) * (wx * qy - wy * qx) ≤ 0 := by
  have k := g_key (wx := wx) (wy := wy) hc
  have h : ¬ (qx - px = 0 ∧ qy - py = 0) := by
    intro ⟨q1, q2⟩
    have e1 : qx = px := by omega
    have e2 : qy = py := by omega
    rw [e1, e2] at hd
    have := g_sq px
    have := g_sq py
    omega
  have n1 := g_sum h
  refine g_neg_of n1 k ?_
  exact Int.mul_nonpos_of_nonpos_of_nonneg (by omega) (g_sq _)
/-- between: within the box -/
theorem g_box {px py qx qy : Int} (hc : px * qy = py * qx) (hd : px * qx + py * qy < 0) : px * qx ≤ 0 ∧ py * qy ≤ 0 := by
  have e : (px * qx) * (py * qy) = (px * qy) * (px * qy) := by grind
  have h := g_sq (px * qy)
  rw [← e] at h
  constructor
  · rcases g_lg 0 (px * qx) with q | q
    · have : py * qy < 0 := by omega
      have := Int.mul_neg_of_pos_of_neg q this
      omega
    · exact q
  · rcases g_lg 0 (py * qy) with q | q
    · have : px * qx < 0 := by omega
      have := Int.mul_neg_of_neg_of_pos this q
      omega
    · exact q
theorem g_btw {a b c : Int} (h : (a - c) * (b - c) ≤ 0) : (a ≤ c ∧ c ≤ b) ∨ (b ≤ c ∧ c ≤ a) := by
  rcases g_lg c a with h1 | h1
  · rcases g_lg c b with h2 | h2
    · have := Int.mul_pos (show 0 < a - c by omega) (show 0 < b - c by omega)
      omega
    · exact Or.inr ⟨h2, by omega⟩
  · rcases g_lg b c with h2 | h2
    · rcases g_lg a c with h3 | h3
      · have := Int.mul_pos_of_neg_of_neg (show a - c < 0 by omega) (show b - c < 0 by omega)
        omega
      · exact Or.inr ⟨by omega, h3⟩
    · exact Or.inl ⟨h1, h2⟩
/-- one shared end (u, v from there, on one line): the same way, iff one end is within the other -/
theorem g_one {ux uy vx vy : Int} (hc : ux * vy = uy * vx) (hn : ¬ (ux = vx ∧ uy = vy)) : 0 < ux * vx + uy * vy ↔ (vx * vx + vy * vy < ux * vx + uy * vy ∨ ux * ux + uy * uy < ux * vx + uy * vy) := by
  have e : (ux * vx + uy * vy) * (ux * vx + uy * vy) = (ux * ux + uy * uy) * (vx * vx + vy * vy) := by grind
  have e2 : (ux - vx) * (ux - vx) + (uy - vy) * (uy - vy) = (ux * ux + uy * uy) - 2 * (ux * vx + uy * vy) + (vx * vx + vy * vy) := by grind
  have hp := g_sum (x := ux - vx) (y := uy - vy) (fun q => hn ⟨by omega, by omega⟩)
  have hu : 0 ≤ ux * ux + uy * uy := Int.add_nonneg (g_sq _) (g_sq _)
  have hv : 0 ≤ vx * vx + vy * vy := Int.add_nonneg (g_sq _) (g_sq _)
  rw [e2] at hp
  generalize ux * vx + uy * vy = d at *
  generalize ux * ux + uy * uy = s at *
  generalize vx * vx + vy * vy = t at *
  constructor
  · intro h
    rcases g_lg t d with q | q
    · exact Or.inl q
    · rcases g_lg s d with r | r
      · exact Or.inr r
      · exfalso
        have a1 : d * d ≤ s * d := Int.mul_le_mul_of_nonneg_right r (by omega)
        have a2 : s * d ≤ s * t := Int.mul_le_mul_of_nonneg_left q hu
        rcases g_lg d t with y | y
        · have : s * d < s * t := Int.mul_lt_mul_of_pos_left y (by omega)
          omega
        · have et : t = d := by omega
          rcases g_lg d s with z | z
          · have : d * d < s * d := Int.mul_lt_mul_of_pos_right z h
            omega
          · omega
  · intro h
    omega
/-- all of a, b below all of c, d -/
def gal (a b c d : Int) : Prop := a < c ∧ a < d ∧ b < c ∧ b < d
theorem g_mid {a b c d : Int} (h : gal a b c d) : ∃ N : Int, a < N ∧ b < N ∧ N ≤ c ∧ N ≤ d := by
  obtain ⟨h1, h2, h3, h4⟩ := h
  rcases Int.le_total c d with q | q
  · exact ⟨c, h1, h3, Int.le_refl _, q⟩
  · exact ⟨d, h2, h4, q, Int.le_refl _⟩
theorem g_w {a b c d s t u v : Int} (hs : 0 < s) (ht : 0 < t) (hu : 0 < u) (hv : 0 < v) (hT : s + t = u + v) (he : s * a + t * b = u * c + v * d) (h : gal a b c d) : False := by
  obtain ⟨N, h1, h2, h3, h4⟩ := g_mid h
  have a1 : s * a ≤ s * (N - 1) := Int.mul_le_mul_of_nonneg_left (by omega) (by omega)
  have a2 : t * b ≤ t * (N - 1) := Int.mul_le_mul_of_nonneg_left (by omega) (by omega)
  have a3 : u * N ≤ u * c := Int.mul_le_mul_of_nonneg_left (by omega) (by omega)
  have a4 : v * N ≤ v * d := Int.mul_le_mul_of_nonneg_left (by omega) (by omega)
  have e1 : s * (N - 1) + t * (N - 1) = (u + v) * N - (u + v) := by rw [← hT]; grind
  have e2 : u * N + v * N = (u + v) * N := by grind
  omega
theorem g_sgn {a b : Int} (h : a * b < 0) : (0 < a ∧ b < 0) ∨ (a < 0 ∧ 0 < b) := by
  rcases g_lg 0 a with q | q
  · rcases g_lg b 0 with r | r
    · exact Or.inl ⟨q, r⟩
    · have := Int.mul_nonneg (show 0 ≤ a by omega) r
      omega
  · rcases g_lg 0 b with r | r
    · rcases g_lg a 0 with w | w
      · exact Or.inr ⟨w, r⟩
      · have : a = 0 := by omega
        rw [this, Int.zero_mul] at h
        omega
    · have := Int.mul_nonneg_of_nonpos_of_nonpos q r
      omega
/-- the spans cut each other: their boxes are not apart (s1, s2: b's sides of a; s3, s4: a's sides of b) -/
theorem g_cutx {a b c d s1 s2 s3 s4 : Int} (hT : s3 - s4 = s2 - s1) (he : s1 * d - s2 * c = s4 * a - s3 * b) (h1 : s1 * s2 < 0) (h2 : s3 * s4 < 0) : ¬ gal a b c d ∧ ¬ gal c d a b := by
  rcases g_sgn h1 with ⟨q1, q2⟩ | ⟨q1, q2⟩
  · rcases g_sgn h2 with ⟨r1, r2⟩ | ⟨r1, r2⟩
    · omega
    · have e : s4 * a + (-s3) * b = (-s2) * c + s1 * d := by grind
      exact ⟨g_w r2 (by omega) (by omega) q1 (by omega) e, g_w (s := -s2) (t := s1) (u := s4) (v := -s3) (by omega) q1 r2 (by omega) (by omega) e.symm⟩
  · rcases g_sgn h2 with ⟨r1, r2⟩ | ⟨r1, r2⟩
    · have e : (-s4) * a + s3 * b = s2 * c + (-s1) * d := by grind
      exact ⟨g_w (by omega) r1 q2 (by omega) (by omega) e, g_w q2 (show 0 < -s1 by omega) (show 0 < -s4 by omega) r1 (by omega) e.symm⟩
    · omega
theorem g_1d {a b c d : Int} (h1 : a ≠ c) (h2 : a ≠ d) (h3 : b ≠ c) (h4 : b ≠ d) (h5 : a ≠ b) (h6 : c ≠ d) (h7 : ¬ gal a b c d) (h8 : ¬ gal c d a b) : (a - c) * (b - c) < 0 ∨ (a - d) * (b - d) < 0 ∨ (c - a) * (d - a) < 0 ∨ (c - b) * (d - b) < 0 := by
  have k : ∀ {x y z : Int}, (x < z ∧ z < y) ∨ (y < z ∧ z < x) → (x - z) * (y - z) < 0 := by
    intro x y z h
    rcases h with ⟨q, r⟩ | ⟨q, r⟩
    · exact Int.mul_neg_of_neg_of_pos (by omega) (by omega)
    · exact Int.mul_neg_of_pos_of_neg (by omega) (by omega)
  have m : ((a < c ∧ c < b) ∨ (b < c ∧ c < a)) ∨ ((a < d ∧ d < b) ∨ (b < d ∧ d < a)) ∨ ((c < a ∧ a < d) ∨ (d < a ∧ a < c)) ∨ ((c < b ∧ b < d) ∨ (d < b ∧ b < c)) := by
    by_cases x1 : (a < c ∧ c < b) ∨ (b < c ∧ c < a)
    · exact Or.inl x1
    · by_cases x2 : (a < d ∧ d < b) ∨ (b < d ∧ d < a)
      · exact Or.inr (Or.inl x2)
      · refine Or.inr (Or.inr (Or.inl ?_))
        have y1 : (c < a ∧ c < b) ∨ (a < c ∧ b < c) := by omega
        have y2 : (d < a ∧ d < b) ∨ (a < d ∧ b < d) := by omega
        rcases y1 with y1 | y1
        · rcases y2 with y2 | y2
          · exact absurd ⟨y1.1, y1.2, y2.1, y2.2⟩ h8
          · exact Or.inl ⟨y1.1, y2.1⟩
        · rcases y2 with y2 | y2
          · exact Or.inr ⟨y2.1, y1.1⟩
          · exact absurd ⟨y1.1, y2.1, y1.2, y2.2⟩ h7
  rcases m with h | h | h | h
  · exact Or.inl (k h)
  · exact Or.inr (Or.inl (k h))
  · exact Or.inr (Or.inr (Or.inl (k h)))
  · exact Or.inr (Or.inr (Or.inr (k h)))
/-- on a line that isn't upright: the x's say which is between -/
theorem g_line {px py qx qy cx cy dx dy : Int} (hd : dx ≠ 0) (h1 : (px - cx) * dy = (py - cy) * dx) (h2 : (qx - cx) * dy = (qy - cy) * dx) (h : (px - cx) * (qx - cx) < 0) : gd px py qx qy cx cy < 0 := by
  have e : gd px py qx qy cx cy * (dx * dx) = (px - cx) * (qx - cx) * (dx * dx + dy * dy) := by
    unfold gd
    grind
  have n1 : 0 < dx * dx + dy * dy := g_sum (fun q => hd q.1)
  have n2 := Int.mul_neg_of_neg_of_pos h n1
  have n3 := g_sq0 hd
  rcases g_lg (gd px py qx qy cx cy) 0 with q | q
  · exact q
  · have := Int.mul_nonneg q (show 0 ≤ dx * dx by omega)
    omega
theorem g_ncx {px py qx qy dx dy : Int} (hd : dx ≠ 0) (h1 : (px - qx) * dy = (py - qy) * dx) (hn : ¬ (px = qx ∧ py = qy)) : px ≠ qx := by
  intro q
  rw [q, Int.sub_self, Int.zero_mul] at h1
  rcases Int.mul_eq_zero.mp h1.symm with r | r
  · exact hn ⟨q, by omega⟩
  · exact hd r
/-- two spans on one line, x -/
theorem g_colx {a b c d e g i j : Int} (h1 : gc a b c d e g = 0) (h2 : gc a b c d i j = 0) (hd : c - a ≠ 0) (n0 : ¬ (e = i ∧ g = j)) (n1 : ¬ (a = e ∧ b = g)) (n2 : ¬ (a = i ∧ b = j)) (n3 : ¬ (c = e ∧ d = g)) (n4 : ¬ (c = i ∧ d = j)) (b1 : ¬ gal a c e i) (b2 : ¬ gal e i a c) : gd a b c d e g < 0 ∨ gd a b c d i j < 0 ∨ gd e g i j a b < 0 ∨ gd e g i j c d < 0 := by
  unfold gc at h1 h2
  have l1 : (a - e) * (d - b) = (b - g) * (c - a) := by grind
  have l2 : (a - i) * (d - b) = (b - j) * (c - a) := by grind
  have l3 : (c - e) * (d - b) = (d - g) * (c - a) := by grind
  have l4 : (c - i) * (d - b) = (d - j) * (c - a) := by grind
  have l5 : (e - i) * (d - b) = (g - j) * (c - a) := by grind
  have m1 : (e - a) * (d - b) = (g - b) * (c - a) := by grind
  have m2 : (i - a) * (d - b) = (j - b) * (c - a) := by grind
  have m3 : (e - c) * (d - b) = (g - d) * (c - a) := by grind
  have m4 : (i - c) * (d - b) = (j - d) * (c - a) := by grind
  rcases g_1d (g_ncx hd l1 n1) (g_ncx hd l2 n2) (g_ncx hd l3 n3) (g_ncx hd l4 n4) (by omega) (g_ncx hd l5 n0) b1 b2 with h | h | h | h
  · exact Or.inl (g_line hd l1 l3 h)
  · exact Or.inr (Or.inl (g_line hd l2 l4 h))
  · exact Or.inr (Or.inr (Or.inl (g_line hd m1 m2 h)))
  · exact Or.inr (Or.inr (Or.inr (g_line hd m3 m4 h)))
theorem gd_swap (a b c d e g : Int) : gd b a d c g e = gd a b c d e g := by
  unfold gd
  grind
theorem gc_swap (a b c d e g : Int) : gc b a d c g e = - gc a b c d e g := by
  unfold gc
  grind
theorem gc_flip (a b c d e g : Int) : gc c d a b e g = - gc a b c d e g := by
  unfold gc
  grind
/-- b1 on a's line, b2 not, a's ends not on one side of b: b1 is between a's ends -/
theorem g_on {a b c d e g i j : Int} (h1 : gc a b c d e g = 0) (h2 : gc a b c d i j ≠ 0) (hs : gc e g i j a b * gc e g i j c d ≤ 0) (n1 : ¬ (a = e ∧ b = g)) (n3 : ¬ (c = e ∧ d = g)) : gd a b c d e g < 0 := by
  unfold gc at h1 h2 hs
  unfold gd
  refine g_in (px := a - e) (py := b - g) (qx := c - e) (qy := d - g) (wx := i - e) (wy := j - g) (by grind) (fun q => n1 ⟨by omega, by omega⟩) (fun q => n3 ⟨by omega, by omega⟩) ?_ hs
  intro h
  apply h2
  grind
/-- THE TWO TESTS: no shared end -/
theorem g_no {a b c d e g i j : Int} (na : ¬ (a = c ∧ b = d)) (n0 : ¬ (e = i ∧ g = j)) (n1 : ¬ (a = e ∧ b = g)) (n2 : ¬ (a = i ∧ b = j)) (n3 : ¬ (c = e ∧ d = g)) (n4 : ¬ (c = i ∧ d = j)) : (¬ gal a c e i ∧ ¬ gal e i a c ∧ ¬ gal b d g j ∧ ¬ gal g j b d ∧ gc a b c d e g * gc a b c d i j ≤ 0 ∧ gc e g i j a b * gc e g i j c d ≤ 0) ↔ ((gc a b c d e g * gc a b c d i j < 0 ∧ gc e g i j a b * gc e g i j c d < 0) ∨ (gc a b c d e g = 0 ∧ gd a b c d e g < 0) ∨ (gc a b c d i j = 0 ∧ gd a b c d i j < 0) ∨ (gc e g i j a b = 0 ∧ gd e g i j a b < 0) ∨ (gc e g i j c d = 0 ∧ gd e g i j c d < 0)) := by
  constructor
  · intro ⟨b1, b2, b3, b4, t1, t2⟩
    by_cases z1 : gc a b c d e g = 0
    · by_cases z2 : gc a b c d i j = 0
      · have c3 : gc e g i j a b = 0 := by
          by_cases q : c - a = 0
          · unfold gc at z1 z2 ⊢
            have q2 : d - b ≠ 0 := fun r => na ⟨by omega, by omega⟩
            rw [q] at z1 z2
            have r1 : e - a = 0 := by
              rcases Int.mul_eq_zero.mp (show (d - b) * (e - a) = 0 by omega) with w | w
              · exact absurd w q2
              · exact w
            have r2 : i - a = 0 := by
              rcases Int.mul_eq_zero.mp (show (d - b) * (i - a) = 0 by omega) with w | w
              · exact absurd w q2
              · exact w
            have r3 : i - e = 0 := by omega
            have r4 : a - e = 0 := by omega
            rw [r3, r4]
            omega
          · unfold gc at z1 z2 ⊢
            have w : (c - a) * ((i - e) * (b - g) - (j - g) * (a - e)) = 0 := by grind
            exact (Int.mul_eq_zero.mp w).resolve_left q
        have c4 : gc e g i j c d = 0 := by
          by_cases q : c - a = 0
          · unfold gc at z1 z2 ⊢
            have q2 : d - b ≠ 0 := fun r => na ⟨by omega, by omega⟩
            rw [q] at z1 z2
            have r1 : e - a = 0 := by
              rcases Int.mul_eq_zero.mp (show (d - b) * (e - a) = 0 by omega) with w | w
              · exact absurd w q2
              · exact w
            have r2 : i - a = 0 := by
              rcases Int.mul_eq_zero.mp (show (d - b) * (i - a) = 0 by omega) with w | w
              · exact absurd w q2
              · exact w
            have r3 : i - e = 0 := by omega
            have r4 : c - e = 0 := by omega
            rw [r3, r4]
            omega
          · unfold gc at z1 z2 ⊢
            have w : (c - a) * ((i - e) * (d - g) - (j - g) * (c - e)) = 0 := by grind
            exact (Int.mul_eq_zero.mp w).resolve_left q
        have m : gd a b c d e g < 0 ∨ gd a b c d i j < 0 ∨ gd e g i j a b < 0 ∨ gd e g i j c d < 0 := by
          by_cases q : c - a = 0
          · have q2 : d - b ≠ 0 := fun r => na ⟨by omega, by omega⟩
            have k := g_colx (a := b) (b := a) (c := d) (d := c) (e := g) (g := e) (i := j) (j := i) (by rw [gc_swap, z1]; rfl) (by rw [gc_swap, z2]; rfl) q2 (fun w => n0 ⟨w.2, w.1⟩) (fun w => n1 ⟨w.2, w.1⟩) (fun w => n2 ⟨w.2, w.1⟩) (fun w => n3 ⟨w.2, w.1⟩) (fun w => n4 ⟨w.2, w.1⟩) b3 b4
            rwa [gd_swap a b c d e g, gd_swap a b c d i j, gd_swap e g i j a b, gd_swap e g i j c d] at k
          · exact g_colx z1 z2 q n0 n1 n2 n3 n4 b1 b2
        rcases m with m | m | m | m
        · exact Or.inr (Or.inl ⟨z1, m⟩)
        · exact Or.inr (Or.inr (Or.inl ⟨z2, m⟩))
        · exact Or.inr (Or.inr (Or.inr (Or.inl ⟨c3, m⟩)))
        · exact Or.inr (Or.inr (Or.inr (Or.inr ⟨c4, m⟩)))
      · exact Or.inr (Or.inl ⟨z1, g_on z1 z2 t2 n1 n3⟩)
    · by_cases z2 : gc a b c d i j = 0
      · refine Or.inr (Or.inr (Or.inl ⟨z2, g_on z2 z1 ?_ n2 n4⟩))
        rw [gc_flip e g i j, gc_flip e g i j, Int.neg_mul_neg]
        exact t2
      · have u1 : gc a b c d e g * gc a b c d i j < 0 := by
          have := Int.mul_ne_zero z1 z2
          omega
        by_cases z3 : gc e g i j a b = 0
        · refine Or.inr (Or.inr (Or.inr (Or.inl ⟨z3, ?_⟩)))
          have z4 : gc e g i j c d ≠ 0 := by
            intro w
            have k : gc a b c d e g = gc a b c d i j := by
              unfold gc at z3 w ⊢
              grind
            rw [k] at u1
            have := g_sq (gc a b c d i j)
            omega
          exact g_on z3 z4 t1 (fun w => n1 ⟨w.1.symm, w.2.symm⟩) (fun w => n2 ⟨w.1.symm, w.2.symm⟩)
        · by_cases z4 : gc e g i j c d = 0
          · refine Or.inr (Or.inr (Or.inr (Or.inr ⟨z4, ?_⟩)))
            refine g_on z4 z3 ?_ (fun w => n3 ⟨w.1.symm, w.2.symm⟩) (fun w => n4 ⟨w.1.symm, w.2.symm⟩)
            rw [gc_flip a b c d, gc_flip a b c d, Int.neg_mul_neg]
            exact t1
          · have := Int.mul_ne_zero z3 z4
            exact Or.inl ⟨u1, by omega⟩
  · have lies : ∀ {a b c d e g i j : Int}, gc a b c d e g = 0 → gd a b c d e g < 0 → ¬ gal a c e i ∧ ¬ gal e i a c ∧ ¬ gal b d g j ∧ ¬ gal g j b d ∧ gc a b c d e g * gc a b c d i j ≤ 0 ∧ gc e g i j a b * gc e g i j c d ≤ 0 := by
      intro a b c d e g i j z h
      have hc : (a - e) * (d - g) = (b - g) * (c - e) := by
        unfold gc at z
        grind
      have hd : (a - e) * (c - e) + (b - g) * (d - g) < 0 := h
      obtain ⟨k1, k2⟩ := g_box hc hd
      have q1 := g_btw k1
      have q2 := g_btw k2
      refine ⟨?_, ?_, ?_, ?_, ?_, ?_⟩
      · intro w
        obtain ⟨w1, w2, w3, w4⟩ := w
        omega
      · intro w
        obtain ⟨w1, w2, w3, w4⟩ := w
        omega
      · intro w
        obtain ⟨w1, w2, w3, w4⟩ := w
        omega
      · intro w
        obtain ⟨w1, w2, w3, w4⟩ := w
        omega
      · rw [z, Int.zero_mul]
        exact Int.le_refl _
      · exact g_out hc hd
    have sw : ∀ {p q r s t u : Int}, gal p q r s → gal p q s r := fun h => ⟨h.2.1, h.1, h.2.2.2, h.2.2.1⟩
    intro h
    rcases h with ⟨u1, u2⟩ | ⟨z, h⟩ | ⟨z, h⟩ | ⟨z, h⟩ | ⟨z, h⟩
    · have eT : gc e g i j a b - gc e g i j c d = gc a b c d i j - gc a b c d e g := by
        unfold gc
        grind
      have ex : gc a b c d e g * i - gc a b c d i j * e = gc e g i j c d * a - gc e g i j a b * c := by
        unfold gc
        grind
      have ey : gc a b c d e g * j - gc a b c d i j * g = gc e g i j c d * b - gc e g i j a b * d := by
        unfold gc
        grind
      obtain ⟨k1, k2⟩ := g_cutx eT ex u1 u2
      obtain ⟨k3, k4⟩ := g_cutx eT ey u1 u2
      exact ⟨k1, k2, k3, k4, by omega, by omega⟩
    · exact lies z h
    · obtain ⟨k1, k2, k3, k4, k5, k6⟩ := lies (i := e) (j := g) z h
      refine ⟨fun w => k1 ⟨w.2.1, w.1, w.2.2.2, w.2.2.1⟩, fun w => k2 ⟨w.2.2.1, w.2.2.2, w.1, w.2.1⟩, fun w => k3 ⟨w.2.1, w.1, w.2.2.2, w.2.2.1⟩, fun w => k4 ⟨w.2.2.1, w.2.2.2, w.1, w.2.1⟩, ?_, ?_⟩
      · rw [Int.mul_comm]
        exact k5
      · rw [gc_flip e g i j, gc_flip e g i j, Int.neg_mul_neg] at k6
        exact k6
    · obtain ⟨k1, k2, k3, k4, k5, k6⟩ := lies (i := c) (j := d) z h
      exact ⟨k2, k1, k4, k3, k6, k5⟩
    · obtain ⟨k1, k2, k3, k4, k5, k6⟩ := lies (i := a) (j := b) z h
      refine ⟨fun w => k2 ⟨w.2.2.1, w.2.2.2, w.1, w.2.1⟩, fun w => k1 ⟨w.2.1, w.1, w.2.2.2, w.2.2.1⟩, fun w => k4 ⟨w.2.2.1, w.2.2.2, w.1, w.2.1⟩, fun w => k3 ⟨w.2.1, w.1, w.2.2.2, w.2.2.1⟩, ?_, ?_⟩
      · rw [gc_flip a b c d, gc_flip a b c d, Int.neg_mul_neg] at k6
        exact k6
      · rw [Int.mul_comm]
        exact k5
/-- c is between a and b -/
def gL (a b c d e g : Int) : Prop := gc a b c d e g = 0 ∧ gd a b c d e g < 0
theorem gd_comm (a b c d e g : Int) : gd c d a b e g = gd a b c d e g := by
  unfold gd
  grind
theorem gL_comm (a b c d e g : Int) : gL c d a b e g ↔ gL a b c d e g := by
  unfold gL
  rw [gc_flip, gd_comm]
  omega
theorem gL_end1 (a b c d : Int) : ¬ gL a b c d a b := by
  intro h
  have h2 := h.2
  unfold gd at h2
  grind
theorem gL_end2 (a b c d : Int) : ¬ gL a b c d c d := fun h => gL_end1 c d a b ((gL_comm a b c d c d).mpr h)
/-- the same way out of one end -/
def gW (a b c d e g : Int) : Prop := 0 < gd c d e g a b ∧ gc a b c d e g = 0
theorem gc_z1 (a b c d : Int) : gc a b c d a b = 0 := by
  unfold gc
  grind
theorem gc_z2 (a b c d : Int) : gc a b c d c d = 0 := by
  unfold gc
  grind
/-- one shared end s, the others p, q -/
theorem g_sh {a b c d e g : Int} (hn : ¬ (c = e ∧ d = g)) : gW a b c d e g ↔ (gL a b c d e g ∨ gL a b e g c d) := by
  have e1 : gc a b e g c d = - gc a b c d e g := by
    unfold gc
    grind
  unfold gW gL
  rw [e1]
  by_cases hz : gc a b c d e g = 0
  · have hc : (c - a) * (g - b) = (d - b) * (e - a) := by
      unfold gc at hz
      omega
    have k := g_one hc (fun q => hn ⟨by omega, by omega⟩)
    have f1 : gd a b c d e g = ((e - a) * (e - a) + (g - b) * (g - b)) - ((c - a) * (e - a) + (d - b) * (g - b)) := by
      unfold gd
      grind
    have f2 : gd a b e g c d = ((c - a) * (c - a) + (d - b) * (d - b)) - ((c - a) * (e - a) + (d - b) * (g - b)) := by
      unfold gd
      grind
    have f3 : gd c d e g a b = (c - a) * (e - a) + (d - b) * (g - b) := rfl
    rw [f1, f2, f3]
    omega
  · omega
/-- the reference's test, in points -/
def gY (a b c d e g i j : Int) : Prop := (((a = e ∧ b = g) ∧ (c = i ∧ d = j)) ∨ ((a = i ∧ b = j) ∧ (c = e ∧ d = g))) ∨ (gc a b c d e g * gc a b c d i j < 0 ∧ gc e g i j a b * gc e g i j c d < 0) ∨ gL a b c d e g ∨ gL a b c d i j ∨ gL e g i j a b ∨ gL e g i j c d
def gB (a b c d e g i j : Int) : Prop := ¬ gal a c e i ∧ ¬ gal e i a c ∧ ¬ gal b d g j ∧ ¬ gal g j b d
/-- a1 = b1 -/
theorem g_11 {a b c d i j : Int} (na : ¬ (a = c ∧ b = d)) (nb : ¬ (a = i ∧ b = j)) : gB a b c d a b i j ∧ (gW a b c d i j ↔ gY a b c d a b i j) := by
  refine ⟨⟨fun h => by have := h.1; omega, fun h => by have := h.1; omega, fun h => by have := h.1; omega, fun h => by have := h.1; omega⟩, ?_⟩
  by_cases hs : c = i ∧ d = j
  · obtain ⟨rfl, rfl⟩ := hs
    refine ⟨fun _ => Or.inl (Or.inl ⟨⟨rfl, rfl⟩, rfl, rfl⟩), fun _ => ⟨?_, gc_z2 a b c d⟩⟩
    show 0 < (c - a) * (c - a) + (d - b) * (d - b)
    exact g_sum (fun q => na ⟨by omega, by omega⟩)
  · rw [g_sh hs]
    unfold gY
    rw [gc_z1, gc_z1, Int.zero_mul, Int.zero_mul]
    have z1 := gL_end1 a b c d
    have z2 := gL_end1 a b i j
    constructor
    · intro h
      rcases h with h | h
      · exact Or.inr (Or.inr (Or.inr (Or.inl h)))
      · exact Or.inr (Or.inr (Or.inr (Or.inr (Or.inr h))))
    · intro h
      rcases h with (h | h) | h | h | h | h | h
      · exact absurd h.2 hs
      · exact absurd h.1 nb
      · omega
      · exact absurd h z1
      · exact Or.inl h
      · exact absurd h z2
      · exact Or.inr h
theorem gY_f1 (a b c d e g i j : Int) : gY c d a b e g i j ↔ gY a b c d e g i j := by
  unfold gY
  rw [gc_flip a b c d e g, gc_flip a b c d i j, Int.neg_mul_neg, gL_comm a b c d e g, gL_comm a b c d i j, Int.mul_comm (gc e g i j c d)]
  grind
theorem gY_f2 (a b c d e g i j : Int) : gY a b c d i j e g ↔ gY a b c d e g i j := by
  unfold gY
  rw [gc_flip e g i j a b, gc_flip e g i j c d, Int.neg_mul_neg, gL_comm e g i j a b, gL_comm e g i j c d, Int.mul_comm (gc a b c d i j)]
  grind
theorem gB_f1 {a b c d e g i j : Int} (h : gB c d a b e g i j) : gB a b c d e g i j := by
  obtain ⟨h1, h2, h3, h4⟩ := h
  exact ⟨fun w => h1 ⟨w.2.2.1, w.2.2.2, w.1, w.2.1⟩, fun w => h2 ⟨w.2.1, w.1, w.2.2.2, w.2.2.1⟩, fun w => h3 ⟨w.2.2.1, w.2.2.2, w.1, w.2.1⟩, fun w => h4 ⟨w.2.1, w.1, w.2.2.2, w.2.2.1⟩⟩
theorem gB_f2 {a b c d e g i j : Int} (h : gB a b c d i j e g) : gB a b c d e g i j := by
  obtain ⟨h1, h2, h3, h4⟩ := h
  exact ⟨fun w => h1 ⟨w.2.1, w.1, w.2.2.2, w.2.2.1⟩, fun w => h2 ⟨w.2.2.1, w.2.2.2, w.1, w.2.1⟩, fun w => h3 ⟨w.2.1, w.1, w.2.2.2, w.2.2.1⟩, fun w => h4 ⟨w.2.2.1, w.2.2.2, w.1, w.2.1⟩⟩
theorem g_12 {a b c d e g : Int} (na : ¬ (a = c ∧ b = d)) (nb : ¬ (a = e ∧ b = g)) : gB a b c d e g a b ∧ (gW a b c d e g ↔ gY a b c d e g a b) := by
  have k := g_11 (i := e) (j := g) na nb
  exact ⟨gB_f2 k.1, k.2.trans (gY_f2 a b c d e g a b)⟩
theorem g_21 {a b c d i j : Int} (na : ¬ (a = c ∧ b = d)) (nb : ¬ (c = i ∧ d = j)) : gB a b c d c d i j ∧ (gW c d a b i j ↔ gY a b c d c d i j) := by
  have k := g_11 (a := c) (b := d) (c := a) (d := b) (i := i) (j := j) (fun q => na ⟨q.1.symm, q.2.symm⟩) nb
  exact ⟨gB_f1 k.1, k.2.trans (gY_f1 a b c d c d i j)⟩
theorem g_22 {a b c d e g : Int} (na : ¬ (a = c ∧ b = d)) (nb : ¬ (c = e ∧ d = g)) : gB a b c d e g c d ∧ (gW c d a b e g ↔ gY a b c d e g c d) := by
  have k := g_21 (i := e) (j := g) na nb
  exact ⟨gB_f2 k.1, k.2.trans (gY_f2 a b c d e g c d)⟩
theorem g_0 {a b c d e g i j : Int} (na : ¬ (a = c ∧ b = d)) (n0 : ¬ (e = i ∧ g = j)) (n1 : ¬ (a = e ∧ b = g)) (n2 : ¬ (a = i ∧ b = j)) (n3 : ¬ (c = e ∧ d = g)) (n4 : ¬ (c = i ∧ d = j)) : (gB a b c d e g i j ∧ gc a b c d e g * gc a b c d i j ≤ 0 ∧ gc e g i j a b * gc e g i j c d ≤ 0) ↔ gY a b c d e g i j := by
  have k := g_no na n0 n1 n2 n3 n4
  unfold gB gY gL
  rw [and_assoc, and_assoc, and_assoc, k]
  grind
