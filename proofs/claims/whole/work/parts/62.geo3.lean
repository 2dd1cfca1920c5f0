theorem w16_r {z : Nat} (h : z < 65536) : R6 (w16 (nI z)) := by
  unfold w16 R6
  split
  · rename_i q
    have q : nI z ≤ nI 32767 := q
    rw [nI_leI (b := 32767) (by omega) (by omega)] at q
    rw [nI_toInt (by omega)]
    omega
  · rename_i q
    have q : ¬ nI z ≤ nI 32767 := q
    rw [nI_leI (b := 32767) (by omega) (by omega)] at q
    have e : (nI z - 65536).toInt = (z : Int) - 65536 := pk_sub_toInt (a := z) (b := 65536) (by omega) (by omega)
    rw [e]
    omega
theorem ypr_r (f : Nat → Int32) (a : Nat) : R6 (ypr f a) := by
  unfold ypr
  obtain ⟨x, hx, ex⟩ := yb_ex (f a)
  obtain ⟨y, hy, ey⟩ := yb_ex (f (a + 1))
  rw [ex, ey, show (256 : Int32) = nI 256 from rfl, pk_mul, nI_add]
  exact w16_r (by omega)
abbrev pX (f : Nat → Int32) (v : Nat) : Int := (ypr f (7 + 4 * v)).toInt
abbrev pY (f : Nat → Int32) (v : Nat) : Int := (ypr f (9 + 4 * v)).toInt
theorem ycr_i (f : Nat → Int32) (a b : Nat) : (ycr f a b).toInt = gc (pX f (yb f (a + 0))) (pY f (yb f (a + 0))) (pX f (yb f (a + 1))) (pY f (yb f (a + 1))) (pX f b) (pY f b) := by
  unfold ycr yX yY gc
  have r := ypr_r f
  exact l_ms (l_mul (l_sub (r _) (r _)) (l_sub (r _) (r _)) (r_d (r _) (r _)) (r_d (r _) (r _))) (l_mul (l_sub (r _) (r _)) (l_sub (r _) (r _)) (r_d (r _) (r _)) (r_d (r _) (r _))) (b_mul (r_d (r _) (r _)) (r_d (r _) (r _))) (b_mul (r_d (r _) (r _)) (r_d (r _) (r _)))
theorem ydt_i (f : Nat → Int32) (a b : Nat) : (ydt f a b).toInt = gd (pX f (yb f (a + 0))) (pY f (yb f (a + 0))) (pX f (yb f (a + 1))) (pY f (yb f (a + 1))) (pX f b) (pY f b) := by
  unfold ydt yX yY gd
  have r := ypr_r f
  exact l_ma (l_mul (l_sub (r _) (r _)) (l_sub (r _) (r _)) (r_d (r _) (r _)) (r_d (r _) (r _))) (l_mul (l_sub (r _) (r _)) (l_sub (r _) (r _)) (r_d (r _) (r _)) (r_d (r _) (r _))) (b_mul (r_d (r _) (r _)) (r_d (r _) (r _))) (b_mul (r_d (r _) (r _)) (r_d (r _) (r _)))
theorem ysd_i (f : Nat → Int32) (a b : Nat) : ysd f a b = if (ycr f a b).toInt < 0 then -1 else if (ycr f a b).toInt = 0 then 0 else 1 := by
  unfold ysd
  have k1 := l0_ge (x := ycr f a b)
  have k2 := l0_le (x := ycr f a b)
  by_cases q1 : 0 ≤ lg_cmp (ycr f a b) 0
  · rw [if_pos q1]
    rw [k1] at q1
    rw [if_neg (show ¬ (ycr f a b).toInt < 0 by omega)]
    by_cases q2 : lg_cmp (ycr f a b) 0 ≤ 0
    · rw [if_pos q2]
      rw [k2] at q2
      rw [if_pos (show (ycr f a b).toInt = 0 by omega)]
    · rw [if_neg q2]
      rw [k2] at q2
      rw [if_neg (show ¬ (ycr f a b).toInt = 0 by omega)]
  · rw [if_neg q1]
    rw [k1] at q1
    rw [if_pos (show (ycr f a b).toInt < 0 by omega)]
theorem ysd_z (f : Nat → Int32) (a b : Nat) : ysd f a b = 0 ↔ (ycr f a b).toInt = 0 := by
  rw [ysd_i]
  rcases Int.lt_trichotomy (ycr f a b).toInt 0 with h | h | h
  · rw [if_pos h]
    exact ⟨fun q => absurd q (by decide), fun q => by omega⟩
  · rw [if_neg (by omega), if_pos h]
    exact ⟨fun _ => h, fun _ => rfl⟩
  · rw [if_neg (by omega), if_neg (by omega)]
    exact ⟨fun q => absurd q (by decide), fun q => by omega⟩
theorem ysd_mul (f : Nat → Int32) (a b u v : Nat) : (0 ≤ ysd f a b * ysd f u v ↔ ¬ (ycr f a b).toInt * (ycr f u v).toInt < 0) := by
  rw [ysd_i, ysd_i]
  generalize (ycr f a b).toInt = x
  generalize (ycr f u v).toInt = y
  rcases Int.lt_trichotomy x 0 with h | h | h
  · rw [if_pos h]
    rcases Int.lt_trichotomy y 0 with q | q | q
    · rw [if_pos q]
      have := Int.mul_pos_of_neg_of_neg h q
      exact ⟨fun _ => by omega, fun _ => by decide⟩
    · rw [q]
      simp
    · rw [if_neg (by omega), if_neg (by omega)]
      have := Int.mul_neg_of_neg_of_pos h q
      exact ⟨fun w => absurd w (by decide), fun w => by omega⟩
  · rw [h]
    simp
  · rw [if_neg (show ¬ x < 0 by omega), if_neg (show ¬ x = 0 by omega)]
    rcases Int.lt_trichotomy y 0 with q | q | q
    · rw [if_pos q]
      have := Int.mul_neg_of_pos_of_neg h q
      exact ⟨fun w => absurd w (by decide), fun w => by omega⟩
    · rw [q]
      simp
    · rw [if_neg (by omega), if_neg (by omega)]
      have := Int.mul_pos h q
      exact ⟨fun _ => by omega, fun _ => by decide⟩
theorem yli_i {f : Nat → Int32} {a b : Nat} (hb : b < 256) : yli f a b = 0 ↔ ¬ gL (pX f (yb f (a + 0))) (pY f (yb f (a + 0))) (pX f (yb f (a + 1))) (pY f (yb f (a + 1))) (pX f b) (pY f b) := by
  unfold yli
  have e0 := yb_lt f (a + 0)
  have e1 := yb_lt f (a + 1)
  by_cases q0 : nI b = nI (yb f (a + 0))
  · rw [if_pos q0]
    rw [nI_eq (by omega) (by omega)] at q0
    rw [q0]
    exact ⟨fun _ => gL_end1 _ _ _ _, fun _ => rfl⟩
  · rw [if_neg q0]
    by_cases q1 : nI b = nI (yb f (a + 1))
    · rw [if_pos q1]
      rw [nI_eq (by omega) (by omega)] at q1
      rw [q1]
      exact ⟨fun _ => gL_end2 _ _ _ _, fun _ => rfl⟩
    · rw [if_neg q1]
      unfold gL
      have k1 := ysd_z f a b
      have k2 := l0_ge (x := ydt f a b)
      rw [ycr_i] at k1
      rw [ydt_i] at k2
      by_cases q2 : ysd f a b = 0
      · rw [if_pos q2]
        rw [k1] at q2
        by_cases q3 : 0 ≤ lg_cmp (ydt f a b) 0
        · rw [if_pos q3]
          rw [k2] at q3
          exact ⟨fun _ w => by have := w.2; omega, fun _ => rfl⟩
        · rw [if_neg q3]
          rw [k2] at q3
          exact ⟨fun w => absurd w (by decide), fun w => absurd ⟨q2, by omega⟩ w⟩
      · rw [if_neg q2]
        rw [k1] at q2
        exact ⟨fun _ w => q2 w.1, fun _ => rfl⟩
/-- vertices at different places -/
def dsj (f : Nat → Int32) (V : Nat) : Prop := ∀ i j : Nat, i < V → j < V → ypr f (7 + 4 * i) = ypr f (7 + 4 * j) → ypr f (9 + 4 * i) = ypr f (9 + 4 * j) → i = j
theorem dsj_i {f : Nat → Int32} {V i j : Nat} (hd : dsj f V) (hV : V ≤ 256) (hi : i < V) (hj : j < V) : nI i = nI j ↔ (pX f i = pX f j ∧ pY f i = pY f j) := by
  rw [nI_eq (by omega) (by omega)]
  constructor
  · intro h
    rw [h]
    exact ⟨rfl, rfl⟩
  · intro h
    exact hd i j hi hj (Int32.toInt_inj.mp h.1) (Int32.toInt_inj.mp h.2)
theorem ytc_log {x1 x2 y1 y2 y3 y4 : Int32} {P Q A B C D : Prop} (c1 : 0 ≤ x1 ↔ ¬ P) (c2 : 0 ≤ x2 ↔ ¬ Q) (l1 : y1 = 0 ↔ ¬ A) (l2 : y2 = 0 ↔ ¬ B) (l3 : y3 = 0 ↔ ¬ C) (l4 : y4 = 0 ↔ ¬ D) : (if (if 0 ≤ x1 then (0 : Int32) else if 0 ≤ x2 then 0 else 1) = 0 then (if y1 = 0 then (if y2 = 0 then (if y3 = 0 then (if y4 = 0 then (0 : Int32) else 1) else 1) else 1) else 1) else 1) = 0 ↔ ¬ ((P ∧ Q) ∨ A ∨ B ∨ C ∨ D) := by
  have nz : ¬ (1 : Int32) = 0 := by decide
  have key : (if y1 = 0 then (if y2 = 0 then (if y3 = 0 then (if y4 = 0 then (0 : Int32) else 1) else 1) else 1) else 1) = 0 ↔ ¬ (A ∨ B ∨ C ∨ D) := by
    by_cases q1 : y1 = 0
    · rw [if_pos q1]
      rw [l1] at q1
      by_cases q2 : y2 = 0
      · rw [if_pos q2]
        rw [l2] at q2
        by_cases q3 : y3 = 0
        · rw [if_pos q3]
          rw [l3] at q3
          by_cases q4 : y4 = 0
          · rw [if_pos q4]
            rw [l4] at q4
            simp [q1, q2, q3, q4]
          · rw [if_neg q4]
            rw [l4, Classical.not_not] at q4
            simp [q4]
        · rw [if_neg q3]
          rw [l3, Classical.not_not] at q3
          simp [q3]
      · rw [if_neg q2]
        rw [l2, Classical.not_not] at q2
        simp [q2]
    · rw [if_neg q1]
      rw [l1, Classical.not_not] at q1
      simp [q1]
  by_cases r1 : 0 ≤ x1
  · rw [if_pos r1, if_pos rfl, key]
    rw [c1] at r1
    simp [r1]
  · rw [if_neg r1]
    rw [c1, Classical.not_not] at r1
    by_cases r2 : 0 ≤ x2
    · rw [if_pos r2, if_pos rfl, key]
      rw [c2] at r2
      simp [r2]
    · rw [if_neg r2, if_neg nz]
      rw [c2, Classical.not_not] at r2
      simp [r1, r2]
/-- THE REFERENCE's test, in points -/
theorem ytc_i {f : Nat → Int32} {a b V : Nat} (hd : dsj f V) (hV : V ≤ 256) (a0 : yb f (a + 0) < V) (a1 : yb f (a + 1) < V) (b0 : yb f (b + 0) < V) (b1 : yb f (b + 1) < V) (na : yb f (a + 0) ≠ yb f (a + 1)) (nb : yb f (b + 0) ≠ yb f (b + 1)) : ytc f a b = 0 ↔ ¬ gY (pX f (yb f (a + 0))) (pY f (yb f (a + 0))) (pX f (yb f (a + 1))) (pY f (yb f (a + 1))) (pX f (yb f (b + 0))) (pY f (yb f (b + 0))) (pX f (yb f (b + 1))) (pY f (yb f (b + 1))) := by
  have l1 := yli_i (f := f) (a := a) (b := yb f (b + 0)) (yb_lt _ _)
  have l2 := yli_i (f := f) (a := a) (b := yb f (b + 1)) (yb_lt _ _)
  have l3 := yli_i (f := f) (a := b) (b := yb f (a + 0)) (yb_lt _ _)
  have l4 := yli_i (f := f) (a := b) (b := yb f (a + 1)) (yb_lt _ _)
  have c1 := ysd_mul f a (yb f (b + 0)) a (yb f (b + 1))
  have c2 := ysd_mul f b (yb f (a + 0)) b (yb f (a + 1))
  rw [ycr_i, ycr_i] at c1 c2
  have d1 := dsj_i hd hV a0 b0
  have d2 := dsj_i hd hV a0 b1
  have d3 := dsj_i hd hV a1 b0
  have d4 := dsj_i hd hV a1 b1
  have na' : ¬ nI (yb f (a + 0)) = nI (yb f (a + 1)) := by
    rw [nI_eq (by omega) (by omega)]
    exact na
  have nb' : ¬ nI (yb f (b + 0)) = nI (yb f (b + 1)) := by
    rw [nI_eq (by omega) (by omega)]
    exact nb
  have key := ytc_log c1 c2 l1 l2 l3 l4
  unfold ytc ysm ys2_ ycu yt6 gY
  rw [← d1, ← d2, ← d3, ← d4]
  have nz : ¬ (1 : Int32) = 0 := by decide
  by_cases q1 : nI (yb f (a + 0)) = nI (yb f (b + 0))
  · have q3 : ¬ nI (yb f (a + 1)) = nI (yb f (b + 0)) := fun w => na' (q1.trans w.symm)
    by_cases q4 : nI (yb f (a + 1)) = nI (yb f (b + 1))
    · rw [if_pos q1, if_neg q3, if_pos q4, if_neg nz]
      exact ⟨fun w => absurd w nz, fun w => absurd (Or.inl (Or.inl ⟨q1, q4⟩)) w⟩
    · rw [if_pos q1, if_neg q3, if_neg q4, if_pos rfl, key]
      exact ⟨fun w x => x.elim (fun x => x.elim (fun x => q4 x.2) (fun x => q3 x.2)) w, fun w x => w (Or.inr x)⟩
  · by_cases q2 : nI (yb f (a + 0)) = nI (yb f (b + 1))
    · by_cases q3 : nI (yb f (a + 1)) = nI (yb f (b + 0))
      · rw [if_neg q1, if_pos q2, if_pos q3, if_neg nz]
        exact ⟨fun w => absurd w nz, fun w => absurd (Or.inl (Or.inr ⟨q2, q3⟩)) w⟩
      · have q4 : ¬ nI (yb f (a + 1)) = nI (yb f (b + 1)) := fun w => na' (q2.trans w.symm)
        rw [if_neg q1, if_pos q2, if_neg q3, if_neg q4, if_pos rfl, key]
        exact ⟨fun w x => x.elim (fun x => x.elim (fun x => q4 x.2) (fun x => q3 x.2)) w, fun w x => w (Or.inr x)⟩
    · rw [if_neg q1, if_neg q2, if_pos rfl, key]
      exact ⟨fun w x => x.elim (fun x => x.elim (fun x => q1 x.1) (fun x => q2 x.1)) w, fun w x => w (Or.inr x)⟩
theorem gY_sym (a b c d e g i j : Int) : gY a b c d e g i j ↔ gY e g i j a b c d := by
  unfold gY
  have t1 : ∀ {u v p q : Int}, (u = v ∧ p = q) ↔ (v = u ∧ q = p) := fun {u v p q} => ⟨fun w => ⟨w.1.symm, w.2.symm⟩, fun w => ⟨w.1.symm, w.2.symm⟩⟩
  rw [t1 (u := a) (v := e), t1 (u := c) (v := i), t1 (u := a) (v := i), t1 (u := c) (v := e)]
  constructor
  · intro h
    rcases h with (h | h) | h | h | h | h | h
    · exact Or.inl (Or.inl h)
    · exact Or.inl (Or.inr ⟨h.2, h.1⟩)
    · exact Or.inr (Or.inl ⟨h.2, h.1⟩)
    · exact Or.inr (Or.inr (Or.inr (Or.inr (Or.inl h))))
    · exact Or.inr (Or.inr (Or.inr (Or.inr (Or.inr h))))
    · exact Or.inr (Or.inr (Or.inl h))
    · exact Or.inr (Or.inr (Or.inr (Or.inl h)))
  · intro h
    rcases h with (h | h) | h | h | h | h | h
    · exact Or.inl (Or.inl h)
    · exact Or.inl (Or.inr ⟨h.2, h.1⟩)
    · exact Or.inr (Or.inl ⟨h.2, h.1⟩)
    · exact Or.inr (Or.inr (Or.inr (Or.inr (Or.inl h))))
    · exact Or.inr (Or.inr (Or.inr (Or.inr (Or.inr h))))
    · exact Or.inr (Or.inr (Or.inl h))
    · exact Or.inr (Or.inr (Or.inr (Or.inl h)))
/-- a wall's span by its vertices -/
abbrev wE (f : Nat → Int32) (a : Nat) : E4 := (ypr f (7 + 4 * yb f (a + 0)), ypr f (9 + 4 * yb f (a + 0)), ypr f (7 + 4 * yb f (a + 1)), ypr f (9 + 4 * yb f (a + 1)))
/-- THE TWO TESTS ARE ONE -/
theorem mt_eq {f : Nat → Int32} {a b V : Nat} (hd : dsj f V) (hV : V ≤ 256) (a0 : yb f (a + 0) < V) (a1 : yb f (a + 1) < V) (b0 : yb f (b + 0) < V) (b1 : yb f (b + 1) < V) (na : yb f (a + 0) ≠ yb f (a + 1)) (nb : yb f (b + 0) ≠ yb f (b + 1)) : mts (wE f b) (wE f a) = 0 ↔ ytc f a b = 0 := by
  have r := ypr_r f
  rw [ytc_i hd hV a0 a1 b0 b1 na nb, gY_sym]
  exact mts_i ⟨r _, r _, r _, r _⟩ ⟨r _, r _, r _, r _⟩ (fun w => nb (hd _ _ b0 b1 w.1 w.2)) (fun w => na (hd _ _ a0 a1 w.1 w.2))
