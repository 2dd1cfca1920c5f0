theorem rl_f {f : Nat → Int32} {n : Nat} {q : S3} {z : S5} (h : rl f n q z) : q.2.1 = z.2.1 := by
  obtain ⟨P, hP, eP, e1, e2, e3, hp, hs⟩ := h
  exact e2
theorem rl_p {f : Nat → Int32} {n : Nat} {q : S3} {z : S5} (h : rl f n q z) : q.1 = z.1 := by
  obtain ⟨P, hP, eP, e1, e2, e3, hp, hs⟩ := h
  exact e1
/-- a number is judged -/
theorem rl_jd {f : Nat → Int32} {n : Nat} {q : S3} {z : S5} (h : rl f n q z) (v lo hi pl : Int32) : rl f n (jdS q v lo hi pl) (if z.2.1 = 0 then (if v < lo then ywr z 3 pl else if v ≤ hi then z else ywr z 3 pl) else z) := by
  by_cases h0 : z.2.1 = 0
  · rw [if_pos h0, jdS]
    by_cases h1 : v < lo
    · rw [if_pos h1, if_pos h1]
      exact rl_fl h (by decide) (by decide) _
    · rw [if_neg h1, if_neg h1]
      by_cases h2 : v ≤ hi
      · rw [if_pos h2, if_pos h2]
        exact h
      · rw [if_neg h2, if_neg h2]
        exact rl_fl h (by decide) (by decide) _
  · rw [if_neg h0, jdS_flt (fun h1 => h0 ((rl_f h).symm.trans h1))]
    exact h
/-- a number of two bytes -/
theorem rl_wd {f : Nat → Int32} {n : Nat} {q : S3} {z : S5} (hn : n ≤ 8192) (h : rl f n q z) (lo hi : Int32) : rl f n (wd f n q lo hi).2 (ytw f n z lo hi).2 ∧ ((ytw f n z lo hi).2.2.1 = 0 → (wd f n q lo hi).1 = (ytw f n z lo hi).1) := by
  have r1 := rl_nx hn h
  have r2 := rl_nx hn r1.1
  have ev : w16 (256 * (nx f n q).1 + (nx f n (nx f n q).2).1) = ytv f n z := by
    rw [ytv, yt2, yt1, r1.2, r2.2, Int32.mul_comm]
  have key := rl_jd r2.1 (ytv f n z) lo hi q.1
  have e2 : (wd f n q lo hi).2 = jdS (nx f n (nx f n q).2).2 (ytv f n z) lo hi q.1 := by
    rw [← ev]
    rfl
  have e3 : (ytw f n z lo hi).2 = (if (ynx f n (ynx f n z 0 255).2 0 255).2.2.1 = 0 then (if ytv f n z < lo then ywr (ynx f n (ynx f n z 0 255).2 0 255).2 3 q.1 else if ytv f n z ≤ hi then (ynx f n (ynx f n z 0 255).2 0 255).2 else ywr (ynx f n (ynx f n z 0 255).2 0 255).2 3 q.1) else (ynx f n (ynx f n z 0 255).2 0 255).2) := by
    rw [rl_p h]
    rfl
  rw [← e2, ← e3] at key
  refine ⟨key, fun h0 => ?_⟩
  have h1 : (wd f n q lo hi).2.2.1 = 0 := (rl_f key).trans h0
  show (if (jdS (nx f n (nx f n q).2).2 (w16 (256 * (nx f n q).1 + (nx f n (nx f n q).2).1)) lo hi q.1).2.1 = 0 then w16 (256 * (nx f n q).1 + (nx f n (nx f n q).2).1) else 0) = ytv f n z
  rw [ev, if_pos (by rw [← e2]; exact h1)]
/-- a byte that is due: the check's -/
theorem rl_ck {f : Nat → Int32} {n : Nat} {q : S3} {z : S5} (hn : n ≤ 8192) (h : rl f n q z) (due : Int32) : rl f n (ex f n q due 4) (yck f n due z) := by
  have r1 := rl_nx hn h
  unfold ex yck
  rw [r1.2, rl_p h]
  by_cases h0 : (ynx f n z 0 255).2.2.1 = 0
  · rw [if_pos h0]
    by_cases h1 : (ynx f n z 0 255).1 = due
    · rw [if_pos h1, if_pos h1]
      exact r1.1
    · rw [if_neg h1, if_neg h1]
      exact rl_fl r1.1 (by decide) (by decide) _
  · rw [if_neg h0]
    by_cases h1 : (ynx f n z 0 255).1 = due
    · rw [if_pos h1]
      exact r1.1
    · rw [if_neg h1, fl_flt (fun h2 => h0 ((rl_f r1.1).symm.trans h2))]
      exact r1.1
