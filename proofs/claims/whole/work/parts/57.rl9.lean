/-- a wall's vertices -/
theorem rl_we {f : Nat → Int32} {n : Nat} {q : S3} {z : S5} (hn : n ≤ 8192) (h : rl f n q z) (v : Int32) : rl f n (weS f n v q) (yw3 f n v z) := by
  have r1 : rl f n (we1 f n v q).2 (yw1 f n v z).2 ∧ ((yw1 f n v z).2.2.1 = 0 → (we1 f n v q).1 = (yw1 f n v z).1) := rl_sm hn h 0 (v - 1)
  have r2 : rl f n (we2 f n v q).2 (yw2 f n v z).2 ∧ ((yw2 f n v z).2.2.1 = 0 → (we2 f n v q).1 = (yw2 f n v z).1) := rl_sm hn r1.1 0 (v - 1)
  unfold weS yw3
  by_cases h0 : (yw2 f n v z).2.2.1 = 0
  · have h1 : (yw1 f n v z).2.2.1 = 0 ∧ (yw2 f n v z).2.1 = (yw1 f n v z).2.1 + 1 := by
      rw [yw2] at h0 ⊢
      exact adv_nx h0
    rw [if_pos h0, r1.2 h1.1, r2.2 h0, h1.2, add_sub1, rl_p r1.1]
    by_cases h2 : (yw1 f n v z).1 = (yw2 f n v z).1
    · rw [if_pos h2, if_pos h2]
      exact rl_fl r2.1 (by decide) (by decide) _
    · rw [if_neg h2, if_neg h2]
      exact r2.1
  · rw [if_neg h0, fl_flt (fun h1 => h0 ((rl_f r2.1).symm.trans h1))]
    split
    · exact r2.1
    · exact r2.1
