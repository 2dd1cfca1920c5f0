theorem sa_flt {f : Nat → Int32} {n : Nat} {q : S3} (h : ¬ q.2.1 = 0) (hi : Int32) : (sa f n q hi).2 = q := by
  rw [sa, nx_flt h]
  split
  · rfl
  · show jdS q 0 0 hi q.1 = q
    exact jdS_flt h _ _ _ _
theorem wt3_flt {f : Nat → Int32} {n : Nat} {q : S3} (h : ¬ q.2.1 = 0) (hi : Int32) : wt3 f n hi q = q := by
  rw [wt3, sa_flt h, sa_flt h, sa_flt h]
theorem yor_flt {f : Nat → Int32} {n : Nat} {z : S5} (hp : ¬ z.2.1 < 0) (h : ¬ z.2.1 = 0) (m : Int32) : (yor f n z m).2 = z := by
  have e : ynx f n z 0 255 = (0, z) := by rw [ynx, if_neg (nle_of hp h)]
  rw [yor_2, e, if_neg h]
/-- three textures of one kind -/
theorem rl_w3 {f : Nat → Int32} {n : Nat} {q : S3} {z : S5} (hn : n ≤ 8192) (h : rl f n q z) {M : Nat} (hM : M ≤ 255) : rl f n (wt3 f n (nI M - 1) q) (yor f n (yor f n (yor f n z (nI M)).2 (nI M)).2 (nI M)).2 := by
  have r1 := (rl_sa hn h hM).1
  have r2 := (rl_sa hn r1 hM).1
  rw [wt3]
  exact (rl_sa hn r2 hM).1
