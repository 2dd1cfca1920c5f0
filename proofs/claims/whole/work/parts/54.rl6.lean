theorem lt_p1 {v x : Int32} (h : x ≤ 1024) : v < x + 1 ↔ ¬ x < v := by
  have h1 : x.toInt ≤ 1024 := by
    have := Int32.le_iff_toInt_le.mp h
    rwa [show (1024 : Int32).toInt = 1024 from by decide] at this
  have h2 : (x + 1).toInt = x.toInt + 1 := by
    rw [Int32.toInt_add, show (1 : Int32).toInt = 1 from by decide, Int.bmod_def]
    have h3 := Int32.le_toInt x
    have h4 := Int32.toInt_lt x
    split <;> omega
  rw [Int32.lt_iff_toInt_lt, Int32.lt_iff_toInt_lt, h2]
  omega
theorem tw_rng {f : Nat → Int32} {n : Nat} {z : S5} {lo hi : Int32} (h : (ytw f n z lo hi).2.2.1 = 0) : ¬ (ytw f n z lo hi).1 < lo ∧ (ytw f n z lo hi).1 ≤ hi := by
  unfold ytw at h ⊢
  dsimp only at h ⊢
  split at h
  · split at h
    · exact absurd h (adv_wr _ (by decide) _)
    · rename_i h1
      split at h
      · rename_i h2
        exact ⟨h1, h2⟩
      · exact absurd h (adv_wr _ (by decide) _)
  · rename_i h1
    exact absurd h h1
theorem wd_2 (f : Nat → Int32) (n : Nat) (q : S3) (lo hi : Int32) : (wd f n q lo hi).2 = jdS (nx f n (nx f n q).2).2 (w16 (256 * (nx f n q).1 + (nx f n (nx f n q).2).1)) lo hi q.1 := rfl
theorem ytw_1 (f : Nat → Int32) (n : Nat) (z : S5) (lo hi : Int32) : (ytw f n z lo hi).1 = ytv f n z := rfl
theorem ytw_2 (f : Nat → Int32) (n : Nat) (z : S5) (lo hi : Int32) : (ytw f n z lo hi).2 = (if (yt2 f n z).2.2.1 = 0 then (if ytv f n z < lo then ywr (yt2 f n z).2 3 z.1 else if ytv f n z ≤ hi then (yt2 f n z).2 else ywr (yt2 f n z).2 3 z.1) else (yt2 f n z).2) := rfl
theorem yt2_e (f : Nat → Int32) (n : Nat) (z : S5) : ynx f n (ynx f n z 0 255).2 0 255 = yt2 f n z := rfl
/-- floor and ceiling -/
theorem rl_s2 {f : Nat → Int32} {n : Nat} {q : S3} {z : S5} (hn : n ≤ 8192) (h : rl f n q z) : rl f n (sc2 f n q).2 (ys3 f n z) := by
  have r1 : rl f n (sc1 f n q).2 (ys1 f n z).2 ∧ ((ys1 f n z).2.2.1 = 0 → (sc1 f n q).1 = (ys1 f n z).1) := rl_wd hn h (-1024) 1024
  have n1 := rl_nx hn r1.1
  have n2 := rl_nx hn n1.1
  have ev : w16 (256 * (nx f n (sc1 f n q).2).1 + (nx f n (nx f n (sc1 f n q).2).2).1) = ytv f n (ys1 f n z).2 := by
    rw [ytv, ← yt2_e, yt1, n1.2, n2.2, Int32.mul_comm]
  have e2 : (sc2 f n q).2 = jdS (nx f n (nx f n (sc1 f n q).2).2).2 (ytv f n (ys1 f n z).2) ((sc1 f n q).1 + 1) 1024 (sc1 f n q).2.1 := by
    rw [sc2, wd_2, ev]
  have key := rl_jd n2.1 (ytv f n (ys1 f n z).2) ((sc1 f n q).1 + 1) 1024 (sc1 f n q).2.1
  rw [← e2] at key
  rw [rl_p r1.1] at key
  rw [yt2_e] at key
  have e3 : (ys2 f n z).2 = (if (yt2 f n (ys1 f n z).2).2.2.1 = 0 then (if ytv f n (ys1 f n z).2 < -1024 then ywr (yt2 f n (ys1 f n z).2).2 3 (ys1 f n z).2.1 else if ytv f n (ys1 f n z).2 ≤ 1024 then (yt2 f n (ys1 f n z).2).2 else ywr (yt2 f n (ys1 f n z).2).2 3 (ys1 f n z).2.1) else (yt2 f n (ys1 f n z).2).2) := by rw [ys2, ytw_2]
  have e4 : (ys2 f n z).1 = ytv f n (ys1 f n z).2 := by rw [ys2, ytw_1]
  have hw : (yt2 f n (ys1 f n z).2).2.2.1 = 0 → (ys1 f n z).2.2.1 = 0 := fun h1 => by
    rw [← yt2_e] at h1
    exact (adv_nx (adv_nx h1).1).1
  have main : ys3 f n z = (if (yt2 f n (ys1 f n z).2).2.2.1 = 0 then (if ytv f n (ys1 f n z).2 < (sc1 f n q).1 + 1 then ywr (yt2 f n (ys1 f n z).2).2 3 (ys1 f n z).2.1 else if ytv f n (ys1 f n z).2 ≤ 1024 then (yt2 f n (ys1 f n z).2).2 else ywr (yt2 f n (ys1 f n z).2).2 3 (ys1 f n z).2.1) else (yt2 f n (ys1 f n z).2).2) := by
    unfold ys3
    rw [e4]
    by_cases h0 : (yt2 f n (ys1 f n z).2).2.2.1 = 0
    · have hz := hw h0
      have hf := r1.2 hz
      have hr : ¬ (ys1 f n z).1 < -1024 ∧ (ys1 f n z).1 ≤ 1024 := by
        rw [ys1] at hz ⊢
        exact tw_rng hz
      rw [if_pos h0, hf]
      by_cases h1 : ytv f n (ys1 f n z).2 < -1024
      · have e5 : (ys2 f n z).2 = ywr (yt2 f n (ys1 f n z).2).2 3 (ys1 f n z).2.1 := by rw [e3, if_pos h0, if_pos h1]
        rw [e5, if_neg (adv_wr _ (by decide) _), if_pos ((lt_p1 hr.2).mpr (fun h2 => hr.1 (Int32.lt_trans h2 h1)))]
      · by_cases h2 : ytv f n (ys1 f n z).2 ≤ 1024
        · have e5 : (ys2 f n z).2 = (yt2 f n (ys1 f n z).2).2 := by rw [e3, if_pos h0, if_neg h1, if_pos h2]
          rw [e5, if_pos h0]
          by_cases h3 : (ys1 f n z).1 < ytv f n (ys1 f n z).2
          · rw [if_pos h3, if_neg (fun h4 => (lt_p1 hr.2).mp h4 h3), if_pos h2]
          · rw [if_neg h3, if_pos ((lt_p1 hr.2).mpr h3)]
        · have e5 : (ys2 f n z).2 = ywr (yt2 f n (ys1 f n z).2).2 3 (ys1 f n z).2.1 := by rw [e3, if_pos h0, if_neg h1, if_neg h2]
          rw [e5, if_neg (adv_wr _ (by decide) _), if_neg h2]
          split <;> rfl
    · have e5 : (ys2 f n z).2 = (yt2 f n (ys1 f n z).2).2 := by rw [e3, if_neg h0]
      rw [e5, if_neg h0, if_neg h0]
  rw [main]
  exact key
/-- a sector -/
theorem rl_sc {f : Nat → Int32} {n : Nat} {q : S3} {z : S5} (hn : n ≤ 8192) (h : rl f n q z) {T : Nat} (hT : T ≤ 255) : rl f n (sc7 f n (nI T) q).2 (ysc f n (nI T) z) := by
  have r2 := rl_s2 hn h
  have r3 : rl f n (sc3 f n (nI T) q).2 (ys4 f n (nI T) z).2 := by rw [sc3, ys4]; exact (rl_sm hn r2 0 (nI T - 1)).1
  have r4 : rl f n (sc4 f n (nI T) q).2 (ys5 f n (nI T) z).2 := by rw [sc4, ys5]; exact (rl_sa hn r3 hT).1
  have r5 : rl f n (sc5 f n (nI T) q).2 (ys6 f n (nI T) z).2 := by rw [sc5, ys6]; exact (rl_sm hn r4 0 15).1
  have r6 : rl f n (sc6 f n (nI T) q).2 (ys7 f n (nI T) z).2 := by rw [sc6, ys7]; exact (rl_sm hn r5 0 3).1
  rw [sc7, ysc]
  exact (rl_sm hn r6 0 255).1
theorem rl_scl {f : Nat → Int32} {n : Nat} (hn : n ≤ 8192) {T : Nat} (hT : T ≤ 255) : ∀ (d : Nat) (q : S3) (z : S5), rl f n q z → rl f n (scl f n (nI T) d q) (yss f n (nI T) d z)
  | 0, _, _, h => h
  | d + 1, q, z, h => by
    unfold scl yss
    rw [rl_f h]
    by_cases h0 : z.2.1 = 0
    · rw [if_pos h0, if_pos h0]
      exact rl_scl hn hT d _ _ (rl_sc hn h hT)
    · rw [if_neg h0, if_neg h0]
      exact h
