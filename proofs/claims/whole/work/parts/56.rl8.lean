/-- the first three bytes -/
theorem rl_ms {f : Nat → Int32} {n : Nat} {q : S3} {z : S5} (hn : n ≤ 8192) (h : rl f n q z) (k : Nat) (hk : z.2.1 = 0 → z.1 = nI k) : rl f n (ex f n q (ymd k) 2) (yms f n k z) := by
  have r1 := rl_nx hn h
  unfold ex yms
  rw [r1.2]
  by_cases h0 : (ynx f n z 0 255).2.2.1 = 0
  · have hz := adv_nx h0
    rw [if_pos h0, rl_p h, hk hz.1]
    by_cases h1 : (ynx f n z 0 255).1 = ymd k
    · rw [if_pos h1, if_pos h1]
      exact r1.1
    · rw [if_neg h1, if_neg h1]
      exact rl_fl r1.1 (by decide) (by decide) _
  · rw [if_neg h0]
    by_cases h1 : (ynx f n z 0 255).1 = ymd k
    · rw [if_pos h1]
      exact r1.1
    · rw [if_neg h1, fl_flt (fun h2 => h0 ((rl_f r1.1).symm.trans h2))]
      exact r1.1
theorem adv_ms {f : Nat → Int32} {n k : Nat} {z : S5} (h : (yms f n k z).2.1 = 0) : z.2.1 = 0 ∧ (yms f n k z).1 = z.1 + 1 := by
  unfold yms at h ⊢
  split at h
  · rename_i h1
    rw [if_pos h1]
    split at h
    · rename_i h2
      rw [if_pos h2]
      exact adv_nx h1
    · exact absurd h (adv_wr _ (by decide) _)
  · rename_i h1
    exact absurd h h1
theorem rl_hd {f : Nat → Int32} {n : Nat} (hn : n ≤ 8192) : rl f n (hdS f n jq0) (yml f n 3 0 yq0) := by
  have r0 : rl f n jq0 yq0 := ⟨0, Nat.zero_le _, rfl, rfl, rfl, rfl, by decide, fun _ => rfl⟩
  have r1 := rl_ms hn r0 0 (fun _ => rfl)
  have r2 := rl_ms hn r1 1 (fun h => by rw [(adv_ms h).2]; rfl)
  have r3 := rl_ms hn r2 2 (fun h => by rw [(adv_ms h).2, (adv_ms (adv_ms h).1).2]; rfl)
  have fz : ∀ (k : Nat) (z : S5), ¬ z.2.1 < 0 → ¬ z.2.1 = 0 → yms f n k z = z := fun k z hp h => by
    have e : ynx f n z 0 255 = (0, z) := by rw [ynx, if_neg (nle_of hp h)]
    rw [yms, e, if_neg h]
  have pos : ∀ {q : S3} {z : S5}, rl f n q z → ¬ z.2.1 < 0 := fun h => by
    obtain ⟨P, hP, eP, e1, e2, e3, hp, hs⟩ := h
    exact hp
  have e : yml f n 3 0 yq0 = yms f n 2 (yms f n 1 (yms f n 0 yq0)) := by
    rw [yml, if_pos (show yq0.2.1 = 0 from rfl), yml]
    by_cases h1 : (yms f n 0 yq0).2.1 = 0
    · rw [if_pos h1, yml]
      by_cases h2 : (yms f n 1 (yms f n 0 yq0)).2.1 = 0
      · rw [if_pos h2, yml]
      · rw [if_neg h2, fz 2 _ (pos r2) h2]
    · rw [if_neg h1, fz 1 _ (pos r1) h1, fz 2 _ (pos r1) h1]
  rw [e]
  exact r3
