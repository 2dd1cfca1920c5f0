theorem le_m1 (j M : Nat) (hj : j < 2 ^ 31) (hM : M < 2 ^ 31) : nI j ≤ nI M - 1 ↔ nI j < nI M := by
  rcases Nat.eq_zero_or_pos M with rfl | h
  · constructor
    · intro h
      exfalso
      have h1 : nI j ≤ (-1 : Int32) := h
      rw [Int32.le_iff_toInt_le, nI_toInt hj, show (-1 : Int32).toInt = -1 from by decide] at h1
      omega
    · intro h
      rw [nI_ltI hj (by omega)] at h
      omega
  · rw [show nI M - 1 = nI (M - 1) from pk_sub h, nI_leI hj (by omega), nI_ltI hj hM]
    omega
theorem add_sub1 (x : Int32) : x + 1 - 1 = x := by
  rw [Int32.sub_eq_add_neg, Int32.add_assoc, show (1 : Int32) + -1 = 0 from by decide, Int32.add_zero]
/-- a number of one byte, or 255 -/
theorem rl_sa {f : Nat → Int32} {n : Nat} {q : S3} {z : S5} (hn : n ≤ 8192) (h : rl f n q z) {M : Nat} (hM : M ≤ 255) : rl f n (sa f n q (nI M - 1)).2 (yor f n z (nI M)).2 ∧ ((yor f n z (nI M)).2.2.1 = 0 → (sa f n q (nI M - 1)).1 = (yor f n z (nI M)).1) := by
  have r1 := rl_nx hn h
  obtain ⟨j, hj, ej⟩ := ynx_b f n z 0 255
  have e0 : (yor f n z (nI M)).1 = nI j := ej
  by_cases h255 : (nx f n q).1 = 255
  · have a1 : sa f n q (nI M - 1) = nx f n q := by rw [sa, if_pos h255]
    have hb : (ynx f n z 0 255).1 = 255 := r1.2.symm.trans h255
    have a2 : (yor f n z (nI M)).2 = (ynx f n z 0 255).2 := by
      show (if (ynx f n z 0 255).2.2.1 = 0 then (if (ynx f n z 0 255).1 < nI M then (ynx f n z 0 255).2 else if (ynx f n z 0 255).1 = 255 then (ynx f n z 0 255).2 else ywr (ynx f n z 0 255).2 3 ((ynx f n z 0 255).2.1 - 1)) else (ynx f n z 0 255).2) = _
      rw [if_pos hb]
      split
      · split <;> rfl
      · rfl
    rw [a1, a2]
    exact ⟨r1.1, fun _ => r1.2⟩
  · have hb : ¬ (ynx f n z 0 255).1 = 255 := fun q1 => h255 (r1.2.trans q1)
    have hv : (nx f n q).1 = nI j := r1.2.trans ej
    have a1 : sa f n q (nI M - 1) = jd (nx f n q).2 (nI j) 0 (nI M - 1) q.1 := by rw [sa, if_neg h255, hv]
    have key := rl_jd r1.1 (nI j) 0 (nI M - 1) q.1
    have a2 : (yor f n z (nI M)).2 = (if (ynx f n z 0 255).2.2.1 = 0 then (if nI j < 0 then ywr (ynx f n z 0 255).2 3 q.1 else if nI j ≤ nI M - 1 then (ynx f n z 0 255).2 else ywr (ynx f n z 0 255).2 3 q.1) else (ynx f n z 0 255).2) := by
      show (if (ynx f n z 0 255).2.2.1 = 0 then (if (ynx f n z 0 255).1 < nI M then (ynx f n z 0 255).2 else if (ynx f n z 0 255).1 = 255 then (ynx f n z 0 255).2 else ywr (ynx f n z 0 255).2 3 ((ynx f n z 0 255).2.1 - 1)) else (ynx f n z 0 255).2) = _
      by_cases h0 : (ynx f n z 0 255).2.2.1 = 0
      · have ep : (ynx f n z 0 255).2.1 - 1 = q.1 := by rw [(adv_nx h0).2, add_sub1, rl_p h]
        rw [if_pos h0, if_pos h0, if_neg hb, if_neg (nI_pos (show j < 2 ^ 31 by omega)), ep, ej]
        by_cases h1 : nI j < nI M
        · rw [if_pos h1, if_pos ((le_m1 j M (by omega) (by omega)).mpr h1)]
        · rw [if_neg h1, if_neg (fun h2 => h1 ((le_m1 j M (by omega) (by omega)).mp h2))]
      · rw [if_neg h0, if_neg h0]
    rw [← a2] at key
    rw [a1]
    refine ⟨key, fun h0 => ?_⟩
    show (if (jdS (nx f n q).2 (nI j) 0 (nI M - 1) q.1).2.1 = 0 then nI j else 0) = _
    rw [if_pos ((rl_f key).trans h0), e0]
