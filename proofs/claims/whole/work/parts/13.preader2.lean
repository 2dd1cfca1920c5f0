/-! what is read: its ranges -/
theorem jd_rng (q : S3) (v lo hi pl : Int32) : (jd q v lo hi pl).1 = 0 ∨ (¬ v < lo ∧ v ≤ hi ∧ (jd q v lo hi pl).1 = v ∧ (jd q v lo hi pl).2 = q) := by
  by_cases h0 : (jdS q v lo hi pl).2.1 = 0
  · right
    have e1 : (jd q v lo hi pl).1 = v := by simp only [jd, if_pos h0]
    by_cases h1 : v < lo
    · exfalso
      simp only [jdS, if_pos h1, fl] at h0
      by_cases h2 : q.2.1 = 0
      · rw [if_pos h2] at h0
        exact absurd (show (3 : Int32) = 0 from h0) (by decide)
      · rw [if_neg h2] at h0
        exact h2 h0
    · by_cases h2 : v ≤ hi
      · exact ⟨h1, h2, e1, by simp only [jd, jdS, if_neg h1, if_pos h2]⟩
      · exfalso
        simp only [jdS, if_neg h1, if_neg h2, fl] at h0
        by_cases h3 : q.2.1 = 0
        · rw [if_pos h3] at h0
          exact absurd (show (3 : Int32) = 0 from h0) (by decide)
        · rw [if_neg h3] at h0
          exact h3 h0
  · left
    simp only [jd, if_neg h0]
/-- a number of one byte, from 0 to h -/
theorem sm_rng (f : Nat → Int32) (n : Nat) (q : S3) (h : Nat) (hh : h < 2 ^ 31) : ∃ a : Nat, a ≤ h ∧ (sm f n q 0 (nI h)).1 = nI a := by
  rcases jd_rng (nx f n q).2 (nx f n q).1 0 (nI h) q.1 with h1 | ⟨h1, h2, h3, -⟩
  · exact ⟨0, Nat.zero_le _, h1⟩
  · obtain ⟨j, hj, ej⟩ := nI_of h1
    refine ⟨j, ?_, h3.trans ej⟩
    rw [ej, nI_leI hj hh] at h2
    exact h2
theorem txC : ∀ a, a < 5 → ∀ b, b < 5 → ∃ B : Nat, B ≤ 256 ∧ txw (nI a) * txw (nI b) = nI B := by
  intro a ha b hb
  refine ⟨2 ^ (a + b), ?_, ?_⟩
  · calc 2 ^ (a + b) ≤ 2 ^ 8 := Nat.pow_le_pow_right (by omega) (by omega)
      _ = 256 := by decide
  · have h : ∀ x : Fin 5, ∀ y : Fin 5, txw (nI x.val) * txw (nI y.val) = nI (2 ^ (x.val + y.val)) := by decide +kernel
    exact h ⟨a, ha⟩ ⟨b, hb⟩
