theorem yor_2 (f : Nat → Int32) (n : Nat) (z : S5) (m : Int32) : (yor f n z m).2 = (if (ynx f n z 0 255).2.2.1 = 0 then (if (ynx f n z 0 255).1 < m then (ynx f n z 0 255).2 else if (ynx f n z 0 255).1 = 255 then (ynx f n z 0 255).2 else ywr (ynx f n z 0 255).2 3 ((ynx f n z 0 255).2.1 - 1)) else (ynx f n z 0 255).2) := rfl
theorem yor_1 (f : Nat → Int32) (n : Nat) (z : S5) (m : Int32) : (yor f n z m).1 = (ynx f n z 0 255).1 := rfl
theorem ws_lo {f : Nat → Int32} {n k : Nat} {t b : Int32} {z : S5} (h : nI k ≤ 2) : yws f n t b k z = (yor f n z t).2 := by
  unfold yws
  rw [if_pos h]
  split <;> rfl
theorem ws_b {f : Nat → Int32} {n k : Nat} {t b : Int32} {z : S5} (h : ¬ b = 255) : yws f n t b k z = (yor f n z t).2 := by
  unfold yws
  rw [if_neg h]
  split
  · split <;> rfl
  · rfl
theorem ws_255 {f : Nat → Int32} {n k : Nat} {t : Int32} {z : S5} (h : ¬ nI k ≤ 2) : yws f n t 255 k z = (yor f n z (nI 0)).2 := by
  obtain ⟨j, hj, ej⟩ := ynx_b f n z 0 255
  have hj0 : ¬ (ynx f n z 0 255).1 < nI 0 := by rw [ej]; exact nI_pos (by omega)
  unfold yws
  rw [if_neg h, if_pos rfl, yor_1, yor_2 f n z (nI 0), if_neg hj0]
  by_cases h0 : (ynx f n z 0 255).2.2.1 = 0
  · rw [if_pos h0]
    by_cases h1 : (ynx f n z 0 255).1 = 255
    · have e : (yor f n z t).2 = (ynx f n z 0 255).2 := by
        rw [yor_2, if_pos h0, if_pos h1]
        split <;> rfl
      rw [e, if_pos h0, if_pos h1]
    · by_cases h2 : (ynx f n z 0 255).1 < t
      · have e : (yor f n z t).2 = (ynx f n z 0 255).2 := by rw [yor_2, if_pos h0, if_pos h2]
        rw [e, if_pos h0, if_neg h1]
      · have e : (yor f n z t).2 = ywr (ynx f n z 0 255).2 3 ((ynx f n z 0 255).2.1 - 1) := by rw [yor_2, if_pos h0, if_neg h2, if_neg h1]
        rw [e, if_neg (adv_wr _ (by decide) _), if_neg h1]
  · have e : (yor f n z t).2 = (ynx f n z 0 255).2 := by rw [yor_2, if_neg h0]
    rw [e, if_neg h0]
