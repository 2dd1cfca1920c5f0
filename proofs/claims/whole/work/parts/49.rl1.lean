/-! CLASS AND REFERENCE ALIKE: the reading -/
/-- a reading of the class and one of the reference stand at the same place, with the same fault; without one the sums are those of the bytes read -/
def rl (f : Nat → Int32) (n : Nat) (q : S3) (z : S5) : Prop := ∃ P : Nat, P ≤ n ∧ z.1 = nI P ∧ q.1 = z.1 ∧ q.2.1 = z.2.1 ∧ q.2.2 = z.2.2.1 ∧ ¬ z.2.1 < 0 ∧ (z.2.1 = 0 → z.2.2.2 = sum2 f P)
theorem rg_in {f : Nat → Int32} {n P : Nat} (hn : n ≤ 8192) (h : P < n) : rg f n (nI P) = f P &&& 255 := by
  rw [rg, if_neg (nI_pos (by omega)), if_neg (nI_ge h (by omega)), nI_clamp (by omega)]
theorem rg_out {f : Nat → Int32} {n : Nat} (hn : n ≤ 8192) : rg f n (nI n) = -1 := by
  rw [rg, if_neg (nI_pos (by omega)), if_pos (nI_le (Nat.le_refl _) (by omega))]
theorem b_ne (x : Int32) : ¬ x &&& 255 = -1 := by
  obtain ⟨j, hj, e⟩ := yb_ex x
  rw [e]
  intro h
  have h1 := congrArg Int32.toInt h
  rw [nI_toInt (by omega)] at h1
  have h2 : (-1 : Int32).toInt = -1 := by decide
  rw [h2] at h1
  omega
theorem b_nl (x : Int32) : ¬ x &&& 255 < 0 := by
  obtain ⟨j, hj, e⟩ := yb_ex x
  rw [e]
  exact nI_pos (by omega)
theorem b_le (x : Int32) : x &&& 255 ≤ 255 := by
  obtain ⟨j, hj, e⟩ := yb_ex x
  rw [e]
  exact (nI_leI (b := 255) (by omega) (by omega)).mpr (by omega)
theorem rl_fl {f : Nat → Int32} {n : Nat} {q : S3} {z : S5} (h : rl f n q z) {a : Int32} (ha : ¬ a < 0) (ha0 : ¬ a = 0) (b : Int32) : rl f n (fl q a b) (ywr z a b) := by
  obtain ⟨P, hP, eP, e1, e2, e3, hp, hs⟩ := h
  unfold fl ywr
  rw [e2]
  by_cases h0 : z.2.1 = 0
  · rw [if_pos h0, if_pos h0]
    exact ⟨P, hP, eP, e1, rfl, rfl, ha, fun h => absurd h ha0⟩
  · rw [if_neg h0, if_neg h0]
    exact ⟨P, hP, eP, e1, e2, e3, hp, hs⟩
theorem nle_of {x : Int32} (h : ¬ x < 0) (h0 : ¬ x = 0) : ¬ x ≤ 0 := fun q => h0 (Int32.le_antisymm q (Int32.not_lt.mp h))
/-- one byte, whatever it is -/
theorem rl_nx {f : Nat → Int32} {n : Nat} {q : S3} {z : S5} (hn : n ≤ 8192) (h : rl f n q z) : rl f n (nx f n q).2 (ynx f n z 0 255).2 ∧ (nx f n q).1 = (ynx f n z 0 255).1 := by
  have h' := h
  obtain ⟨P, hP, eP, e1, e2, e3, hp, hs⟩ := h
  by_cases h0 : z.2.1 = 0
  · have hle : z.2.1 ≤ 0 := by rw [h0]; decide
    have hq0 : q.2.1 = 0 := e2.trans h0
    by_cases hPn : P = n
    · have ez : z.1 = nI n := by rw [eP, hPn]
      have er : rg f n q.1 = -1 := by rw [e1, ez, rg_out hn]
      have a1 : nx f n q = (0, fl q 1 (nI n)) := by rw [nx, if_pos hq0, if_pos er]
      have a2 : ynx f n z 0 255 = (0, ywr z 1 (nI n)) := by rw [ynx, if_pos hle, if_pos ez]
      rw [a1, a2]
      exact ⟨rl_fl h' (by decide) (by decide) _, rfl⟩
    · have hlt : P < n := by omega
      have hne : ¬ z.1 = nI n := by rw [eP, nI_eq (by omega) (by omega)]; exact hPn
      have er : rg f n q.1 = f P &&& 255 := by rw [e1, eP, rg_in hn hlt]
      have ey : yby f z = f P &&& 255 := by rw [yby, eP, nI_clamp (by omega)]
      have eS : ynS f z 0 255 = z := by rw [ynS, ey, if_neg (b_nl _), if_pos (b_le _)]
      have a1 : nx f n q = (f P &&& 255, (q.1 + 1, q.2)) := by rw [nx, if_pos hq0, er, if_neg (b_ne _)]
      have a2 : ynx f n z 0 255 = (f P &&& 255, ((yad z (f P &&& 255)).1 + 1, (yad z (f P &&& 255)).2)) := by rw [ynx, if_pos hle, if_neg hne, eS, ey]
      rw [a1, a2]
      refine ⟨⟨P + 1, hlt, ?_, ?_, e2, e3, hp, fun _ => ?_⟩, rfl⟩
      · show z.1 + 1 = _
        rw [eP, nI_1]
      · show q.1 + 1 = z.1 + 1
        rw [e1]
      · have hz := hs h0
        show (md251 (z.2.2.2.1 + (f P &&& 255)), md251 (z.2.2.2.2 + md251 (z.2.2.2.1 + (f P &&& 255)))) = sum2 f (P + 1)
        rw [sum2, ← hz]
  · have a1 : nx f n q = (0, q) := by rw [nx, if_neg (fun h => h0 (e2.symm.trans h))]
    have a2 : ynx f n z 0 255 = (0, z) := by rw [ynx, if_neg (nle_of hp h0)]
    rw [a1, a2]
    exact ⟨h', rfl⟩
