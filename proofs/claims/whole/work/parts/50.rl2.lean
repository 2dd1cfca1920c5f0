theorem fl_flt {q : S3} (h : ¬ q.2.1 = 0) (a b : Int32) : fl q a b = q := by rw [fl, if_neg h]
theorem jdS_flt {q : S3} (h : ¬ q.2.1 = 0) (v lo hi pl : Int32) : jdS q v lo hi pl = q := by
  unfold jdS
  rw [fl_flt h]
  split
  · rfl
  · split <;> rfl
theorem fl_ne {q : S3} {a : Int32} (ha : ¬ a = 0) (b : Int32) : ¬ (fl q a b).2.1 = 0 := by
  unfold fl
  split
  · exact ha
  · assumption
/-- a number of one byte: the class's small, the reference's next -/
theorem rl_sm {f : Nat → Int32} {n : Nat} {q : S3} {z : S5} (hn : n ≤ 8192) (h : rl f n q z) (lo hi : Int32) : rl f n (sm f n q lo hi).2 (ynx f n z lo hi).2 ∧ ((ynx f n z lo hi).2.2.1 = 0 → (sm f n q lo hi).1 = (ynx f n z lo hi).1) := by
  have h' := h
  obtain ⟨P, hP, eP, e1, e2, e3, hp, hs⟩ := h
  by_cases h0 : z.2.1 = 0
  · have hle : z.2.1 ≤ 0 := by rw [h0]; decide
    have hq0 : q.2.1 = 0 := e2.trans h0
    by_cases hPn : P = n
    · have ez : z.1 = nI n := by rw [eP, hPn]
      have er : rg f n q.1 = -1 := by rw [e1, ez, rg_out hn]
      have a1 : nx f n q = (0, fl q 1 (nI n)) := by rw [nx, if_pos hq0, if_pos er]
      have a2 : ynx f n z lo hi = (0, ywr z 1 (nI n)) := by rw [ynx, if_pos hle, if_pos ez]
      have a3 : (sm f n q lo hi).2 = fl q 1 (nI n) := by
        show jdS (nx f n q).2 (nx f n q).1 lo hi q.1 = _
        rw [a1]
        exact jdS_flt (fl_ne (by decide) _) _ _ _ _
      rw [a2, a3]
      exact ⟨rl_fl h' (by decide) (by decide) _, fun h => absurd h (adv_wr z (by decide) _)⟩
    · have hlt : P < n := by omega
      have hne : ¬ z.1 = nI n := by rw [eP, nI_eq (by omega) (by omega)]; exact hPn
      have er : rg f n q.1 = f P &&& 255 := by rw [e1, eP, rg_in hn hlt]
      have ey : yby f z = f P &&& 255 := by rw [yby, eP, nI_clamp (by omega)]
      have a1 : nx f n q = (f P &&& 255, (q.1 + 1, q.2)) := by rw [nx, if_pos hq0, er, if_neg (b_ne _)]
      have a2 : ynx f n z lo hi = (f P &&& 255, ((yad (ynS f z lo hi) (f P &&& 255)).1 + 1, (yad (ynS f z lo hi) (f P &&& 255)).2)) := by rw [ynx, if_pos hle, if_neg hne, ey]
      have hn1 : z.1 + 1 = nI (P + 1) := by rw [eP, nI_1]
      by_cases hr : ¬ f P &&& 255 < lo ∧ f P &&& 255 ≤ hi
      · have a3 : ynS f z lo hi = z := by rw [ynS, ey, if_neg hr.1, if_pos hr.2]
        have a4 : jdS (q.1 + 1, q.2) (f P &&& 255) lo hi q.1 = (q.1 + 1, q.2) := by rw [jdS, if_neg hr.1, if_pos hr.2]
        have a5 : sm f n q lo hi = (f P &&& 255, (q.1 + 1, q.2)) := by
          show jd (nx f n q).2 (nx f n q).1 lo hi q.1 = _
          rw [a1]
          show (if (jdS (q.1 + 1, q.2) (f P &&& 255) lo hi q.1).2.1 = 0 then f P &&& 255 else 0, jdS (q.1 + 1, q.2) (f P &&& 255) lo hi q.1) = _
          rw [a4, if_pos hq0]
        rw [a2, a3, a5]
        refine ⟨⟨P + 1, hlt, hn1, ?_, e2, e3, hp, fun _ => ?_⟩, fun _ => rfl⟩
        · show q.1 + 1 = z.1 + 1
          rw [e1]
        · have hz := hs h0
          show (md251 (z.2.2.2.1 + (f P &&& 255)), md251 (z.2.2.2.2 + md251 (z.2.2.2.1 + (f P &&& 255)))) = sum2 f (P + 1)
          rw [sum2, ← hz]
      · have a3 : ynS f z lo hi = (z.1, 3, z.1, z.2.2.2) := by
          have w1 : ywr z 3 z.1 = (z.1, 3, z.1, z.2.2.2) := by rw [ywr, if_pos h0]
          rw [ynS, ey]
          by_cases h1 : f P &&& 255 < lo
          · rw [if_pos h1, w1]
          · rw [if_neg h1, if_neg (fun h2 => hr ⟨h1, h2⟩), w1]
        have a4 : jdS (q.1 + 1, q.2) (f P &&& 255) lo hi q.1 = (q.1 + 1, 3, q.1) := by
          have w1 : fl (q.1 + 1, q.2) 3 q.1 = (q.1 + 1, 3, q.1) := by rw [fl, if_pos (show ((q.1 + 1, q.2) : S3).2.1 = 0 from hq0)]
          rw [jdS]
          by_cases h1 : f P &&& 255 < lo
          · rw [if_pos h1, w1]
          · rw [if_neg h1, if_neg (fun h2 => hr ⟨h1, h2⟩), w1]
        have a5 : (sm f n q lo hi).2 = (q.1 + 1, 3, q.1) := by
          show jdS (nx f n q).2 (nx f n q).1 lo hi q.1 = _
          rw [a1]
          exact a4
        rw [a2, a3, a5]
        refine ⟨⟨P + 1, hlt, hn1, ?_, rfl, ?_, by show ¬ (3 : Int32) < 0; decide, fun h => absurd (show (3 : Int32) = 0 from h) (by decide)⟩, fun h => absurd (show (3 : Int32) = 0 from h) (by decide)⟩
        · show q.1 + 1 = z.1 + 1
          rw [e1]
        · show q.1 = z.1
          exact e1
  · have hq : ¬ q.2.1 = 0 := fun h => h0 (e2.symm.trans h)
    have a1 : nx f n q = (0, q) := by rw [nx, if_neg hq]
    have a2 : ynx f n z lo hi = (0, z) := by rw [ynx, if_neg (nle_of hp h0)]
    have a3 : (sm f n q lo hi).2 = q := by
      show jdS (nx f n q).2 (nx f n q).1 lo hi q.1 = _
      rw [a1]
      exact jdS_flt hq _ _ _ _
    rw [a2, a3]
    exact ⟨h', fun h => absurd h h0⟩
