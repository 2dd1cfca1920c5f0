theorem rl_st {f : Nat → Int32} {n : Nat} {q : S3} {z : S5} (hn : n ≤ 8192) (h : rl f n q z) (s : Int32) : rl f n (stS f n s q) (ye4 f n s z) := by
  have r1 := (rl_wd hn h (-32768) 32767).1
  have r2 := (rl_wd hn r1 (-32768) 32767).1
  have r3 := (rl_sm hn r2 0 63).1
  rw [stS, ye4]
  exact (rl_sm hn r3 0 (s - 1)).1
theorem nx_flt {f : Nat → Int32} {n : Nat} {q : S3} (h : ¬ q.2.1 = 0) : nx f n q = (0, q) := by rw [nx, if_neg h]
theorem ex_flt {f : Nat → Int32} {n : Nat} {q : S3} (h : ¬ q.2.1 = 0) (a b : Int32) : ex f n q a b = q := by
  rw [ex, nx_flt h, fl_flt h]
  split <;> rfl
theorem yck_flt {f : Nat → Int32} {n : Nat} {z : S5} (hp : ¬ z.2.1 < 0) (h : ¬ z.2.1 = 0) (a : Int32) : yck f n a z = z := by
  have e : ynx f n z 0 255 = (0, z) := by rw [ynx, if_neg (nle_of hp h)]
  rw [yck, e, if_neg h]
theorem rl_e6 {f : Nat → Int32} {n : Nat} {q : S3} {z : S5} (h : rl f n q z) : rl f n (if nI n ≤ q.1 then q else fl q 5 q.1) (ye6 n z) := by
  unfold ye6
  rw [rl_p h]
  by_cases h0 : z.2.1 = 0
  · rw [if_pos h0]
    by_cases h1 : nI n ≤ z.1
    · rw [if_pos h1, if_pos h1]
      exact h
    · rw [if_neg h1, if_neg h1]
      exact rl_fl h (by decide) (by decide) _
  · rw [if_neg h0, fl_flt (fun h1 => h0 ((rl_f h).symm.trans h1))]
    split
    · exact h
    · exact h
theorem and_b {x b : Nat} (hb : b < 256) : nI (256 * x + b) &&& 255 = nI b := by
  rw [pk_and (nI (256 * x + b)) 8 (by decide)]
  show nI ((BitVec.ofNat 32 (256 * x + b)).toNat % 2 ^ 8) = nI b
  congr 1
  rw [BitVec.toNat_ofNat]
  omega
/-- the check, and what is left behind it -/
theorem rl_en {f : Nat → Int32} {n : Nat} {q : S3} {z : S5} (hn : n ≤ 8192) (h : rl f n q z) : rl f n (enS f n q) (ye6 n (ye5 f n z)) := by
  have key : rl f n (en2 f n q) (ye5 f n z) := by
    have h' := h
    obtain ⟨P, hP, eP, e1, e2, e3, hp, hs⟩ := h
    by_cases h0 : z.2.1 = 0
    · obtain ⟨a, b, ha, hb, es⟩ := sum2_rng f P
      have hz := hs h0
      have ed : enD f q = nI (256 * a + b) := by
        rw [enD, e1, eP, nI_clamp (by omega), es, show (256 : Int32) = nI 256 from rfl, pk_mul, nI_add]
      have d1 : enD f q >>> ((8 : Int32) &&& 31) = z.2.2.2.1 := by
        rw [ed, hz, es, pk_shrN (by omega) _ 8 (by decide)]
        congr 1
        omega
      have d2 : enD f q &&& 255 = z.2.2.2.2 := by
        rw [ed, hz, es, and_b (by omega)]
      rw [en2, ye5, d1, d2]
      exact rl_ck hn (rl_ck hn h' _) _
    · have hq : ¬ q.2.1 = 0 := fun h1 => h0 (e2.symm.trans h1)
      rw [en2, ye5, ex_flt hq, ex_flt hq, yck_flt hp h0, yck_flt hp h0]
      exact h'
  rw [enS]
  exact rl_e6 key
