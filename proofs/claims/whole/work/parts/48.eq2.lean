/-! CLASS AND REFERENCE ALIKE: check -/
theorem md_nI {x : Nat} (h : x < 2 ^ 31) : md251 (nI x) = nI (x % 251) := pk_rem (a := x) (d := 251) h (by decide) (by decide)
theorem sum2_rng (f : Nat → Int32) : ∀ k : Nat, ∃ a b : Nat, a < 251 ∧ b < 251 ∧ sum2 f k = (nI a, nI b)
  | 0 => ⟨0, 0, by omega, by omega, rfl⟩
  | k + 1 => by
    obtain ⟨a, b, ha, hb, e⟩ := sum2_rng f k
    obtain ⟨c, hc, ec⟩ := yb_ex (f k)
    refine ⟨(a + c) % 251, (b + (a + c) % 251) % 251, Nat.mod_lt _ (by omega), Nat.mod_lt _ (by omega), ?_⟩
    have hm : (a + c) % 251 < 251 := Nat.mod_lt _ (by omega)
    rw [sum2, e, ec, nI_add, md_nI (by omega), nI_add, md_nI (by omega)]
theorem i8_lo (a b : Nat) : (nI (256 * a + b)).toInt8 = (nI b).toInt8 := by
  apply Int8.toBitVec_inj.mp
  show (BitVec.ofNat 32 (256 * a + b)).signExtend 8 = (BitVec.ofNat 32 b).signExtend 8
  apply BitVec.eq_of_getLsbD_eq
  intro i hi
  simp only [BitVec.getLsbD_signExtend, BitVec.getLsbD_ofNat]
  have h1 : (256 * a + b).testBit i = b.testBit i := by
    have t : ∀ x : Nat, x.testBit i = (x % 2 ^ 8).testBit i := fun x => by rw [Nat.testBit_mod_two_pow]; simp [hi]
    rw [t (256 * a + b), t b]
    congr 1
    omega
  simp [show i < 32 by omega, hi, h1]
theorem ck_two {n : Nat} (hn : n ≤ 8192) : 0 ≤ nI n - 2 ↔ 2 ≤ nI n := by
  rcases Nat.lt_or_ge n 2 with q | q
  · have h2 : n = 0 ∨ n = 1 := by omega
    rcases h2 with rfl | rfl <;> decide
  · have e1 : nI n - 2 = nI (n - 2) := pk_sub q
    rw [e1]
    exact ⟨fun _ => (nI_leI (a := 2) (by omega) (by omega)).mpr q, fun _ => nI_pos' (by omega)⟩
theorem eq_cZ {n : Nat} (hn : n ≤ 8192) : ckZ n = ycZ n := by
  unfold ckZ ycZ
  by_cases h : 2 ≤ nI n
  · rw [if_pos h, if_pos ((ck_two hn).mpr h)]
  · rw [if_neg h, if_neg (fun q => h ((ck_two hn).mp q))]
theorem eq_cF {f : Nat → Int32} {n : Nat} (hn : n ≤ 8192) : ckF f n = ycF f n := by
  unfold ckF ycF
  by_cases h : 2 ≤ nI n
  · rw [if_pos h, if_pos ((ck_two hn).mpr h)]
    obtain ⟨M, rfl⟩ := yc_ge hn h
    obtain ⟨a, b, ha, hb, e⟩ := sum2_rng f M
    have eD : ckD f (M + 2) = nI (256 * a + b) := by
      rw [ckD, show M + 2 - 2 = M from rfl, e, show (256 : Int32) = nI 256 from rfl, pk_mul, nI_add]
    have e8 : nI (256 * a + b) >>> ((8 : Int32) &&& 31) = nI a := by
      rw [pk_shrN (by omega) _ 8 (by decide)]
      congr 1
      omega
    rw [show M + 2 - 2 = M from rfl, eD, e8, e, pk_vb, pk_vb, nI_1]
    have h1 : rputF f (M + 2) (nI M) (nI a) = upd f M (nI a).toInt8.toInt32 := by
      rw [rputF, if_neg (nI_pos (by omega)), if_pos ((nI_ltI (by omega) (by omega)).mpr (by omega)), nI_clamp (by omega)]
    rw [h1, rputF, if_neg (nI_pos (by omega)), if_pos ((nI_ltI (by omega) (by omega)).mpr (by omega)), nI_clamp (by omega), i8_lo]
  · rw [if_neg h, if_neg (fun q => h ((ck_two hn).mp q))]
