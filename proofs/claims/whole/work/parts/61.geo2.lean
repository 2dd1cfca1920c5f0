/-! the two tests in the numbers of the programs -/
def R6 (x : Int32) : Prop := -32768 ≤ x.toInt ∧ x.toInt ≤ 32767
theorem i_sub {x y : Int32} (h1 : R6 x) (h2 : R6 y) : (x - y).toInt = x.toInt - y.toInt := by
  obtain ⟨a1, a2⟩ := h1
  obtain ⟨b1, b2⟩ := h2
  rw [Int32.toInt_sub, Int.bmod_def]
  split <;> omega
theorem l_sub {x y : Int32} (h1 : R6 x) (h2 : R6 y) : (x.toInt64 - y.toInt64).toInt = x.toInt - y.toInt := by
  obtain ⟨a1, a2⟩ := h1
  obtain ⟨b1, b2⟩ := h2
  rw [Int64.toInt_sub, Int32.toInt_toInt64, Int32.toInt_toInt64, Int.bmod_def]
  split <;> omega
theorem b_mul {x y : Int} (h1 : -65535 ≤ x ∧ x ≤ 65535) (h2 : -65535 ≤ y ∧ y ≤ 65535) : -4294836225 ≤ x * y ∧ x * y ≤ 4294836225 := by
  have k : (x * y).natAbs ≤ 65535 * 65535 := by
    rw [Int.natAbs_mul]
    exact Nat.mul_le_mul (by omega) (by omega)
  omega
theorem l_mul {x y : Int64} {a b : Int} (e1 : x.toInt = a) (e2 : y.toInt = b) (h1 : -65535 ≤ a ∧ a ≤ 65535) (h2 : -65535 ≤ b ∧ b ≤ 65535) : (x * y).toInt = a * b := by
  have k := b_mul h1 h2
  rw [Int64.toInt_mul, e1, e2, Int.bmod_def]
  generalize a * b = z at k ⊢
  split <;> omega
theorem r_d {x y : Int32} (h1 : R6 x) (h2 : R6 y) : -65535 ≤ x.toInt - y.toInt ∧ x.toInt - y.toInt ≤ 65535 := by
  obtain ⟨a1, a2⟩ := h1
  obtain ⟨b1, b2⟩ := h2
  omega
theorem l_ms {x y : Int64} {a b : Int} (e1 : x.toInt = a) (e2 : y.toInt = b) (h1 : -4294836225 ≤ a ∧ a ≤ 4294836225) (h2 : -4294836225 ≤ b ∧ b ≤ 4294836225) : (x - y).toInt = a - b := by
  rw [Int64.toInt_sub, e1, e2, Int.bmod_def]
  split <;> omega
theorem l_ma {x y : Int64} {a b : Int} (e1 : x.toInt = a) (e2 : y.toInt = b) (h1 : -4294836225 ≤ a ∧ a ≤ 4294836225) (h2 : -4294836225 ≤ b ∧ b ≤ 4294836225) : (x + y).toInt = a + b := by
  rw [Int64.toInt_add, e1, e2, Int.bmod_def]
  split <;> omega
theorem i64_sub {x y : Int32} (h1 : R6 x) (h2 : R6 y) : (x - y).toInt64.toInt = x.toInt - y.toInt := by
  rw [Int32.toInt_toInt64, i_sub h1 h2]
theorem trn_i {a b c d e g : Int32} (h1 : R6 a) (h2 : R6 b) (h3 : R6 c) (h4 : R6 d) (h5 : R6 e) (h6 : R6 g) : (trn a b c d e g).toInt = gc a.toInt b.toInt c.toInt d.toInt e.toInt g.toInt := by
  unfold trn gc
  exact l_ms (l_mul (i64_sub h3 h1) (i64_sub h6 h2) (r_d h3 h1) (r_d h6 h2)) (l_mul (i64_sub h4 h2) (i64_sub h5 h1) (r_d h4 h2) (r_d h5 h1)) (b_mul (r_d h3 h1) (r_d h6 h2)) (b_mul (r_d h4 h2) (r_d h5 h1))
theorem alg_i {a b c d e g : Int32} (h1 : R6 a) (h2 : R6 b) (h3 : R6 c) (h4 : R6 d) (h5 : R6 e) (h6 : R6 g) : (alg a b c d e g).toInt = gd c.toInt d.toInt e.toInt g.toInt a.toInt b.toInt := by
  unfold alg gd
  exact l_ma (l_mul (i64_sub h3 h1) (i64_sub h5 h1) (r_d h3 h1) (r_d h5 h1)) (l_mul (i64_sub h4 h2) (i64_sub h6 h2) (r_d h4 h2) (r_d h6 h2)) (b_mul (r_d h3 h1) (r_d h5 h1)) (b_mul (r_d h4 h2) (r_d h6 h2))
theorem l0_le {x : Int64} : lg_cmp x 0 ≤ 0 ↔ x.toInt ≤ 0 := by
  rw [lg_cmp_le, Int64.le_iff_toInt_le]
  rfl
theorem l0_ge {x : Int64} : 0 ≤ lg_cmp x 0 ↔ 0 ≤ x.toInt := by
  rw [lg_cmp_ge, Int64.le_iff_toInt_le]
  rfl
theorem l0_eq {x : Int64} : lg_cmp x 0 = 0 ↔ x.toInt = 0 := by
  rw [lg_cmp_eq, ← Int64.toInt_inj]
  rfl
theorem swy_i {a b c d e g : Int32} (h1 : R6 a) (h2 : R6 b) (h3 : R6 c) (h4 : R6 d) (h5 : R6 e) (h6 : R6 g) : swy a b c d e g = 0 ↔ ¬ gW a.toInt b.toInt c.toInt d.toInt e.toInt g.toInt := by
  unfold swy gW
  have k1 := l0_le (x := alg a b c d e g)
  have k2 := l0_eq (x := trn a b c d e g)
  rw [alg_i h1 h2 h3 h4 h5 h6] at k1
  rw [trn_i h1 h2 h3 h4 h5 h6] at k2
  by_cases q1 : lg_cmp (alg a b c d e g) 0 ≤ 0
  · rw [if_pos q1]
    rw [k1] at q1
    simp only [true_iff]
    omega
  · rw [if_neg q1]
    rw [k1] at q1
    by_cases q2 : lg_cmp (trn a b c d e g) 0 = 0
    · rw [if_pos q2]
      rw [k2] at q2
      simp only [show ¬ (1 : Int32) = 0 from by decide, false_iff]
      omega
    · rw [if_neg q2]
      rw [k2] at q2
      simp only [true_iff]
      omega
theorem sgn_i (x : Int64) : sgn x = if x.toInt < 0 then -1 else if x.toInt = 0 then 0 else 1 := by
  have lo := Int64.le_toInt x
  have hi := Int64.toInt_lt x
  have s1 : (x >>> ((63 : Int32).toInt64 &&& 63)).toBitVec = x.toBitVec.sshiftRight 63 := by
    show x.toBitVec.sshiftRight (((63 : Int32).toInt64 &&& 63).toBitVec.smod 64).toNat = _
    rw [show (((63 : Int32).toInt64 &&& 63).toBitVec.smod 64).toNat = 63 from by decide +kernel]
  have s1i : (x >>> ((63 : Int32).toInt64 &&& 63)).toInt = x.toInt >>> 63 := by
    show (x >>> ((63 : Int32).toInt64 &&& 63)).toBitVec.toInt = _
    rw [s1, BitVec.toInt_sshiftRight]
    rfl
  have e1 : x.toInt >>> 63 = x.toInt / 2 ^ 63 := Int.shiftRight_eq_div_pow _ _
  have s2 : ((-x).toUInt64 >>> ((63 : Int32).toInt64.toUInt64 &&& Int64.toUInt64 63)).toInt64.toBitVec = (-x).toBitVec >>> 63 := by
    show (-x).toBitVec >>> (((63 : Int32).toInt64.toUInt64 &&& Int64.toUInt64 63).toBitVec % 64).toNat = _
    rw [show (((63 : Int32).toInt64.toUInt64 &&& Int64.toUInt64 63).toBitVec % 64).toNat = 63 from by decide +kernel]
  unfold sgn
  by_cases h1 : x.toInt < 0
  · rw [if_pos h1]
    have k : x >>> ((63 : Int32).toInt64 &&& 63) = -1 := by
      apply Int64.toInt_inj.mp
      rw [s1i, e1, show (-1 : Int64).toInt = -1 from by decide]
      omega
    rw [k]
    have k2 : ∀ y : Int64, (-1 : Int64) ||| y = -1 := fun y => by
      apply Int64.toBitVec_inj.mp
      show BitVec.allOnes 64 ||| y.toBitVec = BitVec.allOnes 64
      exact BitVec.allOnes_or
    rw [k2]
    rfl
  · rw [if_neg h1]
    have k : x >>> ((63 : Int32).toInt64 &&& 63) = 0 := by
      apply Int64.toInt_inj.mp
      rw [s1i, e1, show (0 : Int64).toInt = 0 from by decide]
      omega
    rw [k]
    by_cases h2 : x.toInt = 0
    · have hx : x = 0 := Int64.toInt_inj.mp h2
      rw [if_pos h2, hx]
      decide +kernel
    · rw [if_neg h2]
      have k2 : ((-x).toUInt64 >>> ((63 : Int32).toInt64.toUInt64 &&& Int64.toUInt64 63)).toInt64 = 1 := by
        apply Int64.toBitVec_inj.mp
        rw [s2]
        apply BitVec.eq_of_toNat_eq
        have n1 : (-x).toBitVec.toNat = 2 ^ 64 - x.toBitVec.toNat := by
          show (-x.toBitVec).toNat = _
          rw [BitVec.toNat_neg]
          have : x.toBitVec.toNat < 2 ^ 64 := x.toBitVec.isLt
          have : x.toBitVec.toNat ≠ 0 := fun q => h2 (by
            have : x = 0 := Int64.toBitVec_inj.mp (BitVec.eq_of_toNat_eq q)
            rw [this]; rfl)
          omega
        have n2 : (x.toBitVec.toNat : Int) = x.toInt := by
          have : x.toInt = x.toBitVec.toInt := rfl
          rw [this] at h1 ⊢
          rw [BitVec.toInt_eq_toNat_cond] at h1 ⊢
          split at h1
          · rename_i q
            rw [if_pos q]
          · rename_i q
            exfalso
            have : x.toBitVec.toNat < 2 ^ 64 := x.toBitVec.isLt
            omega
        rw [BitVec.toNat_ushiftRight, n1, Nat.shiftRight_eq_div_pow]
        show _ = 1
        omega
      rw [k2]
      rfl
/-- a product of two signs -/
theorem sg_mul (x y : Int64) : (0 < sgn x * sgn y ↔ 0 < x.toInt * y.toInt) := by
  rw [sgn_i, sgn_i]
  rcases Int.lt_trichotomy x.toInt 0 with h | h | h
  · rw [if_pos h]
    rcases Int.lt_trichotomy y.toInt 0 with q | q | q
    · rw [if_pos q]
      exact ⟨fun _ => Int.mul_pos_of_neg_of_neg h q, fun _ => by decide⟩
    · rw [q]
      simp
    · rw [if_neg (by omega), if_neg (by omega)]
      have := Int.mul_neg_of_neg_of_pos h q
      exact ⟨fun w => absurd w (by decide), fun w => by omega⟩
  · rw [h]
    simp
  · rw [if_neg (show ¬ x.toInt < 0 by omega), if_neg (show ¬ x.toInt = 0 by omega)]
    rcases Int.lt_trichotomy y.toInt 0 with q | q | q
    · rw [if_pos q]
      have := Int.mul_neg_of_pos_of_neg h q
      exact ⟨fun w => absurd w (by decide), fun w => by omega⟩
    · rw [q]
      simp
    · rw [if_neg (by omega), if_neg (by omega)]
      exact ⟨fun _ => Int.mul_pos h q, fun _ => by decide⟩
/-- a span's numbers are in range -/
def R4 (a : E4) : Prop := R6 a.1 ∧ R6 a.2.1 ∧ R6 a.2.2.1 ∧ R6 a.2.2.2
theorem lpt_i {a b : E4} (h1 : R4 a) (h2 : R4 b) : lpt a b = 0 ↔ ¬ gc a.1.toInt a.2.1.toInt a.2.2.1.toInt a.2.2.2.toInt b.1.toInt b.2.1.toInt * gc a.1.toInt a.2.1.toInt a.2.2.1.toInt a.2.2.2.toInt b.2.2.1.toInt b.2.2.2.toInt ≤ 0 := by
  obtain ⟨a1, a2, a3, a4⟩ := h1
  obtain ⟨b1, b2, b3, b4⟩ := h2
  have k := sg_mul (trn a.1 a.2.1 a.2.2.1 a.2.2.2 b.1 b.2.1) (trn a.1 a.2.1 a.2.2.1 a.2.2.2 b.2.2.1 b.2.2.2)
  rw [trn_i a1 a2 a3 a4 b1 b2, trn_i a1 a2 a3 a4 b3 b4] at k
  unfold lpt sid
  by_cases q : 0 < sgn (trn a.1 a.2.1 a.2.2.1 a.2.2.2 b.1 b.2.1) * sgn (trn a.1 a.2.1 a.2.2.1 a.2.2.2 b.2.2.1 b.2.2.2)
  · rw [if_pos q]
    rw [k] at q
    simp only [true_iff]
    omega
  · rw [if_neg q]
    rw [k] at q
    simp only [show ¬ (1 : Int32) = 0 from by decide, false_iff]
    omega
theorem mx_lt {x y u v : Int32} : mxI x y < mnI u v ↔ gal x.toInt y.toInt u.toInt v.toInt := by
  unfold mxI mnI gal
  simp only [Int32.lt_iff_toInt_lt]
  split <;> split <;> omega
theorem bxa_i {a b : E4} : bxa a b = 0 ↔ gB a.1.toInt a.2.1.toInt a.2.2.1.toInt a.2.2.2.toInt b.1.toInt b.2.1.toInt b.2.2.1.toInt b.2.2.2.toInt := by
  unfold bxa gB
  rw [← mx_lt, ← mx_lt, ← mx_lt, ← mx_lt]
  by_cases h1 : mxI a.1 a.2.2.1 < mnI b.1 b.2.2.1
  · rw [if_pos h1]
    simp [h1]
  · rw [if_neg h1]
    by_cases h2 : mxI b.1 b.2.2.1 < mnI a.1 a.2.2.1
    · rw [if_pos h2]
      simp [h2]
    · rw [if_neg h2]
      by_cases h3 : mxI a.2.1 a.2.2.2 < mnI b.2.1 b.2.2.2
      · rw [if_pos h3]
        simp [h3]
      · rw [if_neg h3]
        by_cases h4 : mnI a.2.1 a.2.2.2 ≤ mxI b.2.1 b.2.2.2
        · rw [if_pos h4]
          simp [h1, h2, h3, Int32.not_lt.mpr h4]
        · rw [if_neg h4]
          simp [Int32.not_le.mp h4]
theorem if2 {α : Type} {P Q : Prop} [Decidable P] [Decidable Q] (x y : α) : (if P then (if Q then x else y) else y) = if P ∧ Q then x else y := by
  by_cases h : P
  · by_cases q : Q
    · rw [if_pos h, if_pos q, if_pos ⟨h, q⟩]
    · rw [if_pos h, if_neg q, if_neg (fun w => q w.2)]
  · rw [if_neg h, if_neg (fun w => h w.1)]
/-- THE CLASS's test, in points -/
theorem mts_i {a b : E4} (h1 : R4 a) (h2 : R4 b) (na : ¬ (a.1 = a.2.2.1 ∧ a.2.1 = a.2.2.2)) (nb : ¬ (b.1 = b.2.2.1 ∧ b.2.1 = b.2.2.2)) : mts a b = 0 ↔ ¬ gY a.1.toInt a.2.1.toInt a.2.2.1.toInt a.2.2.2.toInt b.1.toInt b.2.1.toInt b.2.2.1.toInt b.2.2.2.toInt := by
  have R1 := h1
  have R2 := h2
  obtain ⟨a1, a2, a3, a4, rfl⟩ : ∃ a1 a2 a3 a4, a = (a1, a2, a3, a4) := ⟨_, _, _, _, rfl⟩
  obtain ⟨b1, b2, b3, b4, rfl⟩ : ∃ b1 b2 b3 b4, b = (b1, b2, b3, b4) := ⟨_, _, _, _, rfl⟩
  obtain ⟨r1, r2, r3, r4⟩ := h1
  obtain ⟨s1, s2, s3, s4⟩ := h2
  dsimp only at r1 r2 r3 r4 s1 s2 s3 s4 na nb ⊢
  have tp : ∀ {x y u v : Int32}, ¬ (x = u ∧ y = v) → ¬ (x.toInt = u.toInt ∧ y.toInt = v.toInt) := fun h q => h ⟨Int32.toInt_inj.mp q.1, Int32.toInt_inj.mp q.2⟩
  have na' := tp na
  have nb' := tp nb
  unfold mts mt1 mt2 mt3 mt4 mt5
  dsimp only
  rw [if2, if2, if2, if2]
  have kb := bxa_i (a := (a1, a2, a3, a4)) (b := (b1, b2, b3, b4))
  dsimp only at kb
  by_cases c1 : a1 = b1 ∧ a2 = b2
  · obtain ⟨rfl, rfl⟩ := c1
    have k := g_11 na' nb'
    rw [if_pos (kb.mpr k.1), if_pos ⟨rfl, rfl⟩, swy_i r1 r2 r3 r4 s3 s4, k.2]
  · by_cases c2 : a1 = b3 ∧ a2 = b4
    · obtain ⟨rfl, rfl⟩ := c2
      have k := g_12 na' (tp c1)
      rw [if_pos (kb.mpr k.1), if_neg c1, if_pos ⟨rfl, rfl⟩, swy_i r1 r2 r3 r4 s1 s2, k.2]
    · by_cases c3 : a3 = b1 ∧ a4 = b2
      · obtain ⟨rfl, rfl⟩ := c3
        have k := g_21 na' nb'
        rw [if_pos (kb.mpr k.1), if_neg c1, if_neg c2, if_pos ⟨rfl, rfl⟩, swy_i r3 r4 r1 r2 s3 s4, k.2]
      · by_cases c4 : a3 = b3 ∧ a4 = b4
        · obtain ⟨rfl, rfl⟩ := c4
          have k := g_22 na' (tp c3)
          rw [if_pos (kb.mpr k.1), if_neg c1, if_neg c2, if_neg c3, if_pos ⟨rfl, rfl⟩, swy_i r3 r4 r1 r2 s1 s2, k.2]
        · have k := g_0 na' nb' (tp c1) (tp c2) (tp c3) (tp c4)
          rw [← k, if_neg c1, if_neg c2, if_neg c3, if_neg c4]
          have l1 := lpt_i R1 R2
          have l2 := lpt_i R2 R1
          dsimp only at l1 l2
          by_cases q0 : bxa (a1, a2, a3, a4) (b1, b2, b3, b4) = 0
          · rw [if_pos q0]
            rw [kb] at q0
            by_cases q1 : lpt (a1, a2, a3, a4) (b1, b2, b3, b4) = 0
            · rw [if_pos q1]
              rw [l1] at q1
              simp [q1]
            · rw [if_neg q1]
              rw [l1, Classical.not_not] at q1
              by_cases q2 : lpt (b1, b2, b3, b4) (a1, a2, a3, a4) = 0
              · rw [if_pos q2]
                rw [l2] at q2
                simp [q2]
              · rw [if_neg q2]
                rw [l2, Classical.not_not] at q2
                simp [q0, q1, q2]
          · rw [if_neg q0]
            rw [kb] at q0
            simp [q0]
