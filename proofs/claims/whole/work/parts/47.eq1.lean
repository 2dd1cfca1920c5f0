/-! CLASS AND REFERENCE ALIKE: give, check, byteAt -/
/-- the lowest eight bits of v, shifted by a multiple of 8 below 64: with the sign or without it -/
theorem eq_sh (v : Int64) : ∀ j, j < 8 → ((v.toUInt64 >>> ((8 * nI j).toInt64.toUInt64 &&& Int64.toUInt64 63)).toInt64).toInt32.toInt8 = ((v >>> ((8 * nI j).toInt64 &&& 63)).toInt32).toInt8 := by
  intro j hj
  have e : ∀ x : Fin 8, (((8 * nI x.val).toInt64.toUInt64 &&& Int64.toUInt64 63).toBitVec % 64).toNat = 8 * x.val ∧ (((8 * nI x.val).toInt64 &&& 63).toBitVec.smod 64).toNat = 8 * x.val := by decide +kernel
  obtain ⟨e1, e2⟩ := e ⟨j, hj⟩
  apply Int8.toBitVec_inj.mp
  have l1 : ((v.toUInt64 >>> ((8 * nI j).toInt64.toUInt64 &&& Int64.toUInt64 63)).toInt64).toInt32.toInt8.toBitVec = ((v.toBitVec >>> (8 * j)).signExtend 32).signExtend 8 := by
    show ((v.toBitVec >>> (((8 * nI j).toInt64.toUInt64 &&& Int64.toUInt64 63).toBitVec % 64).toNat).signExtend 32).signExtend 8 = _
    rw [e1]
  have l2 : ((v >>> ((8 * nI j).toInt64 &&& 63)).toInt32).toInt8.toBitVec = ((v.toBitVec.sshiftRight (8 * j)).signExtend 32).signExtend 8 := by
    show ((v.toBitVec.sshiftRight (((8 * nI j).toInt64 &&& 63).toBitVec.smod 64).toNat).signExtend 32).signExtend 8 = _
    rw [e2]
  rw [l1, l2]
  apply BitVec.eq_of_getLsbD_eq
  intro i hi
  have hlt : 8 * j + i < 64 := by omega
  simp only [BitVec.getLsbD_signExtend, BitVec.getLsbD_ushiftRight, BitVec.getLsbD_sshiftRight]
  simp [hi, show i < 32 by omega, show i < 64 by omega, hlt]
  try omega
theorem eq_gl (v : Int64) : ∀ (j : Nat) (f : Nat → Int32) (n : Nat), j ≤ 8 → gvl v j f n = ygl v j f n
  | 0, _, _, _ => rfl
  | j + 1, f, n, h => by
    show gvl v j _ (n + 1) = ygl v j _ (n + 1)
    rw [eq_gl v j _ (n + 1) (by omega)]
    congr 2
    rw [pk_vb, gvb, nI_pred, eq_sh v j (by omega)]
theorem eq_gc {n : Nat} {k : Int32} (hn : n ≤ 8192) (h1 : ¬ k < 1) (h2 : ¬ 8 < k) : k ≤ 8192 - nI n ↔ nI n + k ≤ 8192 := by
  have h0 : ¬ k < 0 := fun h => h1 (Int32.lt_trans h (by decide))
  obtain ⟨K, hK, rfl⟩ := nI_of h0
  have e2 : ¬ nI 8 < nI K := h2
  rw [nI_ltI (by omega) hK] at e2
  show nI K ≤ nI 8192 - nI n ↔ nI n + nI K ≤ nI 8192
  rw [pk_sub hn, nI_add, nI_leI hK (by omega), nI_leI (by omega) (by omega)]
  omega
theorem eq_gZ {n : Nat} {k : Int32} (hn : n ≤ 8192) : gvZ n k = ygZ n k := by
  unfold gvZ ygZ
  by_cases h1 : k < 1
  · rw [if_pos h1, if_pos h1]
  · by_cases h2 : 8 < k
    · rw [if_neg h1, if_neg h1, if_pos h2, if_pos h2]
    · rw [if_neg h1, if_neg h1, if_neg h2, if_neg h2]
      by_cases h3 : k ≤ 8192 - nI n
      · rw [if_pos h3, if_pos ((eq_gc hn h1 h2).mp h3)]
      · rw [if_neg h3, if_neg (fun h => h3 ((eq_gc hn h1 h2).mpr h))]
theorem eq_gN {n : Nat} {k : Int32} (hn : n ≤ 8192) : gvN n k = ygN n k := by
  unfold gvN ygN
  by_cases h1 : k < 1
  · rw [if_pos h1, if_pos h1]
  · by_cases h2 : 8 < k
    · rw [if_neg h1, if_neg h1, if_pos h2, if_pos h2]
    · rw [if_neg h1, if_neg h1, if_neg h2, if_neg h2]
      by_cases h3 : k ≤ 8192 - nI n
      · rw [if_pos h3, if_pos ((eq_gc hn h1 h2).mp h3)]
      · rw [if_neg h3, if_neg (fun h => h3 ((eq_gc hn h1 h2).mpr h))]
theorem eq_gF {f : Nat → Int32} {n : Nat} {v : Int64} {k : Int32} (hn : n ≤ 8192) : gvF f n v k = ygF f n v k := by
  unfold gvF ygF
  by_cases h1 : k < 1
  · rw [if_pos h1, if_pos h1]
  · by_cases h2 : 8 < k
    · rw [if_neg h1, if_neg h1, if_pos h2, if_pos h2]
    · rw [if_neg h1, if_neg h1, if_neg h2, if_neg h2]
      by_cases h3 : k ≤ 8192 - nI n
      · rw [if_pos h3, if_pos ((eq_gc hn h1 h2).mp h3)]
        obtain ⟨K, rfl, -, hK, -⟩ := gv_le hn h1 h2 h3
        rw [nI_clamp (by omega)]
        exact eq_gl v K f n hK
      · rw [if_neg h3, if_neg (fun h => h3 ((eq_gc hn h1 h2).mpr h))]
theorem eq_bA (f : Nat → Int32) (n : Nat) (fo : Nat → Int32) (no : Nat) (k into : Int32) : bAt f n fo no k into = ybA f n fo no k into := by
  unfold bAt ybA rg
  by_cases h1 : k < 0
  · simp only [if_pos h1, ite_self]
  · simp only [if_neg h1]
    by_cases h2 : into = 0
    · simp only [if_pos h2]
      by_cases h3 : k < nI no
      · rw [if_pos h3, if_neg (Int32.not_le.mpr h3)]
      · rw [if_neg h3, if_pos (Int32.not_lt.mp h3)]
    · simp only [if_neg h2]
      by_cases h3 : k < nI n
      · rw [if_pos h3, if_neg (Int32.not_le.mpr h3)]
      · rw [if_neg h3, if_pos (Int32.not_lt.mp h3)]
