/-! THE REFERENCE's calls, as pure functions -/
def ygl (v : Int64) : Nat → (Nat → Int32) → Nat → (Nat → Int32)
  | 0, f, _ => f
  | j + 1, f, n => ygl v j (upd f n (vp_nar .byte ((v >>> ((8 * (nI (j + 1) - 1)).toInt64 &&& 63)).toInt32).toInt8.toInt32)) (n + 1)
def ygZ (n : Nat) (k : Int32) : Int32 := if k < 1 then 0 else if 8 < k then 0 else if nI n + k ≤ 8192 then 1 else 0
def ygF (f : Nat → Int32) (n : Nat) (v : Int64) (k : Int32) : Nat → Int32 := if k < 1 then f else if 8 < k then f else if nI n + k ≤ 8192 then ygl v k.toNatClampNeg f n else f
def ygN (n : Nat) (k : Int32) : Nat := if k < 1 then n else if 8 < k then n else if nI n + k ≤ 8192 then n + k.toNatClampNeg else n
theorem yg_le {n : Nat} {k : Int32} (hn : n ≤ 8192) (h1 : ¬ k < 1) (h2 : ¬ 8 < k) (h3 : nI n + k ≤ 8192) : ∃ K : Nat, k = nI K ∧ 1 ≤ K ∧ K ≤ 8 ∧ n + K ≤ 8192 := by
  have h0 : ¬ k < 0 := fun h => h1 (Int32.lt_trans h (by decide))
  obtain ⟨K, hK, rfl⟩ := nI_of h0
  have e1 : ¬ nI K < nI 1 := h1
  have e2 : ¬ nI 8 < nI K := h2
  rw [nI_ltI hK (by omega)] at e1
  rw [nI_ltI (by omega) hK] at e2
  have e3 : nI n + nI K ≤ nI 8192 := h3
  rw [nI_add, nI_leI (by omega) (by omega)] at e3
  exact ⟨K, rfl, by omega, by omega, by omega⟩
def ycZ (n : Nat) : Int32 := if 2 ≤ nI n then 1 else 0
def ycF (f : Nat → Int32) (n : Nat) : Nat → Int32 := if 2 ≤ nI n then upd (upd f (n - 2) (vp_nar .byte (sum2 f (n - 2)).1.toInt8.toInt32)) (n - 2 + 1) (vp_nar .byte (sum2 f (n - 2)).2.toInt8.toInt32) else f
def ycQ (f : Nat → Int32) (n : Nat) (q : S5) : S5 := if 2 ≤ nI n then (q.1, q.2.1, q.2.2.1, (sum2 f (n - 2)).1, (sum2 f (n - 2)).2) else q
theorem yc_ge {n : Nat} (hn : n ≤ 8192) (h : 2 ≤ nI n) : ∃ M : Nat, n = M + 2 := by
  have h2 : nI 2 ≤ nI n := h
  rw [nI_leI (by omega) (by omega)] at h2
  exact ⟨n - 2, by omega⟩
theorem yc_sub (M : Nat) : nI (M + 2) - 1 = nI (M + 1) := nI_pred (M + 1)
theorem cpy_0 {f g : Nat → Int32} : va_cpy f g 0 0 0 = g := by
  funext k
  simp [va_cpy]
theorem fit_b {v : Int32} (h : fits .byte (.int v) = true) : v.toInt8.toInt32 = v := by
  simp only [fits, Bool.and_eq_true, decide_eq_true_eq] at h
  obtain ⟨h1, h2⟩ := h
  rw [Int32.le_iff_toInt_le] at h1 h2
  have e1 : (-128 : Int32).toInt = -128 := by decide
  have e2 : (127 : Int32).toInt = 127 := by decide
  rw [e1] at h1
  rw [e2] at h2
  apply Int32.toInt_inj.mp
  rw [Int8.toInt_toInt32, Int32.toInt_toInt8]
  rw [Int.bmod_def]
  split <;> omega
theorem cpy_step {f g : Nat → Int32} (hf : sb_Fit f) (i : Nat) : upd (va_cpy f g 0 0 i) i (vp_nar .byte (f i)) = va_cpy f g 0 0 (i + 1) := by
  have h : vp_nar .byte (f i) = f i := by
    rw [vp_nar_byte]
    exact fit_b (hf i)
  rw [h]
  funext k
  by_cases e : k = i
  · subst e
    rw [pk_us, pk_cpy_in (by omega) (by omega)]
    congr 1
    omega
  · rw [pk_un e]
    by_cases e2 : k < i
    · rw [pk_cpy_in (by omega) (by omega), pk_cpy_in (by omega) (by omega)]
    · rw [pk_cpy_out (by omega), pk_cpy_out (by omega)]
def yq0 : S5 := (0, 0, -1, 0, 0)
theorem okq0 (n : Nat) : ok5 n yq0 := ⟨0, Nat.zero_le _, rfl⟩
def ybA (f : Nat → Int32) (n : Nat) (fo : Nat → Int32) (no : Nat) (k into : Int32) : Int32 := if k < 0 then -1 else if into = 0 then (if k < nI no then fo k.toNatClampNeg &&& 255 else -1) else (if k < nI n then f k.toNatClampNeg &&& 255 else -1)
def ymn (fm : Nat → Int32) (nm w : Nat) : Int32 := if nI nm = 0 then 0 else fm w &&& 255
def yhs (fm : Nat → Int32) (nm w : Nat) (k : Int32) : Int32 := if k < 0 then 0 else if ymn fm nm w ≤ k then 0 else 1
