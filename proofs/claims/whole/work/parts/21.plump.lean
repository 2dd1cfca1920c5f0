/-! THE CLASS's calls, as pure functions -/
def gvb (v : Int64) (x : Int32) : Int32 := ((v.toUInt64 >>> ((8 * x).toInt64.toUInt64 &&& Int64.toUInt64 63)).toInt64).toInt32
def gvl (v : Int64) : Nat → (Nat → Int32) → Nat → (Nat → Int32)
  | 0, f, _ => f
  | j + 1, f, n => gvl v j (upd f n (gvb v (nI (j + 1) - 1)).toInt8.toInt32) (n + 1)
def gvZ (n : Nat) (k : Int32) : Int32 := if k < 1 then 0 else if 8 < k then 0 else if k ≤ 8192 - nI n then 1 else 0
def gvF (f : Nat → Int32) (n : Nat) (v : Int64) (k : Int32) : Nat → Int32 := if k < 1 then f else if 8 < k then f else if k ≤ 8192 - nI n then gvl v k.toNatClampNeg f n else f
def gvN (n : Nat) (k : Int32) : Nat := if k < 1 then n else if 8 < k then n else if k ≤ 8192 - nI n then n + k.toNatClampNeg else n
theorem gv_le {n : Nat} {k : Int32} (hn : n ≤ 8192) (h1 : ¬ k < 1) (h2 : ¬ 8 < k) (h3 : k ≤ 8192 - nI n) : ∃ K : Nat, k = nI K ∧ 1 ≤ K ∧ K ≤ 8 ∧ n + K ≤ 8192 := by
  have h0 : ¬ k < 0 := fun h => h1 (Int32.lt_trans h (by decide))
  obtain ⟨K, hK, rfl⟩ := nI_of h0
  have e1 : ¬ nI K < nI 1 := h1
  have e2 : ¬ nI 8 < nI K := h2
  rw [nI_ltI hK (by omega)] at e1
  rw [nI_ltI (by omega) hK] at e2
  have e3 : nI K ≤ nI 8192 - nI n := h3
  rw [pk_sub hn, nI_leI hK (by omega)] at e3
  exact ⟨K, rfl, by omega, by omega, by omega⟩
theorem rsh_z (n : Nat) (k : Int32) : narrow .boolean (.int (rsh n k)) = .int (rsh n k) := by
  unfold rsh
  split
  · rfl
  · split <;> rfl
theorem rput_z (n : Nat) (k : Int32) : narrow .boolean (.int (rput n k)) = .int (rput n k) := by
  unfold rput
  split
  · rfl
  · split <;> rfl
def ckD (f : Nat → Int32) (n : Nat) : Int32 := 256 * (sum2 f (n - 2)).1 + (sum2 f (n - 2)).2
def ckZ (n : Nat) : Int32 := if 0 ≤ nI n - 2 then 1 else 0
def ckF (f : Nat → Int32) (n : Nat) : Nat → Int32 := if 0 ≤ nI n - 2 then rputF (rputF f n (nI (n - 2)) (ckD f n >>> ((8 : Int32) &&& 31))) n (nI (n - 2) + 1) (ckD f n) else f
theorem ck_ge {n : Nat} (hn : n ≤ 8192) (h : 0 ≤ nI n - 2) : ∃ M : Nat, n = M + 2 := by
  rcases Nat.lt_or_ge n 2 with q | q
  · exfalso
    have h2 : n = 0 ∨ n = 1 := by omega
    rcases h2 with rfl | rfl
    · exact absurd h (by decide)
    · exact absurd h (by decide)
  · exact ⟨n - 2, by omega⟩
theorem ck_sub (M : Nat) : nI (M + 2) - 2 = nI M := (pk_sub (show 2 ≤ M + 2 by omega)).trans (congrArg nI (by omega))
def bAt (f : Nat → Int32) (n : Nat) (fo : Nat → Int32) (no : Nat) (k into : Int32) : Int32 := if into = 0 then rg fo no k else rg f n k
def vxA (fm : Nat → Int32) (nm : Nat) (mv k ac : Int32) : Int32 := if k < 0 then 100000 else if k < mv then rsg fm nm ((7 + 4 * k) + (if ac = 0 then 2 else 0)) else 100000
def txA (fm : Nat → Int32) (nm : Nat) (g : Nat → Int32) (mx k what : Int32) : Int32 := if k < 0 then -1 else if k < mx then (if what = 0 then mwd fm nm g k else if what = 1 then mht fm nm g k else if 0 ≤ what then mtx fm nm g k ((what - 2) >>> ((4 : Int32) &&& 31)) ((what - 2) &&& 15) else -1) else -1
def scA (fm : Nat → Int32) (nm : Nat) (ms ma k what : Int32) : Int32 := if k < 0 then 100000 else if ms ≤ k then 100000 else if what < 0 then 100000 else if what ≤ 6 then (if 2 ≤ what then rg fm nm (((ma + 9 * k) + 2) + what) else rsg fm nm ((ma + 9 * k) + 2 * what)) else 100000
def wlA (fm : Nat → Int32) (nm : Nat) (mw mb k what : Int32) : Int32 := if k < 0 then -1 else if mw ≤ k then -1 else if what < 0 then -1 else if what ≤ 14 then (if what = 10 then rg fm nm ((mb + 14 * k) + 10) >>> ((4 : Int32) &&& 31) else if what = 11 then rg fm nm ((mb + 14 * k) + 10) &&& 15 else rg fm nm (if 10 ≤ what then ((mb + 14 * k) + what) - 1 else (mb + 14 * k) + what)) else -1
def stA (fm : Nat → Int32) (nm : Nat) (pr mc what : Int32) : Int32 := if pr = 0 then 100000 else if what < 0 then 100000 else if what ≤ 3 then (if 2 ≤ what then rg fm nm ((mc + 2) + what) else rsg fm nm (mc + 2 * what)) else 100000
def lkA (n no : Nat) (pr mv mx ms mw fa fp fw which : Int32) : Int32 := if which = 0 then nI n else if which = 1 then nI no else if which = 2 then mcn pr mv else if which = 3 then mcn pr mx else if which = 4 then mcn pr ms else if which = 5 then mcn pr mw else if which = 6 then fa else if which = 7 then fp else if which = 8 then fw else -1
theorem dec1 (j : Nat) : (nI (j + 1) - 1) + Int32.ofInt (-1) = nI j - 1 := by
  rw [nI_pred, show Int32.ofInt (-1) = -1 from by decide, Int32.sub_eq_add_neg]
