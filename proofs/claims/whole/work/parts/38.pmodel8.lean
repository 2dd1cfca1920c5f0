theorem nu1 {u : Nat} (h : 1 ≤ u) : nI u - 1 = nI (u - 1) := pk_sub h
def ywA (fm : Nat → Int32) (nm : Nat) (k what : Int32) : Int32 := if yhs fm nm 6 k = 0 then -1 else if what < 0 then -1 else if what ≤ 14 then (if what = 10 then (fm (yT fm + 9 * yb fm 5 + 14 * k.toNatClampNeg + 10) &&& 255) / 16 else if what = 11 then (fm (yT fm + 9 * yb fm 5 + 14 * k.toNatClampNeg + 10) &&& 255) - (fm (yT fm + 9 * yb fm 5 + 14 * k.toNatClampNeg + 10) &&& 255) / 16 * 16 else if what ≤ 11 then fm (yT fm + 9 * yb fm 5 + 14 * k.toNatClampNeg + what.toNatClampNeg) &&& 255 else fm (yT fm + 9 * yb fm 5 + 14 * k.toNatClampNeg + (what.toNatClampNeg - 1)) &&& 255) else -1
def yW (fm : Nat → Int32) (K : Nat) : Int32 := 1 <<< (fm (yta fm (yb fm 3) K) &&& 31)
def yH (fm : Nat → Int32) (K : Nat) : Int32 := 1 <<< (fm (yta fm (yb fm 3) K + 1) &&& 31)
def yrw (what : Int32) : Int32 := (what - 2) / 16
def ycl (what : Int32) : Int32 := (what - 2) - (what - 2) / 16 * 16
def yxA (fm : Nat → Int32) (nm : Nat) (k what : Int32) : Int32 := if yhs fm nm 4 k = 0 then -1 else if 0 ≤ what then (if 2 ≤ what then (if yH fm k.toNatClampNeg ≤ yrw what then -1 else if yW fm k.toNatClampNeg ≤ ycl what then -1 else fm (((nI (yta fm (yb fm 3) k.toNatClampNeg) + 2) + yW fm k.toNatClampNeg * yrw what) + ycl what).toNatClampNeg) else if what = 0 then yW fm k.toNatClampNeg else yH fm k.toNatClampNeg) else -1
theorem sh1 : ∀ a, a ≤ 4 → (1 : Int32) <<< (nI a &&& 31) = nI (2 ^ a) := by
  intro a ha
  have h : ∀ x : Fin 5, (1 : Int32) <<< (nI x.val &&& 31) = nI (2 ^ x.val) := by decide +kernel
  exact h ⟨a, by omega⟩
theorem tx_in {fm : Nat → Int32} {K : Nat} {what : Int32} (hv : VM fm) (hK : K < yb fm 4) (h2 : 2 ≤ what) (hr : ¬ yH fm K ≤ yrw what) (hc : ¬ yW fm K ≤ ycl what) : vp_in (((nI (yta fm (yb fm 3) K) + 2) + yW fm K * yrw what) + ycl what) 8192 := by
  have h0 : ¬ what < 0 := fun h => absurd (Int32.lt_of_lt_of_le h (Int32.le_trans (show (0 : Int32) ≤ 2 by decide) h2)) (Int32.lt_irrefl)
  obtain ⟨u, hu, rfl⟩ := nI_of h0
  have h2' : nI 2 ≤ nI u := h2
  rw [nI_leI (by omega) hu] at h2'
  obtain ⟨a, b, ha, hb, ea, eb⟩ := hv.1 K hK
  have e1 : nI u - 2 = nI (u - 2) := pk_sub h2'
  have er : yrw (nI u) = nI ((u - 2) / 16) := by
    rw [yrw, e1]
    exact pk_div (a := u - 2) (d := 16) (by omega) (by decide) (by decide)
  have ec : ycl (nI u) = nI ((u - 2) % 16) := by
    rw [ycl, e1]
    exact pk_rem (a := u - 2) (d := 16) (by omega) (by decide) (by decide)
  have eW : yW fm K = nI (2 ^ a) := by rw [yW, ea, sh1 a ha]
  have eH : yH fm K = nI (2 ^ b) := by rw [yH, eb, sh1 b hb]
  have pa : 2 ^ a ≤ 16 := Nat.le_trans (Nat.pow_le_pow_right (by omega) ha) (by decide)
  have pb : 2 ^ b ≤ 16 := Nat.le_trans (Nat.pow_le_pow_right (by omega) hb) (by decide)
  rw [er, eH, nI_leI (by omega) (by omega)] at hr
  rw [ec, eW, nI_leI (by omega) (by omega)] at hc
  rw [er, ec, eW, show (2 : Int32) = nI 2 from rfl, nI_add, pk_mul, nI_add, nI_add]
  have hb1 : 2 ^ a * ((u - 2) / 16) + (u - 2) % 16 < 2 ^ (a + b) := by
    rw [Nat.pow_add]
    calc 2 ^ a * ((u - 2) / 16) + (u - 2) % 16 < 2 ^ a * ((u - 2) / 16) + 2 ^ a := by omega
      _ = 2 ^ a * ((u - 2) / 16 + 1) := by rw [Nat.mul_add, Nat.mul_one]
      _ ≤ 2 ^ a * 2 ^ b := Nat.mul_le_mul_left _ (by omega)
  have hs : yta fm (yb fm 3) (K + 1) = yta fm (yb fm 3) K + (2 + 2 ^ (a + b)) := by
    show yta fm (yb fm 3) K + (2 + 2 ^ ((fm (yta fm (yb fm 3) K)).toNatClampNeg + (fm (yta fm (yb fm 3) K + 1)).toNatClampNeg)) = _
    rw [ea, eb, nI_clamp (by omega), nI_clamp (by omega)]
  have hl := yta_le (fm := fm) (V := yb fm 3) (show K + 1 ≤ yb fm 4 from hK)
  have h9 := hv.2
  rw [hs] at hl
  generalize 2 ^ (a + b) = X at *
  generalize 2 ^ a * ((u - 2) / 16) = Y at *
  exact in_n (by omega) (by decide)
