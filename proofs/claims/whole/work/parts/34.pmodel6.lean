/-! THE REFERENCE's looks into the map, as pure functions -/
theorem ymn_b (fm : Nat → Int32) (nm w : Nat) : ∃ j : Nat, j < 256 ∧ ymn fm nm w = nI j := by
  unfold ymn
  split
  · exact ⟨0, by omega, rfl⟩
  · exact yb_ex _
theorem hs_k {fm : Nat → Int32} {nm w : Nat} {k : Int32} (h : ¬ yhs fm nm w k = 0) : ∃ K : Nat, k = nI K ∧ K < 256 ∧ K < yb fm w ∧ ¬ nI nm = 0 := by
  unfold yhs at h
  split at h
  · exact absurd rfl h
  · rename_i h1
    split at h
    · exact absurd rfl h
    · rename_i h2
      obtain ⟨K, hK, rfl⟩ := nI_of h1
      obtain ⟨j, hj, e⟩ := ymn_b fm nm w
      rw [e, nI_leI (by omega) hK] at h2
      refine ⟨K, rfl, by omega, ?_, ?_⟩
      · unfold ymn at e
        split at e
        · exfalso
          have : nI 0 = nI j := e
          rw [nI_eq (by omega) (by omega)] at this
          omega
        · rw [← yb_eq, nI_eq (by have := yb_lt fm w; omega) (by omega)] at e
          omega
      · intro h0
        unfold ymn at e
        rw [if_pos h0] at e
        have : nI 0 = nI j := e
        rw [nI_eq (by omega) (by omega)] at this
        omega
def yvA (fm : Nat → Int32) (nm : Nat) (k ac : Int32) : Int32 := if yhs fm nm 3 k = 0 then 100000 else if ac = 0 then ypr fm (9 + 4 * k.toNatClampNeg) else ypr fm (7 + 4 * k.toNatClampNeg)
def ylm (fm : Nat → Int32) (nm w : Nat) : Int32 := if nI nm = 0 then -1 else ymn fm nm w
def ylA (n no : Nat) (fm : Nat → Int32) (nm : Nat) (fa pl ck which : Int32) : Int32 := if which = 0 then nI n else if which = 1 then nI no else if which = 2 then ylm fm nm 3 else if which = 3 then ylm fm nm 4 else if which = 4 then ylm fm nm 5 else if which = 5 then ylm fm nm 6 else if which = 6 then fa else if which = 7 then pl else if which = 8 then ck else -1
/-- where texture j of the map begins -/
def yta (fm : Nat → Int32) (V : Nat) : Nat → Nat
  | 0 => 7 + 4 * V
  | j + 1 => yta fm V j + (2 + 2 ^ ((fm (yta fm V j)).toNatClampNeg + (fm (yta fm V j + 1)).toNatClampNeg))
/-- the map's bytes are those of a map -/
def VM (fm : Nat → Int32) : Prop := (∀ j, j < yb fm 4 → ∃ a b : Nat, a ≤ 4 ∧ b ≤ 4 ∧ fm (yta fm (yb fm 3) j) = nI a ∧ fm (yta fm (yb fm 3) j + 1) = nI b) ∧ yta fm (yb fm 3) (yb fm 4) + 9 * yb fm 5 + 14 * yb fm 6 + 8 ≤ 8192
theorem yta_mono (fm : Nat → Int32) (V : Nat) : ∀ (d j : Nat), yta fm V j ≤ yta fm V (j + d)
  | 0, _ => Nat.le_refl _
  | d + 1, j => Nat.le_trans (yta_mono fm V d j) (Nat.le_add_right _ _)
theorem yta_le {fm : Nat → Int32} {V j k : Nat} (h : j ≤ k) : yta fm V j ≤ yta fm V k := by
  have := yta_mono fm V (k - j) j
  rwa [show j + (k - j) = k by omega] at this
theorem yta_lt {fm : Nat → Int32} {V j k : Nat} (h : j < k) : yta fm V j + 2 ≤ yta fm V k := by
  refine Nat.le_trans ?_ (yta_le (show j + 1 ≤ k from h))
  exact Nat.add_le_add_left (Nat.le_add_right 2 _) _
theorem sh_ab : ∀ a, a ≤ 4 → ∀ b, b ≤ 4 → (1 : Int32) <<< ((nI a + nI b) &&& 31) = nI (2 ^ (a + b)) := by
  intro a ha b hb
  have h : ∀ x : Fin 5, ∀ y : Fin 5, (1 : Int32) <<< ((nI x.val + nI y.val) &&& 31) = nI (2 ^ (x.val + y.val)) := by decide +kernel
  exact h ⟨a, by omega⟩ ⟨b, by omega⟩
theorem ta_step {fm : Nat → Int32} (hv : VM fm) {j : Nat} (hj : j < yb fm 4) : nI (yta fm (yb fm 3) j) + (2 + (1 : Int32) <<< ((fm (yta fm (yb fm 3) j) + fm (yta fm (yb fm 3) j + 1)) &&& 31)) = nI (yta fm (yb fm 3) (j + 1)) := by
  obtain ⟨a, b, ha, hb, ea, eb⟩ := hv.1 j hj
  show _ = nI (yta fm (yb fm 3) j + (2 + 2 ^ ((fm (yta fm (yb fm 3) j)).toNatClampNeg + (fm (yta fm (yb fm 3) j + 1)).toNatClampNeg)))
  rw [ea, eb, sh_ab a ha b hb, nI_clamp (by omega), nI_clamp (by omega), show (2 : Int32) = nI 2 from rfl, nI_add, nI_add]
theorem ymn_eq {fm : Nat → Int32} {nm w : Nat} (hm : ¬ nI nm = 0) : ymn fm nm w = nI (yb fm w) := by
  rw [ymn, if_neg hm, yb_eq]
theorem n9 (a k : Nat) : nI a + 9 * nI k = nI (a + 9 * k) := by
  rw [show (9 : Int32) = nI 9 from rfl, pk_mul, nI_add]
