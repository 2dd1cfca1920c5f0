/-! LOOKS INTO THE MAP, alike -/
theorem rsg_i {f : Nat → Int32} {n P : Nat} (hn : n ≤ 8192) (h : P + 1 < n) : rsg f n (nI P) = ypr f P := by
  rw [rsg, nI_1, rg_in hn (by omega), rg_in hn h, ypr, Int32.mul_comm]
/-- no such thing: both sides -/
theorem hs_0 {fm : Nat → Int32} {nm w : Nat} (h : nm = 0) (k : Int32) : yhs fm nm w k = 0 := by
  subst h
  rw [yhs]
  split
  · rfl
  · rename_i q
    rw [ymn, if_pos (show nI 0 = 0 from rfl), if_pos (Int32.not_lt.mp q)]
theorem hs_i {fm : Nat → Int32} {nm w : Nat} (h : 15 ≤ nm) (hm : nm ≤ 8192) (k : Int32) : yhs fm nm w k = if k < 0 then 0 else if nI (yb fm w) ≤ k then 0 else 1 := by
  rw [yhs, ymn_eq (fun q => absurd ((nI_eq (b := 0) (by omega) (by omega)).mp q) (by omega))]
theorem eq_vx {fm : Nat → Int32} {nm : Nat} {pr mv mx ms mw ma mb mc : Int32} {g : Nat → Int32} (h : MT fm nm pr mv mx ms mw ma mb mc g) (k ac : Int32) : vxA fm nm mv k ac = yvA fm nm k ac := by
  unfold vxA yvA
  rcases h with ⟨h1, h2, h3, -⟩ | ⟨h1, h2, h3, -⟩
  · rw [hs_0 h1, if_pos rfl, h3]
    by_cases q : k < 0
    · rw [if_pos q]
    · rw [if_neg q, if_neg q]
  · have hl := vf_ge h2
    rw [hs_i hl.1 hl.2, h3]
    by_cases q : k < 0
    · rw [if_pos q, if_pos q, if_pos rfl]
    · rw [if_neg q, if_neg q]
      obtain ⟨K, hK, rfl⟩ := nI_of q
      have hy := yb_lt fm 3
      rw [nI_clamp hK]
      by_cases q2 : nI K < nI (yb fm 3)
      · rw [if_pos q2, if_neg (Int32.not_le.mpr q2), if_neg (show ¬ (1 : Int32) = 0 by decide)]
        rw [nI_ltI hK (by omega)] at q2
        have a := yta_le (fm := fm) (V := yb fm 3) (Nat.zero_le (yb fm 4))
        have e : yta fm (yb fm 3) 0 = 7 + 4 * yb fm 3 := rfl
        have b : nm = yta fm (yb fm 3) (yb fm 4) + 9 * yb fm 5 + 14 * yb fm 6 + 8 := h2.2.2.1
        by_cases q3 : ac = 0
        · rw [if_pos q3, if_pos q3, nx7, show (2 : Int32) = nI 2 from rfl, nI_add, rsg_i hl.2 (by omega)]
          congr 1
          omega
        · rw [if_neg q3, if_neg q3, nx7, Int32.add_zero, rsg_i hl.2 (by omega)]
      · rw [if_neg q2, if_pos (Int32.not_lt.mp q2), if_pos rfl]
theorem eq_sc {fm : Nat → Int32} {nm : Nat} {pr mv mx ms mw ma mb mc : Int32} {g : Nat → Int32} (h : MT fm nm pr mv mx ms mw ma mb mc g) (k what : Int32) : scA fm nm ms ma k what = ysA fm nm k what := by
  unfold scA ysA
  rcases h with ⟨h1, h2, -, -, h3, -⟩ | ⟨h1, h2, -, -, h3, -, h4, -⟩
  · rw [hs_0 h1, if_pos rfl, h3]
    by_cases q : k < 0
    · rw [if_pos q]
    · rw [if_neg q, if_pos (Int32.not_lt.mp q)]
  · have hl := vf_ge h2
    rw [hs_i hl.1 hl.2, h3, h4]
    by_cases q : k < 0
    · rw [if_pos q, if_pos q, if_pos rfl]
    · rw [if_neg q, if_neg q]
      obtain ⟨K, hK, rfl⟩ := nI_of q
      have hy := yb_lt fm 5
      rw [nI_clamp hK]
      by_cases q2 : nI (yb fm 5) ≤ nI K
      · rw [if_pos q2, if_pos q2, if_pos rfl]
      · rw [if_neg q2, if_neg q2, if_neg (show ¬ (1 : Int32) = 0 by decide)]
        rw [nI_leI (by omega) hK] at q2
        have b : nm = yT fm + 9 * yb fm 5 + 14 * yb fm 6 + 8 := h2.2.2.1
        by_cases q3 : what < 0
        · rw [if_pos q3, if_pos q3]
        · rw [if_neg q3, if_neg q3]
          by_cases q4 : what ≤ 6
          · rw [if_pos q4, if_pos q4]
            obtain ⟨u, rfl, hu⟩ := wh_u (m := 6) (by omega) q3 q4
            rw [nI_clamp (by omega), n9]
            by_cases q5 : (2 : Int32) ≤ nI u
            · rw [if_pos q5, if_pos q5, n2b, rg_in hl.2 (by omega)]
            · rw [if_neg q5, if_neg q5, n2, rsg_i hl.2 (by
                have q5 : ¬ nI 2 ≤ nI u := q5
                rw [nI_leI (by omega) (by omega)] at q5
                omega)]
          · rw [if_neg q4, if_neg q4]
theorem eq_st {fm : Nat → Int32} {nm : Nat} {pr mv mx ms mw ma mb mc : Int32} {g : Nat → Int32} (h : MT fm nm pr mv mx ms mw ma mb mc g) (what : Int32) : stA fm nm pr mc what = yoA fm nm what := by
  unfold stA yoA
  rcases h with ⟨h1, h2, -⟩ | ⟨h1, h2, -, -, -, -, -, -, h4, -⟩
  · rw [if_pos h2, h1, if_pos (show nI 0 = 0 from rfl)]
  · have hl := vf_ge h2
    have h5 := h2.2.2.2.2.2.1
    have h6 := h2.2.2.2.2.2.2
    have hz : ¬ nI nm = 0 := fun q => absurd ((nI_eq (b := 0) (by omega) (by omega)).mp q) (by omega)
    rw [h1, h4, if_neg (show ¬ (1 : Int32) = 0 by decide), if_neg hz]
    have b : nm = yT fm + 9 * yb fm 5 + 14 * yb fm 6 + 8 := h2.2.2.1
    by_cases q3 : what < 0
    · rw [if_pos q3, if_pos q3]
    · rw [if_neg q3, if_neg q3]
      by_cases q4 : what ≤ 3
      · rw [if_pos q4, if_pos q4]
        obtain ⟨u, rfl, hu⟩ := wh_u (m := 3) (by omega) q3 q4
        rw [nI_clamp (by omega)]
        by_cases q5 : (2 : Int32) ≤ nI u
        · rw [if_pos q5, if_pos q5, n2b, rg_in hl.2 (by omega)]
        · rw [if_neg q5, if_neg q5, n2, rsg_i hl.2 (by
            have q5 : ¬ nI 2 ≤ nI u := q5
            rw [nI_leI (by omega) (by omega)] at q5
            omega)]
      · rw [if_neg q4, if_neg q4]
theorem eq_wl {fm : Nat → Int32} {nm : Nat} {pr mv mx ms mw ma mb mc : Int32} {g : Nat → Int32} (h : MT fm nm pr mv mx ms mw ma mb mc g) (k what : Int32) : wlA fm nm mw mb k what = ywA fm nm k what := by
  unfold wlA ywA
  rcases h with ⟨h1, h2, -, -, -, h3⟩ | ⟨h1, h2, -, -, -, h3, -, h4, -⟩
  · rw [hs_0 h1, if_pos rfl, h3]
    by_cases q : k < 0
    · rw [if_pos q]
    · rw [if_neg q, if_pos (Int32.not_lt.mp q)]
  · have hl := vf_ge h2
    rw [hs_i hl.1 hl.2, h3, h4]
    by_cases q : k < 0
    · rw [if_pos q, if_pos q, if_pos rfl]
    · rw [if_neg q, if_neg q]
      obtain ⟨K, hK, rfl⟩ := nI_of q
      have hy := yb_lt fm 6
      rw [nI_clamp hK]
      by_cases q2 : nI (yb fm 6) ≤ nI K
      · rw [if_pos q2, if_pos q2, if_pos rfl]
      · rw [if_neg q2, if_neg q2, if_neg (show ¬ (1 : Int32) = 0 by decide)]
        rw [nI_leI (by omega) hK] at q2
        have b : nm = yT fm + 9 * yb fm 5 + 14 * yb fm 6 + 8 := h2.2.2.1
        by_cases q3 : what < 0
        · rw [if_pos q3, if_pos q3]
        · rw [if_neg q3, if_neg q3]
          by_cases q4 : what ≤ 14
          · rw [if_pos q4, if_pos q4]
            obtain ⟨u, rfl, hu⟩ := wh_u (m := 14) (by omega) q3 q4
            have hb := yb_lt fm (yT fm + 9 * yb fm 5 + 14 * K + 10)
            rw [nI_clamp (by omega), n14, n10, rg_i hl.2 (by omega), ← yb_eq]
            by_cases q5 : nI u = 10
            · rw [if_pos q5, if_pos q5, pk_shrN (by omega) _ 4 (by decide)]
              exact (pk_div (a := yb fm (yT fm + 9 * yb fm 5 + 14 * K + 10)) (d := 16) (by omega) (by omega) (by omega)).symm
            · rw [if_neg q5, if_neg q5]
              by_cases q6 : nI u = 11
              · rw [if_pos q6, if_pos q6, pk_andN (by omega) 4 (by decide)]
                exact (pk_rem (a := yb fm (yT fm + 9 * yb fm 5 + 14 * K + 10)) (d := 16) (by omega) (by omega) (by omega)).symm
              · rw [if_neg q6, if_neg q6]
                have q5 : ¬ nI u = nI 10 := q5
                have q6 : ¬ nI u = nI 11 := q6
                rw [nI_eq (by omega) (by omega)] at q5 q6
                by_cases q7 : (10 : Int32) ≤ nI u
                · have q7' : nI 10 ≤ nI u := q7
                  rw [nI_leI (by omega) (by omega)] at q7'
                  have q8 : ¬ nI u ≤ (11 : Int32) := nI_ge (a := 11) (by omega) (by omega)
                  rw [if_pos q7, if_neg q8, nI_add, show (1 : Int32) = nI 1 from rfl, pk_sub (by omega), rg_in hl.2 (by omega)]
                  congr 2
                  omega
                · have q7' : ¬ nI 10 ≤ nI u := q7
                  rw [nI_leI (by omega) (by omega)] at q7'
                  have q8 : nI u ≤ (11 : Int32) := nI_le (b := 11) (by omega) (by omega)
                  rw [if_neg q7, if_pos q8, nI_add, rg_in hl.2 (by omega)]
          · rw [if_neg q4, if_neg q4]
theorem eq_lk {fm : Nat → Int32} {nm n no : Nat} {pr mv mx ms mw ma mb mc : Int32} {g : Nat → Int32} (h : MT fm nm pr mv mx ms mw ma mb mc g) (fa fp fw which : Int32) : lkA n no pr mv mx ms mw fa fp fw which = ylA n no fm nm fa fp fw which := by
  have e : mcn pr mv = ylm fm nm 3 ∧ mcn pr mx = ylm fm nm 4 ∧ mcn pr ms = ylm fm nm 5 ∧ mcn pr mw = ylm fm nm 6 := by
    unfold mcn ylm
    rcases h with ⟨h1, h2, -⟩ | ⟨h1, h2, h3, h4, h5, h6, -⟩
    · rw [if_pos h2, if_pos h2, if_pos h2, if_pos h2, h1]
      exact ⟨rfl, rfl, rfl, rfl⟩
    · have hl := vf_ge h2
      have hz : ¬ nI nm = 0 := fun q => absurd ((nI_eq (b := 0) (by omega) (by omega)).mp q) (by omega)
      have n1 : ¬ pr = 0 := by rw [h1]; decide
      rw [if_neg n1, if_neg n1, if_neg n1, if_neg n1, if_neg hz, if_neg hz, if_neg hz, if_neg hz, ymn_eq hz, ymn_eq hz, ymn_eq hz, ymn_eq hz]
      exact ⟨h3, h4, h5, h6⟩
  unfold lkA ylA
  rw [e.1, e.2.1, e.2.2.1, e.2.2.2]
theorem MT_pr {fm : Nat → Int32} {nm : Nat} {pr mv mx ms mw ma mb mc : Int32} {g : Nat → Int32} (h : MT fm nm pr mv mx ms mw ma mb mc g) : pr = 0 ↔ nI nm = 0 := by
  rcases h with ⟨h1, h2, -⟩ | ⟨h1, h2, -⟩
  · rw [h1, h2]
    exact ⟨fun _ => rfl, fun _ => rfl⟩
  · have hl := vf_ge h2
    rw [h1]
    exact ⟨fun q => absurd q (by decide), fun q => absurd ((nI_eq (b := 0) (by omega) (by omega)).mp q) (by omega)⟩
/-- a texture -/
theorem eq_tx {fm : Nat → Int32} {nm : Nat} {pr mv mx ms mw ma mb mc : Int32} {g : Nat → Int32} (h : MT fm nm pr mv mx ms mw ma mb mc g) (hf : sb_Fit fm) (k what : Int32) : txA fm nm g mx k what = yxA fm nm k what := by
  unfold txA yxA
  rcases h with ⟨h1, h2, -, h3, -⟩ | ⟨h1, h2, -, h3, -, -, -, -, -, h4⟩
  · rw [hs_0 h1, if_pos rfl, h3]
    by_cases q : k < 0
    · rw [if_pos q]
    · rw [if_neg q, if_neg q]
  · have hl := vf_ge h2
    rw [hs_i hl.1 hl.2, h3]
    by_cases q : k < 0
    · rw [if_pos q, if_pos q, if_pos rfl]
    · rw [if_neg q, if_neg q]
      obtain ⟨K, hK, rfl⟩ := nI_of q
      have hy := yb_lt fm 4
      have h16 : yb fm 4 ≤ 16 := h2.2.2.2.2.1
      rw [nI_clamp hK]
      by_cases q2 : nI K < nI (yb fm 4)
      · rw [if_pos q2, if_neg (Int32.not_le.mpr q2), if_neg (show ¬ (1 : Int32) = 0 by decide)]
        rw [nI_ltI hK (by omega)] at q2
        obtain ⟨a, b, ha, hb, ea, eb, ya, yb', es, l1, l2⟩ := tx_ab h2 q2
        have lk : yta fm (yb fm 3) K + 2 ≤ yT fm := yta_lt q2
        have w := wh_i (f := fm) (g := g) (n := nm) hl.2 (show K < 16 by omega) (h4 K q2) (by omega) ya yb' ha hb
        have eW : yW fm K = nI (2 ^ a) := by rw [yW, ea, sh1 a ha]
        have eH : yH fm K = nI (2 ^ b) := by rw [yH, eb, sh1 b hb]
        have pa : 2 ^ a ≤ 16 := Nat.le_trans (Nat.pow_le_pow_right (by omega) ha) (by decide)
        have pb : 2 ^ b ≤ 16 := Nat.le_trans (Nat.pow_le_pow_right (by omega) hb) (by decide)
        rw [w.1, w.2, eW, eH]
        by_cases q3 : what < 0
        · have n0 : ¬ what = 0 := fun x => by rw [x] at q3; exact absurd q3 (by decide)
          have n1 : ¬ what = 1 := fun x => by rw [x] at q3; exact absurd q3 (by decide)
          rw [if_neg n0, if_neg n1, if_neg (Int32.not_le.mpr q3), if_neg (Int32.not_le.mpr q3)]
        · rw [if_pos (Int32.not_lt.mp q3)]
          obtain ⟨u, hu, rfl⟩ := nI_of q3
          by_cases c0 : u = 0
          · subst c0
            rw [if_pos (show nI 0 = 0 from rfl), if_neg (show ¬ (2 : Int32) ≤ nI 0 by decide), if_pos (show nI 0 = 0 from rfl), if_pos (show (0 : Int32) ≤ nI 0 by decide)]
          · have n0 : ¬ nI u = 0 := fun x => c0 ((nI_eq (b := 0) hu (by omega)).mp x)
            by_cases c1 : u = 1
            · subst c1
              rw [if_neg n0, if_pos (show nI 1 = 1 from rfl), if_neg (show ¬ (2 : Int32) ≤ nI 1 by decide), if_neg n0, if_pos (show (0 : Int32) ≤ nI 1 by decide)]
            · have n1 : ¬ nI u = 1 := fun x => c1 ((nI_eq (b := 1) hu (by omega)).mp x)
              have g2 : (2 : Int32) ≤ nI u := nI_le (a := 2) (by omega) hu
              rw [if_neg n0, if_neg n1, if_pos (Int32.not_lt.mp q3), if_pos g2]
              have e1 : nI u - 2 = nI (u - 2) := pk_sub (b := 2) (by omega)
              have er : yrw (nI u) = nI ((u - 2) / 16) := by
                rw [yrw, e1]
                exact pk_div (a := u - 2) (d := 16) (by omega) (by decide) (by decide)
              have ec : ycl (nI u) = nI ((u - 2) % 16) := by
                rw [ycl, e1]
                exact pk_rem (a := u - 2) (d := 16) (by omega) (by decide) (by decide)
              have sr : nI (u - 2) >>> ((4 : Int32) &&& 31) = nI ((u - 2) / 16) := pk_shrN (by omega) _ 4 (by decide)
              have sc : nI (u - 2) &&& 15 = nI ((u - 2) % 16) := pk_andN (by omega) 4 (by decide)
              rw [e1, er, ec, sr, sc]
              unfold mtx
              rw [w.1, w.2, tat_k g (show K < 16 by omega), h4 K q2, if_neg (nI_pos (by omega)), if_neg (nI_pos (by omega))]
              by_cases d1 : nI (2 ^ b) ≤ nI ((u - 2) / 16)
              · rw [if_pos d1, if_pos d1]
              · rw [if_neg d1, if_neg d1]
                by_cases d2 : nI ((u - 2) % 16) < nI (2 ^ a)
                · rw [if_pos d2, if_neg (Int32.not_le.mpr d2)]
                  rw [nI_leI (by omega) (by omega)] at d1
                  rw [nI_ltI (by omega) (by omega)] at d2
                  rw [show (2 : Int32) = nI 2 from rfl, nI_add, pk_mul, nI_add, nI_add]
                  have hb1 : 2 ^ a * ((u - 2) / 16) + (u - 2) % 16 < 2 ^ (a + b) := by
                    rw [Nat.pow_add]
                    calc 2 ^ a * ((u - 2) / 16) + (u - 2) % 16 < 2 ^ a * ((u - 2) / 16) + 2 ^ a := by omega
                      _ = 2 ^ a * ((u - 2) / 16 + 1) := by rw [Nat.mul_add, Nat.mul_one]
                      _ ≤ 2 ^ a * 2 ^ b := Nat.mul_le_mul_left _ (by omega)
                  have tx := h2.2.1 K q2 (yta fm (yb fm 3) K + 2 + 2 ^ a * ((u - 2) / 16) + (u - 2) % 16) (by omega) (by rw [es]; omega)
                  have hP : yta fm (yb fm 3) K + 2 + 2 ^ a * ((u - 2) / 16) + (u - 2) % 16 < nm := by omega
                  rw [rg_i hl.2 hP, nI_clamp (by omega)]
                  exact (fit_sm (hf _) (show yb fm (yta fm (yb fm 3) K + 2 + 2 ^ a * ((u - 2) / 16) + (u - 2) % 16) < 128 by omega) (yb_eq fm _).symm).symm
                · rw [if_neg d2, if_pos (Int32.not_lt.mp d2)]
      · rw [if_neg q2, if_pos (Int32.not_lt.mp q2), if_pos rfl]
