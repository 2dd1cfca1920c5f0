/-! THE MAP, alike -/
theorem vf_ge {f : Nat → Int32} {n : Nat} (h : VF f n) : 15 ≤ n ∧ n ≤ 8192 := by
  obtain ⟨h1, h2, h3, -⟩ := h
  have a := yta_le (fm := f) (V := yb f 3) (Nat.zero_le (yb f 4))
  have e : yta f (yb f 3) 0 = 7 + 4 * yb f 3 := rfl
  have b := h1.2
  have h3 : n = yta f (yb f 3) (yb f 4) + 9 * yb f 5 + 14 * yb f 6 + 8 := h3
  omega
theorem yb_ag {f g : Nat → Int32} {n i : Nat} (hg : ∀ i, i < n → g i = f i) (hi : i < n) : yb g i = yb f i := by
  unfold yb
  rw [hg i hi]
theorem yta_ag {f g : Nat → Int32} {n V T : Nat} (hg : ∀ i, i < n → g i = f i) (hT : yta f V T ≤ n) : ∀ j, j ≤ T → yta g V j = yta f V j
  | 0, _ => rfl
  | j + 1, hj => by
    have ih := yta_ag hg hT j (by omega)
    have l := yta_lt (fm := f) (V := V) (show j < T by omega)
    show yta g V j + (2 + 2 ^ ((g (yta g V j)).toNatClampNeg + (g (yta g V j + 1)).toNatClampNeg)) = yta f V j + (2 + 2 ^ ((f (yta f V j)).toNatClampNeg + (f (yta f V j + 1)).toNatClampNeg))
    rw [ih, hg _ (by omega), hg _ (by omega)]
theorem VF_ag {f g : Nat → Int32} {n : Nat} (h : VF f n) (hg : ∀ i, i < n → g i = f i) : VF g n := by
  have hl := vf_ge h
  obtain ⟨h1, h2, h3, h4, h5, h6, h7⟩ := h
  have e3 := yb_ag hg (show 3 < n by omega)
  have e4 := yb_ag hg (show 4 < n by omega)
  have e5 := yb_ag hg (show 5 < n by omega)
  have e6 := yb_ag hg (show 6 < n by omega)
  have h3' : n = yta f (yb f 3) (yb f 4) + 9 * yb f 5 + 14 * yb f 6 + 8 := h3
  have hT : yta f (yb f 3) (yb f 4) ≤ n := by omega
  have et := yta_ag (V := yb f 3) hg hT
  refine ⟨⟨?_, ?_⟩, ?_, ?_, ?_, ?_, ?_, ?_⟩
  · intro j hj
    rw [e4] at hj
    rw [e3, et j (by omega)]
    have l := yta_lt (fm := f) (V := yb f 3) hj
    rw [hg _ (by omega), hg _ (by omega)]
    exact h1.1 j hj
  · rw [e3, e4, e5, e6, et _ (Nat.le_refl _)]
    exact h1.2
  · intro j hj P p1 p2
    rw [e4] at hj
    rw [e3, et j (by omega)] at p1
    rw [e3, et (j + 1) (by omega)] at p2
    have l := yta_le (fm := f) (V := yb f 3) (show j + 1 ≤ yb f 4 by omega)
    rw [yb_ag hg (by omega)]
    exact h2 j hj P p1 p2
  · show n = yta g (yb g 3) (yb g 4) + 9 * yb g 5 + 14 * yb g 6 + 8
    rw [e3, e4, e5, e6, et _ (Nat.le_refl _)]
    exact h3'
  · rw [e3]; exact h4
  · rw [e4]; exact h5
  · rw [e5]; exact h6
  · rw [e6]; exact h7
theorem tat_k (g : Nat → Int32) {k : Nat} (hk : k < 16) : tat g (nI k) = g k := by
  rw [tat, if_neg (nI_pos (by omega)), if_neg (show ¬ (16 : Int32) ≤ nI k from nI_ge (b := 16) hk (by omega)), nI_clamp (by omega)]
theorem rg_i {f : Nat → Int32} {n P : Nat} (hn : n ≤ 8192) (h : P < n) : rg f n (nI P) = nI (yb f P) := by
  rw [rg_in hn h, yb_eq]
/-- the textures of the map: their sizes -/
theorem tx_ab {f : Nat → Int32} {n j : Nat} (h : VF f n) (hj : j < yb f 4) : ∃ a b : Nat, a ≤ 4 ∧ b ≤ 4 ∧ f (yta f (yb f 3) j) = nI a ∧ f (yta f (yb f 3) j + 1) = nI b ∧ yb f (yta f (yb f 3) j) = a ∧ yb f (yta f (yb f 3) j + 1) = b ∧ yta f (yb f 3) (j + 1) = yta f (yb f 3) j + (2 + 2 ^ (a + b)) ∧ yta f (yb f 3) (j + 1) ≤ yT f ∧ yT f + 8 ≤ n := by
  have hl := vf_ge h
  obtain ⟨h1, h2, h3, -⟩ := h
  obtain ⟨a, b, ha, hb, ea, eb⟩ := h1.1 j hj
  have l := yta_le (fm := f) (V := yb f 3) (show j + 1 ≤ yb f 4 by omega)
  have y : ∀ (P c : Nat), c ≤ 4 → f P = nI c → yb f P = c := fun P c hc e => by
    rw [yb, e, pk_andN (by omega) 8 (by decide), nI_clamp (by omega)]
    omega
  refine ⟨a, b, ha, hb, ea, eb, y _ a ha ea, y _ b hb eb, ?_, l, by omega⟩
  show yta f (yb f 3) j + (2 + 2 ^ ((f (yta f (yb f 3) j)).toNatClampNeg + (f (yta f (yb f 3) j + 1)).toNatClampNeg)) = _
  rw [ea, eb, nI_clamp (by omega), nI_clamp (by omega)]
/-- width and height of a texture, the class's way -/
theorem wh_i {f g : Nat → Int32} {n j a b : Nat} (hn : n ≤ 8192) (hj : j < 16) {P : Nat} (eg : g j = nI P) (hP : P + 1 < n) (ea : yb f P = a) (eb : yb f (P + 1) = b) (ha : a ≤ 4) (hb : b ≤ 4) : mwd f n g (nI j) = nI (2 ^ a) ∧ mht f n g (nI j) = nI (2 ^ b) := by
  constructor
  · rw [mwd, tat_k g hj, eg, rg_i hn (by omega), ea, sh1 a ha]
  · rw [mht, tat_k g hj, eg, nI_1, rg_i hn (by omega), eb, sh1 b hb]
theorem tk_val {f : Nat → Int32} {n : Nat} (h : VF f n) : ∀ (d k : Nat) (g : Nat → Int32), k ≤ yb f 4 → yb f 4 ≤ k + d → (∀ i, i < k → g i = nI (yta f (yb f 3) i)) → (tkl f n (nI (yb f 4)) d k (nI (yta f (yb f 3) k), g)).1 = nI (yT f) ∧ ∀ i, i < yb f 4 → (tkl f n (nI (yb f 4)) d k (nI (yta f (yb f 3) k), g)).2 i = nI (yta f (yb f 3) i)
  | 0, k, g, h1, h2, hg => by
    have e : k = yb f 4 := by omega
    rw [tkl]
    refine ⟨?_, ?_⟩
    · show nI (yta f (yb f 3) k) = _
      rw [e]
    · intro i hi
      exact hg i (by omega)
  | d + 1, k, g, h1, h2, hg => by
    have hl := vf_ge h
    have h16 : yb f 4 ≤ 16 := h.2.2.2.2.1
    rw [tkl]
    by_cases e : k = yb f 4
    · rw [if_pos (nI_le (by omega) (by omega))]
      refine ⟨?_, ?_⟩
      · show nI (yta f (yb f 3) k) = _
        rw [e]
      · intro i hi
        exact hg i (by omega)
    · rw [if_neg (nI_ge (by omega) (by omega))]
      obtain ⟨a, b, ha, hb, ea, eb, ya, yb', es, l1, l2⟩ := tx_ab h (show k < yb f 4 by omega)
      have lk : yta f (yb f 3) k + 2 ≤ yT f := yta_lt (show k < yb f 4 by omega)
      have w := wh_i (f := f) (g := upd g k (nI (yta f (yb f 3) k))) (n := n) hl.2 (show k < 16 by omega) pk_us (by omega) ya yb' ha hb
      have eS : tkS f n k (nI (yta f (yb f 3) k), g) = (nI (yta f (yb f 3) (k + 1)), upd g k (nI (yta f (yb f 3) k))) := by
        rw [tkS]
        dsimp only
        rw [w.1, w.2, pk_mul, ← Nat.pow_add, show (2 : Int32) = nI 2 from rfl, nI_add, nI_add, es]
      rw [eS]
      refine tk_val h d (k + 1) _ (by omega) (by omega) (fun i hi => ?_)
      by_cases q : i = k
      · subst q
        exact pk_us
      · rw [pk_un q]
        exact hg i (by omega)
/-- the class's map and the reference's -/
def MT (fm : Nat → Int32) (nm : Nat) (pr mv mx ms mw ma mb mc : Int32) (g : Nat → Int32) : Prop := (nm = 0 ∧ pr = 0 ∧ mv = 0 ∧ mx = 0 ∧ ms = 0 ∧ mw = 0) ∨ (pr = 1 ∧ VF fm nm ∧ mv = nI (yb fm 3) ∧ mx = nI (yb fm 4) ∧ ms = nI (yb fm 5) ∧ mw = nI (yb fm 6) ∧ ma = nI (yT fm) ∧ mb = nI (yT fm + 9 * yb fm 5) ∧ mc = nI (yT fm + 9 * yb fm 5 + 14 * yb fm 6) ∧ ∀ i, i < yb fm 4 → g i = nI (yta fm (yb fm 3) i))
theorem MT_vm {fm : Nat → Int32} {nm : Nat} {pr mv mx ms mw ma mb mc : Int32} {g : Nat → Int32} (h : MT fm nm pr mv mx ms mw ma mb mc g) : nm = 0 ∨ VM fm := by
  rcases h with h | h
  · exact Or.inl h.1
  · exact Or.inr h.2.1.1
theorem cpy_ag (f fm : Nat → Int32) (n : Nat) : ∀ i, i < n → va_cpy f fm 0 0 n i = f i := fun i hi => by
  rw [pk_cpy_in (by omega) (by omega)]
  congr 1
  omega
/-- a map is taken -/
theorem MT_take {f fm g : Nat → Int32} {n : Nat} (h : VF f n) : MT (va_cpy f fm 0 0 n) n 1 (rg (va_cpy f fm 0 0 n) n 3) (rg (va_cpy f fm 0 0 n) n 4) (rg (va_cpy f fm 0 0 n) n 5) (rg (va_cpy f fm 0 0 n) n 6) (tkl (va_cpy f fm 0 0 n) n (rg (va_cpy f fm 0 0 n) n 4) 16 0 (7 + 4 * (rg (va_cpy f fm 0 0 n) n 3), g)).1 ((tkl (va_cpy f fm 0 0 n) n (rg (va_cpy f fm 0 0 n) n 4) 16 0 (7 + 4 * (rg (va_cpy f fm 0 0 n) n 3), g)).1 + 9 * (rg (va_cpy f fm 0 0 n) n 5)) (((tkl (va_cpy f fm 0 0 n) n (rg (va_cpy f fm 0 0 n) n 4) 16 0 (7 + 4 * (rg (va_cpy f fm 0 0 n) n 3), g)).1 + 9 * (rg (va_cpy f fm 0 0 n) n 5)) + 14 * (rg (va_cpy f fm 0 0 n) n 6)) (tkl (va_cpy f fm 0 0 n) n (rg (va_cpy f fm 0 0 n) n 4) 16 0 (7 + 4 * (rg (va_cpy f fm 0 0 n) n 3), g)).2 := by
  have h' := VF_ag h (cpy_ag f fm n)
  generalize va_cpy f fm 0 0 n = F at *
  have hl := vf_ge h'
  have e3 : rg F n 3 = nI (yb F 3) := rg_i (P := 3) hl.2 (by omega)
  have e4 : rg F n 4 = nI (yb F 4) := rg_i (P := 4) hl.2 (by omega)
  have e5 : rg F n 5 = nI (yb F 5) := rg_i (P := 5) hl.2 (by omega)
  have e6 : rg F n 6 = nI (yb F 6) := rg_i (P := 6) hl.2 (by omega)
  rw [e3, e4, e5, e6, nx7]
  have k := tk_val h' 16 0 g (by omega) (by have := h'.2.2.2.2.1; omega) (fun i hi => by omega)
  have e0 : yta F (yb F 3) 0 = 7 + 4 * yb F 3 := rfl
  rw [e0] at k
  generalize tkl F n (nI (yb F 4)) 16 0 (nI (7 + 4 * yb F 3), g) = z at *
  rw [k.1, n9, n14]
  exact Or.inr ⟨rfl, h', rfl, rfl, rfl, rfl, rfl, rfl, rfl, k.2⟩
