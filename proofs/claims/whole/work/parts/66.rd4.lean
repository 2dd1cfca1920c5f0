/-! THE READING: where its parts lie -/
theorem fit_sm {v : Int32} (h : fits .byte (.int v) = true) {a : Nat} (ha : a < 128) (e : v &&& 255 = nI a) : v = nI a := by
  simp only [fits, Bool.and_eq_true, decide_eq_true_eq] at h
  obtain ⟨h1, h2⟩ := h
  rw [Int32.le_iff_toInt_le] at h1 h2
  rw [show (-128 : Int32).toInt = -128 from by decide] at h1
  rw [show (127 : Int32).toInt = 127 from by decide] at h2
  rw [pk_and v 8 (by decide), nI_eq (by omega) (by omega)] at e
  have e1 : v.toInt = v.toBitVec.toInt := rfl
  rw [e1, BitVec.toInt_eq_toNat_cond] at h1 h2
  have lt : v.toBitVec.toNat < 2 ^ 32 := v.toBitVec.isLt
  apply Int32.toInt_inj.mp
  rw [nI_toInt (by omega), e1, BitVec.toInt_eq_toNat_cond]
  split at h1 <;> split at h2 <;> split <;> omega
theorem adv_ml {f : Nat → Int32} {n : Nat} : ∀ (d k : Nat) (z : S5), (yml f n d k z).2.1 = 0 → z.2.1 = 0 ∧ (yml f n d k z).1 = z.1 + nI d
  | 0, _, z, h => ⟨h, (Int32.add_zero z.1).symm⟩
  | d + 1, k, z, h => by
    rw [yml] at h ⊢
    by_cases h0 : z.2.1 = 0
    · rw [if_pos h0] at h ⊢
      have a := adv_ml d (k + 1) (yms f n k z) h
      have c := adv_ms a.1
      refine ⟨c.1, a.2.trans ?_⟩
      rw [c.2, Int32.add_assoc, Int32.add_comm 1 (nI d), nI_1]
    · rw [if_neg h0] at h
      exact absurd h h0
theorem adv_xi {f : Nat → Int32} {n : Nat} : ∀ (d : Nat) (z : S5), (yxi f n d z).2.1 = 0 → z.2.1 = 0 ∧ (yxi f n d z).1 = z.1 + nI d
  | 0, z, h => ⟨h, (Int32.add_zero z.1).symm⟩
  | d + 1, z, h => by
    rw [yxi] at h ⊢
    by_cases h0 : z.2.1 = 0
    · rw [if_pos h0] at h ⊢
      have a := adv_xi d (ynx f n z 0 15).2 h
      have c := adv_nx a.1
      refine ⟨c.1, a.2.trans ?_⟩
      rw [c.2, Int32.add_assoc, Int32.add_comm 1 (nI d), nI_1]
    · rw [if_neg h0] at h
      exact absurd h h0
theorem xi_val {f : Nat → Int32} {n : Nat} : ∀ (d P : Nat) (z : S5), P + d < 2 ^ 31 → z.1 = nI P → (yxi f n d z).2.1 = 0 → ∀ i, P ≤ i → i < P + d → yb f i ≤ 15
  | 0, P, z, _, _, _ => fun i h1 h2 => by omega
  | d + 1, P, z, hP, e, h => by
    rw [yxi] at h
    by_cases h0 : z.2.1 = 0
    · rw [if_pos h0] at h
      have v := nx_val (adv_xi d _ h).1 e (by omega)
      have ih := xi_val d (P + 1) (ynx f n z 0 15).2 (by omega) v.2.2.2 h
      intro i h1 h2
      rcases Nat.eq_or_lt_of_le h1 with w | w
      · rw [← w]
        have l := yb_lt f P
        exact (nI_leI (b := 15) (by omega) (by omega)).mp v.2.2.1
      · exact ih i w (by omega)
    · rw [if_neg h0] at h
      exact absurd h h0
theorem yx1_e (f : Nat → Int32) (n : Nat) (z : S5) : yx1 f n z = ynx f n z 0 4 := rfl
theorem yx2_e (f : Nat → Int32) (n : Nat) (z : S5) : yx2 f n z = ynx f n (yx1 f n z).2 0 4 := rfl
theorem xt_val {f : Nat → Int32} {n P : Nat} {z : S5} (h : (yxt f n z).2.1 = 0) (e : z.1 = nI P) (hP : P < 2 ^ 30) : z.2.1 = 0 ∧ yb f P ≤ 4 ∧ yb f (P + 1) ≤ 4 ∧ (yxt f n z).1 = nI (P + (2 + 2 ^ (yb f P + yb f (P + 1)))) ∧ ∀ i, P + 2 ≤ i → i < P + (2 + 2 ^ (yb f P + yb f (P + 1))) → yb f i ≤ 15 := by
  rw [yxt] at h ⊢
  have a := adv_xi _ _ h
  have h2 := a.1
  rw [yx2_e] at h2
  have h1 := (adv_nx h2).1
  rw [yx1_e] at h1
  have v1 := nx_val h1 e (by omega)
  rw [← yx1_e] at v1
  have v2 := nx_val h2 v1.2.2.2 (by omega)
  rw [← yx2_e] at v2
  have l1 := yb_lt f P
  have l2 := yb_lt f (P + 1)
  have b1 : yb f P ≤ 4 := (nI_leI (b := 4) (by omega) (by omega)).mp v1.2.2.1
  have b2 : yb f (P + 1) ≤ 4 := (nI_leI (b := 4) (by omega) (by omega)).mp v2.2.2.1
  refine ⟨(adv_nx h1).1, b1, b2, ?_⟩
  have eB : yxB f n z = nI (2 ^ (yb f P + yb f (P + 1))) := by
    rw [yxB, v1.1, v2.1, sh_ab _ b1 _ b2]
  have lt : 2 ^ (yb f P + yb f (P + 1)) ≤ 256 := Nat.le_trans (Nat.pow_le_pow_right (by omega) (show yb f P + yb f (P + 1) ≤ 8 by omega)) (by decide)
  constructor
  · rw [a.2, eB, v2.2.2.2, nI_clamp (by omega), nI_add]
    exact congrArg nI (by omega)
  · rw [eB, nI_clamp (by omega)] at h
    intro i h8 h9
    exact xi_val _ (P + 1 + 1) _ (by omega) v2.2.2.2 h i (by omega) (by omega)
theorem ts_val {f : Nat → Int32} {n V : Nat} (hn : n ≤ 8192) (hf : sb_Fit f) : ∀ (d j : Nat) (z : S5), ok5 n z → z.1 = nI (yta f V j) → yta f V j ≤ n → (yts f n d z).2.1 = 0 → z.2.1 = 0 ∧ (yts f n d z).1 = nI (yta f V (j + d)) ∧ yta f V (j + d) ≤ n ∧ ∀ i, j ≤ i → i < j + d → (∃ a b : Nat, a ≤ 4 ∧ b ≤ 4 ∧ f (yta f V i) = nI a ∧ f (yta f V i + 1) = nI b) ∧ ∀ P, yta f V i + 2 ≤ P → P < yta f V (i + 1) → yb f P ≤ 15
  | 0, j, z, _, e, hl, h => ⟨h, e, hl, fun i h1 h2 => by omega⟩
  | d + 1, j, z, ho, e, hl, h => by
    rw [yts] at h ⊢
    by_cases h0 : z.2.1 = 0
    · rw [if_pos h0] at h ⊢
      have hx : (yxt f n z).2.1 = 0 := by
        by_cases w : (yxt f n z).2.1 = 0
        · exact w
        · rw [yts_flt w] at h
          exact h
      have k := xt_val hx e (by omega)
      have f1 := fit_sm (hf (yta f V j)) (show yb f (yta f V j) < 128 by omega) (yb_eq f _).symm
      have f2 := fit_sm (hf (yta f V j + 1)) (show yb f (yta f V j + 1) < 128 by omega) (yb_eq f _).symm
      have es : yta f V (j + 1) = yta f V j + (2 + 2 ^ (yb f (yta f V j) + yb f (yta f V j + 1))) := by
        show yta f V j + (2 + 2 ^ ((f (yta f V j)).toNatClampNeg + (f (yta f V j + 1)).toNatClampNeg)) = _
        rw [f1, f2, nI_clamp (by omega), nI_clamp (by omega)]
      have lt : 2 ^ (yb f (yta f V j) + yb f (yta f V j + 1)) ≤ 256 := Nat.le_trans (Nat.pow_le_pow_right (by omega) (show yb f (yta f V j) + yb f (yta f V j + 1) ≤ 8 by omega)) (by decide)
      have ex := k.2.2.2.1
      have tx := k.2.2.2.2
      rw [← es] at tx
      rw [← es] at ex
      have ho' := ok5_xt (f := f) ho
      have hl' := y_P hn ho' ex (by rw [es]; omega)
      have ih := ts_val (V := V) hn hf d (j + 1) (yxt f n z) ho' ex hl' h
      refine ⟨h0, ?_, ?_, ?_⟩
      · rw [ih.2.1]
        exact congrArg (fun x => nI (yta f V x)) (by omega)
      · have := ih.2.2.1
        rw [show j + 1 + d = j + (d + 1) by omega] at this
        exact this
      · intro i h1 h2
        rcases Nat.eq_or_lt_of_le h1 with w | w
        · rw [← w]
          exact ⟨⟨_, _, k.2.1, k.2.2.1, f1, f2⟩, tx⟩
        · exact ih.2.2.2 i w (by omega)
    · rw [if_neg h0] at h
      exact absurd h h0
theorem ys1_e (f : Nat → Int32) (n : Nat) (z : S5) : ys1 f n z = ytw f n z (-1024) 1024 := rfl
theorem ys2_e (f : Nat → Int32) (n : Nat) (z : S5) : ys2 f n z = ytw f n (ys1 f n z).2 (-1024) 1024 := rfl
theorem ys4_e (f : Nat → Int32) (n : Nat) (t : Int32) (z : S5) : ys4 f n t z = ynx f n (ys3 f n z) 0 (t - 1) := rfl
theorem ys5_e (f : Nat → Int32) (n : Nat) (t : Int32) (z : S5) : ys5 f n t z = yor f n (ys4 f n t z).2 t := rfl
theorem ys6_e (f : Nat → Int32) (n : Nat) (t : Int32) (z : S5) : ys6 f n t z = ynx f n (ys5 f n t z).2 0 15 := rfl
theorem ys7_e (f : Nat → Int32) (n : Nat) (t : Int32) (z : S5) : ys7 f n t z = ynx f n (ys6 f n t z).2 0 3 := rfl
theorem ysc_e (f : Nat → Int32) (n : Nat) (t : Int32) (z : S5) : ysc f n t z = (ynx f n (ys7 f n t z).2 0 255).2 := rfl
theorem s3_val {f : Nat → Int32} {n P : Nat} {z : S5} (h : (ys3 f n z).2.1 = 0) (e : z.1 = nI P) (hP : P < 2 ^ 29) : z.2.1 = 0 ∧ (ys3 f n z).1 = nI (P + 4) := by
  unfold ys3 at h ⊢
  split at h
  · rename_i h2
    rw [if_pos h2]
    split at h
    · rename_i h3
      rw [if_pos h3]
      rw [ys2_e] at h2 ⊢
      have h1 := adv_tw h2
      have h1' := h1
      rw [ys1_e] at h1'
      have v1 := tw_val h1' e (by omega)
      rw [← ys1_e] at v1
      have v2 := tw_val h2 v1.2 (by omega)
      exact ⟨adv_tw h1', v2.2⟩
    · exact absurd h (adv_wr _ (by decide) _)
  · rename_i h2
    exact absurd h h2
theorem sc_val {f : Nat → Int32} {n P : Nat} {t : Int32} {z : S5} (h : (ysc f n t z).2.1 = 0) (e : z.1 = nI P) (hP : P < 2 ^ 29) : z.2.1 = 0 ∧ (ysc f n t z).1 = nI (P + 9) := by
  rw [ysc_e] at h ⊢
  have h7 := (adv_nx h).1
  rw [ys7_e] at h7
  have h6 := (adv_nx h7).1
  rw [ys6_e] at h6
  have h5 := (adv_nx h6).1
  rw [ys5_e] at h5
  have h4 := (adv_or h5).1
  rw [ys4_e] at h4
  have h3 := (adv_nx h4).1
  have v3 := s3_val h3 e hP
  have v4 := (nx_val h4 v3.2 (by omega)).2.2.2
  rw [← ys4_e] at v4
  have v5 := (or_val h5 v4 (by omega)).2
  rw [← ys5_e] at v5
  have v6 := (nx_val h6 v5 (by omega)).2.2.2
  rw [← ys6_e] at v6
  have v7 := (nx_val h7 v6 (by omega)).2.2.2
  rw [← ys7_e] at v7
  have v8 := (nx_val h v7 (by omega)).2.2.2
  exact ⟨v3.1, v8⟩
theorem ss_val {f : Nat → Int32} {n : Nat} {t : Int32} : ∀ (d P : Nat) (z : S5), P + 9 * d < 2 ^ 29 → z.1 = nI P → (yss f n t d z).2.1 = 0 → z.2.1 = 0 ∧ (yss f n t d z).1 = nI (P + 9 * d)
  | 0, P, z, _, e, h => ⟨h, e⟩
  | d + 1, P, z, hP, e, h => by
    rw [yss] at h ⊢
    by_cases h0 : z.2.1 = 0
    · rw [if_pos h0] at h ⊢
      have hx : (ysc f n t z).2.1 = 0 := by
        by_cases w : (ysc f n t z).2.1 = 0
        · exact w
        · rw [yss_flt w] at h
          exact h
      have k := sc_val hx e (by omega)
      have ih := ss_val d (P + 9) (ysc f n t z) (by omega) k.2 h
      exact ⟨h0, ih.2.trans (congrArg nI (by omega))⟩
    · rw [if_neg h0] at h
      exact absurd h h0
theorem ck_val {f : Nat → Int32} {n P : Nat} {due : Int32} {z : S5} (h : (yck f n due z).2.1 = 0) (e : z.1 = nI P) (hP : P < 2 ^ 30) : z.2.1 = 0 ∧ (yck f n due z).1 = nI (P + 1) := by
  unfold yck at h ⊢
  split at h
  · rename_i h1
    rw [if_pos h1]
    split at h
    · rename_i h2
      rw [if_pos h2]
      exact ⟨(adv_nx h1).1, (nx_val h1 e (by omega)).2.2.2⟩
    · exact absurd h (adv_wr _ (by decide) _)
  · rename_i h1
    exact absurd h h1
theorem e4_val {f : Nat → Int32} {n P : Nat} {s : Int32} {z : S5} (h : (ye4 f n s z).2.1 = 0) (e : z.1 = nI P) (hP : P < 2 ^ 29) : z.2.1 = 0 ∧ (ye4 f n s z).1 = nI (P + 6) := by
  unfold ye4 at h ⊢
  have h4 := (adv_nx h).1
  have h3 := (adv_nx h4).1
  have h2 := adv_tw h3
  have v1 := (tw_val h2 e (by omega)).2
  have v2 := (tw_val h3 v1 (by omega)).2
  have v3 := (nx_val h4 v2 (by omega)).2.2.2
  have v4 := (nx_val h v3 (by omega)).2.2.2
  exact ⟨adv_tw h2, v4⟩
theorem yen_e (f : Nat → Int32) (n : Nat) (s : Int32) (z : S5) : yen f n s z = ye6 n (ye5 f n (ye4 f n s z)) := rfl
theorem ye5_e (f : Nat → Int32) (n : Nat) (z : S5) : ye5 f n z = yck f n z.2.2.2.2 (yck f n z.2.2.2.1 z) := rfl
/-- the end: a reading without a fault is at the row's end -/
theorem en_val {f : Nat → Int32} {n P : Nat} {s : Int32} {z : S5} (hn : n ≤ 8192) (ho : ok5 n (yen f n s z)) (h : (yen f n s z).2.1 = 0) (e : z.1 = nI P) (hP : P < 2 ^ 29) : z.2.1 = 0 ∧ n = P + 8 := by
  rw [yen_e] at h ho
  have a : (ye5 f n (ye4 f n s z)).2.1 = 0 ∧ nI n ≤ (ye5 f n (ye4 f n s z)).1 ∧ ye6 n (ye5 f n (ye4 f n s z)) = ye5 f n (ye4 f n s z) := by
    generalize ye5 f n (ye4 f n s z) = y at h
    unfold ye6 at h ⊢
    split at h
    · rename_i h2
      rw [if_pos h2]
      split at h
      · rename_i h3
        rw [if_pos h3]
        exact ⟨h2, h3, rfl⟩
      · exact absurd h (adv_wr _ (by decide) _)
    · rename_i h2
      exact absurd h h2
  obtain ⟨a1, a2, a3⟩ := a
  rw [a3] at ho
  have b1 := a1
  rw [ye5_e] at b1
  have b2 := adv_ck b1
  have b3 := adv_ck b2
  have v4 := e4_val b3 e hP
  have v5 := ck_val b2 v4.2 (by omega)
  have v6 := ck_val b1 v5.2 (by omega)
  rw [← ye5_e] at v6
  rw [v6.2, nI_leI (by omega) (by omega)] at a2
  have := y_P hn ho v6.2 (by omega)
  exact ⟨v4.1, by omega⟩
