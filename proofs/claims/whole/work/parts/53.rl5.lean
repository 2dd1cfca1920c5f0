theorem txi_flt {f : Nat → Int32} {n : Nat} {q : S3} (h : ¬ q.2.1 = 0) : ∀ d : Nat, txi f n d q = q
  | 0 => rfl
  | d + 1 => by rw [txi, if_neg h]
theorem yxi_flt {f : Nat → Int32} {n : Nat} {z : S5} (h : ¬ z.2.1 = 0) : ∀ d : Nat, yxi f n d z = z
  | 0 => rfl
  | d + 1 => by rw [yxi, if_neg h]
theorem rl_txi {f : Nat → Int32} {n : Nat} (hn : n ≤ 8192) : ∀ (d : Nat) (q : S3) (z : S5), rl f n q z → rl f n (txi f n d q) (yxi f n d z)
  | 0, _, _, h => h
  | d + 1, q, z, h => by
    unfold txi yxi
    rw [rl_f h]
    by_cases h0 : z.2.1 = 0
    · rw [if_pos h0, if_pos h0]
      exact rl_txi hn d _ _ (rl_sm hn h 0 15).1
    · rw [if_neg h0, if_neg h0]
      exact h
theorem txw_mul : ∀ a, a ≤ 4 → ∀ b, b ≤ 4 → txw (nI a) * txw (nI b) = nI (2 ^ (a + b)) := by
  intro a ha b hb
  have h : ∀ x : Fin 5, ∀ y : Fin 5, txw (nI x.val) * txw (nI y.val) = nI (2 ^ (x.val + y.val)) := by decide +kernel
  exact h ⟨a, by omega⟩ ⟨b, by omega⟩
/-- a texture -/
theorem rl_tx {f : Nat → Int32} {n : Nat} {q : S3} {z : S5} (hn : n ≤ 8192) (h : rl f n q z) : rl f n (txs f n q) (yxt f n z) := by
  have r1 : rl f n (tx1 f n q).2 (yx1 f n z).2 ∧ ((yx1 f n z).2.2.1 = 0 → (tx1 f n q).1 = (yx1 f n z).1) := rl_sm hn h 0 4
  have r2 : rl f n (tx2 f n q).2 (yx2 f n z).2 ∧ ((yx2 f n z).2.2.1 = 0 → (tx2 f n q).1 = (yx2 f n z).1) := rl_sm hn r1.1 0 4
  by_cases h0 : (yx2 f n z).2.2.1 = 0
  · have h1 : (yx1 f n z).2.2.1 = 0 := (adv_nx (f := f) (n := n) (q := (yx1 f n z).2) (lo := 0) (hi := 4) h0).1
    obtain ⟨a, ha, ea⟩ : ∃ a : Nat, a ≤ 4 ∧ (tx1 f n q).1 = nI a := sm_rng f n q 4 (by omega)
    obtain ⟨b, hb, eb⟩ : ∃ b : Nat, b ≤ 4 ∧ (tx2 f n q).1 = nI b := sm_rng f n (tx1 f n q).2 4 (by omega)
    have c1 : txs f n q = txi f n (nI (2 ^ (a + b))).toNatClampNeg (tx2 f n q).2 := by rw [txs, ea, eb, txw_mul a ha b hb]
    have c2 : yxt f n z = yxi f n (nI (2 ^ (a + b))).toNatClampNeg (yx2 f n z).2 := by rw [yxt, yxB, ← r1.2 h1, ← r2.2 h0, ea, eb, sh_ab a ha b hb]
    rw [c1, c2]
    exact rl_txi hn _ _ _ r2.1
  · have c1 : txs f n q = (tx2 f n q).2 := txi_flt (fun h2 => h0 ((rl_f r2.1).symm.trans h2)) _
    have c2 : yxt f n z = (yx2 f n z).2 := yxi_flt h0 _
    rw [c1, c2]
    exact r2.1
theorem rl_txl {f : Nat → Int32} {n : Nat} (hn : n ≤ 8192) : ∀ (d : Nat) (q : S3) (z : S5), rl f n q z → rl f n (txl f n d q) (yts f n d z)
  | 0, _, _, h => h
  | d + 1, q, z, h => by
    unfold txl yts
    rw [rl_f h]
    by_cases h0 : z.2.1 = 0
    · rw [if_pos h0, if_pos h0]
      exact rl_txl hn d _ _ (rl_tx hn h)
    · rw [if_neg h0, if_neg h0]
      exact h
