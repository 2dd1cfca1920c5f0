/-! the place of a reading is within the row -/
def okq (n : Nat) (q : S3) : Prop := ∃ P : Nat, P ≤ n ∧ q.1 = nI P
theorem okq_fl {n : Nat} {q : S3} (h : okq n q) (a b : Int32) : okq n (fl q a b) := by
  unfold fl
  split
  · exact h
  · exact h
theorem okq_nx {f : Nat → Int32} {n : Nat} {q : S3} (hn : n ≤ 8192) (h : okq n q) : okq n (nx f n q).2 := by
  unfold nx
  split
  · split
    · exact okq_fl h _ _
    · rename_i h2
      obtain ⟨P, hP, e⟩ := h
      rw [e] at h2
      have h3 : P < n := by
        rcases Nat.lt_or_ge P n with q1 | q1
        · exact q1
        · exfalso
          apply h2
          rw [rg, if_neg (nI_pos (by omega)), if_pos (nI_le q1 (by omega))]
      exact ⟨P + 1, h3, by show q.1 + 1 = _; rw [e, nI_1]⟩
  · exact h
theorem okq_jd {n : Nat} {q : S3} (h : okq n q) (v lo hi pl : Int32) : okq n (jd q v lo hi pl).2 := by
  show okq n (jdS q v lo hi pl)
  unfold jdS
  split
  · exact okq_fl h _ _
  · split
    · exact h
    · exact okq_fl h _ _
theorem okq_sm {f : Nat → Int32} {n : Nat} {q : S3} (hn : n ≤ 8192) (h : okq n q) (lo hi : Int32) : okq n (sm f n q lo hi).2 := okq_jd (okq_nx hn h) _ _ _ _
theorem okq_sa {f : Nat → Int32} {n : Nat} {q : S3} (hn : n ≤ 8192) (h : okq n q) (hi : Int32) : okq n (sa f n q hi).2 := by
  unfold sa
  split
  · exact okq_nx hn h
  · exact okq_jd (okq_nx hn h) _ _ _ _
theorem okq_wd {f : Nat → Int32} {n : Nat} {q : S3} (hn : n ≤ 8192) (h : okq n q) (lo hi : Int32) : okq n (wd f n q lo hi).2 := okq_jd (okq_nx hn (okq_nx hn h)) _ _ _ _
theorem okq_ex {f : Nat → Int32} {n : Nat} {q : S3} (hn : n ≤ 8192) (h : okq n q) (a b : Int32) : okq n (ex f n q a b) := by
  unfold ex
  split
  · exact okq_nx hn h
  · exact okq_fl (okq_nx hn h) _ _
theorem okq_hd {f : Nat → Int32} {n : Nat} {q : S3} (hn : n ≤ 8192) (h : okq n q) : okq n (hd4 f n q).2 := okq_sm hn (okq_sm hn (okq_sm hn (okq_sm hn (okq_ex hn (okq_ex hn (okq_ex hn h _ _) _ _) _ _) _ _) _ _) _ _) _ _
theorem okq_vlp {f : Nat → Int32} {n : Nat} {v : Int32} (hn : n ≤ 8192) : ∀ (d k : Nat) (z : SV), okq n z.1 → okq n (vlp f n v d k z).1
  | 0, _, _, h => h
  | d + 1, k, z, h => by
    unfold vlp
    split
    · exact h
    · split
      · refine okq_vlp hn d (k + 1) (vst f n k z) ?_
        unfold vst
        dsimp only
        split
        · exact okq_wd hn (okq_wd hn h _ _) _ _
        · exact okq_fl (okq_wd hn (okq_wd hn h _ _) _ _) _ _
      · exact h
theorem okq_txi {f : Nat → Int32} {n : Nat} (hn : n ≤ 8192) : ∀ (d : Nat) (q : S3), okq n q → okq n (txi f n d q)
  | 0, _, h => h
  | d + 1, q, h => by
    unfold txi
    split
    · exact okq_txi hn d _ (okq_sm hn h _ _)
    · exact h
theorem okq_txl {f : Nat → Int32} {n : Nat} (hn : n ≤ 8192) : ∀ (d : Nat) (q : S3), okq n q → okq n (txl f n d q)
  | 0, _, h => h
  | d + 1, q, h => by
    unfold txl
    split
    · exact okq_txl hn d _ (okq_txi hn _ _ (okq_sm hn (okq_sm hn h _ _) _ _))
    · exact h
theorem okq_scl {f : Nat → Int32} {n : Nat} {t : Int32} (hn : n ≤ 8192) : ∀ (d : Nat) (q : S3), okq n q → okq n (scl f n t d q)
  | 0, _, h => h
  | d + 1, q, h => by
    unfold scl
    split
    · exact okq_scl hn d _ (okq_sm hn (okq_sm hn (okq_sm hn (okq_sa hn (okq_sm hn (okq_wd hn (okq_wd hn h _ _) _ _) _ _) _) _ _) _ _) _ _)
    · exact h
theorem okq_weS {f : Nat → Int32} {n : Nat} {v : Int32} {q : S3} (hn : n ≤ 8192) (h : okq n q) : okq n (weS f n v q) := by
  unfold weS
  split
  · exact okq_fl (okq_sm hn (okq_sm hn h _ _) _ _) _ _
  · exact okq_sm hn (okq_sm hn h _ _) _ _
theorem okq_wt3 {f : Nat → Int32} {n : Nat} {hi : Int32} {q : S3} (hn : n ≤ 8192) (h : okq n q) : okq n (wt3 f n hi q) := okq_sa hn (okq_sa hn (okq_sa hn h _) _) _
theorem okq_wl4 {f : Nat → Int32} {n : Nat} {v t s : Int32} {q : S3} (hn : n ≤ 8192) (h : okq n q) : okq n (wl4 f n v t s q) := okq_sm hn (okq_sm hn (okq_sm hn (okq_sm hn (okq_wt3 hn (okq_wt3 hn (okq_sa hn (okq_sm hn (okq_weS hn h) _ _) _))) _ _) _ _) _ _) _ _
theorem okq_wlp {f : Nat → Int32} {n : Nat} {v t s w : Int32} {xs ys : Nat → Int32} (hn : n ≤ 8192) : ∀ (d k : Nat) (z : SW), okq n z.1 → okq n (wlp f n v t s w xs ys d k z).1
  | 0, _, _, h => h
  | d + 1, k, z, h => by
    unfold wlp
    split
    · exact h
    · split
      · exact okq_wlp hn d (k + 1) (wst f n v t s xs ys k z) (by simp only [wst]; exact okq_wl4 hn h)
      · exact h
theorem okq_stS {f : Nat → Int32} {n : Nat} {s : Int32} {q : S3} (hn : n ≤ 8192) (h : okq n q) : okq n (stS f n s q) := okq_sm hn (okq_sm hn (okq_wd hn (okq_wd hn h _ _) _ _) _ _) _ _
theorem hd2_rng (f : Nat → Int32) (n : Nat) (q : S3) : ∃ a : Nat, a ≤ 16 ∧ (hd2 f n q).1 = nI a := sm_rng f n (hd1 f n q).2 16 (by omega)
theorem hd1_rng (f : Nat → Int32) (n : Nat) (q : S3) : ∃ a : Nat, a ≤ 128 ∧ (hd1 f n q).1 = nI a := sm_rng f n (hdS f n q) 128 (by omega)
theorem hd4_rng (f : Nat → Int32) (n : Nat) (q : S3) : ∃ a : Nat, a ≤ 128 ∧ (hd4 f n q).1 = nI a := sm_rng f n (hd3 f n q).2 128 (by omega)
theorem hd3_rng (f : Nat → Int32) (n : Nat) (q : S3) : ∃ a : Nat, a ≤ 32 ∧ (hd3 f n q).1 = nI a := by
  rcases jd_rng (nx f n (hd2 f n q).2).2 (nx f n (hd2 f n q).2).1 1 32 (hd2 f n q).2.1 with h1 | ⟨h1, h2, h3, -⟩
  · exact ⟨0, Nat.zero_le _, h1⟩
  · have h0 : ¬ (nx f n (hd2 f n q).2).1 < 0 := fun h => h1 (Int32.lt_trans h (by decide))
    obtain ⟨j, hj, ej⟩ := nI_of h0
    refine ⟨j, ?_, h3.trans ej⟩
    rw [ej] at h2
    exact (nI_leI (b := 32) hj (by omega)).mp h2
/-! THE WHOLE READING -/
def jq0 : S3 := (0, 0, -1)
def jv (f : Nat → Int32) (n : Nat) (xs ys : Nat → Int32) : SV := vlp f n (hd1 f n jq0).1 128 0 ((hd4 f n jq0).2, xs, ys)
def jt (f : Nat → Int32) (n : Nat) (xs ys : Nat → Int32) : S3 := txl f n (hd2 f n jq0).1.toNatClampNeg (jv f n xs ys).1
def js (f : Nat → Int32) (n : Nat) (xs ys : Nat → Int32) : S3 := scl f n (hd2 f n jq0).1 (hd3 f n jq0).1.toNatClampNeg (jt f n xs ys)
def jw (f : Nat → Int32) (n : Nat) (xs ys : Nat → Int32) (sp : Nat → E4) : SW := wlp f n (hd1 f n jq0).1 (hd2 f n jq0).1 (hd3 f n jq0).1 (hd4 f n jq0).1 (jv f n xs ys).2.1 (jv f n xs ys).2.2 128 0 (js f n xs ys, sp)
def jst (f : Nat → Int32) (n : Nat) (xs ys : Nat → Int32) (sp : Nat → E4) : S3 := stS f n (hd3 f n jq0).1 (jw f n xs ys sp).1
def jen (f : Nat → Int32) (n : Nat) (xs ys : Nat → Int32) (sp : Nat → E4) : S3 := enS f n (jst f n xs ys sp)
def jm (f : Nat → Int32) (n : Nat) (xs ys : Nat → Int32) (sp : Nat → E4) : SM := mk2 (jw f n xs ys sp).2 (js f n xs ys).1 (hd4 f n jq0).1 127 1 (jen f n xs ys sp, -1)
