/-! THE REFERENCE: how far a reading without a fault goes -/
theorem adv_wr (q : S5) {a : Int32} (ha : a ≠ 0) (b : Int32) : ¬ (ywr q a b).2.1 = 0 := by
  unfold ywr
  split
  · exact ha
  · assumption
theorem adv_nx {f : Nat → Int32} {n : Nat} {q : S5} {lo hi : Int32} (h : (ynx f n q lo hi).2.2.1 = 0) : q.2.1 = 0 ∧ (ynx f n q lo hi).2.1 = q.1 + 1 := by
  unfold ynx at h ⊢
  split at h
  · rename_i h1
    rw [if_pos h1]
    split at h
    · exact absurd h (adv_wr q (by decide) _)
    · rename_i h2
      rw [if_neg h2]
      have h3 : (ynS f q lo hi).2.1 = 0 := h
      have h4 : ynS f q lo hi = q := by
        unfold ynS at h3 ⊢
        split at h3
        · exact absurd h3 (adv_wr q (by decide) _)
        · rename_i h5
          rw [if_neg h5]
          split at h3
          · rename_i h6
            rw [if_pos h6]
          · exact absurd h3 (adv_wr q (by decide) _)
      rw [h4] at h3 ⊢
      exact ⟨h3, rfl⟩
  · rename_i h1
    exact absurd (by rw [show q.2.1 = 0 from h]; decide) h1
theorem adv_or {f : Nat → Int32} {n : Nat} {q : S5} {m : Int32} (h : (yor f n q m).2.2.1 = 0) : q.2.1 = 0 ∧ (yor f n q m).2.1 = q.1 + 1 := by
  unfold yor at h ⊢
  dsimp only at h ⊢
  split at h
  · rename_i h1
    rw [if_pos h1]
    split at h
    · rename_i h2
      rw [if_pos h2]
      exact adv_nx h1
    · rename_i h2
      rw [if_neg h2]
      split at h
      · rename_i h3
        rw [if_pos h3]
        exact adv_nx h1
      · exact absurd h (adv_wr _ (by decide) _)
  · rename_i h1
    exact absurd h h1
theorem adv_tw {f : Nat → Int32} {n : Nat} {q : S5} {lo hi : Int32} (h : (ytw f n q lo hi).2.2.1 = 0) : q.2.1 = 0 := by
  unfold ytw at h
  dsimp only at h
  have key : (yt2 f n q).2.2.1 = 0 → q.2.1 = 0 := fun h1 => (adv_nx (adv_nx h1).1).1
  split at h
  · rename_i h1
    exact key h1
  · rename_i h1
    exact absurd h h1
theorem adv_ck {f : Nat → Int32} {n : Nat} {due : Int32} {q : S5} (h : (yck f n due q).2.1 = 0) : q.2.1 = 0 := by
  unfold yck at h
  split at h
  · rename_i h1
    exact (adv_nx h1).1
  · rename_i h1
    exact absurd h h1
theorem adv_w3 {f : Nat → Int32} {n : Nat} {v : Int32} {q : S5} (h : (yw3 f n v q).2.1 = 0) : q.2.1 = 0 ∧ (yw3 f n v q).1 = q.1 + 1 + 1 := by
  unfold yw3 at h ⊢
  split at h
  · rename_i h1
    rw [if_pos h1]
    split at h
    · exact absurd h (adv_wr _ (by decide) _)
    · rename_i h2
      rw [if_neg h2]
      have e1 := adv_nx (f := f) (n := n) (q := (yw1 f n v q).2) (lo := 0) (hi := v - 1) h1
      have e2 := adv_nx (f := f) (n := n) (q := q) (lo := 0) (hi := v - 1) e1.1
      exact ⟨e2.1, e1.2.trans (congrArg (· + 1) e2.2)⟩
  · rename_i h1
    exact absurd h h1
theorem adv_ws {f : Nat → Int32} {n : Nat} {t b : Int32} {k : Nat} {q : S5} (h : (yws f n t b k q).2.1 = 0) : q.2.1 = 0 ∧ (yws f n t b k q).1 = q.1 + 1 := by
  unfold yws at h ⊢
  split at h
  · rename_i h1
    rw [if_pos h1]
    split at h
    · rename_i h2
      rw [if_pos h2]
      exact adv_or h1
    · rename_i h2
      rw [if_neg h2]
      split at h
      · rename_i h3
        rw [if_pos h3]
        split at h
        · rename_i h4
          rw [if_pos h4]
          exact adv_or h1
        · exact absurd h (adv_wr _ (by decide) _)
      · rename_i h3
        rw [if_neg h3]
        exact adv_or h1
  · rename_i h1
    exact absurd h h1
theorem adv_wt {f : Nat → Int32} {n : Nat} {t b : Int32} : ∀ (d k : Nat) (q : S5), (ywt f n t b d k q).2.1 = 0 → q.2.1 = 0 ∧ (ywt f n t b d k q).1 = q.1 + nI d
  | 0, _, q, h => ⟨h, (Int32.add_zero q.1).symm⟩
  | d + 1, k, q, h => by
    have a := adv_wt d (k + 1) (yws f n t b k q) h
    have c := adv_ws a.1
    refine ⟨c.1, a.2.trans ?_⟩
    rw [c.2, Int32.add_assoc, Int32.add_comm 1 (nI d), nI_1]
theorem adv_w5 {f : Nat → Int32} {n : Nat} {v s : Int32} {q : S5} (h : (yw5 f n v s q).2.2.1 = 0) : q.2.1 = 0 ∧ (yw5 f n v s q).2.1 = q.1 + 1 + 1 + 1 + 1 := by
  unfold yw5 at h ⊢
  have c1 := adv_or h
  have c2 : (yw3 f n v q).2.1 = 0 ∧ (yw4 f n v s q).2.1 = (yw3 f n v q).1 + 1 := by
    have h1 := c1.1
    unfold yw4 at h1 ⊢
    exact adv_nx h1
  have c3 := adv_w3 c2.1
  exact ⟨c3.1, by rw [c1.2, c2.2, c3.2]⟩
theorem adv_w6 {f : Nat → Int32} {n : Nat} {v t s : Int32} {q : S5} (h : (yw6 f n v t s q).2.1 = 0) : q.2.1 = 0 ∧ (yw6 f n v t s q).1 = q.1 + 1 + 1 + 1 + 1 + nI 6 := by
  unfold yw6 at h ⊢
  have a := adv_wt 6 0 _ h
  have b := adv_w5 a.1
  exact ⟨b.1, by rw [a.2, b.2]⟩
theorem adv_wa {f : Nat → Int32} {n : Nat} {v t s : Int32} {q : S5} (h : (ywa f n v t s q).2.1 = 0) : q.2.1 = 0 ∧ (ywa f n v t s q).1 = q.1 + 14 := by
  unfold ywa at h ⊢
  have a4 := adv_nx h
  have a3 := adv_nx a4.1
  have a2 := adv_nx a3.1
  have a1 := adv_nx a2.1
  have a0 := adv_w6 a1.1
  refine ⟨a0.1, ?_⟩
  rw [a4.2, a3.2, a2.2, a1.2, a0.2]
  simp only [Int32.add_assoc]
  rfl
theorem ynx_b (f : Nat → Int32) (n : Nat) (q : S5) (lo hi : Int32) : ∃ a : Nat, a ≤ 255 ∧ (ynx f n q lo hi).1 = nI a := by
  unfold ynx
  split
  · split
    · exact ⟨0, by omega, rfl⟩
    · obtain ⟨j, hj, e⟩ := yb_ex (f q.1.toNatClampNeg)
      exact ⟨j, by omega, e⟩
  · exact ⟨0, by omega, rfl⟩
/-! THE REFERENCE: the whole reading -/
def ymd (k : Nat) : Int32 := if nI k = 0 then 77 else if nI k = 1 then 72 else 1
def yms (f : Nat → Int32) (n : Nat) (k : Nat) (q : S5) : S5 := if (ynx f n q 0 255).2.2.1 = 0 then (if (ynx f n q 0 255).1 = ymd k then (ynx f n q 0 255).2 else ywr (ynx f n q 0 255).2 2 (nI k)) else (ynx f n q 0 255).2
def yml (f : Nat → Int32) (n : Nat) : Nat → Nat → S5 → S5
  | 0, _, q => q
  | d + 1, k, q => if q.2.1 = 0 then yml f n d (k + 1) (yms f n k q) else q
def yvs (f : Nat → Int32) (n : Nat) : Nat → Nat → S5 → S5
  | 0, _, q => q
  | d + 1, k, q => if q.2.1 = 0 then yvs f n d (k + 1) (yvx f n k q) else q
def yts (f : Nat → Int32) (n : Nat) : Nat → S5 → S5
  | 0, q => q
  | d + 1, q => if q.2.1 = 0 then yts f n d (yxt f n q) else q
def yss (f : Nat → Int32) (n : Nat) (t : Int32) : Nat → S5 → S5
  | 0, q => q
  | d + 1, q => if q.2.1 = 0 then yss f n t d (ysc f n t q) else q
def ywl (f : Nat → Int32) (n : Nat) (v t s : Int32) : Nat → S5 → S5
  | 0, q => q
  | d + 1, q => if q.2.1 = 0 then ywl f n v t s d (ywa f n v t s q) else q
def ye4 (f : Nat → Int32) (n : Nat) (s : Int32) (q : S5) : S5 := (ynx f n (ynx f n (ytw f n (ytw f n q (-32768) 32767).2 (-32768) 32767).2 0 63).2 0 (s - 1)).2
def ye5 (f : Nat → Int32) (n : Nat) (q : S5) : S5 := yck f n q.2.2.2.2 (yck f n q.2.2.2.1 q)
def ye6 (n : Nat) (q : S5) : S5 := if q.2.1 = 0 then (if nI n ≤ q.1 then q else ywr q 5 q.1) else q
def yen (f : Nat → Int32) (n : Nat) (s : Int32) (q : S5) : S5 := ye6 n (ye5 f n (ye4 f n s q))
theorem adv_en {f : Nat → Int32} {n : Nat} {s : Int32} {q : S5} (h : (yen f n s q).2.1 = 0) : q.2.1 = 0 := by
  have h1 : (ye5 f n (ye4 f n s q)).2.1 = 0 := by
    unfold yen ye6 at h
    split at h
    · rename_i h2
      exact h2
    · rename_i h2
      exact absurd h h2
  have h2 : (ye4 f n s q).2.1 = 0 := by
    unfold ye5 at h1
    exact adv_ck (adv_ck h1)
  unfold ye4 at h2
  exact adv_tw (adv_tw (adv_nx (adv_nx h2).1).1)
abbrev SY : Type := S5 × Int32
def yk1 (f : Nat → Int32) (F0 w : Nat) : Nat → Nat → SY → SY
  | 0, _, y => y
  | d + 1, v, y => if y.1.2.1 = 0 then yk1 f F0 w d (v + 1) (if ytc f (F0 + 14 * v) (F0 + 14 * w) = 0 then y else (ywr y.1 6 (nI F0 + 14 * nI w), nI w)) else y
def yk2 (f : Nat → Int32) (F0 : Nat) : Nat → Nat → SY → SY
  | 0, _, z => z
  | d + 1, w, z => if z.1.2.1 = 0 then yk2 f F0 d (w + 1) (yk1 f F0 w w 0 z) else z
def ya1 (f : Nat → Int32) (n : Nat) (z : S5) : Int32 × S5 := ynx f n z 0 128
def ya2 (f : Nat → Int32) (n : Nat) (z : S5) : Int32 × S5 := ynx f n (ya1 f n z).2 0 16
def ya3 (f : Nat → Int32) (n : Nat) (z : S5) : Int32 × S5 := ynx f n (ya2 f n z).2 1 32
def ya4 (f : Nat → Int32) (n : Nat) (z : S5) : Int32 × S5 := ynx f n (ya3 f n z).2 0 128
def ya5 (f : Nat → Int32) (n : Nat) (z : S5) : S5 := yvs f n (ya1 f n z).1.toNatClampNeg 0 (ya4 f n z).2
def ya6 (f : Nat → Int32) (n : Nat) (z : S5) : S5 := yts f n (ya2 f n z).1.toNatClampNeg (ya5 f n z)
def ya7 (f : Nat → Int32) (n : Nat) (z : S5) : S5 := yss f n (ya2 f n z).1 (ya3 f n z).1.toNatClampNeg (ya6 f n z)
def ya8 (f : Nat → Int32) (n : Nat) (z : S5) : S5 := ywl f n (ya1 f n z).1 (ya2 f n z).1 (ya3 f n z).1 (ya4 f n z).1.toNatClampNeg (ya7 f n z)
def ya9 (f : Nat → Int32) (n : Nat) (z : S5) : S5 := yen f n (ya3 f n z).1 (ya8 f n z)
def yrs (f : Nat → Int32) (n : Nat) (z : S5) (ck : Int32) : SY := yk2 f (ya7 f n z).1.toNatClampNeg (ya4 f n z).1.toNatClampNeg 0 (ya9 f n z, ck)
def yal (f : Nat → Int32) (n : Nat) (q : S5) (ck : Int32) : SY := yrs f n (yml f n 3 0 q) ck
theorem wl_le {n F0 k : Nat} {y : S5} (hn : n ≤ 8192) (hy : ok5 n y) (h : y.1 = nI (F0 + 14 * k)) (h1 : F0 ≤ 8192) (h2 : k ≤ 255) : F0 + 14 * k ≤ 8192 := by
  obtain ⟨P, hP, e⟩ := hy
  rw [e, nI_eq (by omega) (by omega)] at h
  omega
theorem n14 (F0 v : Nat) : nI F0 + 14 * nI v = nI (F0 + 14 * v) := by
  rw [show (14 : Int32) = nI 14 from rfl, pk_mul, nI_add]
