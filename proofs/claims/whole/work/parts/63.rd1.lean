/-! THE READING: values, and where they stand -/
theorem y_P {n : Nat} {z : S5} {P : Nat} (hn : n ≤ 8192) (h : ok5 n z) (e : z.1 = nI P) (hP : P < 2 ^ 31) : P ≤ n := by
  obtain ⟨Q, hQ, eQ⟩ := h
  rw [e, nI_eq hP (by omega)] at eQ
  omega
/-- a byte read without a fault: its value, its range -/
theorem nx_val {f : Nat → Int32} {n : Nat} {z : S5} {lo hi : Int32} {P : Nat} (h : (ynx f n z lo hi).2.2.1 = 0) (e : z.1 = nI P) (hP : P < 2 ^ 31) : (ynx f n z lo hi).1 = nI (yb f P) ∧ ¬ nI (yb f P) < lo ∧ nI (yb f P) ≤ hi ∧ (ynx f n z lo hi).2.1 = nI (P + 1) := by
  have adv := (adv_nx h).2
  rw [e, nI_1] at adv
  have ey : yby f z = nI (yb f P) := by rw [yby, e, nI_clamp hP, yb_eq]
  unfold ynx at h
  split at h
  · rename_i h1
    split at h
    · exact absurd h (adv_wr z (by decide) _)
    · rename_i h2
      have e1 : (ynx f n z lo hi).1 = yby f z := by rw [ynx, if_pos h1, if_neg h2]
      have h3 : (ynS f z lo hi).2.1 = 0 := h
      rw [ey] at e1
      refine ⟨e1, ?_, ?_, adv⟩
      · intro h4
        rw [ynS, ey, if_pos h4] at h3
        exact absurd h3 (adv_wr z (by decide) _)
      · unfold ynS at h3
        rw [ey] at h3
        split at h3
        · exact absurd h3 (adv_wr z (by decide) _)
        · split at h3
          · assumption
          · exact absurd h3 (adv_wr z (by decide) _)
  · rename_i h1
    exact absurd (by rw [show z.2.1 = 0 from h]; decide) h1
/-- or 255 -/
theorem or_val {f : Nat → Int32} {n : Nat} {z : S5} {m : Int32} {P : Nat} (h : (yor f n z m).2.2.1 = 0) (e : z.1 = nI P) (hP : P < 2 ^ 31) : (yor f n z m).1 = nI (yb f P) ∧ (yor f n z m).2.1 = nI (P + 1) := by
  have adv := (adv_or h).2
  rw [e, nI_1] at adv
  rw [yor_2] at h
  split at h
  · rename_i h1
    rw [yor_1]
    exact ⟨(nx_val h1 e hP).1, adv⟩
  · rename_i h1
    exact absurd h h1
theorem adv_tw2 {f : Nat → Int32} {n : Nat} {z : S5} {lo hi : Int32} (h : (ytw f n z lo hi).2.2.1 = 0) : (yt2 f n z).2.2.1 = 0 ∧ (ytw f n z lo hi).2 = (yt2 f n z).2 := by
  rw [ytw_2] at h ⊢
  split at h
  · rename_i h1
    rw [if_pos h1]
    split at h
    · exact absurd h (adv_wr _ (by decide) _)
    · rename_i h2
      rw [if_neg h2]
      split at h
      · rename_i h3
        rw [if_pos h3]
        exact ⟨h1, rfl⟩
      · exact absurd h (adv_wr _ (by decide) _)
  · rename_i h1
    exact absurd h h1
/-- two bytes -/
theorem tw_val {f : Nat → Int32} {n : Nat} {z : S5} {lo hi : Int32} {P : Nat} (h : (ytw f n z lo hi).2.2.1 = 0) (e : z.1 = nI P) (hP : P < 2 ^ 30) : (ytw f n z lo hi).1 = ypr f P ∧ (ytw f n z lo hi).2.1 = nI (P + 2) := by
  obtain ⟨h1, e2⟩ := adv_tw2 h
  rw [e2]
  rw [ytw_1, ytv]
  rw [← yt2_e] at h1 ⊢
  have v1 := nx_val (adv_nx h1).1 e (by omega)
  have v2 := nx_val h1 v1.2.2.2 (by omega)
  refine ⟨?_, v2.2.2.2⟩
  rw [yt1, v1.1, v2.1, yb_eq, yb_eq, ypr]
theorem yvl_flt {f : Nat → Int32} {x y a : Int32} {z : S5} (h : ¬ z.2.1 = 0) : ∀ d o : Nat, yvl f x y a d o z = z
  | 0, _ => rfl
  | d + 1, o => by rw [yvl, if_neg h]
/-- is a vertex's place taken? -/
theorem tk_vl {f xs ys : Nat → Int32} {k : Nat} {a : Int32} {z : S5} (h : z.2.1 = 0) : ∀ d o : Nat, (∀ i, o ≤ i → i < o + d → xs i = ypr f (7 + 4 * i) ∧ ys i = ypr f (9 + 4 * i)) → ((tkn xs ys k d o = 0 ∧ yvl f (xs k) (ys k) a d o z = z ∧ ∀ i, o ≤ i → i < o + d → ¬ (ypr f (7 + 4 * i) = xs k ∧ ypr f (9 + 4 * i) = ys k)) ∨ (¬ tkn xs ys k d o = 0 ∧ yvl f (xs k) (ys k) a d o z = ywr z 3 a))
  | 0, o, _ => Or.inl ⟨rfl, rfl, fun i h1 h2 => by omega⟩
  | d + 1, o, hi => by
    obtain ⟨e1, e2⟩ := hi o (Nat.le_refl _) (by omega)
    have ih := tk_vl (f := f) (xs := xs) (ys := ys) (k := k) (a := a) h d (o + 1) (fun i h1 h2 => hi i (by omega) (by omega))
    rw [tkn, yvl, if_pos h, e1, e2]
    by_cases q1 : ypr f (7 + 4 * o) = xs k
    · rw [if_pos q1, if_pos q1]
      by_cases q2 : ypr f (9 + 4 * o) = ys k
      · rw [if_pos q2, if_pos q2]
        exact Or.inr ⟨by decide, yvl_flt (adv_wr z (by decide) _) d (o + 1)⟩
      · rw [if_neg q2, if_neg q2]
        rcases ih with ⟨i1, i2, i3⟩ | i1
        · refine Or.inl ⟨i1, i2, fun i h1 h2 => ?_⟩
          rcases Nat.eq_or_lt_of_le h1 with w | w
          · rw [← w]
            exact fun q => q2 q.2
          · exact i3 i w (by omega)
        · exact Or.inr i1
    · rw [if_neg q1, if_neg q1]
      rcases ih with ⟨i1, i2, i3⟩ | i1
      · refine Or.inl ⟨i1, i2, fun i h1 h2 => ?_⟩
        rcases Nat.eq_or_lt_of_le h1 with w | w
        · rw [← w]
          exact fun q => q1 q.1
        · exact i3 i w (by omega)
      · exact Or.inr i1
/-- k vertices read on both sides -/
def RV (f : Nat → Int32) (n k : Nat) (q : SV) (z : S5) : Prop := rl f n q.1 z ∧ (z.2.1 = 0 → z.1 = nI (7 + 4 * k) ∧ (∀ i, i < k → q.2.1 i = ypr f (7 + 4 * i) ∧ q.2.2 i = ypr f (9 + 4 * i)) ∧ dsj f k)
theorem yv1_e (f : Nat → Int32) (n : Nat) (z : S5) : yv1 f n z = ytw f n z (-32768) 32767 := rfl
theorem yv2_e (f : Nat → Int32) (n : Nat) (z : S5) : yv2 f n z = ytw f n (yv1 f n z).2 (-32768) 32767 := rfl
theorem vs1_e (f : Nat → Int32) (n : Nat) (q : S3) : vs1 f n q = wd f n q (-32768) 32767 := rfl
theorem vs2_e (f : Nat → Int32) (n : Nat) (q : S3) : vs2 f n q = wd f n (vs1 f n q).2 (-32768) 32767 := rfl
theorem yvx_e (f : Nat → Int32) (n k : Nat) (z : S5) : yvx f n k z = yvl f (yv1 f n z).1 (yv2 f n z).1 (yv1 f n z).2.1 k 0 (yv2 f n z).2 := rfl
theorem rv_st {f : Nat → Int32} {n k : Nat} {q : SV} {z : S5} (hn : n ≤ 8192) (hk : k ≤ 255) (h : RV f n k q z) (h0 : z.2.1 = 0) : RV f n (k + 1) (vst f n k q) (yvx f n k z) := by
  obtain ⟨hr, hd⟩ := h
  obtain ⟨hp, hv, hj⟩ := hd h0
  have r1 : rl f n (vs1 f n q.1).2 (yv1 f n z).2 ∧ ((yv1 f n z).2.2.1 = 0 → (vs1 f n q.1).1 = (yv1 f n z).1) := by
    rw [vs1_e, yv1_e]
    exact rl_wd hn hr (-32768) 32767
  have r2 : rl f n (vs2 f n q.1).2 (yv2 f n z).2 ∧ ((yv2 f n z).2.2.1 = 0 → (vs2 f n q.1).1 = (yv2 f n z).1) := by
    rw [vs2_e, yv2_e]
    exact rl_wd hn r1.1 (-32768) 32767
  have g1 : (yv2 f n z).2.2.1 = 0 → (yv1 f n z).2.2.1 = 0 := fun w => by
    rw [yv2_e] at w
    exact adv_tw w
  have g2 : (yv1 f n z).2.2.1 = 0 → (yv1 f n z).1 = ypr f (7 + 4 * k) ∧ (yv1 f n z).2.1 = nI (7 + 4 * k + 2) := fun w => by
    rw [yv1_e] at w ⊢
    exact tw_val w hp (by omega)
  have g3 : (yv2 f n z).2.2.1 = 0 → (yv2 f n z).1 = ypr f (9 + 4 * k) ∧ (yv2 f n z).2.1 = nI (7 + 4 * k + 2 + 2) := fun w => by
    have e := (g2 (g1 w)).2
    rw [yv2_e] at w ⊢
    rw [show 9 + 4 * k = 7 + 4 * k + 2 by omega]
    exact tw_val w e (by omega)
  unfold vst
  rw [yvx_e]
  have ep := rl_p r1.1
  generalize vs1 f n q.1 = s1 at *
  generalize vs2 f n q.1 = s2 at *
  generalize yv1 f n z = t1 at *
  generalize yv2 f n z = t2 at *
  by_cases c0 : t2.2.2.1 = 0
  · have x1 := (r1.2 (g1 c0)).trans (g2 (g1 c0)).1
    have x2 := (r2.2 c0).trans (g3 c0).1
    have hx : ∀ i, 0 ≤ i → i < 0 + k → upd q.2.1 k s1.1 i = ypr f (7 + 4 * i) ∧ upd q.2.2 k s2.1 i = ypr f (9 + 4 * i) := fun i _ hi => by
      rw [pk_un (by omega), pk_un (by omega)]
      exact hv i (by omega)
    have key := tk_vl (f := f) (xs := upd q.2.1 k s1.1) (ys := upd q.2.2 k s2.1) (k := k) (a := t1.2.1) c0 k 0 hx
    rw [pk_us, pk_us, x1, x2] at key
    rw [(g2 (g1 c0)).1, (g3 c0).1, x1, x2]
    rcases key with ⟨i1, i2, i3⟩ | ⟨i1, i2⟩
    · rw [if_pos i1, i2]
      refine ⟨r2.1, fun _ => ⟨?_, ?_, ?_⟩⟩
      · exact (g3 c0).2.trans (congrArg nI (by omega))
      · intro i hi
        dsimp only
        by_cases w : i = k
        · subst w
          rw [pk_us, pk_us]
          exact ⟨rfl, rfl⟩
        · rw [pk_un w, pk_un w]
          exact hv i (by omega)
      · intro i j hi hj' e1 e2
        by_cases wi : i = k
        · by_cases wj : j = k
          · omega
          · exfalso
            subst wi
            exact i3 j (by omega) (by omega) ⟨e1.symm, e2.symm⟩
        · by_cases wj : j = k
          · exfalso
            subst wj
            exact i3 i (by omega) (by omega) ⟨e1, e2⟩
          · exact hj i j (by omega) (by omega) e1 e2
    · rw [if_neg i1, i2, ep]
      exact ⟨rl_fl r2.1 (by decide) (by decide) _, fun w => absurd w (adv_wr _ (by decide) _)⟩
  · have e1 : fl s2.2 3 s1.2.1 = s2.2 := fl_flt (fun w => c0 ((rl_f r2.1).symm.trans w)) _ _
    rw [yvl_flt c0, e1, ite_self]
    exact ⟨r2.1, fun w => absurd w c0⟩
theorem rv_lp {f : Nat → Int32} {n V : Nat} (hn : n ≤ 8192) (hV : V ≤ 128) : ∀ (d k : Nat) (q : SV) (z : S5), k ≤ V → V ≤ k + d → RV f n k q z → RV f n V (vlp f n (nI V) d k q) (yvs f n (V - k) k z)
  | 0, k, q, z, h1, h2, h => by
    have e : k = V := by omega
    subst e
    rw [Nat.sub_self]
    exact h
  | d + 1, k, q, z, h1, h2, h => by
    unfold vlp
    by_cases e : k = V
    · subst e
      rw [Nat.sub_self, if_pos (nI_le (Nat.le_refl _) (by omega))]
      exact h
    · rw [if_neg (nI_ge (by omega) (by omega)), rl_f h.1, show V - k = (V - (k + 1)) + 1 by omega, yvs]
      by_cases h0 : z.2.1 = 0
      · rw [if_pos h0, if_pos h0]
        exact rv_lp hn hV d (k + 1) _ _ (by omega) (by omega) (rv_st hn (by omega) h h0)
      · rw [if_neg h0, if_neg h0]
        exact ⟨h.1, fun w => absurd w h0⟩
