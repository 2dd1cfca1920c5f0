/-! THE READING: meetings -/
theorem rm_1 {f : Nat → Int32} {n P V W k : Nat} {sp : Nat → E4} (hd : dsj f V) (hV : V ≤ 256) (hw : ∀ i, i < W → sp i = wE f (P + 14 * i) ∧ yb f (P + 14 * i + 0) < V ∧ yb f (P + 14 * i + 1) < V ∧ yb f (P + 14 * i + 0) ≠ yb f (P + 14 * i + 1)) (hk : k < W) : ∀ (d o : Nat) (q : SM) (z : SY), o + d ≤ k → rl f n q.1 z.1 → q.2 = z.2 → rl f n (mk1 sp (nI P) k d o q).1 (yk1 f P k d o z).1 ∧ (mk1 sp (nI P) k d o q).2 = (yk1 f P k d o z).2
  | 0, _, _, _, _, h, e => ⟨h, e⟩
  | d + 1, o, q, z, hb, h, e => by
    rw [mk1, yk1, rl_f h]
    by_cases h0 : z.1.2.1 = 0
    · rw [if_pos h0, if_pos h0]
      obtain ⟨k1, k2, k3, k4⟩ := hw k hk
      obtain ⟨o1, o2, o3, o4⟩ := hw o (by omega)
      have key := mt_eq hd hV o2 o3 k2 k3 o4 k4
      rw [← k1, ← o1] at key
      by_cases c : ytc f (P + 14 * o) (P + 14 * k) = 0
      · rw [if_pos c, if_pos (key.mpr c)]
        exact rm_1 hd hV hw hk d (o + 1) q z (by omega) h e
      · rw [if_neg c, if_neg (fun w => c (key.mp w))]
        exact rm_1 hd hV hw hk d (o + 1) (fl q.1 6 (nI P + 14 * nI k), nI k) (ywr z.1 6 (nI P + 14 * nI k), nI k) (by omega) (rl_fl h (by decide) (by decide) _) rfl
    · rw [if_neg h0, if_neg h0]
      exact ⟨h, e⟩
theorem rm_2 {f : Nat → Int32} {n P V W : Nat} {sp : Nat → E4} (hd : dsj f V) (hV : V ≤ 256) (hw : ∀ i, i < W → sp i = wE f (P + 14 * i) ∧ yb f (P + 14 * i + 0) < V ∧ yb f (P + 14 * i + 1) < V ∧ yb f (P + 14 * i + 0) ≠ yb f (P + 14 * i + 1)) (hW : W ≤ 128) : ∀ (d k : Nat) (q : SM) (z : SY), k ≤ W → W ≤ k + d → rl f n q.1 z.1 → q.2 = z.2 → rl f n (mk2 sp (nI P) (nI W) d k q).1 (yk2 f P (W - k) k z).1 ∧ (mk2 sp (nI P) (nI W) d k q).2 = (yk2 f P (W - k) k z).2
  | 0, k, q, z, h1, h2, h, e => by
    have e0 : k = W := by omega
    subst e0
    rw [Nat.sub_self]
    exact ⟨h, e⟩
  | d + 1, k, q, z, h1, h2, h, e => by
    rw [mk2]
    by_cases e0 : k = W
    · subst e0
      rw [Nat.sub_self, if_pos (nI_le (Nat.le_refl _) (by omega))]
      exact ⟨h, e⟩
    · rw [if_neg (nI_ge (by omega) (by omega)), rl_f h, show W - k = (W - (k + 1)) + 1 by omega, yk2]
      by_cases h0 : z.1.2.1 = 0
      · rw [if_pos h0, if_pos h0]
        have r := rm_1 (n := n) hd hV hw (show k < W by omega) k 0 q z (by omega) h e
        exact rm_2 hd hV hw hW d (k + 1) _ _ (by omega) (by omega) r.1 r.2
      · rw [if_neg h0, if_neg h0]
        exact ⟨h, e⟩
theorem mk2_flt {sp : Nat → E4} {wa nw : Int32} {q : SM} (h : ¬ q.1.2.1 = 0) : ∀ d k : Nat, mk2 sp wa nw d k q = q
  | 0, _ => rfl
  | d + 1, k => by rw [mk2, if_neg h, ite_self]
theorem yk2_flt {f : Nat → Int32} {P : Nat} {z : SY} (h : ¬ z.1.2.1 = 0) : ∀ d k : Nat, yk2 f P d k z = z
  | 0, _ => rfl
  | d + 1, k => by rw [yk2, if_neg h]
/-- all meetings -/
theorem rm_3 {f : Nat → Int32} {n P V W : Nat} {sp : Nat → E4} (hW : W ≤ 128) {q : SM} {z : SY} (hw : z.1.2.1 = 0 → dsj f V ∧ V ≤ 256 ∧ ∀ i, i < W → sp i = wE f (P + 14 * i) ∧ yb f (P + 14 * i + 0) < V ∧ yb f (P + 14 * i + 1) < V ∧ yb f (P + 14 * i + 0) ≠ yb f (P + 14 * i + 1)) (h : rl f n q.1 z.1) (e : q.2 = z.2) : rl f n (mk2 sp (nI P) (nI W) 127 1 q).1 (yk2 f P W 0 z).1 ∧ (mk2 sp (nI P) (nI W) 127 1 q).2 = (yk2 f P W 0 z).2 := by
  by_cases h0 : z.1.2.1 = 0
  · obtain ⟨w1, w2, w3⟩ := hw h0
    rcases Nat.eq_zero_or_pos W with rfl | hp
    · rw [mk2, if_pos (by decide)]
      exact ⟨h, e⟩
    · obtain ⟨X, rfl⟩ : ∃ X, W = X + 1 := ⟨W - 1, by omega⟩
      have k := rm_2 (n := n) w1 w2 w3 hW 127 1 q z (by omega) (by omega) h e
      rw [yk2, if_pos h0]
      exact k
  · rw [mk2_flt (fun w => h0 ((rl_f h).symm.trans w)), yk2_flt h0]
    exact ⟨h, e⟩
/-! behind a fault all stands still -/
theorem vlp_flt {f : Nat → Int32} {n : Nat} {v : Int32} {q : SV} (h : ¬ q.1.2.1 = 0) : ∀ d k : Nat, vlp f n v d k q = q
  | 0, _ => rfl
  | d + 1, k => by rw [vlp, if_neg h, ite_self]
theorem txl_flt {f : Nat → Int32} {n : Nat} {q : S3} (h : ¬ q.2.1 = 0) : ∀ d : Nat, txl f n d q = q
  | 0 => rfl
  | d + 1 => by rw [txl, if_neg h]
theorem scl_flt {f : Nat → Int32} {n : Nat} {t : Int32} {q : S3} (h : ¬ q.2.1 = 0) : ∀ d : Nat, scl f n t d q = q
  | 0 => rfl
  | d + 1 => by rw [scl, if_neg h]
theorem wlp_flt {f : Nat → Int32} {n : Nat} {v t s w : Int32} {xs ys : Nat → Int32} {q : SW} (h : ¬ q.1.2.1 = 0) : ∀ d k : Nat, wlp f n v t s w xs ys d k q = q
  | 0, _ => rfl
  | d + 1, k => by rw [wlp, if_neg h, ite_self]
theorem yvs_flt {f : Nat → Int32} {n : Nat} {z : S5} (h : ¬ z.2.1 = 0) : ∀ d k : Nat, yvs f n d k z = z
  | 0, _ => rfl
  | d + 1, k => by rw [yvs, if_neg h]
theorem yts_flt {f : Nat → Int32} {n : Nat} {z : S5} (h : ¬ z.2.1 = 0) : ∀ d : Nat, yts f n d z = z
  | 0 => rfl
  | d + 1 => by rw [yts, if_neg h]
theorem yss_flt {f : Nat → Int32} {n : Nat} {t : Int32} {z : S5} (h : ¬ z.2.1 = 0) : ∀ d : Nat, yss f n t d z = z
  | 0 => rfl
  | d + 1 => by rw [yss, if_neg h]
theorem ywl_flt {f : Nat → Int32} {n : Nat} {v t s : Int32} {z : S5} (h : ¬ z.2.1 = 0) : ∀ d : Nat, ywl f n v t s d z = z
  | 0 => rfl
  | d + 1 => by rw [ywl, if_neg h]
theorem sm_flt {f : Nat → Int32} {n : Nat} {q : S3} (h : ¬ q.2.1 = 0) (lo hi : Int32) : (sm f n q lo hi).2 = q := by
  rw [sm, nx_flt h]
  exact jdS_flt h _ _ _ _
theorem wd_flt {f : Nat → Int32} {n : Nat} {q : S3} (h : ¬ q.2.1 = 0) (lo hi : Int32) : (wd f n q lo hi).2 = q := by
  rw [wd_2, nx_flt h, nx_flt h]
  exact jdS_flt h _ _ _ _
theorem stS_flt {f : Nat → Int32} {n : Nat} {q : S3} (h : ¬ q.2.1 = 0) (s : Int32) : stS f n s q = q := by
  rw [stS, wd_flt h, wd_flt h, sm_flt h, sm_flt h]
theorem enS_flt {f : Nat → Int32} {n : Nat} {q : S3} (h : ¬ q.2.1 = 0) : enS f n q = q := by
  rw [enS, en2, ex_flt h, ex_flt h, fl_flt h, ite_self]
theorem ynx_flt {f : Nat → Int32} {n : Nat} {z : S5} (hp : ¬ z.2.1 < 0) (h : ¬ z.2.1 = 0) (lo hi : Int32) : ynx f n z lo hi = (0, z) := by rw [ynx, if_neg (nle_of hp h)]
theorem ytw_flt {f : Nat → Int32} {n : Nat} {z : S5} (hp : ¬ z.2.1 < 0) (h : ¬ z.2.1 = 0) (lo hi : Int32) : (ytw f n z lo hi).2 = z := by
  have e : (yt2 f n z).2 = z := by
    rw [← yt2_e, ynx_flt hp h, ynx_flt hp h]
  rw [ytw_2, e, if_neg h]
theorem yen_flt {f : Nat → Int32} {n : Nat} {z : S5} (hp : ¬ z.2.1 < 0) (h : ¬ z.2.1 = 0) (s : Int32) : yen f n s z = z := by
  have e : ye4 f n s z = z := by
    rw [ye4, ytw_flt hp h, ytw_flt hp h, ynx_flt hp h, ynx_flt hp h]
  rw [yen, e, ye5, yck_flt hp h, yck_flt hp h, ye6, if_neg h]
