/-! THE READING: walls -/
theorem ywt6 (f : Nat → Int32) (n : Nat) (t b : Int32) (z : S5) : ywt f n t b 6 0 z = yws f n t b 5 (yws f n t b 4 (yws f n t b 3 (yws f n t b 2 (yws f n t b 1 (yws f n t b 0 z))))) := rfl
theorem rl_pos {f : Nat → Int32} {n : Nat} {q : S3} {z : S5} (h : rl f n q z) : ¬ z.2.1 < 0 := by
  obtain ⟨P, hP, eP, e1, e2, e3, hp, hs⟩ := h
  exact hp
theorem rl_ok {f : Nat → Int32} {n : Nat} {q : S3} {z : S5} (h : rl f n q z) : ok5 n z := by
  obtain ⟨P, hP, eP, e1, e2, e3, hp, hs⟩ := h
  exact ⟨P, hP, eP⟩
theorem rl_fp {f : Nat → Int32} {n : Nat} {q : S3} {z : S5} (h : rl f n q z) : q.2.2 = z.2.2.1 := by
  obtain ⟨P, hP, eP, e1, e2, e3, hp, hs⟩ := h
  exact e3
/-- a wall's six textures -/
theorem rl_w6 {f : Nat → Int32} {n : Nat} {q : S3} {z : S5} (hn : n ≤ 8192) (h : rl f n q z) {T : Nat} (hT : T ≤ 255) {bc b : Int32} (hb : z.2.1 = 0 → bc = b) : rl f n (wt3 f n (if bc = 255 then -1 else nI T - 1) (wt3 f n (nI T - 1) q)) (ywt f n (nI T) b 6 0 z) := by
  have r3 := rl_w3 hn h hT
  have ha : (yor f n (yor f n (yor f n z (nI T)).2 (nI T)).2 (nI T)).2.2.1 = 0 → z.2.1 = 0 := fun w => (adv_or (adv_or (adv_or w).1).1).1
  rw [ywt6, ws_lo (k := 0) (by decide), ws_lo (k := 1) (by decide), ws_lo (k := 2) (by decide)]
  generalize (yor f n (yor f n (yor f n z (nI T)).2 (nI T)).2 (nI T)).2 = z3 at *
  generalize wt3 f n (nI T - 1) q = q3 at *
  by_cases hz : z3.2.1 = 0
  · have e := hb (ha hz)
    subst e
    by_cases w : bc = 255
    · subst w
      rw [if_pos rfl, ws_255 (k := 3) (by decide), ws_255 (k := 4) (by decide), ws_255 (k := 5) (by decide), show (-1 : Int32) = nI 0 - 1 from by decide]
      exact rl_w3 hn r3 (by omega)
    · rw [if_neg w, ws_b w, ws_b w, ws_b w]
      exact rl_w3 hn r3 hT
  · rw [wt3_flt (fun w => hz ((rl_f r3).symm.trans w))]
    have e : ∀ k : Nat, ¬ nI k ≤ 2 → yws f n (nI T) b k z3 = z3 := fun k hk => by
      by_cases w : b = 255
      · subst w
        rw [ws_255 hk, yor_flt (rl_pos r3) hz]
      · rw [ws_b w, yor_flt (rl_pos r3) hz]
    rw [e 3 (by decide), e 4 (by decide), e 5 (by decide)]
    exact r3
theorem wl1_e (f : Nat → Int32) (n : Nat) (v s : Int32) (q : S3) : wl1 f n v s q = sm f n (weS f n v q) 0 (s - 1) := rfl
theorem wl2_e (f : Nat → Int32) (n : Nat) (v s : Int32) (q : S3) : wl2 f n v s q = sa f n (wl1 f n v s q).2 (s - 1) := rfl
theorem wl3_e (f : Nat → Int32) (n : Nat) (v t s : Int32) (q : S3) : wl3 f n v t s q = wt3 f n (if (wl2 f n v s q).1 = 255 then -1 else t - 1) (wt3 f n (t - 1) (wl2 f n v s q).2) := rfl
theorem wl4_e (f : Nat → Int32) (n : Nat) (v t s : Int32) (q : S3) : wl4 f n v t s q = (sm f n (sm f n (sm f n (sm f n (wl3 f n v t s q) 0 255).2 0 3).2 0 5).2 0 255).2 := rfl
theorem yw4_e (f : Nat → Int32) (n : Nat) (v s : Int32) (z : S5) : yw4 f n v s z = ynx f n (yw3 f n v z) 0 (s - 1) := rfl
theorem yw5_e (f : Nat → Int32) (n : Nat) (v s : Int32) (z : S5) : yw5 f n v s z = yor f n (yw4 f n v s z).2 s := rfl
theorem yw6_e (f : Nat → Int32) (n : Nat) (v t s : Int32) (z : S5) : yw6 f n v t s z = ywt f n t (yw5 f n v s z).1 6 0 (yw5 f n v s z).2 := rfl
theorem ywa_e (f : Nat → Int32) (n : Nat) (v t s : Int32) (z : S5) : ywa f n v t s z = (ynx f n (ynx f n (ynx f n (ynx f n (yw6 f n v t s z) 0 255).2 0 3).2 0 5).2 0 255).2 := rfl
theorem yw1_e (f : Nat → Int32) (n : Nat) (v : Int32) (z : S5) : yw1 f n v z = ynx f n z 0 (v - 1) := rfl
theorem yw2_e (f : Nat → Int32) (n : Nat) (v : Int32) (z : S5) : yw2 f n v z = ynx f n (yw1 f n v z).2 0 (v - 1) := rfl
theorem we1_e (f : Nat → Int32) (n : Nat) (v : Int32) (q : S3) : we1 f n v q = sm f n q 0 (v - 1) := rfl
theorem we2_e (f : Nat → Int32) (n : Nat) (v : Int32) (q : S3) : we2 f n v q = sm f n (we1 f n v q).2 0 (v - 1) := rfl
/-- a wall -/
theorem rl_wl {f : Nat → Int32} {n : Nat} {q : S3} {z : S5} (hn : n ≤ 8192) (h : rl f n q z) {v : Int32} {T S : Nat} (hT : T ≤ 255) (hS : S ≤ 255) : rl f n (wl4 f n v (nI T) (nI S) q) (ywa f n v (nI T) (nI S) z) := by
  have r3 := rl_we hn h v
  have r4 : rl f n (wl1 f n v (nI S) q).2 (yw4 f n v (nI S) z).2 := by
    rw [wl1_e, yw4_e]
    exact (rl_sm hn r3 0 (nI S - 1)).1
  have r5 : rl f n (wl2 f n v (nI S) q).2 (yw5 f n v (nI S) z).2 ∧ ((yw5 f n v (nI S) z).2.2.1 = 0 → (wl2 f n v (nI S) q).1 = (yw5 f n v (nI S) z).1) := by
    rw [wl2_e, yw5_e]
    exact rl_sa hn r4 hS
  have r6 : rl f n (wl3 f n v (nI T) (nI S) q) (yw6 f n v (nI T) (nI S) z) := by
    rw [wl3_e, yw6_e]
    exact rl_w6 hn r5.1 hT r5.2
  rw [wl4_e, ywa_e]
  exact (rl_sm hn (rl_sm hn (rl_sm hn (rl_sm hn r6 0 255).1 0 3).1 0 5).1 0 255).1
theorem adv_wa3 {f : Nat → Int32} {n : Nat} {v t s : Int32} {z : S5} (h : (ywa f n v t s z).2.1 = 0) : (yw3 f n v z).2.1 = 0 := by
  rw [ywa_e] at h
  have h6 := (adv_nx (adv_nx (adv_nx (adv_nx h).1).1).1).1
  rw [yw6_e] at h6
  have h5 := (adv_wt 6 0 _ h6).1
  rw [yw5_e] at h5
  have h4 := (adv_or h5).1
  rw [yw4_e] at h4
  exact (adv_nx h4).1
/-- a wall's vertices: their numbers -/
theorem w3_val {f : Nat → Int32} {n V P : Nat} {z : S5} (h : (yw3 f n (nI V) z).2.1 = 0) (e : z.1 = nI P) (hP : P < 2 ^ 30) (hV : V ≤ 255) : (yw1 f n (nI V) z).2.2.1 = 0 ∧ (yw2 f n (nI V) z).2.2.1 = 0 ∧ (yw1 f n (nI V) z).1 = nI (yb f P) ∧ (yw2 f n (nI V) z).1 = nI (yb f (P + 1)) ∧ yb f P < V ∧ yb f (P + 1) < V ∧ yb f P ≠ yb f (P + 1) := by
  unfold yw3 at h
  split at h
  · rename_i h2
    split at h
    · exact absurd h (adv_wr _ (by decide) _)
    · rename_i h3
      have h2' := h2
      rw [yw2_e] at h2'
      have h1 := (adv_nx h2').1
      have h1' := h1
      rw [yw1_e] at h1'
      have v1 := nx_val h1' e (by omega)
      rw [← yw1_e] at v1
      have v2 := nx_val h2' v1.2.2.2 (by omega)
      rw [← yw2_e] at v2
      have l1 := yb_lt f P
      have l2 := yb_lt f (P + 1)
      refine ⟨h1, h2, v1.1, v2.1, ?_, ?_, ?_⟩
      · have w := v1.2.2.1
        rw [le_m1 _ _ (by omega) (by omega), nI_ltI (by omega) (by omega)] at w
        exact w
      · have w := v2.2.2.1
        rw [le_m1 _ _ (by omega) (by omega), nI_ltI (by omega) (by omega)] at w
        exact w
      · intro w
        apply h3
        rw [v1.1, v2.1, w]
  · rename_i h1
    exact absurd h h1
/-- k walls read on both sides -/
def RW (f : Nat → Int32) (n P V k : Nat) (q : SW) (z : S5) : Prop := rl f n q.1 z ∧ (z.2.1 = 0 → z.1 = nI (P + 14 * k) ∧ ∀ i, i < k → q.2 i = wE f (P + 14 * i) ∧ yb f (P + 14 * i + 0) < V ∧ yb f (P + 14 * i + 1) < V ∧ yb f (P + 14 * i + 0) ≠ yb f (P + 14 * i + 1))
theorem rw_st {f : Nat → Int32} {n P V T S k : Nat} {xs ys : Nat → Int32} {q : SW} {z : S5} (hn : n ≤ 8192) (hV : V ≤ 128) (hT : T ≤ 255) (hS : S ≤ 255) (hP : P ≤ 8192) (hk : k ≤ 255) (hv : ∀ i, i < V → xs i = ypr f (7 + 4 * i) ∧ ys i = ypr f (9 + 4 * i)) (h : RW f n P V k q z) (h0 : z.2.1 = 0) : RW f n P V (k + 1) (wst f n (nI V) (nI T) (nI S) xs ys k q) (ywa f n (nI V) (nI T) (nI S) z) := by
  obtain ⟨hr, hd⟩ := h
  obtain ⟨hp, hw⟩ := hd h0
  have rA : rl f n (wl4 f n (nI V) (nI T) (nI S) q.1) (ywa f n (nI V) (nI T) (nI S) z) := rl_wl hn hr hT hS
  have hA : (ywa f n (nI V) (nI T) (nI S) z).2.1 = 0 → (ywa f n (nI V) (nI T) (nI S) z).1 = nI (P + 14 * (k + 1)) ∧ (yw3 f n (nI V) z).2.1 = 0 := fun hz => by
    refine ⟨?_, adv_wa3 hz⟩
    rw [(adv_wa hz).2, hp, show (14 : Int32) = nI 14 from rfl, nI_add]
    exact congrArg nI (by omega)
  have hE : (yw3 f n (nI V) z).2.1 = 0 → weE f n (nI V) xs ys q.1 (q.2 k) = wE f (P + 14 * k) ∧ yb f (P + 14 * k + 0) < V ∧ yb f (P + 14 * k + 1) < V ∧ yb f (P + 14 * k + 0) ≠ yb f (P + 14 * k + 1) := fun h3 => by
    obtain ⟨u1, u2, u3, u4, u5, u6, u7⟩ := w3_val h3 hp (by omega) (by omega)
    have r1 : rl f n (we1 f n (nI V) q.1).2 (yw1 f n (nI V) z).2 ∧ ((yw1 f n (nI V) z).2.2.1 = 0 → (we1 f n (nI V) q.1).1 = (yw1 f n (nI V) z).1) := by
      rw [we1_e, yw1_e]
      exact rl_sm hn hr 0 (nI V - 1)
    have r2 : rl f n (we2 f n (nI V) q.1).2 (yw2 f n (nI V) z).2 ∧ ((yw2 f n (nI V) z).2.2.1 = 0 → (we2 f n (nI V) q.1).1 = (yw2 f n (nI V) z).1) := by
      rw [we2_e, yw2_e]
      exact rl_sm hn r1.1 0 (nI V - 1)
    have x1 := (r1.2 u1).trans u3
    have x2 := (r2.2 u2).trans u4
    have g128 : ∀ j : Nat, j < V → ¬ (128 : Int32) ≤ nI j := fun j hj => nI_ge (b := 128) (by omega) (by omega)
    refine ⟨?_, u5, u6, u7⟩
    unfold weE
    rw [x1, x2, if_neg (g128 _ u5), if_neg (g128 _ u6), nI_clamp (by omega), nI_clamp (by omega), (hv _ u5).1, (hv _ u5).2, (hv _ u6).1, (hv _ u6).2]
    rfl
  have eW : wst f n (nI V) (nI T) (nI S) xs ys k q = (wl4 f n (nI V) (nI T) (nI S) q.1, pu q.2 k (weE f n (nI V) xs ys q.1 (q.2 k))) := by rw [wst]
  rw [eW]
  generalize wl4 f n (nI V) (nI T) (nI S) q.1 = qa at *
  generalize ywa f n (nI V) (nI T) (nI S) z = za at *
  generalize yw3 f n (nI V) z = zb at *
  generalize weE f n (nI V) xs ys q.1 (q.2 k) = ea at *
  refine ⟨rA, fun hz => ⟨(hA hz).1, fun i hi => ?_⟩⟩
  dsimp only
  unfold pu
  by_cases w : i = k
  · subst w
    rw [if_pos rfl]
    exact hE (hA hz).2
  · rw [if_neg w]
    exact hw i (by omega)
theorem rw_lp {f : Nat → Int32} {n P V T S W : Nat} {xs ys : Nat → Int32} (hn : n ≤ 8192) (hV : V ≤ 128) (hT : T ≤ 255) (hS : S ≤ 255) (hP : P ≤ 8192) (hW : W ≤ 128) (hv : ∀ i, i < V → xs i = ypr f (7 + 4 * i) ∧ ys i = ypr f (9 + 4 * i)) : ∀ (d k : Nat) (q : SW) (z : S5), k ≤ W → W ≤ k + d → RW f n P V k q z → RW f n P V W (wlp f n (nI V) (nI T) (nI S) (nI W) xs ys d k q) (ywl f n (nI V) (nI T) (nI S) (W - k) z)
  | 0, k, q, z, h1, h2, h => by
    have e : k = W := by omega
    subst e
    rw [Nat.sub_self]
    exact h
  | d + 1, k, q, z, h1, h2, h => by
    unfold wlp
    by_cases e : k = W
    · subst e
      rw [Nat.sub_self, if_pos (nI_le (Nat.le_refl _) (by omega))]
      exact h
    · rw [if_neg (nI_ge (by omega) (by omega)), rl_f h.1, show W - k = (W - (k + 1)) + 1 by omega, ywl]
      by_cases h0 : z.2.1 = 0
      · rw [if_pos h0, if_pos h0]
        exact rw_lp hn hV hT hS hP hW hv d (k + 1) _ _ (by omega) (by omega) (rw_st hn hV hT hS hP (by omega) hv h h0)
      · rw [if_neg h0, if_neg h0]
        exact ⟨h.1, fun w => absurd w h0⟩
