/-! THE WHOLE READING, alike -/
theorem hd1_e (f : Nat → Int32) (n : Nat) (q : S3) : hd1 f n q = sm f n (hdS f n q) 0 128 := rfl
theorem hd2_e (f : Nat → Int32) (n : Nat) (q : S3) : hd2 f n q = sm f n (hd1 f n q).2 0 16 := rfl
theorem hd3_e (f : Nat → Int32) (n : Nat) (q : S3) : hd3 f n q = sm f n (hd2 f n q).2 1 32 := rfl
theorem hd4_e (f : Nat → Int32) (n : Nat) (q : S3) : hd4 f n q = sm f n (hd3 f n q).2 0 128 := rfl
theorem ya1_e (f : Nat → Int32) (n : Nat) (z : S5) : ya1 f n z = ynx f n z 0 128 := rfl
theorem ya2_e (f : Nat → Int32) (n : Nat) (z : S5) : ya2 f n z = ynx f n (ya1 f n z).2 0 16 := rfl
theorem ya3_e (f : Nat → Int32) (n : Nat) (z : S5) : ya3 f n z = ynx f n (ya2 f n z).2 1 32 := rfl
theorem ya4_e (f : Nat → Int32) (n : Nat) (z : S5) : ya4 f n z = ynx f n (ya3 f n z).2 0 128 := rfl
/-- the head: its four numbers -/
theorem rd_hd {f : Nat → Int32} {n : Nat} (hn : n ≤ 8192) : ∃ z0, yml f n 3 0 yq0 = z0 ∧ rl f n (hd4 f n jq0).2 (ya4 f n z0).2 ∧ ((ya4 f n z0).2.2.1 = 0 → (ya4 f n z0).2.1 = nI 7 ∧ ((hd1 f n jq0).1 = nI (yb f 3) ∧ (hd2 f n jq0).1 = nI (yb f 4) ∧ (hd3 f n jq0).1 = nI (yb f 5) ∧ (hd4 f n jq0).1 = nI (yb f 6)) ∧ ((ya1 f n z0).1 = nI (yb f 3) ∧ (ya2 f n z0).1 = nI (yb f 4) ∧ (ya3 f n z0).1 = nI (yb f 5) ∧ (ya4 f n z0).1 = nI (yb f 6)) ∧ yb f 3 ≤ 128 ∧ yb f 4 ≤ 16 ∧ yb f 5 ≤ 32 ∧ yb f 6 ≤ 128) := by
  refine ⟨yml f n 3 0 yq0, rfl, ?_⟩
  have r0 := rl_hd (f := f) hn
  have a0 : (yml f n 3 0 yq0).2.1 = 0 → (yml f n 3 0 yq0).1 = nI 3 := fun w => by
    rw [(adv_ml 3 0 yq0 w).2]
    rfl
  generalize yml f n 3 0 yq0 = z0 at *
  have r1 : rl f n (hd1 f n jq0).2 (ya1 f n z0).2 ∧ ((ya1 f n z0).2.2.1 = 0 → (hd1 f n jq0).1 = (ya1 f n z0).1) := by
    rw [hd1_e, ya1_e]
    exact rl_sm hn r0 0 128
  have r2 : rl f n (hd2 f n jq0).2 (ya2 f n z0).2 ∧ ((ya2 f n z0).2.2.1 = 0 → (hd2 f n jq0).1 = (ya2 f n z0).1) := by
    rw [hd2_e, ya2_e]
    exact rl_sm hn r1.1 0 16
  have r3 : rl f n (hd3 f n jq0).2 (ya3 f n z0).2 ∧ ((ya3 f n z0).2.2.1 = 0 → (hd3 f n jq0).1 = (ya3 f n z0).1) := by
    rw [hd3_e, ya3_e]
    exact rl_sm hn r2.1 1 32
  have r4 : rl f n (hd4 f n jq0).2 (ya4 f n z0).2 ∧ ((ya4 f n z0).2.2.1 = 0 → (hd4 f n jq0).1 = (ya4 f n z0).1) := by
    rw [hd4_e, ya4_e]
    exact rl_sm hn r3.1 0 128
  refine ⟨r4.1, fun h4 => ?_⟩
  have h4' := h4
  rw [ya4_e] at h4'
  have h3 := (adv_nx h4').1
  have h3' := h3
  rw [ya3_e] at h3'
  have h2 := (adv_nx h3').1
  have h2' := h2
  rw [ya2_e] at h2'
  have h1 := (adv_nx h2').1
  have h1' := h1
  rw [ya1_e] at h1'
  have v1 := nx_val h1' (a0 (adv_nx h1').1) (by omega)
  rw [← ya1_e] at v1
  have v2 := nx_val h2' v1.2.2.2 (by omega)
  rw [← ya2_e] at v2
  have v3 := nx_val h3' v2.2.2.2 (by omega)
  rw [← ya3_e] at v3
  have v4 := nx_val h4' v3.2.2.2 (by omega)
  rw [← ya4_e] at v4
  have l1 := yb_lt f 3
  have l2 := yb_lt f 4
  have l3 := yb_lt f 5
  have l4 := yb_lt f 6
  refine ⟨v4.2.2.2, ⟨(r1.2 h1).trans v1.1, (r2.2 h2).trans v2.1, (r3.2 h3).trans v3.1, (r4.2 h4).trans v4.1⟩, ⟨v1.1, v2.1, v3.1, v4.1⟩, ?_, ?_, ?_, ?_⟩
  · exact (nI_leI (b := 128) (by omega) (by omega)).mp v1.2.2.1
  · exact (nI_leI (b := 16) (by omega) (by omega)).mp v2.2.2.1
  · exact (nI_leI (b := 32) (by omega) (by omega)).mp v3.2.2.1
  · exact (nI_leI (b := 128) (by omega) (by omega)).mp v4.2.2.1
/-- what a reading of n bytes f without a fault says of them -/
def VF (f : Nat → Int32) (n : Nat) : Prop := VM f ∧ (∀ j, j < yb f 4 → ∀ P, yta f (yb f 3) j + 2 ≤ P → P < yta f (yb f 3) (j + 1) → yb f P ≤ 15) ∧ n = yT f + 9 * yb f 5 + 14 * yb f 6 + 8 ∧ yb f 3 ≤ 128 ∧ yb f 4 ≤ 16 ∧ yb f 5 ≤ 32 ∧ yb f 6 ≤ 128
/-- up to the walls -/
theorem rd_7 {f : Nat → Int32} {n : Nat} (hn : n ≤ 8192) (hf : sb_Fit f) (xs ys : Nat → Int32) : ∃ z0, yml f n 3 0 yq0 = z0 ∧ rl f n (js f n xs ys) (ya7 f n z0) ∧ ((ya7 f n z0).2.1 = 0 → (ya4 f n z0).2.2.1 = 0 ∧ (ya7 f n z0).1 = nI (yT f + 9 * yb f 5) ∧ yT f ≤ n ∧ (∀ i, i < yb f 3 → (jv f n xs ys).2.1 i = ypr f (7 + 4 * i) ∧ (jv f n xs ys).2.2 i = ypr f (9 + 4 * i)) ∧ dsj f (yb f 3) ∧ (∀ j, j < yb f 4 → (∃ a b : Nat, a ≤ 4 ∧ b ≤ 4 ∧ f (yta f (yb f 3) j) = nI a ∧ f (yta f (yb f 3) j + 1) = nI b) ∧ ∀ P, yta f (yb f 3) j + 2 ≤ P → P < yta f (yb f 3) (j + 1) → yb f P ≤ 15)) := by
  obtain ⟨z0, e0, r4, h4⟩ := rd_hd (f := f) (n := n) hn
  refine ⟨z0, e0, ?_⟩
  unfold js jt jv ya7 ya6 ya5
  generalize ya4 f n z0 = y4 at *
  generalize ya3 f n z0 = y3 at *
  generalize ya2 f n z0 = y2 at *
  generalize ya1 f n z0 = y1 at *
  generalize hd4 f n jq0 = q4 at *
  generalize hd3 f n jq0 = q3 at *
  generalize hd2 f n jq0 = q2 at *
  generalize hd1 f n jq0 = q1 at *
  by_cases c : y4.2.2.1 = 0
  · obtain ⟨p7, ⟨a1, a2, a3, a4⟩, ⟨b1, b2, b3, b4⟩, l1, l2, l3, l4⟩ := h4 c
    rw [a1, a2, a3, b1, b2, b3, nI_clamp (by omega), nI_clamp (by omega), nI_clamp (by omega)]
    have R5 : RV f n 0 (q4.2, xs, ys) y4.2 := ⟨r4, fun _ => ⟨p7, fun i hi => by omega, fun i j hi => by omega⟩⟩
    have R6' := rv_lp hn l1 128 0 _ _ (by omega) (by omega) R5
    rw [Nat.sub_zero] at R6'
    generalize vlp f n (nI (yb f 3)) 128 0 (q4.2, xs, ys) = v at *
    generalize yvs f n (yb f 3) 0 y4.2 = w at *
    obtain ⟨r5, d5⟩ := R6'
    have r6 := rl_txl hn (yb f 4) _ _ r5
    have r7 := rl_scl hn (T := yb f 4) (by omega) (yb f 5) _ _ r6
    refine ⟨r7, fun h7 => ?_⟩
    have h6 : (yts f n (yb f 4) w).2.1 = 0 := by
      by_cases x : (yts f n (yb f 4) w).2.1 = 0
      · exact x
      · rw [yss_flt x] at h7
        exact h7
    have h5 : w.2.1 = 0 := by
      by_cases x : w.2.1 = 0
      · exact x
      · rw [yts_flt x] at h6
        exact h6
    obtain ⟨p5, g5, j5⟩ := d5 h5
    have ho := rl_ok r5
    have pl := y_P hn ho p5 (by omega)
    have t6 := ts_val (V := yb f 3) hn hf (yb f 4) 0 w ho p5 pl h6
    rw [Nat.zero_add] at t6
    have s7 := ss_val (t := nI (yb f 4)) (yb f 5) (yta f (yb f 3) (yb f 4)) _ (by have := t6.2.2.1; omega) t6.2.1 h7
    exact ⟨c, s7.2, t6.2.2.1, g5, j5, fun j hj => t6.2.2.2 j (by omega) (by omega)⟩
  · have cq : ¬ q4.2.2.1 = 0 := fun x => c ((rl_f r4).symm.trans x)
    rw [vlp_flt (q := (q4.2, xs, ys)) cq, txl_flt cq, scl_flt cq, yvs_flt c, yts_flt c, yss_flt c]
    exact ⟨r4, fun x => absurd x c⟩
