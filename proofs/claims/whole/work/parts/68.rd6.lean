theorem yal_e (f : Nat → Int32) (n : Nat) (q : S5) (ck : Int32) : yal f n q ck = yrs f n (yml f n 3 0 q) ck := rfl
/-- THE WHOLE READING: class and reference come to the same fault, place and wall; without a fault the bytes are a map's -/
theorem rd_all {f : Nat → Int32} {n : Nat} (hn : n ≤ 8192) (hf : sb_Fit f) (xs ys : Nat → Int32) (sp : Nat → E4) : rl f n (jm f n xs ys sp).1 (yal f n yq0 (-1)).1 ∧ (jm f n xs ys sp).2 = (yal f n yq0 (-1)).2 ∧ ((yal f n yq0 (-1)).1.2.1 = 0 → VF f n) := by
  obtain ⟨z0, e0, r4, h4⟩ := rd_hd (f := f) (n := n) hn
  obtain ⟨z0', e0', r7, h7⟩ := rd_7 hn hf xs ys
  have ez : z0' = z0 := e0'.symm.trans e0
  subst ez
  rw [yal_e, e0]
  unfold jm jen jst jw yrs ya9 ya8
  generalize ya7 f n z0' = y7 at *
  generalize ya4 f n z0' = y4 at *
  generalize ya3 f n z0' = y3 at *
  generalize ya2 f n z0' = y2 at *
  generalize ya1 f n z0' = y1 at *
  generalize js f n xs ys = q7 at *
  generalize jv f n xs ys = v at *
  generalize hd4 f n jq0 = q4 at *
  generalize hd3 f n jq0 = q3 at *
  generalize hd2 f n jq0 = q2 at *
  generalize hd1 f n jq0 = q1 at *
  by_cases c : y7.2.1 = 0
  · obtain ⟨c4, p7, lT, g5, j5, t6⟩ := h7 c
    obtain ⟨p4, ⟨a1, a2, a3, a4⟩, ⟨b1, b2, b3, b4⟩, l1, l2, l3, l4⟩ := h4 c4
    have hP := y_P hn (rl_ok r7) p7 (by omega)
    rw [a1, a2, a3, a4, b1, b2, b3, b4, rl_p r7, p7, nI_clamp (by omega), nI_clamp (by omega)]
    have RA : RW f n (yT f + 9 * yb f 5) (yb f 3) 0 (q7, sp) y7 := ⟨r7, fun _ => ⟨p7, fun i hi => by omega⟩⟩
    have RB := rw_lp (T := yb f 4) (S := yb f 5) hn l1 (by omega) (by omega) (by omega) l4 g5 128 0 _ _ (by omega) (by omega) RA
    rw [Nat.sub_zero] at RB
    generalize wlp f n (nI (yb f 3)) (nI (yb f 4)) (nI (yb f 5)) (nI (yb f 6)) v.2.1 v.2.2 128 0 (q7, sp) = w at *
    generalize ywl f n (nI (yb f 3)) (nI (yb f 4)) (nI (yb f 5)) (yb f 6) y7 = y8 at *
    obtain ⟨r8, d8⟩ := RB
    have r9 : rl f n (enS f n (stS f n (nI (yb f 5)) w.1)) (yen f n (nI (yb f 5)) y8) := by
      rw [yen_e]
      exact rl_en hn (rl_st hn r8 (nI (yb f 5)))
    have a9 : (yen f n (nI (yb f 5)) y8).2.1 = 0 → y8.2.1 = 0 := fun x => adv_en x
    have e9 : (yen f n (nI (yb f 5)) y8).2.1 = 0 → n = yT f + 9 * yb f 5 + 14 * yb f 6 + 8 := fun x => (en_val hn (rl_ok r9) x (d8 (a9 x)).1 (by omega)).2
    generalize enS f n (stS f n (nI (yb f 5)) w.1) = q9 at *
    generalize yen f n (nI (yb f 5)) y8 = y9 at *
    have m := rm_3 (f := f) (n := n) (P := yT f + 9 * yb f 5) (V := yb f 3) (W := yb f 6) (sp := w.2) l4 (q := (q9, -1)) (z := (y9, -1)) (fun x => ⟨j5, by omega, (d8 (a9 x)).2⟩) r9 rfl
    refine ⟨m.1, m.2, fun x => ?_⟩
    have x9 : y9.2.1 = 0 := by
      by_cases u : y9.2.1 = 0
      · exact u
      · rw [yk2_flt (z := (y9, -1)) u] at x
        exact x
    have hN := e9 x9
    exact ⟨⟨fun j hj => (t6 j hj).1, by show yT f + 9 * yb f 5 + 14 * yb f 6 + 8 ≤ 8192; omega⟩, fun j hj => (t6 j hj).2, hN, l1, l2, l3, l4⟩
  · have cq : ¬ q7.2.1 = 0 := fun x => c ((rl_f r7).symm.trans x)
    rw [wlp_flt (q := (q7, sp)) cq, ywl_flt c, yen_flt (rl_pos r7) c]
    dsimp only
    rw [stS_flt cq, enS_flt cq, mk2_flt (q := (q7, -1)) cq, yk2_flt (z := (y7, -1)) c]
    exact ⟨r7, rfl, fun x => absurd x c⟩
