set_option maxRecDepth 100000 in
set_option maxHeartbeats 4000000 in
/-- Reader.fail -/
theorem c_Rd_fail (l : Launch) (D : va_G) (cB cI cS : ClassId) (r0 rw rx ry rs : Nat) (nv nt ns nw wa fw : Int32) (q : S3) (num pl : Int32)  : mV l y_Rd_fail b_Rd_fail 3 (none) 0 D cls [(cB, .byte), (cI, .int), (cS, .object "MapLumps$Span")] [.ref r0, .int num, .int pl] ([(r0, .inr (1, [.ref rw, .ref rx, .ref ry, .ref rs, .int nv, .int nt, .int ns, .int nw, .int wa, .int q.1, .int q.2.1, .int q.2.2, .int fw]))]) ([(r0, .inr (1, [.ref rw, .ref rx, .ref ry, .ref rs, .int nv, .int nt, .int ns, .int nw, .int wa, .int ((fl q num pl).1), .int ((fl q num pl).2.1), .int ((fl q num pl).2.2), .int fw]))]) := by
  refine pz_openV (by decide) (Nat.le_of_ble_eq_true rfl) ?_
  intro p e s m below meth c A ls Q X hN hK hP hD hS hA hl fin
  obtain ⟨hx, hb, hml, hown, hts⟩ := id X
  have hl : lv_has ls 3 [(0, .ref r0), (1, .int num), (2, .int pl)] := hl
  refine lv_aload_n hx hb d_Rd_fail_0 rfl (lv_at hl 0 rfl) ?_
  refine va_get (D := D) (ci := 1) (v := .int q.2.1) (C := R_Rd) (T := T_Rd) (N := 13) hx hb hts i_Rd hown hK hP 0 rfl rfl 10 (by decide) (hts _ w_84) (fun _ h9 => h9) rfl d_Rd_fail_1 ?_
  refine lv_if_ne (tgt := 17) hx hb d_Rd_fail_4 (by decide) (fun c_1 => ?_) (fun c_1 => ?_)
  · exact fin _ _ _ _ _ d_Rd_fail_17 hP hS (by simp only [fl, if_neg c_1])
  · refine lv_aload_n hx hb d_Rd_fail_7 rfl (lv_at hl 0 rfl) ?_
    refine lv_iload_n hx hb d_Rd_fail_8 rfl (lv_at hl 1 rfl) ?_
    refine va_put (D := D) (ci := 1) (v := .int num) (ty := (.int)) (C := R_Rd) (T := T_Rd) (N := 13) hx hb hts i_Rd ty_Rd tyok_Rd nm_Rd hown hK hP hD hS 0 rfl rfl 10 (by decide) (hts _ w_84) (fun _ h9 => h9) rfl (by decide +kernel) rfl rfl (Nat.le_of_ble_eq_true rfl) d_Rd_fail_9 (fun H locs hP hD hS => ?_)
    have hP : va_P D cls ([(r0, .inr (1, [.ref rw, .ref rx, .ref ry, .ref rs, .int nv, .int nt, .int ns, .int nw, .int wa, .int q.1, .int num, .int q.2.2, .int fw]))]) H := hP
    have hD : va_D A ([(r0, .inr (1, [.ref rw, .ref rx, .ref ry, .ref rs, .int nv, .int nt, .int ns, .int nw, .int wa, .int q.1, .int num, .int q.2.2, .int fw]))]) := hD
    refine lv_aload_n hx hb d_Rd_fail_12 rfl (lv_at hl 0 rfl) ?_
    refine lv_iload_n hx hb d_Rd_fail_13 rfl (lv_at hl 2 rfl) ?_
    refine va_put (D := D) (ci := 1) (v := .int pl) (ty := (.int)) (C := R_Rd) (T := T_Rd) (N := 13) hx hb hts i_Rd ty_Rd tyok_Rd nm_Rd hown hK hP hD hS 0 rfl rfl 11 (by decide) (hts _ w_86) (fun _ h9 => h9) rfl (by decide +kernel) rfl rfl (Nat.le_of_ble_eq_true rfl) d_Rd_fail_14 (fun H locs hP hD hS => ?_)
    have hP : va_P D cls ([(r0, .inr (1, [.ref rw, .ref rx, .ref ry, .ref rs, .int nv, .int nt, .int ns, .int nw, .int wa, .int q.1, .int num, .int pl, .int fw]))]) H := hP
    have hD : va_D A ([(r0, .inr (1, [.ref rw, .ref rx, .ref ry, .ref rs, .int nv, .int nt, .int ns, .int nw, .int wa, .int q.1, .int num, .int pl, .int fw]))]) := hD
    exact fin _ _ _ _ _ d_Rd_fail_17 hP hS (by simp only [fl, if_pos c_1])

set_option maxRecDepth 100000 in
set_option maxHeartbeats 4000000 in
/-- Reader.next -/
theorem c_Rd_next (l : Launch) (D : va_G) (cB cI cS : ClassId) (r0 rw rx ry rs rb : Nat) (nv nt ns nw wa fw : Int32) (q : S3) (f : Nat → Int32) (n : Nat) (hn : n ≤ 8192) : mI l y_Rd_next b_Rd_next 2 (some .int) 1 D cls [(cB, .byte), (cI, .int), (cS, .object "MapLumps$Span")] [.ref r0] ([(r0, .inr (1, [.ref rw, .ref rx, .ref ry, .ref rs, .int nv, .int nt, .int ns, .int nw, .int wa, .int q.1, .int q.2.1, .int q.2.2, .int fw])), (rw, .inr (3, [.ref rb, .int (nI n)])), (rb, .inl (cB, 8192, .inl f))]) ((nx f n q).1) ([(r0, .inr (1, [.ref rw, .ref rx, .ref ry, .ref rs, .int nv, .int nt, .int ns, .int nw, .int wa, .int ((nx f n q).2.1), .int ((nx f n q).2.2.1), .int ((nx f n q).2.2.2), .int fw])), (rw, .inr (3, [.ref rb, .int (nI n)])), (rb, .inl (cB, 8192, .inl f))]) := by
  refine pz_openI (by decide) (Nat.le_of_ble_eq_true rfl) ?_
  intro p e s m below meth c A ls Q X hN hK hP hD hS hA hl fin
  obtain ⟨hx, hb, hml, hown, hts⟩ := id X
  have hl : lv_has ls 2 [(0, .ref r0)] := hl
  refine lv_aload_n hx hb d_Rd_next_0 rfl (lv_at hl 0 rfl) ?_
  refine va_get (D := D) (ci := 1) (v := .int q.2.1) (C := R_Rd) (T := T_Rd) (N := 13) hx hb hts i_Rd hown hK hP 0 rfl rfl 10 (by decide) (hts _ w_84) (fun _ h9 => h9) rfl d_Rd_next_1 ?_
  refine lv_if_eq (tgt := 9) hx hb d_Rd_next_4 (by decide) (fun c_1 => ?_) (fun c_1 => ?_)
  · refine lv_aload_n hx hb d_Rd_next_9 rfl (lv_at hl 0 rfl) ?_
    refine va_get (D := D) (ci := 1) (v := .ref rw) (C := R_Rd) (T := T_Rd) (N := 13) hx hb hts i_Rd hown hK hP 0 rfl rfl 0 (by decide) (hts _ w_73) (fun _ h9 => h9) rfl d_Rd_next_10 ?_
    refine lv_aload_n hx hb d_Rd_next_13 rfl (lv_at hl 0 rfl) ?_
    refine va_get (D := D) (ci := 1) (v := .int q.1) (C := R_Rd) (T := T_Rd) (N := 13) hx hb hts i_Rd hown hK hP 0 rfl rfl 9 (by decide) (hts _ w_83) (fun _ h9 => h9) rfl d_Rd_next_14 ?_
    refine pz_i0 (pz_rV (d := 0) (As := [.int q.1]) (rest := []) X hN (c_Rw_get l D cB cI cS rw rb f n q.1 hn _) k_Rw_get w_228 ⟨by decide, by decide⟩ hK hP hD [1, 2] rfl rfl 1 rfl rfl rfl rfl hl.1 rfl (Nat.le_of_ble_eq_true rfl) d_Rd_next_17 ⟨Nat.zero_le _, Nat.zero_le _⟩) hP hD hS hA [1, 2] rfl (fun H locs hP hS => ?_)
    refine lv_istore_n (lv' := [(1, .int (rg f n q.1)), (0, .ref r0)]) hx hb d_Rd_next_20 rfl hl (by decide) rfl (fun ls hl => ?_)
    refine lv_iload_n hx hb d_Rd_next_21 rfl (lv_at hl 0 rfl) ?_
    refine lv_iconst (v := (-1)) hx hb d_Rd_next_22 (by decide) ?_
    refine lv_icmp_ne (tgt := 40) hx hb d_Rd_next_23 (by decide) (fun c_2 => ?_) (fun c_2 => ?_)
    · refine lv_aload_n hx hb d_Rd_next_40 rfl (lv_at hl 1 rfl) ?_
      refine lv_dup hx hb d_Rd_next_41 rfl ?_
      refine va_get (D := D) (ci := 1) (v := .int q.1) (C := R_Rd) (T := T_Rd) (N := 13) hx hb hts i_Rd hown hK hP 0 rfl rfl 9 (by decide) (hts _ w_83) (fun _ h9 => h9) rfl d_Rd_next_42 ?_
      refine lv_iconst (v := 1) hx hb d_Rd_next_45 (by decide) ?_
      refine lv_iadd hx hb d_Rd_next_46 ?_
      refine va_put (D := D) (ci := 1) (v := .int (q.1 + 1)) (ty := (.int)) (C := R_Rd) (T := T_Rd) (N := 13) hx hb hts i_Rd ty_Rd tyok_Rd nm_Rd hown hK hP hD hS 0 rfl rfl 9 (by decide) (hts _ w_83) (fun _ h9 => h9) rfl (by decide +kernel) rfl rfl (Nat.le_of_ble_eq_true rfl) d_Rd_next_47 (fun H locs hP hD hS => ?_)
      have hP : va_P D cls ([(r0, .inr (1, [.ref rw, .ref rx, .ref ry, .ref rs, .int nv, .int nt, .int ns, .int nw, .int wa, .int (q.1 + 1), .int q.2.1, .int q.2.2, .int fw])), (rw, .inr (3, [.ref rb, .int (nI n)])), (rb, .inl (cB, 8192, .inl f))]) H := hP
      have hD : va_D A ([(r0, .inr (1, [.ref rw, .ref rx, .ref ry, .ref rs, .int nv, .int nt, .int ns, .int nw, .int wa, .int (q.1 + 1), .int q.2.1, .int q.2.2, .int fw])), (rw, .inr (3, [.ref rb, .int (nI n)])), (rb, .inl (cB, 8192, .inl f))]) := hD
      refine lv_iload_n hx hb d_Rd_next_50 rfl (lv_at hl 0 rfl) ?_
      exact fin _ _ _ _ _ _ d_Rd_next_51 hP hS (by simp only [nx, if_pos c_1, if_neg c_2]) (by simp only [nx, if_pos c_1, if_neg c_2])
    · refine lv_aload_n hx hb d_Rd_next_26 rfl (lv_at hl 1 rfl) ?_
      refine lv_iconst (v := 1) hx hb d_Rd_next_27 (by decide) ?_
      refine lv_aload_n hx hb d_Rd_next_28 rfl (lv_at hl 1 rfl) ?_
      refine va_get (D := D) (ci := 1) (v := .ref rw) (C := R_Rd) (T := T_Rd) (N := 13) hx hb hts i_Rd hown hK hP 0 rfl rfl 0 (by decide) (hts _ w_73) (fun _ h9 => h9) rfl d_Rd_next_29 ?_
      refine va_getN (D := D) (ci := 3) (v := .int (nI n)) (C := R_Rw) (T := T_Rw) (N := 2) hx hb hts i_Rw hown hK hP 1 rfl rfl 1 (by decide) (nf_33 hN) (fun _ h9 => h9) rfl d_Rd_next_32 ?_
      refine pz_v (pz_rV (d := 0) (As := [.int 1, .int (nI n)]) (rest := []) X hN (c_Rd_fail l D cB cI cS r0 rw rx ry rs nv nt ns nw wa fw q 1 (nI n) _) k_Rd_fail w_232 ⟨by decide, by decide⟩ hK hP hD [0] rfl rfl 0 rfl rfl rfl rfl hl.1 rfl (Nat.le_of_ble_eq_true rfl) d_Rd_next_35 ⟨Nat.zero_le _, Nat.zero_le _⟩) hP hD hS hA [0] rfl [r0] rfl rfl (fun H locs hP hD hS => ?_)
      have hP : va_P D cls ([(r0, .inr (1, [.ref rw, .ref rx, .ref ry, .ref rs, .int nv, .int nt, .int ns, .int nw, .int wa, .int ((fl q 1 (nI n)).1), .int ((fl q 1 (nI n)).2.1), .int ((fl q 1 (nI n)).2.2), .int fw])), (rw, .inr (3, [.ref rb, .int (nI n)])), (rb, .inl (cB, 8192, .inl f))]) H := hP
      have hD : va_D A ([(r0, .inr (1, [.ref rw, .ref rx, .ref ry, .ref rs, .int nv, .int nt, .int ns, .int nw, .int wa, .int ((fl q 1 (nI n)).1), .int ((fl q 1 (nI n)).2.1), .int ((fl q 1 (nI n)).2.2), .int fw])), (rw, .inr (3, [.ref rb, .int (nI n)])), (rb, .inl (cB, 8192, .inl f))]) := hD
      refine lv_iconst (v := 0) hx hb d_Rd_next_38 (by decide) ?_
      exact fin _ _ _ _ _ _ d_Rd_next_39 hP hS (by simp only [nx, if_pos c_1, if_pos c_2]) (by simp only [nx, if_pos c_1, if_pos c_2])
  · refine lv_iconst (v := 0) hx hb d_Rd_next_7 (by decide) ?_
    exact fin _ _ _ _ _ _ d_Rd_next_8 hP hS (by simp only [nx, if_neg c_1]) (by simp only [nx, if_neg c_1])

set_option maxRecDepth 100000 in
set_option maxHeartbeats 4000000 in
/-- Reader.expect -/
theorem c_Rd_expect (l : Launch) (D : va_G) (cB cI cS : ClassId) (r0 rw rx ry rs rb : Nat) (nv nt ns nw wa fw : Int32) (q : S3) (f : Nat → Int32) (n : Nat) (due num : Int32) (hn : n ≤ 8192) : mV l y_Rd_expect b_Rd_expect 4 (none) 2 D cls [(cB, .byte), (cI, .int), (cS, .object "MapLumps$Span")] [.ref r0, .int due, .int num] ([(r0, .inr (1, [.ref rw, .ref rx, .ref ry, .ref rs, .int nv, .int nt, .int ns, .int nw, .int wa, .int q.1, .int q.2.1, .int q.2.2, .int fw])), (rw, .inr (3, [.ref rb, .int (nI n)])), (rb, .inl (cB, 8192, .inl f))]) ([(r0, .inr (1, [.ref rw, .ref rx, .ref ry, .ref rs, .int nv, .int nt, .int ns, .int nw, .int wa, .int ((ex f n q due num).1), .int ((ex f n q due num).2.1), .int ((ex f n q due num).2.2), .int fw])), (rw, .inr (3, [.ref rb, .int (nI n)])), (rb, .inl (cB, 8192, .inl f))]) := by
  refine pz_openV (by decide) (Nat.le_of_ble_eq_true rfl) ?_
  intro p e s m below meth c A ls Q X hN hK hP hD hS hA hl fin
  obtain ⟨hx, hb, hml, hown, hts⟩ := id X
  have hl : lv_has ls 4 [(0, .ref r0), (1, .int due), (2, .int num)] := hl
  refine lv_aload_n hx hb d_Rd_expect_0 rfl (lv_at hl 0 rfl) ?_
  refine va_get (D := D) (ci := 1) (v := .int q.1) (C := R_Rd) (T := T_Rd) (N := 13) hx hb hts i_Rd hown hK hP 0 rfl rfl 9 (by decide) (hts _ w_83) (fun _ h9 => h9) rfl d_Rd_expect_1 ?_
  refine lv_istore_n (lv' := [(3, .int q.1), (0, .ref r0), (1, .int due), (2, .int num)]) hx hb d_Rd_expect_4 rfl hl (by decide) rfl (fun ls hl => ?_)
  refine lv_aload_n hx hb d_Rd_expect_5 rfl (lv_at hl 1 rfl) ?_
  refine pz_i (pz_rV (d := 1) (As := []) (rest := []) X hN (c_Rd_next l D cB cI cS r0 rw rx ry rs rb nv nt ns nw wa fw q f n hn _) k_Rd_next w_224 ⟨by decide, by decide⟩ hK hP hD [0, 1, 2] rfl rfl 0 rfl rfl rfl rfl hl.1 rfl (Nat.le_of_ble_eq_true rfl) d_Rd_expect_6 ⟨Nat.zero_le _, Nat.zero_le _⟩) hP hD hS hA [0, 1, 2] rfl [r0, rw, rb] rfl rfl (fun H locs hP hD hS => ?_)
  have hP : va_P D cls ([(r0, .inr (1, [.ref rw, .ref rx, .ref ry, .ref rs, .int nv, .int nt, .int ns, .int nw, .int wa, .int (((nx f n q).2).1), .int (((nx f n q).2).2.1), .int (((nx f n q).2).2.2), .int fw])), (rw, .inr (3, [.ref rb, .int (nI n)])), (rb, .inl (cB, 8192, .inl f))]) H := hP
  have hD : va_D A ([(r0, .inr (1, [.ref rw, .ref rx, .ref ry, .ref rs, .int nv, .int nt, .int ns, .int nw, .int wa, .int (((nx f n q).2).1), .int (((nx f n q).2).2.1), .int (((nx f n q).2).2.2), .int fw])), (rw, .inr (3, [.ref rb, .int (nI n)])), (rb, .inl (cB, 8192, .inl f))]) := hD
  refine lv_iload_n hx hb d_Rd_expect_9 rfl (lv_at hl 2 rfl) ?_
  refine lv_icmp_eq (tgt := 19) hx hb d_Rd_expect_10 (by decide) (fun c_1 => ?_) (fun c_1 => ?_)
  · exact fin _ _ _ _ _ d_Rd_expect_19 hP hS (by simp only [ex, if_pos c_1])
  · refine lv_aload_n hx hb d_Rd_expect_13 rfl (lv_at hl 1 rfl) ?_
    refine lv_iload_n hx hb d_Rd_expect_14 rfl (lv_at hl 3 rfl) ?_
    refine lv_iload_n hx hb d_Rd_expect_15 rfl (lv_at hl 0 rfl) ?_
    refine pz_v (pz_rV (d := 0) (As := [.int num, .int q.1]) (rest := []) X hN (c_Rd_fail l D cB cI cS r0 rw rx ry rs nv nt ns nw wa fw ((nx f n q).2) num q.1 _) k_Rd_fail w_232 ⟨by decide, by decide⟩ hK hP hD [0] rfl rfl 0 rfl rfl rfl rfl hl.1 rfl (Nat.le_of_ble_eq_true rfl) d_Rd_expect_16 ⟨Nat.zero_le _, Nat.zero_le _⟩) hP hD hS hA [0] rfl [r0] rfl rfl (fun H locs hP hD hS => ?_)
    have hP : va_P D cls ([(r0, .inr (1, [.ref rw, .ref rx, .ref ry, .ref rs, .int nv, .int nt, .int ns, .int nw, .int wa, .int ((fl ((nx f n q).2) num q.1).1), .int ((fl ((nx f n q).2) num q.1).2.1), .int ((fl ((nx f n q).2) num q.1).2.2), .int fw])), (rw, .inr (3, [.ref rb, .int (nI n)])), (rb, .inl (cB, 8192, .inl f))]) H := hP
    have hD : va_D A ([(r0, .inr (1, [.ref rw, .ref rx, .ref ry, .ref rs, .int nv, .int nt, .int ns, .int nw, .int wa, .int ((fl ((nx f n q).2) num q.1).1), .int ((fl ((nx f n q).2) num q.1).2.1), .int ((fl ((nx f n q).2) num q.1).2.2), .int fw])), (rw, .inr (3, [.ref rb, .int (nI n)])), (rb, .inl (cB, 8192, .inl f))]) := hD
    exact fin _ _ _ _ _ d_Rd_expect_19 hP hS (by simp only [ex, if_neg c_1])

set_option maxRecDepth 100000 in
set_option maxHeartbeats 4000000 in
/-- Reader.judged -/
theorem c_Rd_judged (l : Launch) (D : va_G) (cB cI cS : ClassId) (r0 rw rx ry rs : Nat) (nv nt ns nw wa fw : Int32) (q : S3) (x lo hi pl : Int32)  : mI l y_Rd_judged b_Rd_judged 5 (some .int) 1 D cls [(cB, .byte), (cI, .int), (cS, .object "MapLumps$Span")] [.ref r0, .int x, .int lo, .int hi, .int pl] ([(r0, .inr (1, [.ref rw, .ref rx, .ref ry, .ref rs, .int nv, .int nt, .int ns, .int nw, .int wa, .int q.1, .int q.2.1, .int q.2.2, .int fw]))]) ((jd q x lo hi pl).1) ([(r0, .inr (1, [.ref rw, .ref rx, .ref ry, .ref rs, .int nv, .int nt, .int ns, .int nw, .int wa, .int ((jd q x lo hi pl).2.1), .int ((jd q x lo hi pl).2.2.1), .int ((jd q x lo hi pl).2.2.2), .int fw]))]) := by
  refine pz_openI (by decide) (Nat.le_of_ble_eq_true rfl) ?_
  intro p e s m below meth c A ls Q X hN hK hP hD hS hA hl fin
  obtain ⟨hx, hb, hml, hown, hts⟩ := id X
  have hl : lv_has ls 5 [(0, .ref r0), (1, .int x), (2, .int lo), (3, .int hi), (4, .int pl)] := hl
  refine lv_iload_n hx hb d_Rd_judged_0 rfl (lv_at hl 1 rfl) ?_
  refine lv_iload_n hx hb d_Rd_judged_1 rfl (lv_at hl 2 rfl) ?_
  refine lv_icmp_lt (tgt := 10) hx hb d_Rd_judged_2 (by decide) (fun c_1 => ?_) (fun c_1 => ?_)
  · refine lv_aload_n hx hb d_Rd_judged_10 rfl (lv_at hl 0 rfl) ?_
    refine lv_iconst (v := 3) hx hb d_Rd_judged_11 (by decide) ?_
    refine lv_iload hx hb d_Rd_judged_12 (lv_at hl 4 rfl) ?_
    refine pz_v (pz_rV (d := 0) (As := [.int 3, .int pl]) (rest := []) X hN (c_Rd_fail l D cB cI cS r0 rw rx ry rs nv nt ns nw wa fw q 3 pl _) k_Rd_fail w_232 ⟨by decide, by decide⟩ hK hP hD [0] rfl rfl 0 rfl rfl rfl rfl hl.1 rfl (Nat.le_of_ble_eq_true rfl) d_Rd_judged_14 ⟨Nat.zero_le _, Nat.zero_le _⟩) hP hD hS hA [0] rfl [r0] rfl rfl (fun H locs hP hD hS => ?_)
    have hP : va_P D cls ([(r0, .inr (1, [.ref rw, .ref rx, .ref ry, .ref rs, .int nv, .int nt, .int ns, .int nw, .int wa, .int ((fl q 3 pl).1), .int ((fl q 3 pl).2.1), .int ((fl q 3 pl).2.2), .int fw]))]) H := hP
    have hD : va_D A ([(r0, .inr (1, [.ref rw, .ref rx, .ref ry, .ref rs, .int nv, .int nt, .int ns, .int nw, .int wa, .int ((fl q 3 pl).1), .int ((fl q 3 pl).2.1), .int ((fl q 3 pl).2.2), .int fw]))]) := hD
    refine lv_aload_n hx hb d_Rd_judged_17 rfl (lv_at hl 0 rfl) ?_
    refine va_get (D := D) (ci := 1) (v := .int ((fl q 3 pl).2.1)) (C := R_Rd) (T := T_Rd) (N := 13) hx hb hts i_Rd hown hK hP 0 rfl rfl 10 (by decide) (hts _ w_84) (fun _ h9 => h9) rfl d_Rd_judged_18 ?_
    refine lv_if_ne (tgt := 28) hx hb d_Rd_judged_21 (by decide) (fun c_2 => ?_) (fun c_2 => ?_)
    · refine lv_iconst (v := 0) hx hb d_Rd_judged_28 (by decide) ?_
      exact fin _ _ _ _ _ _ d_Rd_judged_29 hP hS (by simp only [jd, jdS, if_pos c_1, if_neg c_2]) (by simp only [jd, jdS, if_pos c_1, if_neg c_2])
    · refine lv_iload_n hx hb d_Rd_judged_24 rfl (lv_at hl 1 rfl) ?_
      refine lv_goto (tgt := 29) hx hb d_Rd_judged_25 (by decide) ?_
      exact fin _ _ _ _ _ _ d_Rd_judged_29 hP hS (by simp only [jd, jdS, if_pos c_1, if_pos c_2]) (by simp only [jd, jdS, if_pos c_1, if_pos c_2])
  · refine lv_iload_n hx hb d_Rd_judged_5 rfl (lv_at hl 1 rfl) ?_
    refine lv_iload_n hx hb d_Rd_judged_6 rfl (lv_at hl 3 rfl) ?_
    refine lv_icmp_le (tgt := 17) hx hb d_Rd_judged_7 (by decide) (fun c_3 => ?_) (fun c_3 => ?_)
    · refine lv_aload_n hx hb d_Rd_judged_17 rfl (lv_at hl 0 rfl) ?_
      refine va_get (D := D) (ci := 1) (v := .int q.2.1) (C := R_Rd) (T := T_Rd) (N := 13) hx hb hts i_Rd hown hK hP 0 rfl rfl 10 (by decide) (hts _ w_84) (fun _ h9 => h9) rfl d_Rd_judged_18 ?_
      refine lv_if_ne (tgt := 28) hx hb d_Rd_judged_21 (by decide) (fun c_4 => ?_) (fun c_4 => ?_)
      · refine lv_iconst (v := 0) hx hb d_Rd_judged_28 (by decide) ?_
        exact fin _ _ _ _ _ _ d_Rd_judged_29 hP hS (by simp only [jd, jdS, if_neg c_1, if_pos c_3, if_neg c_4]) (by simp only [jd, jdS, if_neg c_1, if_pos c_3, if_neg c_4])
      · refine lv_iload_n hx hb d_Rd_judged_24 rfl (lv_at hl 1 rfl) ?_
        refine lv_goto (tgt := 29) hx hb d_Rd_judged_25 (by decide) ?_
        exact fin _ _ _ _ _ _ d_Rd_judged_29 hP hS (by simp only [jd, jdS, if_neg c_1, if_pos c_3, if_pos c_4]) (by simp only [jd, jdS, if_neg c_1, if_pos c_3, if_pos c_4])
    · refine lv_aload_n hx hb d_Rd_judged_10 rfl (lv_at hl 0 rfl) ?_
      refine lv_iconst (v := 3) hx hb d_Rd_judged_11 (by decide) ?_
      refine lv_iload hx hb d_Rd_judged_12 (lv_at hl 4 rfl) ?_
      refine pz_v (pz_rV (d := 0) (As := [.int 3, .int pl]) (rest := []) X hN (c_Rd_fail l D cB cI cS r0 rw rx ry rs nv nt ns nw wa fw q 3 pl _) k_Rd_fail w_232 ⟨by decide, by decide⟩ hK hP hD [0] rfl rfl 0 rfl rfl rfl rfl hl.1 rfl (Nat.le_of_ble_eq_true rfl) d_Rd_judged_14 ⟨Nat.zero_le _, Nat.zero_le _⟩) hP hD hS hA [0] rfl [r0] rfl rfl (fun H locs hP hD hS => ?_)
      have hP : va_P D cls ([(r0, .inr (1, [.ref rw, .ref rx, .ref ry, .ref rs, .int nv, .int nt, .int ns, .int nw, .int wa, .int ((fl q 3 pl).1), .int ((fl q 3 pl).2.1), .int ((fl q 3 pl).2.2), .int fw]))]) H := hP
      have hD : va_D A ([(r0, .inr (1, [.ref rw, .ref rx, .ref ry, .ref rs, .int nv, .int nt, .int ns, .int nw, .int wa, .int ((fl q 3 pl).1), .int ((fl q 3 pl).2.1), .int ((fl q 3 pl).2.2), .int fw]))]) := hD
      refine lv_aload_n hx hb d_Rd_judged_17 rfl (lv_at hl 0 rfl) ?_
      refine va_get (D := D) (ci := 1) (v := .int ((fl q 3 pl).2.1)) (C := R_Rd) (T := T_Rd) (N := 13) hx hb hts i_Rd hown hK hP 0 rfl rfl 10 (by decide) (hts _ w_84) (fun _ h9 => h9) rfl d_Rd_judged_18 ?_
      refine lv_if_ne (tgt := 28) hx hb d_Rd_judged_21 (by decide) (fun c_5 => ?_) (fun c_5 => ?_)
      · refine lv_iconst (v := 0) hx hb d_Rd_judged_28 (by decide) ?_
        exact fin _ _ _ _ _ _ d_Rd_judged_29 hP hS (by simp only [jd, jdS, if_neg c_1, if_neg c_3, if_neg c_5]) (by simp only [jd, jdS, if_neg c_1, if_neg c_3, if_neg c_5])
      · refine lv_iload_n hx hb d_Rd_judged_24 rfl (lv_at hl 1 rfl) ?_
        refine lv_goto (tgt := 29) hx hb d_Rd_judged_25 (by decide) ?_
        exact fin _ _ _ _ _ _ d_Rd_judged_29 hP hS (by simp only [jd, jdS, if_neg c_1, if_neg c_3, if_pos c_5]) (by simp only [jd, jdS, if_neg c_1, if_neg c_3, if_pos c_5])

set_option maxRecDepth 100000 in
set_option maxHeartbeats 4000000 in
/-- Reader.small -/
theorem c_Rd_small (l : Launch) (D : va_G) (cB cI cS : ClassId) (r0 rw rx ry rs rb : Nat) (nv nt ns nw wa fw : Int32) (q : S3) (f : Nat → Int32) (n : Nat) (lo hi : Int32) (hn : n ≤ 8192) : mI l y_Rd_small b_Rd_small 4 (some .int) 2 D cls [(cB, .byte), (cI, .int), (cS, .object "MapLumps$Span")] [.ref r0, .int lo, .int hi] ([(r0, .inr (1, [.ref rw, .ref rx, .ref ry, .ref rs, .int nv, .int nt, .int ns, .int nw, .int wa, .int q.1, .int q.2.1, .int q.2.2, .int fw])), (rw, .inr (3, [.ref rb, .int (nI n)])), (rb, .inl (cB, 8192, .inl f))]) ((sm f n q lo hi).1) ([(r0, .inr (1, [.ref rw, .ref rx, .ref ry, .ref rs, .int nv, .int nt, .int ns, .int nw, .int wa, .int ((sm f n q lo hi).2.1), .int ((sm f n q lo hi).2.2.1), .int ((sm f n q lo hi).2.2.2), .int fw])), (rw, .inr (3, [.ref rb, .int (nI n)])), (rb, .inl (cB, 8192, .inl f))]) := by
  refine pz_openI (by decide) (Nat.le_of_ble_eq_true rfl) ?_
  intro p e s m below meth c A ls Q X hN hK hP hD hS hA hl fin
  obtain ⟨hx, hb, hml, hown, hts⟩ := id X
  have hl : lv_has ls 4 [(0, .ref r0), (1, .int lo), (2, .int hi)] := hl
  refine lv_aload_n hx hb d_Rd_small_0 rfl (lv_at hl 0 rfl) ?_
  refine va_get (D := D) (ci := 1) (v := .int q.1) (C := R_Rd) (T := T_Rd) (N := 13) hx hb hts i_Rd hown hK hP 0 rfl rfl 9 (by decide) (hts _ w_83) (fun _ h9 => h9) rfl d_Rd_small_1 ?_
  refine lv_istore_n (lv' := [(3, .int q.1), (0, .ref r0), (1, .int lo), (2, .int hi)]) hx hb d_Rd_small_4 rfl hl (by decide) rfl (fun ls hl => ?_)
  refine lv_aload_n hx hb d_Rd_small_5 rfl (lv_at hl 1 rfl) ?_
  refine lv_aload_n hx hb d_Rd_small_6 rfl (lv_at hl 1 rfl) ?_
  refine pz_i (pz_rV (d := 1) (As := []) (rest := [.ref r0]) X hN (c_Rd_next l D cB cI cS r0 rw rx ry rs rb nv nt ns nw wa fw q f n hn _) k_Rd_next w_224 ⟨by decide, by decide⟩ hK hP hD [0, 1, 2] rfl rfl 0 rfl rfl rfl rfl hl.1 rfl (Nat.le_of_ble_eq_true rfl) d_Rd_small_7 ⟨Nat.zero_le _, Nat.zero_le _⟩) hP hD hS hA [0, 1, 2] rfl [r0, rw, rb] rfl rfl (fun H locs hP hD hS => ?_)
  have hP : va_P D cls ([(r0, .inr (1, [.ref rw, .ref rx, .ref ry, .ref rs, .int nv, .int nt, .int ns, .int nw, .int wa, .int (((nx f n q).2).1), .int (((nx f n q).2).2.1), .int (((nx f n q).2).2.2), .int fw])), (rw, .inr (3, [.ref rb, .int (nI n)])), (rb, .inl (cB, 8192, .inl f))]) H := hP
  have hD : va_D A ([(r0, .inr (1, [.ref rw, .ref rx, .ref ry, .ref rs, .int nv, .int nt, .int ns, .int nw, .int wa, .int (((nx f n q).2).1), .int (((nx f n q).2).2.1), .int (((nx f n q).2).2.2), .int fw])), (rw, .inr (3, [.ref rb, .int (nI n)])), (rb, .inl (cB, 8192, .inl f))]) := hD
  refine lv_iload_n hx hb d_Rd_small_10 rfl (lv_at hl 2 rfl) ?_
  refine lv_iload_n hx hb d_Rd_small_11 rfl (lv_at hl 3 rfl) ?_
  refine lv_iload_n hx hb d_Rd_small_12 rfl (lv_at hl 0 rfl) ?_
  refine pz_i (pz_rV (d := 1) (As := [.int ((nx f n q).1), .int lo, .int hi, .int q.1]) (rest := []) X hN (c_Rd_judged l D cB cI cS r0 rw rx ry rs nv nt ns nw wa fw ((nx f n q).2) ((nx f n q).1) lo hi q.1 _) k_Rd_judged w_240 ⟨by decide, by decide⟩ hK hP hD [0] rfl rfl 0 rfl rfl rfl rfl hl.1 rfl (Nat.le_of_ble_eq_true rfl) d_Rd_small_13 ⟨Nat.zero_le _, Nat.zero_le _⟩) hP hD hS hA [0] rfl [r0] rfl rfl (fun H locs hP hD hS => ?_)
  have hP : va_P D cls ([(r0, .inr (1, [.ref rw, .ref rx, .ref ry, .ref rs, .int nv, .int nt, .int ns, .int nw, .int wa, .int (((jd ((nx f n q).2) ((nx f n q).1) lo hi q.1).2).1), .int (((jd ((nx f n q).2) ((nx f n q).1) lo hi q.1).2).2.1), .int (((jd ((nx f n q).2) ((nx f n q).1) lo hi q.1).2).2.2), .int fw])), (rw, .inr (3, [.ref rb, .int (nI n)])), (rb, .inl (cB, 8192, .inl f))]) H := hP
  have hD : va_D A ([(r0, .inr (1, [.ref rw, .ref rx, .ref ry, .ref rs, .int nv, .int nt, .int ns, .int nw, .int wa, .int (((jd ((nx f n q).2) ((nx f n q).1) lo hi q.1).2).1), .int (((jd ((nx f n q).2) ((nx f n q).1) lo hi q.1).2).2.1), .int (((jd ((nx f n q).2) ((nx f n q).1) lo hi q.1).2).2.2), .int fw])), (rw, .inr (3, [.ref rb, .int (nI n)])), (rb, .inl (cB, 8192, .inl f))]) := hD
  exact fin _ _ _ _ _ _ d_Rd_small_16 hP hS (rfl) (rfl)

set_option maxRecDepth 100000 in
set_option maxHeartbeats 4000000 in
/-- Reader.smallOrAbsent -/
theorem c_Rd_smallOrAbsent (l : Launch) (D : va_G) (cB cI cS : ClassId) (r0 rw rx ry rs rb : Nat) (nv nt ns nw wa fw : Int32) (q : S3) (f : Nat → Int32) (n : Nat) (hi : Int32) (hn : n ≤ 8192) : mI l y_Rd_smallOrAbsent b_Rd_smallOrAbsent 4 (some .int) 2 D cls [(cB, .byte), (cI, .int), (cS, .object "MapLumps$Span")] [.ref r0, .int hi] ([(r0, .inr (1, [.ref rw, .ref rx, .ref ry, .ref rs, .int nv, .int nt, .int ns, .int nw, .int wa, .int q.1, .int q.2.1, .int q.2.2, .int fw])), (rw, .inr (3, [.ref rb, .int (nI n)])), (rb, .inl (cB, 8192, .inl f))]) ((sa f n q hi).1) ([(r0, .inr (1, [.ref rw, .ref rx, .ref ry, .ref rs, .int nv, .int nt, .int ns, .int nw, .int wa, .int ((sa f n q hi).2.1), .int ((sa f n q hi).2.2.1), .int ((sa f n q hi).2.2.2), .int fw])), (rw, .inr (3, [.ref rb, .int (nI n)])), (rb, .inl (cB, 8192, .inl f))]) := by
  refine pz_openI (by decide) (Nat.le_of_ble_eq_true rfl) ?_
  intro p e s m below meth c A ls Q X hN hK hP hD hS hA hl fin
  obtain ⟨hx, hb, hml, hown, hts⟩ := id X
  have hl : lv_has ls 4 [(0, .ref r0), (1, .int hi)] := hl
  refine lv_aload_n hx hb d_Rd_smallOrAbsent_0 rfl (lv_at hl 0 rfl) ?_
  refine va_get (D := D) (ci := 1) (v := .int q.1) (C := R_Rd) (T := T_Rd) (N := 13) hx hb hts i_Rd hown hK hP 0 rfl rfl 9 (by decide) (hts _ w_83) (fun _ h9 => h9) rfl d_Rd_smallOrAbsent_1 ?_
  refine lv_istore_n (lv' := [(2, .int q.1), (0, .ref r0), (1, .int hi)]) hx hb d_Rd_smallOrAbsent_4 rfl hl (by decide) rfl (fun ls hl => ?_)
  refine lv_aload_n hx hb d_Rd_smallOrAbsent_5 rfl (lv_at hl 1 rfl) ?_
  refine pz_i (pz_rV (d := 1) (As := []) (rest := []) X hN (c_Rd_next l D cB cI cS r0 rw rx ry rs rb nv nt ns nw wa fw q f n hn _) k_Rd_next w_224 ⟨by decide, by decide⟩ hK hP hD [0, 1, 2] rfl rfl 0 rfl rfl rfl rfl hl.1 rfl (Nat.le_of_ble_eq_true rfl) d_Rd_smallOrAbsent_6 ⟨Nat.zero_le _, Nat.zero_le _⟩) hP hD hS hA [0, 1, 2] rfl [r0, rw, rb] rfl rfl (fun H locs hP hD hS => ?_)
  have hP : va_P D cls ([(r0, .inr (1, [.ref rw, .ref rx, .ref ry, .ref rs, .int nv, .int nt, .int ns, .int nw, .int wa, .int (((nx f n q).2).1), .int (((nx f n q).2).2.1), .int (((nx f n q).2).2.2), .int fw])), (rw, .inr (3, [.ref rb, .int (nI n)])), (rb, .inl (cB, 8192, .inl f))]) H := hP
  have hD : va_D A ([(r0, .inr (1, [.ref rw, .ref rx, .ref ry, .ref rs, .int nv, .int nt, .int ns, .int nw, .int wa, .int (((nx f n q).2).1), .int (((nx f n q).2).2.1), .int (((nx f n q).2).2.2), .int fw])), (rw, .inr (3, [.ref rb, .int (nI n)])), (rb, .inl (cB, 8192, .inl f))]) := hD
  refine lv_istore_n (lv' := [(3, .int ((nx f n q).1)), (2, .int q.1), (0, .ref r0), (1, .int hi)]) hx hb d_Rd_smallOrAbsent_9 rfl hl (by decide) rfl (fun ls hl => ?_)
  refine lv_iload_n hx hb d_Rd_smallOrAbsent_10 rfl (lv_at hl 0 rfl) ?_
  refine lv_sipush (v := 255) hx hb d_Rd_smallOrAbsent_11 (by decide) ?_
  refine lv_icmp_ne (tgt := 21) hx hb d_Rd_smallOrAbsent_14 (by decide) (fun c_1 => ?_) (fun c_1 => ?_)
  · refine lv_aload_n hx hb d_Rd_smallOrAbsent_21 rfl (lv_at hl 2 rfl) ?_
    refine lv_iload_n hx hb d_Rd_smallOrAbsent_22 rfl (lv_at hl 0 rfl) ?_
    refine lv_iconst (v := 0) hx hb d_Rd_smallOrAbsent_23 (by decide) ?_
    refine lv_iload_n hx hb d_Rd_smallOrAbsent_24 rfl (lv_at hl 3 rfl) ?_
    refine lv_iload_n hx hb d_Rd_smallOrAbsent_25 rfl (lv_at hl 1 rfl) ?_
    refine pz_i (pz_rV (d := 1) (As := [.int ((nx f n q).1), .int 0, .int hi, .int q.1]) (rest := []) X hN (c_Rd_judged l D cB cI cS r0 rw rx ry rs nv nt ns nw wa fw ((nx f n q).2) ((nx f n q).1) 0 hi q.1 _) k_Rd_judged w_240 ⟨by decide, by decide⟩ hK hP hD [0] rfl rfl 0 rfl rfl rfl rfl hl.1 rfl (Nat.le_of_ble_eq_true rfl) d_Rd_smallOrAbsent_26 ⟨Nat.zero_le _, Nat.zero_le _⟩) hP hD hS hA [0] rfl [r0] rfl rfl (fun H locs hP hD hS => ?_)
    have hP : va_P D cls ([(r0, .inr (1, [.ref rw, .ref rx, .ref ry, .ref rs, .int nv, .int nt, .int ns, .int nw, .int wa, .int (((jd ((nx f n q).2) ((nx f n q).1) 0 hi q.1).2).1), .int (((jd ((nx f n q).2) ((nx f n q).1) 0 hi q.1).2).2.1), .int (((jd ((nx f n q).2) ((nx f n q).1) 0 hi q.1).2).2.2), .int fw])), (rw, .inr (3, [.ref rb, .int (nI n)])), (rb, .inl (cB, 8192, .inl f))]) H := hP
    have hD : va_D A ([(r0, .inr (1, [.ref rw, .ref rx, .ref ry, .ref rs, .int nv, .int nt, .int ns, .int nw, .int wa, .int (((jd ((nx f n q).2) ((nx f n q).1) 0 hi q.1).2).1), .int (((jd ((nx f n q).2) ((nx f n q).1) 0 hi q.1).2).2.1), .int (((jd ((nx f n q).2) ((nx f n q).1) 0 hi q.1).2).2.2), .int fw])), (rw, .inr (3, [.ref rb, .int (nI n)])), (rb, .inl (cB, 8192, .inl f))]) := hD
    exact fin _ _ _ _ _ _ d_Rd_smallOrAbsent_29 hP hS (by simp only [sa, if_neg c_1]) (by simp only [sa, if_neg c_1])
  · refine lv_iload_n hx hb d_Rd_smallOrAbsent_17 rfl (lv_at hl 0 rfl) ?_
    refine lv_goto (tgt := 29) hx hb d_Rd_smallOrAbsent_18 (by decide) ?_
    exact fin _ _ _ _ _ _ d_Rd_smallOrAbsent_29 hP hS (by simp only [sa, if_pos c_1]) (by simp only [sa, if_pos c_1])

set_option maxRecDepth 100000 in
set_option maxHeartbeats 4000000 in
/-- Reader.wide -/
theorem c_Rd_wide (l : Launch) (D : va_G) (cB cI cS : ClassId) (r0 rw rx ry rs rb : Nat) (nv nt ns nw wa fw : Int32) (q : S3) (f : Nat → Int32) (n : Nat) (lo hi : Int32) (hn : n ≤ 8192) : mI l y_Rd_wide b_Rd_wide 6 (some .int) 2 D cls [(cB, .byte), (cI, .int), (cS, .object "MapLumps$Span")] [.ref r0, .int lo, .int hi] ([(r0, .inr (1, [.ref rw, .ref rx, .ref ry, .ref rs, .int nv, .int nt, .int ns, .int nw, .int wa, .int q.1, .int q.2.1, .int q.2.2, .int fw])), (rw, .inr (3, [.ref rb, .int (nI n)])), (rb, .inl (cB, 8192, .inl f))]) ((wd f n q lo hi).1) ([(r0, .inr (1, [.ref rw, .ref rx, .ref ry, .ref rs, .int nv, .int nt, .int ns, .int nw, .int wa, .int ((wd f n q lo hi).2.1), .int ((wd f n q lo hi).2.2.1), .int ((wd f n q lo hi).2.2.2), .int fw])), (rw, .inr (3, [.ref rb, .int (nI n)])), (rb, .inl (cB, 8192, .inl f))]) := by
  refine pz_openI (by decide) (Nat.le_of_ble_eq_true rfl) ?_
  intro p e s m below meth c A ls Q X hN hK hP hD hS hA hl fin
  obtain ⟨hx, hb, hml, hown, hts⟩ := id X
  have hl : lv_has ls 6 [(0, .ref r0), (1, .int lo), (2, .int hi)] := hl
  refine lv_aload_n hx hb d_Rd_wide_0 rfl (lv_at hl 0 rfl) ?_
  refine va_get (D := D) (ci := 1) (v := .int q.1) (C := R_Rd) (T := T_Rd) (N := 13) hx hb hts i_Rd hown hK hP 0 rfl rfl 9 (by decide) (hts _ w_83) (fun _ h9 => h9) rfl d_Rd_wide_1 ?_
  refine lv_istore_n (lv' := [(3, .int q.1), (0, .ref r0), (1, .int lo), (2, .int hi)]) hx hb d_Rd_wide_4 rfl hl (by decide) rfl (fun ls hl => ?_)
  refine lv_aload_n hx hb d_Rd_wide_5 rfl (lv_at hl 1 rfl) ?_
  refine pz_i (pz_rV (d := 1) (As := []) (rest := []) X hN (c_Rd_next l D cB cI cS r0 rw rx ry rs rb nv nt ns nw wa fw q f n hn _) k_Rd_next w_224 ⟨by decide, by decide⟩ hK hP hD [0, 1, 2] rfl rfl 0 rfl rfl rfl rfl hl.1 rfl (Nat.le_of_ble_eq_true rfl) d_Rd_wide_6 ⟨Nat.zero_le _, Nat.zero_le _⟩) hP hD hS hA [0, 1, 2] rfl [r0, rw, rb] rfl rfl (fun H locs hP hD hS => ?_)
  have hP : va_P D cls ([(r0, .inr (1, [.ref rw, .ref rx, .ref ry, .ref rs, .int nv, .int nt, .int ns, .int nw, .int wa, .int (((nx f n q).2).1), .int (((nx f n q).2).2.1), .int (((nx f n q).2).2.2), .int fw])), (rw, .inr (3, [.ref rb, .int (nI n)])), (rb, .inl (cB, 8192, .inl f))]) H := hP
  have hD : va_D A ([(r0, .inr (1, [.ref rw, .ref rx, .ref ry, .ref rs, .int nv, .int nt, .int ns, .int nw, .int wa, .int (((nx f n q).2).1), .int (((nx f n q).2).2.1), .int (((nx f n q).2).2.2), .int fw])), (rw, .inr (3, [.ref rb, .int (nI n)])), (rb, .inl (cB, 8192, .inl f))]) := hD
  refine lv_istore (lv' := [(4, .int ((nx f n q).1)), (3, .int q.1), (0, .ref r0), (1, .int lo), (2, .int hi)]) hx hb d_Rd_wide_9 hl (by decide) rfl (fun ls hl => ?_)
  refine lv_sipush (v := 256) hx hb d_Rd_wide_11 (by decide) ?_
  refine lv_iload hx hb d_Rd_wide_14 (lv_at hl 0 rfl) ?_
  refine lv_imul hx hb d_Rd_wide_16 ?_
  refine lv_aload_n hx hb d_Rd_wide_17 rfl (lv_at hl 2 rfl) ?_
  refine pz_i (pz_rV (d := 1) (As := []) (rest := [.int (256 * ((nx f n q).1))]) X hN (c_Rd_next l D cB cI cS r0 rw rx ry rs rb nv nt ns nw wa fw ((nx f n q).2) f n hn _) k_Rd_next w_224 ⟨by decide, by decide⟩ hK hP hD [0, 1, 2] rfl rfl 0 rfl rfl rfl rfl hl.1 rfl (Nat.le_of_ble_eq_true rfl) d_Rd_wide_18 ⟨Nat.zero_le _, Nat.zero_le _⟩) hP hD hS hA [0, 1, 2] rfl [r0, rw, rb] rfl rfl (fun H locs hP hD hS => ?_)
  have hP : va_P D cls ([(r0, .inr (1, [.ref rw, .ref rx, .ref ry, .ref rs, .int nv, .int nt, .int ns, .int nw, .int wa, .int (((nx f n ((nx f n q).2)).2).1), .int (((nx f n ((nx f n q).2)).2).2.1), .int (((nx f n ((nx f n q).2)).2).2.2), .int fw])), (rw, .inr (3, [.ref rb, .int (nI n)])), (rb, .inl (cB, 8192, .inl f))]) H := hP
  have hD : va_D A ([(r0, .inr (1, [.ref rw, .ref rx, .ref ry, .ref rs, .int nv, .int nt, .int ns, .int nw, .int wa, .int (((nx f n ((nx f n q).2)).2).1), .int (((nx f n ((nx f n q).2)).2).2.1), .int (((nx f n ((nx f n q).2)).2).2.2), .int fw])), (rw, .inr (3, [.ref rb, .int (nI n)])), (rb, .inl (cB, 8192, .inl f))]) := hD
  refine lv_iadd hx hb d_Rd_wide_21 ?_
  refine lv_istore (lv' := [(5, .int ((256 * ((nx f n q).1)) + ((nx f n ((nx f n q).2)).1))), (4, .int ((nx f n q).1)), (3, .int q.1), (0, .ref r0), (1, .int lo), (2, .int hi)]) hx hb d_Rd_wide_22 hl (by decide) rfl (fun ls hl => ?_)
  refine lv_aload_n hx hb d_Rd_wide_24 rfl (lv_at hl 3 rfl) ?_
  refine lv_iload hx hb d_Rd_wide_25 (lv_at hl 0 rfl) ?_
  refine lv_sipush (v := 32767) hx hb d_Rd_wide_27 (by decide) ?_
  refine lv_icmp_le (tgt := 41) hx hb d_Rd_wide_30 (by decide) (fun c_1 => ?_) (fun c_1 => ?_)
  · refine lv_iload hx hb d_Rd_wide_41 (lv_at hl 0 rfl) ?_
    refine lv_iload_n hx hb d_Rd_wide_43 rfl (lv_at hl 4 rfl) ?_
    refine lv_iload_n hx hb d_Rd_wide_44 rfl (lv_at hl 5 rfl) ?_
    refine lv_iload_n hx hb d_Rd_wide_45 rfl (lv_at hl 2 rfl) ?_
    refine pz_i (pz_rV (d := 1) (As := [.int ((256 * ((nx f n q).1)) + ((nx f n ((nx f n q).2)).1)), .int lo, .int hi, .int q.1]) (rest := []) X hN (c_Rd_judged l D cB cI cS r0 rw rx ry rs nv nt ns nw wa fw ((nx f n ((nx f n q).2)).2) ((256 * ((nx f n q).1)) + ((nx f n ((nx f n q).2)).1)) lo hi q.1 _) k_Rd_judged w_240 ⟨by decide, by decide⟩ hK hP hD [0] rfl rfl 0 rfl rfl rfl rfl hl.1 rfl (Nat.le_of_ble_eq_true rfl) d_Rd_wide_46 ⟨Nat.zero_le _, Nat.zero_le _⟩) hP hD hS hA [0] rfl [r0] rfl rfl (fun H locs hP hD hS => ?_)
    have hP : va_P D cls ([(r0, .inr (1, [.ref rw, .ref rx, .ref ry, .ref rs, .int nv, .int nt, .int ns, .int nw, .int wa, .int (((jd ((nx f n ((nx f n q).2)).2) ((256 * ((nx f n q).1)) + ((nx f n ((nx f n q).2)).1)) lo hi q.1).2).1), .int (((jd ((nx f n ((nx f n q).2)).2) ((256 * ((nx f n q).1)) + ((nx f n ((nx f n q).2)).1)) lo hi q.1).2).2.1), .int (((jd ((nx f n ((nx f n q).2)).2) ((256 * ((nx f n q).1)) + ((nx f n ((nx f n q).2)).1)) lo hi q.1).2).2.2), .int fw])), (rw, .inr (3, [.ref rb, .int (nI n)])), (rb, .inl (cB, 8192, .inl f))]) H := hP
    have hD : va_D A ([(r0, .inr (1, [.ref rw, .ref rx, .ref ry, .ref rs, .int nv, .int nt, .int ns, .int nw, .int wa, .int (((jd ((nx f n ((nx f n q).2)).2) ((256 * ((nx f n q).1)) + ((nx f n ((nx f n q).2)).1)) lo hi q.1).2).1), .int (((jd ((nx f n ((nx f n q).2)).2) ((256 * ((nx f n q).1)) + ((nx f n ((nx f n q).2)).1)) lo hi q.1).2).2.1), .int (((jd ((nx f n ((nx f n q).2)).2) ((256 * ((nx f n q).1)) + ((nx f n ((nx f n q).2)).1)) lo hi q.1).2).2.2), .int fw])), (rw, .inr (3, [.ref rb, .int (nI n)])), (rb, .inl (cB, 8192, .inl f))]) := hD
    exact fin _ _ _ _ _ _ d_Rd_wide_49 hP hS (by simp only [wd, w16, if_pos c_1]) (by simp only [wd, w16, if_pos c_1])
  · refine lv_iload hx hb d_Rd_wide_33 (lv_at hl 0 rfl) ?_
    refine lv_ldc (v := 65536) hx hb hown (hts _ (w_252)) d_Rd_wide_35 ?_
    refine lv_isub hx hb d_Rd_wide_37 ?_
    refine lv_goto (tgt := 43) hx hb d_Rd_wide_38 (by decide) ?_
    refine lv_iload_n hx hb d_Rd_wide_43 rfl (lv_at hl 4 rfl) ?_
    refine lv_iload_n hx hb d_Rd_wide_44 rfl (lv_at hl 5 rfl) ?_
    refine lv_iload_n hx hb d_Rd_wide_45 rfl (lv_at hl 2 rfl) ?_
    refine pz_i (pz_rV (d := 1) (As := [.int (((256 * ((nx f n q).1)) + ((nx f n ((nx f n q).2)).1)) - 65536), .int lo, .int hi, .int q.1]) (rest := []) X hN (c_Rd_judged l D cB cI cS r0 rw rx ry rs nv nt ns nw wa fw ((nx f n ((nx f n q).2)).2) (((256 * ((nx f n q).1)) + ((nx f n ((nx f n q).2)).1)) - 65536) lo hi q.1 _) k_Rd_judged w_240 ⟨by decide, by decide⟩ hK hP hD [0] rfl rfl 0 rfl rfl rfl rfl hl.1 rfl (Nat.le_of_ble_eq_true rfl) d_Rd_wide_46 ⟨Nat.zero_le _, Nat.zero_le _⟩) hP hD hS hA [0] rfl [r0] rfl rfl (fun H locs hP hD hS => ?_)
    have hP : va_P D cls ([(r0, .inr (1, [.ref rw, .ref rx, .ref ry, .ref rs, .int nv, .int nt, .int ns, .int nw, .int wa, .int (((jd ((nx f n ((nx f n q).2)).2) (((256 * ((nx f n q).1)) + ((nx f n ((nx f n q).2)).1)) - 65536) lo hi q.1).2).1), .int (((jd ((nx f n ((nx f n q).2)).2) (((256 * ((nx f n q).1)) + ((nx f n ((nx f n q).2)).1)) - 65536) lo hi q.1).2).2.1), .int (((jd ((nx f n ((nx f n q).2)).2) (((256 * ((nx f n q).1)) + ((nx f n ((nx f n q).2)).1)) - 65536) lo hi q.1).2).2.2), .int fw])), (rw, .inr (3, [.ref rb, .int (nI n)])), (rb, .inl (cB, 8192, .inl f))]) H := hP
    have hD : va_D A ([(r0, .inr (1, [.ref rw, .ref rx, .ref ry, .ref rs, .int nv, .int nt, .int ns, .int nw, .int wa, .int (((jd ((nx f n ((nx f n q).2)).2) (((256 * ((nx f n q).1)) + ((nx f n ((nx f n q).2)).1)) - 65536) lo hi q.1).2).1), .int (((jd ((nx f n ((nx f n q).2)).2) (((256 * ((nx f n q).1)) + ((nx f n ((nx f n q).2)).1)) - 65536) lo hi q.1).2).2.1), .int (((jd ((nx f n ((nx f n q).2)).2) (((256 * ((nx f n q).1)) + ((nx f n ((nx f n q).2)).1)) - 65536) lo hi q.1).2).2.2), .int fw])), (rw, .inr (3, [.ref rb, .int (nI n)])), (rb, .inl (cB, 8192, .inl f))]) := hD
    exact fin _ _ _ _ _ _ d_Rd_wide_49 hP hS (by simp only [wd, w16, if_neg c_1]) (by simp only [wd, w16, if_neg c_1])

set_option maxRecDepth 100000 in
set_option maxHeartbeats 4000000 in
/-- Reader.isTaken -/
theorem c_Rd_isTaken (l : Launch) (D : va_G) (cB cI cS : ClassId) (r0 rw rx ry rs : Nat) (nv nt ns nw wa fw : Int32) (q : S3) (xs ys : Nat → Int32) (k : Nat) (hk : k < 128) : mI l y_Rd_isTaken b_Rd_isTaken 3 (some .boolean) 0 D cls [(cB, .byte), (cI, .int), (cS, .object "MapLumps$Span")] [.ref r0, .int (nI k)] ([(r0, .inr (1, [.ref rw, .ref rx, .ref ry, .ref rs, .int nv, .int nt, .int ns, .int nw, .int wa, .int q.1, .int q.2.1, .int q.2.2, .int fw])), (rx, .inl (cI, 128, .inl xs)), (ry, .inl (cI, 128, .inl ys))]) (tkn xs ys k k 0) ([(r0, .inr (1, [.ref rw, .ref rx, .ref ry, .ref rs, .int nv, .int nt, .int ns, .int nw, .int wa, .int q.1, .int q.2.1, .int q.2.2, .int fw])), (rx, .inl (cI, 128, .inl xs)), (ry, .inl (cI, 128, .inl ys))]) := by
  refine pz_openZ (by decide) (Nat.le_of_ble_eq_true rfl) ?_
  intro p e s m below meth c A ls Q X hN hK hP hD hS hA hl fin
  obtain ⟨hx, hb, hml, hown, hts⟩ := id X
  have hl : lv_has ls 3 [(0, .ref r0), (1, .int (nI k))] := hl
  refine lv_iconst (v := 0) hx hb d_Rd_isTaken_0 (by decide) ?_
  refine lv_istore_n (lv' := [(2, .int 0), (0, .ref r0), (1, .int (nI k))]) hx hb d_Rd_isTaken_1 rfl hl (by decide) rfl (fun ls hl => ?_)
  have lp_2 : ∀ (j2 : Nat) (o : Nat) (ls : Array Slot) (H : Heap) (locs : List Loc), j2 + o = k → tkn xs ys k k 0 = tkn xs ys k j2 o → va_P D cls ([(r0, .inr (1, [.ref rw, .ref rx, .ref ry, .ref rs, .int nv, .int nt, .int ns, .int nw, .int wa, .int q.1, .int q.2.1, .int q.2.2, .int fw])), (rx, .inl (cI, 128, .inl xs)), (ry, .inl (cI, 128, .inl ys))]) H → va_D A ([(r0, .inr (1, [.ref rw, .ref rx, .ref ry, .ref rs, .int nv, .int nt, .int ns, .int nw, .int wa, .int q.1, .int q.2.1, .int q.2.2, .int fw])), (rx, .inl (cI, 128, .inl xs)), (ry, .inl (cI, 128, .inl ys))]) → va_S A s.heap H locs → lv_has ls 3 [(0, .ref r0), (1, .int (nI k)), (2, .int (nI o))] → W p l e (rmd 0) s m ([.ref r0, .int (nI k)] : List Value).toArray below meth c H locs 0 0 Q (F0 m 2 ls []) := by
    intro j2
    induction j2 with
    | zero =>
      intro o ls H locs hi he hP hD hS hl
      refine lv_iload_n hx hb d_Rd_isTaken_2 rfl (lv_at hl 2 rfl) ?_
      refine lv_iload_n hx hb d_Rd_isTaken_3 rfl (lv_at hl 1 rfl) ?_
      refine lv_icmp_ge (tgt := 54) hx hb d_Rd_isTaken_4 (by decide) (fun c_1 => ?_) (fun c_1 => ?_)
      · refine lv_iconst (v := 0) hx hb d_Rd_isTaken_54 (by decide) ?_
        exact fin _ _ _ _ _ _ d_Rd_isTaken_55 hP hS (by rw [he]; rfl) (rfl) rfl
      · exact (c_1 (by rw [nI_leI (by omega) (by omega)]; omega)).elim
    | succ j2 ih2 =>
      intro o ls H locs hi he hP hD hS hl
      refine lv_iload_n hx hb d_Rd_isTaken_2 rfl (lv_at hl 2 rfl) ?_
      refine lv_iload_n hx hb d_Rd_isTaken_3 rfl (lv_at hl 1 rfl) ?_
      refine lv_icmp_ge (tgt := 54) hx hb d_Rd_isTaken_4 (by decide) (fun c_2 => ?_) (fun c_2 => ?_)
      · exact absurd c_2 (by rw [nI_leI (by omega) (by omega)]; omega)
      · refine lv_iload_n hx hb d_Rd_isTaken_7 rfl (lv_at hl 1 rfl) ?_
        refine lv_aload_n hx hb d_Rd_isTaken_8 rfl (lv_at hl 0 rfl) ?_
        refine va_get (D := D) (ci := 1) (v := .ref rx) (C := R_Rd) (T := T_Rd) (N := 13) hx hb hts i_Rd hown hK hP 0 rfl rfl 1 (by decide) (hts _ w_75) (fun _ h9 => h9) rfl d_Rd_isTaken_9 ?_
        refine va_alen hx hb hK hP 1 1 rfl rfl (v := 128) rfl d_Rd_isTaken_12 ?_
        refine lv_icmp_ge (tgt := 54) hx hb d_Rd_isTaken_13 (by decide) (fun c_3 => ?_) (fun c_3 => ?_)
        · exact absurd c_3 (show ¬ nI 128 ≤ nI k by rw [nI_leI (by omega) (by omega)]; omega)
        · refine lv_aload_n hx hb d_Rd_isTaken_16 rfl (lv_at hl 0 rfl) ?_
          refine va_get (D := D) (ci := 1) (v := .ref rx) (C := R_Rd) (T := T_Rd) (N := 13) hx hb hts i_Rd hown hK hP 0 rfl rfl 1 (by decide) (hts _ w_75) (fun _ h9 => h9) rfl d_Rd_isTaken_17 ?_
          refine lv_iload_n hx hb d_Rd_isTaken_20 rfl (lv_at hl 2 rfl) ?_
          refine va_iald hx hb hK hP 1 1 rfl rfl (in_n (by omega) (by decide)) d_Rd_isTaken_21 ?_
          rw [nI_clamp (show o < 2 ^ 31 by omega)]
          refine lv_aload_n hx hb d_Rd_isTaken_22 rfl (lv_at hl 0 rfl) ?_
          refine va_get (D := D) (ci := 1) (v := .ref rx) (C := R_Rd) (T := T_Rd) (N := 13) hx hb hts i_Rd hown hK hP 0 rfl rfl 1 (by decide) (hts _ w_75) (fun _ h9 => h9) rfl d_Rd_isTaken_23 ?_
          refine lv_iload_n hx hb d_Rd_isTaken_26 rfl (lv_at hl 1 rfl) ?_
          refine va_iald hx hb hK hP 1 1 rfl rfl (in_n (by omega) (by decide)) d_Rd_isTaken_27 ?_
          rw [nI_clamp (show k < 2 ^ 31 by omega)]
          refine lv_icmp_ne (tgt := 48) hx hb d_Rd_isTaken_28 (by decide) (fun c_4 => ?_) (fun c_4 => ?_)
          · refine lv_iinc (v := nI (o + 1)) (lv' := [(2, .int (nI (o + 1))), (0, .ref r0), (1, .int (nI k))]) hx hb d_Rd_isTaken_48 hl (k := 2) rfl (nI_1 o) (by decide) rfl (fun ls hl => ?_)
            refine lv_goto (tgt := 2) hx hb d_Rd_isTaken_51 (by decide) ?_
            exact ih2 (o + 1) _ _ _ (by omega) (by rw [he, tkn]; simp only [if_neg c_2, if_neg c_3, if_neg c_4]) hP hD hS (lv_sub hl [1, 2, 0] rfl)
          · refine lv_aload_n hx hb d_Rd_isTaken_31 rfl (lv_at hl 0 rfl) ?_
            refine va_get (D := D) (ci := 1) (v := .ref ry) (C := R_Rd) (T := T_Rd) (N := 13) hx hb hts i_Rd hown hK hP 0 rfl rfl 2 (by decide) (hts _ w_76) (fun _ h9 => h9) rfl d_Rd_isTaken_32 ?_
            refine lv_iload_n hx hb d_Rd_isTaken_35 rfl (lv_at hl 2 rfl) ?_
            refine va_iald hx hb hK hP 2 1 rfl rfl (in_n (by omega) (by decide)) d_Rd_isTaken_36 ?_
            rw [nI_clamp (show o < 2 ^ 31 by omega)]
            refine lv_aload_n hx hb d_Rd_isTaken_37 rfl (lv_at hl 0 rfl) ?_
            refine va_get (D := D) (ci := 1) (v := .ref ry) (C := R_Rd) (T := T_Rd) (N := 13) hx hb hts i_Rd hown hK hP 0 rfl rfl 2 (by decide) (hts _ w_76) (fun _ h9 => h9) rfl d_Rd_isTaken_38 ?_
            refine lv_iload_n hx hb d_Rd_isTaken_41 rfl (lv_at hl 1 rfl) ?_
            refine va_iald hx hb hK hP 2 1 rfl rfl (in_n (by omega) (by decide)) d_Rd_isTaken_42 ?_
            rw [nI_clamp (show k < 2 ^ 31 by omega)]
            refine lv_icmp_ne (tgt := 48) hx hb d_Rd_isTaken_43 (by decide) (fun c_5 => ?_) (fun c_5 => ?_)
            · refine lv_iinc (v := nI (o + 1)) (lv' := [(2, .int (nI (o + 1))), (0, .ref r0), (1, .int (nI k))]) hx hb d_Rd_isTaken_48 hl (k := 2) rfl (nI_1 o) (by decide) rfl (fun ls hl => ?_)
              refine lv_goto (tgt := 2) hx hb d_Rd_isTaken_51 (by decide) ?_
              exact ih2 (o + 1) _ _ _ (by omega) (by rw [he, tkn]; simp only [if_neg c_2, if_neg c_3, if_pos c_4, if_neg c_5]) hP hD hS (lv_sub hl [1, 2, 0] rfl)
            · refine lv_iconst (v := 1) hx hb d_Rd_isTaken_46 (by decide) ?_
              exact fin _ _ _ _ _ _ d_Rd_isTaken_47 hP hS (by rw [he, tkn]; simp only [if_neg c_2, if_neg c_3, if_pos c_4, if_pos c_5]) (rfl) rfl
  exact lp_2 k 0 _ _ _ (by omega) (rfl) hP hD hS (lv_sub hl [1, 2, 0] rfl)
