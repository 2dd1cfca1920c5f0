set_option maxRecDepth 100000 in
set_option maxHeartbeats 4000000 in
/-- Row.get: a byte, or -1 -/
theorem c_Rw_get (l : Launch) (D : va_G) (cB cI cS : ClassId) (h0 hc : Nat) (f : Nat → Int32) (n : Nat) (k : Int32) (hn : n ≤ 8192) : mI l y_Rw_get b_Rw_get 2 (some .int) 0 D cls [(cB, .byte), (cI, .int), (cS, .object "MapLumps$Span")] [.ref h0, .int k] ([(h0, .inr (3, [.ref hc, .int (nI n)])), (hc, .inl (cB, 8192, .inl f))]) (rg f n k) ([(h0, .inr (3, [.ref hc, .int (nI n)])), (hc, .inl (cB, 8192, .inl f))]) := by
  refine pz_openI (by decide) (Nat.le_of_ble_eq_true rfl) ?_
  intro p e s m below meth c A ls Q X hN hK hP hD hS hA hl fin
  obtain ⟨hx, hb, hml, hown, hts⟩ := id X
  have hl : lv_has ls 2 [(0, .ref h0), (1, .int k)] := hl
  refine lv_iload_n hx hb d_Rw_get_0 rfl (lv_at hl 1 rfl) ?_
  refine lv_if_lt (tgt := 25) hx hb d_Rw_get_1 (by decide) (fun c_1 => ?_) (fun c_1 => ?_)
  · refine lv_iconst (v := (-1)) hx hb d_Rw_get_25 (by decide) ?_
    exact fin _ _ _ _ _ _ d_Rw_get_26 hP hS (by simp only [rg, if_pos c_1]) (rfl)
  · refine lv_iload_n hx hb d_Rw_get_4 rfl (lv_at hl 1 rfl) ?_
    refine lv_aload_n hx hb d_Rw_get_5 rfl (lv_at hl 0 rfl) ?_
    refine va_get (D := D) (ci := 3) (v := .int (nI n)) (C := R_Rw) (T := T_Rw) (N := 2) hx hb hts i_Rw hown hK hP 0 rfl rfl 1 (by decide) (hts _ w_31) (fun _ h9 => h9) rfl d_Rw_get_6 ?_
    refine lv_icmp_ge (tgt := 25) hx hb d_Rw_get_9 (by decide) (fun c_2 => ?_) (fun c_2 => ?_)
    · refine lv_iconst (v := (-1)) hx hb d_Rw_get_25 (by decide) ?_
      exact fin _ _ _ _ _ _ d_Rw_get_26 hP hS (by simp only [rg, if_neg c_1, if_pos c_2]) (rfl)
    · refine lv_aload_n hx hb d_Rw_get_12 rfl (lv_at hl 0 rfl) ?_
      refine va_get (D := D) (ci := 3) (v := .ref hc) (C := R_Rw) (T := T_Rw) (N := 2) hx hb hts i_Rw hown hK hP 0 rfl rfl 0 (by decide) (hts _ w_30) (fun _ h9 => h9) rfl d_Rw_get_13 ?_
      refine lv_iload_n hx hb d_Rw_get_16 rfl (lv_at hl 1 rfl) ?_
      refine va_bald hx hb hK hP 1 0 rfl rfl (in_a c_1 c_2 hn (by decide)) d_Rw_get_17 ?_
      refine lv_sipush (v := 255) hx hb d_Rw_get_18 (by decide) ?_
      refine lv_iand hx hb d_Rw_get_21 ?_
      refine lv_goto (tgt := 26) hx hb d_Rw_get_22 (by decide) ?_
      exact fin _ _ _ _ _ _ d_Rw_get_26 hP hS (by simp only [rg, if_neg c_1, if_neg c_2]) (rfl)

set_option maxRecDepth 100000 in
set_option maxHeartbeats 4000000 in
/-- Row.free -/
theorem c_Rw_free (l : Launch) (D : va_G) (cB cI cS : ClassId) (h0 hc : Nat) (f : Nat → Int32) (n : Nat)  : mI l y_Rw_free b_Rw_free 1 (some .int) 0 D cls [(cB, .byte), (cI, .int), (cS, .object "MapLumps$Span")] [.ref h0] ([(h0, .inr (3, [.ref hc, .int (nI n)])), (hc, .inl (cB, 8192, .inl f))]) (8192 - nI n) ([(h0, .inr (3, [.ref hc, .int (nI n)])), (hc, .inl (cB, 8192, .inl f))]) := by
  refine pz_openI (by decide) (Nat.le_of_ble_eq_true rfl) ?_
  intro p e s m below meth c A ls Q X hN hK hP hD hS hA hl fin
  obtain ⟨hx, hb, hml, hown, hts⟩ := id X
  have hl : lv_has ls 1 [(0, .ref h0)] := hl
  refine lv_aload_n hx hb d_Rw_free_0 rfl (lv_at hl 0 rfl) ?_
  refine va_get (D := D) (ci := 3) (v := .ref hc) (C := R_Rw) (T := T_Rw) (N := 2) hx hb hts i_Rw hown hK hP 0 rfl rfl 0 (by decide) (hts _ w_30) (fun _ h9 => h9) rfl d_Rw_free_1 ?_
  refine va_alen hx hb hK hP 1 0 rfl rfl (v := 8192) rfl d_Rw_free_4 ?_
  refine lv_aload_n hx hb d_Rw_free_5 rfl (lv_at hl 0 rfl) ?_
  refine va_get (D := D) (ci := 3) (v := .int (nI n)) (C := R_Rw) (T := T_Rw) (N := 2) hx hb hts i_Rw hown hK hP 0 rfl rfl 1 (by decide) (hts _ w_31) (fun _ h9 => h9) rfl d_Rw_free_6 ?_
  refine lv_isub hx hb d_Rw_free_9 ?_
  exact fin _ _ _ _ _ _ d_Rw_free_10 hP hS (rfl) (rfl)

set_option maxRecDepth 100000 in
set_option maxHeartbeats 4000000 in
/-- Row.put -/
theorem c_Rw_put (l : Launch) (D : va_G) (cB cI cS : ClassId) (h0 hc : Nat) (f : Nat → Int32) (n : Nat) (k b : Int32) (hn : n ≤ 8192) : mI l y_Rw_put b_Rw_put 3 (some .boolean) 0 D cls [(cB, .byte), (cI, .int), (cS, .object "MapLumps$Span")] [.ref h0, .int k, .int b] ([(h0, .inr (3, [.ref hc, .int (nI n)])), (hc, .inl (cB, 8192, .inl f))]) (rput n k) ([(h0, .inr (3, [.ref hc, .int (nI n)])), (hc, .inl (cB, 8192, .inl (rputF f n k b)))]) := by
  refine pz_openZ (by decide) (Nat.le_of_ble_eq_true rfl) ?_
  intro p e s m below meth c A ls Q X hN hK hP hD hS hA hl fin
  obtain ⟨hx, hb, hml, hown, hts⟩ := id X
  have hl : lv_has ls 3 [(0, .ref h0), (1, .int k), (2, .int b)] := hl
  refine lv_iload_n hx hb d_Rw_put_0 rfl (lv_at hl 1 rfl) ?_
  refine lv_if_lt (tgt := 12) hx hb d_Rw_put_1 (by decide) (fun c_1 => ?_) (fun c_1 => ?_)
  · refine lv_iconst (v := 0) hx hb d_Rw_put_12 (by decide) ?_
    exact fin _ _ _ _ _ _ d_Rw_put_13 hP hS (by simp only [rput, rputF, pk_vb, if_pos c_1]) (by simp only [rput, rputF, pk_vb, if_pos c_1]) rfl
  · refine lv_iload_n hx hb d_Rw_put_4 rfl (lv_at hl 1 rfl) ?_
    refine lv_aload_n hx hb d_Rw_put_5 rfl (lv_at hl 0 rfl) ?_
    refine va_get (D := D) (ci := 3) (v := .int (nI n)) (C := R_Rw) (T := T_Rw) (N := 2) hx hb hts i_Rw hown hK hP 0 rfl rfl 1 (by decide) (hts _ w_31) (fun _ h9 => h9) rfl d_Rw_put_6 ?_
    refine lv_icmp_lt (tgt := 14) hx hb d_Rw_put_9 (by decide) (fun c_2 => ?_) (fun c_2 => ?_)
    · refine lv_aload_n hx hb d_Rw_put_14 rfl (lv_at hl 0 rfl) ?_
      refine va_get (D := D) (ci := 3) (v := .ref hc) (C := R_Rw) (T := T_Rw) (N := 2) hx hb hts i_Rw hown hK hP 0 rfl rfl 0 (by decide) (hts _ w_30) (fun _ h9 => h9) rfl d_Rw_put_15 ?_
      refine lv_iload_n hx hb d_Rw_put_18 rfl (lv_at hl 1 rfl) ?_
      refine lv_iload_n hx hb d_Rw_put_19 rfl (lv_at hl 2 rfl) ?_
      refine lv_i2b hx hb d_Rw_put_20 rfl ?_
      refine va_bast hx hb hK hP hD hS 1 0 rfl rfl (in_b c_1 c_2 hn (by decide)) d_Rw_put_21 (fun H locs hP hD hS => ?_)
      have hP : va_P D cls ([(h0, .inr (3, [.ref hc, .int (nI n)])), (hc, .inl (cB, 8192, .inl (upd f k.toNatClampNeg (vp_nar .byte b.toInt8.toInt32))))]) H := hP
      have hD : va_D A ([(h0, .inr (3, [.ref hc, .int (nI n)])), (hc, .inl (cB, 8192, .inl (upd f k.toNatClampNeg (vp_nar .byte b.toInt8.toInt32))))]) := hD
      refine lv_iconst (v := 1) hx hb d_Rw_put_22 (by decide) ?_
      exact fin _ _ _ _ _ _ d_Rw_put_23 hP hS (by simp only [rput, rputF, pk_vb, if_neg c_1, if_pos c_2]) (by simp only [rput, rputF, pk_vb, if_neg c_1, if_pos c_2]) rfl
    · refine lv_iconst (v := 0) hx hb d_Rw_put_12 (by decide) ?_
      exact fin _ _ _ _ _ _ d_Rw_put_13 hP hS (by simp only [rput, rputF, pk_vb, if_neg c_1, if_neg c_2]) (by simp only [rput, rputF, pk_vb, if_neg c_1, if_neg c_2]) rfl

set_option maxRecDepth 100000 in
set_option maxHeartbeats 4000000 in
/-- Row.append, where there is room -/
theorem c_Rw_append (l : Launch) (D : va_G) (cB cI cS : ClassId) (h0 hc : Nat) (f : Nat → Int32) (n : Nat) (b : Int32) (hn : n < 8192) : mV l y_Rw_append b_Rw_append 2 (none) 0 D cls [(cB, .byte), (cI, .int), (cS, .object "MapLumps$Span")] [.ref h0, .int b] ([(h0, .inr (3, [.ref hc, .int (nI n)])), (hc, .inl (cB, 8192, .inl f))]) ([(h0, .inr (3, [.ref hc, .int (nI (n + 1))])), (hc, .inl (cB, 8192, .inl (upd f n b.toInt8.toInt32)))]) := by
  refine pz_openV (by decide) (Nat.le_of_ble_eq_true rfl) ?_
  intro p e s m below meth c A ls Q X hN hK hP hD hS hA hl fin
  obtain ⟨hx, hb, hml, hown, hts⟩ := id X
  have hl : lv_has ls 2 [(0, .ref h0), (1, .int b)] := hl
  refine lv_aload_n hx hb d_Rw_append_0 rfl (lv_at hl 0 rfl) ?_
  refine va_get (D := D) (ci := 3) (v := .int (nI n)) (C := R_Rw) (T := T_Rw) (N := 2) hx hb hts i_Rw hown hK hP 0 rfl rfl 1 (by decide) (hts _ w_31) (fun _ h9 => h9) rfl d_Rw_append_1 ?_
  refine lv_aload_n hx hb d_Rw_append_4 rfl (lv_at hl 0 rfl) ?_
  refine va_get (D := D) (ci := 3) (v := .ref hc) (C := R_Rw) (T := T_Rw) (N := 2) hx hb hts i_Rw hown hK hP 0 rfl rfl 0 (by decide) (hts _ w_30) (fun _ h9 => h9) rfl d_Rw_append_5 ?_
  refine va_alen hx hb hK hP 1 0 rfl rfl (v := 8192) rfl d_Rw_append_8 ?_
  refine lv_icmp_ge (tgt := 33) hx hb d_Rw_append_9 (by decide) (fun c_1 => ?_) (fun c_1 => ?_)
  · exact absurd c_1 (show ¬ nI 8192 ≤ nI n by rw [nI_leI (by omega) (by omega)]; omega)
  · refine lv_aload_n hx hb d_Rw_append_12 rfl (lv_at hl 0 rfl) ?_
    refine va_get (D := D) (ci := 3) (v := .ref hc) (C := R_Rw) (T := T_Rw) (N := 2) hx hb hts i_Rw hown hK hP 0 rfl rfl 0 (by decide) (hts _ w_30) (fun _ h9 => h9) rfl d_Rw_append_13 ?_
    refine lv_aload_n hx hb d_Rw_append_16 rfl (lv_at hl 0 rfl) ?_
    refine va_get (D := D) (ci := 3) (v := .int (nI n)) (C := R_Rw) (T := T_Rw) (N := 2) hx hb hts i_Rw hown hK hP 0 rfl rfl 1 (by decide) (hts _ w_31) (fun _ h9 => h9) rfl d_Rw_append_17 ?_
    refine lv_iload_n hx hb d_Rw_append_20 rfl (lv_at hl 1 rfl) ?_
    refine lv_i2b hx hb d_Rw_append_21 rfl ?_
    refine va_bast hx hb hK hP hD hS 1 0 rfl rfl (in_n hn (by decide)) d_Rw_append_22 (fun H locs hP hD hS => ?_)
    have hP : va_P D cls ([(h0, .inr (3, [.ref hc, .int (nI n)])), (hc, .inl (cB, 8192, .inl (upd f (nI n).toNatClampNeg (vp_nar .byte b.toInt8.toInt32))))]) H := hP
    have hD : va_D A ([(h0, .inr (3, [.ref hc, .int (nI n)])), (hc, .inl (cB, 8192, .inl (upd f (nI n).toNatClampNeg (vp_nar .byte b.toInt8.toInt32))))]) := hD
    refine lv_aload_n hx hb d_Rw_append_23 rfl (lv_at hl 0 rfl) ?_
    refine lv_dup hx hb d_Rw_append_24 rfl ?_
    refine va_get (D := D) (ci := 3) (v := .int (nI n)) (C := R_Rw) (T := T_Rw) (N := 2) hx hb hts i_Rw hown hK hP 0 rfl rfl 1 (by decide) (hts _ w_31) (fun _ h9 => h9) rfl d_Rw_append_25 ?_
    refine lv_iconst (v := 1) hx hb d_Rw_append_28 (by decide) ?_
    refine lv_iadd hx hb d_Rw_append_29 ?_
    refine va_put (D := D) (ci := 3) (v := .int ((nI n) + 1)) (ty := (.int)) (C := R_Rw) (T := T_Rw) (N := 2) hx hb hts i_Rw ty_Rw tyok_Rw nm_Rw hown hK hP hD hS 0 rfl rfl 1 (by decide) (hts _ w_31) (fun _ h9 => h9) rfl (by decide +kernel) rfl rfl (Nat.le_of_ble_eq_true rfl) d_Rw_append_30 (fun H locs hP hD hS => ?_)
    have hP : va_P D cls ([(h0, .inr (3, [.ref hc, .int ((nI n) + 1)])), (hc, .inl (cB, 8192, .inl (upd f (nI n).toNatClampNeg (vp_nar .byte b.toInt8.toInt32))))]) H := hP
    have hD : va_D A ([(h0, .inr (3, [.ref hc, .int ((nI n) + 1)])), (hc, .inl (cB, 8192, .inl (upd f (nI n).toNatClampNeg (vp_nar .byte b.toInt8.toInt32))))]) := hD
    exact fin _ _ _ _ _ d_Rw_append_33 hP hS (by rw [pk_vb, nI_clamp (by omega), nI_1])

set_option maxRecDepth 100000 in
set_option maxHeartbeats 4000000 in
/-- Row.shorten -/
theorem c_Rw_shorten (l : Launch) (D : va_G) (cB cI cS : ClassId) (h0 hc : Nat) (f : Nat → Int32) (n : Nat) (k : Int32)  : mI l y_Rw_shorten b_Rw_shorten 2 (some .boolean) 0 D cls [(cB, .byte), (cI, .int), (cS, .object "MapLumps$Span")] [.ref h0, .int k] ([(h0, .inr (3, [.ref hc, .int (nI n)])), (hc, .inl (cB, 8192, .inl f))]) (rsh n k) ([(h0, .inr (3, [.ref hc, .int (nI (rshN n k))])), (hc, .inl (cB, 8192, .inl f))]) := by
  refine pz_openZ (by decide) (Nat.le_of_ble_eq_true rfl) ?_
  intro p e s m below meth c A ls Q X hN hK hP hD hS hA hl fin
  obtain ⟨hx, hb, hml, hown, hts⟩ := id X
  have hl : lv_has ls 2 [(0, .ref h0), (1, .int k)] := hl
  refine lv_iload_n hx hb d_Rw_shorten_0 rfl (lv_at hl 1 rfl) ?_
  refine lv_if_lt (tgt := 12) hx hb d_Rw_shorten_1 (by decide) (fun c_1 => ?_) (fun c_1 => ?_)
  · refine lv_iconst (v := 0) hx hb d_Rw_shorten_12 (by decide) ?_
    exact fin _ _ _ _ _ _ d_Rw_shorten_13 hP hS (by simp only [rsh, rshN, if_pos c_1]) (by simp only [rshN, if_pos c_1]) rfl
  · refine lv_iload_n hx hb d_Rw_shorten_4 rfl (lv_at hl 1 rfl) ?_
    refine lv_aload_n hx hb d_Rw_shorten_5 rfl (lv_at hl 0 rfl) ?_
    refine va_get (D := D) (ci := 3) (v := .int (nI n)) (C := R_Rw) (T := T_Rw) (N := 2) hx hb hts i_Rw hown hK hP 0 rfl rfl 1 (by decide) (hts _ w_31) (fun _ h9 => h9) rfl d_Rw_shorten_6 ?_
    refine lv_icmp_le (tgt := 14) hx hb d_Rw_shorten_9 (by decide) (fun c_2 => ?_) (fun c_2 => ?_)
    · refine lv_aload_n hx hb d_Rw_shorten_14 rfl (lv_at hl 0 rfl) ?_
      refine lv_iload_n hx hb d_Rw_shorten_15 rfl (lv_at hl 1 rfl) ?_
      refine va_put (D := D) (ci := 3) (v := .int k) (ty := (.int)) (C := R_Rw) (T := T_Rw) (N := 2) hx hb hts i_Rw ty_Rw tyok_Rw nm_Rw hown hK hP hD hS 0 rfl rfl 1 (by decide) (hts _ w_31) (fun _ h9 => h9) rfl (by decide +kernel) rfl rfl (Nat.le_of_ble_eq_true rfl) d_Rw_shorten_16 (fun H locs hP hD hS => ?_)
      have hP : va_P D cls ([(h0, .inr (3, [.ref hc, .int k])), (hc, .inl (cB, 8192, .inl f))]) H := hP
      have hD : va_D A ([(h0, .inr (3, [.ref hc, .int k])), (hc, .inl (cB, 8192, .inl f))]) := hD
      refine lv_iconst (v := 1) hx hb d_Rw_shorten_19 (by decide) ?_
      exact fin _ _ _ _ _ _ d_Rw_shorten_20 hP hS (by simp only [rsh, rshN, if_neg c_1, if_pos c_2]) (by simp only [rshN, if_neg c_1, if_pos c_2]; rw [nI_cl c_1]) rfl
    · refine lv_iconst (v := 0) hx hb d_Rw_shorten_12 (by decide) ?_
      exact fin _ _ _ _ _ _ d_Rw_shorten_13 hP hS (by simp only [rsh, rshN, if_neg c_1, if_neg c_2]) (by simp only [rshN, if_neg c_1, if_neg c_2]) rfl

set_option maxRecDepth 100000 in
set_option maxHeartbeats 4000000 in
/-- Row.signed -/
theorem c_Rw_signed (l : Launch) (D : va_G) (cB cI cS : ClassId) (h0 hc : Nat) (f : Nat → Int32) (n : Nat) (k : Int32) (hn : n ≤ 8192) : mI l y_Rw_signed b_Rw_signed 3 (some .int) 1 D cls [(cB, .byte), (cI, .int), (cS, .object "MapLumps$Span")] [.ref h0, .int k] ([(h0, .inr (3, [.ref hc, .int (nI n)])), (hc, .inl (cB, 8192, .inl f))]) (rsg f n k) ([(h0, .inr (3, [.ref hc, .int (nI n)])), (hc, .inl (cB, 8192, .inl f))]) := by
  refine pz_openI (by decide) (Nat.le_of_ble_eq_true rfl) ?_
  intro p e s m below meth c A ls Q X hN hK hP hD hS hA hl fin
  obtain ⟨hx, hb, hml, hown, hts⟩ := id X
  have hl : lv_has ls 3 [(0, .ref h0), (1, .int k)] := hl
  refine lv_sipush (v := 256) hx hb d_Rw_signed_0 (by decide) ?_
  refine lv_aload_n hx hb d_Rw_signed_3 rfl (lv_at hl 0 rfl) ?_
  refine lv_iload_n hx hb d_Rw_signed_4 rfl (lv_at hl 1 rfl) ?_
  refine pz_i0 (pz_rV (d := 0) (As := [.int k]) (rest := [.int 256]) X hN (c_Rw_get l D cB cI cS h0 hc f n k hn _) k_Rw_get w_380 ⟨by decide, by decide⟩ hK hP hD [0, 1] rfl rfl 0 rfl rfl rfl rfl hl.1 rfl (Nat.le_of_ble_eq_true rfl) d_Rw_signed_5 ⟨Nat.zero_le _, Nat.zero_le _⟩) hP hD hS hA [0, 1] rfl (fun H locs hP hS => ?_)
  refine lv_imul hx hb d_Rw_signed_8 ?_
  refine lv_aload_n hx hb d_Rw_signed_9 rfl (lv_at hl 0 rfl) ?_
  refine lv_iload_n hx hb d_Rw_signed_10 rfl (lv_at hl 1 rfl) ?_
  refine lv_iconst (v := 1) hx hb d_Rw_signed_11 (by decide) ?_
  refine lv_iadd hx hb d_Rw_signed_12 ?_
  refine pz_i0 (pz_rV (d := 0) (As := [.int (k + 1)]) (rest := [.int (256 * (rg f n k))]) X hN (c_Rw_get l D cB cI cS h0 hc f n (k + 1) hn _) k_Rw_get w_380 ⟨by decide, by decide⟩ hK hP hD [0, 1] rfl rfl 0 rfl rfl rfl rfl hl.1 rfl (Nat.le_of_ble_eq_true rfl) d_Rw_signed_13 ⟨Nat.zero_le _, Nat.zero_le _⟩) hP hD hS hA [0, 1] rfl (fun H locs hP hS => ?_)
  refine lv_iadd hx hb d_Rw_signed_16 ?_
  refine lv_istore_n (lv' := [(2, .int ((256 * (rg f n k)) + (rg f n (k + 1)))), (0, .ref h0), (1, .int k)]) hx hb d_Rw_signed_17 rfl hl (by decide) rfl (fun ls hl => ?_)
  refine lv_iload_n hx hb d_Rw_signed_18 rfl (lv_at hl 0 rfl) ?_
  refine lv_sipush (v := 32767) hx hb d_Rw_signed_19 (by decide) ?_
  refine lv_icmp_le (tgt := 32) hx hb d_Rw_signed_22 (by decide) (fun c_1 => ?_) (fun c_1 => ?_)
  · refine lv_iload_n hx hb d_Rw_signed_32 rfl (lv_at hl 0 rfl) ?_
    exact fin _ _ _ _ _ _ d_Rw_signed_33 hP hS (by simp only [rsg, w16, if_pos c_1]) (rfl)
  · refine lv_iload_n hx hb d_Rw_signed_25 rfl (lv_at hl 0 rfl) ?_
    refine lv_ldc (v := 65536) hx hb hown (hts _ (w_381)) d_Rw_signed_26 ?_
    refine lv_isub hx hb d_Rw_signed_28 ?_
    refine lv_goto (tgt := 33) hx hb d_Rw_signed_29 (by decide) ?_
    exact fin _ _ _ _ _ _ d_Rw_signed_33 hP hS (by simp only [rsg, w16, if_neg c_1]) (rfl)

set_option maxRecDepth 100000 in
set_option maxHeartbeats 4000000 in
/-- Row.sums: 256 times the first sum, and the second -/
theorem c_Rw_sums (l : Launch) (D : va_G) (cB cI cS : ClassId) (h0 hc : Nat) (f : Nat → Int32) (n : Nat) (M : Nat) (hn : n ≤ 8192) (hM : M ≤ n) : mI l y_Rw_sums b_Rw_sums 5 (some .int) 0 D cls [(cB, .byte), (cI, .int), (cS, .object "MapLumps$Span")] [.ref h0, .int (nI M)] ([(h0, .inr (3, [.ref hc, .int (nI n)])), (hc, .inl (cB, 8192, .inl f))]) (256 * (sum2 f M).1 + (sum2 f M).2) ([(h0, .inr (3, [.ref hc, .int (nI n)])), (hc, .inl (cB, 8192, .inl f))]) := by
  refine pz_openI (by decide) (Nat.le_of_ble_eq_true rfl) ?_
  intro p e s m below meth c A ls Q X hN hK hP hD hS hA hl fin
  obtain ⟨hx, hb, hml, hown, hts⟩ := id X
  have hl : lv_has ls 5 [(0, .ref h0), (1, .int (nI M))] := hl
  refine lv_iconst (v := 0) hx hb d_Rw_sums_0 (by decide) ?_
  refine lv_istore_n (lv' := [(2, .int 0), (0, .ref h0), (1, .int (nI M))]) hx hb d_Rw_sums_1 rfl hl (by decide) rfl (fun ls hl => ?_)
  refine lv_iconst (v := 0) hx hb d_Rw_sums_2 (by decide) ?_
  refine lv_istore_n (lv' := [(3, .int 0), (2, .int 0), (0, .ref h0), (1, .int (nI M))]) hx hb d_Rw_sums_3 rfl hl (by decide) rfl (fun ls hl => ?_)
  refine lv_iconst (v := 0) hx hb d_Rw_sums_4 (by decide) ?_
  refine lv_istore (lv' := [(4, .int 0), (3, .int 0), (2, .int 0), (0, .ref h0), (1, .int (nI M))]) hx hb d_Rw_sums_5 hl (by decide) rfl (fun ls hl => ?_)
  have lp_1 : ∀ (j1 : Nat) (i : Nat) (ls : Array Slot) (H : Heap) (locs : List Loc), j1 + i = M → va_P D cls ([(h0, .inr (3, [.ref hc, .int (nI n)])), (hc, .inl (cB, 8192, .inl f))]) H → va_D A ([(h0, .inr (3, [.ref hc, .int (nI n)])), (hc, .inl (cB, 8192, .inl f))]) → va_S A s.heap H locs → lv_has ls 5 [(0, .ref h0), (1, .int (nI M)), (2, .int ((sum2 f i).1)), (3, .int ((sum2 f i).2)), (4, .int (nI i))] → W p l e (rmd 0) s m ([.ref h0, .int (nI M)] : List Value).toArray below meth c H locs 0 0 Q (F0 m 7 ls []) := by
    intro j1
    induction j1 with
    | zero =>
      intro i ls H locs hi hP hD hS hl
      refine lv_iload hx hb d_Rw_sums_7 (lv_at hl 4 rfl) ?_
      refine lv_iload_n hx hb d_Rw_sums_9 rfl (lv_at hl 1 rfl) ?_
      refine lv_icmp_ge (tgt := 54) hx hb d_Rw_sums_10 (by decide) (fun c_1 => ?_) (fun c_1 => ?_)
      · refine lv_sipush (v := 256) hx hb d_Rw_sums_54 (by decide) ?_
        refine lv_iload_n hx hb d_Rw_sums_57 rfl (lv_at hl 2 rfl) ?_
        refine lv_imul hx hb d_Rw_sums_58 ?_
        refine lv_iload_n hx hb d_Rw_sums_59 rfl (lv_at hl 3 rfl) ?_
        refine lv_iadd hx hb d_Rw_sums_60 ?_
        exact fin _ _ _ _ _ _ d_Rw_sums_61 hP hS (by rw [show i = M by omega]) (rfl)
      · exact (c_1 (by rw [nI_leI (by omega) (by omega)]; omega)).elim
    | succ j1 ih1 =>
      intro i ls H locs hi hP hD hS hl
      refine lv_iload hx hb d_Rw_sums_7 (lv_at hl 4 rfl) ?_
      refine lv_iload_n hx hb d_Rw_sums_9 rfl (lv_at hl 1 rfl) ?_
      refine lv_icmp_ge (tgt := 54) hx hb d_Rw_sums_10 (by decide) (fun c_2 => ?_) (fun c_2 => ?_)
      · exact absurd c_2 (by rw [nI_leI (by omega) (by omega)]; omega)
      · refine lv_iload hx hb d_Rw_sums_13 (lv_at hl 4 rfl) ?_
        refine lv_aload_n hx hb d_Rw_sums_15 rfl (lv_at hl 0 rfl) ?_
        refine va_get (D := D) (ci := 3) (v := .int (nI n)) (C := R_Rw) (T := T_Rw) (N := 2) hx hb hts i_Rw hown hK hP 0 rfl rfl 1 (by decide) (hts _ w_31) (fun _ h9 => h9) rfl d_Rw_sums_16 ?_
        refine lv_icmp_ge (tgt := 54) hx hb d_Rw_sums_19 (by decide) (fun c_3 => ?_) (fun c_3 => ?_)
        · exact absurd c_3 (by rw [nI_leI (by omega) (by omega)]; omega)
        · refine lv_iload_n hx hb d_Rw_sums_22 rfl (lv_at hl 2 rfl) ?_
          refine lv_aload_n hx hb d_Rw_sums_23 rfl (lv_at hl 0 rfl) ?_
          refine va_get (D := D) (ci := 3) (v := .ref hc) (C := R_Rw) (T := T_Rw) (N := 2) hx hb hts i_Rw hown hK hP 0 rfl rfl 0 (by decide) (hts _ w_30) (fun _ h9 => h9) rfl d_Rw_sums_24 ?_
          refine lv_iload hx hb d_Rw_sums_27 (lv_at hl 4 rfl) ?_
          refine va_bald hx hb hK hP 1 0 rfl rfl (in_n (by omega) (by decide)) d_Rw_sums_29 ?_
          rw [nI_clamp (show i < 2 ^ 31 by omega)]
          refine lv_sipush (v := 255) hx hb d_Rw_sums_30 (by decide) ?_
          refine lv_iand hx hb d_Rw_sums_33 ?_
          refine lv_iadd hx hb d_Rw_sums_34 ?_
          refine lv_sipush (v := 251) hx hb d_Rw_sums_35 (by decide) ?_
          refine lv_irem hx hb d_Rw_sums_38 (by decide) ?_
          refine lv_istore_n (lv' := [(2, .int ((((sum2 f i).1) + ((f i) &&& 255)) - (((sum2 f i).1) + ((f i) &&& 255)) / 251 * 251)), (0, .ref h0), (1, .int (nI M)), (3, .int ((sum2 f i).2)), (4, .int (nI i))]) hx hb d_Rw_sums_39 rfl hl (by decide) rfl (fun ls hl => ?_)
          refine lv_iload_n hx hb d_Rw_sums_40 rfl (lv_at hl 3 rfl) ?_
          refine lv_iload_n hx hb d_Rw_sums_41 rfl (lv_at hl 0 rfl) ?_
          refine lv_iadd hx hb d_Rw_sums_42 ?_
          refine lv_sipush (v := 251) hx hb d_Rw_sums_43 (by decide) ?_
          refine lv_irem hx hb d_Rw_sums_46 (by decide) ?_
          refine lv_istore_n (lv' := [(3, .int ((((sum2 f i).2) + ((((sum2 f i).1) + ((f i) &&& 255)) - (((sum2 f i).1) + ((f i) &&& 255)) / 251 * 251)) - (((sum2 f i).2) + ((((sum2 f i).1) + ((f i) &&& 255)) - (((sum2 f i).1) + ((f i) &&& 255)) / 251 * 251)) / 251 * 251)), (2, .int ((((sum2 f i).1) + ((f i) &&& 255)) - (((sum2 f i).1) + ((f i) &&& 255)) / 251 * 251)), (0, .ref h0), (1, .int (nI M)), (4, .int (nI i))]) hx hb d_Rw_sums_47 rfl hl (by decide) rfl (fun ls hl => ?_)
          refine lv_iinc (v := nI (i + 1)) (lv' := [(4, .int (nI (i + 1))), (3, .int ((((sum2 f i).2) + ((((sum2 f i).1) + ((f i) &&& 255)) - (((sum2 f i).1) + ((f i) &&& 255)) / 251 * 251)) - (((sum2 f i).2) + ((((sum2 f i).1) + ((f i) &&& 255)) - (((sum2 f i).1) + ((f i) &&& 255)) / 251 * 251)) / 251 * 251)), (2, .int ((((sum2 f i).1) + ((f i) &&& 255)) - (((sum2 f i).1) + ((f i) &&& 255)) / 251 * 251)), (0, .ref h0), (1, .int (nI M))]) hx hb d_Rw_sums_48 hl (k := 4) rfl (nI_1 i) (by decide) rfl (fun ls hl => ?_)
          refine lv_goto (tgt := 7) hx hb d_Rw_sums_51 (by decide) ?_
          exact ih1 (i + 1) _ _ _ (by omega) hP hD hS (lv_sub hl [3, 4, 2, 1, 0] rfl)
  exact lp_1 M 0 _ _ _ (by omega) hP hD hS (lv_sub hl [3, 4, 2, 1, 0] rfl)

set_option maxRecDepth 100000 in
set_option maxHeartbeats 4000000 in
/-- Row.copy: the other one's bytes -/
theorem c_Rw_copy (l : Launch) (D : va_G) (cB cI cS : ClassId) (h0 hc h1 hd : Nat) (f f2 : Nat → Int32) (n n2 : Nat) (hn : n2 ≤ 8192) (hf : sb_Fit f2) : mV l y_Rw_copy b_Rw_copy 2 (none) 1 D cls [(cB, .byte), (cI, .int), (cS, .object "MapLumps$Span")] [.ref h0, .ref h1] ([(h0, .inr (3, [.ref hc, .int (nI n)])), (hc, .inl (cB, 8192, .inl f)), (h1, .inr (3, [.ref hd, .int (nI n2)])), (hd, .inl (cB, 8192, .inl f2))]) ([(h0, .inr (3, [.ref hc, .int (nI n2)])), (hc, .inl (cB, 8192, .inl (va_cpy f2 f 0 0 n2))), (h1, .inr (3, [.ref hd, .int (nI n2)])), (hd, .inl (cB, 8192, .inl f2))]) := by
  refine pz_openV (by decide) (Nat.le_of_ble_eq_true rfl) ?_
  intro p e s m below meth c A ls Q X hN hK hP hD hS hA hl fin
  obtain ⟨hx, hb, hml, hown, hts⟩ := id X
  have hl : lv_has ls 2 [(0, .ref h0), (1, .ref h1)] := hl
  refine lv_aload_n hx hb d_Rw_copy_0 rfl (lv_at hl 1 rfl) ?_
  refine va_get (D := D) (ci := 3) (v := .ref hd) (C := R_Rw) (T := T_Rw) (N := 2) hx hb hts i_Rw hown hK hP 2 rfl rfl 0 (by decide) (hts _ w_30) (fun _ h9 => h9) rfl d_Rw_copy_1 ?_
  refine lv_iconst (v := 0) hx hb d_Rw_copy_4 (by decide) ?_
  refine lv_aload_n hx hb d_Rw_copy_5 rfl (lv_at hl 0 rfl) ?_
  refine va_get (D := D) (ci := 3) (v := .ref hc) (C := R_Rw) (T := T_Rw) (N := 2) hx hb hts i_Rw hown hK hP 0 rfl rfl 0 (by decide) (hts _ w_30) (fun _ h9 => h9) rfl d_Rw_copy_6 ?_
  refine lv_iconst (v := 0) hx hb d_Rw_copy_9 (by decide) ?_
  refine lv_aload_n hx hb d_Rw_copy_10 rfl (lv_at hl 1 rfl) ?_
  refine va_get (D := D) (ci := 3) (v := .int (nI n2)) (C := R_Rw) (T := T_Rw) (N := 2) hx hb hts i_Rw hown hK hP 2 rfl rfl 1 (by decide) (hts _ w_31) (fun _ h9 => h9) rfl d_Rw_copy_11 ?_
  refine va_copyi hx hb (hml.trans hl.1.symm) hown (hts _ w_340) (hts _ w_342) (hts _ w_341) (hts _ w_9) hK hP hD hS 3 1 0 0 rfl rfl rfl rfl rfl (by decide) (by decide) (nI_pos (show n2 < 2 ^ 31 by omega)) (by rw [nI_clamp (show n2 < 2 ^ 31 by omega)]; show 0 + n2 ≤ 8192; omega) (by rw [nI_clamp (show n2 < 2 ^ 31 by omega)]; show 0 + n2 ≤ 8192; omega) (fun i _ => hf _) (by decide) (Nat.le_of_ble_eq_true rfl) d_Rw_copy_14 (fun H locs hP hD hS => ?_)
  rw [nI_clamp (show n2 < 2 ^ 31 by omega)] at hP hD
  have hP : va_P D cls ([(h0, .inr (3, [.ref hc, .int (nI n)])), (hc, .inl (cB, 8192, .inl (va_cpy f2 f 0 0 n2))), (h1, .inr (3, [.ref hd, .int (nI n2)])), (hd, .inl (cB, 8192, .inl f2))]) H := hP
  have hD : va_D A ([(h0, .inr (3, [.ref hc, .int (nI n)])), (hc, .inl (cB, 8192, .inl (va_cpy f2 f 0 0 n2))), (h1, .inr (3, [.ref hd, .int (nI n2)])), (hd, .inl (cB, 8192, .inl f2))]) := hD
  refine lv_aload_n hx hb d_Rw_copy_17 rfl (lv_at hl 0 rfl) ?_
  refine lv_aload_n hx hb d_Rw_copy_18 rfl (lv_at hl 1 rfl) ?_
  refine va_get (D := D) (ci := 3) (v := .int (nI n2)) (C := R_Rw) (T := T_Rw) (N := 2) hx hb hts i_Rw hown hK hP 2 rfl rfl 1 (by decide) (hts _ w_31) (fun _ h9 => h9) rfl d_Rw_copy_19 ?_
  refine va_put (D := D) (ci := 3) (v := .int (nI n2)) (ty := (.int)) (C := R_Rw) (T := T_Rw) (N := 2) hx hb hts i_Rw ty_Rw tyok_Rw nm_Rw hown hK hP hD hS 0 rfl rfl 1 (by decide) (hts _ w_31) (fun _ h9 => h9) rfl (by decide +kernel) rfl rfl (Nat.le_of_ble_eq_true rfl) d_Rw_copy_22 (fun H locs hP hD hS => ?_)
  have hP : va_P D cls ([(h0, .inr (3, [.ref hc, .int (nI n2)])), (hc, .inl (cB, 8192, .inl (va_cpy f2 f 0 0 n2))), (h1, .inr (3, [.ref hd, .int (nI n2)])), (hd, .inl (cB, 8192, .inl f2))]) H := hP
  have hD : va_D A ([(h0, .inr (3, [.ref hc, .int (nI n2)])), (hc, .inl (cB, 8192, .inl (va_cpy f2 f 0 0 n2))), (h1, .inr (3, [.ref hd, .int (nI n2)])), (hd, .inl (cB, 8192, .inl f2))]) := hD
  exact fin _ _ _ _ _ d_Rw_copy_25 hP hS (rfl)
