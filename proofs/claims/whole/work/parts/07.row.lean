set_option maxRecDepth 100000 in
set_option maxHeartbeats 4000000 in
/-- Row.get: a byte, or -1 -/
theorem c_Rw_get (l : Launch) (D : va_G) (cB cI cS : ClassId) (h0 hc : Nat) (f : Nat → Int32) (n : Nat) (k : Int32) (hn : n ≤ 8192) : mI l y_Rw_get b_Rw_get 2 (some .int) 0 D cls [(cB, .byte), (cI, .int), (cS, .object "MapLumps$Span")] [.ref h0, .int k] ([(h0, .inr (3, [.ref hc, .int (nI n)])), (hc, .inl (cB, 8192, .inl f))]) (rg f n k) ([(h0, .inr (3, [.ref hc, .int (nI n)])), (hc, .inl (cB, 8192, .inl f))]) := by
  refine pz_openI (by decide) (Nat.le_of_ble_eq_true rfl) ?_
  intro p e s m below meth c A ls Q X hN hK hP hD hS hA hl fin
  obtain ⟨hx, hb, hml, hown, hts⟩ := id X
  have hl : lv_has ls 2 [(0, .ref h0), (1, .int k)] := hl
  refine lv_iload_n hx hb d_Rw_get_0 rfl (lv_at hl 1 rfl) ?_
  refine lv_if_lt (tgt := 25) hx hb d_Rw_get_1 (by decide) (fun c_1 => ?_) (fun c_1 => ?_)
  · refine lv_iconst (v := (-1)) hx hb d_Rw_get_25 (by decide) ?_
    exact fin _ _ _ _ _ _ d_Rw_get_26 hP hS (by simp only [rg, if_pos c_1]) (rfl)
  · refine lv_iload_n hx hb d_Rw_get_4 rfl (lv_at hl 1 rfl) ?_
    refine lv_aload_n hx hb d_Rw_get_5 rfl (lv_at hl 0 rfl) ?_
    refine va_get (D := D) (ci := 3) (v := .int (nI n)) (C := R_Rw) (T := T_Rw) (N := 2) hx hb hts i_Rw hown hK hP 0 rfl rfl 1 (by decide) (hts _ w_31) (fun _ h9 => h9) rfl d_Rw_get_6 ?_
    refine lv_icmp_ge (tgt := 25) hx hb d_Rw_get_9 (by decide) (fun c_2 => ?_) (fun c_2 => ?_)
    · refine lv_iconst (v := (-1)) hx hb d_Rw_get_25 (by decide) ?_
      exact fin _ _ _ _ _ _ d_Rw_get_26 hP hS (by simp only [rg, if_neg c_1, if_pos c_2]) (rfl)
    · refine lv_aload_n hx hb d_Rw_get_12 rfl (lv_at hl 0 rfl) ?_
      refine va_get (D := D) (ci := 3) (v := .ref hc) (C := R_Rw) (T := T_Rw) (N := 2) hx hb hts i_Rw hown hK hP 0 rfl rfl 0 (by decide) (hts _ w_30) (fun _ h9 => h9) rfl d_Rw_get_13 ?_
      refine lv_iload_n hx hb d_Rw_get_16 rfl (lv_at hl 1 rfl) ?_
      refine va_bald hx hb hK hP 1 0 rfl rfl (in_a c_1 c_2 hn (by decide)) d_Rw_get_17 ?_
      refine lv_sipush (v := 255) hx hb d_Rw_get_18 (by decide) ?_
      refine lv_iand hx hb d_Rw_get_21 ?_
      refine lv_goto (tgt := 26) hx hb d_Rw_get_22 (by decide) ?_
      exact fin _ _ _ _ _ _ d_Rw_get_26 hP hS (by simp only [rg, if_neg c_1, if_neg c_2]) (rfl)

set_option maxRecDepth 100000 in
set_option maxHeartbeats 4000000 in
/-- Row.free -/
theorem c_Rw_free (l : Launch) (D : va_G) (cB cI cS : ClassId) (h0 hc : Nat) (f : Nat → Int32) (n : Nat)  : mI l y_Rw_free b_Rw_free 1 (some .int) 0 D cls [(cB, .byte), (cI, .int), (cS, .object "MapLumps$Span")] [.ref h0] ([(h0, .inr (3, [.ref hc, .int (nI n)])), (hc, .inl (cB, 8192, .inl f))]) (8192 - nI n) ([(h0, .inr (3, [.ref hc, .int (nI n)])), (hc, .inl (cB, 8192, .inl f))]) := by
  refine pz_openI (by decide) (Nat.le_of_ble_eq_true rfl) ?_
  intro p e s m below meth c A ls Q X hN hK hP hD hS hA hl fin
  obtain ⟨hx, hb, hml, hown, hts⟩ := id X
  have hl : lv_has ls 1 [(0, .ref h0)] := hl
  refine lv_aload_n hx hb d_Rw_free_0 rfl (lv_at hl 0 rfl) ?_
  refine va_get (D := D) (ci := 3) (v := .ref hc) (C := R_Rw) (T := T_Rw) (N := 2) hx hb hts i_Rw hown hK hP 0 rfl rfl 0 (by decide) (hts _ w_30) (fun _ h9 => h9) rfl d_Rw_free_1 ?_
  refine va_alen hx hb hK hP 1 0 rfl rfl (v := 8192) rfl d_Rw_free_4 ?_
  refine lv_aload_n hx hb d_Rw_free_5 rfl (lv_at hl 0 rfl) ?_
  refine va_get (D := D) (ci := 3) (v := .int (nI n)) (C := R_Rw) (T := T_Rw) (N := 2) hx hb hts i_Rw hown hK hP 0 rfl rfl 1 (by decide) (hts _ w_31) (fun _ h9 => h9) rfl d_Rw_free_6 ?_
  refine lv_isub hx hb d_Rw_free_9 ?_
  exact fin _ _ _ _ _ _ d_Rw_free_10 hP hS (rfl) (rfl)

set_option maxRecDepth 100000 in
set_option maxHeartbeats 4000000 in
/-- Row.put -/
theorem c_Rw_put (l : Launch) (D : va_G) (cB cI cS : ClassId) (h0 hc : Nat) (f : Nat → Int32) (n : Nat) (k b : Int32) (hn : n ≤ 8192) : mI l y_Rw_put b_Rw_put 3 (some .boolean) 0 D cls [(cB, .byte), (cI, .int), (cS, .object "MapLumps$Span")] [.ref h0, .int k, .int b] ([(h0, .inr (3, [.ref hc, .int (nI n)])), (hc, .inl (cB, 8192, .inl f))]) (rput n k) ([(h0, .inr (3, [.ref hc, .int (nI n)])), (hc, .inl (cB, 8192, .inl (rputF f n k b)))]) := by
  refine pz_openZ (by decide) (Nat.le_of_ble_eq_true rfl) ?_
  intro p e s m below meth c A ls Q X hN hK hP hD hS hA hl fin
  obtain ⟨hx, hb, hml, hown, hts⟩ := id X
  have hl : lv_has ls 3 [(0, .ref h0), (1, .int k), (2, .int b)] := hl
  refine lv_iload_n hx hb d_Rw_put_0 rfl (lv_at hl 1 rfl) ?_
  refine lv_if_lt (tgt := 12) hx hb d_Rw_put_1 (by decide) (fun c_1 => ?_) (fun c_1 => ?_)
  · refine lv_iconst (v := 0) hx hb d_Rw_put_12 (by decide) ?_
    exact fin _ _ _ _ _ _ d_Rw_put_13 hP hS (by simp only [rput, rputF, pk_vb, if_pos c_1]) (by simp only [rput, rputF, pk_vb, if_pos c_1]) rfl
  · refine lv_iload_n hx hb d_Rw_put_4 rfl (lv_at hl 1 rfl) ?_
    refine lv_aload_n hx hb d_Rw_put_5 rfl (lv_at hl 0 rfl) ?_
    refine va_get (D := D) (ci := 3) (v := .int (nI n)) (C := R_Rw) (T := T_Rw) (N := 2) hx hb hts i_Rw hown hK hP 0 rfl rfl 1 (by decide) (hts _ w_31) (fun _ h9 => h9) rfl d_Rw_put_6 ?_
    refine lv_icmp_lt (tgt := 14) hx hb d_Rw_put_9 (by decide) (fun c_2 => ?_) (fun c_2 => ?_)
    · refine lv_aload_n hx hb d_Rw_put_14 rfl (lv_at hl 0 rfl) ?_
      refine va_get (D := D) (ci := 3) (v := .ref hc) (C := R_Rw) (T := T_Rw) (N := 2) hx hb hts i_Rw hown hK hP 0 rfl rfl 0 (by decide) (hts _ w_30) (fun _ h9 => h9) rfl d_Rw_put_15 ?_
      refine lv_iload_n hx hb d_Rw_put_18 rfl (lv_at hl 1 rfl) ?_
      refine lv_iload_n hx hb d_Rw_put_19 rfl (lv_at hl 2 rfl) ?_
      refine lv_i2b hx hb d_Rw_put_20 rfl ?_
      refine va_bast hx hb hK hP hD hS 1 0 rfl rfl (in_b c_1 c_2 hn (by decide)) d_Rw_put_21 (fun H locs hP hD hS => ?_)
      have hP : va_P D cls ([(h0, .inr (3, [.ref hc, .int (nI n)])), (hc, .inl (cB, 8192, .inl (upd f k.toNatClampNeg (vp_nar .byte b.toInt8.toInt32))))]) H := hP
      have hD : va_D A ([(h0, .inr (3, [.ref hc, .int (nI n)])), (hc, .inl (cB, 8192, .inl (upd f k.toNatClampNeg (vp_nar .byte b.toInt8.toInt32))))]) := hD
      refine lv_iconst (v := 1) hx hb d_Rw_put_22 (by decide) ?_
      exact fin _ _ _ _ _ _ d_Rw_put_23 hP hS (by simp only [rput, rputF, pk_vb, if_neg c_1, if_pos c_2]) (by simp only [rput, rputF, pk_vb, if_neg c_1, if_pos c_2]) rfl
    · refine lv_iconst (v := 0) hx hb d_Rw_put_12 (by decide) ?_
      exact fin _ _ _ _ _ _ d_Rw_put_13 hP hS (by simp only [rput, rputF, pk_vb, if_neg c_1, if_neg c_2]) (by simp only [rput, rputF, pk_vb, if_neg c_1, if_neg c_2]) rfl

set_option maxRecDepth 100000 in
set_option maxHeartbeats 4000000 in
/-- Row.append, where there is room -/
theorem c_Rw_append (l : Launch) (D : va_G) (cB cI cS : ClassId) (h0 hc : Nat) (f : Nat → Int32) (n : Nat) (b : Int32) (hn : n < 8192) : mV l y_Rw_append b_Rw_append 2 (none) 0 D cls [(cB, .byte), (cI, .int), (cS, .object "MapLumps$Span")] [.ref h0, .int b] ([(h0, .inr (3, [.ref hc, .int (nI n)])), (hc, .inl (cB, 8192, .inl f))]) ([(h0, .inr (3, [.ref hc, .int (nI (n + 1))])), (hc, .inl (cB, 8192, .inl (upd f n b.toInt8.toInt32)))]) := by
  refine pz_openV (by decide) (Nat.le_of_ble_eq_true rfl) ?_
  intro p e s m below meth c A ls Q X hN hK hP hD hS hA hl fin
  obtain ⟨hx, hb, hml, hown, hts⟩ := id X
  have hl : lv_has ls 2 [(0, .ref h0), (1, .int b)] := hl
  refine lv_aload_n hx hb d_Rw_append_0 rfl (lv_at hl 0 rfl) ?_
  refine va_get (D := D) (ci := 3) (v := .int (nI n)) (C := R_Rw) (T := T_Rw) (N := 2) hx hb hts i_Rw hown hK hP 0 rfl rfl 1 (by decide) (hts _ w_31) (fun _ h9 => h9) rfl d_Rw_append_1 ?_
  refine lv_aload_n hx hb d_Rw_append_4 rfl (lv_at hl 0 rfl) ?_
  refine va_get (D := D) (ci := 3) (v := .ref hc) (C := R_Rw) (T := T_Rw) (N := 2) hx hb hts i_Rw hown hK hP 0 rfl rfl 0 (by decide) (hts _ w_30) (fun _ h9 => h9) rfl d_Rw_append_5 ?_
  refine va_alen hx hb hK hP 1 0 rfl rfl (v := 8192) rfl d_Rw_append_8 ?_
  refine lv_icmp_ge (tgt := 33) hx hb d_Rw_append_9 (by decide) (fun c_1 => ?_) (fun c_1 => ?_)
  · exact absurd c_1 (show ¬ nI 8192 ≤ nI n by rw [nI_leI (by omega) (by omega)]; omega)
  · refine lv_aload_n hx hb d_Rw_append_12 rfl (lv_at hl 0 rfl) ?_
    refine va_get (D := D) (ci := 3) (v := .ref hc) (C := R_Rw) (T := T_Rw) (N := 2) hx hb hts i_Rw hown hK hP 0 rfl rfl 0 (by decide) (hts _ w_30) (fun _ h9 => h9) rfl d_Rw_append_13 ?_
    refine lv_aload_n hx hb d_Rw_append_16 rfl (lv_at hl 0 rfl) ?_
    refine va_get (D := D) (ci := 3) (v := .int (nI n)) (C := R_Rw) (T := T_Rw) (N := 2) hx hb hts i_Rw hown hK hP 0 rfl rfl 1 (by decide) (hts _ w_31) (fun _ h9 => h9) rfl d_Rw_append_17 ?_
    refine lv_iload_n hx hb d_Rw_append_20 rfl (lv_at hl 1 rfl) ?_
    refine lv_i2b hx hb d_Rw_append_21 rfl ?_
    refine va_bast hx hb hK hP hD hS 1 0 rfl rfl (in_n hn (by decide)) d_Rw_append_22 (fun H locs hP hD hS => ?_)
    have hP : va_P D cls ([(h0, .inr (3, [.ref hc, .int (nI n)])), (hc, .inl (cB, 8192, .inl (upd f (nI n).toNatClampNeg (vp_nar .byte b.toInt8.toInt32))))]) H := hP
    have hD : va_D A ([(h0, .inr (3, [.ref hc, .int (nI n)])), (hc, .inl (cB, 8192, .inl (upd f (nI n).toNatClampNeg (vp_nar .byte b.toInt8.toInt32))))]) := hD
    refine lv_aload_n hx hb d_Rw_append_23 rfl (lv_at hl 0 rfl) ?_
    refine lv_dup hx hb d_Rw_append_24 rfl ?_
    refine va_get (D := D) (ci := 3) (v := .int (nI n)) (C := R_Rw) (T := T_Rw) (N := 2) hx hb hts i_Rw hown hK hP 0 rfl rfl 1 (by decide) (hts _ w_31) (fun _ h9 => h9) rfl d_Rw_append_25 ?_
    refine lv_iconst (v := 1) hx hb d_Rw_append_28 (by decide) ?_
    refine lv_iadd hx hb d_Rw_append_29 ?_
    refine va_put (D := D) (ci := 3) (v := .int ((nI n) + 1)) (ty := (.int)) (C := R_Rw) (T := T_Rw) (N := 2) hx hb hts i_Rw ty_Rw tyok_Rw nm_Rw hown hK hP hD hS 0 rfl rfl 1 (by decide) (hts _ w_31) (fun _ h9 => h9) rfl (by decide +kernel) rfl rfl (Nat.le_of_ble_eq_true rfl) d_Rw_append_30 (fun H locs hP hD hS => ?_)
    have hP : va_P D cls ([(h0, .inr (3, [.ref hc, .int ((nI n) + 1)])), (hc, .inl (cB, 8192, .inl (upd f (nI n).toNatClampNeg (vp_nar .byte b.toInt8.toInt32))))]) H := hP
    have hD : va_D A ([(h0, .inr (3, [.ref hc, .int ((nI n) + 1)])), (hc, .inl (cB, 8192, .inl (upd f (nI n).toNatClampNeg (vp_nar .byte b.toInt8.toInt32))))]) := hD
    exact fin _ _ _ _ _ d_Rw_append_33 hP hS (by rw [pk_vb, nI_clamp (by omega), nI_1])

set_option maxRecDepth 100000 in
set_option maxHeartbeats 4000000 in
/-- Row.shorten -/
theorem c_Rw_shorten (l : Launch) (D : va_G) (cB cI cS : ClassId) (h0 hc : Nat) (f : Nat → Int32) (n : Nat) (k : Int32)  : mI l y_Rw_shorten b_Rw_shorten 2 (some .boolean) 0 D cls [(cB, .byte), (cI, .int), (cS, .object "MapLumps$Span")] [.ref h0, .int k] ([(h0, .inr (3, [.ref hc, .int (nI n)])), (hc, .inl (cB, 8192, .inl f))]) (rsh n k) ([(h0, .inr (3, [.ref hc, .int (nI (rshN n k))])), (hc, .inl (cB, 8192, .inl f))]) := by
  refine pz_openZ (by decide) (Nat.le_of_ble_eq_true rfl) ?_
  intro p e s m below meth c A ls Q X hN hK hP hD hS hA hl fin
  obtain ⟨hx, hb, hml, hown, hts⟩ := id X
  have hl : lv_has ls 2 [(0, .ref h0), (1, .int k)] := hl
  refine lv_iload_n hx hb d_Rw_shorten_0 rfl (lv_at hl 1 rfl) ?_
  refine lv_if_lt (tgt := 12) hx hb d_Rw_shorten_1 (by decide) (fun c_1 => ?_) (fun c_1 => ?_)
  · refine lv_iconst (v := 0) hx hb d_Rw_shorten_12 (by decide) ?_
    exact fin _ _ _ _ _ _ d_Rw_shorten_13 hP hS (by simp only [rsh, rshN, if_pos c_1]) (by simp only [rshN, if_pos c_1]) rfl
  · refine lv_iload_n hx hb d_Rw_shorten_4 rfl (lv_at hl 1 rfl) ?_
    refine lv_aload_n hx hb d_Rw_shorten_5 rfl (lv_at hl 0 rfl) ?_
    refine va_get (D := D) (ci := 3) (v := .int (nI n)) (C := R_Rw) (T := T_Rw) (N := 2) hx hb hts i_Rw hown hK hP 0 rfl rfl 1 (by decide) (hts _ w_31) (fun _ h9 => h9) rfl d_Rw_shorten_6 ?_
    refine lv_icmp_le (tgt := 14) hx hb d_Rw_shorten_9 (by decide) (fun c_2 => ?_) (fun c_2 => ?_)
    · refine lv_aload_n hx hb d_Rw_shorten_14 rfl (lv_at hl 0 rfl) ?_
      refine lv_iload_n hx hb d_Rw_shorten_15 rfl (lv_at hl 1 rfl) ?_
      refine va_put (D := D) (ci := 3) (v := .int k) (ty := (.int)) (C := R_Rw) (T := T_Rw) (N := 2) hx hb hts i_Rw ty_Rw tyok_Rw nm_Rw hown hK hP hD hS 0 rfl rfl 1 (by decide) (hts _ w_31) (fun _ h9 => h9) rfl (by decide +kernel) rfl rfl (Nat.le_of_ble_eq_true rfl) d_Rw_shorten_16 (fun H locs hP hD hS => ?_)
      have hP : va_P D cls ([(h0, .inr (3, [.ref hc, .int k])), (hc, .inl (cB, 8192, .inl f))]) H := hP
      have hD : va_D A ([(h0, .inr (3, [.ref hc, .int k])), (hc, .inl (cB, 8192, .inl f))]) := hD
      refine lv_iconst (v := 1) hx hb d_Rw_shorten_19 (by decide) ?_
      exact fin _ _ _ _ _ _ d_Rw_shorten_20 hP hS (by simp only [rsh, rshN, if_neg c_1, if_pos c_2]) (by simp only [rshN, if_neg c_1, if_pos c_2]; rw [nI_cl c_1]) rfl
    · refine lv_iconst (v := 0) hx hb d_Rw_shorten_12 (by decide) ?_
      exact fin _ _ _ _ _ _ d_Rw_shorten_13 hP hS (by simp only [rsh, rshN, if_neg c_1, if_neg c_2]) (by simp only [rshN, if_neg c_1, if_neg c_2]) rfl

set_option maxRecDepth 100000 in
set_option maxHeartbeats 4000000 in
/-- Row.signed -/
theorem c_Rw_signed (l : Launch) (D : va_G) (cB cI cS : ClassId) (h0 hc : Nat) (f : Nat → Int32) (n : Nat) (k : Int32) (hn : n ≤ 8192) : mI l y_Rw_signed b_Rw_signed 3 (some .int) 1 D cls [(cB, .byte), (cI, .int), (cS, .object "MapLumps$Span")] [.ref h0, .int k] ([(h0, .inr (3, [.ref hc, .int (nI n)])), (hc, .inl (cB, 8192, .inl f))]) (rsg f n k) ([(h0, .inr (3, [.ref hc, .int (nI n)])), (hc, .inl (cB, 8192, .inl f))]) := by
  refine pz_openI (by decide) (Nat.le_of_ble_eq_true rfl) ?_
  intro p e s m below meth c A ls Q X hN hK hP hD hS hA hl fin
  obtain ⟨hx, hb, hml, hown, hts⟩ := id X
  have hl : lv_has ls 3 [(0, .ref h0), (1, .int k)] := hl
  refine lv_sipush (v := 256) hx hb d_Rw_signed_0 (by decide) ?_
  refine lv_aload_n hx hb d_Rw_signed_3 rfl (lv_at hl 0 rfl) ?_
  refine lv_iload_n hx hb d_Rw_signed_4 rfl (lv_at hl 1 rfl) ?_
  refine pz_i0 (pz_rV (d := 0) (As := [.int k]) (rest := [.int 256]) X hN (c_Rw_get l D cB cI cS h0 hc f n k hn _) k_Rw_get w_380 ⟨by decide, by decide⟩ hK hP hD [0, 1] rfl rfl 0 rfl rfl rfl rfl hl.1 rfl (Nat.le_of_ble_eq_true rfl) d_Rw_signed_5 ⟨Nat.zero_le _, Nat.zero_le _⟩) hP hD hS hA [0, 1] rfl (fun H locs hP hS => ?_)
  refine lv_imul hx hb d_Rw_signed_8 ?_
  refine lv_aload_n hx hb d_Rw_signed_9 rfl (lv_at hl 0 rfl) ?_
  refine lv_iload_n hx hb d_Rw_signed_10 rfl (lv_at hl 1 rfl) ?_
  refine lv_iconst (v := 1) hx hb d_Rw_signed_11 (by decide) ?_
  refine lv_iadd hx hb d_Rw_signed_12 ?_
  refine pz_i0 (pz_rV (d := 0) (As := [.int (k + 1)]) (rest := [.int (256 * (rg f n k))]) X hN (c_Rw_get l D cB cI cS h0 hc f n (k + 1) hn _) k_Rw_get w_380 ⟨by decide, by decide⟩ hK hP hD [0, 1] rfl rfl 0 rfl rfl rfl rfl hl.1 rfl (Nat.le_of_ble_eq_true rfl) d_Rw_signed_13 ⟨Nat.zero_le _, Nat.zero_le _⟩) hP hD hS hA [0, 1] rfl (fun H locs hP hS => ?_)
  refine lv_iadd hx hb d_Rw_signed_16 ?_
  refine lv_istore_n (lv' := [(2, .int ((256 * (rg f n k)) + (rg f n (k + 1)))), (0, .ref h0), (1, .int k)]) hx hb d_Rw_signed_17 rfl hl (by decide) rfl (fun ls hl => ?_)
  refine lv_iload_n hx hb d_Rw_signed_18 rfl (lv_at hl 0 rfl) ?_
  refine lv_sipush (v := 32767) hx hb d_Rw_signed_19 (by decide) ?_
  refine lv_icmp_le (tgt := 32) hx hb d_Rw_signed_22 (by decide) (fun c_1 => ?_) (fun c_1 => ?_)
  · refine lv_iload_n hx hb d_Rw_signed_32 rfl (lv_at hl 0 rfl) ?_
    exact fin _ _ _ _ _ _ d_Rw_signed_33 hP hS (by simp only [rsg, w16, if_pos c_1]) (rfl)
  · refine lv_iload_n hx hb d_Rw_signed_25 rfl (lv_at hl 0 rfl) ?_
    refine lv_ldc (v := 65536) hx hb hown (hts _ (w_381)) d_Rw_signed_26 ?_
    refine lv_isub hx hb d_Rw_signed_28 ?_
    refine lv_goto (tgt := 33) hx hb d_Rw_signed_29 (by decide) ?_
    exact fin _ _ _ _ _ _ d_Rw_signed_33 hP hS (by simp only [rsg, w16, if_neg c_1]) (rfl)
