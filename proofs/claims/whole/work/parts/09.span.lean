set_option maxRecDepth 100000 in
set_option maxHeartbeats 4000000 in
/-- Long.signum -/
theorem c_Jl_signum (l : Launch) (D : va_G) (cB cI cS : ClassId) (x : Int64)  : mI l y_Jl_signum b_Jl_signum 2 (some .int) 0 D cls [(cB, .byte), (cI, .int), (cS, .object "MapLumps$Span")] [.long x] ([]) (sgn x) ([]) := by
  refine pz_openI (by decide) (Nat.le_of_ble_eq_true rfl) ?_
  intro p e s m below meth c A ls Q X hN hK hP hD hS hA hl fin
  obtain ⟨hx, hb, hml, hown, hts⟩ := id X
  have hl : lv_has ls 2 [(0, .long x)] := hl
  refine lv_lload_n hx hb d_Jl_signum_0 rfl (lv_at hl 0 rfl) ?_
  refine lv_bipush (v := 63) hx hb d_Jl_signum_1 (by decide) ?_
  refine lv_lshr hx hb d_Jl_signum_3 rfl ?_
  refine lv_lload_n hx hb d_Jl_signum_4 rfl (lv_at hl 0 rfl) ?_
  refine lv_lneg hx hb d_Jl_signum_5 ?_
  refine lv_bipush (v := 63) hx hb d_Jl_signum_6 (by decide) ?_
  refine lv_lushr hx hb d_Jl_signum_8 rfl ?_
  refine lv_lor hx hb d_Jl_signum_9 ?_
  refine lv_l2i hx hb d_Jl_signum_10 rfl ?_
  exact fin _ _ _ _ _ _ d_Jl_signum_11 hP hS (rfl) (rfl)

set_option maxRecDepth 100000 in
set_option maxHeartbeats 4000000 in
/-- Span.turn -/
theorem c_Sp_turn (l : Launch) (D : va_G) (cB cI cS : ClassId) (cx cy px py qx qy : Int32)  : mL l y_Sp_turn b_Sp_turn 6 (some .long) 0 D cls [(cB, .byte), (cI, .int), (cS, .object "MapLumps$Span")] [.int cx, .int cy, .int px, .int py, .int qx, .int qy] ([]) (trn cx cy px py qx qy) ([]) := by
  refine pz_openL (by decide) (Nat.le_of_ble_eq_true rfl) ?_
  intro p e s m below meth c A ls Q X hN hK hP hD hS hA hl fin
  obtain ⟨hx, hb, hml, hown, hts⟩ := id X
  have hl : lv_has ls 6 [(0, .int cx), (1, .int cy), (2, .int px), (3, .int py), (4, .int qx), (5, .int qy)] := hl
  refine lv_iload_n hx hb d_Sp_turn_0 rfl (lv_at hl 2 rfl) ?_
  refine lv_iload_n hx hb d_Sp_turn_1 rfl (lv_at hl 0 rfl) ?_
  refine lv_isub hx hb d_Sp_turn_2 ?_
  refine lv_i2l hx hb d_Sp_turn_3 rfl ?_
  refine lv_iload hx hb d_Sp_turn_4 (lv_at hl 5 rfl) ?_
  refine lv_iload_n hx hb d_Sp_turn_6 rfl (lv_at hl 1 rfl) ?_
  refine lv_isub hx hb d_Sp_turn_7 ?_
  refine lv_i2l hx hb d_Sp_turn_8 rfl ?_
  refine lv_lmul hx hb d_Sp_turn_9 ?_
  refine lv_iload_n hx hb d_Sp_turn_10 rfl (lv_at hl 3 rfl) ?_
  refine lv_iload_n hx hb d_Sp_turn_11 rfl (lv_at hl 1 rfl) ?_
  refine lv_isub hx hb d_Sp_turn_12 ?_
  refine lv_i2l hx hb d_Sp_turn_13 rfl ?_
  refine lv_iload hx hb d_Sp_turn_14 (lv_at hl 4 rfl) ?_
  refine lv_iload_n hx hb d_Sp_turn_16 rfl (lv_at hl 0 rfl) ?_
  refine lv_isub hx hb d_Sp_turn_17 ?_
  refine lv_i2l hx hb d_Sp_turn_18 rfl ?_
  refine lv_lmul hx hb d_Sp_turn_19 ?_
  refine lv_lsub hx hb d_Sp_turn_20 ?_
  exact fin _ _ _ _ _ _ d_Sp_turn_21 hP hS (rfl) (rfl)

set_option maxRecDepth 100000 in
set_option maxHeartbeats 4000000 in
/-- Span.sameWay -/
theorem c_Sp_sameWay (l : Launch) (D : va_G) (cB cI cS : ClassId) (cx cy px py qx qy : Int32)  : mI l y_Sp_sameWay b_Sp_sameWay 8 (some .boolean) 1 D cls [(cB, .byte), (cI, .int), (cS, .object "MapLumps$Span")] [.int cx, .int cy, .int px, .int py, .int qx, .int qy] ([]) (swy cx cy px py qx qy) ([]) := by
  refine pz_openZ (by decide) (Nat.le_of_ble_eq_true rfl) ?_
  intro p e s m below meth c A ls Q X hN hK hP hD hS hA hl fin
  obtain ⟨hx, hb, hml, hown, hts⟩ := id X
  have hl : lv_has ls 8 [(0, .int cx), (1, .int cy), (2, .int px), (3, .int py), (4, .int qx), (5, .int qy)] := hl
  refine lv_iload_n hx hb d_Sp_sameWay_0 rfl (lv_at hl 2 rfl) ?_
  refine lv_iload_n hx hb d_Sp_sameWay_1 rfl (lv_at hl 0 rfl) ?_
  refine lv_isub hx hb d_Sp_sameWay_2 ?_
  refine lv_i2l hx hb d_Sp_sameWay_3 rfl ?_
  refine lv_iload hx hb d_Sp_sameWay_4 (lv_at hl 4 rfl) ?_
  refine lv_iload_n hx hb d_Sp_sameWay_6 rfl (lv_at hl 0 rfl) ?_
  refine lv_isub hx hb d_Sp_sameWay_7 ?_
  refine lv_i2l hx hb d_Sp_sameWay_8 rfl ?_
  refine lv_lmul hx hb d_Sp_sameWay_9 ?_
  refine lv_iload_n hx hb d_Sp_sameWay_10 rfl (lv_at hl 3 rfl) ?_
  refine lv_iload_n hx hb d_Sp_sameWay_11 rfl (lv_at hl 1 rfl) ?_
  refine lv_isub hx hb d_Sp_sameWay_12 ?_
  refine lv_i2l hx hb d_Sp_sameWay_13 rfl ?_
  refine lv_iload hx hb d_Sp_sameWay_14 (lv_at hl 5 rfl) ?_
  refine lv_iload_n hx hb d_Sp_sameWay_16 rfl (lv_at hl 1 rfl) ?_
  refine lv_isub hx hb d_Sp_sameWay_17 ?_
  refine lv_i2l hx hb d_Sp_sameWay_18 rfl ?_
  refine lv_lmul hx hb d_Sp_sameWay_19 ?_
  refine lv_ladd hx hb d_Sp_sameWay_20 ?_
  refine lv_lstore (lv' := [(6, .long ((((px - cx).toInt64) * ((qx - cx).toInt64)) + (((py - cy).toInt64) * ((qy - cy).toInt64)))), (0, .int cx), (1, .int cy), (2, .int px), (3, .int py), (4, .int qx), (5, .int qy)]) hx hb d_Sp_sameWay_21 hl (by decide) rfl (fun ls hl => ?_)
  refine lv_lload hx hb d_Sp_sameWay_23 (lv_at hl 0 rfl) ?_
  refine lv_lconst (v := 0) hx hb d_Sp_sameWay_25 (by decide) ?_
  refine W.lcmp hx hb d_Sp_sameWay_26 ?_
  refine lv_if_le (tgt := 50) hx hb d_Sp_sameWay_27 (by decide) (fun c_1 => ?_) (fun c_1 => ?_)
  · refine lv_iconst (v := 0) hx hb d_Sp_sameWay_50 (by decide) ?_
    exact fin _ _ _ _ _ _ d_Sp_sameWay_51 hP hS (by rw [swy, if_pos (show lg_cmp (alg cx cy px py qx qy) 0 ≤ 0 from c_1)]) (rfl) rfl
  · refine lv_iload_n hx hb d_Sp_sameWay_30 rfl (lv_at hl 1 rfl) ?_
    refine lv_iload_n hx hb d_Sp_sameWay_31 rfl (lv_at hl 2 rfl) ?_
    refine lv_iload_n hx hb d_Sp_sameWay_32 rfl (lv_at hl 3 rfl) ?_
    refine lv_iload_n hx hb d_Sp_sameWay_33 rfl (lv_at hl 4 rfl) ?_
    refine lv_iload hx hb d_Sp_sameWay_34 (lv_at hl 5 rfl) ?_
    refine lv_iload hx hb d_Sp_sameWay_36 (lv_at hl 6 rfl) ?_
    refine pz_l0 (pz_rS (d := 0) (As := [.int cx, .int cy, .int px, .int py, .int qx, .int qy]) (rest := []) X hN (c_Sp_turn l D cB cI cS cx cy px py qx qy _) k_Sp_turn w_318 ⟨by decide, by decide⟩ hK hP hD [] rfl rfl rfl hl.1 rfl (Nat.le_of_ble_eq_true rfl) d_Sp_sameWay_38 ⟨Nat.zero_le _, Nat.zero_le _⟩) hP hD hS hA [] rfl (fun H locs hP hS => ?_)
    refine lv_lconst (v := 0) hx hb d_Sp_sameWay_41 (by decide) ?_
    refine W.lcmp hx hb d_Sp_sameWay_42 ?_
    refine lv_if_ne (tgt := 50) hx hb d_Sp_sameWay_43 (by decide) (fun c_2 => ?_) (fun c_2 => ?_)
    · refine lv_iconst (v := 0) hx hb d_Sp_sameWay_50 (by decide) ?_
      exact fin _ _ _ _ _ _ d_Sp_sameWay_51 hP hS (by rw [swy, if_neg (show ¬ lg_cmp (alg cx cy px py qx qy) 0 ≤ 0 from c_1), if_neg c_2]) (rfl) rfl
    · refine lv_iconst (v := 1) hx hb d_Sp_sameWay_46 (by decide) ?_
      refine lv_goto (tgt := 51) hx hb d_Sp_sameWay_47 (by decide) ?_
      exact fin _ _ _ _ _ _ d_Sp_sameWay_51 hP hS (by rw [swy, if_neg (show ¬ lg_cmp (alg cx cy px py qx qy) 0 ≤ 0 from c_1), if_pos c_2]) (rfl) rfl

set_option maxRecDepth 100000 in
set_option maxHeartbeats 4000000 in
/-- Span.lay -/
theorem c_Sp_lay (l : Launch) (D : va_G) (cB cI cS : ClassId) (h0 : Nat) (a4 : E4) (x1 y1 x2 y2 : Int32)  : mV l y_Sp_lay b_Sp_lay 5 (none) 1 D cls [(cB, .byte), (cI, .int), (cS, .object "MapLumps$Span")] [.ref h0, .int x1, .int y1, .int x2, .int y2] ([(h0, .inr (4, [.int a4.1, .int a4.2.1, .int a4.2.2.1, .int a4.2.2.2, .int (mnI a4.1 a4.2.2.1), .int (mxI a4.1 a4.2.2.1), .int (mnI a4.2.1 a4.2.2.2), .int (mxI a4.2.1 a4.2.2.2)]))]) ([(h0, .inr (4, [.int x1, .int y1, .int x2, .int y2, .int (mnI x1 x2), .int (mxI x1 x2), .int (mnI y1 y2), .int (mxI y1 y2)]))]) := by
  refine pz_openV (by decide) (Nat.le_of_ble_eq_true rfl) ?_
  intro p e s m below meth c A ls Q X hN hK hP hD hS hA hl fin
  obtain ⟨hx, hb, hml, hown, hts⟩ := id X
  have hl : lv_has ls 5 [(0, .ref h0), (1, .int x1), (2, .int y1), (3, .int x2), (4, .int y2)] := hl
  refine lv_aload_n hx hb d_Sp_lay_0 rfl (lv_at hl 0 rfl) ?_
  refine lv_iload_n hx hb d_Sp_lay_1 rfl (lv_at hl 1 rfl) ?_
  refine va_put (D := D) (ci := 4) (v := .int x1) (ty := (.int)) (C := R_Sp) (T := T_Sp) (N := 8) hx hb hts i_Sp ty_Sp tyok_Sp nm_Sp hown hK hP hD hS 0 rfl rfl 0 (by decide) (hts _ w_47) (fun _ h9 => h9) rfl (by decide +kernel) rfl rfl (Nat.le_of_ble_eq_true rfl) d_Sp_lay_2 (fun H locs hP hD hS => ?_)
  have hP : va_P D cls ([(h0, .inr (4, [.int x1, .int a4.2.1, .int a4.2.2.1, .int a4.2.2.2, .int (mnI a4.1 a4.2.2.1), .int (mxI a4.1 a4.2.2.1), .int (mnI a4.2.1 a4.2.2.2), .int (mxI a4.2.1 a4.2.2.2)]))]) H := hP
  have hD : va_D A ([(h0, .inr (4, [.int x1, .int a4.2.1, .int a4.2.2.1, .int a4.2.2.2, .int (mnI a4.1 a4.2.2.1), .int (mxI a4.1 a4.2.2.1), .int (mnI a4.2.1 a4.2.2.2), .int (mxI a4.2.1 a4.2.2.2)]))]) := hD
  refine lv_aload_n hx hb d_Sp_lay_5 rfl (lv_at hl 0 rfl) ?_
  refine lv_iload_n hx hb d_Sp_lay_6 rfl (lv_at hl 2 rfl) ?_
  refine va_put (D := D) (ci := 4) (v := .int y1) (ty := (.int)) (C := R_Sp) (T := T_Sp) (N := 8) hx hb hts i_Sp ty_Sp tyok_Sp nm_Sp hown hK hP hD hS 0 rfl rfl 1 (by decide) (hts _ w_48) (fun _ h9 => h9) rfl (by decide +kernel) rfl rfl (Nat.le_of_ble_eq_true rfl) d_Sp_lay_7 (fun H locs hP hD hS => ?_)
  have hP : va_P D cls ([(h0, .inr (4, [.int x1, .int y1, .int a4.2.2.1, .int a4.2.2.2, .int (mnI a4.1 a4.2.2.1), .int (mxI a4.1 a4.2.2.1), .int (mnI a4.2.1 a4.2.2.2), .int (mxI a4.2.1 a4.2.2.2)]))]) H := hP
  have hD : va_D A ([(h0, .inr (4, [.int x1, .int y1, .int a4.2.2.1, .int a4.2.2.2, .int (mnI a4.1 a4.2.2.1), .int (mxI a4.1 a4.2.2.1), .int (mnI a4.2.1 a4.2.2.2), .int (mxI a4.2.1 a4.2.2.2)]))]) := hD
  refine lv_aload_n hx hb d_Sp_lay_10 rfl (lv_at hl 0 rfl) ?_
  refine lv_iload_n hx hb d_Sp_lay_11 rfl (lv_at hl 3 rfl) ?_
  refine va_put (D := D) (ci := 4) (v := .int x2) (ty := (.int)) (C := R_Sp) (T := T_Sp) (N := 8) hx hb hts i_Sp ty_Sp tyok_Sp nm_Sp hown hK hP hD hS 0 rfl rfl 2 (by decide) (hts _ w_49) (fun _ h9 => h9) rfl (by decide +kernel) rfl rfl (Nat.le_of_ble_eq_true rfl) d_Sp_lay_12 (fun H locs hP hD hS => ?_)
  have hP : va_P D cls ([(h0, .inr (4, [.int x1, .int y1, .int x2, .int a4.2.2.2, .int (mnI a4.1 a4.2.2.1), .int (mxI a4.1 a4.2.2.1), .int (mnI a4.2.1 a4.2.2.2), .int (mxI a4.2.1 a4.2.2.2)]))]) H := hP
  have hD : va_D A ([(h0, .inr (4, [.int x1, .int y1, .int x2, .int a4.2.2.2, .int (mnI a4.1 a4.2.2.1), .int (mxI a4.1 a4.2.2.1), .int (mnI a4.2.1 a4.2.2.2), .int (mxI a4.2.1 a4.2.2.2)]))]) := hD
  refine lv_aload_n hx hb d_Sp_lay_15 rfl (lv_at hl 0 rfl) ?_
  refine lv_iload hx hb d_Sp_lay_16 (lv_at hl 4 rfl) ?_
  refine va_put (D := D) (ci := 4) (v := .int y2) (ty := (.int)) (C := R_Sp) (T := T_Sp) (N := 8) hx hb hts i_Sp ty_Sp tyok_Sp nm_Sp hown hK hP hD hS 0 rfl rfl 3 (by decide) (hts _ w_50) (fun _ h9 => h9) rfl (by decide +kernel) rfl rfl (Nat.le_of_ble_eq_true rfl) d_Sp_lay_18 (fun H locs hP hD hS => ?_)
  have hP : va_P D cls ([(h0, .inr (4, [.int x1, .int y1, .int x2, .int y2, .int (mnI a4.1 a4.2.2.1), .int (mxI a4.1 a4.2.2.1), .int (mnI a4.2.1 a4.2.2.2), .int (mxI a4.2.1 a4.2.2.2)]))]) H := hP
  have hD : va_D A ([(h0, .inr (4, [.int x1, .int y1, .int x2, .int y2, .int (mnI a4.1 a4.2.2.1), .int (mxI a4.1 a4.2.2.1), .int (mnI a4.2.1 a4.2.2.2), .int (mxI a4.2.1 a4.2.2.2)]))]) := hD
  refine lv_aload_n hx hb d_Sp_lay_21 rfl (lv_at hl 0 rfl) ?_
  refine lv_aload_n hx hb d_Sp_lay_22 rfl (lv_at hl 0 rfl) ?_
  refine va_get (D := D) (ci := 4) (v := .int x1) (C := R_Sp) (T := T_Sp) (N := 8) hx hb hts i_Sp hown hK hP 0 rfl rfl 0 (by decide) (hts _ w_47) (fun _ h9 => h9) rfl d_Sp_lay_23 ?_
  refine lv_aload_n hx hb d_Sp_lay_26 rfl (lv_at hl 0 rfl) ?_
  refine va_get (D := D) (ci := 4) (v := .int x2) (C := R_Sp) (T := T_Sp) (N := 8) hx hb hts i_Sp hown hK hP 0 rfl rfl 2 (by decide) (hts _ w_49) (fun _ h9 => h9) rfl d_Sp_lay_27 ?_
  refine va_mmin hx hb (hml.trans hl.1.symm) hown (hts _ w_281) (hts _ w_282) (hts _ w_7) (hts _ w_283) (by decide) (Nat.le_of_ble_eq_true rfl) (Nat.zero_le _) (Nat.zero_le _) d_Sp_lay_30 ?_
  refine va_put (D := D) (ci := 4) (v := .int (mnI x1 x2)) (ty := (.int)) (C := R_Sp) (T := T_Sp) (N := 8) hx hb hts i_Sp ty_Sp tyok_Sp nm_Sp hown hK hP hD hS 0 rfl rfl 4 (by decide) (hts _ w_51) (fun _ h9 => h9) rfl (by decide +kernel) rfl rfl (Nat.le_of_ble_eq_true rfl) d_Sp_lay_33 (fun H locs hP hD hS => ?_)
  have hP : va_P D cls ([(h0, .inr (4, [.int x1, .int y1, .int x2, .int y2, .int (mnI x1 x2), .int (mxI a4.1 a4.2.2.1), .int (mnI a4.2.1 a4.2.2.2), .int (mxI a4.2.1 a4.2.2.2)]))]) H := hP
  have hD : va_D A ([(h0, .inr (4, [.int x1, .int y1, .int x2, .int y2, .int (mnI x1 x2), .int (mxI a4.1 a4.2.2.1), .int (mnI a4.2.1 a4.2.2.2), .int (mxI a4.2.1 a4.2.2.2)]))]) := hD
  refine lv_aload_n hx hb d_Sp_lay_36 rfl (lv_at hl 0 rfl) ?_
  refine lv_aload_n hx hb d_Sp_lay_37 rfl (lv_at hl 0 rfl) ?_
  refine va_get (D := D) (ci := 4) (v := .int x1) (C := R_Sp) (T := T_Sp) (N := 8) hx hb hts i_Sp hown hK hP 0 rfl rfl 0 (by decide) (hts _ w_47) (fun _ h9 => h9) rfl d_Sp_lay_38 ?_
  refine lv_aload_n hx hb d_Sp_lay_41 rfl (lv_at hl 0 rfl) ?_
  refine va_get (D := D) (ci := 4) (v := .int x2) (C := R_Sp) (T := T_Sp) (N := 8) hx hb hts i_Sp hown hK hP 0 rfl rfl 2 (by decide) (hts _ w_49) (fun _ h9 => h9) rfl d_Sp_lay_42 ?_
  refine va_mmax hx hb (hml.trans hl.1.symm) hown (hts _ w_284) (hts _ w_285) (hts _ w_7) (hts _ w_286) (by decide) (Nat.le_of_ble_eq_true rfl) (Nat.zero_le _) (Nat.zero_le _) d_Sp_lay_45 ?_
  refine va_put (D := D) (ci := 4) (v := .int (mxI x1 x2)) (ty := (.int)) (C := R_Sp) (T := T_Sp) (N := 8) hx hb hts i_Sp ty_Sp tyok_Sp nm_Sp hown hK hP hD hS 0 rfl rfl 5 (by decide) (hts _ w_52) (fun _ h9 => h9) rfl (by decide +kernel) rfl rfl (Nat.le_of_ble_eq_true rfl) d_Sp_lay_48 (fun H locs hP hD hS => ?_)
  have hP : va_P D cls ([(h0, .inr (4, [.int x1, .int y1, .int x2, .int y2, .int (mnI x1 x2), .int (mxI x1 x2), .int (mnI a4.2.1 a4.2.2.2), .int (mxI a4.2.1 a4.2.2.2)]))]) H := hP
  have hD : va_D A ([(h0, .inr (4, [.int x1, .int y1, .int x2, .int y2, .int (mnI x1 x2), .int (mxI x1 x2), .int (mnI a4.2.1 a4.2.2.2), .int (mxI a4.2.1 a4.2.2.2)]))]) := hD
  refine lv_aload_n hx hb d_Sp_lay_51 rfl (lv_at hl 0 rfl) ?_
  refine lv_aload_n hx hb d_Sp_lay_52 rfl (lv_at hl 0 rfl) ?_
  refine va_get (D := D) (ci := 4) (v := .int y1) (C := R_Sp) (T := T_Sp) (N := 8) hx hb hts i_Sp hown hK hP 0 rfl rfl 1 (by decide) (hts _ w_48) (fun _ h9 => h9) rfl d_Sp_lay_53 ?_
  refine lv_aload_n hx hb d_Sp_lay_56 rfl (lv_at hl 0 rfl) ?_
  refine va_get (D := D) (ci := 4) (v := .int y2) (C := R_Sp) (T := T_Sp) (N := 8) hx hb hts i_Sp hown hK hP 0 rfl rfl 3 (by decide) (hts _ w_50) (fun _ h9 => h9) rfl d_Sp_lay_57 ?_
  refine va_mmin hx hb (hml.trans hl.1.symm) hown (hts _ w_281) (hts _ w_282) (hts _ w_7) (hts _ w_283) (by decide) (Nat.le_of_ble_eq_true rfl) (Nat.zero_le _) (Nat.zero_le _) d_Sp_lay_60 ?_
  refine va_put (D := D) (ci := 4) (v := .int (mnI y1 y2)) (ty := (.int)) (C := R_Sp) (T := T_Sp) (N := 8) hx hb hts i_Sp ty_Sp tyok_Sp nm_Sp hown hK hP hD hS 0 rfl rfl 6 (by decide) (hts _ w_53) (fun _ h9 => h9) rfl (by decide +kernel) rfl rfl (Nat.le_of_ble_eq_true rfl) d_Sp_lay_63 (fun H locs hP hD hS => ?_)
  have hP : va_P D cls ([(h0, .inr (4, [.int x1, .int y1, .int x2, .int y2, .int (mnI x1 x2), .int (mxI x1 x2), .int (mnI y1 y2), .int (mxI a4.2.1 a4.2.2.2)]))]) H := hP
  have hD : va_D A ([(h0, .inr (4, [.int x1, .int y1, .int x2, .int y2, .int (mnI x1 x2), .int (mxI x1 x2), .int (mnI y1 y2), .int (mxI a4.2.1 a4.2.2.2)]))]) := hD
  refine lv_aload_n hx hb d_Sp_lay_66 rfl (lv_at hl 0 rfl) ?_
  refine lv_aload_n hx hb d_Sp_lay_67 rfl (lv_at hl 0 rfl) ?_
  refine va_get (D := D) (ci := 4) (v := .int y1) (C := R_Sp) (T := T_Sp) (N := 8) hx hb hts i_Sp hown hK hP 0 rfl rfl 1 (by decide) (hts _ w_48) (fun _ h9 => h9) rfl d_Sp_lay_68 ?_
  refine lv_aload_n hx hb d_Sp_lay_71 rfl (lv_at hl 0 rfl) ?_
  refine va_get (D := D) (ci := 4) (v := .int y2) (C := R_Sp) (T := T_Sp) (N := 8) hx hb hts i_Sp hown hK hP 0 rfl rfl 3 (by decide) (hts _ w_50) (fun _ h9 => h9) rfl d_Sp_lay_72 ?_
  refine va_mmax hx hb (hml.trans hl.1.symm) hown (hts _ w_284) (hts _ w_285) (hts _ w_7) (hts _ w_286) (by decide) (Nat.le_of_ble_eq_true rfl) (Nat.zero_le _) (Nat.zero_le _) d_Sp_lay_75 ?_
  refine va_put (D := D) (ci := 4) (v := .int (mxI y1 y2)) (ty := (.int)) (C := R_Sp) (T := T_Sp) (N := 8) hx hb hts i_Sp ty_Sp tyok_Sp nm_Sp hown hK hP hD hS 0 rfl rfl 7 (by decide) (hts _ w_54) (fun _ h9 => h9) rfl (by decide +kernel) rfl rfl (Nat.le_of_ble_eq_true rfl) d_Sp_lay_78 (fun H locs hP hD hS => ?_)
  have hP : va_P D cls ([(h0, .inr (4, [.int x1, .int y1, .int x2, .int y2, .int (mnI x1 x2), .int (mxI x1 x2), .int (mnI y1 y2), .int (mxI y1 y2)]))]) H := hP
  have hD : va_D A ([(h0, .inr (4, [.int x1, .int y1, .int x2, .int y2, .int (mnI x1 x2), .int (mxI x1 x2), .int (mnI y1 y2), .int (mxI y1 y2)]))]) := hD
  exact fin _ _ _ _ _ d_Sp_lay_81 hP hS (rfl)

set_option maxRecDepth 100000 in
set_option maxHeartbeats 4000000 in
/-- Span.side -/
theorem c_Sp_side (l : Launch) (D : va_G) (cB cI cS : ClassId) (h0 : Nat) (a4 : E4) (x y : Int32)  : mI l y_Sp_side b_Sp_side 3 (some .int) 1 D cls [(cB, .byte), (cI, .int), (cS, .object "MapLumps$Span")] [.ref h0, .int x, .int y] ([(h0, .inr (4, [.int a4.1, .int a4.2.1, .int a4.2.2.1, .int a4.2.2.2, .int (mnI a4.1 a4.2.2.1), .int (mxI a4.1 a4.2.2.1), .int (mnI a4.2.1 a4.2.2.2), .int (mxI a4.2.1 a4.2.2.2)]))]) (sid a4 x y) ([(h0, .inr (4, [.int a4.1, .int a4.2.1, .int a4.2.2.1, .int a4.2.2.2, .int (mnI a4.1 a4.2.2.1), .int (mxI a4.1 a4.2.2.1), .int (mnI a4.2.1 a4.2.2.2), .int (mxI a4.2.1 a4.2.2.2)]))]) := by
  refine pz_openI (by decide) (Nat.le_of_ble_eq_true rfl) ?_
  intro p e s m below meth c A ls Q X hN hK hP hD hS hA hl fin
  obtain ⟨hx, hb, hml, hown, hts⟩ := id X
  have hl : lv_has ls 3 [(0, .ref h0), (1, .int x), (2, .int y)] := hl
  refine lv_aload_n hx hb d_Sp_side_0 rfl (lv_at hl 0 rfl) ?_
  refine va_get (D := D) (ci := 4) (v := .int a4.1) (C := R_Sp) (T := T_Sp) (N := 8) hx hb hts i_Sp hown hK hP 0 rfl rfl 0 (by decide) (hts _ w_47) (fun _ h9 => h9) rfl d_Sp_side_1 ?_
  refine lv_aload_n hx hb d_Sp_side_4 rfl (lv_at hl 0 rfl) ?_
  refine va_get (D := D) (ci := 4) (v := .int a4.2.1) (C := R_Sp) (T := T_Sp) (N := 8) hx hb hts i_Sp hown hK hP 0 rfl rfl 1 (by decide) (hts _ w_48) (fun _ h9 => h9) rfl d_Sp_side_5 ?_
  refine lv_aload_n hx hb d_Sp_side_8 rfl (lv_at hl 0 rfl) ?_
  refine va_get (D := D) (ci := 4) (v := .int a4.2.2.1) (C := R_Sp) (T := T_Sp) (N := 8) hx hb hts i_Sp hown hK hP 0 rfl rfl 2 (by decide) (hts _ w_49) (fun _ h9 => h9) rfl d_Sp_side_9 ?_
  refine lv_aload_n hx hb d_Sp_side_12 rfl (lv_at hl 0 rfl) ?_
  refine va_get (D := D) (ci := 4) (v := .int a4.2.2.2) (C := R_Sp) (T := T_Sp) (N := 8) hx hb hts i_Sp hown hK hP 0 rfl rfl 3 (by decide) (hts _ w_50) (fun _ h9 => h9) rfl d_Sp_side_13 ?_
  refine lv_iload_n hx hb d_Sp_side_16 rfl (lv_at hl 1 rfl) ?_
  refine lv_iload_n hx hb d_Sp_side_17 rfl (lv_at hl 2 rfl) ?_
  refine pz_l0 (pz_rS (d := 0) (As := [.int a4.1, .int a4.2.1, .int a4.2.2.1, .int a4.2.2.2, .int x, .int y]) (rest := []) X hN (c_Sp_turn l D cB cI cS a4.1 a4.2.1 a4.2.2.1 a4.2.2.2 x y _) k_Sp_turn w_318 ⟨by decide, by decide⟩ hK hP hD [] rfl rfl rfl hl.1 rfl (Nat.le_of_ble_eq_true rfl) d_Sp_side_18 ⟨Nat.zero_le _, Nat.zero_le _⟩) hP hD hS hA [] rfl (fun H locs hP hS => ?_)
  refine pz_i0 (pz_rS (d := 0) (As := [.long (trn a4.1 a4.2.1 a4.2.2.1 a4.2.2.2 x y)]) (rest := []) X hN (c_Jl_signum l D cB cI cS (trn a4.1 a4.2.1 a4.2.2.1 a4.2.2.2 x y) _) k_Jl_signum w_329 ⟨by decide, by decide⟩ hK hP hD [] rfl rfl rfl hl.1 rfl (Nat.le_of_ble_eq_true rfl) d_Sp_side_21 ⟨Nat.zero_le _, Nat.zero_le _⟩) hP hD hS hA [] rfl (fun H locs hP hS => ?_)
  exact fin _ _ _ _ _ _ d_Sp_side_24 hP hS (rfl) (rfl)

set_option maxRecDepth 100000 in
set_option maxHeartbeats 4000000 in
/-- Span.boxesApart -/
theorem c_Sp_boxesApart (l : Launch) (D : va_G) (cB cI cS : ClassId) (h0 h1 : Nat) (a4 b4 : E4)  : mI l y_Sp_boxesApart b_Sp_boxesApart 2 (some .boolean) 0 D cls [(cB, .byte), (cI, .int), (cS, .object "MapLumps$Span")] [.ref h0, .ref h1] ([(h0, .inr (4, [.int a4.1, .int a4.2.1, .int a4.2.2.1, .int a4.2.2.2, .int (mnI a4.1 a4.2.2.1), .int (mxI a4.1 a4.2.2.1), .int (mnI a4.2.1 a4.2.2.2), .int (mxI a4.2.1 a4.2.2.2)])), (h1, .inr (4, [.int b4.1, .int b4.2.1, .int b4.2.2.1, .int b4.2.2.2, .int (mnI b4.1 b4.2.2.1), .int (mxI b4.1 b4.2.2.1), .int (mnI b4.2.1 b4.2.2.2), .int (mxI b4.2.1 b4.2.2.2)]))]) (bxa a4 b4) ([(h0, .inr (4, [.int a4.1, .int a4.2.1, .int a4.2.2.1, .int a4.2.2.2, .int (mnI a4.1 a4.2.2.1), .int (mxI a4.1 a4.2.2.1), .int (mnI a4.2.1 a4.2.2.2), .int (mxI a4.2.1 a4.2.2.2)])), (h1, .inr (4, [.int b4.1, .int b4.2.1, .int b4.2.2.1, .int b4.2.2.2, .int (mnI b4.1 b4.2.2.1), .int (mxI b4.1 b4.2.2.1), .int (mnI b4.2.1 b4.2.2.2), .int (mxI b4.2.1 b4.2.2.2)]))]) := by
  refine pz_openZ (by decide) (Nat.le_of_ble_eq_true rfl) ?_
  intro p e s m below meth c A ls Q X hN hK hP hD hS hA hl fin
  obtain ⟨hx, hb, hml, hown, hts⟩ := id X
  have hl : lv_has ls 2 [(0, .ref h0), (1, .ref h1)] := hl
  refine lv_aload_n hx hb d_Sp_boxesApart_0 rfl (lv_at hl 0 rfl) ?_
  refine va_get (D := D) (ci := 4) (v := .int (mxI a4.1 a4.2.2.1)) (C := R_Sp) (T := T_Sp) (N := 8) hx hb hts i_Sp hown hK hP 0 rfl rfl 5 (by decide) (hts _ w_52) (fun _ h9 => h9) rfl d_Sp_boxesApart_1 ?_
  refine lv_aload_n hx hb d_Sp_boxesApart_4 rfl (lv_at hl 1 rfl) ?_
  refine va_get (D := D) (ci := 4) (v := .int (mnI b4.1 b4.2.2.1)) (C := R_Sp) (T := T_Sp) (N := 8) hx hb hts i_Sp hown hK hP 1 rfl rfl 4 (by decide) (hts _ w_51) (fun _ h9 => h9) rfl d_Sp_boxesApart_5 ?_
  refine lv_icmp_lt (tgt := 44) hx hb d_Sp_boxesApart_8 (by decide) (fun c_1 => ?_) (fun c_1 => ?_)
  · refine lv_iconst (v := 1) hx hb d_Sp_boxesApart_44 (by decide) ?_
    refine lv_goto (tgt := 49) hx hb d_Sp_boxesApart_45 (by decide) ?_
    exact fin _ _ _ _ _ _ d_Sp_boxesApart_49 hP hS (by simp only [bxa, if_pos c_1]) (rfl) rfl
  · refine lv_aload_n hx hb d_Sp_boxesApart_11 rfl (lv_at hl 1 rfl) ?_
    refine va_get (D := D) (ci := 4) (v := .int (mxI b4.1 b4.2.2.1)) (C := R_Sp) (T := T_Sp) (N := 8) hx hb hts i_Sp hown hK hP 1 rfl rfl 5 (by decide) (hts _ w_52) (fun _ h9 => h9) rfl d_Sp_boxesApart_12 ?_
    refine lv_aload_n hx hb d_Sp_boxesApart_15 rfl (lv_at hl 0 rfl) ?_
    refine va_get (D := D) (ci := 4) (v := .int (mnI a4.1 a4.2.2.1)) (C := R_Sp) (T := T_Sp) (N := 8) hx hb hts i_Sp hown hK hP 0 rfl rfl 4 (by decide) (hts _ w_51) (fun _ h9 => h9) rfl d_Sp_boxesApart_16 ?_
    refine lv_icmp_lt (tgt := 44) hx hb d_Sp_boxesApart_19 (by decide) (fun c_2 => ?_) (fun c_2 => ?_)
    · refine lv_iconst (v := 1) hx hb d_Sp_boxesApart_44 (by decide) ?_
      refine lv_goto (tgt := 49) hx hb d_Sp_boxesApart_45 (by decide) ?_
      exact fin _ _ _ _ _ _ d_Sp_boxesApart_49 hP hS (by simp only [bxa, if_neg c_1, if_pos c_2]) (rfl) rfl
    · refine lv_aload_n hx hb d_Sp_boxesApart_22 rfl (lv_at hl 0 rfl) ?_
      refine va_get (D := D) (ci := 4) (v := .int (mxI a4.2.1 a4.2.2.2)) (C := R_Sp) (T := T_Sp) (N := 8) hx hb hts i_Sp hown hK hP 0 rfl rfl 7 (by decide) (hts _ w_54) (fun _ h9 => h9) rfl d_Sp_boxesApart_23 ?_
      refine lv_aload_n hx hb d_Sp_boxesApart_26 rfl (lv_at hl 1 rfl) ?_
      refine va_get (D := D) (ci := 4) (v := .int (mnI b4.2.1 b4.2.2.2)) (C := R_Sp) (T := T_Sp) (N := 8) hx hb hts i_Sp hown hK hP 1 rfl rfl 6 (by decide) (hts _ w_53) (fun _ h9 => h9) rfl d_Sp_boxesApart_27 ?_
      refine lv_icmp_lt (tgt := 44) hx hb d_Sp_boxesApart_30 (by decide) (fun c_3 => ?_) (fun c_3 => ?_)
      · refine lv_iconst (v := 1) hx hb d_Sp_boxesApart_44 (by decide) ?_
        refine lv_goto (tgt := 49) hx hb d_Sp_boxesApart_45 (by decide) ?_
        exact fin _ _ _ _ _ _ d_Sp_boxesApart_49 hP hS (by simp only [bxa, if_neg c_1, if_neg c_2, if_pos c_3]) (rfl) rfl
      · refine lv_aload_n hx hb d_Sp_boxesApart_33 rfl (lv_at hl 1 rfl) ?_
        refine va_get (D := D) (ci := 4) (v := .int (mxI b4.2.1 b4.2.2.2)) (C := R_Sp) (T := T_Sp) (N := 8) hx hb hts i_Sp hown hK hP 1 rfl rfl 7 (by decide) (hts _ w_54) (fun _ h9 => h9) rfl d_Sp_boxesApart_34 ?_
        refine lv_aload_n hx hb d_Sp_boxesApart_37 rfl (lv_at hl 0 rfl) ?_
        refine va_get (D := D) (ci := 4) (v := .int (mnI a4.2.1 a4.2.2.2)) (C := R_Sp) (T := T_Sp) (N := 8) hx hb hts i_Sp hown hK hP 0 rfl rfl 6 (by decide) (hts _ w_53) (fun _ h9 => h9) rfl d_Sp_boxesApart_38 ?_
        refine lv_icmp_ge (tgt := 48) hx hb d_Sp_boxesApart_41 (by decide) (fun c_4 => ?_) (fun c_4 => ?_)
        · refine lv_iconst (v := 0) hx hb d_Sp_boxesApart_48 (by decide) ?_
          exact fin _ _ _ _ _ _ d_Sp_boxesApart_49 hP hS (by simp only [bxa, if_neg c_1, if_neg c_2, if_neg c_3, if_pos c_4]) (rfl) rfl
        · refine lv_iconst (v := 1) hx hb d_Sp_boxesApart_44 (by decide) ?_
          refine lv_goto (tgt := 49) hx hb d_Sp_boxesApart_45 (by decide) ?_
          exact fin _ _ _ _ _ _ d_Sp_boxesApart_49 hP hS (by simp only [bxa, if_neg c_1, if_neg c_2, if_neg c_3, if_neg c_4]) (rfl) rfl

set_option maxRecDepth 100000 in
set_option maxHeartbeats 4000000 in
/-- Span.lineParts -/
theorem c_Sp_lineParts (l : Launch) (D : va_G) (cB cI cS : ClassId) (h0 h1 : Nat) (a4 b4 : E4)  : mI l y_Sp_lineParts b_Sp_lineParts 2 (some .boolean) 2 D cls [(cB, .byte), (cI, .int), (cS, .object "MapLumps$Span")] [.ref h0, .ref h1] ([(h0, .inr (4, [.int a4.1, .int a4.2.1, .int a4.2.2.1, .int a4.2.2.2, .int (mnI a4.1 a4.2.2.1), .int (mxI a4.1 a4.2.2.1), .int (mnI a4.2.1 a4.2.2.2), .int (mxI a4.2.1 a4.2.2.2)])), (h1, .inr (4, [.int b4.1, .int b4.2.1, .int b4.2.2.1, .int b4.2.2.2, .int (mnI b4.1 b4.2.2.1), .int (mxI b4.1 b4.2.2.1), .int (mnI b4.2.1 b4.2.2.2), .int (mxI b4.2.1 b4.2.2.2)]))]) (lpt a4 b4) ([(h0, .inr (4, [.int a4.1, .int a4.2.1, .int a4.2.2.1, .int a4.2.2.2, .int (mnI a4.1 a4.2.2.1), .int (mxI a4.1 a4.2.2.1), .int (mnI a4.2.1 a4.2.2.2), .int (mxI a4.2.1 a4.2.2.2)])), (h1, .inr (4, [.int b4.1, .int b4.2.1, .int b4.2.2.1, .int b4.2.2.2, .int (mnI b4.1 b4.2.2.1), .int (mxI b4.1 b4.2.2.1), .int (mnI b4.2.1 b4.2.2.2), .int (mxI b4.2.1 b4.2.2.2)]))]) := by
  refine pz_openZ (by decide) (Nat.le_of_ble_eq_true rfl) ?_
  intro p e s m below meth c A ls Q X hN hK hP hD hS hA hl fin
  obtain ⟨hx, hb, hml, hown, hts⟩ := id X
  have hl : lv_has ls 2 [(0, .ref h0), (1, .ref h1)] := hl
  refine lv_aload_n hx hb d_Sp_lineParts_0 rfl (lv_at hl 0 rfl) ?_
  refine lv_aload_n hx hb d_Sp_lineParts_1 rfl (lv_at hl 1 rfl) ?_
  refine va_get (D := D) (ci := 4) (v := .int b4.1) (C := R_Sp) (T := T_Sp) (N := 8) hx hb hts i_Sp hown hK hP 1 rfl rfl 0 (by decide) (hts _ w_47) (fun _ h9 => h9) rfl d_Sp_lineParts_2 ?_
  refine lv_aload_n hx hb d_Sp_lineParts_5 rfl (lv_at hl 1 rfl) ?_
  refine va_get (D := D) (ci := 4) (v := .int b4.2.1) (C := R_Sp) (T := T_Sp) (N := 8) hx hb hts i_Sp hown hK hP 1 rfl rfl 1 (by decide) (hts _ w_48) (fun _ h9 => h9) rfl d_Sp_lineParts_6 ?_
  refine pz_i0 (pz_rV (d := 1) (As := [.int b4.1, .int b4.2.1]) (rest := []) X hN (c_Sp_side l D cB cI cS h0 a4 b4.1 b4.2.1 _) k_Sp_side w_325 ⟨by decide, by decide⟩ hK hP hD [0] rfl rfl 0 rfl rfl rfl rfl hl.1 rfl (Nat.le_of_ble_eq_true rfl) d_Sp_lineParts_9 ⟨Nat.zero_le _, Nat.zero_le _⟩) hP hD hS hA [0] rfl (fun H locs hP hS => ?_)
  refine lv_aload_n hx hb d_Sp_lineParts_12 rfl (lv_at hl 0 rfl) ?_
  refine lv_aload_n hx hb d_Sp_lineParts_13 rfl (lv_at hl 1 rfl) ?_
  refine va_get (D := D) (ci := 4) (v := .int b4.2.2.1) (C := R_Sp) (T := T_Sp) (N := 8) hx hb hts i_Sp hown hK hP 1 rfl rfl 2 (by decide) (hts _ w_49) (fun _ h9 => h9) rfl d_Sp_lineParts_14 ?_
  refine lv_aload_n hx hb d_Sp_lineParts_17 rfl (lv_at hl 1 rfl) ?_
  refine va_get (D := D) (ci := 4) (v := .int b4.2.2.2) (C := R_Sp) (T := T_Sp) (N := 8) hx hb hts i_Sp hown hK hP 1 rfl rfl 3 (by decide) (hts _ w_50) (fun _ h9 => h9) rfl d_Sp_lineParts_18 ?_
  refine pz_i0 (pz_rV (d := 1) (As := [.int b4.2.2.1, .int b4.2.2.2]) (rest := [.int (sid a4 b4.1 b4.2.1)]) X hN (c_Sp_side l D cB cI cS h0 a4 b4.2.2.1 b4.2.2.2 _) k_Sp_side w_325 ⟨by decide, by decide⟩ hK hP hD [0] rfl rfl 0 rfl rfl rfl rfl hl.1 rfl (Nat.le_of_ble_eq_true rfl) d_Sp_lineParts_21 ⟨Nat.zero_le _, Nat.zero_le _⟩) hP hD hS hA [0] rfl (fun H locs hP hS => ?_)
  refine lv_imul hx hb d_Sp_lineParts_24 ?_
  refine lv_if_gt (tgt := 32) hx hb d_Sp_lineParts_25 (by decide) (fun c_1 => ?_) (fun c_1 => ?_)
  · refine lv_iconst (v := 0) hx hb d_Sp_lineParts_32 (by decide) ?_
    exact fin _ _ _ _ _ _ d_Sp_lineParts_33 hP hS (by simp only [lpt, if_pos c_1]) (rfl) rfl
  · refine lv_iconst (v := 1) hx hb d_Sp_lineParts_28 (by decide) ?_
    refine lv_goto (tgt := 33) hx hb d_Sp_lineParts_29 (by decide) ?_
    exact fin _ _ _ _ _ _ d_Sp_lineParts_33 hP hS (by simp only [lpt, if_neg c_1]) (rfl) rfl

set_option maxRecDepth 100000 in
set_option maxHeartbeats 4000000 in
/-- Span.meets -/
theorem c_Sp_meets (l : Launch) (D : va_G) (cB cI cS : ClassId) (h0 h1 : Nat) (a4 b4 : E4)  : mI l y_Sp_meets b_Sp_meets 2 (some .boolean) 3 D cls [(cB, .byte), (cI, .int), (cS, .object "MapLumps$Span")] [.ref h0, .ref h1] ([(h0, .inr (4, [.int a4.1, .int a4.2.1, .int a4.2.2.1, .int a4.2.2.2, .int (mnI a4.1 a4.2.2.1), .int (mxI a4.1 a4.2.2.1), .int (mnI a4.2.1 a4.2.2.2), .int (mxI a4.2.1 a4.2.2.2)])), (h1, .inr (4, [.int b4.1, .int b4.2.1, .int b4.2.2.1, .int b4.2.2.2, .int (mnI b4.1 b4.2.2.1), .int (mxI b4.1 b4.2.2.1), .int (mnI b4.2.1 b4.2.2.2), .int (mxI b4.2.1 b4.2.2.2)]))]) (mts a4 b4) ([(h0, .inr (4, [.int a4.1, .int a4.2.1, .int a4.2.2.1, .int a4.2.2.2, .int (mnI a4.1 a4.2.2.1), .int (mxI a4.1 a4.2.2.1), .int (mnI a4.2.1 a4.2.2.2), .int (mxI a4.2.1 a4.2.2.2)])), (h1, .inr (4, [.int b4.1, .int b4.2.1, .int b4.2.2.1, .int b4.2.2.2, .int (mnI b4.1 b4.2.2.1), .int (mxI b4.1 b4.2.2.1), .int (mnI b4.2.1 b4.2.2.2), .int (mxI b4.2.1 b4.2.2.2)]))]) := by
  refine pz_openZ (by decide) (Nat.le_of_ble_eq_true rfl) ?_
  intro p e s m below meth c A ls Q X hN hK hP hD hS hA hl fin
  obtain ⟨hx, hb, hml, hown, hts⟩ := id X
  have hl : lv_has ls 2 [(0, .ref h0), (1, .ref h1)] := hl
  refine lv_aload_n hx hb d_Sp_meets_0 rfl (lv_at hl 0 rfl) ?_
  refine lv_aload_n hx hb d_Sp_meets_1 rfl (lv_at hl 1 rfl) ?_
  refine pz_i0 (pz_rV (d := 0) (As := [.ref h1]) (rest := []) X hN (c_Sp_boxesApart l D cB cI cS h0 h1 a4 b4 _) k_Sp_boxesApart w_311 ⟨by decide, by decide⟩ hK hP hD [0, 1] rfl rfl 0 rfl rfl rfl rfl hl.1 rfl (Nat.le_of_ble_eq_true rfl) d_Sp_meets_2 ⟨Nat.zero_le _, Nat.zero_le _⟩) hP hD hS hA [0, 1] rfl (fun H locs hP hS => ?_)
  refine lv_if_eq (tgt := 10) hx hb d_Sp_meets_5 (by decide) (fun c_1 => ?_) (fun c_1 => ?_)
  · refine lv_aload_n hx hb d_Sp_meets_10 rfl (lv_at hl 0 rfl) ?_
    refine va_get (D := D) (ci := 4) (v := .int a4.1) (C := R_Sp) (T := T_Sp) (N := 8) hx hb hts i_Sp hown hK hP 0 rfl rfl 0 (by decide) (hts _ w_47) (fun _ h9 => h9) rfl d_Sp_meets_11 ?_
    refine lv_aload_n hx hb d_Sp_meets_14 rfl (lv_at hl 1 rfl) ?_
    refine va_get (D := D) (ci := 4) (v := .int b4.1) (C := R_Sp) (T := T_Sp) (N := 8) hx hb hts i_Sp hown hK hP 1 rfl rfl 0 (by decide) (hts _ w_47) (fun _ h9 => h9) rfl d_Sp_meets_15 ?_
    refine lv_icmp_ne (tgt := 60) hx hb d_Sp_meets_18 (by decide) (fun c_2 => ?_) (fun c_2 => ?_)
    · refine lv_aload_n hx hb d_Sp_meets_60 rfl (lv_at hl 0 rfl) ?_
      refine va_get (D := D) (ci := 4) (v := .int a4.1) (C := R_Sp) (T := T_Sp) (N := 8) hx hb hts i_Sp hown hK hP 0 rfl rfl 0 (by decide) (hts _ w_47) (fun _ h9 => h9) rfl d_Sp_meets_61 ?_
      refine lv_aload_n hx hb d_Sp_meets_64 rfl (lv_at hl 1 rfl) ?_
      refine va_get (D := D) (ci := 4) (v := .int b4.2.2.1) (C := R_Sp) (T := T_Sp) (N := 8) hx hb hts i_Sp hown hK hP 1 rfl rfl 2 (by decide) (hts _ w_49) (fun _ h9 => h9) rfl d_Sp_meets_65 ?_
      refine lv_icmp_ne (tgt := 110) hx hb d_Sp_meets_68 (by decide) (fun c_3 => ?_) (fun c_3 => ?_)
      · refine lv_aload_n hx hb d_Sp_meets_110 rfl (lv_at hl 0 rfl) ?_
        refine va_get (D := D) (ci := 4) (v := .int a4.2.2.1) (C := R_Sp) (T := T_Sp) (N := 8) hx hb hts i_Sp hown hK hP 0 rfl rfl 2 (by decide) (hts _ w_49) (fun _ h9 => h9) rfl d_Sp_meets_111 ?_
        refine lv_aload_n hx hb d_Sp_meets_114 rfl (lv_at hl 1 rfl) ?_
        refine va_get (D := D) (ci := 4) (v := .int b4.1) (C := R_Sp) (T := T_Sp) (N := 8) hx hb hts i_Sp hown hK hP 1 rfl rfl 0 (by decide) (hts _ w_47) (fun _ h9 => h9) rfl d_Sp_meets_115 ?_
        refine lv_icmp_ne (tgt := 160) hx hb d_Sp_meets_118 (by decide) (fun c_4 => ?_) (fun c_4 => ?_)
        · refine lv_aload_n hx hb d_Sp_meets_160 rfl (lv_at hl 0 rfl) ?_
          refine va_get (D := D) (ci := 4) (v := .int a4.2.2.1) (C := R_Sp) (T := T_Sp) (N := 8) hx hb hts i_Sp hown hK hP 0 rfl rfl 2 (by decide) (hts _ w_49) (fun _ h9 => h9) rfl d_Sp_meets_161 ?_
          refine lv_aload_n hx hb d_Sp_meets_164 rfl (lv_at hl 1 rfl) ?_
          refine va_get (D := D) (ci := 4) (v := .int b4.2.2.1) (C := R_Sp) (T := T_Sp) (N := 8) hx hb hts i_Sp hown hK hP 1 rfl rfl 2 (by decide) (hts _ w_49) (fun _ h9 => h9) rfl d_Sp_meets_165 ?_
          refine lv_icmp_ne (tgt := 210) hx hb d_Sp_meets_168 (by decide) (fun c_5 => ?_) (fun c_5 => ?_)
          · refine lv_aload_n hx hb d_Sp_meets_210 rfl (lv_at hl 0 rfl) ?_
            refine lv_aload_n hx hb d_Sp_meets_211 rfl (lv_at hl 1 rfl) ?_
            refine pz_i0 (pz_rV (d := 2) (As := [.ref h1]) (rest := []) X hN (c_Sp_lineParts l D cB cI cS h0 h1 a4 b4 _) k_Sp_lineParts w_321 ⟨by decide, by decide⟩ hK hP hD [0, 1] rfl rfl 0 rfl rfl rfl rfl hl.1 rfl (Nat.le_of_ble_eq_true rfl) d_Sp_meets_212 ⟨Nat.zero_le _, Nat.zero_le _⟩) hP hD hS hA [0, 1] rfl (fun H locs hP hS => ?_)
            refine lv_if_eq (tgt := 230) hx hb d_Sp_meets_215 (by decide) (fun c_6 => ?_) (fun c_6 => ?_)
            · refine lv_iconst (v := 0) hx hb d_Sp_meets_230 (by decide) ?_
              exact fin _ _ _ _ _ _ d_Sp_meets_231 hP hS (by simp only [mts, mt1, mt2, mt3, mt4, mt5, if_pos c_1, if_neg c_2, if_neg c_3, if_neg c_4, if_neg c_5, if_pos c_6]) (rfl) rfl
            · refine lv_aload_n hx hb d_Sp_meets_218 rfl (lv_at hl 1 rfl) ?_
              refine lv_aload_n hx hb d_Sp_meets_219 rfl (lv_at hl 0 rfl) ?_
              refine pz_i0 (pz_rV (d := 2) (As := [.ref h0]) (rest := []) X hN (c_Sp_lineParts l D cB cI cS h1 h0 b4 a4 _) k_Sp_lineParts w_321 ⟨by decide, by decide⟩ hK hP hD [1, 0] rfl rfl 1 rfl rfl rfl rfl hl.1 rfl (Nat.le_of_ble_eq_true rfl) d_Sp_meets_220 ⟨Nat.zero_le _, Nat.zero_le _⟩) hP hD hS hA [1, 0] rfl (fun H locs hP hS => ?_)
              refine lv_if_eq (tgt := 230) hx hb d_Sp_meets_223 (by decide) (fun c_7 => ?_) (fun c_7 => ?_)
              · refine lv_iconst (v := 0) hx hb d_Sp_meets_230 (by decide) ?_
                exact fin _ _ _ _ _ _ d_Sp_meets_231 hP hS (by simp only [mts, mt1, mt2, mt3, mt4, mt5, if_pos c_1, if_neg c_2, if_neg c_3, if_neg c_4, if_neg c_5, if_neg c_6, if_pos c_7]) (rfl) rfl
              · refine lv_iconst (v := 1) hx hb d_Sp_meets_226 (by decide) ?_
                refine lv_goto (tgt := 231) hx hb d_Sp_meets_227 (by decide) ?_
                exact fin _ _ _ _ _ _ d_Sp_meets_231 hP hS (by simp only [mts, mt1, mt2, mt3, mt4, mt5, if_pos c_1, if_neg c_2, if_neg c_3, if_neg c_4, if_neg c_5, if_neg c_6, if_neg c_7]) (rfl) rfl
          · refine lv_aload_n hx hb d_Sp_meets_171 rfl (lv_at hl 0 rfl) ?_
            refine va_get (D := D) (ci := 4) (v := .int a4.2.2.2) (C := R_Sp) (T := T_Sp) (N := 8) hx hb hts i_Sp hown hK hP 0 rfl rfl 3 (by decide) (hts _ w_50) (fun _ h9 => h9) rfl d_Sp_meets_172 ?_
            refine lv_aload_n hx hb d_Sp_meets_175 rfl (lv_at hl 1 rfl) ?_
            refine va_get (D := D) (ci := 4) (v := .int b4.2.2.2) (C := R_Sp) (T := T_Sp) (N := 8) hx hb hts i_Sp hown hK hP 1 rfl rfl 3 (by decide) (hts _ w_50) (fun _ h9 => h9) rfl d_Sp_meets_176 ?_
            refine lv_icmp_ne (tgt := 210) hx hb d_Sp_meets_179 (by decide) (fun c_8 => ?_) (fun c_8 => ?_)
            · refine lv_aload_n hx hb d_Sp_meets_210 rfl (lv_at hl 0 rfl) ?_
              refine lv_aload_n hx hb d_Sp_meets_211 rfl (lv_at hl 1 rfl) ?_
              refine pz_i0 (pz_rV (d := 2) (As := [.ref h1]) (rest := []) X hN (c_Sp_lineParts l D cB cI cS h0 h1 a4 b4 _) k_Sp_lineParts w_321 ⟨by decide, by decide⟩ hK hP hD [0, 1] rfl rfl 0 rfl rfl rfl rfl hl.1 rfl (Nat.le_of_ble_eq_true rfl) d_Sp_meets_212 ⟨Nat.zero_le _, Nat.zero_le _⟩) hP hD hS hA [0, 1] rfl (fun H locs hP hS => ?_)
              refine lv_if_eq (tgt := 230) hx hb d_Sp_meets_215 (by decide) (fun c_9 => ?_) (fun c_9 => ?_)
              · refine lv_iconst (v := 0) hx hb d_Sp_meets_230 (by decide) ?_
                exact fin _ _ _ _ _ _ d_Sp_meets_231 hP hS (by simp only [mts, mt1, mt2, mt3, mt4, mt5, if_pos c_1, if_neg c_2, if_neg c_3, if_neg c_4, if_pos c_5, if_neg c_8, if_pos c_9]) (rfl) rfl
              · refine lv_aload_n hx hb d_Sp_meets_218 rfl (lv_at hl 1 rfl) ?_
                refine lv_aload_n hx hb d_Sp_meets_219 rfl (lv_at hl 0 rfl) ?_
                refine pz_i0 (pz_rV (d := 2) (As := [.ref h0]) (rest := []) X hN (c_Sp_lineParts l D cB cI cS h1 h0 b4 a4 _) k_Sp_lineParts w_321 ⟨by decide, by decide⟩ hK hP hD [1, 0] rfl rfl 1 rfl rfl rfl rfl hl.1 rfl (Nat.le_of_ble_eq_true rfl) d_Sp_meets_220 ⟨Nat.zero_le _, Nat.zero_le _⟩) hP hD hS hA [1, 0] rfl (fun H locs hP hS => ?_)
                refine lv_if_eq (tgt := 230) hx hb d_Sp_meets_223 (by decide) (fun c_10 => ?_) (fun c_10 => ?_)
                · refine lv_iconst (v := 0) hx hb d_Sp_meets_230 (by decide) ?_
                  exact fin _ _ _ _ _ _ d_Sp_meets_231 hP hS (by simp only [mts, mt1, mt2, mt3, mt4, mt5, if_pos c_1, if_neg c_2, if_neg c_3, if_neg c_4, if_pos c_5, if_neg c_8, if_neg c_9, if_pos c_10]) (rfl) rfl
                · refine lv_iconst (v := 1) hx hb d_Sp_meets_226 (by decide) ?_
                  refine lv_goto (tgt := 231) hx hb d_Sp_meets_227 (by decide) ?_
                  exact fin _ _ _ _ _ _ d_Sp_meets_231 hP hS (by simp only [mts, mt1, mt2, mt3, mt4, mt5, if_pos c_1, if_neg c_2, if_neg c_3, if_neg c_4, if_pos c_5, if_neg c_8, if_neg c_9, if_neg c_10]) (rfl) rfl
            · refine lv_aload_n hx hb d_Sp_meets_182 rfl (lv_at hl 0 rfl) ?_
              refine va_get (D := D) (ci := 4) (v := .int a4.2.2.1) (C := R_Sp) (T := T_Sp) (N := 8) hx hb hts i_Sp hown hK hP 0 rfl rfl 2 (by decide) (hts _ w_49) (fun _ h9 => h9) rfl d_Sp_meets_183 ?_
              refine lv_aload_n hx hb d_Sp_meets_186 rfl (lv_at hl 0 rfl) ?_
              refine va_get (D := D) (ci := 4) (v := .int a4.2.2.2) (C := R_Sp) (T := T_Sp) (N := 8) hx hb hts i_Sp hown hK hP 0 rfl rfl 3 (by decide) (hts _ w_50) (fun _ h9 => h9) rfl d_Sp_meets_187 ?_
              refine lv_aload_n hx hb d_Sp_meets_190 rfl (lv_at hl 0 rfl) ?_
              refine va_get (D := D) (ci := 4) (v := .int a4.1) (C := R_Sp) (T := T_Sp) (N := 8) hx hb hts i_Sp hown hK hP 0 rfl rfl 0 (by decide) (hts _ w_47) (fun _ h9 => h9) rfl d_Sp_meets_191 ?_
              refine lv_aload_n hx hb d_Sp_meets_194 rfl (lv_at hl 0 rfl) ?_
              refine va_get (D := D) (ci := 4) (v := .int a4.2.1) (C := R_Sp) (T := T_Sp) (N := 8) hx hb hts i_Sp hown hK hP 0 rfl rfl 1 (by decide) (hts _ w_48) (fun _ h9 => h9) rfl d_Sp_meets_195 ?_
              refine lv_aload_n hx hb d_Sp_meets_198 rfl (lv_at hl 1 rfl) ?_
              refine va_get (D := D) (ci := 4) (v := .int b4.1) (C := R_Sp) (T := T_Sp) (N := 8) hx hb hts i_Sp hown hK hP 1 rfl rfl 0 (by decide) (hts _ w_47) (fun _ h9 => h9) rfl d_Sp_meets_199 ?_
              refine lv_aload_n hx hb d_Sp_meets_202 rfl (lv_at hl 1 rfl) ?_
              refine va_get (D := D) (ci := 4) (v := .int b4.2.1) (C := R_Sp) (T := T_Sp) (N := 8) hx hb hts i_Sp hown hK hP 1 rfl rfl 1 (by decide) (hts _ w_48) (fun _ h9 => h9) rfl d_Sp_meets_203 ?_
              refine pz_i0 (pz_rS (d := 1) (As := [.int a4.2.2.1, .int a4.2.2.2, .int a4.1, .int a4.2.1, .int b4.1, .int b4.2.1]) (rest := []) X hN (c_Sp_sameWay l D cB cI cS a4.2.2.1 a4.2.2.2 a4.1 a4.2.1 b4.1 b4.2.1 _) k_Sp_sameWay w_315 ⟨by decide, by decide⟩ hK hP hD [] rfl rfl rfl hl.1 rfl (Nat.le_of_ble_eq_true rfl) d_Sp_meets_206 ⟨Nat.zero_le _, Nat.zero_le _⟩) hP hD hS hA [] rfl (fun H locs hP hS => ?_)
              exact fin _ _ _ _ _ _ d_Sp_meets_209 hP hS (by simp only [mts, mt1, mt2, mt3, mt4, mt5, if_pos c_1, if_neg c_2, if_neg c_3, if_neg c_4, if_pos c_5, if_pos c_8]) (rfl) (swy_z _ _ _ _ _ _)
        · refine lv_aload_n hx hb d_Sp_meets_121 rfl (lv_at hl 0 rfl) ?_
          refine va_get (D := D) (ci := 4) (v := .int a4.2.2.2) (C := R_Sp) (T := T_Sp) (N := 8) hx hb hts i_Sp hown hK hP 0 rfl rfl 3 (by decide) (hts _ w_50) (fun _ h9 => h9) rfl d_Sp_meets_122 ?_
          refine lv_aload_n hx hb d_Sp_meets_125 rfl (lv_at hl 1 rfl) ?_
          refine va_get (D := D) (ci := 4) (v := .int b4.2.1) (C := R_Sp) (T := T_Sp) (N := 8) hx hb hts i_Sp hown hK hP 1 rfl rfl 1 (by decide) (hts _ w_48) (fun _ h9 => h9) rfl d_Sp_meets_126 ?_
          refine lv_icmp_ne (tgt := 160) hx hb d_Sp_meets_129 (by decide) (fun c_11 => ?_) (fun c_11 => ?_)
          · refine lv_aload_n hx hb d_Sp_meets_160 rfl (lv_at hl 0 rfl) ?_
            refine va_get (D := D) (ci := 4) (v := .int a4.2.2.1) (C := R_Sp) (T := T_Sp) (N := 8) hx hb hts i_Sp hown hK hP 0 rfl rfl 2 (by decide) (hts _ w_49) (fun _ h9 => h9) rfl d_Sp_meets_161 ?_
            refine lv_aload_n hx hb d_Sp_meets_164 rfl (lv_at hl 1 rfl) ?_
            refine va_get (D := D) (ci := 4) (v := .int b4.2.2.1) (C := R_Sp) (T := T_Sp) (N := 8) hx hb hts i_Sp hown hK hP 1 rfl rfl 2 (by decide) (hts _ w_49) (fun _ h9 => h9) rfl d_Sp_meets_165 ?_
            refine lv_icmp_ne (tgt := 210) hx hb d_Sp_meets_168 (by decide) (fun c_12 => ?_) (fun c_12 => ?_)
            · refine lv_aload_n hx hb d_Sp_meets_210 rfl (lv_at hl 0 rfl) ?_
              refine lv_aload_n hx hb d_Sp_meets_211 rfl (lv_at hl 1 rfl) ?_
              refine pz_i0 (pz_rV (d := 2) (As := [.ref h1]) (rest := []) X hN (c_Sp_lineParts l D cB cI cS h0 h1 a4 b4 _) k_Sp_lineParts w_321 ⟨by decide, by decide⟩ hK hP hD [0, 1] rfl rfl 0 rfl rfl rfl rfl hl.1 rfl (Nat.le_of_ble_eq_true rfl) d_Sp_meets_212 ⟨Nat.zero_le _, Nat.zero_le _⟩) hP hD hS hA [0, 1] rfl (fun H locs hP hS => ?_)
              refine lv_if_eq (tgt := 230) hx hb d_Sp_meets_215 (by decide) (fun c_13 => ?_) (fun c_13 => ?_)
              · refine lv_iconst (v := 0) hx hb d_Sp_meets_230 (by decide) ?_
                exact fin _ _ _ _ _ _ d_Sp_meets_231 hP hS (by simp only [mts, mt1, mt2, mt3, mt4, mt5, if_pos c_1, if_neg c_2, if_neg c_3, if_pos c_4, if_neg c_11, if_neg c_12, if_pos c_13]) (rfl) rfl
              · refine lv_aload_n hx hb d_Sp_meets_218 rfl (lv_at hl 1 rfl) ?_
                refine lv_aload_n hx hb d_Sp_meets_219 rfl (lv_at hl 0 rfl) ?_
                refine pz_i0 (pz_rV (d := 2) (As := [.ref h0]) (rest := []) X hN (c_Sp_lineParts l D cB cI cS h1 h0 b4 a4 _) k_Sp_lineParts w_321 ⟨by decide, by decide⟩ hK hP hD [1, 0] rfl rfl 1 rfl rfl rfl rfl hl.1 rfl (Nat.le_of_ble_eq_true rfl) d_Sp_meets_220 ⟨Nat.zero_le _, Nat.zero_le _⟩) hP hD hS hA [1, 0] rfl (fun H locs hP hS => ?_)
                refine lv_if_eq (tgt := 230) hx hb d_Sp_meets_223 (by decide) (fun c_14 => ?_) (fun c_14 => ?_)
                · refine lv_iconst (v := 0) hx hb d_Sp_meets_230 (by decide) ?_
                  exact fin _ _ _ _ _ _ d_Sp_meets_231 hP hS (by simp only [mts, mt1, mt2, mt3, mt4, mt5, if_pos c_1, if_neg c_2, if_neg c_3, if_pos c_4, if_neg c_11, if_neg c_12, if_neg c_13, if_pos c_14]) (rfl) rfl
                · refine lv_iconst (v := 1) hx hb d_Sp_meets_226 (by decide) ?_
                  refine lv_goto (tgt := 231) hx hb d_Sp_meets_227 (by decide) ?_
                  exact fin _ _ _ _ _ _ d_Sp_meets_231 hP hS (by simp only [mts, mt1, mt2, mt3, mt4, mt5, if_pos c_1, if_neg c_2, if_neg c_3, if_pos c_4, if_neg c_11, if_neg c_12, if_neg c_13, if_neg c_14]) (rfl) rfl
            · refine lv_aload_n hx hb d_Sp_meets_171 rfl (lv_at hl 0 rfl) ?_
              refine va_get (D := D) (ci := 4) (v := .int a4.2.2.2) (C := R_Sp) (T := T_Sp) (N := 8) hx hb hts i_Sp hown hK hP 0 rfl rfl 3 (by decide) (hts _ w_50) (fun _ h9 => h9) rfl d_Sp_meets_172 ?_
              refine lv_aload_n hx hb d_Sp_meets_175 rfl (lv_at hl 1 rfl) ?_
              refine va_get (D := D) (ci := 4) (v := .int b4.2.2.2) (C := R_Sp) (T := T_Sp) (N := 8) hx hb hts i_Sp hown hK hP 1 rfl rfl 3 (by decide) (hts _ w_50) (fun _ h9 => h9) rfl d_Sp_meets_176 ?_
              refine lv_icmp_ne (tgt := 210) hx hb d_Sp_meets_179 (by decide) (fun c_15 => ?_) (fun c_15 => ?_)
              · refine lv_aload_n hx hb d_Sp_meets_210 rfl (lv_at hl 0 rfl) ?_
                refine lv_aload_n hx hb d_Sp_meets_211 rfl (lv_at hl 1 rfl) ?_
                refine pz_i0 (pz_rV (d := 2) (As := [.ref h1]) (rest := []) X hN (c_Sp_lineParts l D cB cI cS h0 h1 a4 b4 _) k_Sp_lineParts w_321 ⟨by decide, by decide⟩ hK hP hD [0, 1] rfl rfl 0 rfl rfl rfl rfl hl.1 rfl (Nat.le_of_ble_eq_true rfl) d_Sp_meets_212 ⟨Nat.zero_le _, Nat.zero_le _⟩) hP hD hS hA [0, 1] rfl (fun H locs hP hS => ?_)
                refine lv_if_eq (tgt := 230) hx hb d_Sp_meets_215 (by decide) (fun c_16 => ?_) (fun c_16 => ?_)
                · refine lv_iconst (v := 0) hx hb d_Sp_meets_230 (by decide) ?_
                  exact fin _ _ _ _ _ _ d_Sp_meets_231 hP hS (by simp only [mts, mt1, mt2, mt3, mt4, mt5, if_pos c_1, if_neg c_2, if_neg c_3, if_pos c_4, if_neg c_11, if_pos c_12, if_neg c_15, if_pos c_16]) (rfl) rfl
                · refine lv_aload_n hx hb d_Sp_meets_218 rfl (lv_at hl 1 rfl) ?_
                  refine lv_aload_n hx hb d_Sp_meets_219 rfl (lv_at hl 0 rfl) ?_
                  refine pz_i0 (pz_rV (d := 2) (As := [.ref h0]) (rest := []) X hN (c_Sp_lineParts l D cB cI cS h1 h0 b4 a4 _) k_Sp_lineParts w_321 ⟨by decide, by decide⟩ hK hP hD [1, 0] rfl rfl 1 rfl rfl rfl rfl hl.1 rfl (Nat.le_of_ble_eq_true rfl) d_Sp_meets_220 ⟨Nat.zero_le _, Nat.zero_le _⟩) hP hD hS hA [1, 0] rfl (fun H locs hP hS => ?_)
                  refine lv_if_eq (tgt := 230) hx hb d_Sp_meets_223 (by decide) (fun c_17 => ?_) (fun c_17 => ?_)
                  · refine lv_iconst (v := 0) hx hb d_Sp_meets_230 (by decide) ?_
                    exact fin _ _ _ _ _ _ d_Sp_meets_231 hP hS (by simp only [mts, mt1, mt2, mt3, mt4, mt5, if_pos c_1, if_neg c_2, if_neg c_3, if_pos c_4, if_neg c_11, if_pos c_12, if_neg c_15, if_neg c_16, if_pos c_17]) (rfl) rfl
                  · refine lv_iconst (v := 1) hx hb d_Sp_meets_226 (by decide) ?_
                    refine lv_goto (tgt := 231) hx hb d_Sp_meets_227 (by decide) ?_
                    exact fin _ _ _ _ _ _ d_Sp_meets_231 hP hS (by simp only [mts, mt1, mt2, mt3, mt4, mt5, if_pos c_1, if_neg c_2, if_neg c_3, if_pos c_4, if_neg c_11, if_pos c_12, if_neg c_15, if_neg c_16, if_neg c_17]) (rfl) rfl
              · refine lv_aload_n hx hb d_Sp_meets_182 rfl (lv_at hl 0 rfl) ?_
                refine va_get (D := D) (ci := 4) (v := .int a4.2.2.1) (C := R_Sp) (T := T_Sp) (N := 8) hx hb hts i_Sp hown hK hP 0 rfl rfl 2 (by decide) (hts _ w_49) (fun _ h9 => h9) rfl d_Sp_meets_183 ?_
                refine lv_aload_n hx hb d_Sp_meets_186 rfl (lv_at hl 0 rfl) ?_
                refine va_get (D := D) (ci := 4) (v := .int a4.2.2.2) (C := R_Sp) (T := T_Sp) (N := 8) hx hb hts i_Sp hown hK hP 0 rfl rfl 3 (by decide) (hts _ w_50) (fun _ h9 => h9) rfl d_Sp_meets_187 ?_
                refine lv_aload_n hx hb d_Sp_meets_190 rfl (lv_at hl 0 rfl) ?_
                refine va_get (D := D) (ci := 4) (v := .int a4.1) (C := R_Sp) (T := T_Sp) (N := 8) hx hb hts i_Sp hown hK hP 0 rfl rfl 0 (by decide) (hts _ w_47) (fun _ h9 => h9) rfl d_Sp_meets_191 ?_
                refine lv_aload_n hx hb d_Sp_meets_194 rfl (lv_at hl 0 rfl) ?_
                refine va_get (D := D) (ci := 4) (v := .int a4.2.1) (C := R_Sp) (T := T_Sp) (N := 8) hx hb hts i_Sp hown hK hP 0 rfl rfl 1 (by decide) (hts _ w_48) (fun _ h9 => h9) rfl d_Sp_meets_195 ?_
                refine lv_aload_n hx hb d_Sp_meets_198 rfl (lv_at hl 1 rfl) ?_
                refine va_get (D := D) (ci := 4) (v := .int b4.1) (C := R_Sp) (T := T_Sp) (N := 8) hx hb hts i_Sp hown hK hP 1 rfl rfl 0 (by decide) (hts _ w_47) (fun _ h9 => h9) rfl d_Sp_meets_199 ?_
                refine lv_aload_n hx hb d_Sp_meets_202 rfl (lv_at hl 1 rfl) ?_
                refine va_get (D := D) (ci := 4) (v := .int b4.2.1) (C := R_Sp) (T := T_Sp) (N := 8) hx hb hts i_Sp hown hK hP 1 rfl rfl 1 (by decide) (hts _ w_48) (fun _ h9 => h9) rfl d_Sp_meets_203 ?_
                refine pz_i0 (pz_rS (d := 1) (As := [.int a4.2.2.1, .int a4.2.2.2, .int a4.1, .int a4.2.1, .int b4.1, .int b4.2.1]) (rest := []) X hN (c_Sp_sameWay l D cB cI cS a4.2.2.1 a4.2.2.2 a4.1 a4.2.1 b4.1 b4.2.1 _) k_Sp_sameWay w_315 ⟨by decide, by decide⟩ hK hP hD [] rfl rfl rfl hl.1 rfl (Nat.le_of_ble_eq_true rfl) d_Sp_meets_206 ⟨Nat.zero_le _, Nat.zero_le _⟩) hP hD hS hA [] rfl (fun H locs hP hS => ?_)
                exact fin _ _ _ _ _ _ d_Sp_meets_209 hP hS (by simp only [mts, mt1, mt2, mt3, mt4, mt5, if_pos c_1, if_neg c_2, if_neg c_3, if_pos c_4, if_neg c_11, if_pos c_12, if_pos c_15]) (rfl) (swy_z _ _ _ _ _ _)
          · refine lv_aload_n hx hb d_Sp_meets_132 rfl (lv_at hl 0 rfl) ?_
            refine va_get (D := D) (ci := 4) (v := .int a4.2.2.1) (C := R_Sp) (T := T_Sp) (N := 8) hx hb hts i_Sp hown hK hP 0 rfl rfl 2 (by decide) (hts _ w_49) (fun _ h9 => h9) rfl d_Sp_meets_133 ?_
            refine lv_aload_n hx hb d_Sp_meets_136 rfl (lv_at hl 0 rfl) ?_
            refine va_get (D := D) (ci := 4) (v := .int a4.2.2.2) (C := R_Sp) (T := T_Sp) (N := 8) hx hb hts i_Sp hown hK hP 0 rfl rfl 3 (by decide) (hts _ w_50) (fun _ h9 => h9) rfl d_Sp_meets_137 ?_
            refine lv_aload_n hx hb d_Sp_meets_140 rfl (lv_at hl 0 rfl) ?_
            refine va_get (D := D) (ci := 4) (v := .int a4.1) (C := R_Sp) (T := T_Sp) (N := 8) hx hb hts i_Sp hown hK hP 0 rfl rfl 0 (by decide) (hts _ w_47) (fun _ h9 => h9) rfl d_Sp_meets_141 ?_
            refine lv_aload_n hx hb d_Sp_meets_144 rfl (lv_at hl 0 rfl) ?_
            refine va_get (D := D) (ci := 4) (v := .int a4.2.1) (C := R_Sp) (T := T_Sp) (N := 8) hx hb hts i_Sp hown hK hP 0 rfl rfl 1 (by decide) (hts _ w_48) (fun _ h9 => h9) rfl d_Sp_meets_145 ?_
            refine lv_aload_n hx hb d_Sp_meets_148 rfl (lv_at hl 1 rfl) ?_
            refine va_get (D := D) (ci := 4) (v := .int b4.2.2.1) (C := R_Sp) (T := T_Sp) (N := 8) hx hb hts i_Sp hown hK hP 1 rfl rfl 2 (by decide) (hts _ w_49) (fun _ h9 => h9) rfl d_Sp_meets_149 ?_
            refine lv_aload_n hx hb d_Sp_meets_152 rfl (lv_at hl 1 rfl) ?_
            refine va_get (D := D) (ci := 4) (v := .int b4.2.2.2) (C := R_Sp) (T := T_Sp) (N := 8) hx hb hts i_Sp hown hK hP 1 rfl rfl 3 (by decide) (hts _ w_50) (fun _ h9 => h9) rfl d_Sp_meets_153 ?_
            refine pz_i0 (pz_rS (d := 1) (As := [.int a4.2.2.1, .int a4.2.2.2, .int a4.1, .int a4.2.1, .int b4.2.2.1, .int b4.2.2.2]) (rest := []) X hN (c_Sp_sameWay l D cB cI cS a4.2.2.1 a4.2.2.2 a4.1 a4.2.1 b4.2.2.1 b4.2.2.2 _) k_Sp_sameWay w_315 ⟨by decide, by decide⟩ hK hP hD [] rfl rfl rfl hl.1 rfl (Nat.le_of_ble_eq_true rfl) d_Sp_meets_156 ⟨Nat.zero_le _, Nat.zero_le _⟩) hP hD hS hA [] rfl (fun H locs hP hS => ?_)
            exact fin _ _ _ _ _ _ d_Sp_meets_159 hP hS (by simp only [mts, mt1, mt2, mt3, mt4, mt5, if_pos c_1, if_neg c_2, if_neg c_3, if_pos c_4, if_pos c_11]) (rfl) (swy_z _ _ _ _ _ _)
      · refine lv_aload_n hx hb d_Sp_meets_71 rfl (lv_at hl 0 rfl) ?_
        refine va_get (D := D) (ci := 4) (v := .int a4.2.1) (C := R_Sp) (T := T_Sp) (N := 8) hx hb hts i_Sp hown hK hP 0 rfl rfl 1 (by decide) (hts _ w_48) (fun _ h9 => h9) rfl d_Sp_meets_72 ?_
        refine lv_aload_n hx hb d_Sp_meets_75 rfl (lv_at hl 1 rfl) ?_
        refine va_get (D := D) (ci := 4) (v := .int b4.2.2.2) (C := R_Sp) (T := T_Sp) (N := 8) hx hb hts i_Sp hown hK hP 1 rfl rfl 3 (by decide) (hts _ w_50) (fun _ h9 => h9) rfl d_Sp_meets_76 ?_
        refine lv_icmp_ne (tgt := 110) hx hb d_Sp_meets_79 (by decide) (fun c_18 => ?_) (fun c_18 => ?_)
        · refine lv_aload_n hx hb d_Sp_meets_110 rfl (lv_at hl 0 rfl) ?_
          refine va_get (D := D) (ci := 4) (v := .int a4.2.2.1) (C := R_Sp) (T := T_Sp) (N := 8) hx hb hts i_Sp hown hK hP 0 rfl rfl 2 (by decide) (hts _ w_49) (fun _ h9 => h9) rfl d_Sp_meets_111 ?_
          refine lv_aload_n hx hb d_Sp_meets_114 rfl (lv_at hl 1 rfl) ?_
          refine va_get (D := D) (ci := 4) (v := .int b4.1) (C := R_Sp) (T := T_Sp) (N := 8) hx hb hts i_Sp hown hK hP 1 rfl rfl 0 (by decide) (hts _ w_47) (fun _ h9 => h9) rfl d_Sp_meets_115 ?_
          refine lv_icmp_ne (tgt := 160) hx hb d_Sp_meets_118 (by decide) (fun c_19 => ?_) (fun c_19 => ?_)
          · refine lv_aload_n hx hb d_Sp_meets_160 rfl (lv_at hl 0 rfl) ?_
            refine va_get (D := D) (ci := 4) (v := .int a4.2.2.1) (C := R_Sp) (T := T_Sp) (N := 8) hx hb hts i_Sp hown hK hP 0 rfl rfl 2 (by decide) (hts _ w_49) (fun _ h9 => h9) rfl d_Sp_meets_161 ?_
            refine lv_aload_n hx hb d_Sp_meets_164 rfl (lv_at hl 1 rfl) ?_
            refine va_get (D := D) (ci := 4) (v := .int b4.2.2.1) (C := R_Sp) (T := T_Sp) (N := 8) hx hb hts i_Sp hown hK hP 1 rfl rfl 2 (by decide) (hts _ w_49) (fun _ h9 => h9) rfl d_Sp_meets_165 ?_
            refine lv_icmp_ne (tgt := 210) hx hb d_Sp_meets_168 (by decide) (fun c_20 => ?_) (fun c_20 => ?_)
            · refine lv_aload_n hx hb d_Sp_meets_210 rfl (lv_at hl 0 rfl) ?_
              refine lv_aload_n hx hb d_Sp_meets_211 rfl (lv_at hl 1 rfl) ?_
              refine pz_i0 (pz_rV (d := 2) (As := [.ref h1]) (rest := []) X hN (c_Sp_lineParts l D cB cI cS h0 h1 a4 b4 _) k_Sp_lineParts w_321 ⟨by decide, by decide⟩ hK hP hD [0, 1] rfl rfl 0 rfl rfl rfl rfl hl.1 rfl (Nat.le_of_ble_eq_true rfl) d_Sp_meets_212 ⟨Nat.zero_le _, Nat.zero_le _⟩) hP hD hS hA [0, 1] rfl (fun H locs hP hS => ?_)
              refine lv_if_eq (tgt := 230) hx hb d_Sp_meets_215 (by decide) (fun c_21 => ?_) (fun c_21 => ?_)
              · refine lv_iconst (v := 0) hx hb d_Sp_meets_230 (by decide) ?_
                exact fin _ _ _ _ _ _ d_Sp_meets_231 hP hS (by simp only [mts, mt1, mt2, mt3, mt4, mt5, if_pos c_1, if_neg c_2, if_pos c_3, if_neg c_18, if_neg c_19, if_neg c_20, if_pos c_21]) (rfl) rfl
              · refine lv_aload_n hx hb d_Sp_meets_218 rfl (lv_at hl 1 rfl) ?_
                refine lv_aload_n hx hb d_Sp_meets_219 rfl (lv_at hl 0 rfl) ?_
                refine pz_i0 (pz_rV (d := 2) (As := [.ref h0]) (rest := []) X hN (c_Sp_lineParts l D cB cI cS h1 h0 b4 a4 _) k_Sp_lineParts w_321 ⟨by decide, by decide⟩ hK hP hD [1, 0] rfl rfl 1 rfl rfl rfl rfl hl.1 rfl (Nat.le_of_ble_eq_true rfl) d_Sp_meets_220 ⟨Nat.zero_le _, Nat.zero_le _⟩) hP hD hS hA [1, 0] rfl (fun H locs hP hS => ?_)
                refine lv_if_eq (tgt := 230) hx hb d_Sp_meets_223 (by decide) (fun c_22 => ?_) (fun c_22 => ?_)
                · refine lv_iconst (v := 0) hx hb d_Sp_meets_230 (by decide) ?_
                  exact fin _ _ _ _ _ _ d_Sp_meets_231 hP hS (by simp only [mts, mt1, mt2, mt3, mt4, mt5, if_pos c_1, if_neg c_2, if_pos c_3, if_neg c_18, if_neg c_19, if_neg c_20, if_neg c_21, if_pos c_22]) (rfl) rfl
                · refine lv_iconst (v := 1) hx hb d_Sp_meets_226 (by decide) ?_
                  refine lv_goto (tgt := 231) hx hb d_Sp_meets_227 (by decide) ?_
                  exact fin _ _ _ _ _ _ d_Sp_meets_231 hP hS (by simp only [mts, mt1, mt2, mt3, mt4, mt5, if_pos c_1, if_neg c_2, if_pos c_3, if_neg c_18, if_neg c_19, if_neg c_20, if_neg c_21, if_neg c_22]) (rfl) rfl
            · refine lv_aload_n hx hb d_Sp_meets_171 rfl (lv_at hl 0 rfl) ?_
              refine va_get (D := D) (ci := 4) (v := .int a4.2.2.2) (C := R_Sp) (T := T_Sp) (N := 8) hx hb hts i_Sp hown hK hP 0 rfl rfl 3 (by decide) (hts _ w_50) (fun _ h9 => h9) rfl d_Sp_meets_172 ?_
              refine lv_aload_n hx hb d_Sp_meets_175 rfl (lv_at hl 1 rfl) ?_
              refine va_get (D := D) (ci := 4) (v := .int b4.2.2.2) (C := R_Sp) (T := T_Sp) (N := 8) hx hb hts i_Sp hown hK hP 1 rfl rfl 3 (by decide) (hts _ w_50) (fun _ h9 => h9) rfl d_Sp_meets_176 ?_
              refine lv_icmp_ne (tgt := 210) hx hb d_Sp_meets_179 (by decide) (fun c_23 => ?_) (fun c_23 => ?_)
              · refine lv_aload_n hx hb d_Sp_meets_210 rfl (lv_at hl 0 rfl) ?_
                refine lv_aload_n hx hb d_Sp_meets_211 rfl (lv_at hl 1 rfl) ?_
                refine pz_i0 (pz_rV (d := 2) (As := [.ref h1]) (rest := []) X hN (c_Sp_lineParts l D cB cI cS h0 h1 a4 b4 _) k_Sp_lineParts w_321 ⟨by decide, by decide⟩ hK hP hD [0, 1] rfl rfl 0 rfl rfl rfl rfl hl.1 rfl (Nat.le_of_ble_eq_true rfl) d_Sp_meets_212 ⟨Nat.zero_le _, Nat.zero_le _⟩) hP hD hS hA [0, 1] rfl (fun H locs hP hS => ?_)
                refine lv_if_eq (tgt := 230) hx hb d_Sp_meets_215 (by decide) (fun c_24 => ?_) (fun c_24 => ?_)
                · refine lv_iconst (v := 0) hx hb d_Sp_meets_230 (by decide) ?_
                  exact fin _ _ _ _ _ _ d_Sp_meets_231 hP hS (by simp only [mts, mt1, mt2, mt3, mt4, mt5, if_pos c_1, if_neg c_2, if_pos c_3, if_neg c_18, if_neg c_19, if_pos c_20, if_neg c_23, if_pos c_24]) (rfl) rfl
                · refine lv_aload_n hx hb d_Sp_meets_218 rfl (lv_at hl 1 rfl) ?_
                  refine lv_aload_n hx hb d_Sp_meets_219 rfl (lv_at hl 0 rfl) ?_
                  refine pz_i0 (pz_rV (d := 2) (As := [.ref h0]) (rest := []) X hN (c_Sp_lineParts l D cB cI cS h1 h0 b4 a4 _) k_Sp_lineParts w_321 ⟨by decide, by decide⟩ hK hP hD [1, 0] rfl rfl 1 rfl rfl rfl rfl hl.1 rfl (Nat.le_of_ble_eq_true rfl) d_Sp_meets_220 ⟨Nat.zero_le _, Nat.zero_le _⟩) hP hD hS hA [1, 0] rfl (fun H locs hP hS => ?_)
                  refine lv_if_eq (tgt := 230) hx hb d_Sp_meets_223 (by decide) (fun c_25 => ?_) (fun c_25 => ?_)
                  · refine lv_iconst (v := 0) hx hb d_Sp_meets_230 (by decide) ?_
                    exact fin _ _ _ _ _ _ d_Sp_meets_231 hP hS (by simp only [mts, mt1, mt2, mt3, mt4, mt5, if_pos c_1, if_neg c_2, if_pos c_3, if_neg c_18, if_neg c_19, if_pos c_20, if_neg c_23, if_neg c_24, if_pos c_25]) (rfl) rfl
                  · refine lv_iconst (v := 1) hx hb d_Sp_meets_226 (by decide) ?_
                    refine lv_goto (tgt := 231) hx hb d_Sp_meets_227 (by decide) ?_
                    exact fin _ _ _ _ _ _ d_Sp_meets_231 hP hS (by simp only [mts, mt1, mt2, mt3, mt4, mt5, if_pos c_1, if_neg c_2, if_pos c_3, if_neg c_18, if_neg c_19, if_pos c_20, if_neg c_23, if_neg c_24, if_neg c_25]) (rfl) rfl
              · refine lv_aload_n hx hb d_Sp_meets_182 rfl (lv_at hl 0 rfl) ?_
                refine va_get (D := D) (ci := 4) (v := .int a4.2.2.1) (C := R_Sp) (T := T_Sp) (N := 8) hx hb hts i_Sp hown hK hP 0 rfl rfl 2 (by decide) (hts _ w_49) (fun _ h9 => h9) rfl d_Sp_meets_183 ?_
                refine lv_aload_n hx hb d_Sp_meets_186 rfl (lv_at hl 0 rfl) ?_
                refine va_get (D := D) (ci := 4) (v := .int a4.2.2.2) (C := R_Sp) (T := T_Sp) (N := 8) hx hb hts i_Sp hown hK hP 0 rfl rfl 3 (by decide) (hts _ w_50) (fun _ h9 => h9) rfl d_Sp_meets_187 ?_
                refine lv_aload_n hx hb d_Sp_meets_190 rfl (lv_at hl 0 rfl) ?_
                refine va_get (D := D) (ci := 4) (v := .int a4.1) (C := R_Sp) (T := T_Sp) (N := 8) hx hb hts i_Sp hown hK hP 0 rfl rfl 0 (by decide) (hts _ w_47) (fun _ h9 => h9) rfl d_Sp_meets_191 ?_
                refine lv_aload_n hx hb d_Sp_meets_194 rfl (lv_at hl 0 rfl) ?_
                refine va_get (D := D) (ci := 4) (v := .int a4.2.1) (C := R_Sp) (T := T_Sp) (N := 8) hx hb hts i_Sp hown hK hP 0 rfl rfl 1 (by decide) (hts _ w_48) (fun _ h9 => h9) rfl d_Sp_meets_195 ?_
                refine lv_aload_n hx hb d_Sp_meets_198 rfl (lv_at hl 1 rfl) ?_
                refine va_get (D := D) (ci := 4) (v := .int b4.1) (C := R_Sp) (T := T_Sp) (N := 8) hx hb hts i_Sp hown hK hP 1 rfl rfl 0 (by decide) (hts _ w_47) (fun _ h9 => h9) rfl d_Sp_meets_199 ?_
                refine lv_aload_n hx hb d_Sp_meets_202 rfl (lv_at hl 1 rfl) ?_
                refine va_get (D := D) (ci := 4) (v := .int b4.2.1) (C := R_Sp) (T := T_Sp) (N := 8) hx hb hts i_Sp hown hK hP 1 rfl rfl 1 (by decide) (hts _ w_48) (fun _ h9 => h9) rfl d_Sp_meets_203 ?_
                refine pz_i0 (pz_rS (d := 1) (As := [.int a4.2.2.1, .int a4.2.2.2, .int a4.1, .int a4.2.1, .int b4.1, .int b4.2.1]) (rest := []) X hN (c_Sp_sameWay l D cB cI cS a4.2.2.1 a4.2.2.2 a4.1 a4.2.1 b4.1 b4.2.1 _) k_Sp_sameWay w_315 ⟨by decide, by decide⟩ hK hP hD [] rfl rfl rfl hl.1 rfl (Nat.le_of_ble_eq_true rfl) d_Sp_meets_206 ⟨Nat.zero_le _, Nat.zero_le _⟩) hP hD hS hA [] rfl (fun H locs hP hS => ?_)
                exact fin _ _ _ _ _ _ d_Sp_meets_209 hP hS (by simp only [mts, mt1, mt2, mt3, mt4, mt5, if_pos c_1, if_neg c_2, if_pos c_3, if_neg c_18, if_neg c_19, if_pos c_20, if_pos c_23]) (rfl) (swy_z _ _ _ _ _ _)
          · refine lv_aload_n hx hb d_Sp_meets_121 rfl (lv_at hl 0 rfl) ?_
            refine va_get (D := D) (ci := 4) (v := .int a4.2.2.2) (C := R_Sp) (T := T_Sp) (N := 8) hx hb hts i_Sp hown hK hP 0 rfl rfl 3 (by decide) (hts _ w_50) (fun _ h9 => h9) rfl d_Sp_meets_122 ?_
            refine lv_aload_n hx hb d_Sp_meets_125 rfl (lv_at hl 1 rfl) ?_
            refine va_get (D := D) (ci := 4) (v := .int b4.2.1) (C := R_Sp) (T := T_Sp) (N := 8) hx hb hts i_Sp hown hK hP 1 rfl rfl 1 (by decide) (hts _ w_48) (fun _ h9 => h9) rfl d_Sp_meets_126 ?_
            refine lv_icmp_ne (tgt := 160) hx hb d_Sp_meets_129 (by decide) (fun c_26 => ?_) (fun c_26 => ?_)
            · refine lv_aload_n hx hb d_Sp_meets_160 rfl (lv_at hl 0 rfl) ?_
              refine va_get (D := D) (ci := 4) (v := .int a4.2.2.1) (C := R_Sp) (T := T_Sp) (N := 8) hx hb hts i_Sp hown hK hP 0 rfl rfl 2 (by decide) (hts _ w_49) (fun _ h9 => h9) rfl d_Sp_meets_161 ?_
              refine lv_aload_n hx hb d_Sp_meets_164 rfl (lv_at hl 1 rfl) ?_
              refine va_get (D := D) (ci := 4) (v := .int b4.2.2.1) (C := R_Sp) (T := T_Sp) (N := 8) hx hb hts i_Sp hown hK hP 1 rfl rfl 2 (by decide) (hts _ w_49) (fun _ h9 => h9) rfl d_Sp_meets_165 ?_
              refine lv_icmp_ne (tgt := 210) hx hb d_Sp_meets_168 (by decide) (fun c_27 => ?_) (fun c_27 => ?_)
              · refine lv_aload_n hx hb d_Sp_meets_210 rfl (lv_at hl 0 rfl) ?_
                refine lv_aload_n hx hb d_Sp_meets_211 rfl (lv_at hl 1 rfl) ?_
                refine pz_i0 (pz_rV (d := 2) (As := [.ref h1]) (rest := []) X hN (c_Sp_lineParts l D cB cI cS h0 h1 a4 b4 _) k_Sp_lineParts w_321 ⟨by decide, by decide⟩ hK hP hD [0, 1] rfl rfl 0 rfl rfl rfl rfl hl.1 rfl (Nat.le_of_ble_eq_true rfl) d_Sp_meets_212 ⟨Nat.zero_le _, Nat.zero_le _⟩) hP hD hS hA [0, 1] rfl (fun H locs hP hS => ?_)
                refine lv_if_eq (tgt := 230) hx hb d_Sp_meets_215 (by decide) (fun c_28 => ?_) (fun c_28 => ?_)
                · refine lv_iconst (v := 0) hx hb d_Sp_meets_230 (by decide) ?_
                  exact fin _ _ _ _ _ _ d_Sp_meets_231 hP hS (by simp only [mts, mt1, mt2, mt3, mt4, mt5, if_pos c_1, if_neg c_2, if_pos c_3, if_neg c_18, if_pos c_19, if_neg c_26, if_neg c_27, if_pos c_28]) (rfl) rfl
                · refine lv_aload_n hx hb d_Sp_meets_218 rfl (lv_at hl 1 rfl) ?_
                  refine lv_aload_n hx hb d_Sp_meets_219 rfl (lv_at hl 0 rfl) ?_
                  refine pz_i0 (pz_rV (d := 2) (As := [.ref h0]) (rest := []) X hN (c_Sp_lineParts l D cB cI cS h1 h0 b4 a4 _) k_Sp_lineParts w_321 ⟨by decide, by decide⟩ hK hP hD [1, 0] rfl rfl 1 rfl rfl rfl rfl hl.1 rfl (Nat.le_of_ble_eq_true rfl) d_Sp_meets_220 ⟨Nat.zero_le _, Nat.zero_le _⟩) hP hD hS hA [1, 0] rfl (fun H locs hP hS => ?_)
                  refine lv_if_eq (tgt := 230) hx hb d_Sp_meets_223 (by decide) (fun c_29 => ?_) (fun c_29 => ?_)
                  · refine lv_iconst (v := 0) hx hb d_Sp_meets_230 (by decide) ?_
                    exact fin _ _ _ _ _ _ d_Sp_meets_231 hP hS (by simp only [mts, mt1, mt2, mt3, mt4, mt5, if_pos c_1, if_neg c_2, if_pos c_3, if_neg c_18, if_pos c_19, if_neg c_26, if_neg c_27, if_neg c_28, if_pos c_29]) (rfl) rfl
                  · refine lv_iconst (v := 1) hx hb d_Sp_meets_226 (by decide) ?_
                    refine lv_goto (tgt := 231) hx hb d_Sp_meets_227 (by decide) ?_
                    exact fin _ _ _ _ _ _ d_Sp_meets_231 hP hS (by simp only [mts, mt1, mt2, mt3, mt4, mt5, if_pos c_1, if_neg c_2, if_pos c_3, if_neg c_18, if_pos c_19, if_neg c_26, if_neg c_27, if_neg c_28, if_neg c_29]) (rfl) rfl
              · refine lv_aload_n hx hb d_Sp_meets_171 rfl (lv_at hl 0 rfl) ?_
                refine va_get (D := D) (ci := 4) (v := .int a4.2.2.2) (C := R_Sp) (T := T_Sp) (N := 8) hx hb hts i_Sp hown hK hP 0 rfl rfl 3 (by decide) (hts _ w_50) (fun _ h9 => h9) rfl d_Sp_meets_172 ?_
                refine lv_aload_n hx hb d_Sp_meets_175 rfl (lv_at hl 1 rfl) ?_
                refine va_get (D := D) (ci := 4) (v := .int b4.2.2.2) (C := R_Sp) (T := T_Sp) (N := 8) hx hb hts i_Sp hown hK hP 1 rfl rfl 3 (by decide) (hts _ w_50) (fun _ h9 => h9) rfl d_Sp_meets_176 ?_
                refine lv_icmp_ne (tgt := 210) hx hb d_Sp_meets_179 (by decide) (fun c_30 => ?_) (fun c_30 => ?_)
                · refine lv_aload_n hx hb d_Sp_meets_210 rfl (lv_at hl 0 rfl) ?_
                  refine lv_aload_n hx hb d_Sp_meets_211 rfl (lv_at hl 1 rfl) ?_
                  refine pz_i0 (pz_rV (d := 2) (As := [.ref h1]) (rest := []) X hN (c_Sp_lineParts l D cB cI cS h0 h1 a4 b4 _) k_Sp_lineParts w_321 ⟨by decide, by decide⟩ hK hP hD [0, 1] rfl rfl 0 rfl rfl rfl rfl hl.1 rfl (Nat.le_of_ble_eq_true rfl) d_Sp_meets_212 ⟨Nat.zero_le _, Nat.zero_le _⟩) hP hD hS hA [0, 1] rfl (fun H locs hP hS => ?_)
                  refine lv_if_eq (tgt := 230) hx hb d_Sp_meets_215 (by decide) (fun c_31 => ?_) (fun c_31 => ?_)
                  · refine lv_iconst (v := 0) hx hb d_Sp_meets_230 (by decide) ?_
                    exact fin _ _ _ _ _ _ d_Sp_meets_231 hP hS (by simp only [mts, mt1, mt2, mt3, mt4, mt5, if_pos c_1, if_neg c_2, if_pos c_3, if_neg c_18, if_pos c_19, if_neg c_26, if_pos c_27, if_neg c_30, if_pos c_31]) (rfl) rfl
                  · refine lv_aload_n hx hb d_Sp_meets_218 rfl (lv_at hl 1 rfl) ?_
                    refine lv_aload_n hx hb d_Sp_meets_219 rfl (lv_at hl 0 rfl) ?_
                    refine pz_i0 (pz_rV (d := 2) (As := [.ref h0]) (rest := []) X hN (c_Sp_lineParts l D cB cI cS h1 h0 b4 a4 _) k_Sp_lineParts w_321 ⟨by decide, by decide⟩ hK hP hD [1, 0] rfl rfl 1 rfl rfl rfl rfl hl.1 rfl (Nat.le_of_ble_eq_true rfl) d_Sp_meets_220 ⟨Nat.zero_le _, Nat.zero_le _⟩) hP hD hS hA [1, 0] rfl (fun H locs hP hS => ?_)
                    refine lv_if_eq (tgt := 230) hx hb d_Sp_meets_223 (by decide) (fun c_32 => ?_) (fun c_32 => ?_)
                    · refine lv_iconst (v := 0) hx hb d_Sp_meets_230 (by decide) ?_
                      exact fin _ _ _ _ _ _ d_Sp_meets_231 hP hS (by simp only [mts, mt1, mt2, mt3, mt4, mt5, if_pos c_1, if_neg c_2, if_pos c_3, if_neg c_18, if_pos c_19, if_neg c_26, if_pos c_27, if_neg c_30, if_neg c_31, if_pos c_32]) (rfl) rfl
                    · refine lv_iconst (v := 1) hx hb d_Sp_meets_226 (by decide) ?_
                      refine lv_goto (tgt := 231) hx hb d_Sp_meets_227 (by decide) ?_
                      exact fin _ _ _ _ _ _ d_Sp_meets_231 hP hS (by simp only [mts, mt1, mt2, mt3, mt4, mt5, if_pos c_1, if_neg c_2, if_pos c_3, if_neg c_18, if_pos c_19, if_neg c_26, if_pos c_27, if_neg c_30, if_neg c_31, if_neg c_32]) (rfl) rfl
                · refine lv_aload_n hx hb d_Sp_meets_182 rfl (lv_at hl 0 rfl) ?_
                  refine va_get (D := D) (ci := 4) (v := .int a4.2.2.1) (C := R_Sp) (T := T_Sp) (N := 8) hx hb hts i_Sp hown hK hP 0 rfl rfl 2 (by decide) (hts _ w_49) (fun _ h9 => h9) rfl d_Sp_meets_183 ?_
                  refine lv_aload_n hx hb d_Sp_meets_186 rfl (lv_at hl 0 rfl) ?_
                  refine va_get (D := D) (ci := 4) (v := .int a4.2.2.2) (C := R_Sp) (T := T_Sp) (N := 8) hx hb hts i_Sp hown hK hP 0 rfl rfl 3 (by decide) (hts _ w_50) (fun _ h9 => h9) rfl d_Sp_meets_187 ?_
                  refine lv_aload_n hx hb d_Sp_meets_190 rfl (lv_at hl 0 rfl) ?_
                  refine va_get (D := D) (ci := 4) (v := .int a4.1) (C := R_Sp) (T := T_Sp) (N := 8) hx hb hts i_Sp hown hK hP 0 rfl rfl 0 (by decide) (hts _ w_47) (fun _ h9 => h9) rfl d_Sp_meets_191 ?_
                  refine lv_aload_n hx hb d_Sp_meets_194 rfl (lv_at hl 0 rfl) ?_
                  refine va_get (D := D) (ci := 4) (v := .int a4.2.1) (C := R_Sp) (T := T_Sp) (N := 8) hx hb hts i_Sp hown hK hP 0 rfl rfl 1 (by decide) (hts _ w_48) (fun _ h9 => h9) rfl d_Sp_meets_195 ?_
                  refine lv_aload_n hx hb d_Sp_meets_198 rfl (lv_at hl 1 rfl) ?_
                  refine va_get (D := D) (ci := 4) (v := .int b4.1) (C := R_Sp) (T := T_Sp) (N := 8) hx hb hts i_Sp hown hK hP 1 rfl rfl 0 (by decide) (hts _ w_47) (fun _ h9 => h9) rfl d_Sp_meets_199 ?_
                  refine lv_aload_n hx hb d_Sp_meets_202 rfl (lv_at hl 1 rfl) ?_
                  refine va_get (D := D) (ci := 4) (v := .int b4.2.1) (C := R_Sp) (T := T_Sp) (N := 8) hx hb hts i_Sp hown hK hP 1 rfl rfl 1 (by decide) (hts _ w_48) (fun _ h9 => h9) rfl d_Sp_meets_203 ?_
                  refine pz_i0 (pz_rS (d := 1) (As := [.int a4.2.2.1, .int a4.2.2.2, .int a4.1, .int a4.2.1, .int b4.1, .int b4.2.1]) (rest := []) X hN (c_Sp_sameWay l D cB cI cS a4.2.2.1 a4.2.2.2 a4.1 a4.2.1 b4.1 b4.2.1 _) k_Sp_sameWay w_315 ⟨by decide, by decide⟩ hK hP hD [] rfl rfl rfl hl.1 rfl (Nat.le_of_ble_eq_true rfl) d_Sp_meets_206 ⟨Nat.zero_le _, Nat.zero_le _⟩) hP hD hS hA [] rfl (fun H locs hP hS => ?_)
                  exact fin _ _ _ _ _ _ d_Sp_meets_209 hP hS (by simp only [mts, mt1, mt2, mt3, mt4, mt5, if_pos c_1, if_neg c_2, if_pos c_3, if_neg c_18, if_pos c_19, if_neg c_26, if_pos c_27, if_pos c_30]) (rfl) (swy_z _ _ _ _ _ _)
            · refine lv_aload_n hx hb d_Sp_meets_132 rfl (lv_at hl 0 rfl) ?_
              refine va_get (D := D) (ci := 4) (v := .int a4.2.2.1) (C := R_Sp) (T := T_Sp) (N := 8) hx hb hts i_Sp hown hK hP 0 rfl rfl 2 (by decide) (hts _ w_49) (fun _ h9 => h9) rfl d_Sp_meets_133 ?_
              refine lv_aload_n hx hb d_Sp_meets_136 rfl (lv_at hl 0 rfl) ?_
              refine va_get (D := D) (ci := 4) (v := .int a4.2.2.2) (C := R_Sp) (T := T_Sp) (N := 8) hx hb hts i_Sp hown hK hP 0 rfl rfl 3 (by decide) (hts _ w_50) (fun _ h9 => h9) rfl d_Sp_meets_137 ?_
              refine lv_aload_n hx hb d_Sp_meets_140 rfl (lv_at hl 0 rfl) ?_
              refine va_get (D := D) (ci := 4) (v := .int a4.1) (C := R_Sp) (T := T_Sp) (N := 8) hx hb hts i_Sp hown hK hP 0 rfl rfl 0 (by decide) (hts _ w_47) (fun _ h9 => h9) rfl d_Sp_meets_141 ?_
              refine lv_aload_n hx hb d_Sp_meets_144 rfl (lv_at hl 0 rfl) ?_
              refine va_get (D := D) (ci := 4) (v := .int a4.2.1) (C := R_Sp) (T := T_Sp) (N := 8) hx hb hts i_Sp hown hK hP 0 rfl rfl 1 (by decide) (hts _ w_48) (fun _ h9 => h9) rfl d_Sp_meets_145 ?_
              refine lv_aload_n hx hb d_Sp_meets_148 rfl (lv_at hl 1 rfl) ?_
              refine va_get (D := D) (ci := 4) (v := .int b4.2.2.1) (C := R_Sp) (T := T_Sp) (N := 8) hx hb hts i_Sp hown hK hP 1 rfl rfl 2 (by decide) (hts _ w_49) (fun _ h9 => h9) rfl d_Sp_meets_149 ?_
              refine lv_aload_n hx hb d_Sp_meets_152 rfl (lv_at hl 1 rfl) ?_
              refine va_get (D := D) (ci := 4) (v := .int b4.2.2.2) (C := R_Sp) (T := T_Sp) (N := 8) hx hb hts i_Sp hown hK hP 1 rfl rfl 3 (by decide) (hts _ w_50) (fun _ h9 => h9) rfl d_Sp_meets_153 ?_
              refine pz_i0 (pz_rS (d := 1) (As := [.int a4.2.2.1, .int a4.2.2.2, .int a4.1, .int a4.2.1, .int b4.2.2.1, .int b4.2.2.2]) (rest := []) X hN (c_Sp_sameWay l D cB cI cS a4.2.2.1 a4.2.2.2 a4.1 a4.2.1 b4.2.2.1 b4.2.2.2 _) k_Sp_sameWay w_315 ⟨by decide, by decide⟩ hK hP hD [] rfl rfl rfl hl.1 rfl (Nat.le_of_ble_eq_true rfl) d_Sp_meets_156 ⟨Nat.zero_le _, Nat.zero_le _⟩) hP hD hS hA [] rfl (fun H locs hP hS => ?_)
              exact fin _ _ _ _ _ _ d_Sp_meets_159 hP hS (by simp only [mts, mt1, mt2, mt3, mt4, mt5, if_pos c_1, if_neg c_2, if_pos c_3, if_neg c_18, if_pos c_19, if_pos c_26]) (rfl) (swy_z _ _ _ _ _ _)
        · refine lv_aload_n hx hb d_Sp_meets_82 rfl (lv_at hl 0 rfl) ?_
          refine va_get (D := D) (ci := 4) (v := .int a4.1) (C := R_Sp) (T := T_Sp) (N := 8) hx hb hts i_Sp hown hK hP 0 rfl rfl 0 (by decide) (hts _ w_47) (fun _ h9 => h9) rfl d_Sp_meets_83 ?_
          refine lv_aload_n hx hb d_Sp_meets_86 rfl (lv_at hl 0 rfl) ?_
          refine va_get (D := D) (ci := 4) (v := .int a4.2.1) (C := R_Sp) (T := T_Sp) (N := 8) hx hb hts i_Sp hown hK hP 0 rfl rfl 1 (by decide) (hts _ w_48) (fun _ h9 => h9) rfl d_Sp_meets_87 ?_
          refine lv_aload_n hx hb d_Sp_meets_90 rfl (lv_at hl 0 rfl) ?_
          refine va_get (D := D) (ci := 4) (v := .int a4.2.2.1) (C := R_Sp) (T := T_Sp) (N := 8) hx hb hts i_Sp hown hK hP 0 rfl rfl 2 (by decide) (hts _ w_49) (fun _ h9 => h9) rfl d_Sp_meets_91 ?_
          refine lv_aload_n hx hb d_Sp_meets_94 rfl (lv_at hl 0 rfl) ?_
          refine va_get (D := D) (ci := 4) (v := .int a4.2.2.2) (C := R_Sp) (T := T_Sp) (N := 8) hx hb hts i_Sp hown hK hP 0 rfl rfl 3 (by decide) (hts _ w_50) (fun _ h9 => h9) rfl d_Sp_meets_95 ?_
          refine lv_aload_n hx hb d_Sp_meets_98 rfl (lv_at hl 1 rfl) ?_
          refine va_get (D := D) (ci := 4) (v := .int b4.1) (C := R_Sp) (T := T_Sp) (N := 8) hx hb hts i_Sp hown hK hP 1 rfl rfl 0 (by decide) (hts _ w_47) (fun _ h9 => h9) rfl d_Sp_meets_99 ?_
          refine lv_aload_n hx hb d_Sp_meets_102 rfl (lv_at hl 1 rfl) ?_
          refine va_get (D := D) (ci := 4) (v := .int b4.2.1) (C := R_Sp) (T := T_Sp) (N := 8) hx hb hts i_Sp hown hK hP 1 rfl rfl 1 (by decide) (hts _ w_48) (fun _ h9 => h9) rfl d_Sp_meets_103 ?_
          refine pz_i0 (pz_rS (d := 1) (As := [.int a4.1, .int a4.2.1, .int a4.2.2.1, .int a4.2.2.2, .int b4.1, .int b4.2.1]) (rest := []) X hN (c_Sp_sameWay l D cB cI cS a4.1 a4.2.1 a4.2.2.1 a4.2.2.2 b4.1 b4.2.1 _) k_Sp_sameWay w_315 ⟨by decide, by decide⟩ hK hP hD [] rfl rfl rfl hl.1 rfl (Nat.le_of_ble_eq_true rfl) d_Sp_meets_106 ⟨Nat.zero_le _, Nat.zero_le _⟩) hP hD hS hA [] rfl (fun H locs hP hS => ?_)
          exact fin _ _ _ _ _ _ d_Sp_meets_109 hP hS (by simp only [mts, mt1, mt2, mt3, mt4, mt5, if_pos c_1, if_neg c_2, if_pos c_3, if_pos c_18]) (rfl) (swy_z _ _ _ _ _ _)
    · refine lv_aload_n hx hb d_Sp_meets_21 rfl (lv_at hl 0 rfl) ?_
      refine va_get (D := D) (ci := 4) (v := .int a4.2.1) (C := R_Sp) (T := T_Sp) (N := 8) hx hb hts i_Sp hown hK hP 0 rfl rfl 1 (by decide) (hts _ w_48) (fun _ h9 => h9) rfl d_Sp_meets_22 ?_
      refine lv_aload_n hx hb d_Sp_meets_25 rfl (lv_at hl 1 rfl) ?_
      refine va_get (D := D) (ci := 4) (v := .int b4.2.1) (C := R_Sp) (T := T_Sp) (N := 8) hx hb hts i_Sp hown hK hP 1 rfl rfl 1 (by decide) (hts _ w_48) (fun _ h9 => h9) rfl d_Sp_meets_26 ?_
      refine lv_icmp_ne (tgt := 60) hx hb d_Sp_meets_29 (by decide) (fun c_33 => ?_) (fun c_33 => ?_)
      · refine lv_aload_n hx hb d_Sp_meets_60 rfl (lv_at hl 0 rfl) ?_
        refine va_get (D := D) (ci := 4) (v := .int a4.1) (C := R_Sp) (T := T_Sp) (N := 8) hx hb hts i_Sp hown hK hP 0 rfl rfl 0 (by decide) (hts _ w_47) (fun _ h9 => h9) rfl d_Sp_meets_61 ?_
        refine lv_aload_n hx hb d_Sp_meets_64 rfl (lv_at hl 1 rfl) ?_
        refine va_get (D := D) (ci := 4) (v := .int b4.2.2.1) (C := R_Sp) (T := T_Sp) (N := 8) hx hb hts i_Sp hown hK hP 1 rfl rfl 2 (by decide) (hts _ w_49) (fun _ h9 => h9) rfl d_Sp_meets_65 ?_
        refine lv_icmp_ne (tgt := 110) hx hb d_Sp_meets_68 (by decide) (fun c_34 => ?_) (fun c_34 => ?_)
        · refine lv_aload_n hx hb d_Sp_meets_110 rfl (lv_at hl 0 rfl) ?_
          refine va_get (D := D) (ci := 4) (v := .int a4.2.2.1) (C := R_Sp) (T := T_Sp) (N := 8) hx hb hts i_Sp hown hK hP 0 rfl rfl 2 (by decide) (hts _ w_49) (fun _ h9 => h9) rfl d_Sp_meets_111 ?_
          refine lv_aload_n hx hb d_Sp_meets_114 rfl (lv_at hl 1 rfl) ?_
          refine va_get (D := D) (ci := 4) (v := .int b4.1) (C := R_Sp) (T := T_Sp) (N := 8) hx hb hts i_Sp hown hK hP 1 rfl rfl 0 (by decide) (hts _ w_47) (fun _ h9 => h9) rfl d_Sp_meets_115 ?_
          refine lv_icmp_ne (tgt := 160) hx hb d_Sp_meets_118 (by decide) (fun c_35 => ?_) (fun c_35 => ?_)
          · refine lv_aload_n hx hb d_Sp_meets_160 rfl (lv_at hl 0 rfl) ?_
            refine va_get (D := D) (ci := 4) (v := .int a4.2.2.1) (C := R_Sp) (T := T_Sp) (N := 8) hx hb hts i_Sp hown hK hP 0 rfl rfl 2 (by decide) (hts _ w_49) (fun _ h9 => h9) rfl d_Sp_meets_161 ?_
            refine lv_aload_n hx hb d_Sp_meets_164 rfl (lv_at hl 1 rfl) ?_
            refine va_get (D := D) (ci := 4) (v := .int b4.2.2.1) (C := R_Sp) (T := T_Sp) (N := 8) hx hb hts i_Sp hown hK hP 1 rfl rfl 2 (by decide) (hts _ w_49) (fun _ h9 => h9) rfl d_Sp_meets_165 ?_
            refine lv_icmp_ne (tgt := 210) hx hb d_Sp_meets_168 (by decide) (fun c_36 => ?_) (fun c_36 => ?_)
            · refine lv_aload_n hx hb d_Sp_meets_210 rfl (lv_at hl 0 rfl) ?_
              refine lv_aload_n hx hb d_Sp_meets_211 rfl (lv_at hl 1 rfl) ?_
              refine pz_i0 (pz_rV (d := 2) (As := [.ref h1]) (rest := []) X hN (c_Sp_lineParts l D cB cI cS h0 h1 a4 b4 _) k_Sp_lineParts w_321 ⟨by decide, by decide⟩ hK hP hD [0, 1] rfl rfl 0 rfl rfl rfl rfl hl.1 rfl (Nat.le_of_ble_eq_true rfl) d_Sp_meets_212 ⟨Nat.zero_le _, Nat.zero_le _⟩) hP hD hS hA [0, 1] rfl (fun H locs hP hS => ?_)
              refine lv_if_eq (tgt := 230) hx hb d_Sp_meets_215 (by decide) (fun c_37 => ?_) (fun c_37 => ?_)
              · refine lv_iconst (v := 0) hx hb d_Sp_meets_230 (by decide) ?_
                exact fin _ _ _ _ _ _ d_Sp_meets_231 hP hS (by simp only [mts, mt1, mt2, mt3, mt4, mt5, if_pos c_1, if_pos c_2, if_neg c_33, if_neg c_34, if_neg c_35, if_neg c_36, if_pos c_37]) (rfl) rfl
              · refine lv_aload_n hx hb d_Sp_meets_218 rfl (lv_at hl 1 rfl) ?_
                refine lv_aload_n hx hb d_Sp_meets_219 rfl (lv_at hl 0 rfl) ?_
                refine pz_i0 (pz_rV (d := 2) (As := [.ref h0]) (rest := []) X hN (c_Sp_lineParts l D cB cI cS h1 h0 b4 a4 _) k_Sp_lineParts w_321 ⟨by decide, by decide⟩ hK hP hD [1, 0] rfl rfl 1 rfl rfl rfl rfl hl.1 rfl (Nat.le_of_ble_eq_true rfl) d_Sp_meets_220 ⟨Nat.zero_le _, Nat.zero_le _⟩) hP hD hS hA [1, 0] rfl (fun H locs hP hS => ?_)
                refine lv_if_eq (tgt := 230) hx hb d_Sp_meets_223 (by decide) (fun c_38 => ?_) (fun c_38 => ?_)
                · refine lv_iconst (v := 0) hx hb d_Sp_meets_230 (by decide) ?_
                  exact fin _ _ _ _ _ _ d_Sp_meets_231 hP hS (by simp only [mts, mt1, mt2, mt3, mt4, mt5, if_pos c_1, if_pos c_2, if_neg c_33, if_neg c_34, if_neg c_35, if_neg c_36, if_neg c_37, if_pos c_38]) (rfl) rfl
                · refine lv_iconst (v := 1) hx hb d_Sp_meets_226 (by decide) ?_
                  refine lv_goto (tgt := 231) hx hb d_Sp_meets_227 (by decide) ?_
                  exact fin _ _ _ _ _ _ d_Sp_meets_231 hP hS (by simp only [mts, mt1, mt2, mt3, mt4, mt5, if_pos c_1, if_pos c_2, if_neg c_33, if_neg c_34, if_neg c_35, if_neg c_36, if_neg c_37, if_neg c_38]) (rfl) rfl
            · refine lv_aload_n hx hb d_Sp_meets_171 rfl (lv_at hl 0 rfl) ?_
              refine va_get (D := D) (ci := 4) (v := .int a4.2.2.2) (C := R_Sp) (T := T_Sp) (N := 8) hx hb hts i_Sp hown hK hP 0 rfl rfl 3 (by decide) (hts _ w_50) (fun _ h9 => h9) rfl d_Sp_meets_172 ?_
              refine lv_aload_n hx hb d_Sp_meets_175 rfl (lv_at hl 1 rfl) ?_
              refine va_get (D := D) (ci := 4) (v := .int b4.2.2.2) (C := R_Sp) (T := T_Sp) (N := 8) hx hb hts i_Sp hown hK hP 1 rfl rfl 3 (by decide) (hts _ w_50) (fun _ h9 => h9) rfl d_Sp_meets_176 ?_
              refine lv_icmp_ne (tgt := 210) hx hb d_Sp_meets_179 (by decide) (fun c_39 => ?_) (fun c_39 => ?_)
              · refine lv_aload_n hx hb d_Sp_meets_210 rfl (lv_at hl 0 rfl) ?_
                refine lv_aload_n hx hb d_Sp_meets_211 rfl (lv_at hl 1 rfl) ?_
                refine pz_i0 (pz_rV (d := 2) (As := [.ref h1]) (rest := []) X hN (c_Sp_lineParts l D cB cI cS h0 h1 a4 b4 _) k_Sp_lineParts w_321 ⟨by decide, by decide⟩ hK hP hD [0, 1] rfl rfl 0 rfl rfl rfl rfl hl.1 rfl (Nat.le_of_ble_eq_true rfl) d_Sp_meets_212 ⟨Nat.zero_le _, Nat.zero_le _⟩) hP hD hS hA [0, 1] rfl (fun H locs hP hS => ?_)
                refine lv_if_eq (tgt := 230) hx hb d_Sp_meets_215 (by decide) (fun c_40 => ?_) (fun c_40 => ?_)
                · refine lv_iconst (v := 0) hx hb d_Sp_meets_230 (by decide) ?_
                  exact fin _ _ _ _ _ _ d_Sp_meets_231 hP hS (by simp only [mts, mt1, mt2, mt3, mt4, mt5, if_pos c_1, if_pos c_2, if_neg c_33, if_neg c_34, if_neg c_35, if_pos c_36, if_neg c_39, if_pos c_40]) (rfl) rfl
                · refine lv_aload_n hx hb d_Sp_meets_218 rfl (lv_at hl 1 rfl) ?_
                  refine lv_aload_n hx hb d_Sp_meets_219 rfl (lv_at hl 0 rfl) ?_
                  refine pz_i0 (pz_rV (d := 2) (As := [.ref h0]) (rest := []) X hN (c_Sp_lineParts l D cB cI cS h1 h0 b4 a4 _) k_Sp_lineParts w_321 ⟨by decide, by decide⟩ hK hP hD [1, 0] rfl rfl 1 rfl rfl rfl rfl hl.1 rfl (Nat.le_of_ble_eq_true rfl) d_Sp_meets_220 ⟨Nat.zero_le _, Nat.zero_le _⟩) hP hD hS hA [1, 0] rfl (fun H locs hP hS => ?_)
                  refine lv_if_eq (tgt := 230) hx hb d_Sp_meets_223 (by decide) (fun c_41 => ?_) (fun c_41 => ?_)
                  · refine lv_iconst (v := 0) hx hb d_Sp_meets_230 (by decide) ?_
                    exact fin _ _ _ _ _ _ d_Sp_meets_231 hP hS (by simp only [mts, mt1, mt2, mt3, mt4, mt5, if_pos c_1, if_pos c_2, if_neg c_33, if_neg c_34, if_neg c_35, if_pos c_36, if_neg c_39, if_neg c_40, if_pos c_41]) (rfl) rfl
                  · refine lv_iconst (v := 1) hx hb d_Sp_meets_226 (by decide) ?_
                    refine lv_goto (tgt := 231) hx hb d_Sp_meets_227 (by decide) ?_
                    exact fin _ _ _ _ _ _ d_Sp_meets_231 hP hS (by simp only [mts, mt1, mt2, mt3, mt4, mt5, if_pos c_1, if_pos c_2, if_neg c_33, if_neg c_34, if_neg c_35, if_pos c_36, if_neg c_39, if_neg c_40, if_neg c_41]) (rfl) rfl
              · refine lv_aload_n hx hb d_Sp_meets_182 rfl (lv_at hl 0 rfl) ?_
                refine va_get (D := D) (ci := 4) (v := .int a4.2.2.1) (C := R_Sp) (T := T_Sp) (N := 8) hx hb hts i_Sp hown hK hP 0 rfl rfl 2 (by decide) (hts _ w_49) (fun _ h9 => h9) rfl d_Sp_meets_183 ?_
                refine lv_aload_n hx hb d_Sp_meets_186 rfl (lv_at hl 0 rfl) ?_
                refine va_get (D := D) (ci := 4) (v := .int a4.2.2.2) (C := R_Sp) (T := T_Sp) (N := 8) hx hb hts i_Sp hown hK hP 0 rfl rfl 3 (by decide) (hts _ w_50) (fun _ h9 => h9) rfl d_Sp_meets_187 ?_
                refine lv_aload_n hx hb d_Sp_meets_190 rfl (lv_at hl 0 rfl) ?_
                refine va_get (D := D) (ci := 4) (v := .int a4.1) (C := R_Sp) (T := T_Sp) (N := 8) hx hb hts i_Sp hown hK hP 0 rfl rfl 0 (by decide) (hts _ w_47) (fun _ h9 => h9) rfl d_Sp_meets_191 ?_
                refine lv_aload_n hx hb d_Sp_meets_194 rfl (lv_at hl 0 rfl) ?_
                refine va_get (D := D) (ci := 4) (v := .int a4.2.1) (C := R_Sp) (T := T_Sp) (N := 8) hx hb hts i_Sp hown hK hP 0 rfl rfl 1 (by decide) (hts _ w_48) (fun _ h9 => h9) rfl d_Sp_meets_195 ?_
                refine lv_aload_n hx hb d_Sp_meets_198 rfl (lv_at hl 1 rfl) ?_
                refine va_get (D := D) (ci := 4) (v := .int b4.1) (C := R_Sp) (T := T_Sp) (N := 8) hx hb hts i_Sp hown hK hP 1 rfl rfl 0 (by decide) (hts _ w_47) (fun _ h9 => h9) rfl d_Sp_meets_199 ?_
                refine lv_aload_n hx hb d_Sp_meets_202 rfl (lv_at hl 1 rfl) ?_
                refine va_get (D := D) (ci := 4) (v := .int b4.2.1) (C := R_Sp) (T := T_Sp) (N := 8) hx hb hts i_Sp hown hK hP 1 rfl rfl 1 (by decide) (hts _ w_48) (fun _ h9 => h9) rfl d_Sp_meets_203 ?_
                refine pz_i0 (pz_rS (d := 1) (As := [.int a4.2.2.1, .int a4.2.2.2, .int a4.1, .int a4.2.1, .int b4.1, .int b4.2.1]) (rest := []) X hN (c_Sp_sameWay l D cB cI cS a4.2.2.1 a4.2.2.2 a4.1 a4.2.1 b4.1 b4.2.1 _) k_Sp_sameWay w_315 ⟨by decide, by decide⟩ hK hP hD [] rfl rfl rfl hl.1 rfl (Nat.le_of_ble_eq_true rfl) d_Sp_meets_206 ⟨Nat.zero_le _, Nat.zero_le _⟩) hP hD hS hA [] rfl (fun H locs hP hS => ?_)
                exact fin _ _ _ _ _ _ d_Sp_meets_209 hP hS (by simp only [mts, mt1, mt2, mt3, mt4, mt5, if_pos c_1, if_pos c_2, if_neg c_33, if_neg c_34, if_neg c_35, if_pos c_36, if_pos c_39]) (rfl) (swy_z _ _ _ _ _ _)
          · refine lv_aload_n hx hb d_Sp_meets_121 rfl (lv_at hl 0 rfl) ?_
            refine va_get (D := D) (ci := 4) (v := .int a4.2.2.2) (C := R_Sp) (T := T_Sp) (N := 8) hx hb hts i_Sp hown hK hP 0 rfl rfl 3 (by decide) (hts _ w_50) (fun _ h9 => h9) rfl d_Sp_meets_122 ?_
            refine lv_aload_n hx hb d_Sp_meets_125 rfl (lv_at hl 1 rfl) ?_
            refine va_get (D := D) (ci := 4) (v := .int b4.2.1) (C := R_Sp) (T := T_Sp) (N := 8) hx hb hts i_Sp hown hK hP 1 rfl rfl 1 (by decide) (hts _ w_48) (fun _ h9 => h9) rfl d_Sp_meets_126 ?_
            refine lv_icmp_ne (tgt := 160) hx hb d_Sp_meets_129 (by decide) (fun c_42 => ?_) (fun c_42 => ?_)
            · refine lv_aload_n hx hb d_Sp_meets_160 rfl (lv_at hl 0 rfl) ?_
              refine va_get (D := D) (ci := 4) (v := .int a4.2.2.1) (C := R_Sp) (T := T_Sp) (N := 8) hx hb hts i_Sp hown hK hP 0 rfl rfl 2 (by decide) (hts _ w_49) (fun _ h9 => h9) rfl d_Sp_meets_161 ?_
              refine lv_aload_n hx hb d_Sp_meets_164 rfl (lv_at hl 1 rfl) ?_
              refine va_get (D := D) (ci := 4) (v := .int b4.2.2.1) (C := R_Sp) (T := T_Sp) (N := 8) hx hb hts i_Sp hown hK hP 1 rfl rfl 2 (by decide) (hts _ w_49) (fun _ h9 => h9) rfl d_Sp_meets_165 ?_
              refine lv_icmp_ne (tgt := 210) hx hb d_Sp_meets_168 (by decide) (fun c_43 => ?_) (fun c_43 => ?_)
              · refine lv_aload_n hx hb d_Sp_meets_210 rfl (lv_at hl 0 rfl) ?_
                refine lv_aload_n hx hb d_Sp_meets_211 rfl (lv_at hl 1 rfl) ?_
                refine pz_i0 (pz_rV (d := 2) (As := [.ref h1]) (rest := []) X hN (c_Sp_lineParts l D cB cI cS h0 h1 a4 b4 _) k_Sp_lineParts w_321 ⟨by decide, by decide⟩ hK hP hD [0, 1] rfl rfl 0 rfl rfl rfl rfl hl.1 rfl (Nat.le_of_ble_eq_true rfl) d_Sp_meets_212 ⟨Nat.zero_le _, Nat.zero_le _⟩) hP hD hS hA [0, 1] rfl (fun H locs hP hS => ?_)
                refine lv_if_eq (tgt := 230) hx hb d_Sp_meets_215 (by decide) (fun c_44 => ?_) (fun c_44 => ?_)
                · refine lv_iconst (v := 0) hx hb d_Sp_meets_230 (by decide) ?_
                  exact fin _ _ _ _ _ _ d_Sp_meets_231 hP hS (by simp only [mts, mt1, mt2, mt3, mt4, mt5, if_pos c_1, if_pos c_2, if_neg c_33, if_neg c_34, if_pos c_35, if_neg c_42, if_neg c_43, if_pos c_44]) (rfl) rfl
                · refine lv_aload_n hx hb d_Sp_meets_218 rfl (lv_at hl 1 rfl) ?_
                  refine lv_aload_n hx hb d_Sp_meets_219 rfl (lv_at hl 0 rfl) ?_
                  refine pz_i0 (pz_rV (d := 2) (As := [.ref h0]) (rest := []) X hN (c_Sp_lineParts l D cB cI cS h1 h0 b4 a4 _) k_Sp_lineParts w_321 ⟨by decide, by decide⟩ hK hP hD [1, 0] rfl rfl 1 rfl rfl rfl rfl hl.1 rfl (Nat.le_of_ble_eq_true rfl) d_Sp_meets_220 ⟨Nat.zero_le _, Nat.zero_le _⟩) hP hD hS hA [1, 0] rfl (fun H locs hP hS => ?_)
                  refine lv_if_eq (tgt := 230) hx hb d_Sp_meets_223 (by decide) (fun c_45 => ?_) (fun c_45 => ?_)
                  · refine lv_iconst (v := 0) hx hb d_Sp_meets_230 (by decide) ?_
                    exact fin _ _ _ _ _ _ d_Sp_meets_231 hP hS (by simp only [mts, mt1, mt2, mt3, mt4, mt5, if_pos c_1, if_pos c_2, if_neg c_33, if_neg c_34, if_pos c_35, if_neg c_42, if_neg c_43, if_neg c_44, if_pos c_45]) (rfl) rfl
                  · refine lv_iconst (v := 1) hx hb d_Sp_meets_226 (by decide) ?_
                    refine lv_goto (tgt := 231) hx hb d_Sp_meets_227 (by decide) ?_
                    exact fin _ _ _ _ _ _ d_Sp_meets_231 hP hS (by simp only [mts, mt1, mt2, mt3, mt4, mt5, if_pos c_1, if_pos c_2, if_neg c_33, if_neg c_34, if_pos c_35, if_neg c_42, if_neg c_43, if_neg c_44, if_neg c_45]) (rfl) rfl
              · refine lv_aload_n hx hb d_Sp_meets_171 rfl (lv_at hl 0 rfl) ?_
                refine va_get (D := D) (ci := 4) (v := .int a4.2.2.2) (C := R_Sp) (T := T_Sp) (N := 8) hx hb hts i_Sp hown hK hP 0 rfl rfl 3 (by decide) (hts _ w_50) (fun _ h9 => h9) rfl d_Sp_meets_172 ?_
                refine lv_aload_n hx hb d_Sp_meets_175 rfl (lv_at hl 1 rfl) ?_
                refine va_get (D := D) (ci := 4) (v := .int b4.2.2.2) (C := R_Sp) (T := T_Sp) (N := 8) hx hb hts i_Sp hown hK hP 1 rfl rfl 3 (by decide) (hts _ w_50) (fun _ h9 => h9) rfl d_Sp_meets_176 ?_
                refine lv_icmp_ne (tgt := 210) hx hb d_Sp_meets_179 (by decide) (fun c_46 => ?_) (fun c_46 => ?_)
                · refine lv_aload_n hx hb d_Sp_meets_210 rfl (lv_at hl 0 rfl) ?_
                  refine lv_aload_n hx hb d_Sp_meets_211 rfl (lv_at hl 1 rfl) ?_
                  refine pz_i0 (pz_rV (d := 2) (As := [.ref h1]) (rest := []) X hN (c_Sp_lineParts l D cB cI cS h0 h1 a4 b4 _) k_Sp_lineParts w_321 ⟨by decide, by decide⟩ hK hP hD [0, 1] rfl rfl 0 rfl rfl rfl rfl hl.1 rfl (Nat.le_of_ble_eq_true rfl) d_Sp_meets_212 ⟨Nat.zero_le _, Nat.zero_le _⟩) hP hD hS hA [0, 1] rfl (fun H locs hP hS => ?_)
                  refine lv_if_eq (tgt := 230) hx hb d_Sp_meets_215 (by decide) (fun c_47 => ?_) (fun c_47 => ?_)
                  · refine lv_iconst (v := 0) hx hb d_Sp_meets_230 (by decide) ?_
                    exact fin _ _ _ _ _ _ d_Sp_meets_231 hP hS (by simp only [mts, mt1, mt2, mt3, mt4, mt5, if_pos c_1, if_pos c_2, if_neg c_33, if_neg c_34, if_pos c_35, if_neg c_42, if_pos c_43, if_neg c_46, if_pos c_47]) (rfl) rfl
                  · refine lv_aload_n hx hb d_Sp_meets_218 rfl (lv_at hl 1 rfl) ?_
                    refine lv_aload_n hx hb d_Sp_meets_219 rfl (lv_at hl 0 rfl) ?_
                    refine pz_i0 (pz_rV (d := 2) (As := [.ref h0]) (rest := []) X hN (c_Sp_lineParts l D cB cI cS h1 h0 b4 a4 _) k_Sp_lineParts w_321 ⟨by decide, by decide⟩ hK hP hD [1, 0] rfl rfl 1 rfl rfl rfl rfl hl.1 rfl (Nat.le_of_ble_eq_true rfl) d_Sp_meets_220 ⟨Nat.zero_le _, Nat.zero_le _⟩) hP hD hS hA [1, 0] rfl (fun H locs hP hS => ?_)
                    refine lv_if_eq (tgt := 230) hx hb d_Sp_meets_223 (by decide) (fun c_48 => ?_) (fun c_48 => ?_)
                    · refine lv_iconst (v := 0) hx hb d_Sp_meets_230 (by decide) ?_
                      exact fin _ _ _ _ _ _ d_Sp_meets_231 hP hS (by simp only [mts, mt1, mt2, mt3, mt4, mt5, if_pos c_1, if_pos c_2, if_neg c_33, if_neg c_34, if_pos c_35, if_neg c_42, if_pos c_43, if_neg c_46, if_neg c_47, if_pos c_48]) (rfl) rfl
                    · refine lv_iconst (v := 1) hx hb d_Sp_meets_226 (by decide) ?_
                      refine lv_goto (tgt := 231) hx hb d_Sp_meets_227 (by decide) ?_
                      exact fin _ _ _ _ _ _ d_Sp_meets_231 hP hS (by simp only [mts, mt1, mt2, mt3, mt4, mt5, if_pos c_1, if_pos c_2, if_neg c_33, if_neg c_34, if_pos c_35, if_neg c_42, if_pos c_43, if_neg c_46, if_neg c_47, if_neg c_48]) (rfl) rfl
                · refine lv_aload_n hx hb d_Sp_meets_182 rfl (lv_at hl 0 rfl) ?_
                  refine va_get (D := D) (ci := 4) (v := .int a4.2.2.1) (C := R_Sp) (T := T_Sp) (N := 8) hx hb hts i_Sp hown hK hP 0 rfl rfl 2 (by decide) (hts _ w_49) (fun _ h9 => h9) rfl d_Sp_meets_183 ?_
                  refine lv_aload_n hx hb d_Sp_meets_186 rfl (lv_at hl 0 rfl) ?_
                  refine va_get (D := D) (ci := 4) (v := .int a4.2.2.2) (C := R_Sp) (T := T_Sp) (N := 8) hx hb hts i_Sp hown hK hP 0 rfl rfl 3 (by decide) (hts _ w_50) (fun _ h9 => h9) rfl d_Sp_meets_187 ?_
                  refine lv_aload_n hx hb d_Sp_meets_190 rfl (lv_at hl 0 rfl) ?_
                  refine va_get (D := D) (ci := 4) (v := .int a4.1) (C := R_Sp) (T := T_Sp) (N := 8) hx hb hts i_Sp hown hK hP 0 rfl rfl 0 (by decide) (hts _ w_47) (fun _ h9 => h9) rfl d_Sp_meets_191 ?_
                  refine lv_aload_n hx hb d_Sp_meets_194 rfl (lv_at hl 0 rfl) ?_
                  refine va_get (D := D) (ci := 4) (v := .int a4.2.1) (C := R_Sp) (T := T_Sp) (N := 8) hx hb hts i_Sp hown hK hP 0 rfl rfl 1 (by decide) (hts _ w_48) (fun _ h9 => h9) rfl d_Sp_meets_195 ?_
                  refine lv_aload_n hx hb d_Sp_meets_198 rfl (lv_at hl 1 rfl) ?_
                  refine va_get (D := D) (ci := 4) (v := .int b4.1) (C := R_Sp) (T := T_Sp) (N := 8) hx hb hts i_Sp hown hK hP 1 rfl rfl 0 (by decide) (hts _ w_47) (fun _ h9 => h9) rfl d_Sp_meets_199 ?_
                  refine lv_aload_n hx hb d_Sp_meets_202 rfl (lv_at hl 1 rfl) ?_
                  refine va_get (D := D) (ci := 4) (v := .int b4.2.1) (C := R_Sp) (T := T_Sp) (N := 8) hx hb hts i_Sp hown hK hP 1 rfl rfl 1 (by decide) (hts _ w_48) (fun _ h9 => h9) rfl d_Sp_meets_203 ?_
                  refine pz_i0 (pz_rS (d := 1) (As := [.int a4.2.2.1, .int a4.2.2.2, .int a4.1, .int a4.2.1, .int b4.1, .int b4.2.1]) (rest := []) X hN (c_Sp_sameWay l D cB cI cS a4.2.2.1 a4.2.2.2 a4.1 a4.2.1 b4.1 b4.2.1 _) k_Sp_sameWay w_315 ⟨by decide, by decide⟩ hK hP hD [] rfl rfl rfl hl.1 rfl (Nat.le_of_ble_eq_true rfl) d_Sp_meets_206 ⟨Nat.zero_le _, Nat.zero_le _⟩) hP hD hS hA [] rfl (fun H locs hP hS => ?_)
                  exact fin _ _ _ _ _ _ d_Sp_meets_209 hP hS (by simp only [mts, mt1, mt2, mt3, mt4, mt5, if_pos c_1, if_pos c_2, if_neg c_33, if_neg c_34, if_pos c_35, if_neg c_42, if_pos c_43, if_pos c_46]) (rfl) (swy_z _ _ _ _ _ _)
            · refine lv_aload_n hx hb d_Sp_meets_132 rfl (lv_at hl 0 rfl) ?_
              refine va_get (D := D) (ci := 4) (v := .int a4.2.2.1) (C := R_Sp) (T := T_Sp) (N := 8) hx hb hts i_Sp hown hK hP 0 rfl rfl 2 (by decide) (hts _ w_49) (fun _ h9 => h9) rfl d_Sp_meets_133 ?_
              refine lv_aload_n hx hb d_Sp_meets_136 rfl (lv_at hl 0 rfl) ?_
              refine va_get (D := D) (ci := 4) (v := .int a4.2.2.2) (C := R_Sp) (T := T_Sp) (N := 8) hx hb hts i_Sp hown hK hP 0 rfl rfl 3 (by decide) (hts _ w_50) (fun _ h9 => h9) rfl d_Sp_meets_137 ?_
              refine lv_aload_n hx hb d_Sp_meets_140 rfl (lv_at hl 0 rfl) ?_
              refine va_get (D := D) (ci := 4) (v := .int a4.1) (C := R_Sp) (T := T_Sp) (N := 8) hx hb hts i_Sp hown hK hP 0 rfl rfl 0 (by decide) (hts _ w_47) (fun _ h9 => h9) rfl d_Sp_meets_141 ?_
              refine lv_aload_n hx hb d_Sp_meets_144 rfl (lv_at hl 0 rfl) ?_
              refine va_get (D := D) (ci := 4) (v := .int a4.2.1) (C := R_Sp) (T := T_Sp) (N := 8) hx hb hts i_Sp hown hK hP 0 rfl rfl 1 (by decide) (hts _ w_48) (fun _ h9 => h9) rfl d_Sp_meets_145 ?_
              refine lv_aload_n hx hb d_Sp_meets_148 rfl (lv_at hl 1 rfl) ?_
              refine va_get (D := D) (ci := 4) (v := .int b4.2.2.1) (C := R_Sp) (T := T_Sp) (N := 8) hx hb hts i_Sp hown hK hP 1 rfl rfl 2 (by decide) (hts _ w_49) (fun _ h9 => h9) rfl d_Sp_meets_149 ?_
              refine lv_aload_n hx hb d_Sp_meets_152 rfl (lv_at hl 1 rfl) ?_
              refine va_get (D := D) (ci := 4) (v := .int b4.2.2.2) (C := R_Sp) (T := T_Sp) (N := 8) hx hb hts i_Sp hown hK hP 1 rfl rfl 3 (by decide) (hts _ w_50) (fun _ h9 => h9) rfl d_Sp_meets_153 ?_
              refine pz_i0 (pz_rS (d := 1) (As := [.int a4.2.2.1, .int a4.2.2.2, .int a4.1, .int a4.2.1, .int b4.2.2.1, .int b4.2.2.2]) (rest := []) X hN (c_Sp_sameWay l D cB cI cS a4.2.2.1 a4.2.2.2 a4.1 a4.2.1 b4.2.2.1 b4.2.2.2 _) k_Sp_sameWay w_315 ⟨by decide, by decide⟩ hK hP hD [] rfl rfl rfl hl.1 rfl (Nat.le_of_ble_eq_true rfl) d_Sp_meets_156 ⟨Nat.zero_le _, Nat.zero_le _⟩) hP hD hS hA [] rfl (fun H locs hP hS => ?_)
              exact fin _ _ _ _ _ _ d_Sp_meets_159 hP hS (by simp only [mts, mt1, mt2, mt3, mt4, mt5, if_pos c_1, if_pos c_2, if_neg c_33, if_neg c_34, if_pos c_35, if_pos c_42]) (rfl) (swy_z _ _ _ _ _ _)
        · refine lv_aload_n hx hb d_Sp_meets_71 rfl (lv_at hl 0 rfl) ?_
          refine va_get (D := D) (ci := 4) (v := .int a4.2.1) (C := R_Sp) (T := T_Sp) (N := 8) hx hb hts i_Sp hown hK hP 0 rfl rfl 1 (by decide) (hts _ w_48) (fun _ h9 => h9) rfl d_Sp_meets_72 ?_
          refine lv_aload_n hx hb d_Sp_meets_75 rfl (lv_at hl 1 rfl) ?_
          refine va_get (D := D) (ci := 4) (v := .int b4.2.2.2) (C := R_Sp) (T := T_Sp) (N := 8) hx hb hts i_Sp hown hK hP 1 rfl rfl 3 (by decide) (hts _ w_50) (fun _ h9 => h9) rfl d_Sp_meets_76 ?_
          refine lv_icmp_ne (tgt := 110) hx hb d_Sp_meets_79 (by decide) (fun c_49 => ?_) (fun c_49 => ?_)
          · refine lv_aload_n hx hb d_Sp_meets_110 rfl (lv_at hl 0 rfl) ?_
            refine va_get (D := D) (ci := 4) (v := .int a4.2.2.1) (C := R_Sp) (T := T_Sp) (N := 8) hx hb hts i_Sp hown hK hP 0 rfl rfl 2 (by decide) (hts _ w_49) (fun _ h9 => h9) rfl d_Sp_meets_111 ?_
            refine lv_aload_n hx hb d_Sp_meets_114 rfl (lv_at hl 1 rfl) ?_
            refine va_get (D := D) (ci := 4) (v := .int b4.1) (C := R_Sp) (T := T_Sp) (N := 8) hx hb hts i_Sp hown hK hP 1 rfl rfl 0 (by decide) (hts _ w_47) (fun _ h9 => h9) rfl d_Sp_meets_115 ?_
            refine lv_icmp_ne (tgt := 160) hx hb d_Sp_meets_118 (by decide) (fun c_50 => ?_) (fun c_50 => ?_)
            · refine lv_aload_n hx hb d_Sp_meets_160 rfl (lv_at hl 0 rfl) ?_
              refine va_get (D := D) (ci := 4) (v := .int a4.2.2.1) (C := R_Sp) (T := T_Sp) (N := 8) hx hb hts i_Sp hown hK hP 0 rfl rfl 2 (by decide) (hts _ w_49) (fun _ h9 => h9) rfl d_Sp_meets_161 ?_
              refine lv_aload_n hx hb d_Sp_meets_164 rfl (lv_at hl 1 rfl) ?_
              refine va_get (D := D) (ci := 4) (v := .int b4.2.2.1) (C := R_Sp) (T := T_Sp) (N := 8) hx hb hts i_Sp hown hK hP 1 rfl rfl 2 (by decide) (hts _ w_49) (fun _ h9 => h9) rfl d_Sp_meets_165 ?_
              refine lv_icmp_ne (tgt := 210) hx hb d_Sp_meets_168 (by decide) (fun c_51 => ?_) (fun c_51 => ?_)
              · refine lv_aload_n hx hb d_Sp_meets_210 rfl (lv_at hl 0 rfl) ?_
                refine lv_aload_n hx hb d_Sp_meets_211 rfl (lv_at hl 1 rfl) ?_
                refine pz_i0 (pz_rV (d := 2) (As := [.ref h1]) (rest := []) X hN (c_Sp_lineParts l D cB cI cS h0 h1 a4 b4 _) k_Sp_lineParts w_321 ⟨by decide, by decide⟩ hK hP hD [0, 1] rfl rfl 0 rfl rfl rfl rfl hl.1 rfl (Nat.le_of_ble_eq_true rfl) d_Sp_meets_212 ⟨Nat.zero_le _, Nat.zero_le _⟩) hP hD hS hA [0, 1] rfl (fun H locs hP hS => ?_)
                refine lv_if_eq (tgt := 230) hx hb d_Sp_meets_215 (by decide) (fun c_52 => ?_) (fun c_52 => ?_)
                · refine lv_iconst (v := 0) hx hb d_Sp_meets_230 (by decide) ?_
                  exact fin _ _ _ _ _ _ d_Sp_meets_231 hP hS (by simp only [mts, mt1, mt2, mt3, mt4, mt5, if_pos c_1, if_pos c_2, if_neg c_33, if_pos c_34, if_neg c_49, if_neg c_50, if_neg c_51, if_pos c_52]) (rfl) rfl
                · refine lv_aload_n hx hb d_Sp_meets_218 rfl (lv_at hl 1 rfl) ?_
                  refine lv_aload_n hx hb d_Sp_meets_219 rfl (lv_at hl 0 rfl) ?_
                  refine pz_i0 (pz_rV (d := 2) (As := [.ref h0]) (rest := []) X hN (c_Sp_lineParts l D cB cI cS h1 h0 b4 a4 _) k_Sp_lineParts w_321 ⟨by decide, by decide⟩ hK hP hD [1, 0] rfl rfl 1 rfl rfl rfl rfl hl.1 rfl (Nat.le_of_ble_eq_true rfl) d_Sp_meets_220 ⟨Nat.zero_le _, Nat.zero_le _⟩) hP hD hS hA [1, 0] rfl (fun H locs hP hS => ?_)
                  refine lv_if_eq (tgt := 230) hx hb d_Sp_meets_223 (by decide) (fun c_53 => ?_) (fun c_53 => ?_)
                  · refine lv_iconst (v := 0) hx hb d_Sp_meets_230 (by decide) ?_
                    exact fin _ _ _ _ _ _ d_Sp_meets_231 hP hS (by simp only [mts, mt1, mt2, mt3, mt4, mt5, if_pos c_1, if_pos c_2, if_neg c_33, if_pos c_34, if_neg c_49, if_neg c_50, if_neg c_51, if_neg c_52, if_pos c_53]) (rfl) rfl
                  · refine lv_iconst (v := 1) hx hb d_Sp_meets_226 (by decide) ?_
                    refine lv_goto (tgt := 231) hx hb d_Sp_meets_227 (by decide) ?_
                    exact fin _ _ _ _ _ _ d_Sp_meets_231 hP hS (by simp only [mts, mt1, mt2, mt3, mt4, mt5, if_pos c_1, if_pos c_2, if_neg c_33, if_pos c_34, if_neg c_49, if_neg c_50, if_neg c_51, if_neg c_52, if_neg c_53]) (rfl) rfl
              · refine lv_aload_n hx hb d_Sp_meets_171 rfl (lv_at hl 0 rfl) ?_
                refine va_get (D := D) (ci := 4) (v := .int a4.2.2.2) (C := R_Sp) (T := T_Sp) (N := 8) hx hb hts i_Sp hown hK hP 0 rfl rfl 3 (by decide) (hts _ w_50) (fun _ h9 => h9) rfl d_Sp_meets_172 ?_
                refine lv_aload_n hx hb d_Sp_meets_175 rfl (lv_at hl 1 rfl) ?_
                refine va_get (D := D) (ci := 4) (v := .int b4.2.2.2) (C := R_Sp) (T := T_Sp) (N := 8) hx hb hts i_Sp hown hK hP 1 rfl rfl 3 (by decide) (hts _ w_50) (fun _ h9 => h9) rfl d_Sp_meets_176 ?_
                refine lv_icmp_ne (tgt := 210) hx hb d_Sp_meets_179 (by decide) (fun c_54 => ?_) (fun c_54 => ?_)
                · refine lv_aload_n hx hb d_Sp_meets_210 rfl (lv_at hl 0 rfl) ?_
                  refine lv_aload_n hx hb d_Sp_meets_211 rfl (lv_at hl 1 rfl) ?_
                  refine pz_i0 (pz_rV (d := 2) (As := [.ref h1]) (rest := []) X hN (c_Sp_lineParts l D cB cI cS h0 h1 a4 b4 _) k_Sp_lineParts w_321 ⟨by decide, by decide⟩ hK hP hD [0, 1] rfl rfl 0 rfl rfl rfl rfl hl.1 rfl (Nat.le_of_ble_eq_true rfl) d_Sp_meets_212 ⟨Nat.zero_le _, Nat.zero_le _⟩) hP hD hS hA [0, 1] rfl (fun H locs hP hS => ?_)
                  refine lv_if_eq (tgt := 230) hx hb d_Sp_meets_215 (by decide) (fun c_55 => ?_) (fun c_55 => ?_)
                  · refine lv_iconst (v := 0) hx hb d_Sp_meets_230 (by decide) ?_
                    exact fin _ _ _ _ _ _ d_Sp_meets_231 hP hS (by simp only [mts, mt1, mt2, mt3, mt4, mt5, if_pos c_1, if_pos c_2, if_neg c_33, if_pos c_34, if_neg c_49, if_neg c_50, if_pos c_51, if_neg c_54, if_pos c_55]) (rfl) rfl
                  · refine lv_aload_n hx hb d_Sp_meets_218 rfl (lv_at hl 1 rfl) ?_
                    refine lv_aload_n hx hb d_Sp_meets_219 rfl (lv_at hl 0 rfl) ?_
                    refine pz_i0 (pz_rV (d := 2) (As := [.ref h0]) (rest := []) X hN (c_Sp_lineParts l D cB cI cS h1 h0 b4 a4 _) k_Sp_lineParts w_321 ⟨by decide, by decide⟩ hK hP hD [1, 0] rfl rfl 1 rfl rfl rfl rfl hl.1 rfl (Nat.le_of_ble_eq_true rfl) d_Sp_meets_220 ⟨Nat.zero_le _, Nat.zero_le _⟩) hP hD hS hA [1, 0] rfl (fun H locs hP hS => ?_)
                    refine lv_if_eq (tgt := 230) hx hb d_Sp_meets_223 (by decide) (fun c_56 => ?_) (fun c_56 => ?_)
                    · refine lv_iconst (v := 0) hx hb d_Sp_meets_230 (by decide) ?_
                      exact fin _ _ _ _ _ _ d_Sp_meets_231 hP hS (by simp only [mts, mt1, mt2, mt3, mt4, mt5, if_pos c_1, if_pos c_2, if_neg c_33, if_pos c_34, if_neg c_49, if_neg c_50, if_pos c_51, if_neg c_54, if_neg c_55, if_pos c_56]) (rfl) rfl
                    · refine lv_iconst (v := 1) hx hb d_Sp_meets_226 (by decide) ?_
                      refine lv_goto (tgt := 231) hx hb d_Sp_meets_227 (by decide) ?_
                      exact fin _ _ _ _ _ _ d_Sp_meets_231 hP hS (by simp only [mts, mt1, mt2, mt3, mt4, mt5, if_pos c_1, if_pos c_2, if_neg c_33, if_pos c_34, if_neg c_49, if_neg c_50, if_pos c_51, if_neg c_54, if_neg c_55, if_neg c_56]) (rfl) rfl
                · refine lv_aload_n hx hb d_Sp_meets_182 rfl (lv_at hl 0 rfl) ?_
                  refine va_get (D := D) (ci := 4) (v := .int a4.2.2.1) (C := R_Sp) (T := T_Sp) (N := 8) hx hb hts i_Sp hown hK hP 0 rfl rfl 2 (by decide) (hts _ w_49) (fun _ h9 => h9) rfl d_Sp_meets_183 ?_
                  refine lv_aload_n hx hb d_Sp_meets_186 rfl (lv_at hl 0 rfl) ?_
                  refine va_get (D := D) (ci := 4) (v := .int a4.2.2.2) (C := R_Sp) (T := T_Sp) (N := 8) hx hb hts i_Sp hown hK hP 0 rfl rfl 3 (by decide) (hts _ w_50) (fun _ h9 => h9) rfl d_Sp_meets_187 ?_
                  refine lv_aload_n hx hb d_Sp_meets_190 rfl (lv_at hl 0 rfl) ?_
                  refine va_get (D := D) (ci := 4) (v := .int a4.1) (C := R_Sp) (T := T_Sp) (N := 8) hx hb hts i_Sp hown hK hP 0 rfl rfl 0 (by decide) (hts _ w_47) (fun _ h9 => h9) rfl d_Sp_meets_191 ?_
                  refine lv_aload_n hx hb d_Sp_meets_194 rfl (lv_at hl 0 rfl) ?_
                  refine va_get (D := D) (ci := 4) (v := .int a4.2.1) (C := R_Sp) (T := T_Sp) (N := 8) hx hb hts i_Sp hown hK hP 0 rfl rfl 1 (by decide) (hts _ w_48) (fun _ h9 => h9) rfl d_Sp_meets_195 ?_
                  refine lv_aload_n hx hb d_Sp_meets_198 rfl (lv_at hl 1 rfl) ?_
                  refine va_get (D := D) (ci := 4) (v := .int b4.1) (C := R_Sp) (T := T_Sp) (N := 8) hx hb hts i_Sp hown hK hP 1 rfl rfl 0 (by decide) (hts _ w_47) (fun _ h9 => h9) rfl d_Sp_meets_199 ?_
                  refine lv_aload_n hx hb d_Sp_meets_202 rfl (lv_at hl 1 rfl) ?_
                  refine va_get (D := D) (ci := 4) (v := .int b4.2.1) (C := R_Sp) (T := T_Sp) (N := 8) hx hb hts i_Sp hown hK hP 1 rfl rfl 1 (by decide) (hts _ w_48) (fun _ h9 => h9) rfl d_Sp_meets_203 ?_
                  refine pz_i0 (pz_rS (d := 1) (As := [.int a4.2.2.1, .int a4.2.2.2, .int a4.1, .int a4.2.1, .int b4.1, .int b4.2.1]) (rest := []) X hN (c_Sp_sameWay l D cB cI cS a4.2.2.1 a4.2.2.2 a4.1 a4.2.1 b4.1 b4.2.1 _) k_Sp_sameWay w_315 ⟨by decide, by decide⟩ hK hP hD [] rfl rfl rfl hl.1 rfl (Nat.le_of_ble_eq_true rfl) d_Sp_meets_206 ⟨Nat.zero_le _, Nat.zero_le _⟩) hP hD hS hA [] rfl (fun H locs hP hS => ?_)
                  exact fin _ _ _ _ _ _ d_Sp_meets_209 hP hS (by simp only [mts, mt1, mt2, mt3, mt4, mt5, if_pos c_1, if_pos c_2, if_neg c_33, if_pos c_34, if_neg c_49, if_neg c_50, if_pos c_51, if_pos c_54]) (rfl) (swy_z _ _ _ _ _ _)
            · refine lv_aload_n hx hb d_Sp_meets_121 rfl (lv_at hl 0 rfl) ?_
              refine va_get (D := D) (ci := 4) (v := .int a4.2.2.2) (C := R_Sp) (T := T_Sp) (N := 8) hx hb hts i_Sp hown hK hP 0 rfl rfl 3 (by decide) (hts _ w_50) (fun _ h9 => h9) rfl d_Sp_meets_122 ?_
              refine lv_aload_n hx hb d_Sp_meets_125 rfl (lv_at hl 1 rfl) ?_
              refine va_get (D := D) (ci := 4) (v := .int b4.2.1) (C := R_Sp) (T := T_Sp) (N := 8) hx hb hts i_Sp hown hK hP 1 rfl rfl 1 (by decide) (hts _ w_48) (fun _ h9 => h9) rfl d_Sp_meets_126 ?_
              refine lv_icmp_ne (tgt := 160) hx hb d_Sp_meets_129 (by decide) (fun c_57 => ?_) (fun c_57 => ?_)
              · refine lv_aload_n hx hb d_Sp_meets_160 rfl (lv_at hl 0 rfl) ?_
                refine va_get (D := D) (ci := 4) (v := .int a4.2.2.1) (C := R_Sp) (T := T_Sp) (N := 8) hx hb hts i_Sp hown hK hP 0 rfl rfl 2 (by decide) (hts _ w_49) (fun _ h9 => h9) rfl d_Sp_meets_161 ?_
                refine lv_aload_n hx hb d_Sp_meets_164 rfl (lv_at hl 1 rfl) ?_
                refine va_get (D := D) (ci := 4) (v := .int b4.2.2.1) (C := R_Sp) (T := T_Sp) (N := 8) hx hb hts i_Sp hown hK hP 1 rfl rfl 2 (by decide) (hts _ w_49) (fun _ h9 => h9) rfl d_Sp_meets_165 ?_
                refine lv_icmp_ne (tgt := 210) hx hb d_Sp_meets_168 (by decide) (fun c_58 => ?_) (fun c_58 => ?_)
                · refine lv_aload_n hx hb d_Sp_meets_210 rfl (lv_at hl 0 rfl) ?_
                  refine lv_aload_n hx hb d_Sp_meets_211 rfl (lv_at hl 1 rfl) ?_
                  refine pz_i0 (pz_rV (d := 2) (As := [.ref h1]) (rest := []) X hN (c_Sp_lineParts l D cB cI cS h0 h1 a4 b4 _) k_Sp_lineParts w_321 ⟨by decide, by decide⟩ hK hP hD [0, 1] rfl rfl 0 rfl rfl rfl rfl hl.1 rfl (Nat.le_of_ble_eq_true rfl) d_Sp_meets_212 ⟨Nat.zero_le _, Nat.zero_le _⟩) hP hD hS hA [0, 1] rfl (fun H locs hP hS => ?_)
                  refine lv_if_eq (tgt := 230) hx hb d_Sp_meets_215 (by decide) (fun c_59 => ?_) (fun c_59 => ?_)
                  · refine lv_iconst (v := 0) hx hb d_Sp_meets_230 (by decide) ?_
                    exact fin _ _ _ _ _ _ d_Sp_meets_231 hP hS (by simp only [mts, mt1, mt2, mt3, mt4, mt5, if_pos c_1, if_pos c_2, if_neg c_33, if_pos c_34, if_neg c_49, if_pos c_50, if_neg c_57, if_neg c_58, if_pos c_59]) (rfl) rfl
                  · refine lv_aload_n hx hb d_Sp_meets_218 rfl (lv_at hl 1 rfl) ?_
                    refine lv_aload_n hx hb d_Sp_meets_219 rfl (lv_at hl 0 rfl) ?_
                    refine pz_i0 (pz_rV (d := 2) (As := [.ref h0]) (rest := []) X hN (c_Sp_lineParts l D cB cI cS h1 h0 b4 a4 _) k_Sp_lineParts w_321 ⟨by decide, by decide⟩ hK hP hD [1, 0] rfl rfl 1 rfl rfl rfl rfl hl.1 rfl (Nat.le_of_ble_eq_true rfl) d_Sp_meets_220 ⟨Nat.zero_le _, Nat.zero_le _⟩) hP hD hS hA [1, 0] rfl (fun H locs hP hS => ?_)
                    refine lv_if_eq (tgt := 230) hx hb d_Sp_meets_223 (by decide) (fun c_60 => ?_) (fun c_60 => ?_)
                    · refine lv_iconst (v := 0) hx hb d_Sp_meets_230 (by decide) ?_
                      exact fin _ _ _ _ _ _ d_Sp_meets_231 hP hS (by simp only [mts, mt1, mt2, mt3, mt4, mt5, if_pos c_1, if_pos c_2, if_neg c_33, if_pos c_34, if_neg c_49, if_pos c_50, if_neg c_57, if_neg c_58, if_neg c_59, if_pos c_60]) (rfl) rfl
                    · refine lv_iconst (v := 1) hx hb d_Sp_meets_226 (by decide) ?_
                      refine lv_goto (tgt := 231) hx hb d_Sp_meets_227 (by decide) ?_
                      exact fin _ _ _ _ _ _ d_Sp_meets_231 hP hS (by simp only [mts, mt1, mt2, mt3, mt4, mt5, if_pos c_1, if_pos c_2, if_neg c_33, if_pos c_34, if_neg c_49, if_pos c_50, if_neg c_57, if_neg c_58, if_neg c_59, if_neg c_60]) (rfl) rfl
                · refine lv_aload_n hx hb d_Sp_meets_171 rfl (lv_at hl 0 rfl) ?_
                  refine va_get (D := D) (ci := 4) (v := .int a4.2.2.2) (C := R_Sp) (T := T_Sp) (N := 8) hx hb hts i_Sp hown hK hP 0 rfl rfl 3 (by decide) (hts _ w_50) (fun _ h9 => h9) rfl d_Sp_meets_172 ?_
                  refine lv_aload_n hx hb d_Sp_meets_175 rfl (lv_at hl 1 rfl) ?_
                  refine va_get (D := D) (ci := 4) (v := .int b4.2.2.2) (C := R_Sp) (T := T_Sp) (N := 8) hx hb hts i_Sp hown hK hP 1 rfl rfl 3 (by decide) (hts _ w_50) (fun _ h9 => h9) rfl d_Sp_meets_176 ?_
                  refine lv_icmp_ne (tgt := 210) hx hb d_Sp_meets_179 (by decide) (fun c_61 => ?_) (fun c_61 => ?_)
                  · refine lv_aload_n hx hb d_Sp_meets_210 rfl (lv_at hl 0 rfl) ?_
                    refine lv_aload_n hx hb d_Sp_meets_211 rfl (lv_at hl 1 rfl) ?_
                    refine pz_i0 (pz_rV (d := 2) (As := [.ref h1]) (rest := []) X hN (c_Sp_lineParts l D cB cI cS h0 h1 a4 b4 _) k_Sp_lineParts w_321 ⟨by decide, by decide⟩ hK hP hD [0, 1] rfl rfl 0 rfl rfl rfl rfl hl.1 rfl (Nat.le_of_ble_eq_true rfl) d_Sp_meets_212 ⟨Nat.zero_le _, Nat.zero_le _⟩) hP hD hS hA [0, 1] rfl (fun H locs hP hS => ?_)
                    refine lv_if_eq (tgt := 230) hx hb d_Sp_meets_215 (by decide) (fun c_62 => ?_) (fun c_62 => ?_)
                    · refine lv_iconst (v := 0) hx hb d_Sp_meets_230 (by decide) ?_
                      exact fin _ _ _ _ _ _ d_Sp_meets_231 hP hS (by simp only [mts, mt1, mt2, mt3, mt4, mt5, if_pos c_1, if_pos c_2, if_neg c_33, if_pos c_34, if_neg c_49, if_pos c_50, if_neg c_57, if_pos c_58, if_neg c_61, if_pos c_62]) (rfl) rfl
                    · refine lv_aload_n hx hb d_Sp_meets_218 rfl (lv_at hl 1 rfl) ?_
                      refine lv_aload_n hx hb d_Sp_meets_219 rfl (lv_at hl 0 rfl) ?_
                      refine pz_i0 (pz_rV (d := 2) (As := [.ref h0]) (rest := []) X hN (c_Sp_lineParts l D cB cI cS h1 h0 b4 a4 _) k_Sp_lineParts w_321 ⟨by decide, by decide⟩ hK hP hD [1, 0] rfl rfl 1 rfl rfl rfl rfl hl.1 rfl (Nat.le_of_ble_eq_true rfl) d_Sp_meets_220 ⟨Nat.zero_le _, Nat.zero_le _⟩) hP hD hS hA [1, 0] rfl (fun H locs hP hS => ?_)
                      refine lv_if_eq (tgt := 230) hx hb d_Sp_meets_223 (by decide) (fun c_63 => ?_) (fun c_63 => ?_)
                      · refine lv_iconst (v := 0) hx hb d_Sp_meets_230 (by decide) ?_
                        exact fin _ _ _ _ _ _ d_Sp_meets_231 hP hS (by simp only [mts, mt1, mt2, mt3, mt4, mt5, if_pos c_1, if_pos c_2, if_neg c_33, if_pos c_34, if_neg c_49, if_pos c_50, if_neg c_57, if_pos c_58, if_neg c_61, if_neg c_62, if_pos c_63]) (rfl) rfl
                      · refine lv_iconst (v := 1) hx hb d_Sp_meets_226 (by decide) ?_
                        refine lv_goto (tgt := 231) hx hb d_Sp_meets_227 (by decide) ?_
                        exact fin _ _ _ _ _ _ d_Sp_meets_231 hP hS (by simp only [mts, mt1, mt2, mt3, mt4, mt5, if_pos c_1, if_pos c_2, if_neg c_33, if_pos c_34, if_neg c_49, if_pos c_50, if_neg c_57, if_pos c_58, if_neg c_61, if_neg c_62, if_neg c_63]) (rfl) rfl
                  · refine lv_aload_n hx hb d_Sp_meets_182 rfl (lv_at hl 0 rfl) ?_
                    refine va_get (D := D) (ci := 4) (v := .int a4.2.2.1) (C := R_Sp) (T := T_Sp) (N := 8) hx hb hts i_Sp hown hK hP 0 rfl rfl 2 (by decide) (hts _ w_49) (fun _ h9 => h9) rfl d_Sp_meets_183 ?_
                    refine lv_aload_n hx hb d_Sp_meets_186 rfl (lv_at hl 0 rfl) ?_
                    refine va_get (D := D) (ci := 4) (v := .int a4.2.2.2) (C := R_Sp) (T := T_Sp) (N := 8) hx hb hts i_Sp hown hK hP 0 rfl rfl 3 (by decide) (hts _ w_50) (fun _ h9 => h9) rfl d_Sp_meets_187 ?_
                    refine lv_aload_n hx hb d_Sp_meets_190 rfl (lv_at hl 0 rfl) ?_
                    refine va_get (D := D) (ci := 4) (v := .int a4.1) (C := R_Sp) (T := T_Sp) (N := 8) hx hb hts i_Sp hown hK hP 0 rfl rfl 0 (by decide) (hts _ w_47) (fun _ h9 => h9) rfl d_Sp_meets_191 ?_
                    refine lv_aload_n hx hb d_Sp_meets_194 rfl (lv_at hl 0 rfl) ?_
                    refine va_get (D := D) (ci := 4) (v := .int a4.2.1) (C := R_Sp) (T := T_Sp) (N := 8) hx hb hts i_Sp hown hK hP 0 rfl rfl 1 (by decide) (hts _ w_48) (fun _ h9 => h9) rfl d_Sp_meets_195 ?_
                    refine lv_aload_n hx hb d_Sp_meets_198 rfl (lv_at hl 1 rfl) ?_
                    refine va_get (D := D) (ci := 4) (v := .int b4.1) (C := R_Sp) (T := T_Sp) (N := 8) hx hb hts i_Sp hown hK hP 1 rfl rfl 0 (by decide) (hts _ w_47) (fun _ h9 => h9) rfl d_Sp_meets_199 ?_
                    refine lv_aload_n hx hb d_Sp_meets_202 rfl (lv_at hl 1 rfl) ?_
                    refine va_get (D := D) (ci := 4) (v := .int b4.2.1) (C := R_Sp) (T := T_Sp) (N := 8) hx hb hts i_Sp hown hK hP 1 rfl rfl 1 (by decide) (hts _ w_48) (fun _ h9 => h9) rfl d_Sp_meets_203 ?_
                    refine pz_i0 (pz_rS (d := 1) (As := [.int a4.2.2.1, .int a4.2.2.2, .int a4.1, .int a4.2.1, .int b4.1, .int b4.2.1]) (rest := []) X hN (c_Sp_sameWay l D cB cI cS a4.2.2.1 a4.2.2.2 a4.1 a4.2.1 b4.1 b4.2.1 _) k_Sp_sameWay w_315 ⟨by decide, by decide⟩ hK hP hD [] rfl rfl rfl hl.1 rfl (Nat.le_of_ble_eq_true rfl) d_Sp_meets_206 ⟨Nat.zero_le _, Nat.zero_le _⟩) hP hD hS hA [] rfl (fun H locs hP hS => ?_)
                    exact fin _ _ _ _ _ _ d_Sp_meets_209 hP hS (by simp only [mts, mt1, mt2, mt3, mt4, mt5, if_pos c_1, if_pos c_2, if_neg c_33, if_pos c_34, if_neg c_49, if_pos c_50, if_neg c_57, if_pos c_58, if_pos c_61]) (rfl) (swy_z _ _ _ _ _ _)
              · refine lv_aload_n hx hb d_Sp_meets_132 rfl (lv_at hl 0 rfl) ?_
                refine va_get (D := D) (ci := 4) (v := .int a4.2.2.1) (C := R_Sp) (T := T_Sp) (N := 8) hx hb hts i_Sp hown hK hP 0 rfl rfl 2 (by decide) (hts _ w_49) (fun _ h9 => h9) rfl d_Sp_meets_133 ?_
                refine lv_aload_n hx hb d_Sp_meets_136 rfl (lv_at hl 0 rfl) ?_
                refine va_get (D := D) (ci := 4) (v := .int a4.2.2.2) (C := R_Sp) (T := T_Sp) (N := 8) hx hb hts i_Sp hown hK hP 0 rfl rfl 3 (by decide) (hts _ w_50) (fun _ h9 => h9) rfl d_Sp_meets_137 ?_
                refine lv_aload_n hx hb d_Sp_meets_140 rfl (lv_at hl 0 rfl) ?_
                refine va_get (D := D) (ci := 4) (v := .int a4.1) (C := R_Sp) (T := T_Sp) (N := 8) hx hb hts i_Sp hown hK hP 0 rfl rfl 0 (by decide) (hts _ w_47) (fun _ h9 => h9) rfl d_Sp_meets_141 ?_
                refine lv_aload_n hx hb d_Sp_meets_144 rfl (lv_at hl 0 rfl) ?_
                refine va_get (D := D) (ci := 4) (v := .int a4.2.1) (C := R_Sp) (T := T_Sp) (N := 8) hx hb hts i_Sp hown hK hP 0 rfl rfl 1 (by decide) (hts _ w_48) (fun _ h9 => h9) rfl d_Sp_meets_145 ?_
                refine lv_aload_n hx hb d_Sp_meets_148 rfl (lv_at hl 1 rfl) ?_
                refine va_get (D := D) (ci := 4) (v := .int b4.2.2.1) (C := R_Sp) (T := T_Sp) (N := 8) hx hb hts i_Sp hown hK hP 1 rfl rfl 2 (by decide) (hts _ w_49) (fun _ h9 => h9) rfl d_Sp_meets_149 ?_
                refine lv_aload_n hx hb d_Sp_meets_152 rfl (lv_at hl 1 rfl) ?_
                refine va_get (D := D) (ci := 4) (v := .int b4.2.2.2) (C := R_Sp) (T := T_Sp) (N := 8) hx hb hts i_Sp hown hK hP 1 rfl rfl 3 (by decide) (hts _ w_50) (fun _ h9 => h9) rfl d_Sp_meets_153 ?_
                refine pz_i0 (pz_rS (d := 1) (As := [.int a4.2.2.1, .int a4.2.2.2, .int a4.1, .int a4.2.1, .int b4.2.2.1, .int b4.2.2.2]) (rest := []) X hN (c_Sp_sameWay l D cB cI cS a4.2.2.1 a4.2.2.2 a4.1 a4.2.1 b4.2.2.1 b4.2.2.2 _) k_Sp_sameWay w_315 ⟨by decide, by decide⟩ hK hP hD [] rfl rfl rfl hl.1 rfl (Nat.le_of_ble_eq_true rfl) d_Sp_meets_156 ⟨Nat.zero_le _, Nat.zero_le _⟩) hP hD hS hA [] rfl (fun H locs hP hS => ?_)
                exact fin _ _ _ _ _ _ d_Sp_meets_159 hP hS (by simp only [mts, mt1, mt2, mt3, mt4, mt5, if_pos c_1, if_pos c_2, if_neg c_33, if_pos c_34, if_neg c_49, if_pos c_50, if_pos c_57]) (rfl) (swy_z _ _ _ _ _ _)
          · refine lv_aload_n hx hb d_Sp_meets_82 rfl (lv_at hl 0 rfl) ?_
            refine va_get (D := D) (ci := 4) (v := .int a4.1) (C := R_Sp) (T := T_Sp) (N := 8) hx hb hts i_Sp hown hK hP 0 rfl rfl 0 (by decide) (hts _ w_47) (fun _ h9 => h9) rfl d_Sp_meets_83 ?_
            refine lv_aload_n hx hb d_Sp_meets_86 rfl (lv_at hl 0 rfl) ?_
            refine va_get (D := D) (ci := 4) (v := .int a4.2.1) (C := R_Sp) (T := T_Sp) (N := 8) hx hb hts i_Sp hown hK hP 0 rfl rfl 1 (by decide) (hts _ w_48) (fun _ h9 => h9) rfl d_Sp_meets_87 ?_
            refine lv_aload_n hx hb d_Sp_meets_90 rfl (lv_at hl 0 rfl) ?_
            refine va_get (D := D) (ci := 4) (v := .int a4.2.2.1) (C := R_Sp) (T := T_Sp) (N := 8) hx hb hts i_Sp hown hK hP 0 rfl rfl 2 (by decide) (hts _ w_49) (fun _ h9 => h9) rfl d_Sp_meets_91 ?_
            refine lv_aload_n hx hb d_Sp_meets_94 rfl (lv_at hl 0 rfl) ?_
            refine va_get (D := D) (ci := 4) (v := .int a4.2.2.2) (C := R_Sp) (T := T_Sp) (N := 8) hx hb hts i_Sp hown hK hP 0 rfl rfl 3 (by decide) (hts _ w_50) (fun _ h9 => h9) rfl d_Sp_meets_95 ?_
            refine lv_aload_n hx hb d_Sp_meets_98 rfl (lv_at hl 1 rfl) ?_
            refine va_get (D := D) (ci := 4) (v := .int b4.1) (C := R_Sp) (T := T_Sp) (N := 8) hx hb hts i_Sp hown hK hP 1 rfl rfl 0 (by decide) (hts _ w_47) (fun _ h9 => h9) rfl d_Sp_meets_99 ?_
            refine lv_aload_n hx hb d_Sp_meets_102 rfl (lv_at hl 1 rfl) ?_
            refine va_get (D := D) (ci := 4) (v := .int b4.2.1) (C := R_Sp) (T := T_Sp) (N := 8) hx hb hts i_Sp hown hK hP 1 rfl rfl 1 (by decide) (hts _ w_48) (fun _ h9 => h9) rfl d_Sp_meets_103 ?_
            refine pz_i0 (pz_rS (d := 1) (As := [.int a4.1, .int a4.2.1, .int a4.2.2.1, .int a4.2.2.2, .int b4.1, .int b4.2.1]) (rest := []) X hN (c_Sp_sameWay l D cB cI cS a4.1 a4.2.1 a4.2.2.1 a4.2.2.2 b4.1 b4.2.1 _) k_Sp_sameWay w_315 ⟨by decide, by decide⟩ hK hP hD [] rfl rfl rfl hl.1 rfl (Nat.le_of_ble_eq_true rfl) d_Sp_meets_106 ⟨Nat.zero_le _, Nat.zero_le _⟩) hP hD hS hA [] rfl (fun H locs hP hS => ?_)
            exact fin _ _ _ _ _ _ d_Sp_meets_109 hP hS (by simp only [mts, mt1, mt2, mt3, mt4, mt5, if_pos c_1, if_pos c_2, if_neg c_33, if_pos c_34, if_pos c_49]) (rfl) (swy_z _ _ _ _ _ _)
      · refine lv_aload_n hx hb d_Sp_meets_32 rfl (lv_at hl 0 rfl) ?_
        refine va_get (D := D) (ci := 4) (v := .int a4.1) (C := R_Sp) (T := T_Sp) (N := 8) hx hb hts i_Sp hown hK hP 0 rfl rfl 0 (by decide) (hts _ w_47) (fun _ h9 => h9) rfl d_Sp_meets_33 ?_
        refine lv_aload_n hx hb d_Sp_meets_36 rfl (lv_at hl 0 rfl) ?_
        refine va_get (D := D) (ci := 4) (v := .int a4.2.1) (C := R_Sp) (T := T_Sp) (N := 8) hx hb hts i_Sp hown hK hP 0 rfl rfl 1 (by decide) (hts _ w_48) (fun _ h9 => h9) rfl d_Sp_meets_37 ?_
        refine lv_aload_n hx hb d_Sp_meets_40 rfl (lv_at hl 0 rfl) ?_
        refine va_get (D := D) (ci := 4) (v := .int a4.2.2.1) (C := R_Sp) (T := T_Sp) (N := 8) hx hb hts i_Sp hown hK hP 0 rfl rfl 2 (by decide) (hts _ w_49) (fun _ h9 => h9) rfl d_Sp_meets_41 ?_
        refine lv_aload_n hx hb d_Sp_meets_44 rfl (lv_at hl 0 rfl) ?_
        refine va_get (D := D) (ci := 4) (v := .int a4.2.2.2) (C := R_Sp) (T := T_Sp) (N := 8) hx hb hts i_Sp hown hK hP 0 rfl rfl 3 (by decide) (hts _ w_50) (fun _ h9 => h9) rfl d_Sp_meets_45 ?_
        refine lv_aload_n hx hb d_Sp_meets_48 rfl (lv_at hl 1 rfl) ?_
        refine va_get (D := D) (ci := 4) (v := .int b4.2.2.1) (C := R_Sp) (T := T_Sp) (N := 8) hx hb hts i_Sp hown hK hP 1 rfl rfl 2 (by decide) (hts _ w_49) (fun _ h9 => h9) rfl d_Sp_meets_49 ?_
        refine lv_aload_n hx hb d_Sp_meets_52 rfl (lv_at hl 1 rfl) ?_
        refine va_get (D := D) (ci := 4) (v := .int b4.2.2.2) (C := R_Sp) (T := T_Sp) (N := 8) hx hb hts i_Sp hown hK hP 1 rfl rfl 3 (by decide) (hts _ w_50) (fun _ h9 => h9) rfl d_Sp_meets_53 ?_
        refine pz_i0 (pz_rS (d := 1) (As := [.int a4.1, .int a4.2.1, .int a4.2.2.1, .int a4.2.2.2, .int b4.2.2.1, .int b4.2.2.2]) (rest := []) X hN (c_Sp_sameWay l D cB cI cS a4.1 a4.2.1 a4.2.2.1 a4.2.2.2 b4.2.2.1 b4.2.2.2 _) k_Sp_sameWay w_315 ⟨by decide, by decide⟩ hK hP hD [] rfl rfl rfl hl.1 rfl (Nat.le_of_ble_eq_true rfl) d_Sp_meets_56 ⟨Nat.zero_le _, Nat.zero_le _⟩) hP hD hS hA [] rfl (fun H locs hP hS => ?_)
        exact fin _ _ _ _ _ _ d_Sp_meets_59 hP hS (by simp only [mts, mt1, mt2, mt3, mt4, mt5, if_pos c_1, if_pos c_2, if_pos c_33]) (rfl) (swy_z _ _ _ _ _ _)
  · refine lv_iconst (v := 0) hx hb d_Sp_meets_8 (by decide) ?_
    exact fin _ _ _ _ _ _ d_Sp_meets_9 hP hS (by simp only [mts, mt1, mt2, mt3, mt4, mt5, if_neg c_1]) (rfl) rfl
