set_option maxRecDepth 100000 in
set_option maxHeartbeats 4000000 in
/-- MapLumpsModel() -/
theorem c_Mo_init (l : Launch) (D : va_G) (cB cI cS : ClassId) (o0 : Nat) : mC l y_Mo_init b_Mo_init 1 1 3 24576 D cls [(cB, .byte), (cI, .int), (cS, .object "MapLumps$Span")] [.ref o0] ([(o0, .inr (5, [.int 0, .null, .int 0, .null, .int 0, .null, .int 0, .int 0, .int 0, .int 0, .int 0, .int 0, .int 0]))]) (fun (u : Nat × Nat × Nat) => [(o0, .inr (5, [.int 0, .ref u.1, .int 0, .ref u.2.1, .int 0, .ref u.2.2, .int 0, .int 0, .int (-1), .int (-1), .int 0, .int 0, .int 0])), (u.1, .inl (cB, 8192, .inl (fun _ => 0))), (u.2.1, .inl (cB, 8192, .inl (fun _ => 0))), (u.2.2, .inl (cB, 8192, .inl (fun _ => 0)))]) := by
  refine pz_openC (by decide) rfl (Nat.le_of_ble_eq_true rfl) ?_
  intro p e s m below meth c A ls Q X hN hin hK hP hD hS hA hl fin
  obtain ⟨hx, hb, hml, hown, hts⟩ := id X
  have hl : lv_has ls 1 [(0, .ref o0)] := hl
  refine lv_aload_n hx hb d_Mo_init_0 rfl (lv_at hl 0 rfl) ?_
  refine W.objInit hx hb hown (hts _ w_417) (hts _ w_16) (hts _ w_17) rfl (hl.1.trans hml.symm) rfl d_Mo_init_1 (by decide) (Nat.le_of_ble_eq_true rfl) ?_
  refine W.eq (g2 := F0 m 4 ls []) rfl ?_
  refine lv_aload_n hx hb d_Mo_init_4 rfl (lv_at hl 0 rfl) ?_
  refine lv_sipush (v := 8192) hx hb d_Mo_init_5 (by decide) ?_
  refine pz_newB (N' := 8192) hx hb (hts _ w_39) hK 0 rfl hP hD hS hA (by decide) (by decide) (by decide) (by decide) (by decide) d_Mo_init_8 (fun ib H hP hD hS => ?_)
  have hP : va_P D cls ([(o0, .inr (5, [.int 0, .null, .int 0, .null, .int 0, .null, .int 0, .int 0, .int 0, .int 0, .int 0, .int 0, .int 0])), (ib, .inl (cB, 8192, .inl (fun _ => 0)))]) H := hP
  have hD : va_D A ([(o0, .inr (5, [.int 0, .null, .int 0, .null, .int 0, .null, .int 0, .int 0, .int 0, .int 0, .int 0, .int 0, .int 0])), (ib, .inl (cB, 8192, .inl (fun _ => 0)))]) := hD
  refine va_putF (D := D) (ci := 5) (v := .ref ib) (ty := (.array .byte)) (C := R_Mo) (T := T_Mo) (N := 13) hx hb hts i_Mo ty_Mo tyok_Mo nm_Mo hown hK hP hD hS 0 rfl rfl 1 (by decide) (hts _ w_419) (fun _ h9 => h9) rfl hin rfl (by decide +kernel) rfl rfl (Nat.le_of_ble_eq_true rfl) d_Mo_init_10 (fun H locs hP hD hS => ?_)
  have hP : va_P D cls ([(o0, .inr (5, [.int 0, .ref ib, .int 0, .null, .int 0, .null, .int 0, .int 0, .int 0, .int 0, .int 0, .int 0, .int 0])), (ib, .inl (cB, 8192, .inl (fun _ => 0)))]) H := hP
  have hD : va_D A ([(o0, .inr (5, [.int 0, .ref ib, .int 0, .null, .int 0, .null, .int 0, .int 0, .int 0, .int 0, .int 0, .int 0, .int 0])), (ib, .inl (cB, 8192, .inl (fun _ => 0)))]) := hD
  refine lv_aload_n hx hb d_Mo_init_13 rfl (lv_at hl 0 rfl) ?_
  refine lv_sipush (v := 8192) hx hb d_Mo_init_14 (by decide) ?_
  refine pz_newB (N' := 8192) hx hb (hts _ w_39) hK 0 rfl hP hD hS hA (by decide) (by decide) (by decide) (by decide) (by decide) d_Mo_init_17 (fun pb H hP hD hS => ?_)
  have hP : va_P D cls ([(o0, .inr (5, [.int 0, .ref ib, .int 0, .null, .int 0, .null, .int 0, .int 0, .int 0, .int 0, .int 0, .int 0, .int 0])), (ib, .inl (cB, 8192, .inl (fun _ => 0))), (pb, .inl (cB, 8192, .inl (fun _ => 0)))]) H := hP
  have hD : va_D A ([(o0, .inr (5, [.int 0, .ref ib, .int 0, .null, .int 0, .null, .int 0, .int 0, .int 0, .int 0, .int 0, .int 0, .int 0])), (ib, .inl (cB, 8192, .inl (fun _ => 0))), (pb, .inl (cB, 8192, .inl (fun _ => 0)))]) := hD
  refine va_putF (D := D) (ci := 5) (v := .ref pb) (ty := (.array .byte)) (C := R_Mo) (T := T_Mo) (N := 13) hx hb hts i_Mo ty_Mo tyok_Mo nm_Mo hown hK hP hD hS 0 rfl rfl 3 (by decide) (hts _ w_421) (fun _ h9 => h9) rfl hin rfl (by decide +kernel) rfl rfl (Nat.le_of_ble_eq_true rfl) d_Mo_init_19 (fun H locs hP hD hS => ?_)
  have hP : va_P D cls ([(o0, .inr (5, [.int 0, .ref ib, .int 0, .ref pb, .int 0, .null, .int 0, .int 0, .int 0, .int 0, .int 0, .int 0, .int 0])), (ib, .inl (cB, 8192, .inl (fun _ => 0))), (pb, .inl (cB, 8192, .inl (fun _ => 0)))]) H := hP
  have hD : va_D A ([(o0, .inr (5, [.int 0, .ref ib, .int 0, .ref pb, .int 0, .null, .int 0, .int 0, .int 0, .int 0, .int 0, .int 0, .int 0])), (ib, .inl (cB, 8192, .inl (fun _ => 0))), (pb, .inl (cB, 8192, .inl (fun _ => 0)))]) := hD
  refine lv_aload_n hx hb d_Mo_init_22 rfl (lv_at hl 0 rfl) ?_
  refine lv_sipush (v := 8192) hx hb d_Mo_init_23 (by decide) ?_
  refine pz_newB (N' := 8192) hx hb (hts _ w_39) hK 0 rfl hP hD hS hA (by decide) (by decide) (by decide) (by decide) (by decide) d_Mo_init_26 (fun qb H hP hD hS => ?_)
  have hP : va_P D cls ([(o0, .inr (5, [.int 0, .ref ib, .int 0, .ref pb, .int 0, .null, .int 0, .int 0, .int 0, .int 0, .int 0, .int 0, .int 0])), (ib, .inl (cB, 8192, .inl (fun _ => 0))), (pb, .inl (cB, 8192, .inl (fun _ => 0))), (qb, .inl (cB, 8192, .inl (fun _ => 0)))]) H := hP
  have hD : va_D A ([(o0, .inr (5, [.int 0, .ref ib, .int 0, .ref pb, .int 0, .null, .int 0, .int 0, .int 0, .int 0, .int 0, .int 0, .int 0])), (ib, .inl (cB, 8192, .inl (fun _ => 0))), (pb, .inl (cB, 8192, .inl (fun _ => 0))), (qb, .inl (cB, 8192, .inl (fun _ => 0)))]) := hD
  refine va_putF (D := D) (ci := 5) (v := .ref qb) (ty := (.array .byte)) (C := R_Mo) (T := T_Mo) (N := 13) hx hb hts i_Mo ty_Mo tyok_Mo nm_Mo hown hK hP hD hS 0 rfl rfl 5 (by decide) (hts _ w_423) (fun _ h9 => h9) rfl hin rfl (by decide +kernel) rfl rfl (Nat.le_of_ble_eq_true rfl) d_Mo_init_28 (fun H locs hP hD hS => ?_)
  have hP : va_P D cls ([(o0, .inr (5, [.int 0, .ref ib, .int 0, .ref pb, .int 0, .ref qb, .int 0, .int 0, .int 0, .int 0, .int 0, .int 0, .int 0])), (ib, .inl (cB, 8192, .inl (fun _ => 0))), (pb, .inl (cB, 8192, .inl (fun _ => 0))), (qb, .inl (cB, 8192, .inl (fun _ => 0)))]) H := hP
  have hD : va_D A ([(o0, .inr (5, [.int 0, .ref ib, .int 0, .ref pb, .int 0, .ref qb, .int 0, .int 0, .int 0, .int 0, .int 0, .int 0, .int 0])), (ib, .inl (cB, 8192, .inl (fun _ => 0))), (pb, .inl (cB, 8192, .inl (fun _ => 0))), (qb, .inl (cB, 8192, .inl (fun _ => 0)))]) := hD
  refine lv_aload_n hx hb d_Mo_init_31 rfl (lv_at hl 0 rfl) ?_
  refine lv_iconst (v := (-1)) hx hb d_Mo_init_32 (by decide) ?_
  refine va_put (D := D) (ci := 5) (v := .int (-1)) (ty := (.int)) (C := R_Mo) (T := T_Mo) (N := 13) hx hb hts i_Mo ty_Mo tyok_Mo nm_Mo hown hK hP hD hS 0 rfl rfl 8 (by decide) (hts _ w_426) (fun _ h9 => h9) rfl (by decide +kernel) rfl rfl (Nat.le_of_ble_eq_true rfl) d_Mo_init_33 (fun H locs hP hD hS => ?_)
  have hP : va_P D cls ([(o0, .inr (5, [.int 0, .ref ib, .int 0, .ref pb, .int 0, .ref qb, .int 0, .int 0, .int (-1), .int 0, .int 0, .int 0, .int 0])), (ib, .inl (cB, 8192, .inl (fun _ => 0))), (pb, .inl (cB, 8192, .inl (fun _ => 0))), (qb, .inl (cB, 8192, .inl (fun _ => 0)))]) H := hP
  have hD : va_D A ([(o0, .inr (5, [.int 0, .ref ib, .int 0, .ref pb, .int 0, .ref qb, .int 0, .int 0, .int (-1), .int 0, .int 0, .int 0, .int 0])), (ib, .inl (cB, 8192, .inl (fun _ => 0))), (pb, .inl (cB, 8192, .inl (fun _ => 0))), (qb, .inl (cB, 8192, .inl (fun _ => 0)))]) := hD
  refine lv_aload_n hx hb d_Mo_init_36 rfl (lv_at hl 0 rfl) ?_
  refine lv_iconst (v := (-1)) hx hb d_Mo_init_37 (by decide) ?_
  refine va_put (D := D) (ci := 5) (v := .int (-1)) (ty := (.int)) (C := R_Mo) (T := T_Mo) (N := 13) hx hb hts i_Mo ty_Mo tyok_Mo nm_Mo hown hK hP hD hS 0 rfl rfl 9 (by decide) (hts _ w_427) (fun _ h9 => h9) rfl (by decide +kernel) rfl rfl (Nat.le_of_ble_eq_true rfl) d_Mo_init_38 (fun H locs hP hD hS => ?_)
  have hP : va_P D cls ([(o0, .inr (5, [.int 0, .ref ib, .int 0, .ref pb, .int 0, .ref qb, .int 0, .int 0, .int (-1), .int (-1), .int 0, .int 0, .int 0])), (ib, .inl (cB, 8192, .inl (fun _ => 0))), (pb, .inl (cB, 8192, .inl (fun _ => 0))), (qb, .inl (cB, 8192, .inl (fun _ => 0)))]) H := hP
  have hD : va_D A ([(o0, .inr (5, [.int 0, .ref ib, .int 0, .ref pb, .int 0, .ref qb, .int 0, .int 0, .int (-1), .int (-1), .int 0, .int 0, .int 0])), (ib, .inl (cB, 8192, .inl (fun _ => 0))), (pb, .inl (cB, 8192, .inl (fun _ => 0))), (qb, .inl (cB, 8192, .inl (fun _ => 0)))]) := hD
  exact fin _ _ _ _ _ ((ib, pb, qb)) d_Mo_init_41 hP hD hS rfl

set_option maxRecDepth 100000 in
set_option maxHeartbeats 4000000 in
/-- Row() -/
theorem c_Rw_init (l : Launch) (D : va_G) (cB cI cS : ClassId) (h0 : Nat) : mC l y_Rw_init b_Rw_init 1 1 1 8192 D cls [(cB, .byte), (cI, .int), (cS, .object "MapLumps$Span")] [.ref h0] ([(h0, .inr (3, [.null, .int 0]))]) (fun (u : Nat) => [(h0, .inr (3, [.ref u, .int 0])), (u, .inl (cB, 8192, .inl (fun _ => 0)))]) := by
  refine pz_openC (by decide) rfl (Nat.le_of_ble_eq_true rfl) ?_
  intro p e s m below meth c A ls Q X hN hin hK hP hD hS hA hl fin
  obtain ⟨hx, hb, hml, hown, hts⟩ := id X
  have hl : lv_has ls 1 [(0, .ref h0)] := hl
  refine lv_aload_n hx hb d_Rw_init_0 rfl (lv_at hl 0 rfl) ?_
  refine W.objInit hx hb hown (hts _ w_29) (hts _ w_16) (hts _ w_17) rfl (hl.1.trans hml.symm) rfl d_Rw_init_1 (by decide) (Nat.le_of_ble_eq_true rfl) ?_
  refine W.eq (g2 := F0 m 4 ls []) rfl ?_
  refine lv_aload_n hx hb d_Rw_init_4 rfl (lv_at hl 0 rfl) ?_
  refine lv_sipush (v := 8192) hx hb d_Rw_init_5 (by decide) ?_
  refine pz_newB (N' := 8192) hx hb (hts _ w_39) hK 0 rfl hP hD hS hA (by decide) (by decide) (by decide) (by decide) (by decide) d_Rw_init_8 (fun hc H hP hD hS => ?_)
  have hP : va_P D cls ([(h0, .inr (3, [.null, .int 0])), (hc, .inl (cB, 8192, .inl (fun _ => 0)))]) H := hP
  have hD : va_D A ([(h0, .inr (3, [.null, .int 0])), (hc, .inl (cB, 8192, .inl (fun _ => 0)))]) := hD
  refine va_putF (D := D) (ci := 3) (v := .ref hc) (ty := (.array .byte)) (C := R_Rw) (T := T_Rw) (N := 2) hx hb hts i_Rw ty_Rw tyok_Rw nm_Rw hown hK hP hD hS 0 rfl rfl 0 (by decide) (hts _ w_30) (fun _ h9 => h9) rfl hin rfl (by decide +kernel) rfl rfl (Nat.le_of_ble_eq_true rfl) d_Rw_init_10 (fun H locs hP hD hS => ?_)
  have hP : va_P D cls ([(h0, .inr (3, [.ref hc, .int 0])), (hc, .inl (cB, 8192, .inl (fun _ => 0)))]) H := hP
  have hD : va_D A ([(h0, .inr (3, [.ref hc, .int 0])), (hc, .inl (cB, 8192, .inl (fun _ => 0)))]) := hD
  exact fin _ _ _ _ _ (hc) d_Rw_init_13 hP hD hS rfl

set_option maxRecDepth 100000 in
set_option maxHeartbeats 4000000 in
/-- Span() -/
theorem c_Sp_init (l : Launch) (D : va_G) (cB cI cS : ClassId) (h0 : Nat) : mC l y_Sp_init b_Sp_init 1 1 0 0 D cls [(cB, .byte), (cI, .int), (cS, .object "MapLumps$Span")] [.ref h0] ([(h0, .inr (4, [.int 0, .int 0, .int 0, .int 0, .int 0, .int 0, .int 0, .int 0]))]) (fun (u : Unit) => [(h0, .inr (4, [.int 0, .int 0, .int 0, .int 0, .int 0, .int 0, .int 0, .int 0]))]) := by
  refine pz_openC (by decide) rfl (Nat.le_of_ble_eq_true rfl) ?_
  intro p e s m below meth c A ls Q X hN hin hK hP hD hS hA hl fin
  obtain ⟨hx, hb, hml, hown, hts⟩ := id X
  have hl : lv_has ls 1 [(0, .ref h0)] := hl
  refine lv_aload_n hx hb d_Sp_init_0 rfl (lv_at hl 0 rfl) ?_
  refine W.objInit hx hb hown (hts _ w_46) (hts _ w_16) (hts _ w_17) rfl (hl.1.trans hml.symm) rfl d_Sp_init_1 (by decide) (Nat.le_of_ble_eq_true rfl) ?_
  refine W.eq (g2 := F0 m 4 ls []) rfl ?_
  exact fin _ _ _ _ _ (()) d_Sp_init_4 hP hD hS rfl
