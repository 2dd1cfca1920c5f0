theorem pz_cS {s : State} {cA cS : ClassId} {C : String} (h1 : va_RA s cA (.object C)) (h2 : va_RA s cS (.object C)) : cA = cS := by
  obtain ⟨k1, c1, -, -, -, a1⟩ := h1
  obtain ⟨k2, c2, -, -, -, a2⟩ := h2
  exact Option.some.inj (a1.symm.trans a2)

set_option maxRecDepth 100000 in
set_option maxHeartbeats 4000000 in
/-- Reader() -/
theorem c_Rd_init (l : Launch) (D : va_G) (cB cI cS : ClassId) (r0 : Nat) : mC l y_Rd_init b_Rd_init 2 2 133 9602 D cls [(cB, .byte), (cI, .int), (cS, .object "MapLumps$Span")] [.ref r0] ([(r0, .inr (1, [.null, .null, .null, .null, .int 0, .int 0, .int 0, .int 0, .int 0, .int 0, .int 0, .int 0, .int 0]))]) (fun (u : Nat × Nat × Nat × Nat × Nat × (Nat → Nat)) => [(r0, .inr (1, [.ref u.1, .ref u.2.2.1, .ref u.2.2.2.1, .ref u.2.2.2.2.1, .int 0, .int 0, .int 0, .int 0, .int 0, .int 0, .int 0, .int (-1), .int (-1)])), (u.1, .inr (3, [.ref u.2.1, .int 0])), (u.2.1, .inl (cB, 8192, .inl (fun _ => 0))), (u.2.2.1, .inl (cI, 128, .inl (fun _ => 0))), (u.2.2.2.1, .inl (cI, 128, .inl (fun _ => 0))), (u.2.2.2.2.1, .inl (cS, 128, .inr (.inr (.inr (.inr (fun i => some (u.2.2.2.2.2 i)))))))] ++ spw u.2.2.2.2.2 (fun _ => (0, 0, 0, 0))) := by
  refine pz_openC (by decide) rfl (Nat.le_of_ble_eq_true rfl) ?_
  intro p e s m below meth c A ls Q X hN hin hK hP hD hS hA hl fin
  obtain ⟨hx, hb, hml, hown, hts⟩ := id X
  have hl : lv_has ls 2 [(0, .ref r0)] := hl
  refine lv_aload_n hx hb d_Rd_init_0 rfl (lv_at hl 0 rfl) ?_
  refine W.objInit hx hb hown (hts _ w_23) (hts _ w_16) (hts _ w_17) rfl (hl.1.trans hml.symm) rfl d_Rd_init_1 (by decide) (Nat.le_of_ble_eq_true rfl) ?_
  refine W.eq (g2 := F0 m 4 ls []) rfl ?_
  refine lv_aload_n hx hb d_Rd_init_4 rfl (lv_at hl 0 rfl) ?_
  refine va_new (ci := 3) (fs := [.null, .int 0]) (C := R_Rw) (T := T_Rw) (N := 2) hx hb hts i_Rw ty_Rw tyok_Rw hown (hts _ w_24) (hts _ w_25) (hts _ w_3) hK hP hD hS hA rfl df_Rw (by decide) (by decide) d_Rd_init_5 (fun rw H hP hD hS => ?_)
  have hP : va_P D cls ([(r0, .inr (1, [.null, .null, .null, .null, .int 0, .int 0, .int 0, .int 0, .int 0, .int 0, .int 0, .int 0, .int 0])), (rw, .inr (3, [.null, .int 0]))]) H := hP
  have hD : va_D A ([(r0, .inr (1, [.null, .null, .null, .null, .int 0, .int 0, .int 0, .int 0, .int 0, .int 0, .int 0, .int 0, .int 0])), (rw, .inr (3, [.null, .int 0]))]) := hD
  refine lv_dup hx hb d_Rd_init_8 rfl ?_
  refine pz_c (pz_rIN (d := 1) (rest := [.ref rw, .ref r0]) X hN (c_Rw_init l D cB cI cS rw _) k_Rw_init (nk_26 hN) ⟨by decide, by decide⟩ hK hP hD [1] rfl rfl hl.1 rfl (Nat.le_of_ble_eq_true rfl) d_Rd_init_9 ⟨by decide, by decide⟩) hP hD hS hA [1] [0] rfl (wr := [(r0, .inr (1, [.null, .null, .null, .null, .int 0, .int 0, .int 0, .int 0, .int 0, .int 0, .int 0, .int 0, .int 0]))]) rfl (by decide) (by decide) (fun rb H locs hP hD hS => ?_)
  have hP : va_P D cls ([(r0, .inr (1, [.null, .null, .null, .null, .int 0, .int 0, .int 0, .int 0, .int 0, .int 0, .int 0, .int 0, .int 0])), (rw, .inr (3, [.ref rb, .int 0])), (rb, .inl (cB, 8192, .inl (fun _ => 0)))]) H := hP
  have hD : va_D A ([(r0, .inr (1, [.null, .null, .null, .null, .int 0, .int 0, .int 0, .int 0, .int 0, .int 0, .int 0, .int 0, .int 0])), (rw, .inr (3, [.ref rb, .int 0])), (rb, .inl (cB, 8192, .inl (fun _ => 0)))]) := hD
  refine va_putF (D := D) (ci := 1) (v := .ref rw) (ty := (.object "MapLumps$Row")) (C := R_Rd) (T := T_Rd) (N := 13) hx hb hts i_Rd ty_Rd tyok_Rd nm_Rd hown hK hP hD hS 0 rfl rfl 0 (by decide) (hts _ w_73) (fun _ h9 => h9) rfl hin rfl (by decide +kernel) rfl rfl (Nat.le_of_ble_eq_true rfl) d_Rd_init_12 (fun H locs hP hD hS => ?_)
  have hP : va_P D cls ([(r0, .inr (1, [.ref rw, .null, .null, .null, .int 0, .int 0, .int 0, .int 0, .int 0, .int 0, .int 0, .int 0, .int 0])), (rw, .inr (3, [.ref rb, .int 0])), (rb, .inl (cB, 8192, .inl (fun _ => 0)))]) H := hP
  have hD : va_D A ([(r0, .inr (1, [.ref rw, .null, .null, .null, .int 0, .int 0, .int 0, .int 0, .int 0, .int 0, .int 0, .int 0, .int 0])), (rw, .inr (3, [.ref rb, .int 0])), (rb, .inl (cB, 8192, .inl (fun _ => 0)))]) := hD
  refine lv_aload_n hx hb d_Rd_init_15 rfl (lv_at hl 0 rfl) ?_
  refine lv_sipush (v := 128) hx hb d_Rd_init_16 (by decide) ?_
  refine pz_newI (N' := 128) hx hb (hts _ w_72) hK 1 rfl hP hD hS hA (by decide) (by decide) (by decide) (by decide) (by decide) d_Rd_init_19 (fun rx H hP hD hS => ?_)
  have hP : va_P D cls ([(r0, .inr (1, [.ref rw, .null, .null, .null, .int 0, .int 0, .int 0, .int 0, .int 0, .int 0, .int 0, .int 0, .int 0])), (rw, .inr (3, [.ref rb, .int 0])), (rb, .inl (cB, 8192, .inl (fun _ => 0))), (rx, .inl (cI, 128, .inl (fun _ => 0)))]) H := hP
  have hD : va_D A ([(r0, .inr (1, [.ref rw, .null, .null, .null, .int 0, .int 0, .int 0, .int 0, .int 0, .int 0, .int 0, .int 0, .int 0])), (rw, .inr (3, [.ref rb, .int 0])), (rb, .inl (cB, 8192, .inl (fun _ => 0))), (rx, .inl (cI, 128, .inl (fun _ => 0)))]) := hD
  refine va_putF (D := D) (ci := 1) (v := .ref rx) (ty := (.array .int)) (C := R_Rd) (T := T_Rd) (N := 13) hx hb hts i_Rd ty_Rd tyok_Rd nm_Rd hown hK hP hD hS 0 rfl rfl 1 (by decide) (hts _ w_75) (fun _ h9 => h9) rfl hin rfl (by decide +kernel) rfl rfl (Nat.le_of_ble_eq_true rfl) d_Rd_init_21 (fun H locs hP hD hS => ?_)
  have hP : va_P D cls ([(r0, .inr (1, [.ref rw, .ref rx, .null, .null, .int 0, .int 0, .int 0, .int 0, .int 0, .int 0, .int 0, .int 0, .int 0])), (rw, .inr (3, [.ref rb, .int 0])), (rb, .inl (cB, 8192, .inl (fun _ => 0))), (rx, .inl (cI, 128, .inl (fun _ => 0)))]) H := hP
  have hD : va_D A ([(r0, .inr (1, [.ref rw, .ref rx, .null, .null, .int 0, .int 0, .int 0, .int 0, .int 0, .int 0, .int 0, .int 0, .int 0])), (rw, .inr (3, [.ref rb, .int 0])), (rb, .inl (cB, 8192, .inl (fun _ => 0))), (rx, .inl (cI, 128, .inl (fun _ => 0)))]) := hD
  refine lv_aload_n hx hb d_Rd_init_24 rfl (lv_at hl 0 rfl) ?_
  refine lv_sipush (v := 128) hx hb d_Rd_init_25 (by decide) ?_
  refine pz_newI (N' := 128) hx hb (hts _ w_72) hK 1 rfl hP hD hS hA (by decide) (by decide) (by decide) (by decide) (by decide) d_Rd_init_28 (fun ry H hP hD hS => ?_)
  have hP : va_P D cls ([(r0, .inr (1, [.ref rw, .ref rx, .null, .null, .int 0, .int 0, .int 0, .int 0, .int 0, .int 0, .int 0, .int 0, .int 0])), (rw, .inr (3, [.ref rb, .int 0])), (rb, .inl (cB, 8192, .inl (fun _ => 0))), (rx, .inl (cI, 128, .inl (fun _ => 0))), (ry, .inl (cI, 128, .inl (fun _ => 0)))]) H := hP
  have hD : va_D A ([(r0, .inr (1, [.ref rw, .ref rx, .null, .null, .int 0, .int 0, .int 0, .int 0, .int 0, .int 0, .int 0, .int 0, .int 0])), (rw, .inr (3, [.ref rb, .int 0])), (rb, .inl (cB, 8192, .inl (fun _ => 0))), (rx, .inl (cI, 128, .inl (fun _ => 0))), (ry, .inl (cI, 128, .inl (fun _ => 0)))]) := hD
  refine va_putF (D := D) (ci := 1) (v := .ref ry) (ty := (.array .int)) (C := R_Rd) (T := T_Rd) (N := 13) hx hb hts i_Rd ty_Rd tyok_Rd nm_Rd hown hK hP hD hS 0 rfl rfl 2 (by decide) (hts _ w_76) (fun _ h9 => h9) rfl hin rfl (by decide +kernel) rfl rfl (Nat.le_of_ble_eq_true rfl) d_Rd_init_30 (fun H locs hP hD hS => ?_)
  have hP : va_P D cls ([(r0, .inr (1, [.ref rw, .ref rx, .ref ry, .null, .int 0, .int 0, .int 0, .int 0, .int 0, .int 0, .int 0, .int 0, .int 0])), (rw, .inr (3, [.ref rb, .int 0])), (rb, .inl (cB, 8192, .inl (fun _ => 0))), (rx, .inl (cI, 128, .inl (fun _ => 0))), (ry, .inl (cI, 128, .inl (fun _ => 0)))]) H := hP
  have hD : va_D A ([(r0, .inr (1, [.ref rw, .ref rx, .ref ry, .null, .int 0, .int 0, .int 0, .int 0, .int 0, .int 0, .int 0, .int 0, .int 0])), (rw, .inr (3, [.ref rb, .int 0])), (rb, .inl (cB, 8192, .inl (fun _ => 0))), (rx, .inl (cI, 128, .inl (fun _ => 0))), (ry, .inl (cI, 128, .inl (fun _ => 0)))]) := hD
  refine lv_aload_n hx hb d_Rd_init_33 rfl (lv_at hl 0 rfl) ?_
  refine lv_sipush (v := 128) hx hb d_Rd_init_34 (by decide) ?_
  refine va_newq (N' := 128) hx hb hown (hts _ w_40) hN.2.2 hK hP hD hS hA (by decide) (by decide) (by decide) (by decide) (by decide) d_Rd_init_37 (fun rs cA H hK1 hP hD hS => ?_)
  have eS : cA = cS := pz_cS (hK1.2 3 _ rfl).2 (hK.2 2 _ rfl).2
  subst eS
  have hP : va_P D cls ([(r0, .inr (1, [.ref rw, .ref rx, .ref ry, .null, .int 0, .int 0, .int 0, .int 0, .int 0, .int 0, .int 0, .int 0, .int 0])), (rw, .inr (3, [.ref rb, .int 0])), (rb, .inl (cB, 8192, .inl (fun _ => 0))), (rx, .inl (cI, 128, .inl (fun _ => 0))), (ry, .inl (cI, 128, .inl (fun _ => 0))), (rs, .inl (cA, 128, .inr (.inr (.inr (.inr (fun _ => none))))))]) H := hP
  have hD : va_D A ([(r0, .inr (1, [.ref rw, .ref rx, .ref ry, .null, .int 0, .int 0, .int 0, .int 0, .int 0, .int 0, .int 0, .int 0, .int 0])), (rw, .inr (3, [.ref rb, .int 0])), (rb, .inl (cB, 8192, .inl (fun _ => 0))), (rx, .inl (cI, 128, .inl (fun _ => 0))), (ry, .inl (cI, 128, .inl (fun _ => 0))), (rs, .inl (cA, 128, .inr (.inr (.inr (.inr (fun _ => none))))))]) := hD
  refine va_putF (D := D) (ci := 1) (v := .ref rs) (ty := (.array (.object "MapLumps$Span"))) (C := R_Rd) (T := T_Rd) (N := 13) hx hb hts i_Rd ty_Rd tyok_Rd nm_Rd hown hK hP hD hS 0 rfl rfl 3 (by decide) (hts _ w_77) (fun _ h9 => h9) rfl hin rfl (by decide +kernel) rfl rfl (Nat.le_of_ble_eq_true rfl) d_Rd_init_40 (fun H locs hP hD hS => ?_)
  have hP : va_P D cls ([(r0, .inr (1, [.ref rw, .ref rx, .ref ry, .ref rs, .int 0, .int 0, .int 0, .int 0, .int 0, .int 0, .int 0, .int 0, .int 0])), (rw, .inr (3, [.ref rb, .int 0])), (rb, .inl (cB, 8192, .inl (fun _ => 0))), (rx, .inl (cI, 128, .inl (fun _ => 0))), (ry, .inl (cI, 128, .inl (fun _ => 0))), (rs, .inl (cA, 128, .inr (.inr (.inr (.inr (fun _ => none))))))]) H := hP
  have hD : va_D A ([(r0, .inr (1, [.ref rw, .ref rx, .ref ry, .ref rs, .int 0, .int 0, .int 0, .int 0, .int 0, .int 0, .int 0, .int 0, .int 0])), (rw, .inr (3, [.ref rb, .int 0])), (rb, .inl (cB, 8192, .inl (fun _ => 0))), (rx, .inl (cI, 128, .inl (fun _ => 0))), (ry, .inl (cI, 128, .inl (fun _ => 0))), (rs, .inl (cA, 128, .inr (.inr (.inr (.inr (fun _ => none))))))]) := hD
  refine lv_aload_n hx hb d_Rd_init_43 rfl (lv_at hl 0 rfl) ?_
  refine lv_iconst (v := (-1)) hx hb d_Rd_init_44 (by decide) ?_
  refine va_put (D := D) (ci := 1) (v := .int (-1)) (ty := (.int)) (C := R_Rd) (T := T_Rd) (N := 13) hx hb hts i_Rd ty_Rd tyok_Rd nm_Rd hown hK hP hD hS 0 rfl rfl 11 (by decide) (hts _ w_86) (fun _ h9 => h9) rfl (by decide +kernel) rfl rfl (Nat.le_of_ble_eq_true rfl) d_Rd_init_45 (fun H locs hP hD hS => ?_)
  have hP : va_P D cls ([(r0, .inr (1, [.ref rw, .ref rx, .ref ry, .ref rs, .int 0, .int 0, .int 0, .int 0, .int 0, .int 0, .int 0, .int (-1), .int 0])), (rw, .inr (3, [.ref rb, .int 0])), (rb, .inl (cB, 8192, .inl (fun _ => 0))), (rx, .inl (cI, 128, .inl (fun _ => 0))), (ry, .inl (cI, 128, .inl (fun _ => 0))), (rs, .inl (cA, 128, .inr (.inr (.inr (.inr (fun _ => none))))))]) H := hP
  have hD : va_D A ([(r0, .inr (1, [.ref rw, .ref rx, .ref ry, .ref rs, .int 0, .int 0, .int 0, .int 0, .int 0, .int 0, .int 0, .int (-1), .int 0])), (rw, .inr (3, [.ref rb, .int 0])), (rb, .inl (cB, 8192, .inl (fun _ => 0))), (rx, .inl (cI, 128, .inl (fun _ => 0))), (ry, .inl (cI, 128, .inl (fun _ => 0))), (rs, .inl (cA, 128, .inr (.inr (.inr (.inr (fun _ => none))))))]) := hD
  refine lv_aload_n hx hb d_Rd_init_48 rfl (lv_at hl 0 rfl) ?_
  refine lv_iconst (v := (-1)) hx hb d_Rd_init_49 (by decide) ?_
  refine va_put (D := D) (ci := 1) (v := .int (-1)) (ty := (.int)) (C := R_Rd) (T := T_Rd) (N := 13) hx hb hts i_Rd ty_Rd tyok_Rd nm_Rd hown hK hP hD hS 0 rfl rfl 12 (by decide) (hts _ w_88) (fun _ h9 => h9) rfl (by decide +kernel) rfl rfl (Nat.le_of_ble_eq_true rfl) d_Rd_init_50 (fun H locs hP hD hS => ?_)
  have hP : va_P D cls ([(r0, .inr (1, [.ref rw, .ref rx, .ref ry, .ref rs, .int 0, .int 0, .int 0, .int 0, .int 0, .int 0, .int 0, .int (-1), .int (-1)])), (rw, .inr (3, [.ref rb, .int 0])), (rb, .inl (cB, 8192, .inl (fun _ => 0))), (rx, .inl (cI, 128, .inl (fun _ => 0))), (ry, .inl (cI, 128, .inl (fun _ => 0))), (rs, .inl (cA, 128, .inr (.inr (.inr (.inr (fun _ => none))))))]) H := hP
  have hD : va_D A ([(r0, .inr (1, [.ref rw, .ref rx, .ref ry, .ref rs, .int 0, .int 0, .int 0, .int 0, .int 0, .int 0, .int 0, .int (-1), .int (-1)])), (rw, .inr (3, [.ref rb, .int 0])), (rb, .inl (cB, 8192, .inl (fun _ => 0))), (rx, .inl (cI, 128, .inl (fun _ => 0))), (ry, .inl (cI, 128, .inl (fun _ => 0))), (rs, .inl (cA, 128, .inr (.inr (.inr (.inr (fun _ => none))))))]) := hD
  refine lv_iconst (v := 0) hx hb d_Rd_init_53 (by decide) ?_
  refine lv_istore_n (lv' := [(1, .int 0), (0, .ref r0)]) hx hb d_Rd_init_54 rfl hl (by decide) rfl (fun ls hl => ?_)
  have hP := hP.sub (ws' := [(r0, .inr (1, [.ref rw, .ref rx, .ref ry, .ref rs, .int 0, .int 0, .int 0, .int 0, .int 0, .int 0, .int 0, .int (-1), .int (-1)])), (rw, .inr (3, [.ref rb, .int 0])), (rb, .inl (cB, 8192, .inl (fun _ => 0))), (rx, .inl (cI, 128, .inl (fun _ => 0))), (ry, .inl (cI, 128, .inl (fun _ => 0))), (rs, .inl (cA, 128, .inr (.inr (.inr (.inr (fun _ => none))))))]) [0, 1, 2, 3, 4, 5] rfl
  have hD := hD.sub (ws' := [(r0, .inr (1, [.ref rw, .ref rx, .ref ry, .ref rs, .int 0, .int 0, .int 0, .int 0, .int 0, .int 0, .int 0, .int (-1), .int (-1)])), (rw, .inr (3, [.ref rb, .int 0])), (rb, .inl (cB, 8192, .inl (fun _ => 0))), (rx, .inl (cI, 128, .inl (fun _ => 0))), (ry, .inl (cI, 128, .inl (fun _ => 0))), (rs, .inl (cA, 128, .inr (.inr (.inr (.inr (fun _ => none))))))]) [0, 1, 2, 3, 4, 5] (by decide) rfl
  have lp : ∀ (j i : Nat) (ad : Nat → Nat) (g : Nat → Option Nat) (ls : Array Slot) (H : Heap) (locs : List Loc), j + i = 128 → (∀ k, k < i → g k = some (ad k)) → va_P D cls ([(r0, .inr (1, [.ref rw, .ref rx, .ref ry, .ref rs, .int 0, .int 0, .int 0, .int 0, .int 0, .int 0, .int 0, .int (-1), .int (-1)])), (rw, .inr (3, [.ref rb, .int 0])), (rb, .inl (cB, 8192, .inl (fun _ => 0))), (rx, .inl (cI, 128, .inl (fun _ => 0))), (ry, .inl (cI, 128, .inl (fun _ => 0))), (rs, .inl (cA, 128, .inr (.inr (.inr (.inr g)))))] ++ spN ad i) H → va_D A ([(r0, .inr (1, [.ref rw, .ref rx, .ref ry, .ref rs, .int 0, .int 0, .int 0, .int 0, .int 0, .int 0, .int 0, .int (-1), .int (-1)])), (rw, .inr (3, [.ref rb, .int 0])), (rb, .inl (cB, 8192, .inl (fun _ => 0))), (rx, .inl (cI, 128, .inl (fun _ => 0))), (ry, .inl (cI, 128, .inl (fun _ => 0))), (rs, .inl (cA, 128, .inr (.inr (.inr (.inr g)))))] ++ spN ad i) → va_S A s.heap H locs → lv_has ls 2 [(0, .ref r0), (1, .int (nI i))] → W p l e (rmC 2 133 9602) s m ([.ref r0] : List Value).toArray below meth c H locs (5 + i) (8578 + 8 * i) Q (F0 m 55 ls []) := by
    intro j
    induction j with
    | zero =>
      intro i ad g ls H locs hi hg hP hD hS hl
      refine lv_iload_n hx hb d_Rd_init_55 rfl (lv_at hl 1 rfl) ?_
      refine lv_aload_n hx hb d_Rd_init_56 rfl (lv_at hl 0 rfl) ?_
      refine va_get (D := D) (ci := 1) (v := .ref rs) (C := R_Rd) (T := T_Rd) (N := 13) hx hb hts i_Rd hown hK hP 0 rfl rfl 3 (by decide) (hts _ w_77) (fun _ h9 => h9) rfl d_Rd_init_57 ?_
      refine va_alen hx hb hK hP 5 2 rfl rfl (v := 128) rfl d_Rd_init_60 ?_
      refine lv_icmp_ge (tgt := 83) hx hb d_Rd_init_61 (by decide) (fun c1 => ?_) (fun c1 => ?_)
      · obtain rfl : i = 128 := by omega
        have hP := pz_P5 (g' := fun i => some (ad i)) hg hP
        have hD := pz_D5 (y := .inl (cA, 128, .inr (.inr (.inr (.inr (fun i => some (ad i))))))) hD
        exact fin _ _ _ _ _ (rw, rb, rx, ry, rs, ad) d_Rd_init_83 hP hD hS rfl
      · exact (c1 (show nI 128 ≤ nI i by rw [nI_leI (by omega) (by omega)]; omega)).elim
    | succ j ih =>
      intro i ad g ls H locs hi hg hP hD hS hl
      refine lv_iload_n hx hb d_Rd_init_55 rfl (lv_at hl 1 rfl) ?_
      refine lv_aload_n hx hb d_Rd_init_56 rfl (lv_at hl 0 rfl) ?_
      refine va_get (D := D) (ci := 1) (v := .ref rs) (C := R_Rd) (T := T_Rd) (N := 13) hx hb hts i_Rd hown hK hP 0 rfl rfl 3 (by decide) (hts _ w_77) (fun _ h9 => h9) rfl d_Rd_init_57 ?_
      refine va_alen hx hb hK hP 5 2 rfl rfl (v := 128) rfl d_Rd_init_60 ?_
      refine lv_icmp_ge (tgt := 83) hx hb d_Rd_init_61 (by decide) (fun c1 => ?_) (fun c1 => ?_)
      · exact absurd c1 (show ¬ nI 128 ≤ nI i by rw [nI_leI (by omega) (by omega)]; omega)
      · refine lv_aload_n hx hb d_Rd_init_64 rfl (lv_at hl 0 rfl) ?_
        refine va_get (D := D) (ci := 1) (v := .ref rs) (C := R_Rd) (T := T_Rd) (N := 13) hx hb hts i_Rd hown hK hP 0 rfl rfl 3 (by decide) (hts _ w_77) (fun _ h9 => h9) rfl d_Rd_init_65 ?_
        refine lv_iload_n hx hb d_Rd_init_68 rfl (lv_at hl 1 rfl) ?_
        refine va_new (ci := 4) (fs := [.int 0, .int 0, .int 0, .int 0, .int 0, .int 0, .int 0, .int 0]) (C := R_Sp) (T := T_Sp) (N := 8) hx hb hts i_Sp ty_Sp tyok_Sp hown (hts _ w_40) (hts _ w_42) (hts _ w_4) hK hP hD hS hA rfl df_Sp (show 5 + i + 1 ≤ 133 by omega) (show 8578 + 8 * i + 8 ≤ 9602 by omega) d_Rd_init_69 (fun q H hP hD hS => ?_)
        refine W.widen (k := 5 + (i + 1)) (n := 8578 + 8 * (i + 1)) (by omega) (by omega) ?_
        refine lv_dup hx hb d_Rd_init_72 rfl ?_
        refine pz_c0 (pz_rIN (d := 1) (mc := 0) (ms := 0) (rest := [.ref q, .int (nI i), .ref rs]) X hN (c_Sp_init l D cB cI cA q _) k_Sp_init (nk_43 hN) ⟨by decide, by decide⟩ hK hP hD [6 + i] (spN_last rfl) rfl hl.1 rfl (Nat.le_of_ble_eq_true rfl) d_Rd_init_73 ⟨show 5 + (i + 1) + 0 ≤ 133 by omega, show 8578 + 8 * (i + 1) + 0 ≤ 9602 by omega⟩) hP hD hS hA [6 + i] (spN_last rfl) (fun H locs hP hS => ?_)
        refine va_astq hx hb hK hP hD hS 5 2 (6 + i) 4 (r := (R_Sp, T_Sp, 8)) rfl rfl (spN_at rfl) rfl (in_n (show i < 128 by omega) (by decide)) d_Rd_init_76 (fun H locs hP hD hS => ?_)
        rw [nI_clamp (show i < 2 ^ 31 by omega)] at hP hD
        have hP : va_P D cls ([(r0, .inr (1, [.ref rw, .ref rx, .ref ry, .ref rs, .int 0, .int 0, .int 0, .int 0, .int 0, .int 0, .int 0, .int (-1), .int (-1)])), (rw, .inr (3, [.ref rb, .int 0])), (rb, .inl (cB, 8192, .inl (fun _ => 0))), (rx, .inl (cI, 128, .inl (fun _ => 0))), (ry, .inl (cI, 128, .inl (fun _ => 0))), (rs, .inl (cA, 128, .inr (.inr (.inr (.inr (va_up g i (some q)))))))] ++ spN (pu ad i q) (i + 1)) H := by rw [← spN_push, ← List.append_assoc]; exact hP
        have hD : va_D A ([(r0, .inr (1, [.ref rw, .ref rx, .ref ry, .ref rs, .int 0, .int 0, .int 0, .int 0, .int 0, .int 0, .int 0, .int (-1), .int (-1)])), (rw, .inr (3, [.ref rb, .int 0])), (rb, .inl (cB, 8192, .inl (fun _ => 0))), (rx, .inl (cI, 128, .inl (fun _ => 0))), (ry, .inl (cI, 128, .inl (fun _ => 0))), (rs, .inl (cA, 128, .inr (.inr (.inr (.inr (va_up g i (some q)))))))] ++ spN (pu ad i q) (i + 1)) := by rw [← spN_push, ← List.append_assoc]; exact hD
        refine lv_iinc (v := nI (i + 1)) (lv' := [(1, .int (nI (i + 1))), (0, .ref r0)]) hx hb d_Rd_init_77 hl (k := 1) rfl (nI_1 i) (by decide) rfl (fun ls hl => ?_)
        refine lv_goto (tgt := 55) hx hb d_Rd_init_80 (by decide) ?_
        exact ih (i + 1) (pu ad i q) (va_up g i (some q)) _ _ _ (by omega) (hg_step hg) hP hD hS (lv_sub hl [1, 0] rfl)
  refine W.widen (k := 5 + 0) (n := 8578 + 8 * 0) (by decide) (by decide) ?_
  exact lp 128 0 (fun _ => 0) (fun _ => none) _ _ _ (by omega) (fun k hk => absurd hk (by omega)) (by rw [show spN (fun _ => 0) 0 = [] from rfl, List.append_nil]; exact hP) (by rw [show spN (fun _ => 0) 0 = [] from rfl, List.append_nil]; exact hD) hS (lv_sub hl [1, 0] rfl)
