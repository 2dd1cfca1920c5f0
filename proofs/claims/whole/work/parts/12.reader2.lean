set_option maxRecDepth 100000 in
set_option maxHeartbeats 4000000 in
/-- Reader.passHead -/
theorem c_Rd_passHead (l : Launch) (D : va_G) (cB cI cS : ClassId) (r0 rw rx ry rs rb : Nat) (nv nt ns nw wa fw : Int32) (q : S3) (f : Nat → Int32) (n : Nat) (hn : n ≤ 8192) : mV l y_Rd_passHead b_Rd_passHead 1 (none) 3 D cls [(cB, .byte), (cI, .int), (cS, .object "MapLumps$Span")] [.ref r0] ([(r0, .inr (1, [.ref rw, .ref rx, .ref ry, .ref rs, .int nv, .int nt, .int ns, .int nw, .int wa, .int q.1, .int q.2.1, .int q.2.2, .int fw])), (rw, .inr (3, [.ref rb, .int (nI n)])), (rb, .inl (cB, 8192, .inl f))]) ([(r0, .inr (1, [.ref rw, .ref rx, .ref ry, .ref rs, .int ((hd1 f n q).1), .int ((hd2 f n q).1), .int ((hd3 f n q).1), .int ((hd4 f n q).1), .int wa, .int ((hd4 f n q).2.1), .int ((hd4 f n q).2.2.1), .int ((hd4 f n q).2.2.2), .int fw])), (rw, .inr (3, [.ref rb, .int (nI n)])), (rb, .inl (cB, 8192, .inl f))]) := by
  refine pz_openV (by decide) (Nat.le_of_ble_eq_true rfl) ?_
  intro p e s m below meth c A ls Q X hN hK hP hD hS hA hl fin
  obtain ⟨hx, hb, hml, hown, hts⟩ := id X
  have hl : lv_has ls 1 [(0, .ref r0)] := hl
  refine lv_aload_n hx hb d_Rd_passHead_0 rfl (lv_at hl 0 rfl) ?_
  refine lv_bipush (v := 77) hx hb d_Rd_passHead_1 (by decide) ?_
  refine lv_iconst (v := 2) hx hb d_Rd_passHead_3 (by decide) ?_
  refine pz_v (pz_rV (d := 2) (As := [.int 77, .int 2]) (rest := []) X hN (c_Rd_expect l D cB cI cS r0 rw rx ry rs rb nv nt ns nw wa fw q f n 77 2 hn _) k_Rd_expect w_220 ⟨by decide, by decide⟩ hK hP hD [0, 1, 2] rfl rfl 0 rfl rfl rfl rfl hl.1 rfl (Nat.le_of_ble_eq_true rfl) d_Rd_passHead_4 ⟨Nat.zero_le _, Nat.zero_le _⟩) hP hD hS hA [0, 1, 2] rfl [r0, rw, rb] rfl rfl (fun H locs hP hD hS => ?_)
  generalize eg_1 : ex f n q 77 2 = g_1 at hP hD ⊢
  have hP : va_P D cls ([(r0, .inr (1, [.ref rw, .ref rx, .ref ry, .ref rs, .int nv, .int nt, .int ns, .int nw, .int wa, .int g_1.1, .int g_1.2.1, .int g_1.2.2, .int fw])), (rw, .inr (3, [.ref rb, .int (nI n)])), (rb, .inl (cB, 8192, .inl f))]) H := hP
  have hD : va_D A ([(r0, .inr (1, [.ref rw, .ref rx, .ref ry, .ref rs, .int nv, .int nt, .int ns, .int nw, .int wa, .int g_1.1, .int g_1.2.1, .int g_1.2.2, .int fw])), (rw, .inr (3, [.ref rb, .int (nI n)])), (rb, .inl (cB, 8192, .inl f))]) := hD
  refine lv_aload_n hx hb d_Rd_passHead_7 rfl (lv_at hl 0 rfl) ?_
  refine lv_bipush (v := 72) hx hb d_Rd_passHead_8 (by decide) ?_
  refine lv_iconst (v := 2) hx hb d_Rd_passHead_10 (by decide) ?_
  refine pz_v (pz_rV (d := 2) (As := [.int 72, .int 2]) (rest := []) X hN (c_Rd_expect l D cB cI cS r0 rw rx ry rs rb nv nt ns nw wa fw g_1 f n 72 2 hn _) k_Rd_expect w_220 ⟨by decide, by decide⟩ hK hP hD [0, 1, 2] rfl rfl 0 rfl rfl rfl rfl hl.1 rfl (Nat.le_of_ble_eq_true rfl) d_Rd_passHead_11 ⟨Nat.zero_le _, Nat.zero_le _⟩) hP hD hS hA [0, 1, 2] rfl [r0, rw, rb] rfl rfl (fun H locs hP hD hS => ?_)
  generalize eg_2 : ex f n g_1 72 2 = g_2 at hP hD ⊢
  have hP : va_P D cls ([(r0, .inr (1, [.ref rw, .ref rx, .ref ry, .ref rs, .int nv, .int nt, .int ns, .int nw, .int wa, .int g_2.1, .int g_2.2.1, .int g_2.2.2, .int fw])), (rw, .inr (3, [.ref rb, .int (nI n)])), (rb, .inl (cB, 8192, .inl f))]) H := hP
  have hD : va_D A ([(r0, .inr (1, [.ref rw, .ref rx, .ref ry, .ref rs, .int nv, .int nt, .int ns, .int nw, .int wa, .int g_2.1, .int g_2.2.1, .int g_2.2.2, .int fw])), (rw, .inr (3, [.ref rb, .int (nI n)])), (rb, .inl (cB, 8192, .inl f))]) := hD
  refine lv_aload_n hx hb d_Rd_passHead_14 rfl (lv_at hl 0 rfl) ?_
  refine lv_iconst (v := 1) hx hb d_Rd_passHead_15 (by decide) ?_
  refine lv_iconst (v := 2) hx hb d_Rd_passHead_16 (by decide) ?_
  refine pz_v (pz_rV (d := 2) (As := [.int 1, .int 2]) (rest := []) X hN (c_Rd_expect l D cB cI cS r0 rw rx ry rs rb nv nt ns nw wa fw g_2 f n 1 2 hn _) k_Rd_expect w_220 ⟨by decide, by decide⟩ hK hP hD [0, 1, 2] rfl rfl 0 rfl rfl rfl rfl hl.1 rfl (Nat.le_of_ble_eq_true rfl) d_Rd_passHead_17 ⟨Nat.zero_le _, Nat.zero_le _⟩) hP hD hS hA [0, 1, 2] rfl [r0, rw, rb] rfl rfl (fun H locs hP hD hS => ?_)
  generalize eg_3 : ex f n g_2 1 2 = g_3 at hP hD ⊢
  have hP : va_P D cls ([(r0, .inr (1, [.ref rw, .ref rx, .ref ry, .ref rs, .int nv, .int nt, .int ns, .int nw, .int wa, .int g_3.1, .int g_3.2.1, .int g_3.2.2, .int fw])), (rw, .inr (3, [.ref rb, .int (nI n)])), (rb, .inl (cB, 8192, .inl f))]) H := hP
  have hD : va_D A ([(r0, .inr (1, [.ref rw, .ref rx, .ref ry, .ref rs, .int nv, .int nt, .int ns, .int nw, .int wa, .int g_3.1, .int g_3.2.1, .int g_3.2.2, .int fw])), (rw, .inr (3, [.ref rb, .int (nI n)])), (rb, .inl (cB, 8192, .inl f))]) := hD
  refine lv_aload_n hx hb d_Rd_passHead_20 rfl (lv_at hl 0 rfl) ?_
  refine lv_aload_n hx hb d_Rd_passHead_21 rfl (lv_at hl 0 rfl) ?_
  refine lv_iconst (v := 0) hx hb d_Rd_passHead_22 (by decide) ?_
  refine lv_sipush (v := 128) hx hb d_Rd_passHead_23 (by decide) ?_
  refine pz_i (pz_rV (d := 2) (As := [.int 0, .int 128]) (rest := [.ref r0]) X hN (c_Rd_small l D cB cI cS r0 rw rx ry rs rb nv nt ns nw wa fw g_3 f n 0 128 hn _) k_Rd_small w_236 ⟨by decide, by decide⟩ hK hP hD [0, 1, 2] rfl rfl 0 rfl rfl rfl rfl hl.1 rfl (Nat.le_of_ble_eq_true rfl) d_Rd_passHead_26 ⟨Nat.zero_le _, Nat.zero_le _⟩) hP hD hS hA [0, 1, 2] rfl [r0, rw, rb] rfl rfl (fun H locs hP hD hS => ?_)
  generalize eg_4 : sm f n g_3 0 128 = g_4 at hP hD ⊢
  have hP : va_P D cls ([(r0, .inr (1, [.ref rw, .ref rx, .ref ry, .ref rs, .int nv, .int nt, .int ns, .int nw, .int wa, .int g_4.2.1, .int g_4.2.2.1, .int g_4.2.2.2, .int fw])), (rw, .inr (3, [.ref rb, .int (nI n)])), (rb, .inl (cB, 8192, .inl f))]) H := hP
  have hD : va_D A ([(r0, .inr (1, [.ref rw, .ref rx, .ref ry, .ref rs, .int nv, .int nt, .int ns, .int nw, .int wa, .int g_4.2.1, .int g_4.2.2.1, .int g_4.2.2.2, .int fw])), (rw, .inr (3, [.ref rb, .int (nI n)])), (rb, .inl (cB, 8192, .inl f))]) := hD
  refine va_put (D := D) (ci := 1) (v := .int g_4.1) (ty := (.int)) (C := R_Rd) (T := T_Rd) (N := 13) hx hb hts i_Rd ty_Rd tyok_Rd nm_Rd hown hK hP hD hS 0 rfl rfl 4 (by decide) (hts _ w_78) (fun _ h9 => h9) rfl (by decide +kernel) rfl rfl (Nat.le_of_ble_eq_true rfl) d_Rd_passHead_29 (fun H locs hP hD hS => ?_)
  have hP : va_P D cls ([(r0, .inr (1, [.ref rw, .ref rx, .ref ry, .ref rs, .int g_4.1, .int nt, .int ns, .int nw, .int wa, .int g_4.2.1, .int g_4.2.2.1, .int g_4.2.2.2, .int fw])), (rw, .inr (3, [.ref rb, .int (nI n)])), (rb, .inl (cB, 8192, .inl f))]) H := hP
  have hD : va_D A ([(r0, .inr (1, [.ref rw, .ref rx, .ref ry, .ref rs, .int g_4.1, .int nt, .int ns, .int nw, .int wa, .int g_4.2.1, .int g_4.2.2.1, .int g_4.2.2.2, .int fw])), (rw, .inr (3, [.ref rb, .int (nI n)])), (rb, .inl (cB, 8192, .inl f))]) := hD
  refine lv_aload_n hx hb d_Rd_passHead_32 rfl (lv_at hl 0 rfl) ?_
  refine lv_aload_n hx hb d_Rd_passHead_33 rfl (lv_at hl 0 rfl) ?_
  refine lv_iconst (v := 0) hx hb d_Rd_passHead_34 (by decide) ?_
  refine lv_bipush (v := 16) hx hb d_Rd_passHead_35 (by decide) ?_
  refine pz_i (pz_rV (d := 2) (As := [.int 0, .int 16]) (rest := [.ref r0]) X hN (c_Rd_small l D cB cI cS r0 rw rx ry rs rb g_4.1 nt ns nw wa fw g_4.2 f n 0 16 hn _) k_Rd_small w_236 ⟨by decide, by decide⟩ hK hP hD [0, 1, 2] rfl rfl 0 rfl rfl rfl rfl hl.1 rfl (Nat.le_of_ble_eq_true rfl) d_Rd_passHead_37 ⟨Nat.zero_le _, Nat.zero_le _⟩) hP hD hS hA [0, 1, 2] rfl [r0, rw, rb] rfl rfl (fun H locs hP hD hS => ?_)
  generalize eg_5 : sm f n g_4.2 0 16 = g_5 at hP hD ⊢
  have hP : va_P D cls ([(r0, .inr (1, [.ref rw, .ref rx, .ref ry, .ref rs, .int g_4.1, .int nt, .int ns, .int nw, .int wa, .int g_5.2.1, .int g_5.2.2.1, .int g_5.2.2.2, .int fw])), (rw, .inr (3, [.ref rb, .int (nI n)])), (rb, .inl (cB, 8192, .inl f))]) H := hP
  have hD : va_D A ([(r0, .inr (1, [.ref rw, .ref rx, .ref ry, .ref rs, .int g_4.1, .int nt, .int ns, .int nw, .int wa, .int g_5.2.1, .int g_5.2.2.1, .int g_5.2.2.2, .int fw])), (rw, .inr (3, [.ref rb, .int (nI n)])), (rb, .inl (cB, 8192, .inl f))]) := hD
  refine va_put (D := D) (ci := 1) (v := .int g_5.1) (ty := (.int)) (C := R_Rd) (T := T_Rd) (N := 13) hx hb hts i_Rd ty_Rd tyok_Rd nm_Rd hown hK hP hD hS 0 rfl rfl 5 (by decide) (hts _ w_79) (fun _ h9 => h9) rfl (by decide +kernel) rfl rfl (Nat.le_of_ble_eq_true rfl) d_Rd_passHead_40 (fun H locs hP hD hS => ?_)
  have hP : va_P D cls ([(r0, .inr (1, [.ref rw, .ref rx, .ref ry, .ref rs, .int g_4.1, .int g_5.1, .int ns, .int nw, .int wa, .int g_5.2.1, .int g_5.2.2.1, .int g_5.2.2.2, .int fw])), (rw, .inr (3, [.ref rb, .int (nI n)])), (rb, .inl (cB, 8192, .inl f))]) H := hP
  have hD : va_D A ([(r0, .inr (1, [.ref rw, .ref rx, .ref ry, .ref rs, .int g_4.1, .int g_5.1, .int ns, .int nw, .int wa, .int g_5.2.1, .int g_5.2.2.1, .int g_5.2.2.2, .int fw])), (rw, .inr (3, [.ref rb, .int (nI n)])), (rb, .inl (cB, 8192, .inl f))]) := hD
  refine lv_aload_n hx hb d_Rd_passHead_43 rfl (lv_at hl 0 rfl) ?_
  refine lv_aload_n hx hb d_Rd_passHead_44 rfl (lv_at hl 0 rfl) ?_
  refine lv_iconst (v := 1) hx hb d_Rd_passHead_45 (by decide) ?_
  refine lv_bipush (v := 32) hx hb d_Rd_passHead_46 (by decide) ?_
  refine pz_i (pz_rV (d := 2) (As := [.int 1, .int 32]) (rest := [.ref r0]) X hN (c_Rd_small l D cB cI cS r0 rw rx ry rs rb g_4.1 g_5.1 ns nw wa fw g_5.2 f n 1 32 hn _) k_Rd_small w_236 ⟨by decide, by decide⟩ hK hP hD [0, 1, 2] rfl rfl 0 rfl rfl rfl rfl hl.1 rfl (Nat.le_of_ble_eq_true rfl) d_Rd_passHead_48 ⟨Nat.zero_le _, Nat.zero_le _⟩) hP hD hS hA [0, 1, 2] rfl [r0, rw, rb] rfl rfl (fun H locs hP hD hS => ?_)
  generalize eg_6 : sm f n g_5.2 1 32 = g_6 at hP hD ⊢
  have hP : va_P D cls ([(r0, .inr (1, [.ref rw, .ref rx, .ref ry, .ref rs, .int g_4.1, .int g_5.1, .int ns, .int nw, .int wa, .int g_6.2.1, .int g_6.2.2.1, .int g_6.2.2.2, .int fw])), (rw, .inr (3, [.ref rb, .int (nI n)])), (rb, .inl (cB, 8192, .inl f))]) H := hP
  have hD : va_D A ([(r0, .inr (1, [.ref rw, .ref rx, .ref ry, .ref rs, .int g_4.1, .int g_5.1, .int ns, .int nw, .int wa, .int g_6.2.1, .int g_6.2.2.1, .int g_6.2.2.2, .int fw])), (rw, .inr (3, [.ref rb, .int (nI n)])), (rb, .inl (cB, 8192, .inl f))]) := hD
  refine va_put (D := D) (ci := 1) (v := .int g_6.1) (ty := (.int)) (C := R_Rd) (T := T_Rd) (N := 13) hx hb hts i_Rd ty_Rd tyok_Rd nm_Rd hown hK hP hD hS 0 rfl rfl 6 (by decide) (hts _ w_80) (fun _ h9 => h9) rfl (by decide +kernel) rfl rfl (Nat.le_of_ble_eq_true rfl) d_Rd_passHead_51 (fun H locs hP hD hS => ?_)
  have hP : va_P D cls ([(r0, .inr (1, [.ref rw, .ref rx, .ref ry, .ref rs, .int g_4.1, .int g_5.1, .int g_6.1, .int nw, .int wa, .int g_6.2.1, .int g_6.2.2.1, .int g_6.2.2.2, .int fw])), (rw, .inr (3, [.ref rb, .int (nI n)])), (rb, .inl (cB, 8192, .inl f))]) H := hP
  have hD : va_D A ([(r0, .inr (1, [.ref rw, .ref rx, .ref ry, .ref rs, .int g_4.1, .int g_5.1, .int g_6.1, .int nw, .int wa, .int g_6.2.1, .int g_6.2.2.1, .int g_6.2.2.2, .int fw])), (rw, .inr (3, [.ref rb, .int (nI n)])), (rb, .inl (cB, 8192, .inl f))]) := hD
  refine lv_aload_n hx hb d_Rd_passHead_54 rfl (lv_at hl 0 rfl) ?_
  refine lv_aload_n hx hb d_Rd_passHead_55 rfl (lv_at hl 0 rfl) ?_
  refine lv_iconst (v := 0) hx hb d_Rd_passHead_56 (by decide) ?_
  refine lv_sipush (v := 128) hx hb d_Rd_passHead_57 (by decide) ?_
  refine pz_i (pz_rV (d := 2) (As := [.int 0, .int 128]) (rest := [.ref r0]) X hN (c_Rd_small l D cB cI cS r0 rw rx ry rs rb g_4.1 g_5.1 g_6.1 nw wa fw g_6.2 f n 0 128 hn _) k_Rd_small w_236 ⟨by decide, by decide⟩ hK hP hD [0, 1, 2] rfl rfl 0 rfl rfl rfl rfl hl.1 rfl (Nat.le_of_ble_eq_true rfl) d_Rd_passHead_60 ⟨Nat.zero_le _, Nat.zero_le _⟩) hP hD hS hA [0, 1, 2] rfl [r0, rw, rb] rfl rfl (fun H locs hP hD hS => ?_)
  generalize eg_7 : sm f n g_6.2 0 128 = g_7 at hP hD ⊢
  have hP : va_P D cls ([(r0, .inr (1, [.ref rw, .ref rx, .ref ry, .ref rs, .int g_4.1, .int g_5.1, .int g_6.1, .int nw, .int wa, .int g_7.2.1, .int g_7.2.2.1, .int g_7.2.2.2, .int fw])), (rw, .inr (3, [.ref rb, .int (nI n)])), (rb, .inl (cB, 8192, .inl f))]) H := hP
  have hD : va_D A ([(r0, .inr (1, [.ref rw, .ref rx, .ref ry, .ref rs, .int g_4.1, .int g_5.1, .int g_6.1, .int nw, .int wa, .int g_7.2.1, .int g_7.2.2.1, .int g_7.2.2.2, .int fw])), (rw, .inr (3, [.ref rb, .int (nI n)])), (rb, .inl (cB, 8192, .inl f))]) := hD
  refine va_put (D := D) (ci := 1) (v := .int g_7.1) (ty := (.int)) (C := R_Rd) (T := T_Rd) (N := 13) hx hb hts i_Rd ty_Rd tyok_Rd nm_Rd hown hK hP hD hS 0 rfl rfl 7 (by decide) (hts _ w_81) (fun _ h9 => h9) rfl (by decide +kernel) rfl rfl (Nat.le_of_ble_eq_true rfl) d_Rd_passHead_63 (fun H locs hP hD hS => ?_)
  have hP : va_P D cls ([(r0, .inr (1, [.ref rw, .ref rx, .ref ry, .ref rs, .int g_4.1, .int g_5.1, .int g_6.1, .int g_7.1, .int wa, .int g_7.2.1, .int g_7.2.2.1, .int g_7.2.2.2, .int fw])), (rw, .inr (3, [.ref rb, .int (nI n)])), (rb, .inl (cB, 8192, .inl f))]) H := hP
  have hD : va_D A ([(r0, .inr (1, [.ref rw, .ref rx, .ref ry, .ref rs, .int g_4.1, .int g_5.1, .int g_6.1, .int g_7.1, .int wa, .int g_7.2.1, .int g_7.2.2.1, .int g_7.2.2.2, .int fw])), (rw, .inr (3, [.ref rb, .int (nI n)])), (rb, .inl (cB, 8192, .inl f))]) := hD
  exact fin _ _ _ _ _ d_Rd_passHead_66 hP hS (by simp only [hd4, hd3, hd2, hd1, hdS, eg_1, eg_2, eg_3, eg_4, eg_5, eg_6, eg_7])

set_option maxRecDepth 100000 in
set_option maxHeartbeats 4000000 in
/-- Reader.passStart -/
theorem c_Rd_passStart (l : Launch) (D : va_G) (cB cI cS : ClassId) (r0 rw rx ry rs rb : Nat) (nv nt ns nw wa fw : Int32) (q : S3) (f : Nat → Int32) (n : Nat) (hn : n ≤ 8192) : mV l y_Rd_passStart b_Rd_passStart 1 (none) 3 D cls [(cB, .byte), (cI, .int), (cS, .object "MapLumps$Span")] [.ref r0] ([(r0, .inr (1, [.ref rw, .ref rx, .ref ry, .ref rs, .int nv, .int nt, .int ns, .int nw, .int wa, .int q.1, .int q.2.1, .int q.2.2, .int fw])), (rw, .inr (3, [.ref rb, .int (nI n)])), (rb, .inl (cB, 8192, .inl f))]) ([(r0, .inr (1, [.ref rw, .ref rx, .ref ry, .ref rs, .int nv, .int nt, .int ns, .int nw, .int wa, .int ((stS f n ns q).1), .int ((stS f n ns q).2.1), .int ((stS f n ns q).2.2), .int fw])), (rw, .inr (3, [.ref rb, .int (nI n)])), (rb, .inl (cB, 8192, .inl f))]) := by
  refine pz_openV (by decide) (Nat.le_of_ble_eq_true rfl) ?_
  intro p e s m below meth c A ls Q X hN hK hP hD hS hA hl fin
  obtain ⟨hx, hb, hml, hown, hts⟩ := id X
  have hl : lv_has ls 1 [(0, .ref r0)] := hl
  refine lv_aload_n hx hb d_Rd_passStart_0 rfl (lv_at hl 0 rfl) ?_
  refine lv_sipush (v := (-32768)) hx hb d_Rd_passStart_1 (by decide) ?_
  refine lv_sipush (v := 32767) hx hb d_Rd_passStart_4 (by decide) ?_
  refine pz_i (pz_rV (d := 2) (As := [.int (-32768), .int 32767]) (rest := []) X hN (c_Rd_wide l D cB cI cS r0 rw rx ry rs rb nv nt ns nw wa fw q f n (-32768) 32767 hn _) k_Rd_wide w_248 ⟨by decide, by decide⟩ hK hP hD [0, 1, 2] rfl rfl 0 rfl rfl rfl rfl hl.1 rfl (Nat.le_of_ble_eq_true rfl) d_Rd_passStart_7 ⟨Nat.zero_le _, Nat.zero_le _⟩) hP hD hS hA [0, 1, 2] rfl [r0, rw, rb] rfl rfl (fun H locs hP hD hS => ?_)
  generalize eg_1 : wd f n q (-32768) 32767 = g_1 at hP hD ⊢
  have hP : va_P D cls ([(r0, .inr (1, [.ref rw, .ref rx, .ref ry, .ref rs, .int nv, .int nt, .int ns, .int nw, .int wa, .int g_1.2.1, .int g_1.2.2.1, .int g_1.2.2.2, .int fw])), (rw, .inr (3, [.ref rb, .int (nI n)])), (rb, .inl (cB, 8192, .inl f))]) H := hP
  have hD : va_D A ([(r0, .inr (1, [.ref rw, .ref rx, .ref ry, .ref rs, .int nv, .int nt, .int ns, .int nw, .int wa, .int g_1.2.1, .int g_1.2.2.1, .int g_1.2.2.2, .int fw])), (rw, .inr (3, [.ref rb, .int (nI n)])), (rb, .inl (cB, 8192, .inl f))]) := hD
  refine lv_pop hx hb d_Rd_passStart_10 rfl ?_
  refine lv_aload_n hx hb d_Rd_passStart_11 rfl (lv_at hl 0 rfl) ?_
  refine lv_sipush (v := (-32768)) hx hb d_Rd_passStart_12 (by decide) ?_
  refine lv_sipush (v := 32767) hx hb d_Rd_passStart_15 (by decide) ?_
  refine pz_i (pz_rV (d := 2) (As := [.int (-32768), .int 32767]) (rest := []) X hN (c_Rd_wide l D cB cI cS r0 rw rx ry rs rb nv nt ns nw wa fw g_1.2 f n (-32768) 32767 hn _) k_Rd_wide w_248 ⟨by decide, by decide⟩ hK hP hD [0, 1, 2] rfl rfl 0 rfl rfl rfl rfl hl.1 rfl (Nat.le_of_ble_eq_true rfl) d_Rd_passStart_18 ⟨Nat.zero_le _, Nat.zero_le _⟩) hP hD hS hA [0, 1, 2] rfl [r0, rw, rb] rfl rfl (fun H locs hP hD hS => ?_)
  generalize eg_2 : wd f n g_1.2 (-32768) 32767 = g_2 at hP hD ⊢
  have hP : va_P D cls ([(r0, .inr (1, [.ref rw, .ref rx, .ref ry, .ref rs, .int nv, .int nt, .int ns, .int nw, .int wa, .int g_2.2.1, .int g_2.2.2.1, .int g_2.2.2.2, .int fw])), (rw, .inr (3, [.ref rb, .int (nI n)])), (rb, .inl (cB, 8192, .inl f))]) H := hP
  have hD : va_D A ([(r0, .inr (1, [.ref rw, .ref rx, .ref ry, .ref rs, .int nv, .int nt, .int ns, .int nw, .int wa, .int g_2.2.1, .int g_2.2.2.1, .int g_2.2.2.2, .int fw])), (rw, .inr (3, [.ref rb, .int (nI n)])), (rb, .inl (cB, 8192, .inl f))]) := hD
  refine lv_pop hx hb d_Rd_passStart_21 rfl ?_
  refine lv_aload_n hx hb d_Rd_passStart_22 rfl (lv_at hl 0 rfl) ?_
  refine lv_iconst (v := 0) hx hb d_Rd_passStart_23 (by decide) ?_
  refine lv_bipush (v := 63) hx hb d_Rd_passStart_24 (by decide) ?_
  refine pz_i (pz_rV (d := 2) (As := [.int 0, .int 63]) (rest := []) X hN (c_Rd_small l D cB cI cS r0 rw rx ry rs rb nv nt ns nw wa fw g_2.2 f n 0 63 hn _) k_Rd_small w_236 ⟨by decide, by decide⟩ hK hP hD [0, 1, 2] rfl rfl 0 rfl rfl rfl rfl hl.1 rfl (Nat.le_of_ble_eq_true rfl) d_Rd_passStart_26 ⟨Nat.zero_le _, Nat.zero_le _⟩) hP hD hS hA [0, 1, 2] rfl [r0, rw, rb] rfl rfl (fun H locs hP hD hS => ?_)
  generalize eg_3 : sm f n g_2.2 0 63 = g_3 at hP hD ⊢
  have hP : va_P D cls ([(r0, .inr (1, [.ref rw, .ref rx, .ref ry, .ref rs, .int nv, .int nt, .int ns, .int nw, .int wa, .int g_3.2.1, .int g_3.2.2.1, .int g_3.2.2.2, .int fw])), (rw, .inr (3, [.ref rb, .int (nI n)])), (rb, .inl (cB, 8192, .inl f))]) H := hP
  have hD : va_D A ([(r0, .inr (1, [.ref rw, .ref rx, .ref ry, .ref rs, .int nv, .int nt, .int ns, .int nw, .int wa, .int g_3.2.1, .int g_3.2.2.1, .int g_3.2.2.2, .int fw])), (rw, .inr (3, [.ref rb, .int (nI n)])), (rb, .inl (cB, 8192, .inl f))]) := hD
  refine lv_pop hx hb d_Rd_passStart_29 rfl ?_
  refine lv_aload_n hx hb d_Rd_passStart_30 rfl (lv_at hl 0 rfl) ?_
  refine lv_iconst (v := 0) hx hb d_Rd_passStart_31 (by decide) ?_
  refine lv_aload_n hx hb d_Rd_passStart_32 rfl (lv_at hl 0 rfl) ?_
  refine va_get (D := D) (ci := 1) (v := .int ns) (C := R_Rd) (T := T_Rd) (N := 13) hx hb hts i_Rd hown hK hP 0 rfl rfl 6 (by decide) (hts _ w_80) (fun _ h9 => h9) rfl d_Rd_passStart_33 ?_
  refine lv_iconst (v := 1) hx hb d_Rd_passStart_36 (by decide) ?_
  refine lv_isub hx hb d_Rd_passStart_37 ?_
  refine pz_i (pz_rV (d := 2) (As := [.int 0, .int (ns - 1)]) (rest := []) X hN (c_Rd_small l D cB cI cS r0 rw rx ry rs rb nv nt ns nw wa fw g_3.2 f n 0 (ns - 1) hn _) k_Rd_small w_236 ⟨by decide, by decide⟩ hK hP hD [0, 1, 2] rfl rfl 0 rfl rfl rfl rfl hl.1 rfl (Nat.le_of_ble_eq_true rfl) d_Rd_passStart_38 ⟨Nat.zero_le _, Nat.zero_le _⟩) hP hD hS hA [0, 1, 2] rfl [r0, rw, rb] rfl rfl (fun H locs hP hD hS => ?_)
  generalize eg_4 : sm f n g_3.2 0 (ns - 1) = g_4 at hP hD ⊢
  have hP : va_P D cls ([(r0, .inr (1, [.ref rw, .ref rx, .ref ry, .ref rs, .int nv, .int nt, .int ns, .int nw, .int wa, .int g_4.2.1, .int g_4.2.2.1, .int g_4.2.2.2, .int fw])), (rw, .inr (3, [.ref rb, .int (nI n)])), (rb, .inl (cB, 8192, .inl f))]) H := hP
  have hD : va_D A ([(r0, .inr (1, [.ref rw, .ref rx, .ref ry, .ref rs, .int nv, .int nt, .int ns, .int nw, .int wa, .int g_4.2.1, .int g_4.2.2.1, .int g_4.2.2.2, .int fw])), (rw, .inr (3, [.ref rb, .int (nI n)])), (rb, .inl (cB, 8192, .inl f))]) := hD
  refine lv_pop hx hb d_Rd_passStart_41 rfl ?_
  exact fin _ _ _ _ _ d_Rd_passStart_42 hP hS (by simp only [stS, eg_1, eg_2, eg_3, eg_4])

set_option maxRecDepth 100000 in
set_option maxHeartbeats 4000000 in
/-- Reader.passWallTextures -/
theorem c_Rd_passWallTextures (l : Launch) (D : va_G) (cB cI cS : ClassId) (r0 rw rx ry rs rb : Nat) (nv nt ns nw wa fw : Int32) (q : S3) (f : Nat → Int32) (n : Nat) (hi : Int32) (hn : n ≤ 8192) : mV l y_Rd_passWallTextures b_Rd_passWallTextures 3 (none) 3 D cls [(cB, .byte), (cI, .int), (cS, .object "MapLumps$Span")] [.ref r0, .int hi] ([(r0, .inr (1, [.ref rw, .ref rx, .ref ry, .ref rs, .int nv, .int nt, .int ns, .int nw, .int wa, .int q.1, .int q.2.1, .int q.2.2, .int fw])), (rw, .inr (3, [.ref rb, .int (nI n)])), (rb, .inl (cB, 8192, .inl f))]) ([(r0, .inr (1, [.ref rw, .ref rx, .ref ry, .ref rs, .int nv, .int nt, .int ns, .int nw, .int wa, .int ((wt3 f n hi q).1), .int ((wt3 f n hi q).2.1), .int ((wt3 f n hi q).2.2), .int fw])), (rw, .inr (3, [.ref rb, .int (nI n)])), (rb, .inl (cB, 8192, .inl f))]) := by
  refine pz_openV (by decide) (Nat.le_of_ble_eq_true rfl) ?_
  intro p e s m below meth c A ls Q X hN hK hP hD hS hA hl fin
  obtain ⟨hx, hb, hml, hown, hts⟩ := id X
  have hl : lv_has ls 3 [(0, .ref r0), (1, .int hi)] := hl
  refine lv_iconst (v := 0) hx hb d_Rd_passWallTextures_0 (by decide) ?_
  refine lv_istore_n (lv' := [(2, .int 0), (0, .ref r0), (1, .int hi)]) hx hb d_Rd_passWallTextures_1 rfl hl (by decide) rfl (fun ls hl => ?_)
  refine lv_iload_n hx hb d_Rd_passWallTextures_2 rfl (lv_at hl 0 rfl) ?_
  refine lv_iconst (v := 3) hx hb d_Rd_passWallTextures_3 (by decide) ?_
  refine lv_icmp_ge (tgt := 19) hx hb d_Rd_passWallTextures_4 (by decide) (fun c_1 => ?_) (fun c_1 => ?_)
  · exact absurd c_1 (by decide)
  · refine lv_aload_n hx hb d_Rd_passWallTextures_7 rfl (lv_at hl 1 rfl) ?_
    refine lv_iload_n hx hb d_Rd_passWallTextures_8 rfl (lv_at hl 2 rfl) ?_
    refine pz_i (pz_rV (d := 2) (As := [.int hi]) (rest := []) X hN (c_Rd_smallOrAbsent l D cB cI cS r0 rw rx ry rs rb nv nt ns nw wa fw q f n hi hn _) k_Rd_smallOrAbsent w_265 ⟨by decide, by decide⟩ hK hP hD [0, 1, 2] rfl rfl 0 rfl rfl rfl rfl hl.1 rfl (Nat.le_of_ble_eq_true rfl) d_Rd_passWallTextures_9 ⟨Nat.zero_le _, Nat.zero_le _⟩) hP hD hS hA [0, 1, 2] rfl [r0, rw, rb] rfl rfl (fun H locs hP hD hS => ?_)
    generalize eg_2 : sa f n q hi = g_2 at hP hD ⊢
    have hP : va_P D cls ([(r0, .inr (1, [.ref rw, .ref rx, .ref ry, .ref rs, .int nv, .int nt, .int ns, .int nw, .int wa, .int g_2.2.1, .int g_2.2.2.1, .int g_2.2.2.2, .int fw])), (rw, .inr (3, [.ref rb, .int (nI n)])), (rb, .inl (cB, 8192, .inl f))]) H := hP
    have hD : va_D A ([(r0, .inr (1, [.ref rw, .ref rx, .ref ry, .ref rs, .int nv, .int nt, .int ns, .int nw, .int wa, .int g_2.2.1, .int g_2.2.2.1, .int g_2.2.2.2, .int fw])), (rw, .inr (3, [.ref rb, .int (nI n)])), (rb, .inl (cB, 8192, .inl f))]) := hD
    refine lv_pop hx hb d_Rd_passWallTextures_12 rfl ?_
    refine lv_iinc (v := 1) (lv' := [(2, .int 1), (0, .ref r0), (1, .int hi)]) hx hb d_Rd_passWallTextures_13 hl (k := 0) rfl (by decide) (by decide) rfl (fun ls hl => ?_)
    refine lv_goto (tgt := 2) hx hb d_Rd_passWallTextures_16 (by decide) ?_
    refine lv_iload_n hx hb d_Rd_passWallTextures_2 rfl (lv_at hl 0 rfl) ?_
    refine lv_iconst (v := 3) hx hb d_Rd_passWallTextures_3 (by decide) ?_
    refine lv_icmp_ge (tgt := 19) hx hb d_Rd_passWallTextures_4 (by decide) (fun c_3 => ?_) (fun c_3 => ?_)
    · exact absurd c_3 (by decide)
    · refine lv_aload_n hx hb d_Rd_passWallTextures_7 rfl (lv_at hl 1 rfl) ?_
      refine lv_iload_n hx hb d_Rd_passWallTextures_8 rfl (lv_at hl 2 rfl) ?_
      refine pz_i (pz_rV (d := 2) (As := [.int hi]) (rest := []) X hN (c_Rd_smallOrAbsent l D cB cI cS r0 rw rx ry rs rb nv nt ns nw wa fw g_2.2 f n hi hn _) k_Rd_smallOrAbsent w_265 ⟨by decide, by decide⟩ hK hP hD [0, 1, 2] rfl rfl 0 rfl rfl rfl rfl hl.1 rfl (Nat.le_of_ble_eq_true rfl) d_Rd_passWallTextures_9 ⟨Nat.zero_le _, Nat.zero_le _⟩) hP hD hS hA [0, 1, 2] rfl [r0, rw, rb] rfl rfl (fun H locs hP hD hS => ?_)
      generalize eg_4 : sa f n g_2.2 hi = g_4 at hP hD ⊢
      have hP : va_P D cls ([(r0, .inr (1, [.ref rw, .ref rx, .ref ry, .ref rs, .int nv, .int nt, .int ns, .int nw, .int wa, .int g_4.2.1, .int g_4.2.2.1, .int g_4.2.2.2, .int fw])), (rw, .inr (3, [.ref rb, .int (nI n)])), (rb, .inl (cB, 8192, .inl f))]) H := hP
      have hD : va_D A ([(r0, .inr (1, [.ref rw, .ref rx, .ref ry, .ref rs, .int nv, .int nt, .int ns, .int nw, .int wa, .int g_4.2.1, .int g_4.2.2.1, .int g_4.2.2.2, .int fw])), (rw, .inr (3, [.ref rb, .int (nI n)])), (rb, .inl (cB, 8192, .inl f))]) := hD
      refine lv_pop hx hb d_Rd_passWallTextures_12 rfl ?_
      refine lv_iinc (v := 2) (lv' := [(2, .int 2), (0, .ref r0), (1, .int hi)]) hx hb d_Rd_passWallTextures_13 hl (k := 0) rfl (by decide) (by decide) rfl (fun ls hl => ?_)
      refine lv_goto (tgt := 2) hx hb d_Rd_passWallTextures_16 (by decide) ?_
      refine lv_iload_n hx hb d_Rd_passWallTextures_2 rfl (lv_at hl 0 rfl) ?_
      refine lv_iconst (v := 3) hx hb d_Rd_passWallTextures_3 (by decide) ?_
      refine lv_icmp_ge (tgt := 19) hx hb d_Rd_passWallTextures_4 (by decide) (fun c_5 => ?_) (fun c_5 => ?_)
      · exact absurd c_5 (by decide)
      · refine lv_aload_n hx hb d_Rd_passWallTextures_7 rfl (lv_at hl 1 rfl) ?_
        refine lv_iload_n hx hb d_Rd_passWallTextures_8 rfl (lv_at hl 2 rfl) ?_
        refine pz_i (pz_rV (d := 2) (As := [.int hi]) (rest := []) X hN (c_Rd_smallOrAbsent l D cB cI cS r0 rw rx ry rs rb nv nt ns nw wa fw g_4.2 f n hi hn _) k_Rd_smallOrAbsent w_265 ⟨by decide, by decide⟩ hK hP hD [0, 1, 2] rfl rfl 0 rfl rfl rfl rfl hl.1 rfl (Nat.le_of_ble_eq_true rfl) d_Rd_passWallTextures_9 ⟨Nat.zero_le _, Nat.zero_le _⟩) hP hD hS hA [0, 1, 2] rfl [r0, rw, rb] rfl rfl (fun H locs hP hD hS => ?_)
        generalize eg_6 : sa f n g_4.2 hi = g_6 at hP hD ⊢
        have hP : va_P D cls ([(r0, .inr (1, [.ref rw, .ref rx, .ref ry, .ref rs, .int nv, .int nt, .int ns, .int nw, .int wa, .int g_6.2.1, .int g_6.2.2.1, .int g_6.2.2.2, .int fw])), (rw, .inr (3, [.ref rb, .int (nI n)])), (rb, .inl (cB, 8192, .inl f))]) H := hP
        have hD : va_D A ([(r0, .inr (1, [.ref rw, .ref rx, .ref ry, .ref rs, .int nv, .int nt, .int ns, .int nw, .int wa, .int g_6.2.1, .int g_6.2.2.1, .int g_6.2.2.2, .int fw])), (rw, .inr (3, [.ref rb, .int (nI n)])), (rb, .inl (cB, 8192, .inl f))]) := hD
        refine lv_pop hx hb d_Rd_passWallTextures_12 rfl ?_
        refine lv_iinc (v := 3) (lv' := [(2, .int 3), (0, .ref r0), (1, .int hi)]) hx hb d_Rd_passWallTextures_13 hl (k := 0) rfl (by decide) (by decide) rfl (fun ls hl => ?_)
        refine lv_goto (tgt := 2) hx hb d_Rd_passWallTextures_16 (by decide) ?_
        refine lv_iload_n hx hb d_Rd_passWallTextures_2 rfl (lv_at hl 0 rfl) ?_
        refine lv_iconst (v := 3) hx hb d_Rd_passWallTextures_3 (by decide) ?_
        refine lv_icmp_ge (tgt := 19) hx hb d_Rd_passWallTextures_4 (by decide) (fun c_7 => ?_) (fun c_7 => ?_)
        · exact fin _ _ _ _ _ d_Rd_passWallTextures_19 hP hS (by simp only [wt3, eg_2, eg_4, eg_6])
        · exact absurd (by decide) c_7
