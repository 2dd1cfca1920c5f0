set_option maxRecDepth 100000 in
set_option maxHeartbeats 4000000 in
/-- Reader.passWallEnds -/
theorem c_Rd_passWallEnds (l : Launch) (D : va_G) (cB cI cS : ClassId) (r0 rw rx ry rs rb : Nat) (nv nt ns nw wa fw : Int32) (q : S3) (f : Nat → Int32) (n : Nat) (xs ys : Nat → Int32) (h1 : Nat) (a4 : E4) (hn : n ≤ 8192) : mV l y_Rd_passWallEnds b_Rd_passWallEnds 5 (none) 3 D cls [(cB, .byte), (cI, .int), (cS, .object "MapLumps$Span")] [.ref r0, .ref h1] ([(r0, .inr (1, [.ref rw, .ref rx, .ref ry, .ref rs, .int nv, .int nt, .int ns, .int nw, .int wa, .int q.1, .int q.2.1, .int q.2.2, .int fw])), (rw, .inr (3, [.ref rb, .int (nI n)])), (rb, .inl (cB, 8192, .inl f)), (rx, .inl (cI, 128, .inl xs)), (ry, .inl (cI, 128, .inl ys)), (h1, .inr (4, [.int a4.1, .int a4.2.1, .int a4.2.2.1, .int a4.2.2.2, .int (mnI a4.1 a4.2.2.1), .int (mxI a4.1 a4.2.2.1), .int (mnI a4.2.1 a4.2.2.2), .int (mxI a4.2.1 a4.2.2.2)]))]) ([(r0, .inr (1, [.ref rw, .ref rx, .ref ry, .ref rs, .int nv, .int nt, .int ns, .int nw, .int wa, .int ((weS f n nv q).1), .int ((weS f n nv q).2.1), .int ((weS f n nv q).2.2), .int fw])), (rw, .inr (3, [.ref rb, .int (nI n)])), (rb, .inl (cB, 8192, .inl f)), (rx, .inl (cI, 128, .inl xs)), (ry, .inl (cI, 128, .inl ys)), (h1, .inr (4, [.int ((weE f n nv xs ys q a4).1), .int ((weE f n nv xs ys q a4).2.1), .int ((weE f n nv xs ys q a4).2.2.1), .int ((weE f n nv xs ys q a4).2.2.2), .int (mnI ((weE f n nv xs ys q a4).1) ((weE f n nv xs ys q a4).2.2.1)), .int (mxI ((weE f n nv xs ys q a4).1) ((weE f n nv xs ys q a4).2.2.1)), .int (mnI ((weE f n nv xs ys q a4).2.1) ((weE f n nv xs ys q a4).2.2.2)), .int (mxI ((weE f n nv xs ys q a4).2.1) ((weE f n nv xs ys q a4).2.2.2))]))]) := by
  refine pz_openV (by decide) (Nat.le_of_ble_eq_true rfl) ?_
  intro p e s m below meth c A ls Q X hN hK hP hD hS hA hl fin
  obtain ⟨hx, hb, hml, hown, hts⟩ := id X
  have hl : lv_has ls 5 [(0, .ref r0), (1, .ref h1)] := hl
  refine lv_aload_n hx hb d_Rd_passWallEnds_0 rfl (lv_at hl 0 rfl) ?_
  refine lv_iconst (v := 0) hx hb d_Rd_passWallEnds_1 (by decide) ?_
  refine lv_aload_n hx hb d_Rd_passWallEnds_2 rfl (lv_at hl 0 rfl) ?_
  refine va_get (D := D) (ci := 1) (v := .int nv) (C := R_Rd) (T := T_Rd) (N := 13) hx hb hts i_Rd hown hK hP 0 rfl rfl 4 (by decide) (hts _ w_78) (fun _ h9 => h9) rfl d_Rd_passWallEnds_3 ?_
  refine lv_iconst (v := 1) hx hb d_Rd_passWallEnds_6 (by decide) ?_
  refine lv_isub hx hb d_Rd_passWallEnds_7 ?_
  refine pz_i (pz_rV (d := 2) (As := [.int 0, .int (nv - 1)]) (rest := []) X hN (c_Rd_small l D cB cI cS r0 rw rx ry rs rb nv nt ns nw wa fw q f n 0 (nv - 1) hn _) k_Rd_small w_236 ⟨by decide, by decide⟩ hK hP hD [0, 1, 2] rfl rfl 0 rfl rfl rfl rfl hl.1 rfl (Nat.le_of_ble_eq_true rfl) d_Rd_passWallEnds_8 ⟨Nat.zero_le _, Nat.zero_le _⟩) hP hD hS hA [0, 1, 2] rfl [r0, rw, rb] rfl rfl (fun H locs hP hD hS => ?_)
  generalize eg_1 : sm f n q 0 (nv - 1) = g_1 at hP hD ⊢
  have hP : va_P D cls ([(r0, .inr (1, [.ref rw, .ref rx, .ref ry, .ref rs, .int nv, .int nt, .int ns, .int nw, .int wa, .int g_1.2.1, .int g_1.2.2.1, .int g_1.2.2.2, .int fw])), (rw, .inr (3, [.ref rb, .int (nI n)])), (rb, .inl (cB, 8192, .inl f)), (rx, .inl (cI, 128, .inl xs)), (ry, .inl (cI, 128, .inl ys)), (h1, .inr (4, [.int a4.1, .int a4.2.1, .int a4.2.2.1, .int a4.2.2.2, .int (mnI a4.1 a4.2.2.1), .int (mxI a4.1 a4.2.2.1), .int (mnI a4.2.1 a4.2.2.2), .int (mxI a4.2.1 a4.2.2.2)]))]) H := hP
  have hD : va_D A ([(r0, .inr (1, [.ref rw, .ref rx, .ref ry, .ref rs, .int nv, .int nt, .int ns, .int nw, .int wa, .int g_1.2.1, .int g_1.2.2.1, .int g_1.2.2.2, .int fw])), (rw, .inr (3, [.ref rb, .int (nI n)])), (rb, .inl (cB, 8192, .inl f)), (rx, .inl (cI, 128, .inl xs)), (ry, .inl (cI, 128, .inl ys)), (h1, .inr (4, [.int a4.1, .int a4.2.1, .int a4.2.2.1, .int a4.2.2.2, .int (mnI a4.1 a4.2.2.1), .int (mxI a4.1 a4.2.2.1), .int (mnI a4.2.1 a4.2.2.2), .int (mxI a4.2.1 a4.2.2.2)]))]) := hD
  refine lv_istore_n (lv' := [(2, .int g_1.1), (0, .ref r0), (1, .ref h1)]) hx hb d_Rd_passWallEnds_11 rfl hl (by decide) rfl (fun ls hl => ?_)
  refine lv_aload_n hx hb d_Rd_passWallEnds_12 rfl (lv_at hl 1 rfl) ?_
  refine va_get (D := D) (ci := 1) (v := .int g_1.2.1) (C := R_Rd) (T := T_Rd) (N := 13) hx hb hts i_Rd hown hK hP 0 rfl rfl 9 (by decide) (hts _ w_83) (fun _ h9 => h9) rfl d_Rd_passWallEnds_13 ?_
  refine lv_istore_n (lv' := [(3, .int g_1.2.1), (2, .int g_1.1), (0, .ref r0), (1, .ref h1)]) hx hb d_Rd_passWallEnds_16 rfl hl (by decide) rfl (fun ls hl => ?_)
  refine lv_aload_n hx hb d_Rd_passWallEnds_17 rfl (lv_at hl 2 rfl) ?_
  refine lv_iconst (v := 0) hx hb d_Rd_passWallEnds_18 (by decide) ?_
  refine lv_aload_n hx hb d_Rd_passWallEnds_19 rfl (lv_at hl 2 rfl) ?_
  refine va_get (D := D) (ci := 1) (v := .int nv) (C := R_Rd) (T := T_Rd) (N := 13) hx hb hts i_Rd hown hK hP 0 rfl rfl 4 (by decide) (hts _ w_78) (fun _ h9 => h9) rfl d_Rd_passWallEnds_20 ?_
  refine lv_iconst (v := 1) hx hb d_Rd_passWallEnds_23 (by decide) ?_
  refine lv_isub hx hb d_Rd_passWallEnds_24 ?_
  refine pz_i (pz_rV (d := 2) (As := [.int 0, .int (nv - 1)]) (rest := []) X hN (c_Rd_small l D cB cI cS r0 rw rx ry rs rb nv nt ns nw wa fw g_1.2 f n 0 (nv - 1) hn _) k_Rd_small w_236 ⟨by decide, by decide⟩ hK hP hD [0, 1, 2] rfl rfl 0 rfl rfl rfl rfl hl.1 rfl (Nat.le_of_ble_eq_true rfl) d_Rd_passWallEnds_25 ⟨Nat.zero_le _, Nat.zero_le _⟩) hP hD hS hA [0, 1, 2] rfl [r0, rw, rb] rfl rfl (fun H locs hP hD hS => ?_)
  generalize eg_2 : sm f n g_1.2 0 (nv - 1) = g_2 at hP hD ⊢
  have hP : va_P D cls ([(r0, .inr (1, [.ref rw, .ref rx, .ref ry, .ref rs, .int nv, .int nt, .int ns, .int nw, .int wa, .int g_2.2.1, .int g_2.2.2.1, .int g_2.2.2.2, .int fw])), (rw, .inr (3, [.ref rb, .int (nI n)])), (rb, .inl (cB, 8192, .inl f)), (rx, .inl (cI, 128, .inl xs)), (ry, .inl (cI, 128, .inl ys)), (h1, .inr (4, [.int a4.1, .int a4.2.1, .int a4.2.2.1, .int a4.2.2.2, .int (mnI a4.1 a4.2.2.1), .int (mxI a4.1 a4.2.2.1), .int (mnI a4.2.1 a4.2.2.2), .int (mxI a4.2.1 a4.2.2.2)]))]) H := hP
  have hD : va_D A ([(r0, .inr (1, [.ref rw, .ref rx, .ref ry, .ref rs, .int nv, .int nt, .int ns, .int nw, .int wa, .int g_2.2.1, .int g_2.2.2.1, .int g_2.2.2.2, .int fw])), (rw, .inr (3, [.ref rb, .int (nI n)])), (rb, .inl (cB, 8192, .inl f)), (rx, .inl (cI, 128, .inl xs)), (ry, .inl (cI, 128, .inl ys)), (h1, .inr (4, [.int a4.1, .int a4.2.1, .int a4.2.2.1, .int a4.2.2.2, .int (mnI a4.1 a4.2.2.1), .int (mxI a4.1 a4.2.2.1), .int (mnI a4.2.1 a4.2.2.2), .int (mxI a4.2.1 a4.2.2.2)]))]) := hD
  refine lv_istore (lv' := [(4, .int g_2.1), (3, .int g_1.2.1), (2, .int g_1.1), (0, .ref r0), (1, .ref h1)]) hx hb d_Rd_passWallEnds_28 hl (by decide) rfl (fun ls hl => ?_)
  refine lv_iload_n hx hb d_Rd_passWallEnds_30 rfl (lv_at hl 2 rfl) ?_
  refine lv_iload hx hb d_Rd_passWallEnds_31 (lv_at hl 0 rfl) ?_
  refine lv_icmp_ne (tgt := 42) hx hb d_Rd_passWallEnds_33 (by decide) (fun c_3 => ?_) (fun c_3 => ?_)
  · refine lv_iload_n hx hb d_Rd_passWallEnds_42 rfl (lv_at hl 2 rfl) ?_
    refine lv_aload_n hx hb d_Rd_passWallEnds_43 rfl (lv_at hl 3 rfl) ?_
    refine va_get (D := D) (ci := 1) (v := .ref rx) (C := R_Rd) (T := T_Rd) (N := 13) hx hb hts i_Rd hown hK hP 0 rfl rfl 1 (by decide) (hts _ w_75) (fun _ h9 => h9) rfl d_Rd_passWallEnds_44 ?_
    refine va_alen hx hb hK hP 3 1 rfl rfl (v := 128) rfl d_Rd_passWallEnds_47 ?_
    refine lv_icmp_ge (tgt := 91) hx hb d_Rd_passWallEnds_48 (by decide) (fun c_4 => ?_) (fun c_4 => ?_)
    · exact fin _ _ _ _ _ d_Rd_passWallEnds_91 hP hS (by simp only [weS, weE, we2, we1, eg_1, eg_2, if_neg c_3, if_pos c_4])
    · refine lv_iload hx hb d_Rd_passWallEnds_51 (lv_at hl 0 rfl) ?_
      refine lv_aload_n hx hb d_Rd_passWallEnds_53 rfl (lv_at hl 3 rfl) ?_
      refine va_get (D := D) (ci := 1) (v := .ref rx) (C := R_Rd) (T := T_Rd) (N := 13) hx hb hts i_Rd hown hK hP 0 rfl rfl 1 (by decide) (hts _ w_75) (fun _ h9 => h9) rfl d_Rd_passWallEnds_54 ?_
      refine va_alen hx hb hK hP 3 1 rfl rfl (v := 128) rfl d_Rd_passWallEnds_57 ?_
      refine lv_icmp_ge (tgt := 91) hx hb d_Rd_passWallEnds_58 (by decide) (fun c_5 => ?_) (fun c_5 => ?_)
      · exact fin _ _ _ _ _ d_Rd_passWallEnds_91 hP hS (by simp only [weS, weE, we2, we1, eg_1, eg_2, if_neg c_3, if_neg c_4, if_pos c_5])
      · refine lv_aload_n hx hb d_Rd_passWallEnds_61 rfl (lv_at hl 4 rfl) ?_
        refine lv_aload_n hx hb d_Rd_passWallEnds_62 rfl (lv_at hl 3 rfl) ?_
        refine va_get (D := D) (ci := 1) (v := .ref rx) (C := R_Rd) (T := T_Rd) (N := 13) hx hb hts i_Rd hown hK hP 0 rfl rfl 1 (by decide) (hts _ w_75) (fun _ h9 => h9) rfl d_Rd_passWallEnds_63 ?_
        refine lv_iload_n hx hb d_Rd_passWallEnds_66 rfl (lv_at hl 2 rfl) ?_
        refine va_iald hx hb hK hP 3 1 rfl rfl (in_a (n := 128) (by rw [← eg_1]; exact sm_nn _ _ _ _) c_4 (by decide) (by decide)) d_Rd_passWallEnds_67 ?_
        refine lv_aload_n hx hb d_Rd_passWallEnds_68 rfl (lv_at hl 3 rfl) ?_
        refine va_get (D := D) (ci := 1) (v := .ref ry) (C := R_Rd) (T := T_Rd) (N := 13) hx hb hts i_Rd hown hK hP 0 rfl rfl 2 (by decide) (hts _ w_76) (fun _ h9 => h9) rfl d_Rd_passWallEnds_69 ?_
        refine lv_iload_n hx hb d_Rd_passWallEnds_72 rfl (lv_at hl 2 rfl) ?_
        refine va_iald hx hb hK hP 4 1 rfl rfl (in_a (n := 128) (by rw [← eg_1]; exact sm_nn _ _ _ _) c_4 (by decide) (by decide)) d_Rd_passWallEnds_73 ?_
        refine lv_aload_n hx hb d_Rd_passWallEnds_74 rfl (lv_at hl 3 rfl) ?_
        refine va_get (D := D) (ci := 1) (v := .ref rx) (C := R_Rd) (T := T_Rd) (N := 13) hx hb hts i_Rd hown hK hP 0 rfl rfl 1 (by decide) (hts _ w_75) (fun _ h9 => h9) rfl d_Rd_passWallEnds_75 ?_
        refine lv_iload hx hb d_Rd_passWallEnds_78 (lv_at hl 0 rfl) ?_
        refine va_iald hx hb hK hP 3 1 rfl rfl (in_a (n := 128) (by rw [← eg_2]; exact sm_nn _ _ _ _) c_5 (by decide) (by decide)) d_Rd_passWallEnds_80 ?_
        refine lv_aload_n hx hb d_Rd_passWallEnds_81 rfl (lv_at hl 3 rfl) ?_
        refine va_get (D := D) (ci := 1) (v := .ref ry) (C := R_Rd) (T := T_Rd) (N := 13) hx hb hts i_Rd hown hK hP 0 rfl rfl 2 (by decide) (hts _ w_76) (fun _ h9 => h9) rfl d_Rd_passWallEnds_82 ?_
        refine lv_iload hx hb d_Rd_passWallEnds_85 (lv_at hl 0 rfl) ?_
        refine va_iald hx hb hK hP 4 1 rfl rfl (in_a (n := 128) (by rw [← eg_2]; exact sm_nn _ _ _ _) c_5 (by decide) (by decide)) d_Rd_passWallEnds_87 ?_
        refine pz_v (pz_rV (d := 1) (As := [.int (xs g_1.1.toNatClampNeg), .int (ys g_1.1.toNatClampNeg), .int (xs g_2.1.toNatClampNeg), .int (ys g_2.1.toNatClampNeg)]) (rest := []) X hN (c_Sp_lay l D cB cI cS h1 a4 (xs g_1.1.toNatClampNeg) (ys g_1.1.toNatClampNeg) (xs g_2.1.toNatClampNeg) (ys g_2.1.toNatClampNeg) _) k_Sp_lay w_277 ⟨by decide, by decide⟩ hK hP hD [5] rfl rfl 5 rfl rfl rfl rfl hl.1 rfl (Nat.le_of_ble_eq_true rfl) d_Rd_passWallEnds_88 ⟨Nat.zero_le _, Nat.zero_le _⟩) hP hD hS hA [5] rfl [h1] rfl rfl (fun H locs hP hD hS => ?_)
        have hP : va_P D cls ([(r0, .inr (1, [.ref rw, .ref rx, .ref ry, .ref rs, .int nv, .int nt, .int ns, .int nw, .int wa, .int g_2.2.1, .int g_2.2.2.1, .int g_2.2.2.2, .int fw])), (rw, .inr (3, [.ref rb, .int (nI n)])), (rb, .inl (cB, 8192, .inl f)), (rx, .inl (cI, 128, .inl xs)), (ry, .inl (cI, 128, .inl ys)), (h1, .inr (4, [.int (xs g_1.1.toNatClampNeg), .int (ys g_1.1.toNatClampNeg), .int (xs g_2.1.toNatClampNeg), .int (ys g_2.1.toNatClampNeg), .int (mnI (xs g_1.1.toNatClampNeg) (xs g_2.1.toNatClampNeg)), .int (mxI (xs g_1.1.toNatClampNeg) (xs g_2.1.toNatClampNeg)), .int (mnI (ys g_1.1.toNatClampNeg) (ys g_2.1.toNatClampNeg)), .int (mxI (ys g_1.1.toNatClampNeg) (ys g_2.1.toNatClampNeg))]))]) H := hP
        have hD : va_D A ([(r0, .inr (1, [.ref rw, .ref rx, .ref ry, .ref rs, .int nv, .int nt, .int ns, .int nw, .int wa, .int g_2.2.1, .int g_2.2.2.1, .int g_2.2.2.2, .int fw])), (rw, .inr (3, [.ref rb, .int (nI n)])), (rb, .inl (cB, 8192, .inl f)), (rx, .inl (cI, 128, .inl xs)), (ry, .inl (cI, 128, .inl ys)), (h1, .inr (4, [.int (xs g_1.1.toNatClampNeg), .int (ys g_1.1.toNatClampNeg), .int (xs g_2.1.toNatClampNeg), .int (ys g_2.1.toNatClampNeg), .int (mnI (xs g_1.1.toNatClampNeg) (xs g_2.1.toNatClampNeg)), .int (mxI (xs g_1.1.toNatClampNeg) (xs g_2.1.toNatClampNeg)), .int (mnI (ys g_1.1.toNatClampNeg) (ys g_2.1.toNatClampNeg)), .int (mxI (ys g_1.1.toNatClampNeg) (ys g_2.1.toNatClampNeg))]))]) := hD
        exact fin _ _ _ _ _ d_Rd_passWallEnds_91 hP hS (by simp only [weS, weE, we2, we1, eg_1, eg_2, if_neg c_3, if_neg c_4, if_neg c_5])
  · refine lv_aload_n hx hb d_Rd_passWallEnds_36 rfl (lv_at hl 3 rfl) ?_
    refine lv_iconst (v := 3) hx hb d_Rd_passWallEnds_37 (by decide) ?_
    refine lv_iload_n hx hb d_Rd_passWallEnds_38 rfl (lv_at hl 1 rfl) ?_
    refine pz_v (pz_rV (d := 0) (As := [.int 3, .int g_1.2.1]) (rest := []) X hN (c_Rd_fail l D cB cI cS r0 rw rx ry rs nv nt ns nw wa fw g_2.2 3 g_1.2.1 _) k_Rd_fail w_232 ⟨by decide, by decide⟩ hK hP hD [0] rfl rfl 0 rfl rfl rfl rfl hl.1 rfl (Nat.le_of_ble_eq_true rfl) d_Rd_passWallEnds_39 ⟨Nat.zero_le _, Nat.zero_le _⟩) hP hD hS hA [0] rfl [r0] rfl rfl (fun H locs hP hD hS => ?_)
    have hP : va_P D cls ([(r0, .inr (1, [.ref rw, .ref rx, .ref ry, .ref rs, .int nv, .int nt, .int ns, .int nw, .int wa, .int ((fl g_2.2 3 g_1.2.1).1), .int ((fl g_2.2 3 g_1.2.1).2.1), .int ((fl g_2.2 3 g_1.2.1).2.2), .int fw])), (rw, .inr (3, [.ref rb, .int (nI n)])), (rb, .inl (cB, 8192, .inl f)), (rx, .inl (cI, 128, .inl xs)), (ry, .inl (cI, 128, .inl ys)), (h1, .inr (4, [.int a4.1, .int a4.2.1, .int a4.2.2.1, .int a4.2.2.2, .int (mnI a4.1 a4.2.2.1), .int (mxI a4.1 a4.2.2.1), .int (mnI a4.2.1 a4.2.2.2), .int (mxI a4.2.1 a4.2.2.2)]))]) H := hP
    have hD : va_D A ([(r0, .inr (1, [.ref rw, .ref rx, .ref ry, .ref rs, .int nv, .int nt, .int ns, .int nw, .int wa, .int ((fl g_2.2 3 g_1.2.1).1), .int ((fl g_2.2 3 g_1.2.1).2.1), .int ((fl g_2.2 3 g_1.2.1).2.2), .int fw])), (rw, .inr (3, [.ref rb, .int (nI n)])), (rb, .inl (cB, 8192, .inl f)), (rx, .inl (cI, 128, .inl xs)), (ry, .inl (cI, 128, .inl ys)), (h1, .inr (4, [.int a4.1, .int a4.2.1, .int a4.2.2.1, .int a4.2.2.2, .int (mnI a4.1 a4.2.2.1), .int (mxI a4.1 a4.2.2.1), .int (mnI a4.2.1 a4.2.2.2), .int (mxI a4.2.1 a4.2.2.2)]))]) := hD
    refine lv_iload_n hx hb d_Rd_passWallEnds_42 rfl (lv_at hl 2 rfl) ?_
    refine lv_aload_n hx hb d_Rd_passWallEnds_43 rfl (lv_at hl 3 rfl) ?_
    refine va_get (D := D) (ci := 1) (v := .ref rx) (C := R_Rd) (T := T_Rd) (N := 13) hx hb hts i_Rd hown hK hP 0 rfl rfl 1 (by decide) (hts _ w_75) (fun _ h9 => h9) rfl d_Rd_passWallEnds_44 ?_
    refine va_alen hx hb hK hP 3 1 rfl rfl (v := 128) rfl d_Rd_passWallEnds_47 ?_
    refine lv_icmp_ge (tgt := 91) hx hb d_Rd_passWallEnds_48 (by decide) (fun c_6 => ?_) (fun c_6 => ?_)
    · exact fin _ _ _ _ _ d_Rd_passWallEnds_91 hP hS (by simp only [weS, weE, we2, we1, eg_1, eg_2, if_pos c_3, if_pos c_6])
    · refine lv_iload hx hb d_Rd_passWallEnds_51 (lv_at hl 0 rfl) ?_
      refine lv_aload_n hx hb d_Rd_passWallEnds_53 rfl (lv_at hl 3 rfl) ?_
      refine va_get (D := D) (ci := 1) (v := .ref rx) (C := R_Rd) (T := T_Rd) (N := 13) hx hb hts i_Rd hown hK hP 0 rfl rfl 1 (by decide) (hts _ w_75) (fun _ h9 => h9) rfl d_Rd_passWallEnds_54 ?_
      refine va_alen hx hb hK hP 3 1 rfl rfl (v := 128) rfl d_Rd_passWallEnds_57 ?_
      refine lv_icmp_ge (tgt := 91) hx hb d_Rd_passWallEnds_58 (by decide) (fun c_7 => ?_) (fun c_7 => ?_)
      · exact fin _ _ _ _ _ d_Rd_passWallEnds_91 hP hS (by simp only [weS, weE, we2, we1, eg_1, eg_2, if_pos c_3, if_neg c_6, if_pos c_7])
      · refine lv_aload_n hx hb d_Rd_passWallEnds_61 rfl (lv_at hl 4 rfl) ?_
        refine lv_aload_n hx hb d_Rd_passWallEnds_62 rfl (lv_at hl 3 rfl) ?_
        refine va_get (D := D) (ci := 1) (v := .ref rx) (C := R_Rd) (T := T_Rd) (N := 13) hx hb hts i_Rd hown hK hP 0 rfl rfl 1 (by decide) (hts _ w_75) (fun _ h9 => h9) rfl d_Rd_passWallEnds_63 ?_
        refine lv_iload_n hx hb d_Rd_passWallEnds_66 rfl (lv_at hl 2 rfl) ?_
        refine va_iald hx hb hK hP 3 1 rfl rfl (in_a (n := 128) (by rw [← eg_1]; exact sm_nn _ _ _ _) c_6 (by decide) (by decide)) d_Rd_passWallEnds_67 ?_
        refine lv_aload_n hx hb d_Rd_passWallEnds_68 rfl (lv_at hl 3 rfl) ?_
        refine va_get (D := D) (ci := 1) (v := .ref ry) (C := R_Rd) (T := T_Rd) (N := 13) hx hb hts i_Rd hown hK hP 0 rfl rfl 2 (by decide) (hts _ w_76) (fun _ h9 => h9) rfl d_Rd_passWallEnds_69 ?_
        refine lv_iload_n hx hb d_Rd_passWallEnds_72 rfl (lv_at hl 2 rfl) ?_
        refine va_iald hx hb hK hP 4 1 rfl rfl (in_a (n := 128) (by rw [← eg_1]; exact sm_nn _ _ _ _) c_6 (by decide) (by decide)) d_Rd_passWallEnds_73 ?_
        refine lv_aload_n hx hb d_Rd_passWallEnds_74 rfl (lv_at hl 3 rfl) ?_
        refine va_get (D := D) (ci := 1) (v := .ref rx) (C := R_Rd) (T := T_Rd) (N := 13) hx hb hts i_Rd hown hK hP 0 rfl rfl 1 (by decide) (hts _ w_75) (fun _ h9 => h9) rfl d_Rd_passWallEnds_75 ?_
        refine lv_iload hx hb d_Rd_passWallEnds_78 (lv_at hl 0 rfl) ?_
        refine va_iald hx hb hK hP 3 1 rfl rfl (in_a (n := 128) (by rw [← eg_2]; exact sm_nn _ _ _ _) c_7 (by decide) (by decide)) d_Rd_passWallEnds_80 ?_
        refine lv_aload_n hx hb d_Rd_passWallEnds_81 rfl (lv_at hl 3 rfl) ?_
        refine va_get (D := D) (ci := 1) (v := .ref ry) (C := R_Rd) (T := T_Rd) (N := 13) hx hb hts i_Rd hown hK hP 0 rfl rfl 2 (by decide) (hts _ w_76) (fun _ h9 => h9) rfl d_Rd_passWallEnds_82 ?_
        refine lv_iload hx hb d_Rd_passWallEnds_85 (lv_at hl 0 rfl) ?_
        refine va_iald hx hb hK hP 4 1 rfl rfl (in_a (n := 128) (by rw [← eg_2]; exact sm_nn _ _ _ _) c_7 (by decide) (by decide)) d_Rd_passWallEnds_87 ?_
        refine pz_v (pz_rV (d := 1) (As := [.int (xs g_1.1.toNatClampNeg), .int (ys g_1.1.toNatClampNeg), .int (xs g_2.1.toNatClampNeg), .int (ys g_2.1.toNatClampNeg)]) (rest := []) X hN (c_Sp_lay l D cB cI cS h1 a4 (xs g_1.1.toNatClampNeg) (ys g_1.1.toNatClampNeg) (xs g_2.1.toNatClampNeg) (ys g_2.1.toNatClampNeg) _) k_Sp_lay w_277 ⟨by decide, by decide⟩ hK hP hD [5] rfl rfl 5 rfl rfl rfl rfl hl.1 rfl (Nat.le_of_ble_eq_true rfl) d_Rd_passWallEnds_88 ⟨Nat.zero_le _, Nat.zero_le _⟩) hP hD hS hA [5] rfl [h1] rfl rfl (fun H locs hP hD hS => ?_)
        have hP : va_P D cls ([(r0, .inr (1, [.ref rw, .ref rx, .ref ry, .ref rs, .int nv, .int nt, .int ns, .int nw, .int wa, .int ((fl g_2.2 3 g_1.2.1).1), .int ((fl g_2.2 3 g_1.2.1).2.1), .int ((fl g_2.2 3 g_1.2.1).2.2), .int fw])), (rw, .inr (3, [.ref rb, .int (nI n)])), (rb, .inl (cB, 8192, .inl f)), (rx, .inl (cI, 128, .inl xs)), (ry, .inl (cI, 128, .inl ys)), (h1, .inr (4, [.int (xs g_1.1.toNatClampNeg), .int (ys g_1.1.toNatClampNeg), .int (xs g_2.1.toNatClampNeg), .int (ys g_2.1.toNatClampNeg), .int (mnI (xs g_1.1.toNatClampNeg) (xs g_2.1.toNatClampNeg)), .int (mxI (xs g_1.1.toNatClampNeg) (xs g_2.1.toNatClampNeg)), .int (mnI (ys g_1.1.toNatClampNeg) (ys g_2.1.toNatClampNeg)), .int (mxI (ys g_1.1.toNatClampNeg) (ys g_2.1.toNatClampNeg))]))]) H := hP
        have hD : va_D A ([(r0, .inr (1, [.ref rw, .ref rx, .ref ry, .ref rs, .int nv, .int nt, .int ns, .int nw, .int wa, .int ((fl g_2.2 3 g_1.2.1).1), .int ((fl g_2.2 3 g_1.2.1).2.1), .int ((fl g_2.2 3 g_1.2.1).2.2), .int fw])), (rw, .inr (3, [.ref rb, .int (nI n)])), (rb, .inl (cB, 8192, .inl f)), (rx, .inl (cI, 128, .inl xs)), (ry, .inl (cI, 128, .inl ys)), (h1, .inr (4, [.int (xs g_1.1.toNatClampNeg), .int (ys g_1.1.toNatClampNeg), .int (xs g_2.1.toNatClampNeg), .int (ys g_2.1.toNatClampNeg), .int (mnI (xs g_1.1.toNatClampNeg) (xs g_2.1.toNatClampNeg)), .int (mxI (xs g_1.1.toNatClampNeg) (xs g_2.1.toNatClampNeg)), .int (mnI (ys g_1.1.toNatClampNeg) (ys g_2.1.toNatClampNeg)), .int (mxI (ys g_1.1.toNatClampNeg) (ys g_2.1.toNatClampNeg))]))]) := hD
        exact fin _ _ _ _ _ d_Rd_passWallEnds_91 hP hS (by simp only [weS, weE, we2, we1, eg_1, eg_2, if_pos c_3, if_neg c_6, if_neg c_7])

set_option maxRecDepth 100000 in
set_option maxHeartbeats 4000000 in
/-- Reader.passWalls -/
theorem c_Rd_passWalls (l : Launch) (D : va_G) (cB cI cS : ClassId) (r0 rw rx ry rs rb : Nat) (nv nt ns nw wa fw : Int32) (q : S3) (f : Nat → Int32) (n : Nat) (xs ys : Nat → Int32) (ad : Nat → Nat) (sp : Nat → E4) (hn : n ≤ 8192) : mV l y_Rd_passWalls b_Rd_passWalls 3 (none) 4 D cls [(cB, .byte), (cI, .int), (cS, .object "MapLumps$Span")] [.ref r0] ([(r0, .inr (1, [.ref rw, .ref rx, .ref ry, .ref rs, .int nv, .int nt, .int ns, .int nw, .int wa, .int q.1, .int q.2.1, .int q.2.2, .int fw])), (rw, .inr (3, [.ref rb, .int (nI n)])), (rb, .inl (cB, 8192, .inl f)), (rx, .inl (cI, 128, .inl xs)), (ry, .inl (cI, 128, .inl ys)), (rs, .inl (cS, 128, .inr (.inr (.inr (.inr (fun i => some (ad i)))))))] ++ spw ad sp) ([(r0, .inr (1, [.ref rw, .ref rx, .ref ry, .ref rs, .int nv, .int nt, .int ns, .int nw, .int q.1, .int ((wlp f n nv nt ns nw xs ys 128 0 (q, sp)).1.1), .int ((wlp f n nv nt ns nw xs ys 128 0 (q, sp)).1.2.1), .int ((wlp f n nv nt ns nw xs ys 128 0 (q, sp)).1.2.2), .int fw])), (rw, .inr (3, [.ref rb, .int (nI n)])), (rb, .inl (cB, 8192, .inl f)), (rx, .inl (cI, 128, .inl xs)), (ry, .inl (cI, 128, .inl ys)), (rs, .inl (cS, 128, .inr (.inr (.inr (.inr (fun i => some (ad i)))))))] ++ spw ad (wlp f n nv nt ns nw xs ys 128 0 (q, sp)).2) := by
  refine pz_openV (by decide) (Nat.le_of_ble_eq_true rfl) ?_
  intro p e s m below meth c A ls Q X hN hK hP hD hS hA hl fin
  obtain ⟨hx, hb, hml, hown, hts⟩ := id X
  have hl : lv_has ls 3 [(0, .ref r0)] := hl
  refine lv_aload_n hx hb d_Rd_passWalls_0 rfl (lv_at hl 0 rfl) ?_
  refine lv_aload_n hx hb d_Rd_passWalls_1 rfl (lv_at hl 0 rfl) ?_
  refine va_get (D := D) (ci := 1) (v := .int q.1) (C := R_Rd) (T := T_Rd) (N := 13) hx hb hts i_Rd hown hK hP 0 rfl rfl 9 (by decide) (hts _ w_83) (fun _ h9 => h9) rfl d_Rd_passWalls_2 ?_
  refine va_put (D := D) (ci := 1) (v := .int q.1) (ty := (.int)) (C := R_Rd) (T := T_Rd) (N := 13) hx hb hts i_Rd ty_Rd tyok_Rd nm_Rd hown hK hP hD hS 0 rfl rfl 8 (by decide) (hts _ w_82) (fun _ h9 => h9) rfl (by decide +kernel) rfl rfl (Nat.le_of_ble_eq_true rfl) d_Rd_passWalls_5 (fun H locs hP hD hS => ?_)
  have hP : va_P D cls ([(r0, .inr (1, [.ref rw, .ref rx, .ref ry, .ref rs, .int nv, .int nt, .int ns, .int nw, .int q.1, .int q.1, .int q.2.1, .int q.2.2, .int fw])), (rw, .inr (3, [.ref rb, .int (nI n)])), (rb, .inl (cB, 8192, .inl f)), (rx, .inl (cI, 128, .inl xs)), (ry, .inl (cI, 128, .inl ys)), (rs, .inl (cS, 128, .inr (.inr (.inr (.inr (fun i => some (ad i)))))))] ++ spw ad sp) H := hP
  have hD : va_D A ([(r0, .inr (1, [.ref rw, .ref rx, .ref ry, .ref rs, .int nv, .int nt, .int ns, .int nw, .int q.1, .int q.1, .int q.2.1, .int q.2.2, .int fw])), (rw, .inr (3, [.ref rb, .int (nI n)])), (rb, .inl (cB, 8192, .inl f)), (rx, .inl (cI, 128, .inl xs)), (ry, .inl (cI, 128, .inl ys)), (rs, .inl (cS, 128, .inr (.inr (.inr (.inr (fun i => some (ad i)))))))] ++ spw ad sp) := hD
  refine lv_iconst (v := 0) hx hb d_Rd_passWalls_8 (by decide) ?_
  refine lv_istore_n (lv' := [(1, .int 0), (0, .ref r0)]) hx hb d_Rd_passWalls_9 rfl hl (by decide) rfl (fun ls hl => ?_)
  have lp_7 : ∀ (j7 : Nat) (k : Nat) (z : SW) (ls : Array Slot) (H : Heap) (locs : List Loc), j7 + k = 128 → wlp f n nv nt ns nw xs ys 128 0 (q, sp) = wlp f n nv nt ns nw xs ys j7 k z → va_P D cls ([(r0, .inr (1, [.ref rw, .ref rx, .ref ry, .ref rs, .int nv, .int nt, .int ns, .int nw, .int q.1, .int z.1.1, .int z.1.2.1, .int z.1.2.2, .int fw])), (rw, .inr (3, [.ref rb, .int (nI n)])), (rb, .inl (cB, 8192, .inl f)), (rx, .inl (cI, 128, .inl xs)), (ry, .inl (cI, 128, .inl ys)), (rs, .inl (cS, 128, .inr (.inr (.inr (.inr (fun i => some (ad i)))))))] ++ spw ad z.2) H → va_D A ([(r0, .inr (1, [.ref rw, .ref rx, .ref ry, .ref rs, .int nv, .int nt, .int ns, .int nw, .int q.1, .int z.1.1, .int z.1.2.1, .int z.1.2.2, .int fw])), (rw, .inr (3, [.ref rb, .int (nI n)])), (rb, .inl (cB, 8192, .inl f)), (rx, .inl (cI, 128, .inl xs)), (ry, .inl (cI, 128, .inl ys)), (rs, .inl (cS, 128, .inr (.inr (.inr (.inr (fun i => some (ad i)))))))] ++ spw ad z.2) → va_S A s.heap H locs → lv_has ls 3 [(0, .ref r0), (1, .int (nI k))] → W p l e (rmd 4) s m ([.ref r0] : List Value).toArray below meth c H locs 0 0 Q (F0 m 10 ls []) := by
    intro j7
    induction j7 with
    | zero =>
      intro k z ls H locs hi he hP hD hS hl
      refine lv_iload_n hx hb d_Rd_passWalls_10 rfl (lv_at hl 1 rfl) ?_
      refine lv_aload_n hx hb d_Rd_passWalls_11 rfl (lv_at hl 0 rfl) ?_
      refine va_get (D := D) (ci := 1) (v := .int nw) (C := R_Rd) (T := T_Rd) (N := 13) hx hb hts i_Rd hown hK hP 0 rfl rfl 7 (by decide) (hts _ w_81) (fun _ h9 => h9) rfl d_Rd_passWalls_12 ?_
      refine lv_icmp_ge (tgt := 136) hx hb d_Rd_passWalls_15 (by decide) (fun c_1 => ?_) (fun c_1 => ?_)
      · exact fin _ _ _ _ _ d_Rd_passWalls_136 hP hS (by rw [he]; simp only [wlp, if_pos c_1])
      · refine lv_iload_n hx hb d_Rd_passWalls_18 rfl (lv_at hl 1 rfl) ?_
        refine lv_aload_n hx hb d_Rd_passWalls_19 rfl (lv_at hl 0 rfl) ?_
        refine va_get (D := D) (ci := 1) (v := .ref rs) (C := R_Rd) (T := T_Rd) (N := 13) hx hb hts i_Rd hown hK hP 0 rfl rfl 3 (by decide) (hts _ w_77) (fun _ h9 => h9) rfl d_Rd_passWalls_20 ?_
        refine va_alen hx hb hK hP 5 2 rfl rfl (v := 128) rfl d_Rd_passWalls_23 ?_
        refine lv_icmp_ge (tgt := 136) hx hb d_Rd_passWalls_24 (by decide) (fun c_2 => ?_) (fun c_2 => ?_)
        · exact fin _ _ _ _ _ d_Rd_passWalls_136 hP hS (by rw [he]; simp only [wlp, if_neg c_1, if_pos c_2])
        · exact (c_2 (show nI 128 ≤ nI k by rw [nI_leI (by omega) (by omega)]; omega)).elim
    | succ j7 ih7 =>
      intro k z ls H locs hi he hP hD hS hl
      refine lv_iload_n hx hb d_Rd_passWalls_10 rfl (lv_at hl 1 rfl) ?_
      refine lv_aload_n hx hb d_Rd_passWalls_11 rfl (lv_at hl 0 rfl) ?_
      refine va_get (D := D) (ci := 1) (v := .int nw) (C := R_Rd) (T := T_Rd) (N := 13) hx hb hts i_Rd hown hK hP 0 rfl rfl 7 (by decide) (hts _ w_81) (fun _ h9 => h9) rfl d_Rd_passWalls_12 ?_
      refine lv_icmp_ge (tgt := 136) hx hb d_Rd_passWalls_15 (by decide) (fun c_3 => ?_) (fun c_3 => ?_)
      · exact fin _ _ _ _ _ d_Rd_passWalls_136 hP hS (by rw [he]; simp only [wlp, if_pos c_3])
      · refine lv_iload_n hx hb d_Rd_passWalls_18 rfl (lv_at hl 1 rfl) ?_
        refine lv_aload_n hx hb d_Rd_passWalls_19 rfl (lv_at hl 0 rfl) ?_
        refine va_get (D := D) (ci := 1) (v := .ref rs) (C := R_Rd) (T := T_Rd) (N := 13) hx hb hts i_Rd hown hK hP 0 rfl rfl 3 (by decide) (hts _ w_77) (fun _ h9 => h9) rfl d_Rd_passWalls_20 ?_
        refine va_alen hx hb hK hP 5 2 rfl rfl (v := 128) rfl d_Rd_passWalls_23 ?_
        refine lv_icmp_ge (tgt := 136) hx hb d_Rd_passWalls_24 (by decide) (fun c_4 => ?_) (fun c_4 => ?_)
        · exact absurd c_4 (show ¬ nI 128 ≤ nI k by rw [nI_leI (by omega) (by omega)]; omega)
        · refine lv_aload_n hx hb d_Rd_passWalls_27 rfl (lv_at hl 0 rfl) ?_
          refine va_get (D := D) (ci := 1) (v := .int z.1.2.1) (C := R_Rd) (T := T_Rd) (N := 13) hx hb hts i_Rd hown hK hP 0 rfl rfl 10 (by decide) (hts _ w_84) (fun _ h9 => h9) rfl d_Rd_passWalls_28 ?_
          refine lv_if_ne (tgt := 136) hx hb d_Rd_passWalls_31 (by decide) (fun c_5 => ?_) (fun c_5 => ?_)
          · exact fin _ _ _ _ _ d_Rd_passWalls_136 hP hS (by rw [he]; simp only [wlp, if_neg c_3, if_neg c_4, if_neg c_5])
          · refine lv_aload_n hx hb d_Rd_passWalls_34 rfl (lv_at hl 0 rfl) ?_
            refine lv_aload_n hx hb d_Rd_passWalls_35 rfl (lv_at hl 0 rfl) ?_
            refine va_get (D := D) (ci := 1) (v := .ref rs) (C := R_Rd) (T := T_Rd) (N := 13) hx hb hts i_Rd hown hK hP 0 rfl rfl 3 (by decide) (hts _ w_77) (fun _ h9 => h9) rfl d_Rd_passWalls_36 ?_
            refine lv_iload_n hx hb d_Rd_passWalls_39 rfl (lv_at hl 1 rfl) ?_
            refine va_aldq hx hb hK hP 5 2 rfl rfl (in_n (show k < 128 by omega) (by decide)) d_Rd_passWalls_40 ?_
            rw [nI_clamp (show k < 2 ^ 31 by omega)]
            refine W.eq (g2 := F0 m 41 ls [.ref (ad k), .ref r0]) rfl ?_
            refine pz_v (pz_rV (d := 3) (As := [.ref (ad k)]) (rest := []) X hN (c_Rd_passWallEnds l D cB cI cS r0 rw rx ry rs rb nv nt ns nw q.1 fw z.1 f n xs ys (ad k) (z.2 k) hn _) k_Rd_passWallEnds w_273 ⟨by decide, by decide⟩ hK hP hD [0, 1, 2, 3, 4, 6 + k] (spw_hC6 (show k < 128 by omega)) (nd6 _) 0 rfl rfl rfl rfl hl.1 rfl (Nat.le_of_ble_eq_true rfl) d_Rd_passWalls_41 ⟨Nat.zero_le _, Nat.zero_le _⟩) hP hD hS hA [0, 1, 2, 3, 4, 6 + k] (spw_hC6 (show k < 128 by omega)) [r0, rw, rb, rx, ry, ad k] rfl rfl (fun H locs hP hD hS => ?_)
            generalize eg_6 : weS f n nv z.1 = g_6 at hP hD ⊢
            rw [spw_put6 (weE f n nv xs ys z.1 (z.2 k)) (show k < 128 by omega)] at hP hD
            have hP : va_P D cls ([(r0, .inr (1, [.ref rw, .ref rx, .ref ry, .ref rs, .int nv, .int nt, .int ns, .int nw, .int q.1, .int g_6.1, .int g_6.2.1, .int g_6.2.2, .int fw])), (rw, .inr (3, [.ref rb, .int (nI n)])), (rb, .inl (cB, 8192, .inl f)), (rx, .inl (cI, 128, .inl xs)), (ry, .inl (cI, 128, .inl ys)), (rs, .inl (cS, 128, .inr (.inr (.inr (.inr (fun i => some (ad i)))))))] ++ spw ad (pu z.2 k (weE f n nv xs ys z.1 (z.2 k)))) H := hP
            have hD : va_D A ([(r0, .inr (1, [.ref rw, .ref rx, .ref ry, .ref rs, .int nv, .int nt, .int ns, .int nw, .int q.1, .int g_6.1, .int g_6.2.1, .int g_6.2.2, .int fw])), (rw, .inr (3, [.ref rb, .int (nI n)])), (rb, .inl (cB, 8192, .inl f)), (rx, .inl (cI, 128, .inl xs)), (ry, .inl (cI, 128, .inl ys)), (rs, .inl (cS, 128, .inr (.inr (.inr (.inr (fun i => some (ad i)))))))] ++ spw ad (pu z.2 k (weE f n nv xs ys z.1 (z.2 k)))) := hD
            refine lv_aload_n hx hb d_Rd_passWalls_44 rfl (lv_at hl 0 rfl) ?_
            refine lv_iconst (v := 0) hx hb d_Rd_passWalls_45 (by decide) ?_
            refine lv_aload_n hx hb d_Rd_passWalls_46 rfl (lv_at hl 0 rfl) ?_
            refine va_get (D := D) (ci := 1) (v := .int ns) (C := R_Rd) (T := T_Rd) (N := 13) hx hb hts i_Rd hown hK hP 0 rfl rfl 6 (by decide) (hts _ w_80) (fun _ h9 => h9) rfl d_Rd_passWalls_47 ?_
            refine lv_iconst (v := 1) hx hb d_Rd_passWalls_50 (by decide) ?_
            refine lv_isub hx hb d_Rd_passWalls_51 ?_
            refine pz_i (pz_rV (d := 2) (As := [.int 0, .int (ns - 1)]) (rest := []) X hN (c_Rd_small l D cB cI cS r0 rw rx ry rs rb nv nt ns nw q.1 fw g_6 f n 0 (ns - 1) hn _) k_Rd_small w_236 ⟨by decide, by decide⟩ hK hP hD [0, 1, 2] rfl rfl 0 rfl rfl rfl rfl hl.1 rfl (Nat.le_of_ble_eq_true rfl) d_Rd_passWalls_52 ⟨Nat.zero_le _, Nat.zero_le _⟩) hP hD hS hA [0, 1, 2] rfl [r0, rw, rb] rfl rfl (fun H locs hP hD hS => ?_)
            generalize eg_7 : sm f n g_6 0 (ns - 1) = g_7 at hP hD ⊢
            have hP : va_P D cls ([(r0, .inr (1, [.ref rw, .ref rx, .ref ry, .ref rs, .int nv, .int nt, .int ns, .int nw, .int q.1, .int g_7.2.1, .int g_7.2.2.1, .int g_7.2.2.2, .int fw])), (rw, .inr (3, [.ref rb, .int (nI n)])), (rb, .inl (cB, 8192, .inl f)), (rx, .inl (cI, 128, .inl xs)), (ry, .inl (cI, 128, .inl ys)), (rs, .inl (cS, 128, .inr (.inr (.inr (.inr (fun i => some (ad i)))))))] ++ spw ad (pu z.2 k (weE f n nv xs ys z.1 (z.2 k)))) H := hP
            have hD : va_D A ([(r0, .inr (1, [.ref rw, .ref rx, .ref ry, .ref rs, .int nv, .int nt, .int ns, .int nw, .int q.1, .int g_7.2.1, .int g_7.2.2.1, .int g_7.2.2.2, .int fw])), (rw, .inr (3, [.ref rb, .int (nI n)])), (rb, .inl (cB, 8192, .inl f)), (rx, .inl (cI, 128, .inl xs)), (ry, .inl (cI, 128, .inl ys)), (rs, .inl (cS, 128, .inr (.inr (.inr (.inr (fun i => some (ad i)))))))] ++ spw ad (pu z.2 k (weE f n nv xs ys z.1 (z.2 k)))) := hD
            refine lv_pop hx hb d_Rd_passWalls_55 rfl ?_
            refine lv_aload_n hx hb d_Rd_passWalls_56 rfl (lv_at hl 0 rfl) ?_
            refine lv_aload_n hx hb d_Rd_passWalls_57 rfl (lv_at hl 0 rfl) ?_
            refine va_get (D := D) (ci := 1) (v := .int ns) (C := R_Rd) (T := T_Rd) (N := 13) hx hb hts i_Rd hown hK hP 0 rfl rfl 6 (by decide) (hts _ w_80) (fun _ h9 => h9) rfl d_Rd_passWalls_58 ?_
            refine lv_iconst (v := 1) hx hb d_Rd_passWalls_61 (by decide) ?_
            refine lv_isub hx hb d_Rd_passWalls_62 ?_
            refine pz_i (pz_rV (d := 2) (As := [.int (ns - 1)]) (rest := []) X hN (c_Rd_smallOrAbsent l D cB cI cS r0 rw rx ry rs rb nv nt ns nw q.1 fw g_7.2 f n (ns - 1) hn _) k_Rd_smallOrAbsent w_265 ⟨by decide, by decide⟩ hK hP hD [0, 1, 2] rfl rfl 0 rfl rfl rfl rfl hl.1 rfl (Nat.le_of_ble_eq_true rfl) d_Rd_passWalls_63 ⟨Nat.zero_le _, Nat.zero_le _⟩) hP hD hS hA [0, 1, 2] rfl [r0, rw, rb] rfl rfl (fun H locs hP hD hS => ?_)
            generalize eg_8 : sa f n g_7.2 (ns - 1) = g_8 at hP hD ⊢
            have hP : va_P D cls ([(r0, .inr (1, [.ref rw, .ref rx, .ref ry, .ref rs, .int nv, .int nt, .int ns, .int nw, .int q.1, .int g_8.2.1, .int g_8.2.2.1, .int g_8.2.2.2, .int fw])), (rw, .inr (3, [.ref rb, .int (nI n)])), (rb, .inl (cB, 8192, .inl f)), (rx, .inl (cI, 128, .inl xs)), (ry, .inl (cI, 128, .inl ys)), (rs, .inl (cS, 128, .inr (.inr (.inr (.inr (fun i => some (ad i)))))))] ++ spw ad (pu z.2 k (weE f n nv xs ys z.1 (z.2 k)))) H := hP
            have hD : va_D A ([(r0, .inr (1, [.ref rw, .ref rx, .ref ry, .ref rs, .int nv, .int nt, .int ns, .int nw, .int q.1, .int g_8.2.1, .int g_8.2.2.1, .int g_8.2.2.2, .int fw])), (rw, .inr (3, [.ref rb, .int (nI n)])), (rb, .inl (cB, 8192, .inl f)), (rx, .inl (cI, 128, .inl xs)), (ry, .inl (cI, 128, .inl ys)), (rs, .inl (cS, 128, .inr (.inr (.inr (.inr (fun i => some (ad i)))))))] ++ spw ad (pu z.2 k (weE f n nv xs ys z.1 (z.2 k)))) := hD
            refine lv_istore_n (lv' := [(2, .int g_8.1), (0, .ref r0), (1, .int (nI k))]) hx hb d_Rd_passWalls_66 rfl hl (by decide) rfl (fun ls hl => ?_)
            refine lv_aload_n hx hb d_Rd_passWalls_67 rfl (lv_at hl 1 rfl) ?_
            refine lv_aload_n hx hb d_Rd_passWalls_68 rfl (lv_at hl 1 rfl) ?_
            refine va_get (D := D) (ci := 1) (v := .int nt) (C := R_Rd) (T := T_Rd) (N := 13) hx hb hts i_Rd hown hK hP 0 rfl rfl 5 (by decide) (hts _ w_79) (fun _ h9 => h9) rfl d_Rd_passWalls_69 ?_
            refine lv_iconst (v := 1) hx hb d_Rd_passWalls_72 (by decide) ?_
            refine lv_isub hx hb d_Rd_passWalls_73 ?_
            refine pz_v (pz_rV (d := 3) (As := [.int (nt - 1)]) (rest := []) X hN (c_Rd_passWallTextures l D cB cI cS r0 rw rx ry rs rb nv nt ns nw q.1 fw g_8.2 f n (nt - 1) hn _) k_Rd_passWallTextures w_287 ⟨by decide, by decide⟩ hK hP hD [0, 1, 2] rfl rfl 0 rfl rfl rfl rfl hl.1 rfl (Nat.le_of_ble_eq_true rfl) d_Rd_passWalls_74 ⟨Nat.zero_le _, Nat.zero_le _⟩) hP hD hS hA [0, 1, 2] rfl [r0, rw, rb] rfl rfl (fun H locs hP hD hS => ?_)
            have hP : va_P D cls ([(r0, .inr (1, [.ref rw, .ref rx, .ref ry, .ref rs, .int nv, .int nt, .int ns, .int nw, .int q.1, .int ((wt3 f n (nt - 1) g_8.2).1), .int ((wt3 f n (nt - 1) g_8.2).2.1), .int ((wt3 f n (nt - 1) g_8.2).2.2), .int fw])), (rw, .inr (3, [.ref rb, .int (nI n)])), (rb, .inl (cB, 8192, .inl f)), (rx, .inl (cI, 128, .inl xs)), (ry, .inl (cI, 128, .inl ys)), (rs, .inl (cS, 128, .inr (.inr (.inr (.inr (fun i => some (ad i)))))))] ++ spw ad (pu z.2 k (weE f n nv xs ys z.1 (z.2 k)))) H := hP
            have hD : va_D A ([(r0, .inr (1, [.ref rw, .ref rx, .ref ry, .ref rs, .int nv, .int nt, .int ns, .int nw, .int q.1, .int ((wt3 f n (nt - 1) g_8.2).1), .int ((wt3 f n (nt - 1) g_8.2).2.1), .int ((wt3 f n (nt - 1) g_8.2).2.2), .int fw])), (rw, .inr (3, [.ref rb, .int (nI n)])), (rb, .inl (cB, 8192, .inl f)), (rx, .inl (cI, 128, .inl xs)), (ry, .inl (cI, 128, .inl ys)), (rs, .inl (cS, 128, .inr (.inr (.inr (.inr (fun i => some (ad i)))))))] ++ spw ad (pu z.2 k (weE f n nv xs ys z.1 (z.2 k)))) := hD
            refine lv_aload_n hx hb d_Rd_passWalls_77 rfl (lv_at hl 1 rfl) ?_
            refine lv_iload_n hx hb d_Rd_passWalls_78 rfl (lv_at hl 0 rfl) ?_
            refine lv_sipush (v := 255) hx hb d_Rd_passWalls_79 (by decide) ?_
            refine lv_icmp_ne (tgt := 89) hx hb d_Rd_passWalls_82 (by decide) (fun c_9 => ?_) (fun c_9 => ?_)
            · refine lv_aload_n hx hb d_Rd_passWalls_89 rfl (lv_at hl 1 rfl) ?_
              refine va_get (D := D) (ci := 1) (v := .int nt) (C := R_Rd) (T := T_Rd) (N := 13) hx hb hts i_Rd hown hK hP 0 rfl rfl 5 (by decide) (hts _ w_79) (fun _ h9 => h9) rfl d_Rd_passWalls_90 ?_
              refine lv_iconst (v := 1) hx hb d_Rd_passWalls_93 (by decide) ?_
              refine lv_isub hx hb d_Rd_passWalls_94 ?_
              refine pz_v (pz_rV (d := 3) (As := [.int (nt - 1)]) (rest := []) X hN (c_Rd_passWallTextures l D cB cI cS r0 rw rx ry rs rb nv nt ns nw q.1 fw (wt3 f n (nt - 1) g_8.2) f n (nt - 1) hn _) k_Rd_passWallTextures w_287 ⟨by decide, by decide⟩ hK hP hD [0, 1, 2] rfl rfl 0 rfl rfl rfl rfl hl.1 rfl (Nat.le_of_ble_eq_true rfl) d_Rd_passWalls_95 ⟨Nat.zero_le _, Nat.zero_le _⟩) hP hD hS hA [0, 1, 2] rfl [r0, rw, rb] rfl rfl (fun H locs hP hD hS => ?_)
              have hP : va_P D cls ([(r0, .inr (1, [.ref rw, .ref rx, .ref ry, .ref rs, .int nv, .int nt, .int ns, .int nw, .int q.1, .int ((wt3 f n (nt - 1) (wt3 f n (nt - 1) g_8.2)).1), .int ((wt3 f n (nt - 1) (wt3 f n (nt - 1) g_8.2)).2.1), .int ((wt3 f n (nt - 1) (wt3 f n (nt - 1) g_8.2)).2.2), .int fw])), (rw, .inr (3, [.ref rb, .int (nI n)])), (rb, .inl (cB, 8192, .inl f)), (rx, .inl (cI, 128, .inl xs)), (ry, .inl (cI, 128, .inl ys)), (rs, .inl (cS, 128, .inr (.inr (.inr (.inr (fun i => some (ad i)))))))] ++ spw ad (pu z.2 k (weE f n nv xs ys z.1 (z.2 k)))) H := hP
              have hD : va_D A ([(r0, .inr (1, [.ref rw, .ref rx, .ref ry, .ref rs, .int nv, .int nt, .int ns, .int nw, .int q.1, .int ((wt3 f n (nt - 1) (wt3 f n (nt - 1) g_8.2)).1), .int ((wt3 f n (nt - 1) (wt3 f n (nt - 1) g_8.2)).2.1), .int ((wt3 f n (nt - 1) (wt3 f n (nt - 1) g_8.2)).2.2), .int fw])), (rw, .inr (3, [.ref rb, .int (nI n)])), (rb, .inl (cB, 8192, .inl f)), (rx, .inl (cI, 128, .inl xs)), (ry, .inl (cI, 128, .inl ys)), (rs, .inl (cS, 128, .inr (.inr (.inr (.inr (fun i => some (ad i)))))))] ++ spw ad (pu z.2 k (weE f n nv xs ys z.1 (z.2 k)))) := hD
              refine lv_aload_n hx hb d_Rd_passWalls_98 rfl (lv_at hl 1 rfl) ?_
              refine lv_iconst (v := 0) hx hb d_Rd_passWalls_99 (by decide) ?_
              refine lv_sipush (v := 255) hx hb d_Rd_passWalls_100 (by decide) ?_
              refine pz_i (pz_rV (d := 2) (As := [.int 0, .int 255]) (rest := []) X hN (c_Rd_small l D cB cI cS r0 rw rx ry rs rb nv nt ns nw q.1 fw (wt3 f n (nt - 1) (wt3 f n (nt - 1) g_8.2)) f n 0 255 hn _) k_Rd_small w_236 ⟨by decide, by decide⟩ hK hP hD [0, 1, 2] rfl rfl 0 rfl rfl rfl rfl hl.1 rfl (Nat.le_of_ble_eq_true rfl) d_Rd_passWalls_103 ⟨Nat.zero_le _, Nat.zero_le _⟩) hP hD hS hA [0, 1, 2] rfl [r0, rw, rb] rfl rfl (fun H locs hP hD hS => ?_)
              generalize eg_10 : sm f n (wt3 f n (nt - 1) (wt3 f n (nt - 1) g_8.2)) 0 255 = g_10 at hP hD ⊢
              have hP : va_P D cls ([(r0, .inr (1, [.ref rw, .ref rx, .ref ry, .ref rs, .int nv, .int nt, .int ns, .int nw, .int q.1, .int g_10.2.1, .int g_10.2.2.1, .int g_10.2.2.2, .int fw])), (rw, .inr (3, [.ref rb, .int (nI n)])), (rb, .inl (cB, 8192, .inl f)), (rx, .inl (cI, 128, .inl xs)), (ry, .inl (cI, 128, .inl ys)), (rs, .inl (cS, 128, .inr (.inr (.inr (.inr (fun i => some (ad i)))))))] ++ spw ad (pu z.2 k (weE f n nv xs ys z.1 (z.2 k)))) H := hP
              have hD : va_D A ([(r0, .inr (1, [.ref rw, .ref rx, .ref ry, .ref rs, .int nv, .int nt, .int ns, .int nw, .int q.1, .int g_10.2.1, .int g_10.2.2.1, .int g_10.2.2.2, .int fw])), (rw, .inr (3, [.ref rb, .int (nI n)])), (rb, .inl (cB, 8192, .inl f)), (rx, .inl (cI, 128, .inl xs)), (ry, .inl (cI, 128, .inl ys)), (rs, .inl (cS, 128, .inr (.inr (.inr (.inr (fun i => some (ad i)))))))] ++ spw ad (pu z.2 k (weE f n nv xs ys z.1 (z.2 k)))) := hD
              refine lv_pop hx hb d_Rd_passWalls_106 rfl ?_
              refine lv_aload_n hx hb d_Rd_passWalls_107 rfl (lv_at hl 1 rfl) ?_
              refine lv_iconst (v := 0) hx hb d_Rd_passWalls_108 (by decide) ?_
              refine lv_iconst (v := 3) hx hb d_Rd_passWalls_109 (by decide) ?_
              refine pz_i (pz_rV (d := 2) (As := [.int 0, .int 3]) (rest := []) X hN (c_Rd_small l D cB cI cS r0 rw rx ry rs rb nv nt ns nw q.1 fw g_10.2 f n 0 3 hn _) k_Rd_small w_236 ⟨by decide, by decide⟩ hK hP hD [0, 1, 2] rfl rfl 0 rfl rfl rfl rfl hl.1 rfl (Nat.le_of_ble_eq_true rfl) d_Rd_passWalls_110 ⟨Nat.zero_le _, Nat.zero_le _⟩) hP hD hS hA [0, 1, 2] rfl [r0, rw, rb] rfl rfl (fun H locs hP hD hS => ?_)
              generalize eg_11 : sm f n g_10.2 0 3 = g_11 at hP hD ⊢
              have hP : va_P D cls ([(r0, .inr (1, [.ref rw, .ref rx, .ref ry, .ref rs, .int nv, .int nt, .int ns, .int nw, .int q.1, .int g_11.2.1, .int g_11.2.2.1, .int g_11.2.2.2, .int fw])), (rw, .inr (3, [.ref rb, .int (nI n)])), (rb, .inl (cB, 8192, .inl f)), (rx, .inl (cI, 128, .inl xs)), (ry, .inl (cI, 128, .inl ys)), (rs, .inl (cS, 128, .inr (.inr (.inr (.inr (fun i => some (ad i)))))))] ++ spw ad (pu z.2 k (weE f n nv xs ys z.1 (z.2 k)))) H := hP
              have hD : va_D A ([(r0, .inr (1, [.ref rw, .ref rx, .ref ry, .ref rs, .int nv, .int nt, .int ns, .int nw, .int q.1, .int g_11.2.1, .int g_11.2.2.1, .int g_11.2.2.2, .int fw])), (rw, .inr (3, [.ref rb, .int (nI n)])), (rb, .inl (cB, 8192, .inl f)), (rx, .inl (cI, 128, .inl xs)), (ry, .inl (cI, 128, .inl ys)), (rs, .inl (cS, 128, .inr (.inr (.inr (.inr (fun i => some (ad i)))))))] ++ spw ad (pu z.2 k (weE f n nv xs ys z.1 (z.2 k)))) := hD
              refine lv_pop hx hb d_Rd_passWalls_113 rfl ?_
              refine lv_aload_n hx hb d_Rd_passWalls_114 rfl (lv_at hl 1 rfl) ?_
              refine lv_iconst (v := 0) hx hb d_Rd_passWalls_115 (by decide) ?_
              refine lv_iconst (v := 5) hx hb d_Rd_passWalls_116 (by decide) ?_
              refine pz_i (pz_rV (d := 2) (As := [.int 0, .int 5]) (rest := []) X hN (c_Rd_small l D cB cI cS r0 rw rx ry rs rb nv nt ns nw q.1 fw g_11.2 f n 0 5 hn _) k_Rd_small w_236 ⟨by decide, by decide⟩ hK hP hD [0, 1, 2] rfl rfl 0 rfl rfl rfl rfl hl.1 rfl (Nat.le_of_ble_eq_true rfl) d_Rd_passWalls_117 ⟨Nat.zero_le _, Nat.zero_le _⟩) hP hD hS hA [0, 1, 2] rfl [r0, rw, rb] rfl rfl (fun H locs hP hD hS => ?_)
              generalize eg_12 : sm f n g_11.2 0 5 = g_12 at hP hD ⊢
              have hP : va_P D cls ([(r0, .inr (1, [.ref rw, .ref rx, .ref ry, .ref rs, .int nv, .int nt, .int ns, .int nw, .int q.1, .int g_12.2.1, .int g_12.2.2.1, .int g_12.2.2.2, .int fw])), (rw, .inr (3, [.ref rb, .int (nI n)])), (rb, .inl (cB, 8192, .inl f)), (rx, .inl (cI, 128, .inl xs)), (ry, .inl (cI, 128, .inl ys)), (rs, .inl (cS, 128, .inr (.inr (.inr (.inr (fun i => some (ad i)))))))] ++ spw ad (pu z.2 k (weE f n nv xs ys z.1 (z.2 k)))) H := hP
              have hD : va_D A ([(r0, .inr (1, [.ref rw, .ref rx, .ref ry, .ref rs, .int nv, .int nt, .int ns, .int nw, .int q.1, .int g_12.2.1, .int g_12.2.2.1, .int g_12.2.2.2, .int fw])), (rw, .inr (3, [.ref rb, .int (nI n)])), (rb, .inl (cB, 8192, .inl f)), (rx, .inl (cI, 128, .inl xs)), (ry, .inl (cI, 128, .inl ys)), (rs, .inl (cS, 128, .inr (.inr (.inr (.inr (fun i => some (ad i)))))))] ++ spw ad (pu z.2 k (weE f n nv xs ys z.1 (z.2 k)))) := hD
              refine lv_pop hx hb d_Rd_passWalls_120 rfl ?_
              refine lv_aload_n hx hb d_Rd_passWalls_121 rfl (lv_at hl 1 rfl) ?_
              refine lv_iconst (v := 0) hx hb d_Rd_passWalls_122 (by decide) ?_
              refine lv_sipush (v := 255) hx hb d_Rd_passWalls_123 (by decide) ?_
              refine pz_i (pz_rV (d := 2) (As := [.int 0, .int 255]) (rest := []) X hN (c_Rd_small l D cB cI cS r0 rw rx ry rs rb nv nt ns nw q.1 fw g_12.2 f n 0 255 hn _) k_Rd_small w_236 ⟨by decide, by decide⟩ hK hP hD [0, 1, 2] rfl rfl 0 rfl rfl rfl rfl hl.1 rfl (Nat.le_of_ble_eq_true rfl) d_Rd_passWalls_126 ⟨Nat.zero_le _, Nat.zero_le _⟩) hP hD hS hA [0, 1, 2] rfl [r0, rw, rb] rfl rfl (fun H locs hP hD hS => ?_)
              generalize eg_13 : sm f n g_12.2 0 255 = g_13 at hP hD ⊢
              have hP : va_P D cls ([(r0, .inr (1, [.ref rw, .ref rx, .ref ry, .ref rs, .int nv, .int nt, .int ns, .int nw, .int q.1, .int g_13.2.1, .int g_13.2.2.1, .int g_13.2.2.2, .int fw])), (rw, .inr (3, [.ref rb, .int (nI n)])), (rb, .inl (cB, 8192, .inl f)), (rx, .inl (cI, 128, .inl xs)), (ry, .inl (cI, 128, .inl ys)), (rs, .inl (cS, 128, .inr (.inr (.inr (.inr (fun i => some (ad i)))))))] ++ spw ad (pu z.2 k (weE f n nv xs ys z.1 (z.2 k)))) H := hP
              have hD : va_D A ([(r0, .inr (1, [.ref rw, .ref rx, .ref ry, .ref rs, .int nv, .int nt, .int ns, .int nw, .int q.1, .int g_13.2.1, .int g_13.2.2.1, .int g_13.2.2.2, .int fw])), (rw, .inr (3, [.ref rb, .int (nI n)])), (rb, .inl (cB, 8192, .inl f)), (rx, .inl (cI, 128, .inl xs)), (ry, .inl (cI, 128, .inl ys)), (rs, .inl (cS, 128, .inr (.inr (.inr (.inr (fun i => some (ad i)))))))] ++ spw ad (pu z.2 k (weE f n nv xs ys z.1 (z.2 k)))) := hD
              refine lv_pop hx hb d_Rd_passWalls_129 rfl ?_
              refine lv_iinc (v := nI (k + 1)) (lv' := [(1, .int (nI (k + 1))), (2, .int g_8.1), (0, .ref r0)]) hx hb d_Rd_passWalls_130 hl (k := 2) rfl (nI_1 k) (by decide) rfl (fun ls hl => ?_)
              refine lv_goto (tgt := 10) hx hb d_Rd_passWalls_133 (by decide) ?_
              exact ih7 (k + 1) (g_13.2, (pu z.2 k (weE f n nv xs ys z.1 (z.2 k)))) _ _ _ (by omega) (by rw [he, wlp]; simp only [wst, wl4, wl3, wl2, wl1, eg_6, eg_7, eg_8, eg_10, eg_11, eg_12, eg_13, if_neg c_3, if_neg c_4, if_pos c_5, if_neg c_9]) hP hD hS (lv_sub hl [2, 0] rfl)
            · refine lv_iconst (v := (-1)) hx hb d_Rd_passWalls_85 (by decide) ?_
              refine lv_goto (tgt := 95) hx hb d_Rd_passWalls_86 (by decide) ?_
              refine pz_v (pz_rV (d := 3) (As := [.int (-1)]) (rest := []) X hN (c_Rd_passWallTextures l D cB cI cS r0 rw rx ry rs rb nv nt ns nw q.1 fw (wt3 f n (nt - 1) g_8.2) f n (-1) hn _) k_Rd_passWallTextures w_287 ⟨by decide, by decide⟩ hK hP hD [0, 1, 2] rfl rfl 0 rfl rfl rfl rfl hl.1 rfl (Nat.le_of_ble_eq_true rfl) d_Rd_passWalls_95 ⟨Nat.zero_le _, Nat.zero_le _⟩) hP hD hS hA [0, 1, 2] rfl [r0, rw, rb] rfl rfl (fun H locs hP hD hS => ?_)
              have hP : va_P D cls ([(r0, .inr (1, [.ref rw, .ref rx, .ref ry, .ref rs, .int nv, .int nt, .int ns, .int nw, .int q.1, .int ((wt3 f n (-1) (wt3 f n (nt - 1) g_8.2)).1), .int ((wt3 f n (-1) (wt3 f n (nt - 1) g_8.2)).2.1), .int ((wt3 f n (-1) (wt3 f n (nt - 1) g_8.2)).2.2), .int fw])), (rw, .inr (3, [.ref rb, .int (nI n)])), (rb, .inl (cB, 8192, .inl f)), (rx, .inl (cI, 128, .inl xs)), (ry, .inl (cI, 128, .inl ys)), (rs, .inl (cS, 128, .inr (.inr (.inr (.inr (fun i => some (ad i)))))))] ++ spw ad (pu z.2 k (weE f n nv xs ys z.1 (z.2 k)))) H := hP
              have hD : va_D A ([(r0, .inr (1, [.ref rw, .ref rx, .ref ry, .ref rs, .int nv, .int nt, .int ns, .int nw, .int q.1, .int ((wt3 f n (-1) (wt3 f n (nt - 1) g_8.2)).1), .int ((wt3 f n (-1) (wt3 f n (nt - 1) g_8.2)).2.1), .int ((wt3 f n (-1) (wt3 f n (nt - 1) g_8.2)).2.2), .int fw])), (rw, .inr (3, [.ref rb, .int (nI n)])), (rb, .inl (cB, 8192, .inl f)), (rx, .inl (cI, 128, .inl xs)), (ry, .inl (cI, 128, .inl ys)), (rs, .inl (cS, 128, .inr (.inr (.inr (.inr (fun i => some (ad i)))))))] ++ spw ad (pu z.2 k (weE f n nv xs ys z.1 (z.2 k)))) := hD
              refine lv_aload_n hx hb d_Rd_passWalls_98 rfl (lv_at hl 1 rfl) ?_
              refine lv_iconst (v := 0) hx hb d_Rd_passWalls_99 (by decide) ?_
              refine lv_sipush (v := 255) hx hb d_Rd_passWalls_100 (by decide) ?_
              refine pz_i (pz_rV (d := 2) (As := [.int 0, .int 255]) (rest := []) X hN (c_Rd_small l D cB cI cS r0 rw rx ry rs rb nv nt ns nw q.1 fw (wt3 f n (-1) (wt3 f n (nt - 1) g_8.2)) f n 0 255 hn _) k_Rd_small w_236 ⟨by decide, by decide⟩ hK hP hD [0, 1, 2] rfl rfl 0 rfl rfl rfl rfl hl.1 rfl (Nat.le_of_ble_eq_true rfl) d_Rd_passWalls_103 ⟨Nat.zero_le _, Nat.zero_le _⟩) hP hD hS hA [0, 1, 2] rfl [r0, rw, rb] rfl rfl (fun H locs hP hD hS => ?_)
              generalize eg_14 : sm f n (wt3 f n (-1) (wt3 f n (nt - 1) g_8.2)) 0 255 = g_14 at hP hD ⊢
              have hP : va_P D cls ([(r0, .inr (1, [.ref rw, .ref rx, .ref ry, .ref rs, .int nv, .int nt, .int ns, .int nw, .int q.1, .int g_14.2.1, .int g_14.2.2.1, .int g_14.2.2.2, .int fw])), (rw, .inr (3, [.ref rb, .int (nI n)])), (rb, .inl (cB, 8192, .inl f)), (rx, .inl (cI, 128, .inl xs)), (ry, .inl (cI, 128, .inl ys)), (rs, .inl (cS, 128, .inr (.inr (.inr (.inr (fun i => some (ad i)))))))] ++ spw ad (pu z.2 k (weE f n nv xs ys z.1 (z.2 k)))) H := hP
              have hD : va_D A ([(r0, .inr (1, [.ref rw, .ref rx, .ref ry, .ref rs, .int nv, .int nt, .int ns, .int nw, .int q.1, .int g_14.2.1, .int g_14.2.2.1, .int g_14.2.2.2, .int fw])), (rw, .inr (3, [.ref rb, .int (nI n)])), (rb, .inl (cB, 8192, .inl f)), (rx, .inl (cI, 128, .inl xs)), (ry, .inl (cI, 128, .inl ys)), (rs, .inl (cS, 128, .inr (.inr (.inr (.inr (fun i => some (ad i)))))))] ++ spw ad (pu z.2 k (weE f n nv xs ys z.1 (z.2 k)))) := hD
              refine lv_pop hx hb d_Rd_passWalls_106 rfl ?_
              refine lv_aload_n hx hb d_Rd_passWalls_107 rfl (lv_at hl 1 rfl) ?_
              refine lv_iconst (v := 0) hx hb d_Rd_passWalls_108 (by decide) ?_
              refine lv_iconst (v := 3) hx hb d_Rd_passWalls_109 (by decide) ?_
              refine pz_i (pz_rV (d := 2) (As := [.int 0, .int 3]) (rest := []) X hN (c_Rd_small l D cB cI cS r0 rw rx ry rs rb nv nt ns nw q.1 fw g_14.2 f n 0 3 hn _) k_Rd_small w_236 ⟨by decide, by decide⟩ hK hP hD [0, 1, 2] rfl rfl 0 rfl rfl rfl rfl hl.1 rfl (Nat.le_of_ble_eq_true rfl) d_Rd_passWalls_110 ⟨Nat.zero_le _, Nat.zero_le _⟩) hP hD hS hA [0, 1, 2] rfl [r0, rw, rb] rfl rfl (fun H locs hP hD hS => ?_)
              generalize eg_15 : sm f n g_14.2 0 3 = g_15 at hP hD ⊢
              have hP : va_P D cls ([(r0, .inr (1, [.ref rw, .ref rx, .ref ry, .ref rs, .int nv, .int nt, .int ns, .int nw, .int q.1, .int g_15.2.1, .int g_15.2.2.1, .int g_15.2.2.2, .int fw])), (rw, .inr (3, [.ref rb, .int (nI n)])), (rb, .inl (cB, 8192, .inl f)), (rx, .inl (cI, 128, .inl xs)), (ry, .inl (cI, 128, .inl ys)), (rs, .inl (cS, 128, .inr (.inr (.inr (.inr (fun i => some (ad i)))))))] ++ spw ad (pu z.2 k (weE f n nv xs ys z.1 (z.2 k)))) H := hP
              have hD : va_D A ([(r0, .inr (1, [.ref rw, .ref rx, .ref ry, .ref rs, .int nv, .int nt, .int ns, .int nw, .int q.1, .int g_15.2.1, .int g_15.2.2.1, .int g_15.2.2.2, .int fw])), (rw, .inr (3, [.ref rb, .int (nI n)])), (rb, .inl (cB, 8192, .inl f)), (rx, .inl (cI, 128, .inl xs)), (ry, .inl (cI, 128, .inl ys)), (rs, .inl (cS, 128, .inr (.inr (.inr (.inr (fun i => some (ad i)))))))] ++ spw ad (pu z.2 k (weE f n nv xs ys z.1 (z.2 k)))) := hD
              refine lv_pop hx hb d_Rd_passWalls_113 rfl ?_
              refine lv_aload_n hx hb d_Rd_passWalls_114 rfl (lv_at hl 1 rfl) ?_
              refine lv_iconst (v := 0) hx hb d_Rd_passWalls_115 (by decide) ?_
              refine lv_iconst (v := 5) hx hb d_Rd_passWalls_116 (by decide) ?_
              refine pz_i (pz_rV (d := 2) (As := [.int 0, .int 5]) (rest := []) X hN (c_Rd_small l D cB cI cS r0 rw rx ry rs rb nv nt ns nw q.1 fw g_15.2 f n 0 5 hn _) k_Rd_small w_236 ⟨by decide, by decide⟩ hK hP hD [0, 1, 2] rfl rfl 0 rfl rfl rfl rfl hl.1 rfl (Nat.le_of_ble_eq_true rfl) d_Rd_passWalls_117 ⟨Nat.zero_le _, Nat.zero_le _⟩) hP hD hS hA [0, 1, 2] rfl [r0, rw, rb] rfl rfl (fun H locs hP hD hS => ?_)
              generalize eg_16 : sm f n g_15.2 0 5 = g_16 at hP hD ⊢
              have hP : va_P D cls ([(r0, .inr (1, [.ref rw, .ref rx, .ref ry, .ref rs, .int nv, .int nt, .int ns, .int nw, .int q.1, .int g_16.2.1, .int g_16.2.2.1, .int g_16.2.2.2, .int fw])), (rw, .inr (3, [.ref rb, .int (nI n)])), (rb, .inl (cB, 8192, .inl f)), (rx, .inl (cI, 128, .inl xs)), (ry, .inl (cI, 128, .inl ys)), (rs, .inl (cS, 128, .inr (.inr (.inr (.inr (fun i => some (ad i)))))))] ++ spw ad (pu z.2 k (weE f n nv xs ys z.1 (z.2 k)))) H := hP
              have hD : va_D A ([(r0, .inr (1, [.ref rw, .ref rx, .ref ry, .ref rs, .int nv, .int nt, .int ns, .int nw, .int q.1, .int g_16.2.1, .int g_16.2.2.1, .int g_16.2.2.2, .int fw])), (rw, .inr (3, [.ref rb, .int (nI n)])), (rb, .inl (cB, 8192, .inl f)), (rx, .inl (cI, 128, .inl xs)), (ry, .inl (cI, 128, .inl ys)), (rs, .inl (cS, 128, .inr (.inr (.inr (.inr (fun i => some (ad i)))))))] ++ spw ad (pu z.2 k (weE f n nv xs ys z.1 (z.2 k)))) := hD
              refine lv_pop hx hb d_Rd_passWalls_120 rfl ?_
              refine lv_aload_n hx hb d_Rd_passWalls_121 rfl (lv_at hl 1 rfl) ?_
              refine lv_iconst (v := 0) hx hb d_Rd_passWalls_122 (by decide) ?_
              refine lv_sipush (v := 255) hx hb d_Rd_passWalls_123 (by decide) ?_
              refine pz_i (pz_rV (d := 2) (As := [.int 0, .int 255]) (rest := []) X hN (c_Rd_small l D cB cI cS r0 rw rx ry rs rb nv nt ns nw q.1 fw g_16.2 f n 0 255 hn _) k_Rd_small w_236 ⟨by decide, by decide⟩ hK hP hD [0, 1, 2] rfl rfl 0 rfl rfl rfl rfl hl.1 rfl (Nat.le_of_ble_eq_true rfl) d_Rd_passWalls_126 ⟨Nat.zero_le _, Nat.zero_le _⟩) hP hD hS hA [0, 1, 2] rfl [r0, rw, rb] rfl rfl (fun H locs hP hD hS => ?_)
              generalize eg_17 : sm f n g_16.2 0 255 = g_17 at hP hD ⊢
              have hP : va_P D cls ([(r0, .inr (1, [.ref rw, .ref rx, .ref ry, .ref rs, .int nv, .int nt, .int ns, .int nw, .int q.1, .int g_17.2.1, .int g_17.2.2.1, .int g_17.2.2.2, .int fw])), (rw, .inr (3, [.ref rb, .int (nI n)])), (rb, .inl (cB, 8192, .inl f)), (rx, .inl (cI, 128, .inl xs)), (ry, .inl (cI, 128, .inl ys)), (rs, .inl (cS, 128, .inr (.inr (.inr (.inr (fun i => some (ad i)))))))] ++ spw ad (pu z.2 k (weE f n nv xs ys z.1 (z.2 k)))) H := hP
              have hD : va_D A ([(r0, .inr (1, [.ref rw, .ref rx, .ref ry, .ref rs, .int nv, .int nt, .int ns, .int nw, .int q.1, .int g_17.2.1, .int g_17.2.2.1, .int g_17.2.2.2, .int fw])), (rw, .inr (3, [.ref rb, .int (nI n)])), (rb, .inl (cB, 8192, .inl f)), (rx, .inl (cI, 128, .inl xs)), (ry, .inl (cI, 128, .inl ys)), (rs, .inl (cS, 128, .inr (.inr (.inr (.inr (fun i => some (ad i)))))))] ++ spw ad (pu z.2 k (weE f n nv xs ys z.1 (z.2 k)))) := hD
              refine lv_pop hx hb d_Rd_passWalls_129 rfl ?_
              refine lv_iinc (v := nI (k + 1)) (lv' := [(1, .int (nI (k + 1))), (2, .int g_8.1), (0, .ref r0)]) hx hb d_Rd_passWalls_130 hl (k := 2) rfl (nI_1 k) (by decide) rfl (fun ls hl => ?_)
              refine lv_goto (tgt := 10) hx hb d_Rd_passWalls_133 (by decide) ?_
              exact ih7 (k + 1) (g_17.2, (pu z.2 k (weE f n nv xs ys z.1 (z.2 k)))) _ _ _ (by omega) (by rw [he, wlp]; simp only [wst, wl4, wl3, wl2, wl1, eg_6, eg_7, eg_8, eg_14, eg_15, eg_16, eg_17, if_neg c_3, if_neg c_4, if_pos c_5, if_pos c_9]) hP hD hS (lv_sub hl [2, 0] rfl)
  exact lp_7 128 0 (q, sp) _ _ _ (by omega) (rfl) hP hD hS (lv_sub hl [1, 0] rfl)

set_option maxRecDepth 100000 in
set_option maxHeartbeats 4000000 in
/-- Reader.seekMeeting -/
theorem c_Rd_seekMeeting (l : Launch) (D : va_G) (cB cI cS : ClassId) (r0 rw rx ry rs rb : Nat) (nv nt ns nw wa fw : Int32) (q : S3) (f : Nat → Int32) (n : Nat) (xs ys : Nat → Int32) (ad : Nat → Nat) (sp : Nat → E4) (hn : n ≤ 8192) : mV l y_Rd_seekMeeting b_Rd_seekMeeting 3 (none) 4 D cls [(cB, .byte), (cI, .int), (cS, .object "MapLumps$Span")] [.ref r0] ([(r0, .inr (1, [.ref rw, .ref rx, .ref ry, .ref rs, .int nv, .int nt, .int ns, .int nw, .int wa, .int q.1, .int q.2.1, .int q.2.2, .int fw])), (rw, .inr (3, [.ref rb, .int (nI n)])), (rb, .inl (cB, 8192, .inl f)), (rx, .inl (cI, 128, .inl xs)), (ry, .inl (cI, 128, .inl ys)), (rs, .inl (cS, 128, .inr (.inr (.inr (.inr (fun i => some (ad i)))))))] ++ spw ad sp) ([(r0, .inr (1, [.ref rw, .ref rx, .ref ry, .ref rs, .int nv, .int nt, .int ns, .int nw, .int wa, .int ((mk2 sp wa nw 127 1 (q, fw)).1.1), .int ((mk2 sp wa nw 127 1 (q, fw)).1.2.1), .int ((mk2 sp wa nw 127 1 (q, fw)).1.2.2), .int ((mk2 sp wa nw 127 1 (q, fw)).2)])), (rw, .inr (3, [.ref rb, .int (nI n)])), (rb, .inl (cB, 8192, .inl f)), (rx, .inl (cI, 128, .inl xs)), (ry, .inl (cI, 128, .inl ys)), (rs, .inl (cS, 128, .inr (.inr (.inr (.inr (fun i => some (ad i)))))))] ++ spw ad sp) := by
  refine pz_openV (by decide) (Nat.le_of_ble_eq_true rfl) ?_
  intro p e s m below meth c A ls Q X hN hK hP hD hS hA hl fin
  obtain ⟨hx, hb, hml, hown, hts⟩ := id X
  have hl : lv_has ls 3 [(0, .ref r0)] := hl
  refine lv_iconst (v := 1) hx hb d_Rd_seekMeeting_0 (by decide) ?_
  refine lv_istore_n (lv' := [(1, .int 1), (0, .ref r0)]) hx hb d_Rd_seekMeeting_1 rfl hl (by decide) rfl (fun ls hl => ?_)
  have lp_8 : ∀ (j8 : Nat) (k : Nat) (z : SM) (ls : Array Slot) (H : Heap) (locs : List Loc), j8 + k = 128 → mk2 sp wa nw 127 1 (q, fw) = mk2 sp wa nw j8 k z → va_P D cls ([(r0, .inr (1, [.ref rw, .ref rx, .ref ry, .ref rs, .int nv, .int nt, .int ns, .int nw, .int wa, .int z.1.1, .int z.1.2.1, .int z.1.2.2, .int z.2])), (rw, .inr (3, [.ref rb, .int (nI n)])), (rb, .inl (cB, 8192, .inl f)), (rx, .inl (cI, 128, .inl xs)), (ry, .inl (cI, 128, .inl ys)), (rs, .inl (cS, 128, .inr (.inr (.inr (.inr (fun i => some (ad i)))))))] ++ spw ad sp) H → va_D A ([(r0, .inr (1, [.ref rw, .ref rx, .ref ry, .ref rs, .int nv, .int nt, .int ns, .int nw, .int wa, .int z.1.1, .int z.1.2.1, .int z.1.2.2, .int z.2])), (rw, .inr (3, [.ref rb, .int (nI n)])), (rb, .inl (cB, 8192, .inl f)), (rx, .inl (cI, 128, .inl xs)), (ry, .inl (cI, 128, .inl ys)), (rs, .inl (cS, 128, .inr (.inr (.inr (.inr (fun i => some (ad i)))))))] ++ spw ad sp) → va_S A s.heap H locs → lv_has ls 3 [(0, .ref r0), (1, .int (nI k))] → W p l e (rmd 4) s m ([.ref r0] : List Value).toArray below meth c H locs 0 0 Q (F0 m 2 ls []) := by
    intro j8
    induction j8 with
    | zero =>
      intro k z ls H locs hi he hP hD hS hl
      refine lv_iload_n hx hb d_Rd_seekMeeting_2 rfl (lv_at hl 1 rfl) ?_
      refine lv_aload_n hx hb d_Rd_seekMeeting_3 rfl (lv_at hl 0 rfl) ?_
      refine va_get (D := D) (ci := 1) (v := .int nw) (C := R_Rd) (T := T_Rd) (N := 13) hx hb hts i_Rd hown hK hP 0 rfl rfl 7 (by decide) (hts _ w_81) (fun _ h9 => h9) rfl d_Rd_seekMeeting_4 ?_
      refine lv_icmp_ge (tgt := 90) hx hb d_Rd_seekMeeting_7 (by decide) (fun c_1 => ?_) (fun c_1 => ?_)
      · exact fin _ _ _ _ _ d_Rd_seekMeeting_90 hP hS (by rw [he]; simp only [mk2, if_pos c_1])
      · refine lv_iload_n hx hb d_Rd_seekMeeting_10 rfl (lv_at hl 1 rfl) ?_
        refine lv_aload_n hx hb d_Rd_seekMeeting_11 rfl (lv_at hl 0 rfl) ?_
        refine va_get (D := D) (ci := 1) (v := .ref rs) (C := R_Rd) (T := T_Rd) (N := 13) hx hb hts i_Rd hown hK hP 0 rfl rfl 3 (by decide) (hts _ w_77) (fun _ h9 => h9) rfl d_Rd_seekMeeting_12 ?_
        refine va_alen hx hb hK hP 5 2 rfl rfl (v := 128) rfl d_Rd_seekMeeting_15 ?_
        refine lv_icmp_ge (tgt := 90) hx hb d_Rd_seekMeeting_16 (by decide) (fun c_2 => ?_) (fun c_2 => ?_)
        · exact fin _ _ _ _ _ d_Rd_seekMeeting_90 hP hS (by rw [he]; simp only [mk2, if_neg c_1, if_pos c_2])
        · exact (c_2 (show nI 128 ≤ nI k by rw [nI_leI (by omega) (by omega)]; omega)).elim
    | succ j8 ih8 =>
      intro k z ls H locs hi he hP hD hS hl
      refine lv_iload_n hx hb d_Rd_seekMeeting_2 rfl (lv_at hl 1 rfl) ?_
      refine lv_aload_n hx hb d_Rd_seekMeeting_3 rfl (lv_at hl 0 rfl) ?_
      refine va_get (D := D) (ci := 1) (v := .int nw) (C := R_Rd) (T := T_Rd) (N := 13) hx hb hts i_Rd hown hK hP 0 rfl rfl 7 (by decide) (hts _ w_81) (fun _ h9 => h9) rfl d_Rd_seekMeeting_4 ?_
      refine lv_icmp_ge (tgt := 90) hx hb d_Rd_seekMeeting_7 (by decide) (fun c_3 => ?_) (fun c_3 => ?_)
      · exact fin _ _ _ _ _ d_Rd_seekMeeting_90 hP hS (by rw [he]; simp only [mk2, if_pos c_3])
      · refine lv_iload_n hx hb d_Rd_seekMeeting_10 rfl (lv_at hl 1 rfl) ?_
        refine lv_aload_n hx hb d_Rd_seekMeeting_11 rfl (lv_at hl 0 rfl) ?_
        refine va_get (D := D) (ci := 1) (v := .ref rs) (C := R_Rd) (T := T_Rd) (N := 13) hx hb hts i_Rd hown hK hP 0 rfl rfl 3 (by decide) (hts _ w_77) (fun _ h9 => h9) rfl d_Rd_seekMeeting_12 ?_
        refine va_alen hx hb hK hP 5 2 rfl rfl (v := 128) rfl d_Rd_seekMeeting_15 ?_
        refine lv_icmp_ge (tgt := 90) hx hb d_Rd_seekMeeting_16 (by decide) (fun c_4 => ?_) (fun c_4 => ?_)
        · exact absurd c_4 (show ¬ nI 128 ≤ nI k by rw [nI_leI (by omega) (by omega)]; omega)
        · refine lv_aload_n hx hb d_Rd_seekMeeting_19 rfl (lv_at hl 0 rfl) ?_
          refine va_get (D := D) (ci := 1) (v := .int z.1.2.1) (C := R_Rd) (T := T_Rd) (N := 13) hx hb hts i_Rd hown hK hP 0 rfl rfl 10 (by decide) (hts _ w_84) (fun _ h9 => h9) rfl d_Rd_seekMeeting_20 ?_
          refine lv_if_ne (tgt := 90) hx hb d_Rd_seekMeeting_23 (by decide) (fun c_5 => ?_) (fun c_5 => ?_)
          · exact fin _ _ _ _ _ d_Rd_seekMeeting_90 hP hS (by rw [he]; simp only [mk2, if_neg c_3, if_neg c_4, if_neg c_5])
          · refine lv_iconst (v := 0) hx hb d_Rd_seekMeeting_26 (by decide) ?_
            refine lv_istore_n (lv' := [(2, .int 0), (0, .ref r0), (1, .int (nI k))]) hx hb d_Rd_seekMeeting_27 rfl hl (by decide) rfl (fun ls hl => ?_)
            have lp_9 : ∀ (j9 : Nat) (o : Nat) (y : SM) (ls : Array Slot) (H : Heap) (locs : List Loc), j9 + o = k → mk1 sp wa k k 0 z = mk1 sp wa k j9 o y → va_P D cls ([(r0, .inr (1, [.ref rw, .ref rx, .ref ry, .ref rs, .int nv, .int nt, .int ns, .int nw, .int wa, .int y.1.1, .int y.1.2.1, .int y.1.2.2, .int y.2])), (rw, .inr (3, [.ref rb, .int (nI n)])), (rb, .inl (cB, 8192, .inl f)), (rx, .inl (cI, 128, .inl xs)), (ry, .inl (cI, 128, .inl ys)), (rs, .inl (cS, 128, .inr (.inr (.inr (.inr (fun i => some (ad i)))))))] ++ spw ad sp) H → va_D A ([(r0, .inr (1, [.ref rw, .ref rx, .ref ry, .ref rs, .int nv, .int nt, .int ns, .int nw, .int wa, .int y.1.1, .int y.1.2.1, .int y.1.2.2, .int y.2])), (rw, .inr (3, [.ref rb, .int (nI n)])), (rb, .inl (cB, 8192, .inl f)), (rx, .inl (cI, 128, .inl xs)), (ry, .inl (cI, 128, .inl ys)), (rs, .inl (cS, 128, .inr (.inr (.inr (.inr (fun i => some (ad i)))))))] ++ spw ad sp) → va_S A s.heap H locs → lv_has ls 3 [(0, .ref r0), (1, .int (nI k)), (2, .int (nI o))] → W p l e (rmd 4) s m ([.ref r0] : List Value).toArray below meth c H locs 0 0 Q (F0 m 28 ls []) := by
              intro j9
              induction j9 with
              | zero =>
                intro o y ls H locs hi2 he2 hP hD hS hl
                refine lv_iload_n hx hb d_Rd_seekMeeting_28 rfl (lv_at hl 2 rfl) ?_
                refine lv_iload_n hx hb d_Rd_seekMeeting_29 rfl (lv_at hl 1 rfl) ?_
                refine lv_icmp_ge (tgt := 84) hx hb d_Rd_seekMeeting_30 (by decide) (fun c_6 => ?_) (fun c_6 => ?_)
                · refine lv_iinc (v := nI (k + 1)) (lv' := [(1, .int (nI (k + 1))), (0, .ref r0), (2, .int (nI o))]) hx hb d_Rd_seekMeeting_84 hl (k := 1) rfl (nI_1 k) (by decide) rfl (fun ls hl => ?_)
                  refine lv_goto (tgt := 2) hx hb d_Rd_seekMeeting_87 (by decide) ?_
                  exact ih8 (k + 1) (y.1, y.2) _ _ _ (by omega) (by rw [he, mk2]; simp only [if_neg c_3, if_neg c_4, if_pos c_5, if_pos c_6]; exact congrArg (mk2 sp wa nw j8 (k + 1)) (he2.trans (by simp only [mk1, if_neg c_3, if_neg c_4, if_pos c_5, if_pos c_6]))) hP hD hS (lv_sub hl [1, 0] rfl)
                · exact (c_6 (by rw [nI_leI (by omega) (by omega)]; omega)).elim
              | succ j9 ih9 =>
                intro o y ls H locs hi2 he2 hP hD hS hl
                refine lv_iload_n hx hb d_Rd_seekMeeting_28 rfl (lv_at hl 2 rfl) ?_
                refine lv_iload_n hx hb d_Rd_seekMeeting_29 rfl (lv_at hl 1 rfl) ?_
                refine lv_icmp_ge (tgt := 84) hx hb d_Rd_seekMeeting_30 (by decide) (fun c_7 => ?_) (fun c_7 => ?_)
                · exact absurd c_7 (by rw [nI_leI (by omega) (by omega)]; omega)
                · refine lv_aload_n hx hb d_Rd_seekMeeting_33 rfl (lv_at hl 0 rfl) ?_
                  refine va_get (D := D) (ci := 1) (v := .int y.1.2.1) (C := R_Rd) (T := T_Rd) (N := 13) hx hb hts i_Rd hown hK hP 0 rfl rfl 10 (by decide) (hts _ w_84) (fun _ h9 => h9) rfl d_Rd_seekMeeting_34 ?_
                  refine lv_if_ne (tgt := 84) hx hb d_Rd_seekMeeting_37 (by decide) (fun c_8 => ?_) (fun c_8 => ?_)
                  · refine lv_iinc (v := nI (k + 1)) (lv' := [(1, .int (nI (k + 1))), (0, .ref r0), (2, .int (nI o))]) hx hb d_Rd_seekMeeting_84 hl (k := 1) rfl (nI_1 k) (by decide) rfl (fun ls hl => ?_)
                    refine lv_goto (tgt := 2) hx hb d_Rd_seekMeeting_87 (by decide) ?_
                    exact ih8 (k + 1) (y.1, y.2) _ _ _ (by omega) (by rw [he, mk2]; simp only [if_neg c_3, if_neg c_4, if_pos c_5, if_neg c_7, if_neg c_8]; exact congrArg (mk2 sp wa nw j8 (k + 1)) (he2.trans (by simp only [mk1, if_neg c_3, if_neg c_4, if_pos c_5, if_neg c_7, if_neg c_8]))) hP hD hS (lv_sub hl [1, 0] rfl)
                  · refine lv_aload_n hx hb d_Rd_seekMeeting_40 rfl (lv_at hl 0 rfl) ?_
                    refine va_get (D := D) (ci := 1) (v := .ref rs) (C := R_Rd) (T := T_Rd) (N := 13) hx hb hts i_Rd hown hK hP 0 rfl rfl 3 (by decide) (hts _ w_77) (fun _ h9 => h9) rfl d_Rd_seekMeeting_41 ?_
                    refine lv_iload_n hx hb d_Rd_seekMeeting_44 rfl (lv_at hl 1 rfl) ?_
                    refine va_aldq hx hb hK hP 5 2 rfl rfl (in_n (show k < 128 by omega) (by decide)) d_Rd_seekMeeting_45 ?_
                    rw [nI_clamp (show k < 2 ^ 31 by omega)]
                    refine W.eq (g2 := F0 m 46 ls [.ref (ad k)]) rfl ?_
                    refine lv_aload_n hx hb d_Rd_seekMeeting_46 rfl (lv_at hl 0 rfl) ?_
                    refine va_get (D := D) (ci := 1) (v := .ref rs) (C := R_Rd) (T := T_Rd) (N := 13) hx hb hts i_Rd hown hK hP 0 rfl rfl 3 (by decide) (hts _ w_77) (fun _ h9 => h9) rfl d_Rd_seekMeeting_47 ?_
                    refine lv_iload_n hx hb d_Rd_seekMeeting_50 rfl (lv_at hl 2 rfl) ?_
                    refine va_aldq hx hb hK hP 5 2 rfl rfl (in_n (show o < 128 by omega) (by decide)) d_Rd_seekMeeting_51 ?_
                    rw [nI_clamp (show o < 2 ^ 31 by omega)]
                    refine W.eq (g2 := F0 m 52 ls [.ref (ad o), .ref (ad k)]) rfl ?_
                    refine pz_i0 (pz_rV (d := 3) (As := [.ref (ad o)]) (rest := []) X hN (c_Sp_meets l D cB cI cS (ad k) (ad o) (sp k) (sp o) _) k_Sp_meets w_307 ⟨by decide, by decide⟩ hK hP hD [6 + k, 6 + o] (spw_hC2 (L := 6) rfl (show k < 128 by omega) (show o < 128 by omega)) (ndk (by omega)) (6 + k) rfl rfl (spw_get (L := 6) rfl (show k < 128 by omega)) rfl hl.1 rfl (Nat.le_of_ble_eq_true rfl) d_Rd_seekMeeting_52 ⟨Nat.zero_le _, Nat.zero_le _⟩) hP hD hS hA [6 + k, 6 + o] (spw_hC2 (L := 6) rfl (show k < 128 by omega) (show o < 128 by omega)) (fun H locs hP hS => ?_)
                    refine lv_if_eq (tgt := 78) hx hb d_Rd_seekMeeting_55 (by decide) (fun c_9 => ?_) (fun c_9 => ?_)
                    · refine lv_iinc (v := nI (o + 1)) (lv' := [(2, .int (nI (o + 1))), (0, .ref r0), (1, .int (nI k))]) hx hb d_Rd_seekMeeting_78 hl (k := 2) rfl (nI_1 o) (by decide) rfl (fun ls hl => ?_)
                      refine lv_goto (tgt := 28) hx hb d_Rd_seekMeeting_81 (by decide) ?_
                      exact ih9 (o + 1) (y.1, y.2) _ _ _ (by omega) (by rw [he2, mk1]; simp only [if_neg c_3, if_neg c_4, if_pos c_5, if_neg c_7, if_pos c_8, if_pos c_9]) hP hD hS (lv_sub hl [1, 2, 0] rfl)
                    · refine lv_aload_n hx hb d_Rd_seekMeeting_58 rfl (lv_at hl 0 rfl) ?_
                      refine lv_bipush (v := 6) hx hb d_Rd_seekMeeting_59 (by decide) ?_
                      refine lv_aload_n hx hb d_Rd_seekMeeting_61 rfl (lv_at hl 0 rfl) ?_
                      refine va_get (D := D) (ci := 1) (v := .int wa) (C := R_Rd) (T := T_Rd) (N := 13) hx hb hts i_Rd hown hK hP 0 rfl rfl 8 (by decide) (hts _ w_82) (fun _ h9 => h9) rfl d_Rd_seekMeeting_62 ?_
                      refine lv_bipush (v := 14) hx hb d_Rd_seekMeeting_65 (by decide) ?_
                      refine lv_iload_n hx hb d_Rd_seekMeeting_67 rfl (lv_at hl 1 rfl) ?_
                      refine lv_imul hx hb d_Rd_seekMeeting_68 ?_
                      refine lv_iadd hx hb d_Rd_seekMeeting_69 ?_
                      refine pz_v (pz_rV (d := 0) (As := [.int 6, .int (wa + (14 * (nI k)))]) (rest := []) X hN (c_Rd_fail l D cB cI cS r0 rw rx ry rs nv nt ns nw wa y.2 y.1 6 (wa + (14 * (nI k))) _) k_Rd_fail w_232 ⟨by decide, by decide⟩ hK hP hD [0] rfl rfl 0 rfl rfl rfl rfl hl.1 rfl (Nat.le_of_ble_eq_true rfl) d_Rd_seekMeeting_70 ⟨Nat.zero_le _, Nat.zero_le _⟩) hP hD hS hA [0] rfl [r0] rfl rfl (fun H locs hP hD hS => ?_)
                      have hP : va_P D cls ([(r0, .inr (1, [.ref rw, .ref rx, .ref ry, .ref rs, .int nv, .int nt, .int ns, .int nw, .int wa, .int ((fl y.1 6 (wa + (14 * (nI k)))).1), .int ((fl y.1 6 (wa + (14 * (nI k)))).2.1), .int ((fl y.1 6 (wa + (14 * (nI k)))).2.2), .int y.2])), (rw, .inr (3, [.ref rb, .int (nI n)])), (rb, .inl (cB, 8192, .inl f)), (rx, .inl (cI, 128, .inl xs)), (ry, .inl (cI, 128, .inl ys)), (rs, .inl (cS, 128, .inr (.inr (.inr (.inr (fun i => some (ad i)))))))] ++ spw ad sp) H := hP
                      have hD : va_D A ([(r0, .inr (1, [.ref rw, .ref rx, .ref ry, .ref rs, .int nv, .int nt, .int ns, .int nw, .int wa, .int ((fl y.1 6 (wa + (14 * (nI k)))).1), .int ((fl y.1 6 (wa + (14 * (nI k)))).2.1), .int ((fl y.1 6 (wa + (14 * (nI k)))).2.2), .int y.2])), (rw, .inr (3, [.ref rb, .int (nI n)])), (rb, .inl (cB, 8192, .inl f)), (rx, .inl (cI, 128, .inl xs)), (ry, .inl (cI, 128, .inl ys)), (rs, .inl (cS, 128, .inr (.inr (.inr (.inr (fun i => some (ad i)))))))] ++ spw ad sp) := hD
                      refine lv_aload_n hx hb d_Rd_seekMeeting_73 rfl (lv_at hl 0 rfl) ?_
                      refine lv_iload_n hx hb d_Rd_seekMeeting_74 rfl (lv_at hl 1 rfl) ?_
                      refine va_put (D := D) (ci := 1) (v := .int (nI k)) (ty := (.int)) (C := R_Rd) (T := T_Rd) (N := 13) hx hb hts i_Rd ty_Rd tyok_Rd nm_Rd hown hK hP hD hS 0 rfl rfl 12 (by decide) (hts _ w_88) (fun _ h9 => h9) rfl (by decide +kernel) rfl rfl (Nat.le_of_ble_eq_true rfl) d_Rd_seekMeeting_75 (fun H locs hP hD hS => ?_)
                      have hP : va_P D cls ([(r0, .inr (1, [.ref rw, .ref rx, .ref ry, .ref rs, .int nv, .int nt, .int ns, .int nw, .int wa, .int ((fl y.1 6 (wa + (14 * (nI k)))).1), .int ((fl y.1 6 (wa + (14 * (nI k)))).2.1), .int ((fl y.1 6 (wa + (14 * (nI k)))).2.2), .int (nI k)])), (rw, .inr (3, [.ref rb, .int (nI n)])), (rb, .inl (cB, 8192, .inl f)), (rx, .inl (cI, 128, .inl xs)), (ry, .inl (cI, 128, .inl ys)), (rs, .inl (cS, 128, .inr (.inr (.inr (.inr (fun i => some (ad i)))))))] ++ spw ad sp) H := hP
                      have hD : va_D A ([(r0, .inr (1, [.ref rw, .ref rx, .ref ry, .ref rs, .int nv, .int nt, .int ns, .int nw, .int wa, .int ((fl y.1 6 (wa + (14 * (nI k)))).1), .int ((fl y.1 6 (wa + (14 * (nI k)))).2.1), .int ((fl y.1 6 (wa + (14 * (nI k)))).2.2), .int (nI k)])), (rw, .inr (3, [.ref rb, .int (nI n)])), (rb, .inl (cB, 8192, .inl f)), (rx, .inl (cI, 128, .inl xs)), (ry, .inl (cI, 128, .inl ys)), (rs, .inl (cS, 128, .inr (.inr (.inr (.inr (fun i => some (ad i)))))))] ++ spw ad sp) := hD
                      refine lv_iinc (v := nI (o + 1)) (lv' := [(2, .int (nI (o + 1))), (0, .ref r0), (1, .int (nI k))]) hx hb d_Rd_seekMeeting_78 hl (k := 2) rfl (nI_1 o) (by decide) rfl (fun ls hl => ?_)
                      refine lv_goto (tgt := 28) hx hb d_Rd_seekMeeting_81 (by decide) ?_
                      exact ih9 (o + 1) ((fl y.1 6 (wa + (14 * (nI k)))), nI k) _ _ _ (by omega) (by rw [he2, mk1]; simp only [if_neg c_3, if_neg c_4, if_pos c_5, if_neg c_7, if_pos c_8, if_neg c_9]) hP hD hS (lv_sub hl [1, 2, 0] rfl)
            exact lp_9 k 0 z _ _ _ (by omega) (rfl) hP hD hS (lv_sub hl [1, 2, 0] rfl)
  exact lp_8 127 1 (q, fw) _ _ _ (by omega) (rfl) hP hD hS (lv_sub hl [1, 0] rfl)
