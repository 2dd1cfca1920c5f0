set_option maxRecDepth 100000 in
set_option maxHeartbeats 4000000 in
/-- sector -/
theorem c_Mo_sector (l : Launch) (D : va_G) (cB cI cS : ClassId) (o0 ib pb qb : Nat) (th ck : Int32) (n nm no : Nat) (q : S5) (fm : Nat → Int32) (k what : Int32) (hvm : nm = 0 ∨ VM fm) : mI l y_Mo_sector b_Mo_sector 4 (some .int) 3 D cls [(cB, .byte), (cI, .int), (cS, .object "MapLumps$Span")] [.ref o0, .int k, .int what] ([(o0, .inr (5, [.int th, .ref ib, .int (nI n), .ref pb, .int (nI nm), .ref qb, .int (nI no), .int q.2.1, .int q.2.2.1, .int ck, .int q.1, .int q.2.2.2.1, .int q.2.2.2.2])), (pb, .inl (cB, 8192, .inl fm))]) (ysA fm nm k what) ([(o0, .inr (5, [.int 0, .ref ib, .int (nI n), .ref pb, .int (nI nm), .ref qb, .int (nI no), .int q.2.1, .int q.2.2.1, .int ck, .int q.1, .int q.2.2.2.1, .int q.2.2.2.2])), (pb, .inl (cB, 8192, .inl fm))]) := by
  refine pz_openI (by decide) (Nat.le_of_ble_eq_true rfl) ?_
  intro p e s m below meth c A ls Q X hN hK hP hD hS hA hl fin
  obtain ⟨hx, hb, hml, hown, hts⟩ := id X
  have hl : lv_has ls 4 [(0, .ref o0), (1, .int k), (2, .int what)] := hl
  refine lv_aload_n hx hb d_Mo_sector_0 rfl (lv_at hl 0 rfl) ?_
  refine lv_iconst (v := 0) hx hb d_Mo_sector_1 (by decide) ?_
  refine va_put (D := D) (ci := 5) (v := .int 0) (ty := (.int)) (C := R_Mo) (T := T_Mo) (N := 13) hx hb hts i_Mo ty_Mo tyok_Mo nm_Mo hown hK hP hD hS 0 rfl rfl 0 (by decide) (hts _ w_418) (fun _ h9 => h9) rfl (by decide +kernel) rfl rfl (Nat.le_of_ble_eq_true rfl) d_Mo_sector_2 (fun H locs hP hD hS => ?_)
  have hP : va_P D cls ([(o0, .inr (5, [.int 0, .ref ib, .int (nI n), .ref pb, .int (nI nm), .ref qb, .int (nI no), .int q.2.1, .int q.2.2.1, .int ck, .int q.1, .int q.2.2.2.1, .int q.2.2.2.2])), (pb, .inl (cB, 8192, .inl fm))]) H := hP
  have hD : va_D A ([(o0, .inr (5, [.int 0, .ref ib, .int (nI n), .ref pb, .int (nI nm), .ref qb, .int (nI no), .int q.2.1, .int q.2.2.1, .int ck, .int q.1, .int q.2.2.2.1, .int q.2.2.2.2])), (pb, .inl (cB, 8192, .inl fm))]) := hD
  refine lv_aload_n hx hb d_Mo_sector_5 rfl (lv_at hl 0 rfl) ?_
  refine lv_iconst (v := 5) hx hb d_Mo_sector_6 (by decide) ?_
  refine lv_iload_n hx hb d_Mo_sector_7 rfl (lv_at hl 1 rfl) ?_
  refine pz_i0 (pz_rV (d := 1) (As := [.int 5, .int k]) (rest := []) X hN (c_Mo_has l D cB cI cS o0 ib pb qb 0 ck n nm no q fm 5 k (by omega) _) k_Mo_has w_557 ⟨by decide, by decide⟩ hK hP hD [0, 1] rfl rfl 0 rfl rfl rfl rfl hl.1 rfl (Nat.le_of_ble_eq_true rfl) d_Mo_sector_8 ⟨Nat.zero_le _, Nat.zero_le _⟩) hP hD hS hA [0, 1] rfl (fun H locs hP hS => ?_)
  refine lv_if_eq (tgt := 24) hx hb d_Mo_sector_11 (by decide) (fun c_1 => ?_) (fun c_1 => ?_)
  · refine lv_ldc (v := 100000) hx hb hown (hts _ (w_565)) d_Mo_sector_24 ?_
    exact fin _ _ _ _ _ _ d_Mo_sector_26 hP hS (by simp only [ysA, if_pos c_1]) (rfl)
  · refine lv_iload_n hx hb d_Mo_sector_14 rfl (lv_at hl 2 rfl) ?_
    refine lv_if_lt (tgt := 24) hx hb d_Mo_sector_15 (by decide) (fun c_2 => ?_) (fun c_2 => ?_)
    · refine lv_ldc (v := 100000) hx hb hown (hts _ (w_565)) d_Mo_sector_24 ?_
      exact fin _ _ _ _ _ _ d_Mo_sector_26 hP hS (by simp only [ysA, if_neg c_1, if_pos c_2]) (rfl)
    · refine lv_iload_n hx hb d_Mo_sector_18 rfl (lv_at hl 2 rfl) ?_
      refine lv_bipush (v := 6) hx hb d_Mo_sector_19 (by decide) ?_
      refine lv_icmp_le (tgt := 27) hx hb d_Mo_sector_21 (by decide) (fun c_3 => ?_) (fun c_3 => ?_)
      · obtain ⟨K, rfl, hK1, hK2, hm⟩ := hs_k c_1
        obtain ⟨u, rfl, hu⟩ := wh_u (m := 6) (by omega) c_2 c_3
        have hv : VM fm := hvm.resolve_left (fun h => hm (by rw [h]; rfl))
        have hv2 := hv.2
        refine lv_aload_n hx hb d_Mo_sector_27 rfl (lv_at hl 0 rfl) ?_
        refine lv_iload_n hx hb d_Mo_sector_28 rfl (lv_at hl 1 rfl) ?_
        refine pz_i0 (pz_rV (d := 2) (As := [.int (nI K)]) (rest := []) X hN (c_Mo_sectorAt l D cB cI cS o0 ib pb qb 0 ck n nm no q fm K hm hv  _) k_Mo_sectorAt w_578 ⟨by decide, by decide⟩ hK hP hD [0, 1] rfl rfl 0 rfl rfl rfl rfl hl.1 rfl (Nat.le_of_ble_eq_true rfl) d_Mo_sector_29 ⟨Nat.zero_le _, Nat.zero_le _⟩) hP hD hS hA [0, 1] rfl (fun H locs hP hS => ?_)
        refine lv_istore_n (lv' := [(3, .int (nI (yta fm (yb fm 3) (yb fm 4) + 9 * K))), (0, .ref o0), (1, .int (nI K)), (2, .int (nI u))]) hx hb d_Mo_sector_32 rfl hl (by decide) rfl (fun ls hl => ?_)
        refine lv_iload_n hx hb d_Mo_sector_33 rfl (lv_at hl 3 rfl) ?_
        refine lv_iconst (v := 2) hx hb d_Mo_sector_34 (by decide) ?_
        refine lv_icmp_ge (tgt := 53) hx hb d_Mo_sector_35 (by decide) (fun c_4 => ?_) (fun c_4 => ?_)
        · refine lv_aload_n hx hb d_Mo_sector_53 rfl (lv_at hl 1 rfl) ?_
          refine va_get (D := D) (ci := 5) (v := .ref pb) (C := R_Mo) (T := T_Mo) (N := 13) hx hb hts i_Mo hown hK hP 0 rfl rfl 3 (by decide) (hts _ w_421) (fun _ h9 => h9) rfl d_Mo_sector_54 ?_
          refine lv_iload_n hx hb d_Mo_sector_57 rfl (lv_at hl 0 rfl) ?_
          refine lv_iconst (v := 2) hx hb d_Mo_sector_58 (by decide) ?_
          refine lv_iadd hx hb d_Mo_sector_59 ?_
          refine lv_iload_n hx hb d_Mo_sector_60 rfl (lv_at hl 3 rfl) ?_
          refine lv_iadd hx hb d_Mo_sector_61 ?_
          rw [n2b]
          refine va_bald hx hb hK hP 1 0 rfl rfl (in_n (by omega) (by decide)) d_Mo_sector_62 ?_
          rw [nI_clamp (show yta fm (yb fm 3) (yb fm 4) + 9 * K + 2 + u < 2 ^ 31 by omega)]
          refine lv_sipush (v := 255) hx hb d_Mo_sector_63 (by decide) ?_
          refine lv_iand hx hb d_Mo_sector_66 ?_
          exact fin _ _ _ _ _ _ d_Mo_sector_67 hP hS (by simp only [ysA, nI_clamp (show K < 2 ^ 31 by omega), nI_clamp (show u < 2 ^ 31 by omega), if_neg c_1, if_neg c_2, if_pos c_3, if_pos c_4]) (rfl)
        · refine lv_aload_n hx hb d_Mo_sector_38 rfl (lv_at hl 1 rfl) ?_
          refine va_get (D := D) (ci := 5) (v := .ref pb) (C := R_Mo) (T := T_Mo) (N := 13) hx hb hts i_Mo hown hK hP 0 rfl rfl 3 (by decide) (hts _ w_421) (fun _ h9 => h9) rfl d_Mo_sector_39 ?_
          refine lv_iload_n hx hb d_Mo_sector_42 rfl (lv_at hl 0 rfl) ?_
          refine lv_iconst (v := 2) hx hb d_Mo_sector_43 (by decide) ?_
          refine lv_iload_n hx hb d_Mo_sector_44 rfl (lv_at hl 3 rfl) ?_
          refine lv_imul hx hb d_Mo_sector_45 ?_
          refine lv_iadd hx hb d_Mo_sector_46 ?_
          rw [n2]
          refine pz_i0 (pz_rS (d := 0) (As := [.ref pb, .int (nI (yta fm (yb fm 3) (yb fm 4) + 9 * K + 2 * u))]) (rest := []) X hN (c_Mo_pair l D cB cI cS pb fm (yta fm (yb fm 3) (yb fm 4) + 9 * K + 2 * u) (by omega) _) k_Mo_pair w_503 ⟨by decide, by decide⟩ hK hP hD [1] rfl rfl rfl hl.1 rfl (Nat.le_of_ble_eq_true rfl) d_Mo_sector_47 ⟨Nat.zero_le _, Nat.zero_le _⟩) hP hD hS hA [1] rfl (fun H locs hP hS => ?_)
          refine lv_goto (tgt := 67) hx hb d_Mo_sector_50 (by decide) ?_
          exact fin _ _ _ _ _ _ d_Mo_sector_67 hP hS (by simp only [ysA, nI_clamp (show K < 2 ^ 31 by omega), nI_clamp (show u < 2 ^ 31 by omega), if_neg c_1, if_neg c_2, if_pos c_3, if_neg c_4]) (rfl)
      · refine lv_ldc (v := 100000) hx hb hown (hts _ (w_565)) d_Mo_sector_24 ?_
        exact fin _ _ _ _ _ _ d_Mo_sector_26 hP hS (by simp only [ysA, if_neg c_1, if_neg c_2, if_neg c_3]) (rfl)

set_option maxRecDepth 100000 in
set_option maxHeartbeats 4000000 in
/-- start -/
theorem c_Mo_start (l : Launch) (D : va_G) (cB cI cS : ClassId) (o0 ib pb qb : Nat) (th ck : Int32) (n nm no : Nat) (q : S5) (fm : Nat → Int32) (what : Int32) (hvm : nm = 0 ∨ VM fm) : mI l y_Mo_start b_Mo_start 3 (some .int) 4 D cls [(cB, .byte), (cI, .int), (cS, .object "MapLumps$Span")] [.ref o0, .int what] ([(o0, .inr (5, [.int th, .ref ib, .int (nI n), .ref pb, .int (nI nm), .ref qb, .int (nI no), .int q.2.1, .int q.2.2.1, .int ck, .int q.1, .int q.2.2.2.1, .int q.2.2.2.2])), (pb, .inl (cB, 8192, .inl fm))]) (yoA fm nm what) ([(o0, .inr (5, [.int 0, .ref ib, .int (nI n), .ref pb, .int (nI nm), .ref qb, .int (nI no), .int q.2.1, .int q.2.2.1, .int ck, .int q.1, .int q.2.2.2.1, .int q.2.2.2.2])), (pb, .inl (cB, 8192, .inl fm))]) := by
  refine pz_openI (by decide) (Nat.le_of_ble_eq_true rfl) ?_
  intro p e s m below meth c A ls Q X hN hK hP hD hS hA hl fin
  obtain ⟨hx, hb, hml, hown, hts⟩ := id X
  have hl : lv_has ls 3 [(0, .ref o0), (1, .int what)] := hl
  refine lv_aload_n hx hb d_Mo_start_0 rfl (lv_at hl 0 rfl) ?_
  refine lv_iconst (v := 0) hx hb d_Mo_start_1 (by decide) ?_
  refine va_put (D := D) (ci := 5) (v := .int 0) (ty := (.int)) (C := R_Mo) (T := T_Mo) (N := 13) hx hb hts i_Mo ty_Mo tyok_Mo nm_Mo hown hK hP hD hS 0 rfl rfl 0 (by decide) (hts _ w_418) (fun _ h9 => h9) rfl (by decide +kernel) rfl rfl (Nat.le_of_ble_eq_true rfl) d_Mo_start_2 (fun H locs hP hD hS => ?_)
  have hP : va_P D cls ([(o0, .inr (5, [.int 0, .ref ib, .int (nI n), .ref pb, .int (nI nm), .ref qb, .int (nI no), .int q.2.1, .int q.2.2.1, .int ck, .int q.1, .int q.2.2.2.1, .int q.2.2.2.2])), (pb, .inl (cB, 8192, .inl fm))]) H := hP
  have hD : va_D A ([(o0, .inr (5, [.int 0, .ref ib, .int (nI n), .ref pb, .int (nI nm), .ref qb, .int (nI no), .int q.2.1, .int q.2.2.1, .int ck, .int q.1, .int q.2.2.2.1, .int q.2.2.2.2])), (pb, .inl (cB, 8192, .inl fm))]) := hD
  refine lv_aload_n hx hb d_Mo_start_5 rfl (lv_at hl 0 rfl) ?_
  refine va_get (D := D) (ci := 5) (v := .int (nI nm)) (C := R_Mo) (T := T_Mo) (N := 13) hx hb hts i_Mo hown hK hP 0 rfl rfl 4 (by decide) (hts _ w_422) (fun _ h9 => h9) rfl d_Mo_start_6 ?_
  refine lv_if_eq (tgt := 21) hx hb d_Mo_start_9 (by decide) (fun c_1 => ?_) (fun c_1 => ?_)
  · refine lv_ldc (v := 100000) hx hb hown (hts _ (w_565)) d_Mo_start_21 ?_
    exact fin _ _ _ _ _ _ d_Mo_start_23 hP hS (by simp only [yoA, if_pos c_1]) (rfl)
  · refine lv_iload_n hx hb d_Mo_start_12 rfl (lv_at hl 1 rfl) ?_
    refine lv_if_lt (tgt := 21) hx hb d_Mo_start_13 (by decide) (fun c_2 => ?_) (fun c_2 => ?_)
    · refine lv_ldc (v := 100000) hx hb hown (hts _ (w_565)) d_Mo_start_21 ?_
      exact fin _ _ _ _ _ _ d_Mo_start_23 hP hS (by simp only [yoA, if_neg c_1, if_pos c_2]) (rfl)
    · refine lv_iload_n hx hb d_Mo_start_16 rfl (lv_at hl 1 rfl) ?_
      refine lv_iconst (v := 3) hx hb d_Mo_start_17 (by decide) ?_
      refine lv_icmp_le (tgt := 24) hx hb d_Mo_start_18 (by decide) (fun c_3 => ?_) (fun c_3 => ?_)
      · have hm := c_1
        obtain ⟨u, rfl, hu⟩ := wh_u (m := 3) (by omega) c_2 c_3
        have hv : VM fm := hvm.resolve_left (fun h => hm (by rw [h]; rfl))
        have hv2 := hv.2
        refine lv_aload_n hx hb d_Mo_start_24 rfl (lv_at hl 0 rfl) ?_
        refine lv_aload_n hx hb d_Mo_start_25 rfl (lv_at hl 0 rfl) ?_
        refine lv_bipush (v := 6) hx hb d_Mo_start_26 (by decide) ?_
        refine pz_i0 (pz_rV (d := 0) (As := [.int 6]) (rest := [.ref o0]) X hN (c_Mo_many l D cB cI cS o0 ib pb qb 0 ck n nm no q fm 6 (by omega) _) k_Mo_many w_561 ⟨by decide, by decide⟩ hK hP hD [0, 1] rfl rfl 0 rfl rfl rfl rfl hl.1 rfl (Nat.le_of_ble_eq_true rfl) d_Mo_start_28 ⟨Nat.zero_le _, Nat.zero_le _⟩) hP hD hS hA [0, 1] rfl (fun H locs hP hS => ?_)
        rw [ymn_eq hm]
        refine pz_i0 (pz_rV (d := 3) (As := [.int (nI (yb fm 6))]) (rest := []) X hN (c_Mo_wallAt l D cB cI cS o0 ib pb qb 0 ck n nm no q fm (yb fm 6) hm hv  _) k_Mo_wallAt w_586 ⟨by decide, by decide⟩ hK hP hD [0, 1] rfl rfl 0 rfl rfl rfl rfl hl.1 rfl (Nat.le_of_ble_eq_true rfl) d_Mo_start_31 ⟨Nat.zero_le _, Nat.zero_le _⟩) hP hD hS hA [0, 1] rfl (fun H locs hP hS => ?_)
        refine lv_istore_n (lv' := [(2, .int (nI (yta fm (yb fm 3) (yb fm 4) + 9 * yb fm 5 + 14 * (yb fm 6)))), (0, .ref o0), (1, .int (nI u))]) hx hb d_Mo_start_34 rfl hl (by decide) rfl (fun ls hl => ?_)
        refine lv_iload_n hx hb d_Mo_start_35 rfl (lv_at hl 2 rfl) ?_
        refine lv_iconst (v := 2) hx hb d_Mo_start_36 (by decide) ?_
        refine lv_icmp_ge (tgt := 55) hx hb d_Mo_start_37 (by decide) (fun c_4 => ?_) (fun c_4 => ?_)
        · refine lv_aload_n hx hb d_Mo_start_55 rfl (lv_at hl 1 rfl) ?_
          refine va_get (D := D) (ci := 5) (v := .ref pb) (C := R_Mo) (T := T_Mo) (N := 13) hx hb hts i_Mo hown hK hP 0 rfl rfl 3 (by decide) (hts _ w_421) (fun _ h9 => h9) rfl d_Mo_start_56 ?_
          refine lv_iload_n hx hb d_Mo_start_59 rfl (lv_at hl 0 rfl) ?_
          refine lv_iconst (v := 2) hx hb d_Mo_start_60 (by decide) ?_
          refine lv_iadd hx hb d_Mo_start_61 ?_
          refine lv_iload_n hx hb d_Mo_start_62 rfl (lv_at hl 2 rfl) ?_
          refine lv_iadd hx hb d_Mo_start_63 ?_
          rw [n2b]
          refine va_bald hx hb hK hP 1 0 rfl rfl (in_n (by omega) (by decide)) d_Mo_start_64 ?_
          rw [nI_clamp (show yta fm (yb fm 3) (yb fm 4) + 9 * yb fm 5 + 14 * yb fm 6 + 2 + u < 2 ^ 31 by omega)]
          refine lv_sipush (v := 255) hx hb d_Mo_start_65 (by decide) ?_
          refine lv_iand hx hb d_Mo_start_68 ?_
          exact fin _ _ _ _ _ _ d_Mo_start_69 hP hS (by simp only [yoA, nI_clamp (show u < 2 ^ 31 by omega), if_neg c_1, if_neg c_2, if_pos c_3, if_pos c_4]) (rfl)
        · refine lv_aload_n hx hb d_Mo_start_40 rfl (lv_at hl 1 rfl) ?_
          refine va_get (D := D) (ci := 5) (v := .ref pb) (C := R_Mo) (T := T_Mo) (N := 13) hx hb hts i_Mo hown hK hP 0 rfl rfl 3 (by decide) (hts _ w_421) (fun _ h9 => h9) rfl d_Mo_start_41 ?_
          refine lv_iload_n hx hb d_Mo_start_44 rfl (lv_at hl 0 rfl) ?_
          refine lv_iconst (v := 2) hx hb d_Mo_start_45 (by decide) ?_
          refine lv_iload_n hx hb d_Mo_start_46 rfl (lv_at hl 2 rfl) ?_
          refine lv_imul hx hb d_Mo_start_47 ?_
          refine lv_iadd hx hb d_Mo_start_48 ?_
          rw [n2]
          refine pz_i0 (pz_rS (d := 0) (As := [.ref pb, .int (nI (yta fm (yb fm 3) (yb fm 4) + 9 * yb fm 5 + 14 * yb fm 6 + 2 * u))]) (rest := []) X hN (c_Mo_pair l D cB cI cS pb fm (yta fm (yb fm 3) (yb fm 4) + 9 * yb fm 5 + 14 * yb fm 6 + 2 * u) (by omega) _) k_Mo_pair w_503 ⟨by decide, by decide⟩ hK hP hD [1] rfl rfl rfl hl.1 rfl (Nat.le_of_ble_eq_true rfl) d_Mo_start_49 ⟨Nat.zero_le _, Nat.zero_le _⟩) hP hD hS hA [1] rfl (fun H locs hP hS => ?_)
          refine lv_goto (tgt := 69) hx hb d_Mo_start_52 (by decide) ?_
          exact fin _ _ _ _ _ _ d_Mo_start_69 hP hS (by simp only [yoA, nI_clamp (show u < 2 ^ 31 by omega), if_neg c_1, if_neg c_2, if_pos c_3, if_neg c_4]) (rfl)
      · refine lv_ldc (v := 100000) hx hb hown (hts _ (w_565)) d_Mo_start_21 ?_
        exact fin _ _ _ _ _ _ d_Mo_start_23 hP hS (by simp only [yoA, if_neg c_1, if_neg c_2, if_neg c_3]) (rfl)
