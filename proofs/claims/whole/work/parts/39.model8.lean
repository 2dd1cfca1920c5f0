set_option maxRecDepth 100000 in
set_option maxHeartbeats 4000000 in
/-- wall -/
theorem c_Mo_wall (l : Launch) (D : va_G) (cB cI cS : ClassId) (o0 ib pb qb : Nat) (th ck : Int32) (n nm no : Nat) (q : S5) (fm : Nat → Int32) (k what : Int32) (hvm : nm = 0 ∨ VM fm) : mI l y_Mo_wall b_Mo_wall 4 (some .int) 4 D cls [(cB, .byte), (cI, .int), (cS, .object "MapLumps$Span")] [.ref o0, .int k, .int what] ([(o0, .inr (5, [.int th, .ref ib, .int (nI n), .ref pb, .int (nI nm), .ref qb, .int (nI no), .int q.2.1, .int q.2.2.1, .int ck, .int q.1, .int q.2.2.2.1, .int q.2.2.2.2])), (pb, .inl (cB, 8192, .inl fm))]) (ywA fm nm k what) ([(o0, .inr (5, [.int 0, .ref ib, .int (nI n), .ref pb, .int (nI nm), .ref qb, .int (nI no), .int q.2.1, .int q.2.2.1, .int ck, .int q.1, .int q.2.2.2.1, .int q.2.2.2.2])), (pb, .inl (cB, 8192, .inl fm))]) := by
  refine pz_openI (by decide) (Nat.le_of_ble_eq_true rfl) ?_
  intro p e s m below meth c A ls Q X hN hK hP hD hS hA hl fin
  obtain ⟨hx, hb, hml, hown, hts⟩ := id X
  have hl : lv_has ls 4 [(0, .ref o0), (1, .int k), (2, .int what)] := hl
  refine lv_aload_n hx hb d_Mo_wall_0 rfl (lv_at hl 0 rfl) ?_
  refine lv_iconst (v := 0) hx hb d_Mo_wall_1 (by decide) ?_
  refine va_put (D := D) (ci := 5) (v := .int 0) (ty := (.int)) (C := R_Mo) (T := T_Mo) (N := 13) hx hb hts i_Mo ty_Mo tyok_Mo nm_Mo hown hK hP hD hS 0 rfl rfl 0 (by decide) (hts _ w_418) (fun _ h9 => h9) rfl (by decide +kernel) rfl rfl (Nat.le_of_ble_eq_true rfl) d_Mo_wall_2 (fun H locs hP hD hS => ?_)
  have hP : va_P D cls ([(o0, .inr (5, [.int 0, .ref ib, .int (nI n), .ref pb, .int (nI nm), .ref qb, .int (nI no), .int q.2.1, .int q.2.2.1, .int ck, .int q.1, .int q.2.2.2.1, .int q.2.2.2.2])), (pb, .inl (cB, 8192, .inl fm))]) H := hP
  have hD : va_D A ([(o0, .inr (5, [.int 0, .ref ib, .int (nI n), .ref pb, .int (nI nm), .ref qb, .int (nI no), .int q.2.1, .int q.2.2.1, .int ck, .int q.1, .int q.2.2.2.1, .int q.2.2.2.2])), (pb, .inl (cB, 8192, .inl fm))]) := hD
  refine lv_aload_n hx hb d_Mo_wall_5 rfl (lv_at hl 0 rfl) ?_
  refine lv_bipush (v := 6) hx hb d_Mo_wall_6 (by decide) ?_
  refine lv_iload_n hx hb d_Mo_wall_8 rfl (lv_at hl 1 rfl) ?_
  refine pz_i0 (pz_rV (d := 1) (As := [.int 6, .int k]) (rest := []) X hN (c_Mo_has l D cB cI cS o0 ib pb qb 0 ck n nm no q fm 6 k (by omega) _) k_Mo_has w_557 ⟨by decide, by decide⟩ hK hP hD [0, 1] rfl rfl 0 rfl rfl rfl rfl hl.1 rfl (Nat.le_of_ble_eq_true rfl) d_Mo_wall_9 ⟨Nat.zero_le _, Nat.zero_le _⟩) hP hD hS hA [0, 1] rfl (fun H locs hP hS => ?_)
  refine lv_if_eq (tgt := 25) hx hb d_Mo_wall_12 (by decide) (fun c_1 => ?_) (fun c_1 => ?_)
  · refine lv_iconst (v := (-1)) hx hb d_Mo_wall_25 (by decide) ?_
    exact fin _ _ _ _ _ _ d_Mo_wall_26 hP hS (by simp only [ywA, if_pos c_1]) (rfl)
  · refine lv_iload_n hx hb d_Mo_wall_15 rfl (lv_at hl 2 rfl) ?_
    refine lv_if_lt (tgt := 25) hx hb d_Mo_wall_16 (by decide) (fun c_2 => ?_) (fun c_2 => ?_)
    · refine lv_iconst (v := (-1)) hx hb d_Mo_wall_25 (by decide) ?_
      exact fin _ _ _ _ _ _ d_Mo_wall_26 hP hS (by simp only [ywA, if_neg c_1, if_pos c_2]) (rfl)
    · refine lv_iload_n hx hb d_Mo_wall_19 rfl (lv_at hl 2 rfl) ?_
      refine lv_bipush (v := 14) hx hb d_Mo_wall_20 (by decide) ?_
      refine lv_icmp_le (tgt := 27) hx hb d_Mo_wall_22 (by decide) (fun c_3 => ?_) (fun c_3 => ?_)
      · obtain ⟨K, rfl, hK1, hK2, hm⟩ := hs_k c_1
        obtain ⟨u, rfl, hu⟩ := wh_u (m := 14) (by omega) c_2 c_3
        have hv : VM fm := hvm.resolve_left (fun h => hm (by rw [h]; rfl))
        have hv2 := hv.2
        refine lv_aload_n hx hb d_Mo_wall_27 rfl (lv_at hl 0 rfl) ?_
        refine lv_iload_n hx hb d_Mo_wall_28 rfl (lv_at hl 1 rfl) ?_
        refine pz_i0 (pz_rV (d := 3) (As := [.int (nI K)]) (rest := []) X hN (c_Mo_wallAt l D cB cI cS o0 ib pb qb 0 ck n nm no q fm K hm hv  _) k_Mo_wallAt w_586 ⟨by decide, by decide⟩ hK hP hD [0, 1] rfl rfl 0 rfl rfl rfl rfl hl.1 rfl (Nat.le_of_ble_eq_true rfl) d_Mo_wall_29 ⟨Nat.zero_le _, Nat.zero_le _⟩) hP hD hS hA [0, 1] rfl (fun H locs hP hS => ?_)
        refine lv_istore_n (lv' := [(3, .int (nI (yta fm (yb fm 3) (yb fm 4) + 9 * yb fm 5 + 14 * K))), (0, .ref o0), (1, .int (nI K)), (2, .int (nI u))]) hx hb d_Mo_wall_32 rfl hl (by decide) rfl (fun ls hl => ?_)
        refine lv_iload_n hx hb d_Mo_wall_33 rfl (lv_at hl 3 rfl) ?_
        refine lv_bipush (v := 10) hx hb d_Mo_wall_34 (by decide) ?_
        refine lv_icmp_eq (tgt := 45) hx hb d_Mo_wall_36 (by decide) (fun c_4 => ?_) (fun c_4 => ?_)
        · refine lv_iload_n hx hb d_Mo_wall_45 rfl (lv_at hl 3 rfl) ?_
          refine lv_bipush (v := 10) hx hb d_Mo_wall_46 (by decide) ?_
          refine lv_icmp_ne (tgt := 70) hx hb d_Mo_wall_48 (by decide) (fun c_5 => ?_) (fun c_5 => ?_)
          · exact absurd c_4 c_5
          · refine lv_aload_n hx hb d_Mo_wall_51 rfl (lv_at hl 1 rfl) ?_
            refine va_get (D := D) (ci := 5) (v := .ref pb) (C := R_Mo) (T := T_Mo) (N := 13) hx hb hts i_Mo hown hK hP 0 rfl rfl 3 (by decide) (hts _ w_421) (fun _ h9 => h9) rfl d_Mo_wall_52 ?_
            refine lv_iload_n hx hb d_Mo_wall_55 rfl (lv_at hl 0 rfl) ?_
            refine lv_bipush (v := 10) hx hb d_Mo_wall_56 (by decide) ?_
            refine lv_iadd hx hb d_Mo_wall_58 ?_
            rw [n10]
            refine va_bald hx hb hK hP 1 0 rfl rfl (in_n (by omega) (by decide)) d_Mo_wall_59 ?_
            rw [nI_clamp (show yta fm (yb fm 3) (yb fm 4) + 9 * yb fm 5 + 14 * K + 10 < 2 ^ 31 by omega)]
            refine lv_sipush (v := 255) hx hb d_Mo_wall_60 (by decide) ?_
            refine lv_iand hx hb d_Mo_wall_63 ?_
            refine lv_bipush (v := 16) hx hb d_Mo_wall_64 (by decide) ?_
            refine lv_idiv hx hb d_Mo_wall_66 (by decide) ?_
            refine lv_goto (tgt := 86) hx hb d_Mo_wall_67 (by decide) ?_
            exact fin _ _ _ _ _ _ d_Mo_wall_86 hP hS (by simp only [ywA, nI_clamp (show K < 2 ^ 31 by omega), nI_clamp (show u < 2 ^ 31 by omega), if_neg c_1, if_neg c_2, if_pos c_3, if_pos c_4, if_pos c_5]) (rfl)
        · refine lv_iload_n hx hb d_Mo_wall_39 rfl (lv_at hl 3 rfl) ?_
          refine lv_bipush (v := 11) hx hb d_Mo_wall_40 (by decide) ?_
          refine lv_icmp_ne (tgt := 87) hx hb d_Mo_wall_42 (by decide) (fun c_6 => ?_) (fun c_6 => ?_)
          · refine lv_aload_n hx hb d_Mo_wall_87 rfl (lv_at hl 1 rfl) ?_
            refine va_get (D := D) (ci := 5) (v := .ref pb) (C := R_Mo) (T := T_Mo) (N := 13) hx hb hts i_Mo hown hK hP 0 rfl rfl 3 (by decide) (hts _ w_421) (fun _ h9 => h9) rfl d_Mo_wall_88 ?_
            refine lv_iload_n hx hb d_Mo_wall_91 rfl (lv_at hl 0 rfl) ?_
            refine lv_iload_n hx hb d_Mo_wall_92 rfl (lv_at hl 3 rfl) ?_
            refine lv_bipush (v := 11) hx hb d_Mo_wall_93 (by decide) ?_
            refine lv_icmp_le (tgt := 104) hx hb d_Mo_wall_95 (by decide) (fun c_7 => ?_) (fun c_7 => ?_)
            · refine lv_iload_n hx hb d_Mo_wall_104 rfl (lv_at hl 3 rfl) ?_
              refine lv_iadd hx hb d_Mo_wall_105 ?_
              rw [nI_add]
              refine va_bald hx hb hK hP 1 0 rfl rfl (in_n (by omega) (by decide)) d_Mo_wall_106 ?_
              rw [nI_clamp (show yta fm (yb fm 3) (yb fm 4) + 9 * yb fm 5 + 14 * K + u < 2 ^ 31 by omega)]
              refine lv_sipush (v := 255) hx hb d_Mo_wall_107 (by decide) ?_
              refine lv_iand hx hb d_Mo_wall_110 ?_
              exact fin _ _ _ _ _ _ d_Mo_wall_111 hP hS (by simp only [ywA, nI_clamp (show K < 2 ^ 31 by omega), nI_clamp (show u < 2 ^ 31 by omega), if_neg c_1, if_neg c_2, if_pos c_3, if_neg c_4, if_neg c_6, if_pos c_7]) (rfl)
            · have h11 : ¬ u ≤ 11 := fun h => c_7 ((nI_leI (b := 11) (by omega) (by omega)).mpr h)
              refine lv_iload_n hx hb d_Mo_wall_98 rfl (lv_at hl 3 rfl) ?_
              refine lv_iconst (v := 1) hx hb d_Mo_wall_99 (by decide) ?_
              refine lv_isub hx hb d_Mo_wall_100 ?_
              rw [nu1 (show 1 ≤ u by omega)]
              refine lv_goto (tgt := 105) hx hb d_Mo_wall_101 (by decide) ?_
              refine lv_iadd hx hb d_Mo_wall_105 ?_
              rw [nI_add]
              refine va_bald hx hb hK hP 1 0 rfl rfl (in_n (by omega) (by decide)) d_Mo_wall_106 ?_
              rw [nI_clamp (show yta fm (yb fm 3) (yb fm 4) + 9 * yb fm 5 + 14 * K + (u - 1) < 2 ^ 31 by omega)]
              refine lv_sipush (v := 255) hx hb d_Mo_wall_107 (by decide) ?_
              refine lv_iand hx hb d_Mo_wall_110 ?_
              exact fin _ _ _ _ _ _ d_Mo_wall_111 hP hS (by simp only [ywA, nI_clamp (show K < 2 ^ 31 by omega), nI_clamp (show u < 2 ^ 31 by omega), if_neg c_1, if_neg c_2, if_pos c_3, if_neg c_4, if_neg c_6, if_neg c_7]) (rfl)
          · refine lv_iload_n hx hb d_Mo_wall_45 rfl (lv_at hl 3 rfl) ?_
            refine lv_bipush (v := 10) hx hb d_Mo_wall_46 (by decide) ?_
            refine lv_icmp_ne (tgt := 70) hx hb d_Mo_wall_48 (by decide) (fun c_8 => ?_) (fun c_8 => ?_)
            · refine lv_aload_n hx hb d_Mo_wall_70 rfl (lv_at hl 1 rfl) ?_
              refine va_get (D := D) (ci := 5) (v := .ref pb) (C := R_Mo) (T := T_Mo) (N := 13) hx hb hts i_Mo hown hK hP 0 rfl rfl 3 (by decide) (hts _ w_421) (fun _ h9 => h9) rfl d_Mo_wall_71 ?_
              refine lv_iload_n hx hb d_Mo_wall_74 rfl (lv_at hl 0 rfl) ?_
              refine lv_bipush (v := 10) hx hb d_Mo_wall_75 (by decide) ?_
              refine lv_iadd hx hb d_Mo_wall_77 ?_
              rw [n10]
              refine va_bald hx hb hK hP 1 0 rfl rfl (in_n (by omega) (by decide)) d_Mo_wall_78 ?_
              rw [nI_clamp (show yta fm (yb fm 3) (yb fm 4) + 9 * yb fm 5 + 14 * K + 10 < 2 ^ 31 by omega)]
              refine lv_sipush (v := 255) hx hb d_Mo_wall_79 (by decide) ?_
              refine lv_iand hx hb d_Mo_wall_82 ?_
              refine lv_bipush (v := 16) hx hb d_Mo_wall_83 (by decide) ?_
              refine lv_irem hx hb d_Mo_wall_85 (by decide) ?_
              exact fin _ _ _ _ _ _ d_Mo_wall_86 hP hS (by simp only [ywA, nI_clamp (show K < 2 ^ 31 by omega), nI_clamp (show u < 2 ^ 31 by omega), if_neg c_1, if_neg c_2, if_pos c_3, if_neg c_4, if_pos c_6, if_neg c_8]) (rfl)
            · exact absurd c_8 c_4
      · refine lv_iconst (v := (-1)) hx hb d_Mo_wall_25 (by decide) ?_
        exact fin _ _ _ _ _ _ d_Mo_wall_26 hP hS (by simp only [ywA, if_neg c_1, if_neg c_2, if_neg c_3]) (rfl)

set_option maxRecDepth 100000 in
set_option maxHeartbeats 4000000 in
/-- texture -/
theorem c_Mo_texture (l : Launch) (D : va_G) (cB cI cS : ClassId) (o0 ib pb qb : Nat) (th ck : Int32) (n nm no : Nat) (q : S5) (fm : Nat → Int32) (k what : Int32) (hvm : nm = 0 ∨ VM fm) : mI l y_Mo_texture b_Mo_texture 8 (some .int) 2 D cls [(cB, .byte), (cI, .int), (cS, .object "MapLumps$Span")] [.ref o0, .int k, .int what] ([(o0, .inr (5, [.int th, .ref ib, .int (nI n), .ref pb, .int (nI nm), .ref qb, .int (nI no), .int q.2.1, .int q.2.2.1, .int ck, .int q.1, .int q.2.2.2.1, .int q.2.2.2.2])), (pb, .inl (cB, 8192, .inl fm))]) (yxA fm nm k what) ([(o0, .inr (5, [.int 0, .ref ib, .int (nI n), .ref pb, .int (nI nm), .ref qb, .int (nI no), .int q.2.1, .int q.2.2.1, .int ck, .int q.1, .int q.2.2.2.1, .int q.2.2.2.2])), (pb, .inl (cB, 8192, .inl fm))]) := by
  refine pz_openI (by decide) (Nat.le_of_ble_eq_true rfl) ?_
  intro p e s m below meth c A ls Q X hN hK hP hD hS hA hl fin
  obtain ⟨hx, hb, hml, hown, hts⟩ := id X
  have hl : lv_has ls 8 [(0, .ref o0), (1, .int k), (2, .int what)] := hl
  refine lv_aload_n hx hb d_Mo_texture_0 rfl (lv_at hl 0 rfl) ?_
  refine lv_iconst (v := 0) hx hb d_Mo_texture_1 (by decide) ?_
  refine va_put (D := D) (ci := 5) (v := .int 0) (ty := (.int)) (C := R_Mo) (T := T_Mo) (N := 13) hx hb hts i_Mo ty_Mo tyok_Mo nm_Mo hown hK hP hD hS 0 rfl rfl 0 (by decide) (hts _ w_418) (fun _ h9 => h9) rfl (by decide +kernel) rfl rfl (Nat.le_of_ble_eq_true rfl) d_Mo_texture_2 (fun H locs hP hD hS => ?_)
  have hP : va_P D cls ([(o0, .inr (5, [.int 0, .ref ib, .int (nI n), .ref pb, .int (nI nm), .ref qb, .int (nI no), .int q.2.1, .int q.2.2.1, .int ck, .int q.1, .int q.2.2.2.1, .int q.2.2.2.2])), (pb, .inl (cB, 8192, .inl fm))]) H := hP
  have hD : va_D A ([(o0, .inr (5, [.int 0, .ref ib, .int (nI n), .ref pb, .int (nI nm), .ref qb, .int (nI no), .int q.2.1, .int q.2.2.1, .int ck, .int q.1, .int q.2.2.2.1, .int q.2.2.2.2])), (pb, .inl (cB, 8192, .inl fm))]) := hD
  refine lv_aload_n hx hb d_Mo_texture_5 rfl (lv_at hl 0 rfl) ?_
  refine lv_iconst (v := 4) hx hb d_Mo_texture_6 (by decide) ?_
  refine lv_iload_n hx hb d_Mo_texture_7 rfl (lv_at hl 1 rfl) ?_
  refine pz_i0 (pz_rV (d := 1) (As := [.int 4, .int k]) (rest := []) X hN (c_Mo_has l D cB cI cS o0 ib pb qb 0 ck n nm no q fm 4 k (by omega) _) k_Mo_has w_557 ⟨by decide, by decide⟩ hK hP hD [0, 1] rfl rfl 0 rfl rfl rfl rfl hl.1 rfl (Nat.le_of_ble_eq_true rfl) d_Mo_texture_8 ⟨Nat.zero_le _, Nat.zero_le _⟩) hP hD hS hA [0, 1] rfl (fun H locs hP hS => ?_)
  refine lv_if_eq (tgt := 18) hx hb d_Mo_texture_11 (by decide) (fun c_1 => ?_) (fun c_1 => ?_)
  · refine lv_iconst (v := (-1)) hx hb d_Mo_texture_18 (by decide) ?_
    exact fin _ _ _ _ _ _ d_Mo_texture_19 hP hS (by simp only [yxA, if_pos c_1]) (rfl)
  · refine lv_iload_n hx hb d_Mo_texture_14 rfl (lv_at hl 2 rfl) ?_
    refine lv_if_ge (tgt := 20) hx hb d_Mo_texture_15 (by decide) (fun c_2 => ?_) (fun c_2 => ?_)
    · obtain ⟨K, rfl, hK1, hK2, hm⟩ := hs_k c_1
      have hv : VM fm := hvm.resolve_left (fun h => hm (by rw [h]; rfl))
      have hv2 := hv.2
      have hv3 := yta_lt (fm := fm) (V := yb fm 3) hK2
      refine lv_aload_n hx hb d_Mo_texture_20 rfl (lv_at hl 0 rfl) ?_
      refine lv_iload_n hx hb d_Mo_texture_21 rfl (lv_at hl 1 rfl) ?_
      refine pz_i0 (pz_rV (d := 1) (As := [.int (nI K)]) (rest := []) X hN (c_Mo_textureAt l D cB cI cS o0 ib pb qb 0 ck n nm no q fm K hm hv (by omega) (by have h1 := yb_lt fm 4; omega) _) k_Mo_textureAt w_570 ⟨by decide, by decide⟩ hK hP hD [0, 1] rfl rfl 0 rfl rfl rfl rfl hl.1 rfl (Nat.le_of_ble_eq_true rfl) d_Mo_texture_22 ⟨Nat.zero_le _, Nat.zero_le _⟩) hP hD hS hA [0, 1] rfl (fun H locs hP hS => ?_)
      refine lv_istore_n (lv' := [(3, .int (nI (yta fm (yb fm 3) K))), (0, .ref o0), (1, .int (nI K)), (2, .int what)]) hx hb d_Mo_texture_25 rfl hl (by decide) rfl (fun ls hl => ?_)
      refine lv_iconst (v := 1) hx hb d_Mo_texture_26 (by decide) ?_
      refine lv_aload_n hx hb d_Mo_texture_27 rfl (lv_at hl 1 rfl) ?_
      refine va_get (D := D) (ci := 5) (v := .ref pb) (C := R_Mo) (T := T_Mo) (N := 13) hx hb hts i_Mo hown hK hP 0 rfl rfl 3 (by decide) (hts _ w_421) (fun _ h9 => h9) rfl d_Mo_texture_28 ?_
      refine lv_iload_n hx hb d_Mo_texture_31 rfl (lv_at hl 0 rfl) ?_
      refine va_bald hx hb hK hP 1 0 rfl rfl (in_n (by omega) (by decide)) d_Mo_texture_32 ?_
      rw [nI_clamp (show yta fm (yb fm 3) K < 2 ^ 31 by omega)]
      refine lv_ishl hx hb d_Mo_texture_33 ?_
      refine lv_istore (lv' := [(4, .int (1 <<< ((fm (yta fm (yb fm 3) K)) &&& 31))), (3, .int (nI (yta fm (yb fm 3) K))), (0, .ref o0), (1, .int (nI K)), (2, .int what)]) hx hb d_Mo_texture_34 hl (by decide) rfl (fun ls hl => ?_)
      refine lv_iconst (v := 1) hx hb d_Mo_texture_36 (by decide) ?_
      refine lv_aload_n hx hb d_Mo_texture_37 rfl (lv_at hl 2 rfl) ?_
      refine va_get (D := D) (ci := 5) (v := .ref pb) (C := R_Mo) (T := T_Mo) (N := 13) hx hb hts i_Mo hown hK hP 0 rfl rfl 3 (by decide) (hts _ w_421) (fun _ h9 => h9) rfl d_Mo_texture_38 ?_
      refine lv_iload_n hx hb d_Mo_texture_41 rfl (lv_at hl 1 rfl) ?_
      refine lv_iconst (v := 1) hx hb d_Mo_texture_42 (by decide) ?_
      refine lv_iadd hx hb d_Mo_texture_43 ?_
      rw [nI_1]
      refine va_bald hx hb hK hP 1 0 rfl rfl (in_n (by omega) (by decide)) d_Mo_texture_44 ?_
      rw [nI_clamp (show yta fm (yb fm 3) K + 1 < 2 ^ 31 by omega)]
      refine lv_ishl hx hb d_Mo_texture_45 ?_
      refine lv_istore (lv' := [(5, .int (1 <<< ((fm (yta fm (yb fm 3) K + 1)) &&& 31))), (4, .int (1 <<< ((fm (yta fm (yb fm 3) K)) &&& 31))), (3, .int (nI (yta fm (yb fm 3) K))), (0, .ref o0), (1, .int (nI K)), (2, .int what)]) hx hb d_Mo_texture_46 hl (by decide) rfl (fun ls hl => ?_)
      refine lv_iload_n hx hb d_Mo_texture_48 rfl (lv_at hl 5 rfl) ?_
      refine lv_iconst (v := 2) hx hb d_Mo_texture_49 (by decide) ?_
      refine lv_icmp_ge (tgt := 65) hx hb d_Mo_texture_50 (by decide) (fun c_3 => ?_) (fun c_3 => ?_)
      · refine lv_iload_n hx hb d_Mo_texture_65 rfl (lv_at hl 5 rfl) ?_
        refine lv_iconst (v := 2) hx hb d_Mo_texture_66 (by decide) ?_
        refine lv_isub hx hb d_Mo_texture_67 ?_
        refine lv_bipush (v := 16) hx hb d_Mo_texture_68 (by decide) ?_
        refine lv_idiv hx hb d_Mo_texture_70 (by decide) ?_
        refine lv_istore (lv' := [(6, .int ((what - 2) / 16)), (5, .int (1 <<< ((fm (yta fm (yb fm 3) K + 1)) &&& 31))), (4, .int (1 <<< ((fm (yta fm (yb fm 3) K)) &&& 31))), (3, .int (nI (yta fm (yb fm 3) K))), (0, .ref o0), (1, .int (nI K)), (2, .int what)]) hx hb d_Mo_texture_71 hl (by decide) rfl (fun ls hl => ?_)
        refine lv_iload_n hx hb d_Mo_texture_73 rfl (lv_at hl 6 rfl) ?_
        refine lv_iconst (v := 2) hx hb d_Mo_texture_74 (by decide) ?_
        refine lv_isub hx hb d_Mo_texture_75 ?_
        refine lv_bipush (v := 16) hx hb d_Mo_texture_76 (by decide) ?_
        refine lv_irem hx hb d_Mo_texture_78 (by decide) ?_
        refine lv_istore (lv' := [(7, .int ((what - 2) - (what - 2) / 16 * 16)), (6, .int ((what - 2) / 16)), (5, .int (1 <<< ((fm (yta fm (yb fm 3) K + 1)) &&& 31))), (4, .int (1 <<< ((fm (yta fm (yb fm 3) K)) &&& 31))), (3, .int (nI (yta fm (yb fm 3) K))), (0, .ref o0), (1, .int (nI K)), (2, .int what)]) hx hb d_Mo_texture_79 hl (by decide) rfl (fun ls hl => ?_)
        refine lv_iload hx hb d_Mo_texture_81 (lv_at hl 1 rfl) ?_
        refine lv_iload hx hb d_Mo_texture_83 (lv_at hl 2 rfl) ?_
        refine lv_icmp_ge (tgt := 115) hx hb d_Mo_texture_85 (by decide) (fun c_4 => ?_) (fun c_4 => ?_)
        · refine lv_iconst (v := (-1)) hx hb d_Mo_texture_115 (by decide) ?_
          exact fin _ _ _ _ _ _ d_Mo_texture_116 hP hS (by simp only [yxA, nI_clamp (show K < 2 ^ 31 by omega), if_neg (show ¬ (yhs fm nm 4 (nI K) = 0) from c_1), if_pos (show 0 ≤ what from c_2), if_pos (show 2 ≤ what from c_3), if_pos (show yH fm K ≤ yrw what from c_4)] <;> rfl) (rfl)
        · refine lv_iload hx hb d_Mo_texture_88 (lv_at hl 0 rfl) ?_
          refine lv_iload hx hb d_Mo_texture_90 (lv_at hl 3 rfl) ?_
          refine lv_icmp_ge (tgt := 115) hx hb d_Mo_texture_92 (by decide) (fun c_5 => ?_) (fun c_5 => ?_)
          · refine lv_iconst (v := (-1)) hx hb d_Mo_texture_115 (by decide) ?_
            exact fin _ _ _ _ _ _ d_Mo_texture_116 hP hS (by simp only [yxA, nI_clamp (show K < 2 ^ 31 by omega), if_neg (show ¬ (yhs fm nm 4 (nI K) = 0) from c_1), if_pos (show 0 ≤ what from c_2), if_pos (show 2 ≤ what from c_3), if_neg (show ¬ (yH fm K ≤ yrw what) from c_4), if_pos (show yW fm K ≤ ycl what from c_5)] <;> rfl) (rfl)
          · refine lv_aload_n hx hb d_Mo_texture_95 rfl (lv_at hl 5 rfl) ?_
            refine va_get (D := D) (ci := 5) (v := .ref pb) (C := R_Mo) (T := T_Mo) (N := 13) hx hb hts i_Mo hown hK hP 0 rfl rfl 3 (by decide) (hts _ w_421) (fun _ h9 => h9) rfl d_Mo_texture_96 ?_
            refine lv_iload_n hx hb d_Mo_texture_99 rfl (lv_at hl 4 rfl) ?_
            refine lv_iconst (v := 2) hx hb d_Mo_texture_100 (by decide) ?_
            refine lv_iadd hx hb d_Mo_texture_101 ?_
            refine lv_iload hx hb d_Mo_texture_102 (lv_at hl 3 rfl) ?_
            refine lv_iload hx hb d_Mo_texture_104 (lv_at hl 1 rfl) ?_
            refine lv_imul hx hb d_Mo_texture_106 ?_
            refine lv_iadd hx hb d_Mo_texture_107 ?_
            refine lv_iload hx hb d_Mo_texture_108 (lv_at hl 0 rfl) ?_
            refine lv_iadd hx hb d_Mo_texture_110 ?_
            refine va_bald hx hb hK hP 1 0 rfl rfl (tx_in hv hK2 c_3 c_4 c_5) d_Mo_texture_111 ?_
            refine lv_goto (tgt := 116) hx hb d_Mo_texture_112 (by decide) ?_
            exact fin _ _ _ _ _ _ d_Mo_texture_116 hP hS (by simp only [yxA, nI_clamp (show K < 2 ^ 31 by omega), if_neg (show ¬ (yhs fm nm 4 (nI K) = 0) from c_1), if_pos (show 0 ≤ what from c_2), if_pos (show 2 ≤ what from c_3), if_neg (show ¬ (yH fm K ≤ yrw what) from c_4), if_neg (show ¬ (yW fm K ≤ ycl what) from c_5)] <;> rfl) (rfl)
      · refine lv_iload_n hx hb d_Mo_texture_53 rfl (lv_at hl 5 rfl) ?_
        refine lv_if_ne (tgt := 62) hx hb d_Mo_texture_54 (by decide) (fun c_6 => ?_) (fun c_6 => ?_)
        · refine lv_iload hx hb d_Mo_texture_62 (lv_at hl 0 rfl) ?_
          exact fin _ _ _ _ _ _ d_Mo_texture_64 hP hS (by simp only [yxA, nI_clamp (show K < 2 ^ 31 by omega), if_neg (show ¬ (yhs fm nm 4 (nI K) = 0) from c_1), if_pos (show 0 ≤ what from c_2), if_neg (show ¬ (2 ≤ what) from c_3), if_neg (show ¬ (what = 0) from c_6)] <;> rfl) (rfl)
        · refine lv_iload hx hb d_Mo_texture_57 (lv_at hl 1 rfl) ?_
          refine lv_goto (tgt := 64) hx hb d_Mo_texture_59 (by decide) ?_
          exact fin _ _ _ _ _ _ d_Mo_texture_64 hP hS (by simp only [yxA, nI_clamp (show K < 2 ^ 31 by omega), if_neg (show ¬ (yhs fm nm 4 (nI K) = 0) from c_1), if_pos (show 0 ≤ what from c_2), if_neg (show ¬ (2 ≤ what) from c_3), if_pos (show what = 0 from c_6)] <;> rfl) (rfl)
    · refine lv_iconst (v := (-1)) hx hb d_Mo_texture_18 (by decide) ?_
      exact fin _ _ _ _ _ _ d_Mo_texture_19 hP hS (by simp only [yxA, if_neg c_1, if_neg c_2]) (rfl)
