set_option maxRecDepth 100000 in
set_option maxHeartbeats 4000000 in
/-- RoomMap.counted -/
theorem c_Mp_counted (l : Launch) (D : va_G) (cB cI cS : ClassId) (m0 mr mb mt : Nat) (pr mv mx ms mw ma mb_ mc_ : Int32) (f : Nat → Int32) (n : Nat) (g : Nat → Int32) (k : Int32)  : mI l y_Mp_counted b_Mp_counted 2 (some .int) 0 D cls [(cB, .byte), (cI, .int), (cS, .object "MapLumps$Span")] [.ref m0, .int k] ([(m0, .inr (2, [.ref mr, .ref mt, .int pr, .int mv, .int mx, .int ms, .int mw, .int ma, .int mb_, .int mc_])), (mr, .inr (3, [.ref mb, .int (nI n)])), (mb, .inl (cB, 8192, .inl f)), (mt, .inl (cI, 16, .inl g))]) (mcn pr k) ([(m0, .inr (2, [.ref mr, .ref mt, .int pr, .int mv, .int mx, .int ms, .int mw, .int ma, .int mb_, .int mc_])), (mr, .inr (3, [.ref mb, .int (nI n)])), (mb, .inl (cB, 8192, .inl f)), (mt, .inl (cI, 16, .inl g))]) := by
  refine pz_openI (by decide) (Nat.le_of_ble_eq_true rfl) ?_
  intro p e s m below meth c A ls Q X hN hK hP hD hS hA hl fin
  obtain ⟨hx, hb, hml, hown, hts⟩ := id X
  have hl : lv_has ls 2 [(0, .ref m0), (1, .int k)] := hl
  refine lv_aload_n hx hb d_Mp_counted_0 rfl (lv_at hl 0 rfl) ?_
  refine va_get (D := D) (ci := 2) (v := .int pr) (C := R_Mp) (T := T_Mp) (N := 10) hx hb hts i_Mp hown hK hP 0 rfl rfl 2 (by decide) (hts _ w_130) (fun _ h9 => h9) rfl d_Mp_counted_1 ?_
  refine lv_if_eq (tgt := 11) hx hb d_Mp_counted_4 (by decide) (fun c_1 => ?_) (fun c_1 => ?_)
  · refine lv_iconst (v := (-1)) hx hb d_Mp_counted_11 (by decide) ?_
    exact fin _ _ _ _ _ _ d_Mp_counted_12 hP hS (by simp only [mcn, if_pos c_1]) (rfl)
  · refine lv_iload_n hx hb d_Mp_counted_7 rfl (lv_at hl 1 rfl) ?_
    refine lv_goto (tgt := 12) hx hb d_Mp_counted_8 (by decide) ?_
    exact fin _ _ _ _ _ _ d_Mp_counted_12 hP hS (by simp only [mcn, if_neg c_1]) (rfl)

set_option maxRecDepth 100000 in
set_option maxHeartbeats 4000000 in
/-- RoomMap.textureAt -/
theorem c_Mp_textureAt (l : Launch) (D : va_G) (cB cI cS : ClassId) (m0 mr mb mt : Nat) (pr mv mx ms mw ma mb_ mc_ : Int32) (f : Nat → Int32) (n : Nat) (g : Nat → Int32) (k : Int32)  : mI l y_Mp_textureAt b_Mp_textureAt 2 (some .int) 0 D cls [(cB, .byte), (cI, .int), (cS, .object "MapLumps$Span")] [.ref m0, .int k] ([(m0, .inr (2, [.ref mr, .ref mt, .int pr, .int mv, .int mx, .int ms, .int mw, .int ma, .int mb_, .int mc_])), (mr, .inr (3, [.ref mb, .int (nI n)])), (mb, .inl (cB, 8192, .inl f)), (mt, .inl (cI, 16, .inl g))]) (tat g k) ([(m0, .inr (2, [.ref mr, .ref mt, .int pr, .int mv, .int mx, .int ms, .int mw, .int ma, .int mb_, .int mc_])), (mr, .inr (3, [.ref mb, .int (nI n)])), (mb, .inl (cB, 8192, .inl f)), (mt, .inl (cI, 16, .inl g))]) := by
  refine pz_openI (by decide) (Nat.le_of_ble_eq_true rfl) ?_
  intro p e s m below meth c A ls Q X hN hK hP hD hS hA hl fin
  obtain ⟨hx, hb, hml, hown, hts⟩ := id X
  have hl : lv_has ls 2 [(0, .ref m0), (1, .int k)] := hl
  refine lv_iload_n hx hb d_Mp_textureAt_0 rfl (lv_at hl 1 rfl) ?_
  refine lv_if_lt (tgt := 22) hx hb d_Mp_textureAt_1 (by decide) (fun c_1 => ?_) (fun c_1 => ?_)
  · refine lv_iconst (v := 0) hx hb d_Mp_textureAt_22 (by decide) ?_
    exact fin _ _ _ _ _ _ d_Mp_textureAt_23 hP hS (by simp only [tat, if_pos c_1]) (rfl)
  · refine lv_iload_n hx hb d_Mp_textureAt_4 rfl (lv_at hl 1 rfl) ?_
    refine lv_aload_n hx hb d_Mp_textureAt_5 rfl (lv_at hl 0 rfl) ?_
    refine va_get (D := D) (ci := 2) (v := .ref mt) (C := R_Mp) (T := T_Mp) (N := 10) hx hb hts i_Mp hown hK hP 0 rfl rfl 1 (by decide) (hts _ w_129) (fun _ h9 => h9) rfl d_Mp_textureAt_6 ?_
    refine va_alen hx hb hK hP 3 1 rfl rfl (v := 16) rfl d_Mp_textureAt_9 ?_
    refine lv_icmp_ge (tgt := 22) hx hb d_Mp_textureAt_10 (by decide) (fun c_2 => ?_) (fun c_2 => ?_)
    · refine lv_iconst (v := 0) hx hb d_Mp_textureAt_22 (by decide) ?_
      exact fin _ _ _ _ _ _ d_Mp_textureAt_23 hP hS (by simp only [tat, if_neg c_1, if_pos c_2]) (rfl)
    · refine lv_aload_n hx hb d_Mp_textureAt_13 rfl (lv_at hl 0 rfl) ?_
      refine va_get (D := D) (ci := 2) (v := .ref mt) (C := R_Mp) (T := T_Mp) (N := 10) hx hb hts i_Mp hown hK hP 0 rfl rfl 1 (by decide) (hts _ w_129) (fun _ h9 => h9) rfl d_Mp_textureAt_14 ?_
      refine lv_iload_n hx hb d_Mp_textureAt_17 rfl (lv_at hl 1 rfl) ?_
      refine va_iald hx hb hK hP 3 1 rfl rfl (in_a (n := 16) c_1 c_2 (by decide) (by decide)) d_Mp_textureAt_18 ?_
      refine lv_goto (tgt := 23) hx hb d_Mp_textureAt_19 (by decide) ?_
      exact fin _ _ _ _ _ _ d_Mp_textureAt_23 hP hS (by simp only [tat, if_neg c_1, if_neg c_2]) (rfl)

set_option maxRecDepth 100000 in
set_option maxHeartbeats 4000000 in
/-- RoomMap.width -/
theorem c_Mp_width (l : Launch) (D : va_G) (cB cI cS : ClassId) (m0 mr mb mt : Nat) (pr mv mx ms mw ma mb_ mc_ : Int32) (f : Nat → Int32) (n : Nat) (g : Nat → Int32) (k : Int32) (hn : n ≤ 8192) : mI l y_Mp_width b_Mp_width 2 (some .int) 1 D cls [(cB, .byte), (cI, .int), (cS, .object "MapLumps$Span")] [.ref m0, .int k] ([(m0, .inr (2, [.ref mr, .ref mt, .int pr, .int mv, .int mx, .int ms, .int mw, .int ma, .int mb_, .int mc_])), (mr, .inr (3, [.ref mb, .int (nI n)])), (mb, .inl (cB, 8192, .inl f)), (mt, .inl (cI, 16, .inl g))]) (mwd f n g k) ([(m0, .inr (2, [.ref mr, .ref mt, .int pr, .int mv, .int mx, .int ms, .int mw, .int ma, .int mb_, .int mc_])), (mr, .inr (3, [.ref mb, .int (nI n)])), (mb, .inl (cB, 8192, .inl f)), (mt, .inl (cI, 16, .inl g))]) := by
  refine pz_openI (by decide) (Nat.le_of_ble_eq_true rfl) ?_
  intro p e s m below meth c A ls Q X hN hK hP hD hS hA hl fin
  obtain ⟨hx, hb, hml, hown, hts⟩ := id X
  have hl : lv_has ls 2 [(0, .ref m0), (1, .int k)] := hl
  refine lv_iconst (v := 1) hx hb d_Mp_width_0 (by decide) ?_
  refine lv_aload_n hx hb d_Mp_width_1 rfl (lv_at hl 0 rfl) ?_
  refine va_get (D := D) (ci := 2) (v := .ref mr) (C := R_Mp) (T := T_Mp) (N := 10) hx hb hts i_Mp hown hK hP 0 rfl rfl 0 (by decide) (hts _ w_127) (fun _ h9 => h9) rfl d_Mp_width_2 ?_
  refine lv_aload_n hx hb d_Mp_width_5 rfl (lv_at hl 0 rfl) ?_
  refine lv_iload_n hx hb d_Mp_width_6 rfl (lv_at hl 1 rfl) ?_
  refine pz_i0 (pz_rV (d := 0) (As := [.int k]) (rest := [.ref mr, .int 1]) X hN (c_Mp_textureAt l D cB cI cS m0 mr mb mt pr mv mx ms mw ma mb_ mc_ f n g k _) k_Mp_textureAt w_348 ⟨by decide, by decide⟩ hK hP hD [0, 1, 2, 3] rfl rfl 0 rfl rfl rfl rfl hl.1 rfl (Nat.le_of_ble_eq_true rfl) d_Mp_width_7 ⟨Nat.zero_le _, Nat.zero_le _⟩) hP hD hS hA [0, 1, 2, 3] rfl (fun H locs hP hS => ?_)
  refine pz_i0 (pz_rV (d := 0) (As := [.int (tat g k)]) (rest := [.int 1]) X hN (c_Rw_get l D cB cI cS mr mb f n (tat g k) hn _) k_Rw_get w_343 ⟨by decide, by decide⟩ hK hP hD [1, 2] rfl rfl 1 rfl rfl rfl rfl hl.1 rfl (Nat.le_of_ble_eq_true rfl) d_Mp_width_10 ⟨Nat.zero_le _, Nat.zero_le _⟩) hP hD hS hA [1, 2] rfl (fun H locs hP hS => ?_)
  refine lv_ishl hx hb d_Mp_width_13 ?_
  exact fin _ _ _ _ _ _ d_Mp_width_14 hP hS (rfl) (rfl)

set_option maxRecDepth 100000 in
set_option maxHeartbeats 4000000 in
/-- RoomMap.height -/
theorem c_Mp_height (l : Launch) (D : va_G) (cB cI cS : ClassId) (m0 mr mb mt : Nat) (pr mv mx ms mw ma mb_ mc_ : Int32) (f : Nat → Int32) (n : Nat) (g : Nat → Int32) (k : Int32) (hn : n ≤ 8192) : mI l y_Mp_height b_Mp_height 2 (some .int) 1 D cls [(cB, .byte), (cI, .int), (cS, .object "MapLumps$Span")] [.ref m0, .int k] ([(m0, .inr (2, [.ref mr, .ref mt, .int pr, .int mv, .int mx, .int ms, .int mw, .int ma, .int mb_, .int mc_])), (mr, .inr (3, [.ref mb, .int (nI n)])), (mb, .inl (cB, 8192, .inl f)), (mt, .inl (cI, 16, .inl g))]) (mht f n g k) ([(m0, .inr (2, [.ref mr, .ref mt, .int pr, .int mv, .int mx, .int ms, .int mw, .int ma, .int mb_, .int mc_])), (mr, .inr (3, [.ref mb, .int (nI n)])), (mb, .inl (cB, 8192, .inl f)), (mt, .inl (cI, 16, .inl g))]) := by
  refine pz_openI (by decide) (Nat.le_of_ble_eq_true rfl) ?_
  intro p e s m below meth c A ls Q X hN hK hP hD hS hA hl fin
  obtain ⟨hx, hb, hml, hown, hts⟩ := id X
  have hl : lv_has ls 2 [(0, .ref m0), (1, .int k)] := hl
  refine lv_iconst (v := 1) hx hb d_Mp_height_0 (by decide) ?_
  refine lv_aload_n hx hb d_Mp_height_1 rfl (lv_at hl 0 rfl) ?_
  refine va_get (D := D) (ci := 2) (v := .ref mr) (C := R_Mp) (T := T_Mp) (N := 10) hx hb hts i_Mp hown hK hP 0 rfl rfl 0 (by decide) (hts _ w_127) (fun _ h9 => h9) rfl d_Mp_height_2 ?_
  refine lv_aload_n hx hb d_Mp_height_5 rfl (lv_at hl 0 rfl) ?_
  refine lv_iload_n hx hb d_Mp_height_6 rfl (lv_at hl 1 rfl) ?_
  refine pz_i0 (pz_rV (d := 0) (As := [.int k]) (rest := [.ref mr, .int 1]) X hN (c_Mp_textureAt l D cB cI cS m0 mr mb mt pr mv mx ms mw ma mb_ mc_ f n g k _) k_Mp_textureAt w_348 ⟨by decide, by decide⟩ hK hP hD [0, 1, 2, 3] rfl rfl 0 rfl rfl rfl rfl hl.1 rfl (Nat.le_of_ble_eq_true rfl) d_Mp_height_7 ⟨Nat.zero_le _, Nat.zero_le _⟩) hP hD hS hA [0, 1, 2, 3] rfl (fun H locs hP hS => ?_)
  refine lv_iconst (v := 1) hx hb d_Mp_height_10 (by decide) ?_
  refine lv_iadd hx hb d_Mp_height_11 ?_
  refine pz_i0 (pz_rV (d := 0) (As := [.int ((tat g k) + 1)]) (rest := [.int 1]) X hN (c_Rw_get l D cB cI cS mr mb f n ((tat g k) + 1) hn _) k_Rw_get w_343 ⟨by decide, by decide⟩ hK hP hD [1, 2] rfl rfl 1 rfl rfl rfl rfl hl.1 rfl (Nat.le_of_ble_eq_true rfl) d_Mp_height_12 ⟨Nat.zero_le _, Nat.zero_le _⟩) hP hD hS hA [1, 2] rfl (fun H locs hP hS => ?_)
  refine lv_ishl hx hb d_Mp_height_15 ?_
  exact fin _ _ _ _ _ _ d_Mp_height_16 hP hS (rfl) (rfl)

set_option maxRecDepth 100000 in
set_option maxHeartbeats 4000000 in
/-- RoomMap.texel -/
theorem c_Mp_texel (l : Launch) (D : va_G) (cB cI cS : ClassId) (m0 mr mb mt : Nat) (pr mv mx ms mw ma mb_ mc_ : Int32) (f : Nat → Int32) (n : Nat) (g : Nat → Int32) (k dn ac : Int32) (hn : n ≤ 8192) : mI l y_Mp_texel b_Mp_texel 5 (some .int) 2 D cls [(cB, .byte), (cI, .int), (cS, .object "MapLumps$Span")] [.ref m0, .int k, .int dn, .int ac] ([(m0, .inr (2, [.ref mr, .ref mt, .int pr, .int mv, .int mx, .int ms, .int mw, .int ma, .int mb_, .int mc_])), (mr, .inr (3, [.ref mb, .int (nI n)])), (mb, .inl (cB, 8192, .inl f)), (mt, .inl (cI, 16, .inl g))]) (mtx f n g k dn ac) ([(m0, .inr (2, [.ref mr, .ref mt, .int pr, .int mv, .int mx, .int ms, .int mw, .int ma, .int mb_, .int mc_])), (mr, .inr (3, [.ref mb, .int (nI n)])), (mb, .inl (cB, 8192, .inl f)), (mt, .inl (cI, 16, .inl g))]) := by
  refine pz_openI (by decide) (Nat.le_of_ble_eq_true rfl) ?_
  intro p e s m below meth c A ls Q X hN hK hP hD hS hA hl fin
  obtain ⟨hx, hb, hml, hown, hts⟩ := id X
  have hl : lv_has ls 5 [(0, .ref m0), (1, .int k), (2, .int dn), (3, .int ac)] := hl
  refine lv_aload_n hx hb d_Mp_texel_0 rfl (lv_at hl 0 rfl) ?_
  refine lv_iload_n hx hb d_Mp_texel_1 rfl (lv_at hl 1 rfl) ?_
  refine pz_i0 (pz_rV (d := 1) (As := [.int k]) (rest := []) X hN (c_Mp_width l D cB cI cS m0 mr mb mt pr mv mx ms mw ma mb_ mc_ f n g k hn _) k_Mp_width w_344 ⟨by decide, by decide⟩ hK hP hD [0, 1, 2, 3] rfl rfl 0 rfl rfl rfl rfl hl.1 rfl (Nat.le_of_ble_eq_true rfl) d_Mp_texel_2 ⟨Nat.zero_le _, Nat.zero_le _⟩) hP hD hS hA [0, 1, 2, 3] rfl (fun H locs hP hS => ?_)
  refine lv_istore (lv' := [(4, .int (mwd f n g k)), (0, .ref m0), (1, .int k), (2, .int dn), (3, .int ac)]) hx hb d_Mp_texel_5 hl (by decide) rfl (fun ls hl => ?_)
  refine lv_iload_n hx hb d_Mp_texel_7 rfl (lv_at hl 3 rfl) ?_
  refine lv_if_lt (tgt := 30) hx hb d_Mp_texel_8 (by decide) (fun c_1 => ?_) (fun c_1 => ?_)
  · refine lv_iconst (v := (-1)) hx hb d_Mp_texel_30 (by decide) ?_
    exact fin _ _ _ _ _ _ d_Mp_texel_31 hP hS (by simp only [mtx, if_pos c_1]) (rfl)
  · refine lv_iload_n hx hb d_Mp_texel_11 rfl (lv_at hl 3 rfl) ?_
    refine lv_aload_n hx hb d_Mp_texel_12 rfl (lv_at hl 1 rfl) ?_
    refine lv_iload_n hx hb d_Mp_texel_13 rfl (lv_at hl 2 rfl) ?_
    refine pz_i0 (pz_rV (d := 1) (As := [.int k]) (rest := [.int dn]) X hN (c_Mp_height l D cB cI cS m0 mr mb mt pr mv mx ms mw ma mb_ mc_ f n g k hn _) k_Mp_height w_352 ⟨by decide, by decide⟩ hK hP hD [0, 1, 2, 3] rfl rfl 0 rfl rfl rfl rfl hl.1 rfl (Nat.le_of_ble_eq_true rfl) d_Mp_texel_14 ⟨Nat.zero_le _, Nat.zero_le _⟩) hP hD hS hA [0, 1, 2, 3] rfl (fun H locs hP hS => ?_)
    refine lv_icmp_ge (tgt := 30) hx hb d_Mp_texel_17 (by decide) (fun c_2 => ?_) (fun c_2 => ?_)
    · refine lv_iconst (v := (-1)) hx hb d_Mp_texel_30 (by decide) ?_
      exact fin _ _ _ _ _ _ d_Mp_texel_31 hP hS (by simp only [mtx, if_neg c_1, if_pos c_2]) (rfl)
    · refine lv_iload_n hx hb d_Mp_texel_20 rfl (lv_at hl 4 rfl) ?_
      refine lv_if_lt (tgt := 30) hx hb d_Mp_texel_21 (by decide) (fun c_3 => ?_) (fun c_3 => ?_)
      · refine lv_iconst (v := (-1)) hx hb d_Mp_texel_30 (by decide) ?_
        exact fin _ _ _ _ _ _ d_Mp_texel_31 hP hS (by simp only [mtx, if_neg c_1, if_neg c_2, if_pos c_3]) (rfl)
      · refine lv_iload_n hx hb d_Mp_texel_24 rfl (lv_at hl 4 rfl) ?_
        refine lv_iload hx hb d_Mp_texel_25 (lv_at hl 0 rfl) ?_
        refine lv_icmp_lt (tgt := 32) hx hb d_Mp_texel_27 (by decide) (fun c_4 => ?_) (fun c_4 => ?_)
        · refine lv_aload_n hx hb d_Mp_texel_32 rfl (lv_at hl 1 rfl) ?_
          refine va_get (D := D) (ci := 2) (v := .ref mr) (C := R_Mp) (T := T_Mp) (N := 10) hx hb hts i_Mp hown hK hP 0 rfl rfl 0 (by decide) (hts _ w_127) (fun _ h9 => h9) rfl d_Mp_texel_33 ?_
          refine lv_aload_n hx hb d_Mp_texel_36 rfl (lv_at hl 1 rfl) ?_
          refine lv_iload_n hx hb d_Mp_texel_37 rfl (lv_at hl 2 rfl) ?_
          refine pz_i0 (pz_rV (d := 0) (As := [.int k]) (rest := [.ref mr]) X hN (c_Mp_textureAt l D cB cI cS m0 mr mb mt pr mv mx ms mw ma mb_ mc_ f n g k _) k_Mp_textureAt w_348 ⟨by decide, by decide⟩ hK hP hD [0, 1, 2, 3] rfl rfl 0 rfl rfl rfl rfl hl.1 rfl (Nat.le_of_ble_eq_true rfl) d_Mp_texel_38 ⟨Nat.zero_le _, Nat.zero_le _⟩) hP hD hS hA [0, 1, 2, 3] rfl (fun H locs hP hS => ?_)
          refine lv_iconst (v := 2) hx hb d_Mp_texel_41 (by decide) ?_
          refine lv_iadd hx hb d_Mp_texel_42 ?_
          refine lv_iload hx hb d_Mp_texel_43 (lv_at hl 0 rfl) ?_
          refine lv_iload_n hx hb d_Mp_texel_45 rfl (lv_at hl 3 rfl) ?_
          refine lv_imul hx hb d_Mp_texel_46 ?_
          refine lv_iadd hx hb d_Mp_texel_47 ?_
          refine lv_iload_n hx hb d_Mp_texel_48 rfl (lv_at hl 4 rfl) ?_
          refine lv_iadd hx hb d_Mp_texel_49 ?_
          refine pz_i0 (pz_rV (d := 0) (As := [.int ((((tat g k) + 2) + ((mwd f n g k) * dn)) + ac)]) (rest := []) X hN (c_Rw_get l D cB cI cS mr mb f n ((((tat g k) + 2) + ((mwd f n g k) * dn)) + ac) hn _) k_Rw_get w_343 ⟨by decide, by decide⟩ hK hP hD [1, 2] rfl rfl 1 rfl rfl rfl rfl hl.1 rfl (Nat.le_of_ble_eq_true rfl) d_Mp_texel_50 ⟨Nat.zero_le _, Nat.zero_le _⟩) hP hD hS hA [1, 2] rfl (fun H locs hP hS => ?_)
          exact fin _ _ _ _ _ _ d_Mp_texel_53 hP hS (by simp only [mtx, if_neg c_1, if_neg c_2, if_neg c_3, if_pos c_4]) (rfl)
        · refine lv_iconst (v := (-1)) hx hb d_Mp_texel_30 (by decide) ?_
          exact fin _ _ _ _ _ _ d_Mp_texel_31 hP hS (by simp only [mtx, if_neg c_1, if_neg c_2, if_neg c_3, if_neg c_4]) (rfl)

set_option maxRecDepth 100000 in
set_option maxHeartbeats 4000000 in
/-- RoomMap.take -/
theorem c_Mp_take (l : Launch) (D : va_G) (cB cI cS : ClassId) (m0 mr mb mt : Nat) (pr mv mx ms mw ma mb_ mc_ : Int32) (f : Nat → Int32) (n : Nat) (g : Nat → Int32) (h1 hd : Nat) (f2 : Nat → Int32) (n2 : Nat) (hn : n2 ≤ 8192) (hf : sb_Fit f2) : mV l y_Mp_take b_Mp_take 4 (none) 2 D cls [(cB, .byte), (cI, .int), (cS, .object "MapLumps$Span")] [.ref m0, .ref h1] ([(m0, .inr (2, [.ref mr, .ref mt, .int pr, .int mv, .int mx, .int ms, .int mw, .int ma, .int mb_, .int mc_])), (mr, .inr (3, [.ref mb, .int (nI n)])), (mb, .inl (cB, 8192, .inl f)), (mt, .inl (cI, 16, .inl g)), (h1, .inr (3, [.ref hd, .int (nI n2)])), (hd, .inl (cB, 8192, .inl f2))]) ([(m0, .inr (2, [.ref mr, .ref mt, .int 1, .int (rg (va_cpy f2 f 0 0 n2) n2 3), .int (rg (va_cpy f2 f 0 0 n2) n2 4), .int (rg (va_cpy f2 f 0 0 n2) n2 5), .int (rg (va_cpy f2 f 0 0 n2) n2 6), .int ((tkl (va_cpy f2 f 0 0 n2) n2 (rg (va_cpy f2 f 0 0 n2) n2 4) 16 0 (7 + 4 * (rg (va_cpy f2 f 0 0 n2) n2 3), g)).1), .int ((tkl (va_cpy f2 f 0 0 n2) n2 (rg (va_cpy f2 f 0 0 n2) n2 4) 16 0 (7 + 4 * (rg (va_cpy f2 f 0 0 n2) n2 3), g)).1 + 9 * (rg (va_cpy f2 f 0 0 n2) n2 5)), .int (((tkl (va_cpy f2 f 0 0 n2) n2 (rg (va_cpy f2 f 0 0 n2) n2 4) 16 0 (7 + 4 * (rg (va_cpy f2 f 0 0 n2) n2 3), g)).1 + 9 * (rg (va_cpy f2 f 0 0 n2) n2 5)) + 14 * (rg (va_cpy f2 f 0 0 n2) n2 6))])), (mr, .inr (3, [.ref mb, .int (nI n2)])), (mb, .inl (cB, 8192, .inl (va_cpy f2 f 0 0 n2))), (mt, .inl (cI, 16, .inl ((tkl (va_cpy f2 f 0 0 n2) n2 (rg (va_cpy f2 f 0 0 n2) n2 4) 16 0 (7 + 4 * (rg (va_cpy f2 f 0 0 n2) n2 3), g)).2))), (h1, .inr (3, [.ref hd, .int (nI n2)])), (hd, .inl (cB, 8192, .inl f2))]) := by
  refine pz_openV (by decide) (Nat.le_of_ble_eq_true rfl) ?_
  intro p e s m below meth c A ls Q X hN hK hP hD hS hA hl fin
  obtain ⟨hx, hb, hml, hown, hts⟩ := id X
  have hl : lv_has ls 4 [(0, .ref m0), (1, .ref h1)] := hl
  refine lv_aload_n hx hb d_Mp_take_0 rfl (lv_at hl 0 rfl) ?_
  refine va_get (D := D) (ci := 2) (v := .ref mr) (C := R_Mp) (T := T_Mp) (N := 10) hx hb hts i_Mp hown hK hP 0 rfl rfl 0 (by decide) (hts _ w_127) (fun _ h9 => h9) rfl d_Mp_take_1 ?_
  refine lv_aload_n hx hb d_Mp_take_4 rfl (lv_at hl 1 rfl) ?_
  refine pz_v (pz_rV (d := 1) (As := [.ref h1]) (rest := []) X hN (c_Rw_copy l D cB cI cS mr mb h1 hd f f2 n n2 hn hf _) k_Rw_copy w_336 ⟨by decide, by decide⟩ hK hP hD [1, 2, 4, 5] rfl rfl 1 rfl rfl rfl rfl hl.1 rfl (Nat.le_of_ble_eq_true rfl) d_Mp_take_5 ⟨Nat.zero_le _, Nat.zero_le _⟩) hP hD hS hA [1, 2, 4, 5] rfl [mr, mb, h1, hd] rfl rfl (fun H locs hP hD hS => ?_)
  have hP : va_P D cls ([(m0, .inr (2, [.ref mr, .ref mt, .int pr, .int mv, .int mx, .int ms, .int mw, .int ma, .int mb_, .int mc_])), (mr, .inr (3, [.ref mb, .int (nI n2)])), (mb, .inl (cB, 8192, .inl (va_cpy f2 f 0 0 n2))), (mt, .inl (cI, 16, .inl g)), (h1, .inr (3, [.ref hd, .int (nI n2)])), (hd, .inl (cB, 8192, .inl f2))]) H := hP
  have hD : va_D A ([(m0, .inr (2, [.ref mr, .ref mt, .int pr, .int mv, .int mx, .int ms, .int mw, .int ma, .int mb_, .int mc_])), (mr, .inr (3, [.ref mb, .int (nI n2)])), (mb, .inl (cB, 8192, .inl (va_cpy f2 f 0 0 n2))), (mt, .inl (cI, 16, .inl g)), (h1, .inr (3, [.ref hd, .int (nI n2)])), (hd, .inl (cB, 8192, .inl f2))]) := hD
  refine lv_aload_n hx hb d_Mp_take_8 rfl (lv_at hl 0 rfl) ?_
  refine lv_iconst (v := 1) hx hb d_Mp_take_9 (by decide) ?_
  refine va_put (D := D) (ci := 2) (v := .int 1) (ty := (.boolean)) (C := R_Mp) (T := T_Mp) (N := 10) hx hb hts i_Mp ty_Mp tyok_Mp nm_Mp hown hK hP hD hS 0 rfl rfl 2 (by decide) (hts _ w_130) (fun _ h9 => h9) rfl (by decide +kernel) rfl rfl (Nat.le_of_ble_eq_true rfl) d_Mp_take_10 (fun H locs hP hD hS => ?_)
  have hP : va_P D cls ([(m0, .inr (2, [.ref mr, .ref mt, .int 1, .int mv, .int mx, .int ms, .int mw, .int ma, .int mb_, .int mc_])), (mr, .inr (3, [.ref mb, .int (nI n2)])), (mb, .inl (cB, 8192, .inl (va_cpy f2 f 0 0 n2))), (mt, .inl (cI, 16, .inl g)), (h1, .inr (3, [.ref hd, .int (nI n2)])), (hd, .inl (cB, 8192, .inl f2))]) H := hP
  have hD : va_D A ([(m0, .inr (2, [.ref mr, .ref mt, .int 1, .int mv, .int mx, .int ms, .int mw, .int ma, .int mb_, .int mc_])), (mr, .inr (3, [.ref mb, .int (nI n2)])), (mb, .inl (cB, 8192, .inl (va_cpy f2 f 0 0 n2))), (mt, .inl (cI, 16, .inl g)), (h1, .inr (3, [.ref hd, .int (nI n2)])), (hd, .inl (cB, 8192, .inl f2))]) := hD
  refine lv_aload_n hx hb d_Mp_take_13 rfl (lv_at hl 0 rfl) ?_
  refine lv_aload_n hx hb d_Mp_take_14 rfl (lv_at hl 0 rfl) ?_
  refine va_get (D := D) (ci := 2) (v := .ref mr) (C := R_Mp) (T := T_Mp) (N := 10) hx hb hts i_Mp hown hK hP 0 rfl rfl 0 (by decide) (hts _ w_127) (fun _ h9 => h9) rfl d_Mp_take_15 ?_
  refine lv_iconst (v := 3) hx hb d_Mp_take_18 (by decide) ?_
  refine pz_i0 (pz_rV (d := 0) (As := [.int 3]) (rest := [.ref m0]) X hN (c_Rw_get l D cB cI cS mr mb (va_cpy f2 f 0 0 n2) n2 3 hn _) k_Rw_get w_343 ⟨by decide, by decide⟩ hK hP hD [1, 2] rfl rfl 1 rfl rfl rfl rfl hl.1 rfl (Nat.le_of_ble_eq_true rfl) d_Mp_take_19 ⟨Nat.zero_le _, Nat.zero_le _⟩) hP hD hS hA [1, 2] rfl (fun H locs hP hS => ?_)
  refine va_put (D := D) (ci := 2) (v := .int (rg (va_cpy f2 f 0 0 n2) n2 3)) (ty := (.int)) (C := R_Mp) (T := T_Mp) (N := 10) hx hb hts i_Mp ty_Mp tyok_Mp nm_Mp hown hK hP hD hS 0 rfl rfl 3 (by decide) (hts _ w_132) (fun _ h9 => h9) rfl (by decide +kernel) rfl rfl (Nat.le_of_ble_eq_true rfl) d_Mp_take_22 (fun H locs hP hD hS => ?_)
  have hP : va_P D cls ([(m0, .inr (2, [.ref mr, .ref mt, .int 1, .int (rg (va_cpy f2 f 0 0 n2) n2 3), .int mx, .int ms, .int mw, .int ma, .int mb_, .int mc_])), (mr, .inr (3, [.ref mb, .int (nI n2)])), (mb, .inl (cB, 8192, .inl (va_cpy f2 f 0 0 n2))), (mt, .inl (cI, 16, .inl g)), (h1, .inr (3, [.ref hd, .int (nI n2)])), (hd, .inl (cB, 8192, .inl f2))]) H := hP
  have hD : va_D A ([(m0, .inr (2, [.ref mr, .ref mt, .int 1, .int (rg (va_cpy f2 f 0 0 n2) n2 3), .int mx, .int ms, .int mw, .int ma, .int mb_, .int mc_])), (mr, .inr (3, [.ref mb, .int (nI n2)])), (mb, .inl (cB, 8192, .inl (va_cpy f2 f 0 0 n2))), (mt, .inl (cI, 16, .inl g)), (h1, .inr (3, [.ref hd, .int (nI n2)])), (hd, .inl (cB, 8192, .inl f2))]) := hD
  refine lv_aload_n hx hb d_Mp_take_25 rfl (lv_at hl 0 rfl) ?_
  refine lv_aload_n hx hb d_Mp_take_26 rfl (lv_at hl 0 rfl) ?_
  refine va_get (D := D) (ci := 2) (v := .ref mr) (C := R_Mp) (T := T_Mp) (N := 10) hx hb hts i_Mp hown hK hP 0 rfl rfl 0 (by decide) (hts _ w_127) (fun _ h9 => h9) rfl d_Mp_take_27 ?_
  refine lv_iconst (v := 4) hx hb d_Mp_take_30 (by decide) ?_
  refine pz_i0 (pz_rV (d := 0) (As := [.int 4]) (rest := [.ref m0]) X hN (c_Rw_get l D cB cI cS mr mb (va_cpy f2 f 0 0 n2) n2 4 hn _) k_Rw_get w_343 ⟨by decide, by decide⟩ hK hP hD [1, 2] rfl rfl 1 rfl rfl rfl rfl hl.1 rfl (Nat.le_of_ble_eq_true rfl) d_Mp_take_31 ⟨Nat.zero_le _, Nat.zero_le _⟩) hP hD hS hA [1, 2] rfl (fun H locs hP hS => ?_)
  refine va_put (D := D) (ci := 2) (v := .int (rg (va_cpy f2 f 0 0 n2) n2 4)) (ty := (.int)) (C := R_Mp) (T := T_Mp) (N := 10) hx hb hts i_Mp ty_Mp tyok_Mp nm_Mp hown hK hP hD hS 0 rfl rfl 4 (by decide) (hts _ w_134) (fun _ h9 => h9) rfl (by decide +kernel) rfl rfl (Nat.le_of_ble_eq_true rfl) d_Mp_take_34 (fun H locs hP hD hS => ?_)
  have hP : va_P D cls ([(m0, .inr (2, [.ref mr, .ref mt, .int 1, .int (rg (va_cpy f2 f 0 0 n2) n2 3), .int (rg (va_cpy f2 f 0 0 n2) n2 4), .int ms, .int mw, .int ma, .int mb_, .int mc_])), (mr, .inr (3, [.ref mb, .int (nI n2)])), (mb, .inl (cB, 8192, .inl (va_cpy f2 f 0 0 n2))), (mt, .inl (cI, 16, .inl g)), (h1, .inr (3, [.ref hd, .int (nI n2)])), (hd, .inl (cB, 8192, .inl f2))]) H := hP
  have hD : va_D A ([(m0, .inr (2, [.ref mr, .ref mt, .int 1, .int (rg (va_cpy f2 f 0 0 n2) n2 3), .int (rg (va_cpy f2 f 0 0 n2) n2 4), .int ms, .int mw, .int ma, .int mb_, .int mc_])), (mr, .inr (3, [.ref mb, .int (nI n2)])), (mb, .inl (cB, 8192, .inl (va_cpy f2 f 0 0 n2))), (mt, .inl (cI, 16, .inl g)), (h1, .inr (3, [.ref hd, .int (nI n2)])), (hd, .inl (cB, 8192, .inl f2))]) := hD
  refine lv_aload_n hx hb d_Mp_take_37 rfl (lv_at hl 0 rfl) ?_
  refine lv_aload_n hx hb d_Mp_take_38 rfl (lv_at hl 0 rfl) ?_
  refine va_get (D := D) (ci := 2) (v := .ref mr) (C := R_Mp) (T := T_Mp) (N := 10) hx hb hts i_Mp hown hK hP 0 rfl rfl 0 (by decide) (hts _ w_127) (fun _ h9 => h9) rfl d_Mp_take_39 ?_
  refine lv_iconst (v := 5) hx hb d_Mp_take_42 (by decide) ?_
  refine pz_i0 (pz_rV (d := 0) (As := [.int 5]) (rest := [.ref m0]) X hN (c_Rw_get l D cB cI cS mr mb (va_cpy f2 f 0 0 n2) n2 5 hn _) k_Rw_get w_343 ⟨by decide, by decide⟩ hK hP hD [1, 2] rfl rfl 1 rfl rfl rfl rfl hl.1 rfl (Nat.le_of_ble_eq_true rfl) d_Mp_take_43 ⟨Nat.zero_le _, Nat.zero_le _⟩) hP hD hS hA [1, 2] rfl (fun H locs hP hS => ?_)
  refine va_put (D := D) (ci := 2) (v := .int (rg (va_cpy f2 f 0 0 n2) n2 5)) (ty := (.int)) (C := R_Mp) (T := T_Mp) (N := 10) hx hb hts i_Mp ty_Mp tyok_Mp nm_Mp hown hK hP hD hS 0 rfl rfl 5 (by decide) (hts _ w_136) (fun _ h9 => h9) rfl (by decide +kernel) rfl rfl (Nat.le_of_ble_eq_true rfl) d_Mp_take_46 (fun H locs hP hD hS => ?_)
  have hP : va_P D cls ([(m0, .inr (2, [.ref mr, .ref mt, .int 1, .int (rg (va_cpy f2 f 0 0 n2) n2 3), .int (rg (va_cpy f2 f 0 0 n2) n2 4), .int (rg (va_cpy f2 f 0 0 n2) n2 5), .int mw, .int ma, .int mb_, .int mc_])), (mr, .inr (3, [.ref mb, .int (nI n2)])), (mb, .inl (cB, 8192, .inl (va_cpy f2 f 0 0 n2))), (mt, .inl (cI, 16, .inl g)), (h1, .inr (3, [.ref hd, .int (nI n2)])), (hd, .inl (cB, 8192, .inl f2))]) H := hP
  have hD : va_D A ([(m0, .inr (2, [.ref mr, .ref mt, .int 1, .int (rg (va_cpy f2 f 0 0 n2) n2 3), .int (rg (va_cpy f2 f 0 0 n2) n2 4), .int (rg (va_cpy f2 f 0 0 n2) n2 5), .int mw, .int ma, .int mb_, .int mc_])), (mr, .inr (3, [.ref mb, .int (nI n2)])), (mb, .inl (cB, 8192, .inl (va_cpy f2 f 0 0 n2))), (mt, .inl (cI, 16, .inl g)), (h1, .inr (3, [.ref hd, .int (nI n2)])), (hd, .inl (cB, 8192, .inl f2))]) := hD
  refine lv_aload_n hx hb d_Mp_take_49 rfl (lv_at hl 0 rfl) ?_
  refine lv_aload_n hx hb d_Mp_take_50 rfl (lv_at hl 0 rfl) ?_
  refine va_get (D := D) (ci := 2) (v := .ref mr) (C := R_Mp) (T := T_Mp) (N := 10) hx hb hts i_Mp hown hK hP 0 rfl rfl 0 (by decide) (hts _ w_127) (fun _ h9 => h9) rfl d_Mp_take_51 ?_
  refine lv_bipush (v := 6) hx hb d_Mp_take_54 (by decide) ?_
  refine pz_i0 (pz_rV (d := 0) (As := [.int 6]) (rest := [.ref m0]) X hN (c_Rw_get l D cB cI cS mr mb (va_cpy f2 f 0 0 n2) n2 6 hn _) k_Rw_get w_343 ⟨by decide, by decide⟩ hK hP hD [1, 2] rfl rfl 1 rfl rfl rfl rfl hl.1 rfl (Nat.le_of_ble_eq_true rfl) d_Mp_take_56 ⟨Nat.zero_le _, Nat.zero_le _⟩) hP hD hS hA [1, 2] rfl (fun H locs hP hS => ?_)
  refine va_put (D := D) (ci := 2) (v := .int (rg (va_cpy f2 f 0 0 n2) n2 6)) (ty := (.int)) (C := R_Mp) (T := T_Mp) (N := 10) hx hb hts i_Mp ty_Mp tyok_Mp nm_Mp hown hK hP hD hS 0 rfl rfl 6 (by decide) (hts _ w_138) (fun _ h9 => h9) rfl (by decide +kernel) rfl rfl (Nat.le_of_ble_eq_true rfl) d_Mp_take_59 (fun H locs hP hD hS => ?_)
  have hP : va_P D cls ([(m0, .inr (2, [.ref mr, .ref mt, .int 1, .int (rg (va_cpy f2 f 0 0 n2) n2 3), .int (rg (va_cpy f2 f 0 0 n2) n2 4), .int (rg (va_cpy f2 f 0 0 n2) n2 5), .int (rg (va_cpy f2 f 0 0 n2) n2 6), .int ma, .int mb_, .int mc_])), (mr, .inr (3, [.ref mb, .int (nI n2)])), (mb, .inl (cB, 8192, .inl (va_cpy f2 f 0 0 n2))), (mt, .inl (cI, 16, .inl g)), (h1, .inr (3, [.ref hd, .int (nI n2)])), (hd, .inl (cB, 8192, .inl f2))]) H := hP
  have hD : va_D A ([(m0, .inr (2, [.ref mr, .ref mt, .int 1, .int (rg (va_cpy f2 f 0 0 n2) n2 3), .int (rg (va_cpy f2 f 0 0 n2) n2 4), .int (rg (va_cpy f2 f 0 0 n2) n2 5), .int (rg (va_cpy f2 f 0 0 n2) n2 6), .int ma, .int mb_, .int mc_])), (mr, .inr (3, [.ref mb, .int (nI n2)])), (mb, .inl (cB, 8192, .inl (va_cpy f2 f 0 0 n2))), (mt, .inl (cI, 16, .inl g)), (h1, .inr (3, [.ref hd, .int (nI n2)])), (hd, .inl (cB, 8192, .inl f2))]) := hD
  refine lv_bipush (v := 7) hx hb d_Mp_take_62 (by decide) ?_
  refine lv_iconst (v := 4) hx hb d_Mp_take_64 (by decide) ?_
  refine lv_aload_n hx hb d_Mp_take_65 rfl (lv_at hl 0 rfl) ?_
  refine va_get (D := D) (ci := 2) (v := .int (rg (va_cpy f2 f 0 0 n2) n2 3)) (C := R_Mp) (T := T_Mp) (N := 10) hx hb hts i_Mp hown hK hP 0 rfl rfl 3 (by decide) (hts _ w_132) (fun _ h9 => h9) rfl d_Mp_take_66 ?_
  refine lv_imul hx hb d_Mp_take_69 ?_
  refine lv_iadd hx hb d_Mp_take_70 ?_
  refine lv_istore_n (lv' := [(2, .int (7 + (4 * (rg (va_cpy f2 f 0 0 n2) n2 3)))), (0, .ref m0), (1, .ref h1)]) hx hb d_Mp_take_71 rfl hl (by decide) rfl (fun ls hl => ?_)
  refine lv_iconst (v := 0) hx hb d_Mp_take_72 (by decide) ?_
  refine lv_istore_n (lv' := [(3, .int 0), (2, .int (7 + (4 * (rg (va_cpy f2 f 0 0 n2) n2 3)))), (0, .ref m0), (1, .ref h1)]) hx hb d_Mp_take_73 rfl hl (by decide) rfl (fun ls hl => ?_)
  have lp_2 : ∀ (j2 : Nat) (k : Nat) (z : SG) (ls : Array Slot) (H : Heap) (locs : List Loc), j2 + k = 16 → tkl (va_cpy f2 f 0 0 n2) n2 (rg (va_cpy f2 f 0 0 n2) n2 4) 16 0 (7 + 4 * (rg (va_cpy f2 f 0 0 n2) n2 3), g) = tkl (va_cpy f2 f 0 0 n2) n2 (rg (va_cpy f2 f 0 0 n2) n2 4) j2 k z → va_P D cls ([(m0, .inr (2, [.ref mr, .ref mt, .int 1, .int (rg (va_cpy f2 f 0 0 n2) n2 3), .int (rg (va_cpy f2 f 0 0 n2) n2 4), .int (rg (va_cpy f2 f 0 0 n2) n2 5), .int (rg (va_cpy f2 f 0 0 n2) n2 6), .int ma, .int mb_, .int mc_])), (mr, .inr (3, [.ref mb, .int (nI n2)])), (mb, .inl (cB, 8192, .inl (va_cpy f2 f 0 0 n2))), (mt, .inl (cI, 16, .inl z.2)), (h1, .inr (3, [.ref hd, .int (nI n2)])), (hd, .inl (cB, 8192, .inl f2))]) H → va_D A ([(m0, .inr (2, [.ref mr, .ref mt, .int 1, .int (rg (va_cpy f2 f 0 0 n2) n2 3), .int (rg (va_cpy f2 f 0 0 n2) n2 4), .int (rg (va_cpy f2 f 0 0 n2) n2 5), .int (rg (va_cpy f2 f 0 0 n2) n2 6), .int ma, .int mb_, .int mc_])), (mr, .inr (3, [.ref mb, .int (nI n2)])), (mb, .inl (cB, 8192, .inl (va_cpy f2 f 0 0 n2))), (mt, .inl (cI, 16, .inl z.2)), (h1, .inr (3, [.ref hd, .int (nI n2)])), (hd, .inl (cB, 8192, .inl f2))]) → va_S A s.heap H locs → lv_has ls 4 [(0, .ref m0), (1, .ref h1), (2, .int z.1), (3, .int (nI k))] → W p l e (rmd 2) s m ([.ref m0, .ref h1] : List Value).toArray below meth c H locs 0 0 Q (F0 m 74 ls []) := by
    intro j2
    induction j2 with
    | zero =>
      intro k z ls H locs hi he hP hD hS hl
      refine lv_iload_n hx hb d_Mp_take_74 rfl (lv_at hl 3 rfl) ?_
      refine lv_aload_n hx hb d_Mp_take_75 rfl (lv_at hl 0 rfl) ?_
      refine va_get (D := D) (ci := 2) (v := .int (rg (va_cpy f2 f 0 0 n2) n2 4)) (C := R_Mp) (T := T_Mp) (N := 10) hx hb hts i_Mp hown hK hP 0 rfl rfl 4 (by decide) (hts _ w_134) (fun _ h9 => h9) rfl d_Mp_take_76 ?_
      refine lv_icmp_ge (tgt := 120) hx hb d_Mp_take_79 (by decide) (fun c_1 => ?_) (fun c_1 => ?_)
      · refine lv_aload_n hx hb d_Mp_take_120 rfl (lv_at hl 0 rfl) ?_
        refine lv_iload_n hx hb d_Mp_take_121 rfl (lv_at hl 2 rfl) ?_
        refine va_put (D := D) (ci := 2) (v := .int z.1) (ty := (.int)) (C := R_Mp) (T := T_Mp) (N := 10) hx hb hts i_Mp ty_Mp tyok_Mp nm_Mp hown hK hP hD hS 0 rfl rfl 7 (by decide) (hts _ w_140) (fun _ h9 => h9) rfl (by decide +kernel) rfl rfl (Nat.le_of_ble_eq_true rfl) d_Mp_take_122 (fun H locs hP hD hS => ?_)
        have hP : va_P D cls ([(m0, .inr (2, [.ref mr, .ref mt, .int 1, .int (rg (va_cpy f2 f 0 0 n2) n2 3), .int (rg (va_cpy f2 f 0 0 n2) n2 4), .int (rg (va_cpy f2 f 0 0 n2) n2 5), .int (rg (va_cpy f2 f 0 0 n2) n2 6), .int z.1, .int mb_, .int mc_])), (mr, .inr (3, [.ref mb, .int (nI n2)])), (mb, .inl (cB, 8192, .inl (va_cpy f2 f 0 0 n2))), (mt, .inl (cI, 16, .inl z.2)), (h1, .inr (3, [.ref hd, .int (nI n2)])), (hd, .inl (cB, 8192, .inl f2))]) H := hP
        have hD : va_D A ([(m0, .inr (2, [.ref mr, .ref mt, .int 1, .int (rg (va_cpy f2 f 0 0 n2) n2 3), .int (rg (va_cpy f2 f 0 0 n2) n2 4), .int (rg (va_cpy f2 f 0 0 n2) n2 5), .int (rg (va_cpy f2 f 0 0 n2) n2 6), .int z.1, .int mb_, .int mc_])), (mr, .inr (3, [.ref mb, .int (nI n2)])), (mb, .inl (cB, 8192, .inl (va_cpy f2 f 0 0 n2))), (mt, .inl (cI, 16, .inl z.2)), (h1, .inr (3, [.ref hd, .int (nI n2)])), (hd, .inl (cB, 8192, .inl f2))]) := hD
        refine lv_aload_n hx hb d_Mp_take_125 rfl (lv_at hl 0 rfl) ?_
        refine lv_aload_n hx hb d_Mp_take_126 rfl (lv_at hl 0 rfl) ?_
        refine va_get (D := D) (ci := 2) (v := .int z.1) (C := R_Mp) (T := T_Mp) (N := 10) hx hb hts i_Mp hown hK hP 0 rfl rfl 7 (by decide) (hts _ w_140) (fun _ h9 => h9) rfl d_Mp_take_127 ?_
        refine lv_bipush (v := 9) hx hb d_Mp_take_130 (by decide) ?_
        refine lv_aload_n hx hb d_Mp_take_132 rfl (lv_at hl 0 rfl) ?_
        refine va_get (D := D) (ci := 2) (v := .int (rg (va_cpy f2 f 0 0 n2) n2 5)) (C := R_Mp) (T := T_Mp) (N := 10) hx hb hts i_Mp hown hK hP 0 rfl rfl 5 (by decide) (hts _ w_136) (fun _ h9 => h9) rfl d_Mp_take_133 ?_
        refine lv_imul hx hb d_Mp_take_136 ?_
        refine lv_iadd hx hb d_Mp_take_137 ?_
        refine va_put (D := D) (ci := 2) (v := .int (z.1 + (9 * (rg (va_cpy f2 f 0 0 n2) n2 5)))) (ty := (.int)) (C := R_Mp) (T := T_Mp) (N := 10) hx hb hts i_Mp ty_Mp tyok_Mp nm_Mp hown hK hP hD hS 0 rfl rfl 8 (by decide) (hts _ w_142) (fun _ h9 => h9) rfl (by decide +kernel) rfl rfl (Nat.le_of_ble_eq_true rfl) d_Mp_take_138 (fun H locs hP hD hS => ?_)
        have hP : va_P D cls ([(m0, .inr (2, [.ref mr, .ref mt, .int 1, .int (rg (va_cpy f2 f 0 0 n2) n2 3), .int (rg (va_cpy f2 f 0 0 n2) n2 4), .int (rg (va_cpy f2 f 0 0 n2) n2 5), .int (rg (va_cpy f2 f 0 0 n2) n2 6), .int z.1, .int (z.1 + (9 * (rg (va_cpy f2 f 0 0 n2) n2 5))), .int mc_])), (mr, .inr (3, [.ref mb, .int (nI n2)])), (mb, .inl (cB, 8192, .inl (va_cpy f2 f 0 0 n2))), (mt, .inl (cI, 16, .inl z.2)), (h1, .inr (3, [.ref hd, .int (nI n2)])), (hd, .inl (cB, 8192, .inl f2))]) H := hP
        have hD : va_D A ([(m0, .inr (2, [.ref mr, .ref mt, .int 1, .int (rg (va_cpy f2 f 0 0 n2) n2 3), .int (rg (va_cpy f2 f 0 0 n2) n2 4), .int (rg (va_cpy f2 f 0 0 n2) n2 5), .int (rg (va_cpy f2 f 0 0 n2) n2 6), .int z.1, .int (z.1 + (9 * (rg (va_cpy f2 f 0 0 n2) n2 5))), .int mc_])), (mr, .inr (3, [.ref mb, .int (nI n2)])), (mb, .inl (cB, 8192, .inl (va_cpy f2 f 0 0 n2))), (mt, .inl (cI, 16, .inl z.2)), (h1, .inr (3, [.ref hd, .int (nI n2)])), (hd, .inl (cB, 8192, .inl f2))]) := hD
        refine lv_aload_n hx hb d_Mp_take_141 rfl (lv_at hl 0 rfl) ?_
        refine lv_aload_n hx hb d_Mp_take_142 rfl (lv_at hl 0 rfl) ?_
        refine va_get (D := D) (ci := 2) (v := .int (z.1 + (9 * (rg (va_cpy f2 f 0 0 n2) n2 5)))) (C := R_Mp) (T := T_Mp) (N := 10) hx hb hts i_Mp hown hK hP 0 rfl rfl 8 (by decide) (hts _ w_142) (fun _ h9 => h9) rfl d_Mp_take_143 ?_
        refine lv_bipush (v := 14) hx hb d_Mp_take_146 (by decide) ?_
        refine lv_aload_n hx hb d_Mp_take_148 rfl (lv_at hl 0 rfl) ?_
        refine va_get (D := D) (ci := 2) (v := .int (rg (va_cpy f2 f 0 0 n2) n2 6)) (C := R_Mp) (T := T_Mp) (N := 10) hx hb hts i_Mp hown hK hP 0 rfl rfl 6 (by decide) (hts _ w_138) (fun _ h9 => h9) rfl d_Mp_take_149 ?_
        refine lv_imul hx hb d_Mp_take_152 ?_
        refine lv_iadd hx hb d_Mp_take_153 ?_
        refine va_put (D := D) (ci := 2) (v := .int ((z.1 + (9 * (rg (va_cpy f2 f 0 0 n2) n2 5))) + (14 * (rg (va_cpy f2 f 0 0 n2) n2 6)))) (ty := (.int)) (C := R_Mp) (T := T_Mp) (N := 10) hx hb hts i_Mp ty_Mp tyok_Mp nm_Mp hown hK hP hD hS 0 rfl rfl 9 (by decide) (hts _ w_144) (fun _ h9 => h9) rfl (by decide +kernel) rfl rfl (Nat.le_of_ble_eq_true rfl) d_Mp_take_154 (fun H locs hP hD hS => ?_)
        have hP : va_P D cls ([(m0, .inr (2, [.ref mr, .ref mt, .int 1, .int (rg (va_cpy f2 f 0 0 n2) n2 3), .int (rg (va_cpy f2 f 0 0 n2) n2 4), .int (rg (va_cpy f2 f 0 0 n2) n2 5), .int (rg (va_cpy f2 f 0 0 n2) n2 6), .int z.1, .int (z.1 + (9 * (rg (va_cpy f2 f 0 0 n2) n2 5))), .int ((z.1 + (9 * (rg (va_cpy f2 f 0 0 n2) n2 5))) + (14 * (rg (va_cpy f2 f 0 0 n2) n2 6)))])), (mr, .inr (3, [.ref mb, .int (nI n2)])), (mb, .inl (cB, 8192, .inl (va_cpy f2 f 0 0 n2))), (mt, .inl (cI, 16, .inl z.2)), (h1, .inr (3, [.ref hd, .int (nI n2)])), (hd, .inl (cB, 8192, .inl f2))]) H := hP
        have hD : va_D A ([(m0, .inr (2, [.ref mr, .ref mt, .int 1, .int (rg (va_cpy f2 f 0 0 n2) n2 3), .int (rg (va_cpy f2 f 0 0 n2) n2 4), .int (rg (va_cpy f2 f 0 0 n2) n2 5), .int (rg (va_cpy f2 f 0 0 n2) n2 6), .int z.1, .int (z.1 + (9 * (rg (va_cpy f2 f 0 0 n2) n2 5))), .int ((z.1 + (9 * (rg (va_cpy f2 f 0 0 n2) n2 5))) + (14 * (rg (va_cpy f2 f 0 0 n2) n2 6)))])), (mr, .inr (3, [.ref mb, .int (nI n2)])), (mb, .inl (cB, 8192, .inl (va_cpy f2 f 0 0 n2))), (mt, .inl (cI, 16, .inl z.2)), (h1, .inr (3, [.ref hd, .int (nI n2)])), (hd, .inl (cB, 8192, .inl f2))]) := hD
        exact fin _ _ _ _ _ d_Mp_take_157 hP hS (by rw [he]; simp only [tkl, if_pos c_1])
      · refine lv_iload_n hx hb d_Mp_take_82 rfl (lv_at hl 3 rfl) ?_
        refine lv_aload_n hx hb d_Mp_take_83 rfl (lv_at hl 0 rfl) ?_
        refine va_get (D := D) (ci := 2) (v := .ref mt) (C := R_Mp) (T := T_Mp) (N := 10) hx hb hts i_Mp hown hK hP 0 rfl rfl 1 (by decide) (hts _ w_129) (fun _ h9 => h9) rfl d_Mp_take_84 ?_
        refine va_alen hx hb hK hP 3 1 rfl rfl (v := 16) rfl d_Mp_take_87 ?_
        refine lv_icmp_ge (tgt := 120) hx hb d_Mp_take_88 (by decide) (fun c_2 => ?_) (fun c_2 => ?_)
        · refine lv_aload_n hx hb d_Mp_take_120 rfl (lv_at hl 0 rfl) ?_
          refine lv_iload_n hx hb d_Mp_take_121 rfl (lv_at hl 2 rfl) ?_
          refine va_put (D := D) (ci := 2) (v := .int z.1) (ty := (.int)) (C := R_Mp) (T := T_Mp) (N := 10) hx hb hts i_Mp ty_Mp tyok_Mp nm_Mp hown hK hP hD hS 0 rfl rfl 7 (by decide) (hts _ w_140) (fun _ h9 => h9) rfl (by decide +kernel) rfl rfl (Nat.le_of_ble_eq_true rfl) d_Mp_take_122 (fun H locs hP hD hS => ?_)
          have hP : va_P D cls ([(m0, .inr (2, [.ref mr, .ref mt, .int 1, .int (rg (va_cpy f2 f 0 0 n2) n2 3), .int (rg (va_cpy f2 f 0 0 n2) n2 4), .int (rg (va_cpy f2 f 0 0 n2) n2 5), .int (rg (va_cpy f2 f 0 0 n2) n2 6), .int z.1, .int mb_, .int mc_])), (mr, .inr (3, [.ref mb, .int (nI n2)])), (mb, .inl (cB, 8192, .inl (va_cpy f2 f 0 0 n2))), (mt, .inl (cI, 16, .inl z.2)), (h1, .inr (3, [.ref hd, .int (nI n2)])), (hd, .inl (cB, 8192, .inl f2))]) H := hP
          have hD : va_D A ([(m0, .inr (2, [.ref mr, .ref mt, .int 1, .int (rg (va_cpy f2 f 0 0 n2) n2 3), .int (rg (va_cpy f2 f 0 0 n2) n2 4), .int (rg (va_cpy f2 f 0 0 n2) n2 5), .int (rg (va_cpy f2 f 0 0 n2) n2 6), .int z.1, .int mb_, .int mc_])), (mr, .inr (3, [.ref mb, .int (nI n2)])), (mb, .inl (cB, 8192, .inl (va_cpy f2 f 0 0 n2))), (mt, .inl (cI, 16, .inl z.2)), (h1, .inr (3, [.ref hd, .int (nI n2)])), (hd, .inl (cB, 8192, .inl f2))]) := hD
          refine lv_aload_n hx hb d_Mp_take_125 rfl (lv_at hl 0 rfl) ?_
          refine lv_aload_n hx hb d_Mp_take_126 rfl (lv_at hl 0 rfl) ?_
          refine va_get (D := D) (ci := 2) (v := .int z.1) (C := R_Mp) (T := T_Mp) (N := 10) hx hb hts i_Mp hown hK hP 0 rfl rfl 7 (by decide) (hts _ w_140) (fun _ h9 => h9) rfl d_Mp_take_127 ?_
          refine lv_bipush (v := 9) hx hb d_Mp_take_130 (by decide) ?_
          refine lv_aload_n hx hb d_Mp_take_132 rfl (lv_at hl 0 rfl) ?_
          refine va_get (D := D) (ci := 2) (v := .int (rg (va_cpy f2 f 0 0 n2) n2 5)) (C := R_Mp) (T := T_Mp) (N := 10) hx hb hts i_Mp hown hK hP 0 rfl rfl 5 (by decide) (hts _ w_136) (fun _ h9 => h9) rfl d_Mp_take_133 ?_
          refine lv_imul hx hb d_Mp_take_136 ?_
          refine lv_iadd hx hb d_Mp_take_137 ?_
          refine va_put (D := D) (ci := 2) (v := .int (z.1 + (9 * (rg (va_cpy f2 f 0 0 n2) n2 5)))) (ty := (.int)) (C := R_Mp) (T := T_Mp) (N := 10) hx hb hts i_Mp ty_Mp tyok_Mp nm_Mp hown hK hP hD hS 0 rfl rfl 8 (by decide) (hts _ w_142) (fun _ h9 => h9) rfl (by decide +kernel) rfl rfl (Nat.le_of_ble_eq_true rfl) d_Mp_take_138 (fun H locs hP hD hS => ?_)
          have hP : va_P D cls ([(m0, .inr (2, [.ref mr, .ref mt, .int 1, .int (rg (va_cpy f2 f 0 0 n2) n2 3), .int (rg (va_cpy f2 f 0 0 n2) n2 4), .int (rg (va_cpy f2 f 0 0 n2) n2 5), .int (rg (va_cpy f2 f 0 0 n2) n2 6), .int z.1, .int (z.1 + (9 * (rg (va_cpy f2 f 0 0 n2) n2 5))), .int mc_])), (mr, .inr (3, [.ref mb, .int (nI n2)])), (mb, .inl (cB, 8192, .inl (va_cpy f2 f 0 0 n2))), (mt, .inl (cI, 16, .inl z.2)), (h1, .inr (3, [.ref hd, .int (nI n2)])), (hd, .inl (cB, 8192, .inl f2))]) H := hP
          have hD : va_D A ([(m0, .inr (2, [.ref mr, .ref mt, .int 1, .int (rg (va_cpy f2 f 0 0 n2) n2 3), .int (rg (va_cpy f2 f 0 0 n2) n2 4), .int (rg (va_cpy f2 f 0 0 n2) n2 5), .int (rg (va_cpy f2 f 0 0 n2) n2 6), .int z.1, .int (z.1 + (9 * (rg (va_cpy f2 f 0 0 n2) n2 5))), .int mc_])), (mr, .inr (3, [.ref mb, .int (nI n2)])), (mb, .inl (cB, 8192, .inl (va_cpy f2 f 0 0 n2))), (mt, .inl (cI, 16, .inl z.2)), (h1, .inr (3, [.ref hd, .int (nI n2)])), (hd, .inl (cB, 8192, .inl f2))]) := hD
          refine lv_aload_n hx hb d_Mp_take_141 rfl (lv_at hl 0 rfl) ?_
          refine lv_aload_n hx hb d_Mp_take_142 rfl (lv_at hl 0 rfl) ?_
          refine va_get (D := D) (ci := 2) (v := .int (z.1 + (9 * (rg (va_cpy f2 f 0 0 n2) n2 5)))) (C := R_Mp) (T := T_Mp) (N := 10) hx hb hts i_Mp hown hK hP 0 rfl rfl 8 (by decide) (hts _ w_142) (fun _ h9 => h9) rfl d_Mp_take_143 ?_
          refine lv_bipush (v := 14) hx hb d_Mp_take_146 (by decide) ?_
          refine lv_aload_n hx hb d_Mp_take_148 rfl (lv_at hl 0 rfl) ?_
          refine va_get (D := D) (ci := 2) (v := .int (rg (va_cpy f2 f 0 0 n2) n2 6)) (C := R_Mp) (T := T_Mp) (N := 10) hx hb hts i_Mp hown hK hP 0 rfl rfl 6 (by decide) (hts _ w_138) (fun _ h9 => h9) rfl d_Mp_take_149 ?_
          refine lv_imul hx hb d_Mp_take_152 ?_
          refine lv_iadd hx hb d_Mp_take_153 ?_
          refine va_put (D := D) (ci := 2) (v := .int ((z.1 + (9 * (rg (va_cpy f2 f 0 0 n2) n2 5))) + (14 * (rg (va_cpy f2 f 0 0 n2) n2 6)))) (ty := (.int)) (C := R_Mp) (T := T_Mp) (N := 10) hx hb hts i_Mp ty_Mp tyok_Mp nm_Mp hown hK hP hD hS 0 rfl rfl 9 (by decide) (hts _ w_144) (fun _ h9 => h9) rfl (by decide +kernel) rfl rfl (Nat.le_of_ble_eq_true rfl) d_Mp_take_154 (fun H locs hP hD hS => ?_)
          have hP : va_P D cls ([(m0, .inr (2, [.ref mr, .ref mt, .int 1, .int (rg (va_cpy f2 f 0 0 n2) n2 3), .int (rg (va_cpy f2 f 0 0 n2) n2 4), .int (rg (va_cpy f2 f 0 0 n2) n2 5), .int (rg (va_cpy f2 f 0 0 n2) n2 6), .int z.1, .int (z.1 + (9 * (rg (va_cpy f2 f 0 0 n2) n2 5))), .int ((z.1 + (9 * (rg (va_cpy f2 f 0 0 n2) n2 5))) + (14 * (rg (va_cpy f2 f 0 0 n2) n2 6)))])), (mr, .inr (3, [.ref mb, .int (nI n2)])), (mb, .inl (cB, 8192, .inl (va_cpy f2 f 0 0 n2))), (mt, .inl (cI, 16, .inl z.2)), (h1, .inr (3, [.ref hd, .int (nI n2)])), (hd, .inl (cB, 8192, .inl f2))]) H := hP
          have hD : va_D A ([(m0, .inr (2, [.ref mr, .ref mt, .int 1, .int (rg (va_cpy f2 f 0 0 n2) n2 3), .int (rg (va_cpy f2 f 0 0 n2) n2 4), .int (rg (va_cpy f2 f 0 0 n2) n2 5), .int (rg (va_cpy f2 f 0 0 n2) n2 6), .int z.1, .int (z.1 + (9 * (rg (va_cpy f2 f 0 0 n2) n2 5))), .int ((z.1 + (9 * (rg (va_cpy f2 f 0 0 n2) n2 5))) + (14 * (rg (va_cpy f2 f 0 0 n2) n2 6)))])), (mr, .inr (3, [.ref mb, .int (nI n2)])), (mb, .inl (cB, 8192, .inl (va_cpy f2 f 0 0 n2))), (mt, .inl (cI, 16, .inl z.2)), (h1, .inr (3, [.ref hd, .int (nI n2)])), (hd, .inl (cB, 8192, .inl f2))]) := hD
          exact fin _ _ _ _ _ d_Mp_take_157 hP hS (by rw [he]; simp only [tkl, if_neg c_1, if_pos c_2])
        · exact (c_2 (show nI 16 ≤ nI k by rw [nI_leI (by omega) (by omega)]; omega)).elim
    | succ j2 ih2 =>
      intro k z ls H locs hi he hP hD hS hl
      refine lv_iload_n hx hb d_Mp_take_74 rfl (lv_at hl 3 rfl) ?_
      refine lv_aload_n hx hb d_Mp_take_75 rfl (lv_at hl 0 rfl) ?_
      refine va_get (D := D) (ci := 2) (v := .int (rg (va_cpy f2 f 0 0 n2) n2 4)) (C := R_Mp) (T := T_Mp) (N := 10) hx hb hts i_Mp hown hK hP 0 rfl rfl 4 (by decide) (hts _ w_134) (fun _ h9 => h9) rfl d_Mp_take_76 ?_
      refine lv_icmp_ge (tgt := 120) hx hb d_Mp_take_79 (by decide) (fun c_3 => ?_) (fun c_3 => ?_)
      · refine lv_aload_n hx hb d_Mp_take_120 rfl (lv_at hl 0 rfl) ?_
        refine lv_iload_n hx hb d_Mp_take_121 rfl (lv_at hl 2 rfl) ?_
        refine va_put (D := D) (ci := 2) (v := .int z.1) (ty := (.int)) (C := R_Mp) (T := T_Mp) (N := 10) hx hb hts i_Mp ty_Mp tyok_Mp nm_Mp hown hK hP hD hS 0 rfl rfl 7 (by decide) (hts _ w_140) (fun _ h9 => h9) rfl (by decide +kernel) rfl rfl (Nat.le_of_ble_eq_true rfl) d_Mp_take_122 (fun H locs hP hD hS => ?_)
        have hP : va_P D cls ([(m0, .inr (2, [.ref mr, .ref mt, .int 1, .int (rg (va_cpy f2 f 0 0 n2) n2 3), .int (rg (va_cpy f2 f 0 0 n2) n2 4), .int (rg (va_cpy f2 f 0 0 n2) n2 5), .int (rg (va_cpy f2 f 0 0 n2) n2 6), .int z.1, .int mb_, .int mc_])), (mr, .inr (3, [.ref mb, .int (nI n2)])), (mb, .inl (cB, 8192, .inl (va_cpy f2 f 0 0 n2))), (mt, .inl (cI, 16, .inl z.2)), (h1, .inr (3, [.ref hd, .int (nI n2)])), (hd, .inl (cB, 8192, .inl f2))]) H := hP
        have hD : va_D A ([(m0, .inr (2, [.ref mr, .ref mt, .int 1, .int (rg (va_cpy f2 f 0 0 n2) n2 3), .int (rg (va_cpy f2 f 0 0 n2) n2 4), .int (rg (va_cpy f2 f 0 0 n2) n2 5), .int (rg (va_cpy f2 f 0 0 n2) n2 6), .int z.1, .int mb_, .int mc_])), (mr, .inr (3, [.ref mb, .int (nI n2)])), (mb, .inl (cB, 8192, .inl (va_cpy f2 f 0 0 n2))), (mt, .inl (cI, 16, .inl z.2)), (h1, .inr (3, [.ref hd, .int (nI n2)])), (hd, .inl (cB, 8192, .inl f2))]) := hD
        refine lv_aload_n hx hb d_Mp_take_125 rfl (lv_at hl 0 rfl) ?_
        refine lv_aload_n hx hb d_Mp_take_126 rfl (lv_at hl 0 rfl) ?_
        refine va_get (D := D) (ci := 2) (v := .int z.1) (C := R_Mp) (T := T_Mp) (N := 10) hx hb hts i_Mp hown hK hP 0 rfl rfl 7 (by decide) (hts _ w_140) (fun _ h9 => h9) rfl d_Mp_take_127 ?_
        refine lv_bipush (v := 9) hx hb d_Mp_take_130 (by decide) ?_
        refine lv_aload_n hx hb d_Mp_take_132 rfl (lv_at hl 0 rfl) ?_
        refine va_get (D := D) (ci := 2) (v := .int (rg (va_cpy f2 f 0 0 n2) n2 5)) (C := R_Mp) (T := T_Mp) (N := 10) hx hb hts i_Mp hown hK hP 0 rfl rfl 5 (by decide) (hts _ w_136) (fun _ h9 => h9) rfl d_Mp_take_133 ?_
        refine lv_imul hx hb d_Mp_take_136 ?_
        refine lv_iadd hx hb d_Mp_take_137 ?_
        refine va_put (D := D) (ci := 2) (v := .int (z.1 + (9 * (rg (va_cpy f2 f 0 0 n2) n2 5)))) (ty := (.int)) (C := R_Mp) (T := T_Mp) (N := 10) hx hb hts i_Mp ty_Mp tyok_Mp nm_Mp hown hK hP hD hS 0 rfl rfl 8 (by decide) (hts _ w_142) (fun _ h9 => h9) rfl (by decide +kernel) rfl rfl (Nat.le_of_ble_eq_true rfl) d_Mp_take_138 (fun H locs hP hD hS => ?_)
        have hP : va_P D cls ([(m0, .inr (2, [.ref mr, .ref mt, .int 1, .int (rg (va_cpy f2 f 0 0 n2) n2 3), .int (rg (va_cpy f2 f 0 0 n2) n2 4), .int (rg (va_cpy f2 f 0 0 n2) n2 5), .int (rg (va_cpy f2 f 0 0 n2) n2 6), .int z.1, .int (z.1 + (9 * (rg (va_cpy f2 f 0 0 n2) n2 5))), .int mc_])), (mr, .inr (3, [.ref mb, .int (nI n2)])), (mb, .inl (cB, 8192, .inl (va_cpy f2 f 0 0 n2))), (mt, .inl (cI, 16, .inl z.2)), (h1, .inr (3, [.ref hd, .int (nI n2)])), (hd, .inl (cB, 8192, .inl f2))]) H := hP
        have hD : va_D A ([(m0, .inr (2, [.ref mr, .ref mt, .int 1, .int (rg (va_cpy f2 f 0 0 n2) n2 3), .int (rg (va_cpy f2 f 0 0 n2) n2 4), .int (rg (va_cpy f2 f 0 0 n2) n2 5), .int (rg (va_cpy f2 f 0 0 n2) n2 6), .int z.1, .int (z.1 + (9 * (rg (va_cpy f2 f 0 0 n2) n2 5))), .int mc_])), (mr, .inr (3, [.ref mb, .int (nI n2)])), (mb, .inl (cB, 8192, .inl (va_cpy f2 f 0 0 n2))), (mt, .inl (cI, 16, .inl z.2)), (h1, .inr (3, [.ref hd, .int (nI n2)])), (hd, .inl (cB, 8192, .inl f2))]) := hD
        refine lv_aload_n hx hb d_Mp_take_141 rfl (lv_at hl 0 rfl) ?_
        refine lv_aload_n hx hb d_Mp_take_142 rfl (lv_at hl 0 rfl) ?_
        refine va_get (D := D) (ci := 2) (v := .int (z.1 + (9 * (rg (va_cpy f2 f 0 0 n2) n2 5)))) (C := R_Mp) (T := T_Mp) (N := 10) hx hb hts i_Mp hown hK hP 0 rfl rfl 8 (by decide) (hts _ w_142) (fun _ h9 => h9) rfl d_Mp_take_143 ?_
        refine lv_bipush (v := 14) hx hb d_Mp_take_146 (by decide) ?_
        refine lv_aload_n hx hb d_Mp_take_148 rfl (lv_at hl 0 rfl) ?_
        refine va_get (D := D) (ci := 2) (v := .int (rg (va_cpy f2 f 0 0 n2) n2 6)) (C := R_Mp) (T := T_Mp) (N := 10) hx hb hts i_Mp hown hK hP 0 rfl rfl 6 (by decide) (hts _ w_138) (fun _ h9 => h9) rfl d_Mp_take_149 ?_
        refine lv_imul hx hb d_Mp_take_152 ?_
        refine lv_iadd hx hb d_Mp_take_153 ?_
        refine va_put (D := D) (ci := 2) (v := .int ((z.1 + (9 * (rg (va_cpy f2 f 0 0 n2) n2 5))) + (14 * (rg (va_cpy f2 f 0 0 n2) n2 6)))) (ty := (.int)) (C := R_Mp) (T := T_Mp) (N := 10) hx hb hts i_Mp ty_Mp tyok_Mp nm_Mp hown hK hP hD hS 0 rfl rfl 9 (by decide) (hts _ w_144) (fun _ h9 => h9) rfl (by decide +kernel) rfl rfl (Nat.le_of_ble_eq_true rfl) d_Mp_take_154 (fun H locs hP hD hS => ?_)
        have hP : va_P D cls ([(m0, .inr (2, [.ref mr, .ref mt, .int 1, .int (rg (va_cpy f2 f 0 0 n2) n2 3), .int (rg (va_cpy f2 f 0 0 n2) n2 4), .int (rg (va_cpy f2 f 0 0 n2) n2 5), .int (rg (va_cpy f2 f 0 0 n2) n2 6), .int z.1, .int (z.1 + (9 * (rg (va_cpy f2 f 0 0 n2) n2 5))), .int ((z.1 + (9 * (rg (va_cpy f2 f 0 0 n2) n2 5))) + (14 * (rg (va_cpy f2 f 0 0 n2) n2 6)))])), (mr, .inr (3, [.ref mb, .int (nI n2)])), (mb, .inl (cB, 8192, .inl (va_cpy f2 f 0 0 n2))), (mt, .inl (cI, 16, .inl z.2)), (h1, .inr (3, [.ref hd, .int (nI n2)])), (hd, .inl (cB, 8192, .inl f2))]) H := hP
        have hD : va_D A ([(m0, .inr (2, [.ref mr, .ref mt, .int 1, .int (rg (va_cpy f2 f 0 0 n2) n2 3), .int (rg (va_cpy f2 f 0 0 n2) n2 4), .int (rg (va_cpy f2 f 0 0 n2) n2 5), .int (rg (va_cpy f2 f 0 0 n2) n2 6), .int z.1, .int (z.1 + (9 * (rg (va_cpy f2 f 0 0 n2) n2 5))), .int ((z.1 + (9 * (rg (va_cpy f2 f 0 0 n2) n2 5))) + (14 * (rg (va_cpy f2 f 0 0 n2) n2 6)))])), (mr, .inr (3, [.ref mb, .int (nI n2)])), (mb, .inl (cB, 8192, .inl (va_cpy f2 f 0 0 n2))), (mt, .inl (cI, 16, .inl z.2)), (h1, .inr (3, [.ref hd, .int (nI n2)])), (hd, .inl (cB, 8192, .inl f2))]) := hD
        exact fin _ _ _ _ _ d_Mp_take_157 hP hS (by rw [he]; simp only [tkl, if_pos c_3])
      · refine lv_iload_n hx hb d_Mp_take_82 rfl (lv_at hl 3 rfl) ?_
        refine lv_aload_n hx hb d_Mp_take_83 rfl (lv_at hl 0 rfl) ?_
        refine va_get (D := D) (ci := 2) (v := .ref mt) (C := R_Mp) (T := T_Mp) (N := 10) hx hb hts i_Mp hown hK hP 0 rfl rfl 1 (by decide) (hts _ w_129) (fun _ h9 => h9) rfl d_Mp_take_84 ?_
        refine va_alen hx hb hK hP 3 1 rfl rfl (v := 16) rfl d_Mp_take_87 ?_
        refine lv_icmp_ge (tgt := 120) hx hb d_Mp_take_88 (by decide) (fun c_4 => ?_) (fun c_4 => ?_)
        · exact absurd c_4 (show ¬ nI 16 ≤ nI k by rw [nI_leI (by omega) (by omega)]; omega)
        · refine lv_aload_n hx hb d_Mp_take_91 rfl (lv_at hl 0 rfl) ?_
          refine va_get (D := D) (ci := 2) (v := .ref mt) (C := R_Mp) (T := T_Mp) (N := 10) hx hb hts i_Mp hown hK hP 0 rfl rfl 1 (by decide) (hts _ w_129) (fun _ h9 => h9) rfl d_Mp_take_92 ?_
          refine lv_iload_n hx hb d_Mp_take_95 rfl (lv_at hl 3 rfl) ?_
          refine lv_iload_n hx hb d_Mp_take_96 rfl (lv_at hl 2 rfl) ?_
          refine va_iast hx hb hK hP hD hS 3 1 rfl rfl (in_n (by omega) (by decide)) d_Mp_take_97 (fun H locs hP hD hS => ?_)
          rw [nI_clamp (show k < 2 ^ 31 by omega)] at hP hD
          have hP : va_P D cls ([(m0, .inr (2, [.ref mr, .ref mt, .int 1, .int (rg (va_cpy f2 f 0 0 n2) n2 3), .int (rg (va_cpy f2 f 0 0 n2) n2 4), .int (rg (va_cpy f2 f 0 0 n2) n2 5), .int (rg (va_cpy f2 f 0 0 n2) n2 6), .int ma, .int mb_, .int mc_])), (mr, .inr (3, [.ref mb, .int (nI n2)])), (mb, .inl (cB, 8192, .inl (va_cpy f2 f 0 0 n2))), (mt, .inl (cI, 16, .inl (upd z.2 k z.1))), (h1, .inr (3, [.ref hd, .int (nI n2)])), (hd, .inl (cB, 8192, .inl f2))]) H := hP
          have hD : va_D A ([(m0, .inr (2, [.ref mr, .ref mt, .int 1, .int (rg (va_cpy f2 f 0 0 n2) n2 3), .int (rg (va_cpy f2 f 0 0 n2) n2 4), .int (rg (va_cpy f2 f 0 0 n2) n2 5), .int (rg (va_cpy f2 f 0 0 n2) n2 6), .int ma, .int mb_, .int mc_])), (mr, .inr (3, [.ref mb, .int (nI n2)])), (mb, .inl (cB, 8192, .inl (va_cpy f2 f 0 0 n2))), (mt, .inl (cI, 16, .inl (upd z.2 k z.1))), (h1, .inr (3, [.ref hd, .int (nI n2)])), (hd, .inl (cB, 8192, .inl f2))]) := hD
          refine lv_iload_n hx hb d_Mp_take_98 rfl (lv_at hl 2 rfl) ?_
          refine lv_iconst (v := 2) hx hb d_Mp_take_99 (by decide) ?_
          refine lv_aload_n hx hb d_Mp_take_100 rfl (lv_at hl 0 rfl) ?_
          refine lv_iload_n hx hb d_Mp_take_101 rfl (lv_at hl 3 rfl) ?_
          refine pz_i0 (pz_rV (d := 1) (As := [.int (nI k)]) (rest := [.int 2, .int z.1]) X hN (c_Mp_width l D cB cI cS m0 mr mb mt 1 (rg (va_cpy f2 f 0 0 n2) n2 3) (rg (va_cpy f2 f 0 0 n2) n2 4) (rg (va_cpy f2 f 0 0 n2) n2 5) (rg (va_cpy f2 f 0 0 n2) n2 6) ma mb_ mc_ (va_cpy f2 f 0 0 n2) n2 (upd z.2 k z.1) (nI k) hn _) k_Mp_width w_344 ⟨by decide, by decide⟩ hK hP hD [0, 1, 2, 3] rfl rfl 0 rfl rfl rfl rfl hl.1 rfl (Nat.le_of_ble_eq_true rfl) d_Mp_take_102 ⟨Nat.zero_le _, Nat.zero_le _⟩) hP hD hS hA [0, 1, 2, 3] rfl (fun H locs hP hS => ?_)
          refine lv_aload_n hx hb d_Mp_take_105 rfl (lv_at hl 0 rfl) ?_
          refine lv_iload_n hx hb d_Mp_take_106 rfl (lv_at hl 3 rfl) ?_
          refine pz_i0 (pz_rV (d := 1) (As := [.int (nI k)]) (rest := [.int (mwd (va_cpy f2 f 0 0 n2) n2 (upd z.2 k z.1) (nI k)), .int 2, .int z.1]) X hN (c_Mp_height l D cB cI cS m0 mr mb mt 1 (rg (va_cpy f2 f 0 0 n2) n2 3) (rg (va_cpy f2 f 0 0 n2) n2 4) (rg (va_cpy f2 f 0 0 n2) n2 5) (rg (va_cpy f2 f 0 0 n2) n2 6) ma mb_ mc_ (va_cpy f2 f 0 0 n2) n2 (upd z.2 k z.1) (nI k) hn _) k_Mp_height w_352 ⟨by decide, by decide⟩ hK hP hD [0, 1, 2, 3] rfl rfl 0 rfl rfl rfl rfl hl.1 rfl (Nat.le_of_ble_eq_true rfl) d_Mp_take_107 ⟨Nat.zero_le _, Nat.zero_le _⟩) hP hD hS hA [0, 1, 2, 3] rfl (fun H locs hP hS => ?_)
          refine lv_imul hx hb d_Mp_take_110 ?_
          refine lv_iadd hx hb d_Mp_take_111 ?_
          refine lv_iadd hx hb d_Mp_take_112 ?_
          refine lv_istore_n (lv' := [(2, .int (z.1 + (2 + ((mwd (va_cpy f2 f 0 0 n2) n2 (upd z.2 k z.1) (nI k)) * (mht (va_cpy f2 f 0 0 n2) n2 (upd z.2 k z.1) (nI k)))))), (0, .ref m0), (1, .ref h1), (3, .int (nI k))]) hx hb d_Mp_take_113 rfl hl (by decide) rfl (fun ls hl => ?_)
          refine lv_iinc (v := nI (k + 1)) (lv' := [(3, .int (nI (k + 1))), (2, .int (z.1 + (2 + ((mwd (va_cpy f2 f 0 0 n2) n2 (upd z.2 k z.1) (nI k)) * (mht (va_cpy f2 f 0 0 n2) n2 (upd z.2 k z.1) (nI k)))))), (0, .ref m0), (1, .ref h1)]) hx hb d_Mp_take_114 hl (k := 3) rfl (nI_1 k) (by decide) rfl (fun ls hl => ?_)
          refine lv_goto (tgt := 74) hx hb d_Mp_take_117 (by decide) ?_
          exact ih2 (k + 1) (z.1 + (2 + ((mwd (va_cpy f2 f 0 0 n2) n2 (upd z.2 k z.1) (nI k)) * (mht (va_cpy f2 f 0 0 n2) n2 (upd z.2 k z.1) (nI k)))), upd z.2 k z.1) _ _ _ (by omega) (by rw [he, tkl]; simp only [tkS, if_neg c_3, if_neg c_4]) hP hD hS (lv_sub hl [2, 3, 1, 0] rfl)
  exact lp_2 16 0 (7 + 4 * (rg (va_cpy f2 f 0 0 n2) n2 3), g) _ _ _ (by omega) (rfl) hP hD hS (lv_sub hl [2, 3, 1, 0] rfl)
