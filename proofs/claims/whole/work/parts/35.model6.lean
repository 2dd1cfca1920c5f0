set_option maxRecDepth 100000 in
set_option maxHeartbeats 4000000 in
/-- has -/
theorem c_Mo_has (l : Launch) (D : va_G) (cB cI cS : ClassId) (o0 ib pb qb : Nat) (th ck : Int32) (n nm no : Nat) (q : S5) (fm : Nat → Int32) (w_ : Nat) (k : Int32) (hw : w_ < 8192) : mI l y_Mo_has b_Mo_has 3 (some .boolean) 1 D cls [(cB, .byte), (cI, .int), (cS, .object "MapLumps$Span")] [.ref o0, .int (nI w_), .int k] ([(o0, .inr (5, [.int th, .ref ib, .int (nI n), .ref pb, .int (nI nm), .ref qb, .int (nI no), .int q.2.1, .int q.2.2.1, .int ck, .int q.1, .int q.2.2.2.1, .int q.2.2.2.2])), (pb, .inl (cB, 8192, .inl fm))]) (yhs fm nm w_ k) ([(o0, .inr (5, [.int th, .ref ib, .int (nI n), .ref pb, .int (nI nm), .ref qb, .int (nI no), .int q.2.1, .int q.2.2.1, .int ck, .int q.1, .int q.2.2.2.1, .int q.2.2.2.2])), (pb, .inl (cB, 8192, .inl fm))]) := by
  refine pz_openZ (by decide) (Nat.le_of_ble_eq_true rfl) ?_
  intro p e s m below meth c A ls Q X hN hK hP hD hS hA hl fin
  obtain ⟨hx, hb, hml, hown, hts⟩ := id X
  have hl : lv_has ls 3 [(0, .ref o0), (1, .int (nI w_)), (2, .int k)] := hl
  refine lv_iload_n hx hb d_Mo_has_0 rfl (lv_at hl 2 rfl) ?_
  refine lv_if_lt (tgt := 17) hx hb d_Mo_has_1 (by decide) (fun c_1 => ?_) (fun c_1 => ?_)
  · refine lv_iconst (v := 0) hx hb d_Mo_has_17 (by decide) ?_
    exact fin _ _ _ _ _ _ d_Mo_has_18 hP hS (by simp only [yhs, if_pos c_1]) (rfl) rfl
  · refine lv_iload_n hx hb d_Mo_has_4 rfl (lv_at hl 2 rfl) ?_
    refine lv_aload_n hx hb d_Mo_has_5 rfl (lv_at hl 0 rfl) ?_
    refine lv_iload_n hx hb d_Mo_has_6 rfl (lv_at hl 1 rfl) ?_
    refine pz_i0 (pz_rV (d := 0) (As := [.int (nI w_)]) (rest := [.int k]) X hN (c_Mo_many l D cB cI cS o0 ib pb qb th ck n nm no q fm w_ (by omega) _) k_Mo_many w_561 ⟨by decide, by decide⟩ hK hP hD [0, 1] rfl rfl 0 rfl rfl rfl rfl hl.1 rfl (Nat.le_of_ble_eq_true rfl) d_Mo_has_7 ⟨Nat.zero_le _, Nat.zero_le _⟩) hP hD hS hA [0, 1] rfl (fun H locs hP hS => ?_)
    refine lv_icmp_ge (tgt := 17) hx hb d_Mo_has_10 (by decide) (fun c_2 => ?_) (fun c_2 => ?_)
    · refine lv_iconst (v := 0) hx hb d_Mo_has_17 (by decide) ?_
      exact fin _ _ _ _ _ _ d_Mo_has_18 hP hS (by simp only [yhs, if_neg c_1, if_pos c_2]) (rfl) rfl
    · refine lv_iconst (v := 1) hx hb d_Mo_has_13 (by decide) ?_
      refine lv_goto (tgt := 18) hx hb d_Mo_has_14 (by decide) ?_
      exact fin _ _ _ _ _ _ d_Mo_has_18 hP hS (by simp only [yhs, if_neg c_1, if_neg c_2]) (rfl) rfl

set_option maxRecDepth 100000 in
set_option maxHeartbeats 4000000 in
/-- vertex -/
theorem c_Mo_vertex (l : Launch) (D : va_G) (cB cI cS : ClassId) (o0 ib pb qb : Nat) (th ck : Int32) (n nm no : Nat) (q : S5) (fm : Nat → Int32) (k ac : Int32)  : mI l y_Mo_vertex b_Mo_vertex 3 (some .int) 2 D cls [(cB, .byte), (cI, .int), (cS, .object "MapLumps$Span")] [.ref o0, .int k, .int ac] ([(o0, .inr (5, [.int th, .ref ib, .int (nI n), .ref pb, .int (nI nm), .ref qb, .int (nI no), .int q.2.1, .int q.2.2.1, .int ck, .int q.1, .int q.2.2.2.1, .int q.2.2.2.2])), (pb, .inl (cB, 8192, .inl fm))]) (yvA fm nm k ac) ([(o0, .inr (5, [.int 0, .ref ib, .int (nI n), .ref pb, .int (nI nm), .ref qb, .int (nI no), .int q.2.1, .int q.2.2.1, .int ck, .int q.1, .int q.2.2.2.1, .int q.2.2.2.2])), (pb, .inl (cB, 8192, .inl fm))]) := by
  refine pz_openI (by decide) (Nat.le_of_ble_eq_true rfl) ?_
  intro p e s m below meth c A ls Q X hN hK hP hD hS hA hl fin
  obtain ⟨hx, hb, hml, hown, hts⟩ := id X
  have hl : lv_has ls 3 [(0, .ref o0), (1, .int k), (2, .int ac)] := hl
  refine lv_aload_n hx hb d_Mo_vertex_0 rfl (lv_at hl 0 rfl) ?_
  refine lv_iconst (v := 0) hx hb d_Mo_vertex_1 (by decide) ?_
  refine va_put (D := D) (ci := 5) (v := .int 0) (ty := (.int)) (C := R_Mo) (T := T_Mo) (N := 13) hx hb hts i_Mo ty_Mo tyok_Mo nm_Mo hown hK hP hD hS 0 rfl rfl 0 (by decide) (hts _ w_418) (fun _ h9 => h9) rfl (by decide +kernel) rfl rfl (Nat.le_of_ble_eq_true rfl) d_Mo_vertex_2 (fun H locs hP hD hS => ?_)
  have hP : va_P D cls ([(o0, .inr (5, [.int 0, .ref ib, .int (nI n), .ref pb, .int (nI nm), .ref qb, .int (nI no), .int q.2.1, .int q.2.2.1, .int ck, .int q.1, .int q.2.2.2.1, .int q.2.2.2.2])), (pb, .inl (cB, 8192, .inl fm))]) H := hP
  have hD : va_D A ([(o0, .inr (5, [.int 0, .ref ib, .int (nI n), .ref pb, .int (nI nm), .ref qb, .int (nI no), .int q.2.1, .int q.2.2.1, .int ck, .int q.1, .int q.2.2.2.1, .int q.2.2.2.2])), (pb, .inl (cB, 8192, .inl fm))]) := hD
  refine lv_aload_n hx hb d_Mo_vertex_5 rfl (lv_at hl 0 rfl) ?_
  refine lv_iconst (v := 3) hx hb d_Mo_vertex_6 (by decide) ?_
  refine lv_iload_n hx hb d_Mo_vertex_7 rfl (lv_at hl 1 rfl) ?_
  refine pz_i0 (pz_rV (d := 1) (As := [.int 3, .int k]) (rest := []) X hN (c_Mo_has l D cB cI cS o0 ib pb qb 0 ck n nm no q fm 3 k (by omega) _) k_Mo_has w_557 ⟨by decide, by decide⟩ hK hP hD [0, 1] rfl rfl 0 rfl rfl rfl rfl hl.1 rfl (Nat.le_of_ble_eq_true rfl) d_Mo_vertex_8 ⟨Nat.zero_le _, Nat.zero_le _⟩) hP hD hS hA [0, 1] rfl (fun H locs hP hS => ?_)
  refine lv_if_eq (tgt := 39) hx hb d_Mo_vertex_11 (by decide) (fun c_1 => ?_) (fun c_1 => ?_)
  · refine lv_ldc (v := 100000) hx hb hown (hts _ (w_565)) d_Mo_vertex_39 ?_
    exact fin _ _ _ _ _ _ d_Mo_vertex_41 hP hS (by simp only [yvA, if_pos c_1]) (rfl)
  · obtain ⟨K, rfl, hK1, hK2, hm⟩ := hs_k c_1
    refine lv_aload_n hx hb d_Mo_vertex_14 rfl (lv_at hl 0 rfl) ?_
    refine va_get (D := D) (ci := 5) (v := .ref pb) (C := R_Mo) (T := T_Mo) (N := 13) hx hb hts i_Mo hown hK hP 0 rfl rfl 3 (by decide) (hts _ w_421) (fun _ h9 => h9) rfl d_Mo_vertex_15 ?_
    refine lv_iload_n hx hb d_Mo_vertex_18 rfl (lv_at hl 2 rfl) ?_
    refine lv_if_eq (tgt := 27) hx hb d_Mo_vertex_19 (by decide) (fun c_2 => ?_) (fun c_2 => ?_)
    · refine lv_bipush (v := 9) hx hb d_Mo_vertex_27 (by decide) ?_
      refine lv_iconst (v := 4) hx hb d_Mo_vertex_29 (by decide) ?_
      refine lv_iload_n hx hb d_Mo_vertex_30 rfl (lv_at hl 1 rfl) ?_
      refine lv_imul hx hb d_Mo_vertex_31 ?_
      refine lv_iadd hx hb d_Mo_vertex_32 ?_
      rw [nx9]
      refine pz_i0 (pz_rS (d := 0) (As := [.ref pb, .int (nI (9 + 4 * K))]) (rest := []) X hN (c_Mo_pair l D cB cI cS pb fm (9 + 4 * K) (by omega) _) k_Mo_pair w_503 ⟨by decide, by decide⟩ hK hP hD [1] rfl rfl rfl hl.1 rfl (Nat.le_of_ble_eq_true rfl) d_Mo_vertex_33 ⟨Nat.zero_le _, Nat.zero_le _⟩) hP hD hS hA [1] rfl (fun H locs hP hS => ?_)
      refine lv_goto (tgt := 41) hx hb d_Mo_vertex_36 (by decide) ?_
      exact fin _ _ _ _ _ _ d_Mo_vertex_41 hP hS (by simp only [yvA, nI_clamp (show K < 2 ^ 31 by omega), if_neg c_1, if_pos c_2]) (rfl)
    · refine lv_bipush (v := 7) hx hb d_Mo_vertex_22 (by decide) ?_
      refine lv_goto (tgt := 29) hx hb d_Mo_vertex_24 (by decide) ?_
      refine lv_iconst (v := 4) hx hb d_Mo_vertex_29 (by decide) ?_
      refine lv_iload_n hx hb d_Mo_vertex_30 rfl (lv_at hl 1 rfl) ?_
      refine lv_imul hx hb d_Mo_vertex_31 ?_
      refine lv_iadd hx hb d_Mo_vertex_32 ?_
      rw [nx7]
      refine pz_i0 (pz_rS (d := 0) (As := [.ref pb, .int (nI (7 + 4 * K))]) (rest := []) X hN (c_Mo_pair l D cB cI cS pb fm (7 + 4 * K) (by omega) _) k_Mo_pair w_503 ⟨by decide, by decide⟩ hK hP hD [1] rfl rfl rfl hl.1 rfl (Nat.le_of_ble_eq_true rfl) d_Mo_vertex_33 ⟨Nat.zero_le _, Nat.zero_le _⟩) hP hD hS hA [1] rfl (fun H locs hP hS => ?_)
      refine lv_goto (tgt := 41) hx hb d_Mo_vertex_36 (by decide) ?_
      exact fin _ _ _ _ _ _ d_Mo_vertex_41 hP hS (by simp only [yvA, nI_clamp (show K < 2 ^ 31 by omega), if_neg c_1, if_neg c_2]) (rfl)

set_option maxRecDepth 100000 in
set_option maxHeartbeats 4000000 in
/-- look -/
theorem c_Mo_look (l : Launch) (D : va_G) (cB cI cS : ClassId) (o0 ib pb qb : Nat) (th ck : Int32) (n nm no : Nat) (q : S5) (fm : Nat → Int32) (which : Int32)  : mI l y_Mo_look b_Mo_look 2 (some .int) 1 D cls [(cB, .byte), (cI, .int), (cS, .object "MapLumps$Span")] [.ref o0, .int which] ([(o0, .inr (5, [.int th, .ref ib, .int (nI n), .ref pb, .int (nI nm), .ref qb, .int (nI no), .int q.2.1, .int q.2.2.1, .int ck, .int q.1, .int q.2.2.2.1, .int q.2.2.2.2])), (pb, .inl (cB, 8192, .inl fm))]) (ylA n no fm nm q.2.1 q.2.2.1 ck which) ([(o0, .inr (5, [.int 0, .ref ib, .int (nI n), .ref pb, .int (nI nm), .ref qb, .int (nI no), .int q.2.1, .int q.2.2.1, .int ck, .int q.1, .int q.2.2.2.1, .int q.2.2.2.2])), (pb, .inl (cB, 8192, .inl fm))]) := by
  refine pz_openI (by decide) (Nat.le_of_ble_eq_true rfl) ?_
  intro p e s m below meth c A ls Q X hN hK hP hD hS hA hl fin
  obtain ⟨hx, hb, hml, hown, hts⟩ := id X
  have hl : lv_has ls 2 [(0, .ref o0), (1, .int which)] := hl
  refine lv_aload_n hx hb d_Mo_look_0 rfl (lv_at hl 0 rfl) ?_
  refine lv_iconst (v := 0) hx hb d_Mo_look_1 (by decide) ?_
  refine va_put (D := D) (ci := 5) (v := .int 0) (ty := (.int)) (C := R_Mo) (T := T_Mo) (N := 13) hx hb hts i_Mo ty_Mo tyok_Mo nm_Mo hown hK hP hD hS 0 rfl rfl 0 (by decide) (hts _ w_418) (fun _ h9 => h9) rfl (by decide +kernel) rfl rfl (Nat.le_of_ble_eq_true rfl) d_Mo_look_2 (fun H locs hP hD hS => ?_)
  have hP : va_P D cls ([(o0, .inr (5, [.int 0, .ref ib, .int (nI n), .ref pb, .int (nI nm), .ref qb, .int (nI no), .int q.2.1, .int q.2.2.1, .int ck, .int q.1, .int q.2.2.2.1, .int q.2.2.2.2])), (pb, .inl (cB, 8192, .inl fm))]) H := hP
  have hD : va_D A ([(o0, .inr (5, [.int 0, .ref ib, .int (nI n), .ref pb, .int (nI nm), .ref qb, .int (nI no), .int q.2.1, .int q.2.2.1, .int ck, .int q.1, .int q.2.2.2.1, .int q.2.2.2.2])), (pb, .inl (cB, 8192, .inl fm))]) := hD
  refine lv_iload_n hx hb d_Mo_look_5 rfl (lv_at hl 1 rfl) ?_
  by_cases c_1 : which = 0
  · refine lv_tableIn (x := which) (off := 50) (tgt := 56) hx hb d_Mo_look_6 (by rw [c_1]; decide) (by rw [c_1]; decide) (by rw [c_1]; rfl) (by decide) ?_
    refine lv_aload_n hx hb d_Mo_look_56 rfl (lv_at hl 0 rfl) ?_
    refine va_get (D := D) (ci := 5) (v := .int (nI n)) (C := R_Mo) (T := T_Mo) (N := 13) hx hb hts i_Mo hown hK hP 0 rfl rfl 2 (by decide) (hts _ w_420) (fun _ h9 => h9) rfl d_Mo_look_57 ?_
    exact fin _ _ _ _ _ _ d_Mo_look_60 hP hS (by simp only [ylA, ylm, if_pos c_1]) (rfl)
  · by_cases c_2 : which = 1
    · refine lv_tableIn (x := which) (off := 55) (tgt := 61) hx hb d_Mo_look_6 (by rw [c_2]; decide) (by rw [c_2]; decide) (by rw [c_2]; rfl) (by decide) ?_
      refine lv_aload_n hx hb d_Mo_look_61 rfl (lv_at hl 0 rfl) ?_
      refine va_get (D := D) (ci := 5) (v := .int (nI no)) (C := R_Mo) (T := T_Mo) (N := 13) hx hb hts i_Mo hown hK hP 0 rfl rfl 6 (by decide) (hts _ w_424) (fun _ h9 => h9) rfl d_Mo_look_62 ?_
      exact fin _ _ _ _ _ _ d_Mo_look_65 hP hS (by simp only [ylA, ylm, if_neg c_1, if_pos c_2]) (rfl)
    · by_cases c_3 : which = 2
      · refine lv_tableIn (x := which) (off := 60) (tgt := 66) hx hb d_Mo_look_6 (by rw [c_3]; decide) (by rw [c_3]; decide) (by rw [c_3]; rfl) (by decide) ?_
        refine lv_aload_n hx hb d_Mo_look_66 rfl (lv_at hl 0 rfl) ?_
        refine va_get (D := D) (ci := 5) (v := .int (nI nm)) (C := R_Mo) (T := T_Mo) (N := 13) hx hb hts i_Mo hown hK hP 0 rfl rfl 4 (by decide) (hts _ w_422) (fun _ h9 => h9) rfl d_Mo_look_67 ?_
        refine lv_if_ne (tgt := 77) hx hb d_Mo_look_70 (by decide) (fun c_4 => ?_) (fun c_4 => ?_)
        · refine lv_aload_n hx hb d_Mo_look_77 rfl (lv_at hl 0 rfl) ?_
          refine lv_iload_n hx hb d_Mo_look_78 rfl (lv_at hl 1 rfl) ?_
          refine lv_iconst (v := 1) hx hb d_Mo_look_79 (by decide) ?_
          refine lv_iadd hx hb d_Mo_look_80 ?_
          rw [show which + 1 = nI 3 from by rw [c_3]; rfl]
          refine pz_i0 (pz_rV (d := 0) (As := [.int (nI 3)]) (rest := []) X hN (c_Mo_many l D cB cI cS o0 ib pb qb 0 ck n nm no q fm 3 (by omega) _) k_Mo_many w_561 ⟨by decide, by decide⟩ hK hP hD [0, 1] rfl rfl 0 rfl rfl rfl rfl hl.1 rfl (Nat.le_of_ble_eq_true rfl) d_Mo_look_81 ⟨Nat.zero_le _, Nat.zero_le _⟩) hP hD hS hA [0, 1] rfl (fun H locs hP hS => ?_)
          exact fin _ _ _ _ _ _ d_Mo_look_84 hP hS (by simp only [ylA, ylm, if_neg c_1, if_neg c_2, if_pos c_3, if_neg c_4]) (rfl)
        · refine lv_iconst (v := (-1)) hx hb d_Mo_look_73 (by decide) ?_
          refine lv_goto (tgt := 84) hx hb d_Mo_look_74 (by decide) ?_
          exact fin _ _ _ _ _ _ d_Mo_look_84 hP hS (by simp only [ylA, ylm, if_neg c_1, if_neg c_2, if_pos c_3, if_pos c_4]) (rfl)
      · by_cases c_5 : which = 3
        · refine lv_tableIn (x := which) (off := 60) (tgt := 66) hx hb d_Mo_look_6 (by rw [c_5]; decide) (by rw [c_5]; decide) (by rw [c_5]; rfl) (by decide) ?_
          refine lv_aload_n hx hb d_Mo_look_66 rfl (lv_at hl 0 rfl) ?_
          refine va_get (D := D) (ci := 5) (v := .int (nI nm)) (C := R_Mo) (T := T_Mo) (N := 13) hx hb hts i_Mo hown hK hP 0 rfl rfl 4 (by decide) (hts _ w_422) (fun _ h9 => h9) rfl d_Mo_look_67 ?_
          refine lv_if_ne (tgt := 77) hx hb d_Mo_look_70 (by decide) (fun c_6 => ?_) (fun c_6 => ?_)
          · refine lv_aload_n hx hb d_Mo_look_77 rfl (lv_at hl 0 rfl) ?_
            refine lv_iload_n hx hb d_Mo_look_78 rfl (lv_at hl 1 rfl) ?_
            refine lv_iconst (v := 1) hx hb d_Mo_look_79 (by decide) ?_
            refine lv_iadd hx hb d_Mo_look_80 ?_
            rw [show which + 1 = nI 4 from by rw [c_5]; rfl]
            refine pz_i0 (pz_rV (d := 0) (As := [.int (nI 4)]) (rest := []) X hN (c_Mo_many l D cB cI cS o0 ib pb qb 0 ck n nm no q fm 4 (by omega) _) k_Mo_many w_561 ⟨by decide, by decide⟩ hK hP hD [0, 1] rfl rfl 0 rfl rfl rfl rfl hl.1 rfl (Nat.le_of_ble_eq_true rfl) d_Mo_look_81 ⟨Nat.zero_le _, Nat.zero_le _⟩) hP hD hS hA [0, 1] rfl (fun H locs hP hS => ?_)
            exact fin _ _ _ _ _ _ d_Mo_look_84 hP hS (by simp only [ylA, ylm, if_neg c_1, if_neg c_2, if_neg c_3, if_pos c_5, if_neg c_6]) (rfl)
          · refine lv_iconst (v := (-1)) hx hb d_Mo_look_73 (by decide) ?_
            refine lv_goto (tgt := 84) hx hb d_Mo_look_74 (by decide) ?_
            exact fin _ _ _ _ _ _ d_Mo_look_84 hP hS (by simp only [ylA, ylm, if_neg c_1, if_neg c_2, if_neg c_3, if_pos c_5, if_pos c_6]) (rfl)
        · by_cases c_7 : which = 4
          · refine lv_tableIn (x := which) (off := 60) (tgt := 66) hx hb d_Mo_look_6 (by rw [c_7]; decide) (by rw [c_7]; decide) (by rw [c_7]; rfl) (by decide) ?_
            refine lv_aload_n hx hb d_Mo_look_66 rfl (lv_at hl 0 rfl) ?_
            refine va_get (D := D) (ci := 5) (v := .int (nI nm)) (C := R_Mo) (T := T_Mo) (N := 13) hx hb hts i_Mo hown hK hP 0 rfl rfl 4 (by decide) (hts _ w_422) (fun _ h9 => h9) rfl d_Mo_look_67 ?_
            refine lv_if_ne (tgt := 77) hx hb d_Mo_look_70 (by decide) (fun c_8 => ?_) (fun c_8 => ?_)
            · refine lv_aload_n hx hb d_Mo_look_77 rfl (lv_at hl 0 rfl) ?_
              refine lv_iload_n hx hb d_Mo_look_78 rfl (lv_at hl 1 rfl) ?_
              refine lv_iconst (v := 1) hx hb d_Mo_look_79 (by decide) ?_
              refine lv_iadd hx hb d_Mo_look_80 ?_
              rw [show which + 1 = nI 5 from by rw [c_7]; rfl]
              refine pz_i0 (pz_rV (d := 0) (As := [.int (nI 5)]) (rest := []) X hN (c_Mo_many l D cB cI cS o0 ib pb qb 0 ck n nm no q fm 5 (by omega) _) k_Mo_many w_561 ⟨by decide, by decide⟩ hK hP hD [0, 1] rfl rfl 0 rfl rfl rfl rfl hl.1 rfl (Nat.le_of_ble_eq_true rfl) d_Mo_look_81 ⟨Nat.zero_le _, Nat.zero_le _⟩) hP hD hS hA [0, 1] rfl (fun H locs hP hS => ?_)
              exact fin _ _ _ _ _ _ d_Mo_look_84 hP hS (by simp only [ylA, ylm, if_neg c_1, if_neg c_2, if_neg c_3, if_neg c_5, if_pos c_7, if_neg c_8]) (rfl)
            · refine lv_iconst (v := (-1)) hx hb d_Mo_look_73 (by decide) ?_
              refine lv_goto (tgt := 84) hx hb d_Mo_look_74 (by decide) ?_
              exact fin _ _ _ _ _ _ d_Mo_look_84 hP hS (by simp only [ylA, ylm, if_neg c_1, if_neg c_2, if_neg c_3, if_neg c_5, if_pos c_7, if_pos c_8]) (rfl)
          · by_cases c_9 : which = 5
            · refine lv_tableIn (x := which) (off := 60) (tgt := 66) hx hb d_Mo_look_6 (by rw [c_9]; decide) (by rw [c_9]; decide) (by rw [c_9]; rfl) (by decide) ?_
              refine lv_aload_n hx hb d_Mo_look_66 rfl (lv_at hl 0 rfl) ?_
              refine va_get (D := D) (ci := 5) (v := .int (nI nm)) (C := R_Mo) (T := T_Mo) (N := 13) hx hb hts i_Mo hown hK hP 0 rfl rfl 4 (by decide) (hts _ w_422) (fun _ h9 => h9) rfl d_Mo_look_67 ?_
              refine lv_if_ne (tgt := 77) hx hb d_Mo_look_70 (by decide) (fun c_10 => ?_) (fun c_10 => ?_)
              · refine lv_aload_n hx hb d_Mo_look_77 rfl (lv_at hl 0 rfl) ?_
                refine lv_iload_n hx hb d_Mo_look_78 rfl (lv_at hl 1 rfl) ?_
                refine lv_iconst (v := 1) hx hb d_Mo_look_79 (by decide) ?_
                refine lv_iadd hx hb d_Mo_look_80 ?_
                rw [show which + 1 = nI 6 from by rw [c_9]; rfl]
                refine pz_i0 (pz_rV (d := 0) (As := [.int (nI 6)]) (rest := []) X hN (c_Mo_many l D cB cI cS o0 ib pb qb 0 ck n nm no q fm 6 (by omega) _) k_Mo_many w_561 ⟨by decide, by decide⟩ hK hP hD [0, 1] rfl rfl 0 rfl rfl rfl rfl hl.1 rfl (Nat.le_of_ble_eq_true rfl) d_Mo_look_81 ⟨Nat.zero_le _, Nat.zero_le _⟩) hP hD hS hA [0, 1] rfl (fun H locs hP hS => ?_)
                exact fin _ _ _ _ _ _ d_Mo_look_84 hP hS (by simp only [ylA, ylm, if_neg c_1, if_neg c_2, if_neg c_3, if_neg c_5, if_neg c_7, if_pos c_9, if_neg c_10]) (rfl)
              · refine lv_iconst (v := (-1)) hx hb d_Mo_look_73 (by decide) ?_
                refine lv_goto (tgt := 84) hx hb d_Mo_look_74 (by decide) ?_
                exact fin _ _ _ _ _ _ d_Mo_look_84 hP hS (by simp only [ylA, ylm, if_neg c_1, if_neg c_2, if_neg c_3, if_neg c_5, if_neg c_7, if_pos c_9, if_pos c_10]) (rfl)
            · by_cases c_11 : which = 6
              · refine lv_tableIn (x := which) (off := 79) (tgt := 85) hx hb d_Mo_look_6 (by rw [c_11]; decide) (by rw [c_11]; decide) (by rw [c_11]; rfl) (by decide) ?_
                refine lv_aload_n hx hb d_Mo_look_85 rfl (lv_at hl 0 rfl) ?_
                refine va_get (D := D) (ci := 5) (v := .int q.2.1) (C := R_Mo) (T := T_Mo) (N := 13) hx hb hts i_Mo hown hK hP 0 rfl rfl 7 (by decide) (hts _ w_425) (fun _ h9 => h9) rfl d_Mo_look_86 ?_
                exact fin _ _ _ _ _ _ d_Mo_look_89 hP hS (by simp only [ylA, ylm, if_neg c_1, if_neg c_2, if_neg c_3, if_neg c_5, if_neg c_7, if_neg c_9, if_pos c_11]) (rfl)
              · by_cases c_12 : which = 7
                · refine lv_tableIn (x := which) (off := 84) (tgt := 90) hx hb d_Mo_look_6 (by rw [c_12]; decide) (by rw [c_12]; decide) (by rw [c_12]; rfl) (by decide) ?_
                  refine lv_aload_n hx hb d_Mo_look_90 rfl (lv_at hl 0 rfl) ?_
                  refine va_get (D := D) (ci := 5) (v := .int q.2.2.1) (C := R_Mo) (T := T_Mo) (N := 13) hx hb hts i_Mo hown hK hP 0 rfl rfl 8 (by decide) (hts _ w_426) (fun _ h9 => h9) rfl d_Mo_look_91 ?_
                  exact fin _ _ _ _ _ _ d_Mo_look_94 hP hS (by simp only [ylA, ylm, if_neg c_1, if_neg c_2, if_neg c_3, if_neg c_5, if_neg c_7, if_neg c_9, if_neg c_11, if_pos c_12]) (rfl)
                · by_cases c_13 : which = 8
                  · refine lv_tableIn (x := which) (off := 89) (tgt := 95) hx hb d_Mo_look_6 (by rw [c_13]; decide) (by rw [c_13]; decide) (by rw [c_13]; rfl) (by decide) ?_
                    refine lv_aload_n hx hb d_Mo_look_95 rfl (lv_at hl 0 rfl) ?_
                    refine va_get (D := D) (ci := 5) (v := .int ck) (C := R_Mo) (T := T_Mo) (N := 13) hx hb hts i_Mo hown hK hP 0 rfl rfl 9 (by decide) (hts _ w_427) (fun _ h9 => h9) rfl d_Mo_look_96 ?_
                    exact fin _ _ _ _ _ _ d_Mo_look_99 hP hS (by simp only [ylA, ylm, if_neg c_1, if_neg c_2, if_neg c_3, if_neg c_5, if_neg c_7, if_neg c_9, if_neg c_11, if_neg c_12, if_pos c_13]) (rfl)
                  · refine lv_tableOut (x := which) (tgt := 100) hx hb d_Mo_look_6 (by have h0 := lv_neT c_1 (a := 0) (by decide); have h1 := lv_neT c_2 (a := 1) (by decide); have h2 := lv_neT c_3 (a := 2) (by decide); have h3 := lv_neT c_5 (a := 3) (by decide); have h4 := lv_neT c_7 (a := 4) (by decide); have h5 := lv_neT c_9 (a := 5) (by decide); have h6 := lv_neT c_11 (a := 6) (by decide); have h7 := lv_neT c_12 (a := 7) (by decide); have h8 := lv_neT c_13 (a := 8) (by decide); omega) (by decide) ?_
                    refine lv_iconst (v := (-1)) hx hb d_Mo_look_100 (by decide) ?_
                    exact fin _ _ _ _ _ _ d_Mo_look_101 hP hS (by simp only [ylA, ylm, if_neg c_1, if_neg c_2, if_neg c_3, if_neg c_5, if_neg c_7, if_neg c_9, if_neg c_11, if_neg c_12, if_neg c_13]) (rfl)

set_option maxRecDepth 100000 in
set_option maxHeartbeats 4000000 in
/-- textureAt -/
theorem c_Mo_textureAt (l : Launch) (D : va_G) (cB cI cS : ClassId) (o0 ib pb qb : Nat) (th ck : Int32) (n nm no : Nat) (q : S5) (fm : Nat → Int32) (k : Nat) (hm : ¬ nI nm = 0) (hv : VM fm) (hk : k ≤ yb fm 4) (hk2 : k < 256) : mI l y_Mo_textureAt b_Mo_textureAt 4 (some .int) 1 D cls [(cB, .byte), (cI, .int), (cS, .object "MapLumps$Span")] [.ref o0, .int (nI k)] ([(o0, .inr (5, [.int th, .ref ib, .int (nI n), .ref pb, .int (nI nm), .ref qb, .int (nI no), .int q.2.1, .int q.2.2.1, .int ck, .int q.1, .int q.2.2.2.1, .int q.2.2.2.2])), (pb, .inl (cB, 8192, .inl fm))]) (nI (yta fm (yb fm 3) k)) ([(o0, .inr (5, [.int th, .ref ib, .int (nI n), .ref pb, .int (nI nm), .ref qb, .int (nI no), .int q.2.1, .int q.2.2.1, .int ck, .int q.1, .int q.2.2.2.1, .int q.2.2.2.2])), (pb, .inl (cB, 8192, .inl fm))]) := by
  refine pz_openI (by decide) (Nat.le_of_ble_eq_true rfl) ?_
  intro p e s m below meth c A ls Q X hN hK hP hD hS hA hl fin
  obtain ⟨hx, hb, hml, hown, hts⟩ := id X
  have hl : lv_has ls 4 [(0, .ref o0), (1, .int (nI k))] := hl
  refine lv_bipush (v := 7) hx hb d_Mo_textureAt_0 (by decide) ?_
  refine lv_iconst (v := 4) hx hb d_Mo_textureAt_2 (by decide) ?_
  refine lv_aload_n hx hb d_Mo_textureAt_3 rfl (lv_at hl 0 rfl) ?_
  refine lv_iconst (v := 3) hx hb d_Mo_textureAt_4 (by decide) ?_
  refine pz_i0 (pz_rV (d := 0) (As := [.int 3]) (rest := [.int 4, .int 7]) X hN (c_Mo_many l D cB cI cS o0 ib pb qb th ck n nm no q fm 3 (by omega) _) k_Mo_many w_561 ⟨by decide, by decide⟩ hK hP hD [0, 1] rfl rfl 0 rfl rfl rfl rfl hl.1 rfl (Nat.le_of_ble_eq_true rfl) d_Mo_textureAt_5 ⟨Nat.zero_le _, Nat.zero_le _⟩) hP hD hS hA [0, 1] rfl (fun H locs hP hS => ?_)
  rw [ymn_eq hm]
  refine lv_imul hx hb d_Mo_textureAt_8 ?_
  refine lv_iadd hx hb d_Mo_textureAt_9 ?_
  rw [nx7]
  refine lv_istore_n (lv' := [(2, .int (nI (7 + 4 * yb fm 3))), (0, .ref o0), (1, .int (nI k))]) hx hb d_Mo_textureAt_10 rfl hl (by decide) rfl (fun ls hl => ?_)
  refine lv_iconst (v := 0) hx hb d_Mo_textureAt_11 (by decide) ?_
  refine lv_istore_n (lv' := [(3, .int 0), (2, .int (nI (7 + 4 * yb fm 3))), (0, .ref o0), (1, .int (nI k))]) hx hb d_Mo_textureAt_12 rfl hl (by decide) rfl (fun ls hl => ?_)
  have lp_18 : ∀ (j18 : Nat) (j : Nat) (ls : Array Slot) (H : Heap) (locs : List Loc), j18 + j = k → va_P D cls ([(o0, .inr (5, [.int th, .ref ib, .int (nI n), .ref pb, .int (nI nm), .ref qb, .int (nI no), .int q.2.1, .int q.2.2.1, .int ck, .int q.1, .int q.2.2.2.1, .int q.2.2.2.2])), (pb, .inl (cB, 8192, .inl fm))]) H → va_D A ([(o0, .inr (5, [.int th, .ref ib, .int (nI n), .ref pb, .int (nI nm), .ref qb, .int (nI no), .int q.2.1, .int q.2.2.1, .int ck, .int q.1, .int q.2.2.2.1, .int q.2.2.2.2])), (pb, .inl (cB, 8192, .inl fm))]) → va_S A s.heap H locs → lv_has ls 4 [(0, .ref o0), (1, .int (nI k)), (2, .int (nI (yta fm (yb fm 3) j))), (3, .int (nI j))] → W p l e (rmd 1) s m ([.ref o0, .int (nI k)] : List Value).toArray below meth c H locs 0 0 Q (F0 m 13 ls []) := by
    intro j18
    induction j18 with
    | zero =>
      intro j ls H locs hi hP hD hS hl
      refine lv_iload_n hx hb d_Mo_textureAt_13 rfl (lv_at hl 3 rfl) ?_
      refine lv_iload_n hx hb d_Mo_textureAt_14 rfl (lv_at hl 1 rfl) ?_
      refine lv_icmp_ge (tgt := 46) hx hb d_Mo_textureAt_15 (by decide) (fun c_1 => ?_) (fun c_1 => ?_)
      · refine lv_iload_n hx hb d_Mo_textureAt_46 rfl (lv_at hl 2 rfl) ?_
        exact fin _ _ _ _ _ _ d_Mo_textureAt_47 hP hS (by rw [show j = k by omega]) (rfl)
      · exact (c_1 (by rw [nI_leI (by omega) (by omega)]; omega)).elim
    | succ j18 ih18 =>
      intro j ls H locs hi hP hD hS hl
      refine lv_iload_n hx hb d_Mo_textureAt_13 rfl (lv_at hl 3 rfl) ?_
      refine lv_iload_n hx hb d_Mo_textureAt_14 rfl (lv_at hl 1 rfl) ?_
      refine lv_icmp_ge (tgt := 46) hx hb d_Mo_textureAt_15 (by decide) (fun c_2 => ?_) (fun c_2 => ?_)
      · exact absurd c_2 (by rw [nI_leI (by omega) (by omega)]; omega)
      · refine lv_iload_n hx hb d_Mo_textureAt_18 rfl (lv_at hl 2 rfl) ?_
        refine lv_iconst (v := 2) hx hb d_Mo_textureAt_19 (by decide) ?_
        refine lv_iconst (v := 1) hx hb d_Mo_textureAt_20 (by decide) ?_
        refine lv_aload_n hx hb d_Mo_textureAt_21 rfl (lv_at hl 0 rfl) ?_
        refine va_get (D := D) (ci := 5) (v := .ref pb) (C := R_Mo) (T := T_Mo) (N := 13) hx hb hts i_Mo hown hK hP 0 rfl rfl 3 (by decide) (hts _ w_421) (fun _ h9 => h9) rfl d_Mo_textureAt_22 ?_
        refine lv_iload_n hx hb d_Mo_textureAt_25 rfl (lv_at hl 2 rfl) ?_
        refine va_bald hx hb hK hP 1 0 rfl rfl ((in_n (by have h1 := yta_lt (fm := fm) (V := yb fm 3) (show j < yb fm 4 by omega); have h2 := hv.2; omega) (by decide))) d_Mo_textureAt_26 ?_
        rw [nI_clamp (show yta fm (yb fm 3) j < 2 ^ 31 from (by have h1 := yta_lt (fm := fm) (V := yb fm 3) (show j < yb fm 4 by omega); have h2 := hv.2; omega))]
        refine lv_aload_n hx hb d_Mo_textureAt_27 rfl (lv_at hl 0 rfl) ?_
        refine va_get (D := D) (ci := 5) (v := .ref pb) (C := R_Mo) (T := T_Mo) (N := 13) hx hb hts i_Mo hown hK hP 0 rfl rfl 3 (by decide) (hts _ w_421) (fun _ h9 => h9) rfl d_Mo_textureAt_28 ?_
        refine lv_iload_n hx hb d_Mo_textureAt_31 rfl (lv_at hl 2 rfl) ?_
        refine lv_iconst (v := 1) hx hb d_Mo_textureAt_32 (by decide) ?_
        refine lv_iadd hx hb d_Mo_textureAt_33 ?_
        rw [nI_1]
        refine va_bald hx hb hK hP 1 0 rfl rfl ((in_n (by have h1 := yta_lt (fm := fm) (V := yb fm 3) (show j < yb fm 4 by omega); have h2 := hv.2; omega) (by decide))) d_Mo_textureAt_34 ?_
        rw [nI_clamp (show yta fm (yb fm 3) j + 1 < 2 ^ 31 from (by have h1 := yta_lt (fm := fm) (V := yb fm 3) (show j < yb fm 4 by omega); have h2 := hv.2; omega))]
        refine lv_iadd hx hb d_Mo_textureAt_35 ?_
        refine lv_ishl hx hb d_Mo_textureAt_36 ?_
        refine lv_iadd hx hb d_Mo_textureAt_37 ?_
        refine lv_iadd hx hb d_Mo_textureAt_38 ?_
        rw [ta_step hv (show j < yb fm 4 by omega)]
        refine lv_istore_n (lv' := [(2, .int (nI (yta fm (yb fm 3) (j + 1)))), (0, .ref o0), (1, .int (nI k)), (3, .int (nI j))]) hx hb d_Mo_textureAt_39 rfl hl (by decide) rfl (fun ls hl => ?_)
        refine lv_iinc (v := nI (j + 1)) (lv' := [(3, .int (nI (j + 1))), (2, .int (nI (yta fm (yb fm 3) (j + 1)))), (0, .ref o0), (1, .int (nI k))]) hx hb d_Mo_textureAt_40 hl (k := 3) rfl (nI_1 j) (by decide) rfl (fun ls hl => ?_)
        refine lv_goto (tgt := 13) hx hb d_Mo_textureAt_43 (by decide) ?_
        exact ih18 (j + 1) _ _ _ (by omega) hP hD hS (lv_sub hl [2, 3, 1, 0] rfl)
  exact lp_18 k 0 _ _ _ (by omega) hP hD hS (lv_sub hl [2, 3, 1, 0] rfl)

set_option maxRecDepth 100000 in
set_option maxHeartbeats 4000000 in
/-- sectorAt -/
theorem c_Mo_sectorAt (l : Launch) (D : va_G) (cB cI cS : ClassId) (o0 ib pb qb : Nat) (th ck : Int32) (n nm no : Nat) (q : S5) (fm : Nat → Int32) (k : Nat) (hm : ¬ nI nm = 0) (hv : VM fm) : mI l y_Mo_sectorAt b_Mo_sectorAt 2 (some .int) 2 D cls [(cB, .byte), (cI, .int), (cS, .object "MapLumps$Span")] [.ref o0, .int (nI k)] ([(o0, .inr (5, [.int th, .ref ib, .int (nI n), .ref pb, .int (nI nm), .ref qb, .int (nI no), .int q.2.1, .int q.2.2.1, .int ck, .int q.1, .int q.2.2.2.1, .int q.2.2.2.2])), (pb, .inl (cB, 8192, .inl fm))]) (nI (yta fm (yb fm 3) (yb fm 4) + 9 * k)) ([(o0, .inr (5, [.int th, .ref ib, .int (nI n), .ref pb, .int (nI nm), .ref qb, .int (nI no), .int q.2.1, .int q.2.2.1, .int ck, .int q.1, .int q.2.2.2.1, .int q.2.2.2.2])), (pb, .inl (cB, 8192, .inl fm))]) := by
  refine pz_openI (by decide) (Nat.le_of_ble_eq_true rfl) ?_
  intro p e s m below meth c A ls Q X hN hK hP hD hS hA hl fin
  obtain ⟨hx, hb, hml, hown, hts⟩ := id X
  have hl : lv_has ls 2 [(0, .ref o0), (1, .int (nI k))] := hl
  refine lv_aload_n hx hb d_Mo_sectorAt_0 rfl (lv_at hl 0 rfl) ?_
  refine lv_aload_n hx hb d_Mo_sectorAt_1 rfl (lv_at hl 0 rfl) ?_
  refine lv_iconst (v := 4) hx hb d_Mo_sectorAt_2 (by decide) ?_
  refine pz_i0 (pz_rV (d := 0) (As := [.int 4]) (rest := [.ref o0]) X hN (c_Mo_many l D cB cI cS o0 ib pb qb th ck n nm no q fm 4 (by omega) _) k_Mo_many w_561 ⟨by decide, by decide⟩ hK hP hD [0, 1] rfl rfl 0 rfl rfl rfl rfl hl.1 rfl (Nat.le_of_ble_eq_true rfl) d_Mo_sectorAt_3 ⟨Nat.zero_le _, Nat.zero_le _⟩) hP hD hS hA [0, 1] rfl (fun H locs hP hS => ?_)
  rw [ymn_eq hm]
  refine pz_i0 (pz_rV (d := 1) (As := [.int (nI (yb fm 4))]) (rest := []) X hN (c_Mo_textureAt l D cB cI cS o0 ib pb qb th ck n nm no q fm (yb fm 4) hm hv (by omega) (by have h1 := yb_lt fm 4; omega) _) k_Mo_textureAt w_570 ⟨by decide, by decide⟩ hK hP hD [0, 1] rfl rfl 0 rfl rfl rfl rfl hl.1 rfl (Nat.le_of_ble_eq_true rfl) d_Mo_sectorAt_6 ⟨Nat.zero_le _, Nat.zero_le _⟩) hP hD hS hA [0, 1] rfl (fun H locs hP hS => ?_)
  refine lv_bipush (v := 9) hx hb d_Mo_sectorAt_9 (by decide) ?_
  refine lv_iload_n hx hb d_Mo_sectorAt_11 rfl (lv_at hl 1 rfl) ?_
  refine lv_imul hx hb d_Mo_sectorAt_12 ?_
  refine lv_iadd hx hb d_Mo_sectorAt_13 ?_
  rw [n9]
  exact fin _ _ _ _ _ _ d_Mo_sectorAt_14 hP hS (rfl) (rfl)

set_option maxRecDepth 100000 in
set_option maxHeartbeats 4000000 in
/-- wallAt -/
theorem c_Mo_wallAt (l : Launch) (D : va_G) (cB cI cS : ClassId) (o0 ib pb qb : Nat) (th ck : Int32) (n nm no : Nat) (q : S5) (fm : Nat → Int32) (k : Nat) (hm : ¬ nI nm = 0) (hv : VM fm) : mI l y_Mo_wallAt b_Mo_wallAt 2 (some .int) 3 D cls [(cB, .byte), (cI, .int), (cS, .object "MapLumps$Span")] [.ref o0, .int (nI k)] ([(o0, .inr (5, [.int th, .ref ib, .int (nI n), .ref pb, .int (nI nm), .ref qb, .int (nI no), .int q.2.1, .int q.2.2.1, .int ck, .int q.1, .int q.2.2.2.1, .int q.2.2.2.2])), (pb, .inl (cB, 8192, .inl fm))]) (nI (yta fm (yb fm 3) (yb fm 4) + 9 * yb fm 5 + 14 * k)) ([(o0, .inr (5, [.int th, .ref ib, .int (nI n), .ref pb, .int (nI nm), .ref qb, .int (nI no), .int q.2.1, .int q.2.2.1, .int ck, .int q.1, .int q.2.2.2.1, .int q.2.2.2.2])), (pb, .inl (cB, 8192, .inl fm))]) := by
  refine pz_openI (by decide) (Nat.le_of_ble_eq_true rfl) ?_
  intro p e s m below meth c A ls Q X hN hK hP hD hS hA hl fin
  obtain ⟨hx, hb, hml, hown, hts⟩ := id X
  have hl : lv_has ls 2 [(0, .ref o0), (1, .int (nI k))] := hl
  refine lv_aload_n hx hb d_Mo_wallAt_0 rfl (lv_at hl 0 rfl) ?_
  refine lv_aload_n hx hb d_Mo_wallAt_1 rfl (lv_at hl 0 rfl) ?_
  refine lv_iconst (v := 5) hx hb d_Mo_wallAt_2 (by decide) ?_
  refine pz_i0 (pz_rV (d := 0) (As := [.int 5]) (rest := [.ref o0]) X hN (c_Mo_many l D cB cI cS o0 ib pb qb th ck n nm no q fm 5 (by omega) _) k_Mo_many w_561 ⟨by decide, by decide⟩ hK hP hD [0, 1] rfl rfl 0 rfl rfl rfl rfl hl.1 rfl (Nat.le_of_ble_eq_true rfl) d_Mo_wallAt_3 ⟨Nat.zero_le _, Nat.zero_le _⟩) hP hD hS hA [0, 1] rfl (fun H locs hP hS => ?_)
  rw [ymn_eq hm]
  refine pz_i0 (pz_rV (d := 2) (As := [.int (nI (yb fm 5))]) (rest := []) X hN (c_Mo_sectorAt l D cB cI cS o0 ib pb qb th ck n nm no q fm (yb fm 5) hm hv  _) k_Mo_sectorAt w_578 ⟨by decide, by decide⟩ hK hP hD [0, 1] rfl rfl 0 rfl rfl rfl rfl hl.1 rfl (Nat.le_of_ble_eq_true rfl) d_Mo_wallAt_6 ⟨Nat.zero_le _, Nat.zero_le _⟩) hP hD hS hA [0, 1] rfl (fun H locs hP hS => ?_)
  refine lv_bipush (v := 14) hx hb d_Mo_wallAt_9 (by decide) ?_
  refine lv_iload_n hx hb d_Mo_wallAt_11 rfl (lv_at hl 1 rfl) ?_
  refine lv_imul hx hb d_Mo_wallAt_12 ?_
  refine lv_iadd hx hb d_Mo_wallAt_13 ?_
  rw [n14]
  exact fin _ _ _ _ _ _ d_Mo_wallAt_14 hP hS (rfl) (rfl)
