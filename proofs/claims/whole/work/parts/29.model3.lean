set_option maxRecDepth 100000 in
set_option maxHeartbeats 4000000 in
/-- vertexOf -/
theorem c_Mo_vertexOf0 (l : Launch) (D : va_G) (cB cI cS : ClassId) (o0 ib pb qb : Nat) (th ck : Int32) (n nm no : Nat) (q : S5) (f : Nat → Int32) (a : Nat) (ha : a + 0 < 8192) : mI l y_Mo_vertexOf b_Mo_vertexOf 3 (some .int) 0 D cls [(cB, .byte), (cI, .int), (cS, .object "MapLumps$Span")] [.ref o0, .int (nI a), .int 0] ([(o0, .inr (5, [.int th, .ref ib, .int (nI n), .ref pb, .int (nI nm), .ref qb, .int (nI no), .int q.2.1, .int q.2.2.1, .int ck, .int q.1, .int q.2.2.2.1, .int q.2.2.2.2])), (ib, .inl (cB, 8192, .inl f))]) (nI (yb f (a + 0))) ([(o0, .inr (5, [.int th, .ref ib, .int (nI n), .ref pb, .int (nI nm), .ref qb, .int (nI no), .int q.2.1, .int q.2.2.1, .int ck, .int q.1, .int q.2.2.2.1, .int q.2.2.2.2])), (ib, .inl (cB, 8192, .inl f))]) := by
  refine pz_openI (by decide) (Nat.le_of_ble_eq_true rfl) ?_
  intro p e s m below meth c A ls Q X hN hK hP hD hS hA hl fin
  obtain ⟨hx, hb, hml, hown, hts⟩ := id X
  have hl : lv_has ls 3 [(0, .ref o0), (1, .int (nI a)), (2, .int 0)] := hl
  refine lv_aload_n hx hb d_Mo_vertexOf_0 rfl (lv_at hl 0 rfl) ?_
  refine va_get (D := D) (ci := 5) (v := .ref ib) (C := R_Mo) (T := T_Mo) (N := 13) hx hb hts i_Mo hown hK hP 0 rfl rfl 1 (by decide) (hts _ w_419) (fun _ h9 => h9) rfl d_Mo_vertexOf_1 ?_
  refine lv_iload_n hx hb d_Mo_vertexOf_4 rfl (lv_at hl 1 rfl) ?_
  refine lv_iload_n hx hb d_Mo_vertexOf_5 rfl (lv_at hl 2 rfl) ?_
  refine lv_iadd hx hb d_Mo_vertexOf_6 ?_
  rw [show nI a + 0 = nI (a + 0) from nI_add a 0]
  refine va_bald hx hb hK hP 1 0 rfl rfl (in_n (by omega) (by decide)) d_Mo_vertexOf_7 ?_
  refine lv_sipush (v := 255) hx hb d_Mo_vertexOf_8 (by decide) ?_
  refine lv_iand hx hb d_Mo_vertexOf_11 ?_
  exact fin _ _ _ _ _ _ d_Mo_vertexOf_12 hP hS (by rw [nI_clamp (by omega)]; exact (yb_eq _ _).symm) (rfl)

set_option maxRecDepth 100000 in
set_option maxHeartbeats 4000000 in
/-- vertexOf -/
theorem c_Mo_vertexOf1 (l : Launch) (D : va_G) (cB cI cS : ClassId) (o0 ib pb qb : Nat) (th ck : Int32) (n nm no : Nat) (q : S5) (f : Nat → Int32) (a : Nat) (ha : a + 1 < 8192) : mI l y_Mo_vertexOf b_Mo_vertexOf 3 (some .int) 0 D cls [(cB, .byte), (cI, .int), (cS, .object "MapLumps$Span")] [.ref o0, .int (nI a), .int 1] ([(o0, .inr (5, [.int th, .ref ib, .int (nI n), .ref pb, .int (nI nm), .ref qb, .int (nI no), .int q.2.1, .int q.2.2.1, .int ck, .int q.1, .int q.2.2.2.1, .int q.2.2.2.2])), (ib, .inl (cB, 8192, .inl f))]) (nI (yb f (a + 1))) ([(o0, .inr (5, [.int th, .ref ib, .int (nI n), .ref pb, .int (nI nm), .ref qb, .int (nI no), .int q.2.1, .int q.2.2.1, .int ck, .int q.1, .int q.2.2.2.1, .int q.2.2.2.2])), (ib, .inl (cB, 8192, .inl f))]) := by
  refine pz_openI (by decide) (Nat.le_of_ble_eq_true rfl) ?_
  intro p e s m below meth c A ls Q X hN hK hP hD hS hA hl fin
  obtain ⟨hx, hb, hml, hown, hts⟩ := id X
  have hl : lv_has ls 3 [(0, .ref o0), (1, .int (nI a)), (2, .int 1)] := hl
  refine lv_aload_n hx hb d_Mo_vertexOf_0 rfl (lv_at hl 0 rfl) ?_
  refine va_get (D := D) (ci := 5) (v := .ref ib) (C := R_Mo) (T := T_Mo) (N := 13) hx hb hts i_Mo hown hK hP 0 rfl rfl 1 (by decide) (hts _ w_419) (fun _ h9 => h9) rfl d_Mo_vertexOf_1 ?_
  refine lv_iload_n hx hb d_Mo_vertexOf_4 rfl (lv_at hl 1 rfl) ?_
  refine lv_iload_n hx hb d_Mo_vertexOf_5 rfl (lv_at hl 2 rfl) ?_
  refine lv_iadd hx hb d_Mo_vertexOf_6 ?_
  rw [show nI a + 1 = nI (a + 1) from nI_add a 1]
  refine va_bald hx hb hK hP 1 0 rfl rfl (in_n (by omega) (by decide)) d_Mo_vertexOf_7 ?_
  refine lv_sipush (v := 255) hx hb d_Mo_vertexOf_8 (by decide) ?_
  refine lv_iand hx hb d_Mo_vertexOf_11 ?_
  exact fin _ _ _ _ _ _ d_Mo_vertexOf_12 hP hS (by rw [nI_clamp (by omega)]; exact (yb_eq _ _).symm) (rfl)

set_option maxRecDepth 100000 in
set_option maxHeartbeats 4000000 in
/-- cross -/
theorem c_Mo_cross (l : Launch) (D : va_G) (cB cI cS : ClassId) (a b c_ d_ : Int64)  : mL l y_Mo_cross b_Mo_cross 8 (some .long) 0 D cls [(cB, .byte), (cI, .int), (cS, .object "MapLumps$Span")] [.long a, .long b, .long c_, .long d_] ([]) (a * d_ - b * c_) ([]) := by
  refine pz_openL (by decide) (Nat.le_of_ble_eq_true rfl) ?_
  intro p e s m below meth c A ls Q X hN hK hP hD hS hA hl fin
  obtain ⟨hx, hb, hml, hown, hts⟩ := id X
  have hl : lv_has ls 8 [(0, .long a), (2, .long b), (4, .long c_), (6, .long d_)] := hl
  refine lv_lload_n hx hb d_Mo_cross_0 rfl (lv_at hl 0 rfl) ?_
  refine lv_lload hx hb d_Mo_cross_1 (lv_at hl 3 rfl) ?_
  refine lv_lmul hx hb d_Mo_cross_3 ?_
  refine lv_lload_n hx hb d_Mo_cross_4 rfl (lv_at hl 1 rfl) ?_
  refine lv_lload hx hb d_Mo_cross_5 (lv_at hl 2 rfl) ?_
  refine lv_lmul hx hb d_Mo_cross_7 ?_
  refine lv_lsub hx hb d_Mo_cross_8 ?_
  exact fin _ _ _ _ _ _ d_Mo_cross_9 hP hS (rfl) (rfl)

set_option maxRecDepth 100000 in
set_option maxHeartbeats 4000000 in
/-- side -/
theorem c_Mo_side (l : Launch) (D : va_G) (cB cI cS : ClassId) (o0 ib pb qb : Nat) (th ck : Int32) (n nm no : Nat) (q : S5) (f : Nat → Int32) (a b : Nat) (ha : a + 1 < 8192) (hb_ : b < 256) : mI l y_Mo_side b_Mo_side 13 (some .int) 1 D cls [(cB, .byte), (cI, .int), (cS, .object "MapLumps$Span")] [.ref o0, .int (nI a), .int (nI b)] ([(o0, .inr (5, [.int th, .ref ib, .int (nI n), .ref pb, .int (nI nm), .ref qb, .int (nI no), .int q.2.1, .int q.2.2.1, .int ck, .int q.1, .int q.2.2.2.1, .int q.2.2.2.2])), (ib, .inl (cB, 8192, .inl f))]) (ysd f a b) ([(o0, .inr (5, [.int th, .ref ib, .int (nI n), .ref pb, .int (nI nm), .ref qb, .int (nI no), .int q.2.1, .int q.2.2.1, .int ck, .int q.1, .int q.2.2.2.1, .int q.2.2.2.2])), (ib, .inl (cB, 8192, .inl f))]) := by
  refine pz_openI (by decide) (Nat.le_of_ble_eq_true rfl) ?_
  intro p e s m below meth c A ls Q X hN hK hP hD hS hA hl fin
  obtain ⟨hx, hb, hml, hown, hts⟩ := id X
  have hl : lv_has ls 13 [(0, .ref o0), (1, .int (nI a)), (2, .int (nI b))] := hl
  refine lv_aload_n hx hb d_Mo_side_0 rfl (lv_at hl 0 rfl) ?_
  refine va_get (D := D) (ci := 5) (v := .ref ib) (C := R_Mo) (T := T_Mo) (N := 13) hx hb hts i_Mo hown hK hP 0 rfl rfl 1 (by decide) (hts _ w_419) (fun _ h9 => h9) rfl d_Mo_side_1 ?_
  refine lv_bipush (v := 7) hx hb d_Mo_side_4 (by decide) ?_
  refine lv_iconst (v := 4) hx hb d_Mo_side_6 (by decide) ?_
  refine lv_aload_n hx hb d_Mo_side_7 rfl (lv_at hl 0 rfl) ?_
  refine lv_iload_n hx hb d_Mo_side_8 rfl (lv_at hl 1 rfl) ?_
  refine lv_iconst (v := 0) hx hb d_Mo_side_9 (by decide) ?_
  refine pz_i0 (pz_rV (d := 0) (As := [.int (nI a), .int 0]) (rest := [.int 4, .int 7, .ref ib]) X hN (c_Mo_vertexOf0 l D cB cI cS o0 ib pb qb th ck n nm no q f a (by omega) _) k_Mo_vertexOf w_530 ⟨by decide, by decide⟩ hK hP hD [0, 1] rfl rfl 0 rfl rfl rfl rfl hl.1 rfl (Nat.le_of_ble_eq_true rfl) d_Mo_side_10 ⟨Nat.zero_le _, Nat.zero_le _⟩) hP hD hS hA [0, 1] rfl (fun H locs hP hS => ?_)
  refine lv_imul hx hb d_Mo_side_13 ?_
  refine lv_iadd hx hb d_Mo_side_14 ?_
  rw [nx7 (yb f (a + 0))]
  refine pz_i0 (pz_rS (d := 0) (As := [.ref ib, .int (nI (7 + 4 * (yb f (a + 0))))]) (rest := []) X hN (c_Mo_pair l D cB cI cS ib f (7 + 4 * (yb f (a + 0))) (by have h1 := yb_lt f (a + 0); have h2 := yb_lt f (a + 1); omega) _) k_Mo_pair w_503 ⟨by decide, by decide⟩ hK hP hD [1] rfl rfl rfl hl.1 rfl (Nat.le_of_ble_eq_true rfl) d_Mo_side_15 ⟨Nat.zero_le _, Nat.zero_le _⟩) hP hD hS hA [1] rfl (fun H locs hP hS => ?_)
  refine lv_i2l hx hb d_Mo_side_18 rfl ?_
  refine lv_lstore_n (lv' := [(3, .long ((ypr f (7 + 4 * (yb f (a + 0)))).toInt64)), (0, .ref o0), (1, .int (nI a)), (2, .int (nI b))]) hx hb d_Mo_side_19 rfl hl (by decide) rfl (fun ls hl => ?_)
  refine lv_aload_n hx hb d_Mo_side_20 rfl (lv_at hl 1 rfl) ?_
  refine va_get (D := D) (ci := 5) (v := .ref ib) (C := R_Mo) (T := T_Mo) (N := 13) hx hb hts i_Mo hown hK hP 0 rfl rfl 1 (by decide) (hts _ w_419) (fun _ h9 => h9) rfl d_Mo_side_21 ?_
  refine lv_bipush (v := 9) hx hb d_Mo_side_24 (by decide) ?_
  refine lv_iconst (v := 4) hx hb d_Mo_side_26 (by decide) ?_
  refine lv_aload_n hx hb d_Mo_side_27 rfl (lv_at hl 1 rfl) ?_
  refine lv_iload_n hx hb d_Mo_side_28 rfl (lv_at hl 2 rfl) ?_
  refine lv_iconst (v := 0) hx hb d_Mo_side_29 (by decide) ?_
  refine pz_i0 (pz_rV (d := 0) (As := [.int (nI a), .int 0]) (rest := [.int 4, .int 9, .ref ib]) X hN (c_Mo_vertexOf0 l D cB cI cS o0 ib pb qb th ck n nm no q f a (by omega) _) k_Mo_vertexOf w_530 ⟨by decide, by decide⟩ hK hP hD [0, 1] rfl rfl 0 rfl rfl rfl rfl hl.1 rfl (Nat.le_of_ble_eq_true rfl) d_Mo_side_30 ⟨Nat.zero_le _, Nat.zero_le _⟩) hP hD hS hA [0, 1] rfl (fun H locs hP hS => ?_)
  refine lv_imul hx hb d_Mo_side_33 ?_
  refine lv_iadd hx hb d_Mo_side_34 ?_
  rw [nx9 (yb f (a + 0))]
  refine pz_i0 (pz_rS (d := 0) (As := [.ref ib, .int (nI (9 + 4 * (yb f (a + 0))))]) (rest := []) X hN (c_Mo_pair l D cB cI cS ib f (9 + 4 * (yb f (a + 0))) (by have h1 := yb_lt f (a + 0); have h2 := yb_lt f (a + 1); omega) _) k_Mo_pair w_503 ⟨by decide, by decide⟩ hK hP hD [1] rfl rfl rfl hl.1 rfl (Nat.le_of_ble_eq_true rfl) d_Mo_side_35 ⟨Nat.zero_le _, Nat.zero_le _⟩) hP hD hS hA [1] rfl (fun H locs hP hS => ?_)
  refine lv_i2l hx hb d_Mo_side_38 rfl ?_
  refine lv_lstore (lv' := [(5, .long ((ypr f (9 + 4 * (yb f (a + 0)))).toInt64)), (3, .long ((ypr f (7 + 4 * (yb f (a + 0)))).toInt64)), (0, .ref o0), (1, .int (nI a)), (2, .int (nI b))]) hx hb d_Mo_side_39 hl (by decide) rfl (fun ls hl => ?_)
  refine lv_aload_n hx hb d_Mo_side_41 rfl (lv_at hl 2 rfl) ?_
  refine va_get (D := D) (ci := 5) (v := .ref ib) (C := R_Mo) (T := T_Mo) (N := 13) hx hb hts i_Mo hown hK hP 0 rfl rfl 1 (by decide) (hts _ w_419) (fun _ h9 => h9) rfl d_Mo_side_42 ?_
  refine lv_bipush (v := 7) hx hb d_Mo_side_45 (by decide) ?_
  refine lv_iconst (v := 4) hx hb d_Mo_side_47 (by decide) ?_
  refine lv_aload_n hx hb d_Mo_side_48 rfl (lv_at hl 2 rfl) ?_
  refine lv_iload_n hx hb d_Mo_side_49 rfl (lv_at hl 3 rfl) ?_
  refine lv_iconst (v := 1) hx hb d_Mo_side_50 (by decide) ?_
  refine pz_i0 (pz_rV (d := 0) (As := [.int (nI a), .int 1]) (rest := [.int 4, .int 7, .ref ib]) X hN (c_Mo_vertexOf1 l D cB cI cS o0 ib pb qb th ck n nm no q f a (by omega) _) k_Mo_vertexOf w_530 ⟨by decide, by decide⟩ hK hP hD [0, 1] rfl rfl 0 rfl rfl rfl rfl hl.1 rfl (Nat.le_of_ble_eq_true rfl) d_Mo_side_51 ⟨Nat.zero_le _, Nat.zero_le _⟩) hP hD hS hA [0, 1] rfl (fun H locs hP hS => ?_)
  refine lv_imul hx hb d_Mo_side_54 ?_
  refine lv_iadd hx hb d_Mo_side_55 ?_
  rw [nx7 (yb f (a + 1))]
  refine pz_i0 (pz_rS (d := 0) (As := [.ref ib, .int (nI (7 + 4 * (yb f (a + 1))))]) (rest := []) X hN (c_Mo_pair l D cB cI cS ib f (7 + 4 * (yb f (a + 1))) (by have h1 := yb_lt f (a + 0); have h2 := yb_lt f (a + 1); omega) _) k_Mo_pair w_503 ⟨by decide, by decide⟩ hK hP hD [1] rfl rfl rfl hl.1 rfl (Nat.le_of_ble_eq_true rfl) d_Mo_side_56 ⟨Nat.zero_le _, Nat.zero_le _⟩) hP hD hS hA [1] rfl (fun H locs hP hS => ?_)
  refine lv_i2l hx hb d_Mo_side_59 rfl ?_
  refine lv_lstore (lv' := [(7, .long ((ypr f (7 + 4 * (yb f (a + 1)))).toInt64)), (5, .long ((ypr f (9 + 4 * (yb f (a + 0)))).toInt64)), (3, .long ((ypr f (7 + 4 * (yb f (a + 0)))).toInt64)), (0, .ref o0), (1, .int (nI a)), (2, .int (nI b))]) hx hb d_Mo_side_60 hl (by decide) rfl (fun ls hl => ?_)
  refine lv_aload_n hx hb d_Mo_side_62 rfl (lv_at hl 3 rfl) ?_
  refine va_get (D := D) (ci := 5) (v := .ref ib) (C := R_Mo) (T := T_Mo) (N := 13) hx hb hts i_Mo hown hK hP 0 rfl rfl 1 (by decide) (hts _ w_419) (fun _ h9 => h9) rfl d_Mo_side_63 ?_
  refine lv_bipush (v := 9) hx hb d_Mo_side_66 (by decide) ?_
  refine lv_iconst (v := 4) hx hb d_Mo_side_68 (by decide) ?_
  refine lv_aload_n hx hb d_Mo_side_69 rfl (lv_at hl 3 rfl) ?_
  refine lv_iload_n hx hb d_Mo_side_70 rfl (lv_at hl 4 rfl) ?_
  refine lv_iconst (v := 1) hx hb d_Mo_side_71 (by decide) ?_
  refine pz_i0 (pz_rV (d := 0) (As := [.int (nI a), .int 1]) (rest := [.int 4, .int 9, .ref ib]) X hN (c_Mo_vertexOf1 l D cB cI cS o0 ib pb qb th ck n nm no q f a (by omega) _) k_Mo_vertexOf w_530 ⟨by decide, by decide⟩ hK hP hD [0, 1] rfl rfl 0 rfl rfl rfl rfl hl.1 rfl (Nat.le_of_ble_eq_true rfl) d_Mo_side_72 ⟨Nat.zero_le _, Nat.zero_le _⟩) hP hD hS hA [0, 1] rfl (fun H locs hP hS => ?_)
  refine lv_imul hx hb d_Mo_side_75 ?_
  refine lv_iadd hx hb d_Mo_side_76 ?_
  rw [nx9 (yb f (a + 1))]
  refine pz_i0 (pz_rS (d := 0) (As := [.ref ib, .int (nI (9 + 4 * (yb f (a + 1))))]) (rest := []) X hN (c_Mo_pair l D cB cI cS ib f (9 + 4 * (yb f (a + 1))) (by have h1 := yb_lt f (a + 0); have h2 := yb_lt f (a + 1); omega) _) k_Mo_pair w_503 ⟨by decide, by decide⟩ hK hP hD [1] rfl rfl rfl hl.1 rfl (Nat.le_of_ble_eq_true rfl) d_Mo_side_77 ⟨Nat.zero_le _, Nat.zero_le _⟩) hP hD hS hA [1] rfl (fun H locs hP hS => ?_)
  refine lv_i2l hx hb d_Mo_side_80 rfl ?_
  refine lv_lstore (lv' := [(9, .long ((ypr f (9 + 4 * (yb f (a + 1)))).toInt64)), (7, .long ((ypr f (7 + 4 * (yb f (a + 1)))).toInt64)), (5, .long ((ypr f (9 + 4 * (yb f (a + 0)))).toInt64)), (3, .long ((ypr f (7 + 4 * (yb f (a + 0)))).toInt64)), (0, .ref o0), (1, .int (nI a)), (2, .int (nI b))]) hx hb d_Mo_side_81 hl (by decide) rfl (fun ls hl => ?_)
  refine lv_lload hx hb d_Mo_side_83 (lv_at hl 1 rfl) ?_
  refine lv_lload_n hx hb d_Mo_side_85 rfl (lv_at hl 3 rfl) ?_
  refine lv_lsub hx hb d_Mo_side_86 ?_
  refine lv_lload hx hb d_Mo_side_87 (lv_at hl 0 rfl) ?_
  refine lv_lload hx hb d_Mo_side_89 (lv_at hl 2 rfl) ?_
  refine lv_lsub hx hb d_Mo_side_91 ?_
  refine lv_aload_n hx hb d_Mo_side_92 rfl (lv_at hl 4 rfl) ?_
  refine va_get (D := D) (ci := 5) (v := .ref ib) (C := R_Mo) (T := T_Mo) (N := 13) hx hb hts i_Mo hown hK hP 0 rfl rfl 1 (by decide) (hts _ w_419) (fun _ h9 => h9) rfl d_Mo_side_93 ?_
  refine lv_bipush (v := 7) hx hb d_Mo_side_96 (by decide) ?_
  refine lv_iconst (v := 4) hx hb d_Mo_side_98 (by decide) ?_
  refine lv_iload_n hx hb d_Mo_side_99 rfl (lv_at hl 6 rfl) ?_
  refine lv_imul hx hb d_Mo_side_100 ?_
  refine lv_iadd hx hb d_Mo_side_101 ?_
  rw [nx7 b]
  refine pz_i0 (pz_rS (d := 0) (As := [.ref ib, .int (nI (7 + 4 * b))]) (rest := [.long (((ypr f (9 + 4 * (yb f (a + 1)))).toInt64) - ((ypr f (9 + 4 * (yb f (a + 0)))).toInt64)), .long (((ypr f (7 + 4 * (yb f (a + 1)))).toInt64) - ((ypr f (7 + 4 * (yb f (a + 0)))).toInt64))]) X hN (c_Mo_pair l D cB cI cS ib f (7 + 4 * b) (by have h1 := yb_lt f (a + 0); have h2 := yb_lt f (a + 1); omega) _) k_Mo_pair w_503 ⟨by decide, by decide⟩ hK hP hD [1] rfl rfl rfl hl.1 rfl (Nat.le_of_ble_eq_true rfl) d_Mo_side_102 ⟨Nat.zero_le _, Nat.zero_le _⟩) hP hD hS hA [1] rfl (fun H locs hP hS => ?_)
  refine lv_i2l hx hb d_Mo_side_105 rfl ?_
  refine lv_lload_n hx hb d_Mo_side_106 rfl (lv_at hl 3 rfl) ?_
  refine lv_lsub hx hb d_Mo_side_107 ?_
  refine lv_aload_n hx hb d_Mo_side_108 rfl (lv_at hl 4 rfl) ?_
  refine va_get (D := D) (ci := 5) (v := .ref ib) (C := R_Mo) (T := T_Mo) (N := 13) hx hb hts i_Mo hown hK hP 0 rfl rfl 1 (by decide) (hts _ w_419) (fun _ h9 => h9) rfl d_Mo_side_109 ?_
  refine lv_bipush (v := 9) hx hb d_Mo_side_112 (by decide) ?_
  refine lv_iconst (v := 4) hx hb d_Mo_side_114 (by decide) ?_
  refine lv_iload_n hx hb d_Mo_side_115 rfl (lv_at hl 6 rfl) ?_
  refine lv_imul hx hb d_Mo_side_116 ?_
  refine lv_iadd hx hb d_Mo_side_117 ?_
  rw [nx9 b]
  refine pz_i0 (pz_rS (d := 0) (As := [.ref ib, .int (nI (9 + 4 * b))]) (rest := [.long (((ypr f (7 + 4 * b)).toInt64) - ((ypr f (7 + 4 * (yb f (a + 0)))).toInt64)), .long (((ypr f (9 + 4 * (yb f (a + 1)))).toInt64) - ((ypr f (9 + 4 * (yb f (a + 0)))).toInt64)), .long (((ypr f (7 + 4 * (yb f (a + 1)))).toInt64) - ((ypr f (7 + 4 * (yb f (a + 0)))).toInt64))]) X hN (c_Mo_pair l D cB cI cS ib f (9 + 4 * b) (by have h1 := yb_lt f (a + 0); have h2 := yb_lt f (a + 1); omega) _) k_Mo_pair w_503 ⟨by decide, by decide⟩ hK hP hD [1] rfl rfl rfl hl.1 rfl (Nat.le_of_ble_eq_true rfl) d_Mo_side_118 ⟨Nat.zero_le _, Nat.zero_le _⟩) hP hD hS hA [1] rfl (fun H locs hP hS => ?_)
  refine lv_i2l hx hb d_Mo_side_121 rfl ?_
  refine lv_lload hx hb d_Mo_side_122 (lv_at hl 2 rfl) ?_
  refine lv_lsub hx hb d_Mo_side_124 ?_
  refine pz_l0 (pz_rS (d := 0) (As := [.long (((ypr f (7 + 4 * (yb f (a + 1)))).toInt64) - ((ypr f (7 + 4 * (yb f (a + 0)))).toInt64)), .long (((ypr f (9 + 4 * (yb f (a + 1)))).toInt64) - ((ypr f (9 + 4 * (yb f (a + 0)))).toInt64)), .long (((ypr f (7 + 4 * b)).toInt64) - ((ypr f (7 + 4 * (yb f (a + 0)))).toInt64)), .long (((ypr f (9 + 4 * b)).toInt64) - ((ypr f (9 + 4 * (yb f (a + 0)))).toInt64))]) (rest := []) X hN (c_Mo_cross l D cB cI cS (((ypr f (7 + 4 * (yb f (a + 1)))).toInt64) - ((ypr f (7 + 4 * (yb f (a + 0)))).toInt64)) (((ypr f (9 + 4 * (yb f (a + 1)))).toInt64) - ((ypr f (9 + 4 * (yb f (a + 0)))).toInt64)) (((ypr f (7 + 4 * b)).toInt64) - ((ypr f (7 + 4 * (yb f (a + 0)))).toInt64)) (((ypr f (9 + 4 * b)).toInt64) - ((ypr f (9 + 4 * (yb f (a + 0)))).toInt64)) _) k_Mo_cross w_538 ⟨by decide, by decide⟩ hK hP hD [] rfl rfl rfl hl.1 rfl (Nat.le_of_ble_eq_true rfl) d_Mo_side_125 ⟨Nat.zero_le _, Nat.zero_le _⟩) hP hD hS hA [] rfl (fun H locs hP hS => ?_)
  refine lv_lstore (lv' := [(11, .long ((((ypr f (7 + 4 * (yb f (a + 1)))).toInt64) - ((ypr f (7 + 4 * (yb f (a + 0)))).toInt64)) * (((ypr f (9 + 4 * b)).toInt64) - ((ypr f (9 + 4 * (yb f (a + 0)))).toInt64)) - (((ypr f (9 + 4 * (yb f (a + 1)))).toInt64) - ((ypr f (9 + 4 * (yb f (a + 0)))).toInt64)) * (((ypr f (7 + 4 * b)).toInt64) - ((ypr f (7 + 4 * (yb f (a + 0)))).toInt64)))), (9, .long ((ypr f (9 + 4 * (yb f (a + 1)))).toInt64)), (7, .long ((ypr f (7 + 4 * (yb f (a + 1)))).toInt64)), (5, .long ((ypr f (9 + 4 * (yb f (a + 0)))).toInt64)), (3, .long ((ypr f (7 + 4 * (yb f (a + 0)))).toInt64)), (0, .ref o0), (1, .int (nI a)), (2, .int (nI b))]) hx hb d_Mo_side_128 hl (by decide) rfl (fun ls hl => ?_)
  refine lv_lload hx hb d_Mo_side_130 (lv_at hl 0 rfl) ?_
  refine lv_lconst (v := 0) hx hb d_Mo_side_132 (by decide) ?_
  refine W.lcmp hx hb d_Mo_side_133 ?_
  refine lv_if_ge (tgt := 141) hx hb d_Mo_side_134 (by decide) (fun c_1 => ?_) (fun c_1 => ?_)
  · refine lv_lload hx hb d_Mo_side_141 (lv_at hl 0 rfl) ?_
    refine lv_lconst (v := 0) hx hb d_Mo_side_143 (by decide) ?_
    refine W.lcmp hx hb d_Mo_side_144 ?_
    refine lv_if_le (tgt := 152) hx hb d_Mo_side_145 (by decide) (fun c_2 => ?_) (fun c_2 => ?_)
    · refine lv_iconst (v := 0) hx hb d_Mo_side_152 (by decide) ?_
      exact fin _ _ _ _ _ _ d_Mo_side_153 hP hS (by simp only [ysd]; simp only [if_pos (show 0 ≤ lg_cmp (ycr f a b) 0 from c_1), if_pos (show lg_cmp (ycr f a b) 0 ≤ 0 from c_2)]) (rfl)
    · refine lv_iconst (v := 1) hx hb d_Mo_side_148 (by decide) ?_
      refine lv_goto (tgt := 153) hx hb d_Mo_side_149 (by decide) ?_
      exact fin _ _ _ _ _ _ d_Mo_side_153 hP hS (by simp only [ysd]; simp only [if_pos (show 0 ≤ lg_cmp (ycr f a b) 0 from c_1), if_neg (show ¬ (lg_cmp (ycr f a b) 0 ≤ 0) from c_2)]) (rfl)
  · refine lv_iconst (v := (-1)) hx hb d_Mo_side_137 (by decide) ?_
    refine lv_goto (tgt := 153) hx hb d_Mo_side_138 (by decide) ?_
    exact fin _ _ _ _ _ _ d_Mo_side_153 hP hS (by simp only [ysd]; simp only [if_neg (show ¬ (0 ≤ lg_cmp (ycr f a b) 0) from c_1)]) (rfl)

set_option maxRecDepth 100000 in
set_option maxHeartbeats 4000000 in
/-- lies -/
theorem c_Mo_lies (l : Launch) (D : va_G) (cB cI cS : ClassId) (o0 ib pb qb : Nat) (th ck : Int32) (n nm no : Nat) (q : S5) (f : Nat → Int32) (a b : Nat) (ha : a + 1 < 8192) (hb_ : b < 256) : mI l y_Mo_lies b_Mo_lies 11 (some .boolean) 2 D cls [(cB, .byte), (cI, .int), (cS, .object "MapLumps$Span")] [.ref o0, .int (nI a), .int (nI b)] ([(o0, .inr (5, [.int th, .ref ib, .int (nI n), .ref pb, .int (nI nm), .ref qb, .int (nI no), .int q.2.1, .int q.2.2.1, .int ck, .int q.1, .int q.2.2.2.1, .int q.2.2.2.2])), (ib, .inl (cB, 8192, .inl f))]) (yli f a b) ([(o0, .inr (5, [.int th, .ref ib, .int (nI n), .ref pb, .int (nI nm), .ref qb, .int (nI no), .int q.2.1, .int q.2.2.1, .int ck, .int q.1, .int q.2.2.2.1, .int q.2.2.2.2])), (ib, .inl (cB, 8192, .inl f))]) := by
  refine pz_openZ (by decide) (Nat.le_of_ble_eq_true rfl) ?_
  intro p e s m below meth c A ls Q X hN hK hP hD hS hA hl fin
  obtain ⟨hx, hb, hml, hown, hts⟩ := id X
  have hl : lv_has ls 11 [(0, .ref o0), (1, .int (nI a)), (2, .int (nI b))] := hl
  refine lv_aload_n hx hb d_Mo_lies_0 rfl (lv_at hl 0 rfl) ?_
  refine lv_iload_n hx hb d_Mo_lies_1 rfl (lv_at hl 1 rfl) ?_
  refine lv_iconst (v := 0) hx hb d_Mo_lies_2 (by decide) ?_
  refine pz_i0 (pz_rV (d := 0) (As := [.int (nI a), .int 0]) (rest := []) X hN (c_Mo_vertexOf0 l D cB cI cS o0 ib pb qb th ck n nm no q f a (by omega) _) k_Mo_vertexOf w_530 ⟨by decide, by decide⟩ hK hP hD [0, 1] rfl rfl 0 rfl rfl rfl rfl hl.1 rfl (Nat.le_of_ble_eq_true rfl) d_Mo_lies_3 ⟨Nat.zero_le _, Nat.zero_le _⟩) hP hD hS hA [0, 1] rfl (fun H locs hP hS => ?_)
  refine lv_istore_n (lv' := [(3, .int (nI (yb f (a + 0)))), (0, .ref o0), (1, .int (nI a)), (2, .int (nI b))]) hx hb d_Mo_lies_6 rfl hl (by decide) rfl (fun ls hl => ?_)
  refine lv_aload_n hx hb d_Mo_lies_7 rfl (lv_at hl 1 rfl) ?_
  refine lv_iload_n hx hb d_Mo_lies_8 rfl (lv_at hl 2 rfl) ?_
  refine lv_iconst (v := 1) hx hb d_Mo_lies_9 (by decide) ?_
  refine pz_i0 (pz_rV (d := 0) (As := [.int (nI a), .int 1]) (rest := []) X hN (c_Mo_vertexOf1 l D cB cI cS o0 ib pb qb th ck n nm no q f a (by omega) _) k_Mo_vertexOf w_530 ⟨by decide, by decide⟩ hK hP hD [0, 1] rfl rfl 0 rfl rfl rfl rfl hl.1 rfl (Nat.le_of_ble_eq_true rfl) d_Mo_lies_10 ⟨Nat.zero_le _, Nat.zero_le _⟩) hP hD hS hA [0, 1] rfl (fun H locs hP hS => ?_)
  refine lv_istore (lv' := [(4, .int (nI (yb f (a + 1)))), (3, .int (nI (yb f (a + 0)))), (0, .ref o0), (1, .int (nI a)), (2, .int (nI b))]) hx hb d_Mo_lies_13 hl (by decide) rfl (fun ls hl => ?_)
  refine lv_iload_n hx hb d_Mo_lies_15 rfl (lv_at hl 4 rfl) ?_
  refine lv_iload_n hx hb d_Mo_lies_16 rfl (lv_at hl 1 rfl) ?_
  refine lv_icmp_eq (tgt := 35) hx hb d_Mo_lies_17 (by decide) (fun c_1 => ?_) (fun c_1 => ?_)
  · refine lv_iconst (v := 0) hx hb d_Mo_lies_35 (by decide) ?_
    exact fin _ _ _ _ _ _ d_Mo_lies_36 hP hS (by simp only [yli]; simp only [if_pos (show nI b = nI (yb f (a + 0)) from c_1)]) (rfl) rfl
  · refine lv_iload_n hx hb d_Mo_lies_20 rfl (lv_at hl 4 rfl) ?_
    refine lv_iload hx hb d_Mo_lies_21 (lv_at hl 0 rfl) ?_
    refine lv_icmp_eq (tgt := 35) hx hb d_Mo_lies_23 (by decide) (fun c_2 => ?_) (fun c_2 => ?_)
    · refine lv_iconst (v := 0) hx hb d_Mo_lies_35 (by decide) ?_
      exact fin _ _ _ _ _ _ d_Mo_lies_36 hP hS (by simp only [yli]; simp only [if_neg (show ¬ (nI b = nI (yb f (a + 0))) from c_1), if_pos (show nI b = nI (yb f (a + 1)) from c_2)]) (rfl) rfl
    · refine lv_aload_n hx hb d_Mo_lies_26 rfl (lv_at hl 2 rfl) ?_
      refine lv_iload_n hx hb d_Mo_lies_27 rfl (lv_at hl 3 rfl) ?_
      refine lv_iload_n hx hb d_Mo_lies_28 rfl (lv_at hl 4 rfl) ?_
      refine pz_i0 (pz_rV (d := 1) (As := [.int (nI a), .int (nI b)]) (rest := []) X hN (c_Mo_side l D cB cI cS o0 ib pb qb th ck n nm no q f a b (by omega) (by first | omega | exact yb_lt _ _) _) k_Mo_side w_534 ⟨by decide, by decide⟩ hK hP hD [0, 1] rfl rfl 0 rfl rfl rfl rfl hl.1 rfl (Nat.le_of_ble_eq_true rfl) d_Mo_lies_29 ⟨Nat.zero_le _, Nat.zero_le _⟩) hP hD hS hA [0, 1] rfl (fun H locs hP hS => ?_)
      refine lv_if_eq (tgt := 37) hx hb d_Mo_lies_32 (by decide) (fun c_3 => ?_) (fun c_3 => ?_)
      · refine lv_aload_n hx hb d_Mo_lies_37 rfl (lv_at hl 2 rfl) ?_
        refine va_get (D := D) (ci := 5) (v := .ref ib) (C := R_Mo) (T := T_Mo) (N := 13) hx hb hts i_Mo hown hK hP 0 rfl rfl 1 (by decide) (hts _ w_419) (fun _ h9 => h9) rfl d_Mo_lies_38 ?_
        refine lv_bipush (v := 7) hx hb d_Mo_lies_41 (by decide) ?_
        refine lv_iconst (v := 4) hx hb d_Mo_lies_43 (by decide) ?_
        refine lv_iload_n hx hb d_Mo_lies_44 rfl (lv_at hl 4 rfl) ?_
        refine lv_imul hx hb d_Mo_lies_45 ?_
        refine lv_iadd hx hb d_Mo_lies_46 ?_
        rw [nx7 b]
        refine pz_i0 (pz_rS (d := 0) (As := [.ref ib, .int (nI (7 + 4 * b))]) (rest := []) X hN (c_Mo_pair l D cB cI cS ib f (7 + 4 * b) (by have h1 := yb_lt f (a + 0); have h2 := yb_lt f (a + 1); omega) _) k_Mo_pair w_503 ⟨by decide, by decide⟩ hK hP hD [1] rfl rfl rfl hl.1 rfl (Nat.le_of_ble_eq_true rfl) d_Mo_lies_47 ⟨Nat.zero_le _, Nat.zero_le _⟩) hP hD hS hA [1] rfl (fun H locs hP hS => ?_)
        refine lv_i2l hx hb d_Mo_lies_50 rfl ?_
        refine lv_lstore (lv' := [(5, .long ((ypr f (7 + 4 * b)).toInt64)), (4, .int (nI (yb f (a + 1)))), (3, .int (nI (yb f (a + 0)))), (0, .ref o0), (1, .int (nI a)), (2, .int (nI b))]) hx hb d_Mo_lies_51 hl (by decide) rfl (fun ls hl => ?_)
        refine lv_aload_n hx hb d_Mo_lies_53 rfl (lv_at hl 3 rfl) ?_
        refine va_get (D := D) (ci := 5) (v := .ref ib) (C := R_Mo) (T := T_Mo) (N := 13) hx hb hts i_Mo hown hK hP 0 rfl rfl 1 (by decide) (hts _ w_419) (fun _ h9 => h9) rfl d_Mo_lies_54 ?_
        refine lv_bipush (v := 9) hx hb d_Mo_lies_57 (by decide) ?_
        refine lv_iconst (v := 4) hx hb d_Mo_lies_59 (by decide) ?_
        refine lv_iload_n hx hb d_Mo_lies_60 rfl (lv_at hl 5 rfl) ?_
        refine lv_imul hx hb d_Mo_lies_61 ?_
        refine lv_iadd hx hb d_Mo_lies_62 ?_
        rw [nx9 b]
        refine pz_i0 (pz_rS (d := 0) (As := [.ref ib, .int (nI (9 + 4 * b))]) (rest := []) X hN (c_Mo_pair l D cB cI cS ib f (9 + 4 * b) (by have h1 := yb_lt f (a + 0); have h2 := yb_lt f (a + 1); omega) _) k_Mo_pair w_503 ⟨by decide, by decide⟩ hK hP hD [1] rfl rfl rfl hl.1 rfl (Nat.le_of_ble_eq_true rfl) d_Mo_lies_63 ⟨Nat.zero_le _, Nat.zero_le _⟩) hP hD hS hA [1] rfl (fun H locs hP hS => ?_)
        refine lv_i2l hx hb d_Mo_lies_66 rfl ?_
        refine lv_lstore (lv' := [(7, .long ((ypr f (9 + 4 * b)).toInt64)), (5, .long ((ypr f (7 + 4 * b)).toInt64)), (4, .int (nI (yb f (a + 1)))), (3, .int (nI (yb f (a + 0)))), (0, .ref o0), (1, .int (nI a)), (2, .int (nI b))]) hx hb d_Mo_lies_67 hl (by decide) rfl (fun ls hl => ?_)
        refine lv_aload_n hx hb d_Mo_lies_69 rfl (lv_at hl 4 rfl) ?_
        refine va_get (D := D) (ci := 5) (v := .ref ib) (C := R_Mo) (T := T_Mo) (N := 13) hx hb hts i_Mo hown hK hP 0 rfl rfl 1 (by decide) (hts _ w_419) (fun _ h9 => h9) rfl d_Mo_lies_70 ?_
        refine lv_bipush (v := 7) hx hb d_Mo_lies_73 (by decide) ?_
        refine lv_iconst (v := 4) hx hb d_Mo_lies_75 (by decide) ?_
        refine lv_iload_n hx hb d_Mo_lies_76 rfl (lv_at hl 3 rfl) ?_
        refine lv_imul hx hb d_Mo_lies_77 ?_
        refine lv_iadd hx hb d_Mo_lies_78 ?_
        rw [nx7 (yb f (a + 0))]
        refine pz_i0 (pz_rS (d := 0) (As := [.ref ib, .int (nI (7 + 4 * (yb f (a + 0))))]) (rest := []) X hN (c_Mo_pair l D cB cI cS ib f (7 + 4 * (yb f (a + 0))) (by have h1 := yb_lt f (a + 0); have h2 := yb_lt f (a + 1); omega) _) k_Mo_pair w_503 ⟨by decide, by decide⟩ hK hP hD [1] rfl rfl rfl hl.1 rfl (Nat.le_of_ble_eq_true rfl) d_Mo_lies_79 ⟨Nat.zero_le _, Nat.zero_le _⟩) hP hD hS hA [1] rfl (fun H locs hP hS => ?_)
        refine lv_i2l hx hb d_Mo_lies_82 rfl ?_
        refine lv_lload hx hb d_Mo_lies_83 (lv_at hl 1 rfl) ?_
        refine lv_lsub hx hb d_Mo_lies_85 ?_
        refine lv_aload_n hx hb d_Mo_lies_86 rfl (lv_at hl 4 rfl) ?_
        refine va_get (D := D) (ci := 5) (v := .ref ib) (C := R_Mo) (T := T_Mo) (N := 13) hx hb hts i_Mo hown hK hP 0 rfl rfl 1 (by decide) (hts _ w_419) (fun _ h9 => h9) rfl d_Mo_lies_87 ?_
        refine lv_bipush (v := 7) hx hb d_Mo_lies_90 (by decide) ?_
        refine lv_iconst (v := 4) hx hb d_Mo_lies_92 (by decide) ?_
        refine lv_iload hx hb d_Mo_lies_93 (lv_at hl 2 rfl) ?_
        refine lv_imul hx hb d_Mo_lies_95 ?_
        refine lv_iadd hx hb d_Mo_lies_96 ?_
        rw [nx7 (yb f (a + 1))]
        refine pz_i0 (pz_rS (d := 0) (As := [.ref ib, .int (nI (7 + 4 * (yb f (a + 1))))]) (rest := [.long (((ypr f (7 + 4 * (yb f (a + 0)))).toInt64) - ((ypr f (7 + 4 * b)).toInt64))]) X hN (c_Mo_pair l D cB cI cS ib f (7 + 4 * (yb f (a + 1))) (by have h1 := yb_lt f (a + 0); have h2 := yb_lt f (a + 1); omega) _) k_Mo_pair w_503 ⟨by decide, by decide⟩ hK hP hD [1] rfl rfl rfl hl.1 rfl (Nat.le_of_ble_eq_true rfl) d_Mo_lies_97 ⟨Nat.zero_le _, Nat.zero_le _⟩) hP hD hS hA [1] rfl (fun H locs hP hS => ?_)
        refine lv_i2l hx hb d_Mo_lies_100 rfl ?_
        refine lv_lload hx hb d_Mo_lies_101 (lv_at hl 1 rfl) ?_
        refine lv_lsub hx hb d_Mo_lies_103 ?_
        refine lv_lmul hx hb d_Mo_lies_104 ?_
        refine lv_aload_n hx hb d_Mo_lies_105 rfl (lv_at hl 4 rfl) ?_
        refine va_get (D := D) (ci := 5) (v := .ref ib) (C := R_Mo) (T := T_Mo) (N := 13) hx hb hts i_Mo hown hK hP 0 rfl rfl 1 (by decide) (hts _ w_419) (fun _ h9 => h9) rfl d_Mo_lies_106 ?_
        refine lv_bipush (v := 9) hx hb d_Mo_lies_109 (by decide) ?_
        refine lv_iconst (v := 4) hx hb d_Mo_lies_111 (by decide) ?_
        refine lv_iload_n hx hb d_Mo_lies_112 rfl (lv_at hl 3 rfl) ?_
        refine lv_imul hx hb d_Mo_lies_113 ?_
        refine lv_iadd hx hb d_Mo_lies_114 ?_
        rw [nx9 (yb f (a + 0))]
        refine pz_i0 (pz_rS (d := 0) (As := [.ref ib, .int (nI (9 + 4 * (yb f (a + 0))))]) (rest := [.long ((((ypr f (7 + 4 * (yb f (a + 0)))).toInt64) - ((ypr f (7 + 4 * b)).toInt64)) * (((ypr f (7 + 4 * (yb f (a + 1)))).toInt64) - ((ypr f (7 + 4 * b)).toInt64)))]) X hN (c_Mo_pair l D cB cI cS ib f (9 + 4 * (yb f (a + 0))) (by have h1 := yb_lt f (a + 0); have h2 := yb_lt f (a + 1); omega) _) k_Mo_pair w_503 ⟨by decide, by decide⟩ hK hP hD [1] rfl rfl rfl hl.1 rfl (Nat.le_of_ble_eq_true rfl) d_Mo_lies_115 ⟨Nat.zero_le _, Nat.zero_le _⟩) hP hD hS hA [1] rfl (fun H locs hP hS => ?_)
        refine lv_i2l hx hb d_Mo_lies_118 rfl ?_
        refine lv_lload hx hb d_Mo_lies_119 (lv_at hl 0 rfl) ?_
        refine lv_lsub hx hb d_Mo_lies_121 ?_
        refine lv_aload_n hx hb d_Mo_lies_122 rfl (lv_at hl 4 rfl) ?_
        refine va_get (D := D) (ci := 5) (v := .ref ib) (C := R_Mo) (T := T_Mo) (N := 13) hx hb hts i_Mo hown hK hP 0 rfl rfl 1 (by decide) (hts _ w_419) (fun _ h9 => h9) rfl d_Mo_lies_123 ?_
        refine lv_bipush (v := 9) hx hb d_Mo_lies_126 (by decide) ?_
        refine lv_iconst (v := 4) hx hb d_Mo_lies_128 (by decide) ?_
        refine lv_iload hx hb d_Mo_lies_129 (lv_at hl 2 rfl) ?_
        refine lv_imul hx hb d_Mo_lies_131 ?_
        refine lv_iadd hx hb d_Mo_lies_132 ?_
        rw [nx9 (yb f (a + 1))]
        refine pz_i0 (pz_rS (d := 0) (As := [.ref ib, .int (nI (9 + 4 * (yb f (a + 1))))]) (rest := [.long (((ypr f (9 + 4 * (yb f (a + 0)))).toInt64) - ((ypr f (9 + 4 * b)).toInt64)), .long ((((ypr f (7 + 4 * (yb f (a + 0)))).toInt64) - ((ypr f (7 + 4 * b)).toInt64)) * (((ypr f (7 + 4 * (yb f (a + 1)))).toInt64) - ((ypr f (7 + 4 * b)).toInt64)))]) X hN (c_Mo_pair l D cB cI cS ib f (9 + 4 * (yb f (a + 1))) (by have h1 := yb_lt f (a + 0); have h2 := yb_lt f (a + 1); omega) _) k_Mo_pair w_503 ⟨by decide, by decide⟩ hK hP hD [1] rfl rfl rfl hl.1 rfl (Nat.le_of_ble_eq_true rfl) d_Mo_lies_133 ⟨Nat.zero_le _, Nat.zero_le _⟩) hP hD hS hA [1] rfl (fun H locs hP hS => ?_)
        refine lv_i2l hx hb d_Mo_lies_136 rfl ?_
        refine lv_lload hx hb d_Mo_lies_137 (lv_at hl 0 rfl) ?_
        refine lv_lsub hx hb d_Mo_lies_139 ?_
        refine lv_lmul hx hb d_Mo_lies_140 ?_
        refine lv_ladd hx hb d_Mo_lies_141 ?_
        refine lv_lstore (lv' := [(9, .long (((((ypr f (7 + 4 * (yb f (a + 0)))).toInt64) - ((ypr f (7 + 4 * b)).toInt64)) * (((ypr f (7 + 4 * (yb f (a + 1)))).toInt64) - ((ypr f (7 + 4 * b)).toInt64))) + ((((ypr f (9 + 4 * (yb f (a + 0)))).toInt64) - ((ypr f (9 + 4 * b)).toInt64)) * (((ypr f (9 + 4 * (yb f (a + 1)))).toInt64) - ((ypr f (9 + 4 * b)).toInt64))))), (7, .long ((ypr f (9 + 4 * b)).toInt64)), (5, .long ((ypr f (7 + 4 * b)).toInt64)), (4, .int (nI (yb f (a + 1)))), (3, .int (nI (yb f (a + 0)))), (0, .ref o0), (1, .int (nI a)), (2, .int (nI b))]) hx hb d_Mo_lies_142 hl (by decide) rfl (fun ls hl => ?_)
        refine lv_lload hx hb d_Mo_lies_144 (lv_at hl 0 rfl) ?_
        refine lv_lconst (v := 0) hx hb d_Mo_lies_146 (by decide) ?_
        refine W.lcmp hx hb d_Mo_lies_147 ?_
        refine lv_if_ge (tgt := 155) hx hb d_Mo_lies_148 (by decide) (fun c_4 => ?_) (fun c_4 => ?_)
        · refine lv_iconst (v := 0) hx hb d_Mo_lies_155 (by decide) ?_
          exact fin _ _ _ _ _ _ d_Mo_lies_156 hP hS (by simp only [yli]; simp only [if_neg (show ¬ (nI b = nI (yb f (a + 0))) from c_1), if_neg (show ¬ (nI b = nI (yb f (a + 1))) from c_2), if_pos (show ysd f a b = 0 from c_3), if_pos (show 0 ≤ lg_cmp (ydt f a b) 0 from c_4)]) (rfl) rfl
        · refine lv_iconst (v := 1) hx hb d_Mo_lies_151 (by decide) ?_
          refine lv_goto (tgt := 156) hx hb d_Mo_lies_152 (by decide) ?_
          exact fin _ _ _ _ _ _ d_Mo_lies_156 hP hS (by simp only [yli]; simp only [if_neg (show ¬ (nI b = nI (yb f (a + 0))) from c_1), if_neg (show ¬ (nI b = nI (yb f (a + 1))) from c_2), if_pos (show ysd f a b = 0 from c_3), if_neg (show ¬ (0 ≤ lg_cmp (ydt f a b) 0) from c_4)]) (rfl) rfl
      · refine lv_iconst (v := 0) hx hb d_Mo_lies_35 (by decide) ?_
        exact fin _ _ _ _ _ _ d_Mo_lies_36 hP hS (by simp only [yli]; simp only [if_neg (show ¬ (nI b = nI (yb f (a + 0))) from c_1), if_neg (show ¬ (nI b = nI (yb f (a + 1))) from c_2), if_neg (show ¬ (ysd f a b = 0) from c_3)]) (rfl) rfl

set_option maxRecDepth 100000 in
set_option maxHeartbeats 4000000 in
/-- touch -/
theorem c_Mo_touch (l : Launch) (D : va_G) (cB cI cS : ClassId) (o0 ib pb qb : Nat) (th ck : Int32) (n nm no : Nat) (q : S5) (f : Nat → Int32) (a b : Nat) (ha : a + 1 < 8192) (hb_ : b + 1 < 8192) : mI l y_Mo_touch b_Mo_touch 9 (some .boolean) 3 D cls [(cB, .byte), (cI, .int), (cS, .object "MapLumps$Span")] [.ref o0, .int (nI a), .int (nI b)] ([(o0, .inr (5, [.int th, .ref ib, .int (nI n), .ref pb, .int (nI nm), .ref qb, .int (nI no), .int q.2.1, .int q.2.2.1, .int ck, .int q.1, .int q.2.2.2.1, .int q.2.2.2.2])), (ib, .inl (cB, 8192, .inl f))]) (ytc f a b) ([(o0, .inr (5, [.int th, .ref ib, .int (nI n), .ref pb, .int (nI nm), .ref qb, .int (nI no), .int q.2.1, .int q.2.2.1, .int ck, .int q.1, .int q.2.2.2.1, .int q.2.2.2.2])), (ib, .inl (cB, 8192, .inl f))]) := by
  refine pz_openZ (by decide) (Nat.le_of_ble_eq_true rfl) ?_
  intro p e s m below meth c A ls Q X hN hK hP hD hS hA hl fin
  obtain ⟨hx, hb, hml, hown, hts⟩ := id X
  have hl : lv_has ls 9 [(0, .ref o0), (1, .int (nI a)), (2, .int (nI b))] := hl
  refine lv_aload_n hx hb d_Mo_touch_0 rfl (lv_at hl 0 rfl) ?_
  refine lv_iload_n hx hb d_Mo_touch_1 rfl (lv_at hl 1 rfl) ?_
  refine lv_iconst (v := 0) hx hb d_Mo_touch_2 (by decide) ?_
  refine pz_i0 (pz_rV (d := 0) (As := [.int (nI a), .int 0]) (rest := []) X hN (c_Mo_vertexOf0 l D cB cI cS o0 ib pb qb th ck n nm no q f a (by omega) _) k_Mo_vertexOf w_530 ⟨by decide, by decide⟩ hK hP hD [0, 1] rfl rfl 0 rfl rfl rfl rfl hl.1 rfl (Nat.le_of_ble_eq_true rfl) d_Mo_touch_3 ⟨Nat.zero_le _, Nat.zero_le _⟩) hP hD hS hA [0, 1] rfl (fun H locs hP hS => ?_)
  refine lv_istore_n (lv' := [(3, .int (nI (yb f (a + 0)))), (0, .ref o0), (1, .int (nI a)), (2, .int (nI b))]) hx hb d_Mo_touch_6 rfl hl (by decide) rfl (fun ls hl => ?_)
  refine lv_aload_n hx hb d_Mo_touch_7 rfl (lv_at hl 1 rfl) ?_
  refine lv_iload_n hx hb d_Mo_touch_8 rfl (lv_at hl 2 rfl) ?_
  refine lv_iconst (v := 1) hx hb d_Mo_touch_9 (by decide) ?_
  refine pz_i0 (pz_rV (d := 0) (As := [.int (nI a), .int 1]) (rest := []) X hN (c_Mo_vertexOf1 l D cB cI cS o0 ib pb qb th ck n nm no q f a (by omega) _) k_Mo_vertexOf w_530 ⟨by decide, by decide⟩ hK hP hD [0, 1] rfl rfl 0 rfl rfl rfl rfl hl.1 rfl (Nat.le_of_ble_eq_true rfl) d_Mo_touch_10 ⟨Nat.zero_le _, Nat.zero_le _⟩) hP hD hS hA [0, 1] rfl (fun H locs hP hS => ?_)
  refine lv_istore (lv' := [(4, .int (nI (yb f (a + 1)))), (3, .int (nI (yb f (a + 0)))), (0, .ref o0), (1, .int (nI a)), (2, .int (nI b))]) hx hb d_Mo_touch_13 hl (by decide) rfl (fun ls hl => ?_)
  refine lv_aload_n hx hb d_Mo_touch_15 rfl (lv_at hl 2 rfl) ?_
  refine lv_iload_n hx hb d_Mo_touch_16 rfl (lv_at hl 4 rfl) ?_
  refine lv_iconst (v := 0) hx hb d_Mo_touch_17 (by decide) ?_
  refine pz_i0 (pz_rV (d := 0) (As := [.int (nI b), .int 0]) (rest := []) X hN (c_Mo_vertexOf0 l D cB cI cS o0 ib pb qb th ck n nm no q f b (by omega) _) k_Mo_vertexOf w_530 ⟨by decide, by decide⟩ hK hP hD [0, 1] rfl rfl 0 rfl rfl rfl rfl hl.1 rfl (Nat.le_of_ble_eq_true rfl) d_Mo_touch_18 ⟨Nat.zero_le _, Nat.zero_le _⟩) hP hD hS hA [0, 1] rfl (fun H locs hP hS => ?_)
  refine lv_istore (lv' := [(5, .int (nI (yb f (b + 0)))), (4, .int (nI (yb f (a + 1)))), (3, .int (nI (yb f (a + 0)))), (0, .ref o0), (1, .int (nI a)), (2, .int (nI b))]) hx hb d_Mo_touch_21 hl (by decide) rfl (fun ls hl => ?_)
  refine lv_aload_n hx hb d_Mo_touch_23 rfl (lv_at hl 3 rfl) ?_
  refine lv_iload_n hx hb d_Mo_touch_24 rfl (lv_at hl 5 rfl) ?_
  refine lv_iconst (v := 1) hx hb d_Mo_touch_25 (by decide) ?_
  refine pz_i0 (pz_rV (d := 0) (As := [.int (nI b), .int 1]) (rest := []) X hN (c_Mo_vertexOf1 l D cB cI cS o0 ib pb qb th ck n nm no q f b (by omega) _) k_Mo_vertexOf w_530 ⟨by decide, by decide⟩ hK hP hD [0, 1] rfl rfl 0 rfl rfl rfl rfl hl.1 rfl (Nat.le_of_ble_eq_true rfl) d_Mo_touch_26 ⟨Nat.zero_le _, Nat.zero_le _⟩) hP hD hS hA [0, 1] rfl (fun H locs hP hS => ?_)
  refine lv_istore (lv' := [(6, .int (nI (yb f (b + 1)))), (5, .int (nI (yb f (b + 0)))), (4, .int (nI (yb f (a + 1)))), (3, .int (nI (yb f (a + 0)))), (0, .ref o0), (1, .int (nI a)), (2, .int (nI b))]) hx hb d_Mo_touch_29 hl (by decide) rfl (fun ls hl => ?_)
  have j106 : ∀ (x7 : Int32) (x8 : Int32) (ls : Array Slot) (H : Heap) (locs : List Loc), x7 = ysm (yb f (a + 0)) (yb f (a + 1)) (yb f (b + 0)) (yb f (b + 1)) → x8 = ycu f a b (yb f (a + 0)) (yb f (a + 1)) (yb f (b + 0)) (yb f (b + 1)) → va_P D cls ([(o0, .inr (5, [.int th, .ref ib, .int (nI n), .ref pb, .int (nI nm), .ref qb, .int (nI no), .int q.2.1, .int q.2.2.1, .int ck, .int q.1, .int q.2.2.2.1, .int q.2.2.2.2])), (ib, .inl (cB, 8192, .inl f))]) H → va_S A s.heap H locs → lv_has ls 9 [(0, .ref o0), (1, .int (nI a)), (2, .int (nI b)), (3, .int (nI (yb f (a + 0)))), (4, .int (nI (yb f (a + 1)))), (5, .int (nI (yb f (b + 0)))), (6, .int (nI (yb f (b + 1)))), (7, .int x7), (8, .int x8)] → W p l e (rmd 3) s m ([.ref o0, .int (nI a), .int (nI b)] : List Value).toArray below meth c H locs 0 0 Q (F0 m 106 ls []) := by
    intro x7 x8 ls H locs h7 h8 hP hS hl
    refine lv_iload hx hb d_Mo_touch_106 (lv_at hl 7 rfl) ?_
    refine lv_if_ne (tgt := 155) hx hb d_Mo_touch_108 (by decide) (fun c_1 => ?_) (fun c_1 => ?_)
    · refine lv_iconst (v := 1) hx hb d_Mo_touch_155 (by decide) ?_
      refine lv_goto (tgt := 160) hx hb d_Mo_touch_156 (by decide) ?_
      exact fin _ _ _ _ _ _ d_Mo_touch_160 hP hS (by simp only [ytc, yt6, if_neg (show ¬ (ysm (yb f (a + 0)) (yb f (a + 1)) (yb f (b + 0)) (yb f (b + 1)) = 0) from h7 ▸ c_1)]) (rfl) rfl
    · refine lv_iload hx hb d_Mo_touch_111 (lv_at hl 8 rfl) ?_
      refine lv_if_ne (tgt := 155) hx hb d_Mo_touch_113 (by decide) (fun c_2 => ?_) (fun c_2 => ?_)
      · refine lv_iconst (v := 1) hx hb d_Mo_touch_155 (by decide) ?_
        refine lv_goto (tgt := 160) hx hb d_Mo_touch_156 (by decide) ?_
        exact fin _ _ _ _ _ _ d_Mo_touch_160 hP hS (by simp only [ytc, yt6, if_pos (show ysm (yb f (a + 0)) (yb f (a + 1)) (yb f (b + 0)) (yb f (b + 1)) = 0 from h7 ▸ c_1), if_neg (show ¬ (ycu f a b (yb f (a + 0)) (yb f (a + 1)) (yb f (b + 0)) (yb f (b + 1)) = 0) from h8 ▸ c_2)]) (rfl) rfl
      · refine lv_aload_n hx hb d_Mo_touch_116 rfl (lv_at hl 0 rfl) ?_
        refine lv_iload_n hx hb d_Mo_touch_117 rfl (lv_at hl 1 rfl) ?_
        refine lv_iload hx hb d_Mo_touch_118 (lv_at hl 5 rfl) ?_
        refine pz_i0 (pz_rV (d := 2) (As := [.int (nI a), .int (nI (yb f (b + 0)))]) (rest := []) X hN (c_Mo_lies l D cB cI cS o0 ib pb qb th ck n nm no q f a (yb f (b + 0)) (by omega) (by first | omega | exact yb_lt _ _) _) k_Mo_lies w_541 ⟨by decide, by decide⟩ hK hP hD [0, 1] rfl rfl 0 rfl rfl rfl rfl hl.1 rfl (Nat.le_of_ble_eq_true rfl) d_Mo_touch_120 ⟨Nat.zero_le _, Nat.zero_le _⟩) hP hD hS hA [0, 1] rfl (fun H locs hP hS => ?_)
        refine lv_if_ne (tgt := 155) hx hb d_Mo_touch_123 (by decide) (fun c_3 => ?_) (fun c_3 => ?_)
        · refine lv_iconst (v := 1) hx hb d_Mo_touch_155 (by decide) ?_
          refine lv_goto (tgt := 160) hx hb d_Mo_touch_156 (by decide) ?_
          exact fin _ _ _ _ _ _ d_Mo_touch_160 hP hS (by simp only [ytc, yt6, if_pos (show ysm (yb f (a + 0)) (yb f (a + 1)) (yb f (b + 0)) (yb f (b + 1)) = 0 from h7 ▸ c_1), if_pos (show ycu f a b (yb f (a + 0)) (yb f (a + 1)) (yb f (b + 0)) (yb f (b + 1)) = 0 from h8 ▸ c_2), if_neg c_3]) (rfl) rfl
        · refine lv_aload_n hx hb d_Mo_touch_126 rfl (lv_at hl 0 rfl) ?_
          refine lv_iload_n hx hb d_Mo_touch_127 rfl (lv_at hl 1 rfl) ?_
          refine lv_iload hx hb d_Mo_touch_128 (lv_at hl 6 rfl) ?_
          refine pz_i0 (pz_rV (d := 2) (As := [.int (nI a), .int (nI (yb f (b + 1)))]) (rest := []) X hN (c_Mo_lies l D cB cI cS o0 ib pb qb th ck n nm no q f a (yb f (b + 1)) (by omega) (by first | omega | exact yb_lt _ _) _) k_Mo_lies w_541 ⟨by decide, by decide⟩ hK hP hD [0, 1] rfl rfl 0 rfl rfl rfl rfl hl.1 rfl (Nat.le_of_ble_eq_true rfl) d_Mo_touch_130 ⟨Nat.zero_le _, Nat.zero_le _⟩) hP hD hS hA [0, 1] rfl (fun H locs hP hS => ?_)
          refine lv_if_ne (tgt := 155) hx hb d_Mo_touch_133 (by decide) (fun c_4 => ?_) (fun c_4 => ?_)
          · refine lv_iconst (v := 1) hx hb d_Mo_touch_155 (by decide) ?_
            refine lv_goto (tgt := 160) hx hb d_Mo_touch_156 (by decide) ?_
            exact fin _ _ _ _ _ _ d_Mo_touch_160 hP hS (by simp only [ytc, yt6, if_pos (show ysm (yb f (a + 0)) (yb f (a + 1)) (yb f (b + 0)) (yb f (b + 1)) = 0 from h7 ▸ c_1), if_pos (show ycu f a b (yb f (a + 0)) (yb f (a + 1)) (yb f (b + 0)) (yb f (b + 1)) = 0 from h8 ▸ c_2), if_pos c_3, if_neg c_4]) (rfl) rfl
          · refine lv_aload_n hx hb d_Mo_touch_136 rfl (lv_at hl 0 rfl) ?_
            refine lv_iload_n hx hb d_Mo_touch_137 rfl (lv_at hl 2 rfl) ?_
            refine lv_iload_n hx hb d_Mo_touch_138 rfl (lv_at hl 3 rfl) ?_
            refine pz_i0 (pz_rV (d := 2) (As := [.int (nI b), .int (nI (yb f (a + 0)))]) (rest := []) X hN (c_Mo_lies l D cB cI cS o0 ib pb qb th ck n nm no q f b (yb f (a + 0)) (by omega) (by first | omega | exact yb_lt _ _) _) k_Mo_lies w_541 ⟨by decide, by decide⟩ hK hP hD [0, 1] rfl rfl 0 rfl rfl rfl rfl hl.1 rfl (Nat.le_of_ble_eq_true rfl) d_Mo_touch_139 ⟨Nat.zero_le _, Nat.zero_le _⟩) hP hD hS hA [0, 1] rfl (fun H locs hP hS => ?_)
            refine lv_if_ne (tgt := 155) hx hb d_Mo_touch_142 (by decide) (fun c_5 => ?_) (fun c_5 => ?_)
            · refine lv_iconst (v := 1) hx hb d_Mo_touch_155 (by decide) ?_
              refine lv_goto (tgt := 160) hx hb d_Mo_touch_156 (by decide) ?_
              exact fin _ _ _ _ _ _ d_Mo_touch_160 hP hS (by simp only [ytc, yt6, if_pos (show ysm (yb f (a + 0)) (yb f (a + 1)) (yb f (b + 0)) (yb f (b + 1)) = 0 from h7 ▸ c_1), if_pos (show ycu f a b (yb f (a + 0)) (yb f (a + 1)) (yb f (b + 0)) (yb f (b + 1)) = 0 from h8 ▸ c_2), if_pos c_3, if_pos c_4, if_neg c_5]) (rfl) rfl
            · refine lv_aload_n hx hb d_Mo_touch_145 rfl (lv_at hl 0 rfl) ?_
              refine lv_iload_n hx hb d_Mo_touch_146 rfl (lv_at hl 2 rfl) ?_
              refine lv_iload hx hb d_Mo_touch_147 (lv_at hl 4 rfl) ?_
              refine pz_i0 (pz_rV (d := 2) (As := [.int (nI b), .int (nI (yb f (a + 1)))]) (rest := []) X hN (c_Mo_lies l D cB cI cS o0 ib pb qb th ck n nm no q f b (yb f (a + 1)) (by omega) (by first | omega | exact yb_lt _ _) _) k_Mo_lies w_541 ⟨by decide, by decide⟩ hK hP hD [0, 1] rfl rfl 0 rfl rfl rfl rfl hl.1 rfl (Nat.le_of_ble_eq_true rfl) d_Mo_touch_149 ⟨Nat.zero_le _, Nat.zero_le _⟩) hP hD hS hA [0, 1] rfl (fun H locs hP hS => ?_)
              refine lv_if_eq (tgt := 159) hx hb d_Mo_touch_152 (by decide) (fun c_6 => ?_) (fun c_6 => ?_)
              · refine lv_iconst (v := 0) hx hb d_Mo_touch_159 (by decide) ?_
                exact fin _ _ _ _ _ _ d_Mo_touch_160 hP hS (by simp only [ytc, yt6, if_pos (show ysm (yb f (a + 0)) (yb f (a + 1)) (yb f (b + 0)) (yb f (b + 1)) = 0 from h7 ▸ c_1), if_pos (show ycu f a b (yb f (a + 0)) (yb f (a + 1)) (yb f (b + 0)) (yb f (b + 1)) = 0 from h8 ▸ c_2), if_pos c_3, if_pos c_4, if_pos c_5, if_pos c_6]) (rfl) rfl
              · refine lv_iconst (v := 1) hx hb d_Mo_touch_155 (by decide) ?_
                refine lv_goto (tgt := 160) hx hb d_Mo_touch_156 (by decide) ?_
                exact fin _ _ _ _ _ _ d_Mo_touch_160 hP hS (by simp only [ytc, yt6, if_pos (show ysm (yb f (a + 0)) (yb f (a + 1)) (yb f (b + 0)) (yb f (b + 1)) = 0 from h7 ▸ c_1), if_pos (show ycu f a b (yb f (a + 0)) (yb f (a + 1)) (yb f (b + 0)) (yb f (b + 1)) = 0 from h8 ▸ c_2), if_pos c_3, if_pos c_4, if_pos c_5, if_neg c_6]) (rfl) rfl
  have j64 : ∀ (x7 : Int32) (ls : Array Slot) (H : Heap) (locs : List Loc), x7 = ysm (yb f (a + 0)) (yb f (a + 1)) (yb f (b + 0)) (yb f (b + 1)) → va_P D cls ([(o0, .inr (5, [.int th, .ref ib, .int (nI n), .ref pb, .int (nI nm), .ref qb, .int (nI no), .int q.2.1, .int q.2.2.1, .int ck, .int q.1, .int q.2.2.2.1, .int q.2.2.2.2])), (ib, .inl (cB, 8192, .inl f))]) H → va_S A s.heap H locs → lv_has ls 9 [(0, .ref o0), (1, .int (nI a)), (2, .int (nI b)), (3, .int (nI (yb f (a + 0)))), (4, .int (nI (yb f (a + 1)))), (5, .int (nI (yb f (b + 0)))), (6, .int (nI (yb f (b + 1)))), (7, .int x7)] → W p l e (rmd 3) s m ([.ref o0, .int (nI a), .int (nI b)] : List Value).toArray below meth c H locs 0 0 Q (F0 m 64 ls []) := by
    intro x7 ls H locs h7 hP hS hl
    refine lv_aload_n hx hb d_Mo_touch_64 rfl (lv_at hl 0 rfl) ?_
    refine lv_iload_n hx hb d_Mo_touch_65 rfl (lv_at hl 1 rfl) ?_
    refine lv_iload hx hb d_Mo_touch_66 (lv_at hl 5 rfl) ?_
    refine pz_i0 (pz_rV (d := 1) (As := [.int (nI a), .int (nI (yb f (b + 0)))]) (rest := []) X hN (c_Mo_side l D cB cI cS o0 ib pb qb th ck n nm no q f a (yb f (b + 0)) (by omega) (by first | omega | exact yb_lt _ _) _) k_Mo_side w_534 ⟨by decide, by decide⟩ hK hP hD [0, 1] rfl rfl 0 rfl rfl rfl rfl hl.1 rfl (Nat.le_of_ble_eq_true rfl) d_Mo_touch_68 ⟨Nat.zero_le _, Nat.zero_le _⟩) hP hD hS hA [0, 1] rfl (fun H locs hP hS => ?_)
    refine lv_aload_n hx hb d_Mo_touch_71 rfl (lv_at hl 0 rfl) ?_
    refine lv_iload_n hx hb d_Mo_touch_72 rfl (lv_at hl 1 rfl) ?_
    refine lv_iload hx hb d_Mo_touch_73 (lv_at hl 6 rfl) ?_
    refine pz_i0 (pz_rV (d := 1) (As := [.int (nI a), .int (nI (yb f (b + 1)))]) (rest := [.int (ysd f a (yb f (b + 0)))]) X hN (c_Mo_side l D cB cI cS o0 ib pb qb th ck n nm no q f a (yb f (b + 1)) (by omega) (by first | omega | exact yb_lt _ _) _) k_Mo_side w_534 ⟨by decide, by decide⟩ hK hP hD [0, 1] rfl rfl 0 rfl rfl rfl rfl hl.1 rfl (Nat.le_of_ble_eq_true rfl) d_Mo_touch_75 ⟨Nat.zero_le _, Nat.zero_le _⟩) hP hD hS hA [0, 1] rfl (fun H locs hP hS => ?_)
    refine lv_imul hx hb d_Mo_touch_78 ?_
    refine lv_if_ge (tgt := 103) hx hb d_Mo_touch_79 (by decide) (fun c_7 => ?_) (fun c_7 => ?_)
    · refine lv_iconst (v := 0) hx hb d_Mo_touch_103 (by decide) ?_
      refine lv_istore (lv' := [(8, .int 0), (0, .ref o0), (1, .int (nI a)), (2, .int (nI b)), (3, .int (nI (yb f (a + 0)))), (4, .int (nI (yb f (a + 1)))), (5, .int (nI (yb f (b + 0)))), (6, .int (nI (yb f (b + 1)))), (7, .int x7)]) hx hb d_Mo_touch_104 hl (by decide) rfl (fun ls hl => ?_)
      exact j106 _ _ _ _ _ h7 (by simp only [ycu, if_pos c_7]) hP hS (lv_sub hl [1, 2, 3, 4, 5, 6, 7, 8, 0] rfl)
    · refine lv_aload_n hx hb d_Mo_touch_82 rfl (lv_at hl 0 rfl) ?_
      refine lv_iload_n hx hb d_Mo_touch_83 rfl (lv_at hl 2 rfl) ?_
      refine lv_iload_n hx hb d_Mo_touch_84 rfl (lv_at hl 3 rfl) ?_
      refine pz_i0 (pz_rV (d := 1) (As := [.int (nI b), .int (nI (yb f (a + 0)))]) (rest := []) X hN (c_Mo_side l D cB cI cS o0 ib pb qb th ck n nm no q f b (yb f (a + 0)) (by omega) (by first | omega | exact yb_lt _ _) _) k_Mo_side w_534 ⟨by decide, by decide⟩ hK hP hD [0, 1] rfl rfl 0 rfl rfl rfl rfl hl.1 rfl (Nat.le_of_ble_eq_true rfl) d_Mo_touch_85 ⟨Nat.zero_le _, Nat.zero_le _⟩) hP hD hS hA [0, 1] rfl (fun H locs hP hS => ?_)
      refine lv_aload_n hx hb d_Mo_touch_88 rfl (lv_at hl 0 rfl) ?_
      refine lv_iload_n hx hb d_Mo_touch_89 rfl (lv_at hl 2 rfl) ?_
      refine lv_iload hx hb d_Mo_touch_90 (lv_at hl 4 rfl) ?_
      refine pz_i0 (pz_rV (d := 1) (As := [.int (nI b), .int (nI (yb f (a + 1)))]) (rest := [.int (ysd f b (yb f (a + 0)))]) X hN (c_Mo_side l D cB cI cS o0 ib pb qb th ck n nm no q f b (yb f (a + 1)) (by omega) (by first | omega | exact yb_lt _ _) _) k_Mo_side w_534 ⟨by decide, by decide⟩ hK hP hD [0, 1] rfl rfl 0 rfl rfl rfl rfl hl.1 rfl (Nat.le_of_ble_eq_true rfl) d_Mo_touch_92 ⟨Nat.zero_le _, Nat.zero_le _⟩) hP hD hS hA [0, 1] rfl (fun H locs hP hS => ?_)
      refine lv_imul hx hb d_Mo_touch_95 ?_
      refine lv_if_ge (tgt := 103) hx hb d_Mo_touch_96 (by decide) (fun c_8 => ?_) (fun c_8 => ?_)
      · refine lv_iconst (v := 0) hx hb d_Mo_touch_103 (by decide) ?_
        refine lv_istore (lv' := [(8, .int 0), (0, .ref o0), (1, .int (nI a)), (2, .int (nI b)), (3, .int (nI (yb f (a + 0)))), (4, .int (nI (yb f (a + 1)))), (5, .int (nI (yb f (b + 0)))), (6, .int (nI (yb f (b + 1)))), (7, .int x7)]) hx hb d_Mo_touch_104 hl (by decide) rfl (fun ls hl => ?_)
        exact j106 _ _ _ _ _ h7 (by simp only [ycu, if_neg c_7, if_pos c_8]) hP hS (lv_sub hl [1, 2, 3, 4, 5, 6, 7, 8, 0] rfl)
      · refine lv_iconst (v := 1) hx hb d_Mo_touch_99 (by decide) ?_
        refine lv_goto (tgt := 104) hx hb d_Mo_touch_100 (by decide) ?_
        refine lv_istore (lv' := [(8, .int 1), (0, .ref o0), (1, .int (nI a)), (2, .int (nI b)), (3, .int (nI (yb f (a + 0)))), (4, .int (nI (yb f (a + 1)))), (5, .int (nI (yb f (b + 0)))), (6, .int (nI (yb f (b + 1)))), (7, .int x7)]) hx hb d_Mo_touch_104 hl (by decide) rfl (fun ls hl => ?_)
        exact j106 _ _ _ _ _ h7 (by simp only [ycu, if_neg c_7, if_neg c_8]) hP hS (lv_sub hl [1, 2, 3, 4, 5, 6, 7, 8, 0] rfl)
  refine lv_iload_n hx hb d_Mo_touch_31 rfl (lv_at hl 3 rfl) ?_
  refine lv_iload hx hb d_Mo_touch_32 (lv_at hl 1 rfl) ?_
  refine lv_icmp_eq (tgt := 43) hx hb d_Mo_touch_34 (by decide) (fun c_9 => ?_) (fun c_9 => ?_)
  · refine lv_iload hx hb d_Mo_touch_43 (lv_at hl 2 rfl) ?_
    refine lv_iload hx hb d_Mo_touch_45 (lv_at hl 1 rfl) ?_
    refine lv_icmp_eq (tgt := 57) hx hb d_Mo_touch_47 (by decide) (fun c_10 => ?_) (fun c_10 => ?_)
    · refine lv_iconst (v := 1) hx hb d_Mo_touch_57 (by decide) ?_
      refine lv_goto (tgt := 62) hx hb d_Mo_touch_58 (by decide) ?_
      refine lv_istore (lv' := [(7, .int 1), (6, .int (nI (yb f (b + 1)))), (5, .int (nI (yb f (b + 0)))), (4, .int (nI (yb f (a + 1)))), (3, .int (nI (yb f (a + 0)))), (0, .ref o0), (1, .int (nI a)), (2, .int (nI b))]) hx hb d_Mo_touch_62 hl (by decide) rfl (fun ls hl => ?_)
      exact j64 _ _ _ _ (by simp only [ysm, ys2_, if_pos c_9, if_pos c_10]) hP hS (lv_sub hl [5, 6, 7, 4, 3, 2, 1, 0] rfl)
    · refine lv_iload hx hb d_Mo_touch_50 (lv_at hl 2 rfl) ?_
      refine lv_iload hx hb d_Mo_touch_52 (lv_at hl 0 rfl) ?_
      refine lv_icmp_ne (tgt := 61) hx hb d_Mo_touch_54 (by decide) (fun c_11 => ?_) (fun c_11 => ?_)
      · refine lv_iconst (v := 0) hx hb d_Mo_touch_61 (by decide) ?_
        refine lv_istore (lv' := [(7, .int 0), (6, .int (nI (yb f (b + 1)))), (5, .int (nI (yb f (b + 0)))), (4, .int (nI (yb f (a + 1)))), (3, .int (nI (yb f (a + 0)))), (0, .ref o0), (1, .int (nI a)), (2, .int (nI b))]) hx hb d_Mo_touch_62 hl (by decide) rfl (fun ls hl => ?_)
        exact j64 _ _ _ _ (by simp only [ysm, ys2_, if_pos c_9, if_neg c_10, if_neg c_11]) hP hS (lv_sub hl [5, 6, 7, 4, 3, 2, 1, 0] rfl)
      · refine lv_iconst (v := 1) hx hb d_Mo_touch_57 (by decide) ?_
        refine lv_goto (tgt := 62) hx hb d_Mo_touch_58 (by decide) ?_
        refine lv_istore (lv' := [(7, .int 1), (6, .int (nI (yb f (b + 1)))), (5, .int (nI (yb f (b + 0)))), (4, .int (nI (yb f (a + 1)))), (3, .int (nI (yb f (a + 0)))), (0, .ref o0), (1, .int (nI a)), (2, .int (nI b))]) hx hb d_Mo_touch_62 hl (by decide) rfl (fun ls hl => ?_)
        exact j64 _ _ _ _ (by simp only [ysm, ys2_, if_pos c_9, if_neg c_10, if_pos c_11]) hP hS (lv_sub hl [5, 6, 7, 4, 3, 2, 1, 0] rfl)
  · refine lv_iload_n hx hb d_Mo_touch_37 rfl (lv_at hl 3 rfl) ?_
    refine lv_iload hx hb d_Mo_touch_38 (lv_at hl 0 rfl) ?_
    refine lv_icmp_ne (tgt := 61) hx hb d_Mo_touch_40 (by decide) (fun c_12 => ?_) (fun c_12 => ?_)
    · refine lv_iconst (v := 0) hx hb d_Mo_touch_61 (by decide) ?_
      refine lv_istore (lv' := [(7, .int 0), (6, .int (nI (yb f (b + 1)))), (5, .int (nI (yb f (b + 0)))), (4, .int (nI (yb f (a + 1)))), (3, .int (nI (yb f (a + 0)))), (0, .ref o0), (1, .int (nI a)), (2, .int (nI b))]) hx hb d_Mo_touch_62 hl (by decide) rfl (fun ls hl => ?_)
      exact j64 _ _ _ _ (by simp only [ysm, ys2_, if_neg c_9, if_neg c_12]) hP hS (lv_sub hl [5, 6, 7, 4, 3, 2, 1, 0] rfl)
    · refine lv_iload hx hb d_Mo_touch_43 (lv_at hl 2 rfl) ?_
      refine lv_iload hx hb d_Mo_touch_45 (lv_at hl 1 rfl) ?_
      refine lv_icmp_eq (tgt := 57) hx hb d_Mo_touch_47 (by decide) (fun c_13 => ?_) (fun c_13 => ?_)
      · refine lv_iconst (v := 1) hx hb d_Mo_touch_57 (by decide) ?_
        refine lv_goto (tgt := 62) hx hb d_Mo_touch_58 (by decide) ?_
        refine lv_istore (lv' := [(7, .int 1), (6, .int (nI (yb f (b + 1)))), (5, .int (nI (yb f (b + 0)))), (4, .int (nI (yb f (a + 1)))), (3, .int (nI (yb f (a + 0)))), (0, .ref o0), (1, .int (nI a)), (2, .int (nI b))]) hx hb d_Mo_touch_62 hl (by decide) rfl (fun ls hl => ?_)
        exact j64 _ _ _ _ (by simp only [ysm, ys2_, if_neg c_9, if_pos c_12, if_pos c_13]) hP hS (lv_sub hl [5, 6, 7, 4, 3, 2, 1, 0] rfl)
      · refine lv_iload hx hb d_Mo_touch_50 (lv_at hl 2 rfl) ?_
        refine lv_iload hx hb d_Mo_touch_52 (lv_at hl 0 rfl) ?_
        refine lv_icmp_ne (tgt := 61) hx hb d_Mo_touch_54 (by decide) (fun c_14 => ?_) (fun c_14 => ?_)
        · refine lv_iconst (v := 0) hx hb d_Mo_touch_61 (by decide) ?_
          refine lv_istore (lv' := [(7, .int 0), (6, .int (nI (yb f (b + 1)))), (5, .int (nI (yb f (b + 0)))), (4, .int (nI (yb f (a + 1)))), (3, .int (nI (yb f (a + 0)))), (0, .ref o0), (1, .int (nI a)), (2, .int (nI b))]) hx hb d_Mo_touch_62 hl (by decide) rfl (fun ls hl => ?_)
          exact j64 _ _ _ _ (by simp only [ysm, ys2_, if_neg c_9, if_pos c_12, if_neg c_13, if_neg c_14]) hP hS (lv_sub hl [5, 6, 7, 4, 3, 2, 1, 0] rfl)
        · refine lv_iconst (v := 1) hx hb d_Mo_touch_57 (by decide) ?_
          refine lv_goto (tgt := 62) hx hb d_Mo_touch_58 (by decide) ?_
          refine lv_istore (lv' := [(7, .int 1), (6, .int (nI (yb f (b + 1)))), (5, .int (nI (yb f (b + 0)))), (4, .int (nI (yb f (a + 1)))), (3, .int (nI (yb f (a + 0)))), (0, .ref o0), (1, .int (nI a)), (2, .int (nI b))]) hx hb d_Mo_touch_62 hl (by decide) rfl (fun ls hl => ?_)
          exact j64 _ _ _ _ (by simp only [ysm, ys2_, if_neg c_9, if_pos c_12, if_neg c_13, if_pos c_14]) hP hS (lv_sub hl [5, 6, 7, 4, 3, 2, 1, 0] rfl)
