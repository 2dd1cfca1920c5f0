set_option maxRecDepth 100000 in
set_option maxHeartbeats 4000000 in
/-- wrong -/
theorem c_Mo_wrong (l : Launch) (D : va_G) (cB cI cS : ClassId) (o0 ib pb qb : Nat) (th ck : Int32) (n nm no : Nat) (q : S5) (num pl : Int32)  : mV l y_Mo_wrong b_Mo_wrong 3 (none) 0 D cls [(cB, .byte), (cI, .int), (cS, .object "MapLumps$Span")] [.ref o0, .int num, .int pl] ([(o0, .inr (5, [.int th, .ref ib, .int (nI n), .ref pb, .int (nI nm), .ref qb, .int (nI no), .int q.2.1, .int q.2.2.1, .int ck, .int q.1, .int q.2.2.2.1, .int q.2.2.2.2]))]) ([(o0, .inr (5, [.int th, .ref ib, .int (nI n), .ref pb, .int (nI nm), .ref qb, .int (nI no), .int ((ywr q num pl).2.1), .int ((ywr q num pl).2.2.1), .int ck, .int ((ywr q num pl).1), .int ((ywr q num pl).2.2.2.1), .int ((ywr q num pl).2.2.2.2)]))]) := by
  refine pz_openV (by decide) (Nat.le_of_ble_eq_true rfl) ?_
  intro p e s m below meth c A ls Q X hN hK hP hD hS hA hl fin
  obtain ⟨hx, hb, hml, hown, hts⟩ := id X
  have hl : lv_has ls 3 [(0, .ref o0), (1, .int num), (2, .int pl)] := hl
  refine lv_aload_n hx hb d_Mo_wrong_0 rfl (lv_at hl 0 rfl) ?_
  refine va_get (D := D) (ci := 5) (v := .int q.2.1) (C := R_Mo) (T := T_Mo) (N := 13) hx hb hts i_Mo hown hK hP 0 rfl rfl 7 (by decide) (hts _ w_425) (fun _ h9 => h9) rfl d_Mo_wrong_1 ?_
  refine lv_if_ne (tgt := 17) hx hb d_Mo_wrong_4 (by decide) (fun c_1 => ?_) (fun c_1 => ?_)
  · exact fin _ _ _ _ _ d_Mo_wrong_17 hP hS (by simp only [ywr, if_neg c_1])
  · refine lv_aload_n hx hb d_Mo_wrong_7 rfl (lv_at hl 0 rfl) ?_
    refine lv_iload_n hx hb d_Mo_wrong_8 rfl (lv_at hl 1 rfl) ?_
    refine va_put (D := D) (ci := 5) (v := .int num) (ty := (.int)) (C := R_Mo) (T := T_Mo) (N := 13) hx hb hts i_Mo ty_Mo tyok_Mo nm_Mo hown hK hP hD hS 0 rfl rfl 7 (by decide) (hts _ w_425) (fun _ h9 => h9) rfl (by decide +kernel) rfl rfl (Nat.le_of_ble_eq_true rfl) d_Mo_wrong_9 (fun H locs hP hD hS => ?_)
    have hP : va_P D cls ([(o0, .inr (5, [.int th, .ref ib, .int (nI n), .ref pb, .int (nI nm), .ref qb, .int (nI no), .int num, .int q.2.2.1, .int ck, .int q.1, .int q.2.2.2.1, .int q.2.2.2.2]))]) H := hP
    have hD : va_D A ([(o0, .inr (5, [.int th, .ref ib, .int (nI n), .ref pb, .int (nI nm), .ref qb, .int (nI no), .int num, .int q.2.2.1, .int ck, .int q.1, .int q.2.2.2.1, .int q.2.2.2.2]))]) := hD
    refine lv_aload_n hx hb d_Mo_wrong_12 rfl (lv_at hl 0 rfl) ?_
    refine lv_iload_n hx hb d_Mo_wrong_13 rfl (lv_at hl 2 rfl) ?_
    refine va_put (D := D) (ci := 5) (v := .int pl) (ty := (.int)) (C := R_Mo) (T := T_Mo) (N := 13) hx hb hts i_Mo ty_Mo tyok_Mo nm_Mo hown hK hP hD hS 0 rfl rfl 8 (by decide) (hts _ w_426) (fun _ h9 => h9) rfl (by decide +kernel) rfl rfl (Nat.le_of_ble_eq_true rfl) d_Mo_wrong_14 (fun H locs hP hD hS => ?_)
    have hP : va_P D cls ([(o0, .inr (5, [.int th, .ref ib, .int (nI n), .ref pb, .int (nI nm), .ref qb, .int (nI no), .int num, .int pl, .int ck, .int q.1, .int q.2.2.2.1, .int q.2.2.2.2]))]) H := hP
    have hD : va_D A ([(o0, .inr (5, [.int th, .ref ib, .int (nI n), .ref pb, .int (nI nm), .ref qb, .int (nI no), .int num, .int pl, .int ck, .int q.1, .int q.2.2.2.1, .int q.2.2.2.2]))]) := hD
    exact fin _ _ _ _ _ d_Mo_wrong_17 hP hS (by simp only [ywr, if_pos c_1])

set_option maxRecDepth 100000 in
set_option maxHeartbeats 4000000 in
/-- add -/
theorem c_Mo_add (l : Launch) (D : va_G) (cB cI cS : ClassId) (o0 ib pb qb : Nat) (th ck : Int32) (n nm no : Nat) (q : S5) (b : Int32)  : mV l y_Mo_add b_Mo_add 2 (none) 0 D cls [(cB, .byte), (cI, .int), (cS, .object "MapLumps$Span")] [.ref o0, .int b] ([(o0, .inr (5, [.int th, .ref ib, .int (nI n), .ref pb, .int (nI nm), .ref qb, .int (nI no), .int q.2.1, .int q.2.2.1, .int ck, .int q.1, .int q.2.2.2.1, .int q.2.2.2.2]))]) ([(o0, .inr (5, [.int th, .ref ib, .int (nI n), .ref pb, .int (nI nm), .ref qb, .int (nI no), .int ((yad q b).2.1), .int ((yad q b).2.2.1), .int ck, .int ((yad q b).1), .int ((yad q b).2.2.2.1), .int ((yad q b).2.2.2.2)]))]) := by
  refine pz_openV (by decide) (Nat.le_of_ble_eq_true rfl) ?_
  intro p e s m below meth c A ls Q X hN hK hP hD hS hA hl fin
  obtain ⟨hx, hb, hml, hown, hts⟩ := id X
  have hl : lv_has ls 2 [(0, .ref o0), (1, .int b)] := hl
  refine lv_aload_n hx hb d_Mo_add_0 rfl (lv_at hl 0 rfl) ?_
  refine lv_aload_n hx hb d_Mo_add_1 rfl (lv_at hl 0 rfl) ?_
  refine va_get (D := D) (ci := 5) (v := .int q.2.2.2.1) (C := R_Mo) (T := T_Mo) (N := 13) hx hb hts i_Mo hown hK hP 0 rfl rfl 11 (by decide) (hts _ w_429) (fun _ h9 => h9) rfl d_Mo_add_2 ?_
  refine lv_iload_n hx hb d_Mo_add_5 rfl (lv_at hl 1 rfl) ?_
  refine lv_iadd hx hb d_Mo_add_6 ?_
  refine lv_sipush (v := 251) hx hb d_Mo_add_7 (by decide) ?_
  refine lv_irem hx hb d_Mo_add_10 (by decide) ?_
  refine va_put (D := D) (ci := 5) (v := .int ((q.2.2.2.1 + b) - (q.2.2.2.1 + b) / 251 * 251)) (ty := (.int)) (C := R_Mo) (T := T_Mo) (N := 13) hx hb hts i_Mo ty_Mo tyok_Mo nm_Mo hown hK hP hD hS 0 rfl rfl 11 (by decide) (hts _ w_429) (fun _ h9 => h9) rfl (by decide +kernel) rfl rfl (Nat.le_of_ble_eq_true rfl) d_Mo_add_11 (fun H locs hP hD hS => ?_)
  have hP : va_P D cls ([(o0, .inr (5, [.int th, .ref ib, .int (nI n), .ref pb, .int (nI nm), .ref qb, .int (nI no), .int q.2.1, .int q.2.2.1, .int ck, .int q.1, .int ((q.2.2.2.1 + b) - (q.2.2.2.1 + b) / 251 * 251), .int q.2.2.2.2]))]) H := hP
  have hD : va_D A ([(o0, .inr (5, [.int th, .ref ib, .int (nI n), .ref pb, .int (nI nm), .ref qb, .int (nI no), .int q.2.1, .int q.2.2.1, .int ck, .int q.1, .int ((q.2.2.2.1 + b) - (q.2.2.2.1 + b) / 251 * 251), .int q.2.2.2.2]))]) := hD
  refine lv_aload_n hx hb d_Mo_add_14 rfl (lv_at hl 0 rfl) ?_
  refine lv_aload_n hx hb d_Mo_add_15 rfl (lv_at hl 0 rfl) ?_
  refine va_get (D := D) (ci := 5) (v := .int q.2.2.2.2) (C := R_Mo) (T := T_Mo) (N := 13) hx hb hts i_Mo hown hK hP 0 rfl rfl 12 (by decide) (hts _ w_430) (fun _ h9 => h9) rfl d_Mo_add_16 ?_
  refine lv_aload_n hx hb d_Mo_add_19 rfl (lv_at hl 0 rfl) ?_
  refine va_get (D := D) (ci := 5) (v := .int ((q.2.2.2.1 + b) - (q.2.2.2.1 + b) / 251 * 251)) (C := R_Mo) (T := T_Mo) (N := 13) hx hb hts i_Mo hown hK hP 0 rfl rfl 11 (by decide) (hts _ w_429) (fun _ h9 => h9) rfl d_Mo_add_20 ?_
  refine lv_iadd hx hb d_Mo_add_23 ?_
  refine lv_sipush (v := 251) hx hb d_Mo_add_24 (by decide) ?_
  refine lv_irem hx hb d_Mo_add_27 (by decide) ?_
  refine va_put (D := D) (ci := 5) (v := .int ((q.2.2.2.2 + ((q.2.2.2.1 + b) - (q.2.2.2.1 + b) / 251 * 251)) - (q.2.2.2.2 + ((q.2.2.2.1 + b) - (q.2.2.2.1 + b) / 251 * 251)) / 251 * 251)) (ty := (.int)) (C := R_Mo) (T := T_Mo) (N := 13) hx hb hts i_Mo ty_Mo tyok_Mo nm_Mo hown hK hP hD hS 0 rfl rfl 12 (by decide) (hts _ w_430) (fun _ h9 => h9) rfl (by decide +kernel) rfl rfl (Nat.le_of_ble_eq_true rfl) d_Mo_add_28 (fun H locs hP hD hS => ?_)
  have hP : va_P D cls ([(o0, .inr (5, [.int th, .ref ib, .int (nI n), .ref pb, .int (nI nm), .ref qb, .int (nI no), .int q.2.1, .int q.2.2.1, .int ck, .int q.1, .int ((q.2.2.2.1 + b) - (q.2.2.2.1 + b) / 251 * 251), .int ((q.2.2.2.2 + ((q.2.2.2.1 + b) - (q.2.2.2.1 + b) / 251 * 251)) - (q.2.2.2.2 + ((q.2.2.2.1 + b) - (q.2.2.2.1 + b) / 251 * 251)) / 251 * 251)]))]) H := hP
  have hD : va_D A ([(o0, .inr (5, [.int th, .ref ib, .int (nI n), .ref pb, .int (nI nm), .ref qb, .int (nI no), .int q.2.1, .int q.2.2.1, .int ck, .int q.1, .int ((q.2.2.2.1 + b) - (q.2.2.2.1 + b) / 251 * 251), .int ((q.2.2.2.2 + ((q.2.2.2.1 + b) - (q.2.2.2.1 + b) / 251 * 251)) - (q.2.2.2.2 + ((q.2.2.2.1 + b) - (q.2.2.2.1 + b) / 251 * 251)) / 251 * 251)]))]) := hD
  exact fin _ _ _ _ _ d_Mo_add_31 hP hS (rfl)

set_option maxRecDepth 100000 in
set_option maxHeartbeats 4000000 in
/-- next -/
theorem c_Mo_next (l : Launch) (D : va_G) (cB cI cS : ClassId) (o0 ib pb qb : Nat) (th ck : Int32) (n nm no : Nat) (q : S5) (f : Nat → Int32) (lo hi : Int32) (hn : n ≤ 8192) (hq : ok5 n q) : mI l y_Mo_next b_Mo_next 4 (some .int) 1 D cls [(cB, .byte), (cI, .int), (cS, .object "MapLumps$Span")] [.ref o0, .int lo, .int hi] ([(o0, .inr (5, [.int th, .ref ib, .int (nI n), .ref pb, .int (nI nm), .ref qb, .int (nI no), .int q.2.1, .int q.2.2.1, .int ck, .int q.1, .int q.2.2.2.1, .int q.2.2.2.2])), (ib, .inl (cB, 8192, .inl f))]) ((ynx f n q lo hi).1) ([(o0, .inr (5, [.int th, .ref ib, .int (nI n), .ref pb, .int (nI nm), .ref qb, .int (nI no), .int ((ynx f n q lo hi).2.2.1), .int ((ynx f n q lo hi).2.2.2.1), .int ck, .int ((ynx f n q lo hi).2.1), .int ((ynx f n q lo hi).2.2.2.2.1), .int ((ynx f n q lo hi).2.2.2.2.2)])), (ib, .inl (cB, 8192, .inl f))]) := by
  refine pz_openI (by decide) (Nat.le_of_ble_eq_true rfl) ?_
  intro p e s m below meth c A ls Q X hN hK hP hD hS hA hl fin
  obtain ⟨hx, hb, hml, hown, hts⟩ := id X
  have hl : lv_has ls 4 [(0, .ref o0), (1, .int lo), (2, .int hi)] := hl
  refine lv_aload_n hx hb d_Mo_next_0 rfl (lv_at hl 0 rfl) ?_
  refine va_get (D := D) (ci := 5) (v := .int q.2.1) (C := R_Mo) (T := T_Mo) (N := 13) hx hb hts i_Mo hown hK hP 0 rfl rfl 7 (by decide) (hts _ w_425) (fun _ h9 => h9) rfl d_Mo_next_1 ?_
  refine lv_if_le (tgt := 9) hx hb d_Mo_next_4 (by decide) (fun c_1 => ?_) (fun c_1 => ?_)
  · refine lv_aload_n hx hb d_Mo_next_9 rfl (lv_at hl 0 rfl) ?_
    refine va_get (D := D) (ci := 5) (v := .int q.1) (C := R_Mo) (T := T_Mo) (N := 13) hx hb hts i_Mo hown hK hP 0 rfl rfl 10 (by decide) (hts _ w_428) (fun _ h9 => h9) rfl d_Mo_next_10 ?_
    refine lv_aload_n hx hb d_Mo_next_13 rfl (lv_at hl 0 rfl) ?_
    refine va_get (D := D) (ci := 5) (v := .int (nI n)) (C := R_Mo) (T := T_Mo) (N := 13) hx hb hts i_Mo hown hK hP 0 rfl rfl 2 (by decide) (hts _ w_420) (fun _ h9 => h9) rfl d_Mo_next_14 ?_
    refine lv_icmp_ne (tgt := 31) hx hb d_Mo_next_17 (by decide) (fun c_2 => ?_) (fun c_2 => ?_)
    · refine lv_aload_n hx hb d_Mo_next_31 rfl (lv_at hl 0 rfl) ?_
      refine va_get (D := D) (ci := 5) (v := .ref ib) (C := R_Mo) (T := T_Mo) (N := 13) hx hb hts i_Mo hown hK hP 0 rfl rfl 1 (by decide) (hts _ w_419) (fun _ h9 => h9) rfl d_Mo_next_32 ?_
      refine lv_aload_n hx hb d_Mo_next_35 rfl (lv_at hl 0 rfl) ?_
      refine va_get (D := D) (ci := 5) (v := .int q.1) (C := R_Mo) (T := T_Mo) (N := 13) hx hb hts i_Mo hown hK hP 0 rfl rfl 10 (by decide) (hts _ w_428) (fun _ h9 => h9) rfl d_Mo_next_36 ?_
      refine va_bald hx hb hK hP 1 0 rfl rfl (y_in hq c_2 hn) d_Mo_next_39 ?_
      refine lv_sipush (v := 255) hx hb d_Mo_next_40 (by decide) ?_
      refine lv_iand hx hb d_Mo_next_43 ?_
      refine lv_istore_n (lv' := [(3, .int ((f q.1.toNatClampNeg) &&& 255)), (0, .ref o0), (1, .int lo), (2, .int hi)]) hx hb d_Mo_next_44 rfl hl (by decide) rfl (fun ls hl => ?_)
      refine lv_iload_n hx hb d_Mo_next_45 rfl (lv_at hl 0 rfl) ?_
      refine lv_iload_n hx hb d_Mo_next_46 rfl (lv_at hl 2 rfl) ?_
      refine lv_icmp_lt (tgt := 55) hx hb d_Mo_next_47 (by decide) (fun c_3 => ?_) (fun c_3 => ?_)
      · refine lv_aload_n hx hb d_Mo_next_55 rfl (lv_at hl 1 rfl) ?_
        refine lv_iconst (v := 3) hx hb d_Mo_next_56 (by decide) ?_
        refine lv_aload_n hx hb d_Mo_next_57 rfl (lv_at hl 1 rfl) ?_
        refine va_get (D := D) (ci := 5) (v := .int q.1) (C := R_Mo) (T := T_Mo) (N := 13) hx hb hts i_Mo hown hK hP 0 rfl rfl 10 (by decide) (hts _ w_428) (fun _ h9 => h9) rfl d_Mo_next_58 ?_
        refine pz_v (pz_rV (d := 0) (As := [.int 3, .int q.1]) (rest := []) X hN (c_Mo_wrong l D cB cI cS o0 ib pb qb th ck n nm no q 3 q.1 _) k_Mo_wrong w_490 ⟨by decide, by decide⟩ hK hP hD [0] rfl rfl 0 rfl rfl rfl rfl hl.1 rfl (Nat.le_of_ble_eq_true rfl) d_Mo_next_61 ⟨Nat.zero_le _, Nat.zero_le _⟩) hP hD hS hA [0] rfl [o0] rfl rfl (fun H locs hP hD hS => ?_)
        have hP : va_P D cls ([(o0, .inr (5, [.int th, .ref ib, .int (nI n), .ref pb, .int (nI nm), .ref qb, .int (nI no), .int ((ywr q 3 q.1).2.1), .int ((ywr q 3 q.1).2.2.1), .int ck, .int ((ywr q 3 q.1).1), .int ((ywr q 3 q.1).2.2.2.1), .int ((ywr q 3 q.1).2.2.2.2)])), (ib, .inl (cB, 8192, .inl f))]) H := hP
        have hD : va_D A ([(o0, .inr (5, [.int th, .ref ib, .int (nI n), .ref pb, .int (nI nm), .ref qb, .int (nI no), .int ((ywr q 3 q.1).2.1), .int ((ywr q 3 q.1).2.2.1), .int ck, .int ((ywr q 3 q.1).1), .int ((ywr q 3 q.1).2.2.2.1), .int ((ywr q 3 q.1).2.2.2.2)])), (ib, .inl (cB, 8192, .inl f))]) := hD
        refine lv_aload_n hx hb d_Mo_next_64 rfl (lv_at hl 1 rfl) ?_
        refine lv_iload_n hx hb d_Mo_next_65 rfl (lv_at hl 0 rfl) ?_
        refine pz_v (pz_rV (d := 0) (As := [.int ((f q.1.toNatClampNeg) &&& 255)]) (rest := []) X hN (c_Mo_add l D cB cI cS o0 ib pb qb th ck n nm no (ywr q 3 q.1) ((f q.1.toNatClampNeg) &&& 255) _) k_Mo_add w_474 ⟨by decide, by decide⟩ hK hP hD [0] rfl rfl 0 rfl rfl rfl rfl hl.1 rfl (Nat.le_of_ble_eq_true rfl) d_Mo_next_66 ⟨Nat.zero_le _, Nat.zero_le _⟩) hP hD hS hA [0] rfl [o0] rfl rfl (fun H locs hP hD hS => ?_)
        have hP : va_P D cls ([(o0, .inr (5, [.int th, .ref ib, .int (nI n), .ref pb, .int (nI nm), .ref qb, .int (nI no), .int ((yad (ywr q 3 q.1) ((f q.1.toNatClampNeg) &&& 255)).2.1), .int ((yad (ywr q 3 q.1) ((f q.1.toNatClampNeg) &&& 255)).2.2.1), .int ck, .int ((yad (ywr q 3 q.1) ((f q.1.toNatClampNeg) &&& 255)).1), .int ((yad (ywr q 3 q.1) ((f q.1.toNatClampNeg) &&& 255)).2.2.2.1), .int ((yad (ywr q 3 q.1) ((f q.1.toNatClampNeg) &&& 255)).2.2.2.2)])), (ib, .inl (cB, 8192, .inl f))]) H := hP
        have hD : va_D A ([(o0, .inr (5, [.int th, .ref ib, .int (nI n), .ref pb, .int (nI nm), .ref qb, .int (nI no), .int ((yad (ywr q 3 q.1) ((f q.1.toNatClampNeg) &&& 255)).2.1), .int ((yad (ywr q 3 q.1) ((f q.1.toNatClampNeg) &&& 255)).2.2.1), .int ck, .int ((yad (ywr q 3 q.1) ((f q.1.toNatClampNeg) &&& 255)).1), .int ((yad (ywr q 3 q.1) ((f q.1.toNatClampNeg) &&& 255)).2.2.2.1), .int ((yad (ywr q 3 q.1) ((f q.1.toNatClampNeg) &&& 255)).2.2.2.2)])), (ib, .inl (cB, 8192, .inl f))]) := hD
        refine lv_aload_n hx hb d_Mo_next_69 rfl (lv_at hl 1 rfl) ?_
        refine lv_dup hx hb d_Mo_next_70 rfl ?_
        refine va_get (D := D) (ci := 5) (v := .int ((yad (ywr q 3 q.1) ((f q.1.toNatClampNeg) &&& 255)).1)) (C := R_Mo) (T := T_Mo) (N := 13) hx hb hts i_Mo hown hK hP 0 rfl rfl 10 (by decide) (hts _ w_428) (fun _ h9 => h9) rfl d_Mo_next_71 ?_
        refine lv_iconst (v := 1) hx hb d_Mo_next_74 (by decide) ?_
        refine lv_iadd hx hb d_Mo_next_75 ?_
        refine va_put (D := D) (ci := 5) (v := .int (((yad (ywr q 3 q.1) ((f q.1.toNatClampNeg) &&& 255)).1) + 1)) (ty := (.int)) (C := R_Mo) (T := T_Mo) (N := 13) hx hb hts i_Mo ty_Mo tyok_Mo nm_Mo hown hK hP hD hS 0 rfl rfl 10 (by decide) (hts _ w_428) (fun _ h9 => h9) rfl (by decide +kernel) rfl rfl (Nat.le_of_ble_eq_true rfl) d_Mo_next_76 (fun H locs hP hD hS => ?_)
        have hP : va_P D cls ([(o0, .inr (5, [.int th, .ref ib, .int (nI n), .ref pb, .int (nI nm), .ref qb, .int (nI no), .int ((yad (ywr q 3 q.1) ((f q.1.toNatClampNeg) &&& 255)).2.1), .int ((yad (ywr q 3 q.1) ((f q.1.toNatClampNeg) &&& 255)).2.2.1), .int ck, .int (((yad (ywr q 3 q.1) ((f q.1.toNatClampNeg) &&& 255)).1) + 1), .int ((yad (ywr q 3 q.1) ((f q.1.toNatClampNeg) &&& 255)).2.2.2.1), .int ((yad (ywr q 3 q.1) ((f q.1.toNatClampNeg) &&& 255)).2.2.2.2)])), (ib, .inl (cB, 8192, .inl f))]) H := hP
        have hD : va_D A ([(o0, .inr (5, [.int th, .ref ib, .int (nI n), .ref pb, .int (nI nm), .ref qb, .int (nI no), .int ((yad (ywr q 3 q.1) ((f q.1.toNatClampNeg) &&& 255)).2.1), .int ((yad (ywr q 3 q.1) ((f q.1.toNatClampNeg) &&& 255)).2.2.1), .int ck, .int (((yad (ywr q 3 q.1) ((f q.1.toNatClampNeg) &&& 255)).1) + 1), .int ((yad (ywr q 3 q.1) ((f q.1.toNatClampNeg) &&& 255)).2.2.2.1), .int ((yad (ywr q 3 q.1) ((f q.1.toNatClampNeg) &&& 255)).2.2.2.2)])), (ib, .inl (cB, 8192, .inl f))]) := hD
        refine lv_iload_n hx hb d_Mo_next_79 rfl (lv_at hl 0 rfl) ?_
        exact fin _ _ _ _ _ _ d_Mo_next_80 hP hS (by simp only [ynx, ynS, if_pos (show q.2.1 ≤ 0 from c_1), if_neg (show ¬ (q.1 = nI n) from c_2), if_pos (show yby f q < lo from c_3)] <;> rfl) (by simp only [ynx, ynS, if_pos (show q.2.1 ≤ 0 from c_1), if_neg (show ¬ (q.1 = nI n) from c_2), if_pos (show yby f q < lo from c_3)] <;> rfl)
      · refine lv_iload_n hx hb d_Mo_next_50 rfl (lv_at hl 0 rfl) ?_
        refine lv_iload_n hx hb d_Mo_next_51 rfl (lv_at hl 3 rfl) ?_
        refine lv_icmp_le (tgt := 64) hx hb d_Mo_next_52 (by decide) (fun c_4 => ?_) (fun c_4 => ?_)
        · refine lv_aload_n hx hb d_Mo_next_64 rfl (lv_at hl 1 rfl) ?_
          refine lv_iload_n hx hb d_Mo_next_65 rfl (lv_at hl 0 rfl) ?_
          refine pz_v (pz_rV (d := 0) (As := [.int ((f q.1.toNatClampNeg) &&& 255)]) (rest := []) X hN (c_Mo_add l D cB cI cS o0 ib pb qb th ck n nm no q ((f q.1.toNatClampNeg) &&& 255) _) k_Mo_add w_474 ⟨by decide, by decide⟩ hK hP hD [0] rfl rfl 0 rfl rfl rfl rfl hl.1 rfl (Nat.le_of_ble_eq_true rfl) d_Mo_next_66 ⟨Nat.zero_le _, Nat.zero_le _⟩) hP hD hS hA [0] rfl [o0] rfl rfl (fun H locs hP hD hS => ?_)
          have hP : va_P D cls ([(o0, .inr (5, [.int th, .ref ib, .int (nI n), .ref pb, .int (nI nm), .ref qb, .int (nI no), .int ((yad q ((f q.1.toNatClampNeg) &&& 255)).2.1), .int ((yad q ((f q.1.toNatClampNeg) &&& 255)).2.2.1), .int ck, .int ((yad q ((f q.1.toNatClampNeg) &&& 255)).1), .int ((yad q ((f q.1.toNatClampNeg) &&& 255)).2.2.2.1), .int ((yad q ((f q.1.toNatClampNeg) &&& 255)).2.2.2.2)])), (ib, .inl (cB, 8192, .inl f))]) H := hP
          have hD : va_D A ([(o0, .inr (5, [.int th, .ref ib, .int (nI n), .ref pb, .int (nI nm), .ref qb, .int (nI no), .int ((yad q ((f q.1.toNatClampNeg) &&& 255)).2.1), .int ((yad q ((f q.1.toNatClampNeg) &&& 255)).2.2.1), .int ck, .int ((yad q ((f q.1.toNatClampNeg) &&& 255)).1), .int ((yad q ((f q.1.toNatClampNeg) &&& 255)).2.2.2.1), .int ((yad q ((f q.1.toNatClampNeg) &&& 255)).2.2.2.2)])), (ib, .inl (cB, 8192, .inl f))]) := hD
          refine lv_aload_n hx hb d_Mo_next_69 rfl (lv_at hl 1 rfl) ?_
          refine lv_dup hx hb d_Mo_next_70 rfl ?_
          refine va_get (D := D) (ci := 5) (v := .int ((yad q ((f q.1.toNatClampNeg) &&& 255)).1)) (C := R_Mo) (T := T_Mo) (N := 13) hx hb hts i_Mo hown hK hP 0 rfl rfl 10 (by decide) (hts _ w_428) (fun _ h9 => h9) rfl d_Mo_next_71 ?_
          refine lv_iconst (v := 1) hx hb d_Mo_next_74 (by decide) ?_
          refine lv_iadd hx hb d_Mo_next_75 ?_
          refine va_put (D := D) (ci := 5) (v := .int (((yad q ((f q.1.toNatClampNeg) &&& 255)).1) + 1)) (ty := (.int)) (C := R_Mo) (T := T_Mo) (N := 13) hx hb hts i_Mo ty_Mo tyok_Mo nm_Mo hown hK hP hD hS 0 rfl rfl 10 (by decide) (hts _ w_428) (fun _ h9 => h9) rfl (by decide +kernel) rfl rfl (Nat.le_of_ble_eq_true rfl) d_Mo_next_76 (fun H locs hP hD hS => ?_)
          have hP : va_P D cls ([(o0, .inr (5, [.int th, .ref ib, .int (nI n), .ref pb, .int (nI nm), .ref qb, .int (nI no), .int ((yad q ((f q.1.toNatClampNeg) &&& 255)).2.1), .int ((yad q ((f q.1.toNatClampNeg) &&& 255)).2.2.1), .int ck, .int (((yad q ((f q.1.toNatClampNeg) &&& 255)).1) + 1), .int ((yad q ((f q.1.toNatClampNeg) &&& 255)).2.2.2.1), .int ((yad q ((f q.1.toNatClampNeg) &&& 255)).2.2.2.2)])), (ib, .inl (cB, 8192, .inl f))]) H := hP
          have hD : va_D A ([(o0, .inr (5, [.int th, .ref ib, .int (nI n), .ref pb, .int (nI nm), .ref qb, .int (nI no), .int ((yad q ((f q.1.toNatClampNeg) &&& 255)).2.1), .int ((yad q ((f q.1.toNatClampNeg) &&& 255)).2.2.1), .int ck, .int (((yad q ((f q.1.toNatClampNeg) &&& 255)).1) + 1), .int ((yad q ((f q.1.toNatClampNeg) &&& 255)).2.2.2.1), .int ((yad q ((f q.1.toNatClampNeg) &&& 255)).2.2.2.2)])), (ib, .inl (cB, 8192, .inl f))]) := hD
          refine lv_iload_n hx hb d_Mo_next_79 rfl (lv_at hl 0 rfl) ?_
          exact fin _ _ _ _ _ _ d_Mo_next_80 hP hS (by simp only [ynx, ynS, if_pos (show q.2.1 ≤ 0 from c_1), if_neg (show ¬ (q.1 = nI n) from c_2), if_neg (show ¬ (yby f q < lo) from c_3), if_pos (show yby f q ≤ hi from c_4)] <;> rfl) (by simp only [ynx, ynS, if_pos (show q.2.1 ≤ 0 from c_1), if_neg (show ¬ (q.1 = nI n) from c_2), if_neg (show ¬ (yby f q < lo) from c_3), if_pos (show yby f q ≤ hi from c_4)] <;> rfl)
        · refine lv_aload_n hx hb d_Mo_next_55 rfl (lv_at hl 1 rfl) ?_
          refine lv_iconst (v := 3) hx hb d_Mo_next_56 (by decide) ?_
          refine lv_aload_n hx hb d_Mo_next_57 rfl (lv_at hl 1 rfl) ?_
          refine va_get (D := D) (ci := 5) (v := .int q.1) (C := R_Mo) (T := T_Mo) (N := 13) hx hb hts i_Mo hown hK hP 0 rfl rfl 10 (by decide) (hts _ w_428) (fun _ h9 => h9) rfl d_Mo_next_58 ?_
          refine pz_v (pz_rV (d := 0) (As := [.int 3, .int q.1]) (rest := []) X hN (c_Mo_wrong l D cB cI cS o0 ib pb qb th ck n nm no q 3 q.1 _) k_Mo_wrong w_490 ⟨by decide, by decide⟩ hK hP hD [0] rfl rfl 0 rfl rfl rfl rfl hl.1 rfl (Nat.le_of_ble_eq_true rfl) d_Mo_next_61 ⟨Nat.zero_le _, Nat.zero_le _⟩) hP hD hS hA [0] rfl [o0] rfl rfl (fun H locs hP hD hS => ?_)
          have hP : va_P D cls ([(o0, .inr (5, [.int th, .ref ib, .int (nI n), .ref pb, .int (nI nm), .ref qb, .int (nI no), .int ((ywr q 3 q.1).2.1), .int ((ywr q 3 q.1).2.2.1), .int ck, .int ((ywr q 3 q.1).1), .int ((ywr q 3 q.1).2.2.2.1), .int ((ywr q 3 q.1).2.2.2.2)])), (ib, .inl (cB, 8192, .inl f))]) H := hP
          have hD : va_D A ([(o0, .inr (5, [.int th, .ref ib, .int (nI n), .ref pb, .int (nI nm), .ref qb, .int (nI no), .int ((ywr q 3 q.1).2.1), .int ((ywr q 3 q.1).2.2.1), .int ck, .int ((ywr q 3 q.1).1), .int ((ywr q 3 q.1).2.2.2.1), .int ((ywr q 3 q.1).2.2.2.2)])), (ib, .inl (cB, 8192, .inl f))]) := hD
          refine lv_aload_n hx hb d_Mo_next_64 rfl (lv_at hl 1 rfl) ?_
          refine lv_iload_n hx hb d_Mo_next_65 rfl (lv_at hl 0 rfl) ?_
          refine pz_v (pz_rV (d := 0) (As := [.int ((f q.1.toNatClampNeg) &&& 255)]) (rest := []) X hN (c_Mo_add l D cB cI cS o0 ib pb qb th ck n nm no (ywr q 3 q.1) ((f q.1.toNatClampNeg) &&& 255) _) k_Mo_add w_474 ⟨by decide, by decide⟩ hK hP hD [0] rfl rfl 0 rfl rfl rfl rfl hl.1 rfl (Nat.le_of_ble_eq_true rfl) d_Mo_next_66 ⟨Nat.zero_le _, Nat.zero_le _⟩) hP hD hS hA [0] rfl [o0] rfl rfl (fun H locs hP hD hS => ?_)
          have hP : va_P D cls ([(o0, .inr (5, [.int th, .ref ib, .int (nI n), .ref pb, .int (nI nm), .ref qb, .int (nI no), .int ((yad (ywr q 3 q.1) ((f q.1.toNatClampNeg) &&& 255)).2.1), .int ((yad (ywr q 3 q.1) ((f q.1.toNatClampNeg) &&& 255)).2.2.1), .int ck, .int ((yad (ywr q 3 q.1) ((f q.1.toNatClampNeg) &&& 255)).1), .int ((yad (ywr q 3 q.1) ((f q.1.toNatClampNeg) &&& 255)).2.2.2.1), .int ((yad (ywr q 3 q.1) ((f q.1.toNatClampNeg) &&& 255)).2.2.2.2)])), (ib, .inl (cB, 8192, .inl f))]) H := hP
          have hD : va_D A ([(o0, .inr (5, [.int th, .ref ib, .int (nI n), .ref pb, .int (nI nm), .ref qb, .int (nI no), .int ((yad (ywr q 3 q.1) ((f q.1.toNatClampNeg) &&& 255)).2.1), .int ((yad (ywr q 3 q.1) ((f q.1.toNatClampNeg) &&& 255)).2.2.1), .int ck, .int ((yad (ywr q 3 q.1) ((f q.1.toNatClampNeg) &&& 255)).1), .int ((yad (ywr q 3 q.1) ((f q.1.toNatClampNeg) &&& 255)).2.2.2.1), .int ((yad (ywr q 3 q.1) ((f q.1.toNatClampNeg) &&& 255)).2.2.2.2)])), (ib, .inl (cB, 8192, .inl f))]) := hD
          refine lv_aload_n hx hb d_Mo_next_69 rfl (lv_at hl 1 rfl) ?_
          refine lv_dup hx hb d_Mo_next_70 rfl ?_
          refine va_get (D := D) (ci := 5) (v := .int ((yad (ywr q 3 q.1) ((f q.1.toNatClampNeg) &&& 255)).1)) (C := R_Mo) (T := T_Mo) (N := 13) hx hb hts i_Mo hown hK hP 0 rfl rfl 10 (by decide) (hts _ w_428) (fun _ h9 => h9) rfl d_Mo_next_71 ?_
          refine lv_iconst (v := 1) hx hb d_Mo_next_74 (by decide) ?_
          refine lv_iadd hx hb d_Mo_next_75 ?_
          refine va_put (D := D) (ci := 5) (v := .int (((yad (ywr q 3 q.1) ((f q.1.toNatClampNeg) &&& 255)).1) + 1)) (ty := (.int)) (C := R_Mo) (T := T_Mo) (N := 13) hx hb hts i_Mo ty_Mo tyok_Mo nm_Mo hown hK hP hD hS 0 rfl rfl 10 (by decide) (hts _ w_428) (fun _ h9 => h9) rfl (by decide +kernel) rfl rfl (Nat.le_of_ble_eq_true rfl) d_Mo_next_76 (fun H locs hP hD hS => ?_)
          have hP : va_P D cls ([(o0, .inr (5, [.int th, .ref ib, .int (nI n), .ref pb, .int (nI nm), .ref qb, .int (nI no), .int ((yad (ywr q 3 q.1) ((f q.1.toNatClampNeg) &&& 255)).2.1), .int ((yad (ywr q 3 q.1) ((f q.1.toNatClampNeg) &&& 255)).2.2.1), .int ck, .int (((yad (ywr q 3 q.1) ((f q.1.toNatClampNeg) &&& 255)).1) + 1), .int ((yad (ywr q 3 q.1) ((f q.1.toNatClampNeg) &&& 255)).2.2.2.1), .int ((yad (ywr q 3 q.1) ((f q.1.toNatClampNeg) &&& 255)).2.2.2.2)])), (ib, .inl (cB, 8192, .inl f))]) H := hP
          have hD : va_D A ([(o0, .inr (5, [.int th, .ref ib, .int (nI n), .ref pb, .int (nI nm), .ref qb, .int (nI no), .int ((yad (ywr q 3 q.1) ((f q.1.toNatClampNeg) &&& 255)).2.1), .int ((yad (ywr q 3 q.1) ((f q.1.toNatClampNeg) &&& 255)).2.2.1), .int ck, .int (((yad (ywr q 3 q.1) ((f q.1.toNatClampNeg) &&& 255)).1) + 1), .int ((yad (ywr q 3 q.1) ((f q.1.toNatClampNeg) &&& 255)).2.2.2.1), .int ((yad (ywr q 3 q.1) ((f q.1.toNatClampNeg) &&& 255)).2.2.2.2)])), (ib, .inl (cB, 8192, .inl f))]) := hD
          refine lv_iload_n hx hb d_Mo_next_79 rfl (lv_at hl 0 rfl) ?_
          exact fin _ _ _ _ _ _ d_Mo_next_80 hP hS (by simp only [ynx, ynS, if_pos (show q.2.1 ≤ 0 from c_1), if_neg (show ¬ (q.1 = nI n) from c_2), if_neg (show ¬ (yby f q < lo) from c_3), if_neg (show ¬ (yby f q ≤ hi) from c_4)] <;> rfl) (by simp only [ynx, ynS, if_pos (show q.2.1 ≤ 0 from c_1), if_neg (show ¬ (q.1 = nI n) from c_2), if_neg (show ¬ (yby f q < lo) from c_3), if_neg (show ¬ (yby f q ≤ hi) from c_4)] <;> rfl)
    · refine lv_aload_n hx hb d_Mo_next_20 rfl (lv_at hl 0 rfl) ?_
      refine lv_iconst (v := 1) hx hb d_Mo_next_21 (by decide) ?_
      refine lv_aload_n hx hb d_Mo_next_22 rfl (lv_at hl 0 rfl) ?_
      refine va_get (D := D) (ci := 5) (v := .int (nI n)) (C := R_Mo) (T := T_Mo) (N := 13) hx hb hts i_Mo hown hK hP 0 rfl rfl 2 (by decide) (hts _ w_420) (fun _ h9 => h9) rfl d_Mo_next_23 ?_
      refine pz_v (pz_rV (d := 0) (As := [.int 1, .int (nI n)]) (rest := []) X hN (c_Mo_wrong l D cB cI cS o0 ib pb qb th ck n nm no q 1 (nI n) _) k_Mo_wrong w_490 ⟨by decide, by decide⟩ hK hP hD [0] rfl rfl 0 rfl rfl rfl rfl hl.1 rfl (Nat.le_of_ble_eq_true rfl) d_Mo_next_26 ⟨Nat.zero_le _, Nat.zero_le _⟩) hP hD hS hA [0] rfl [o0] rfl rfl (fun H locs hP hD hS => ?_)
      have hP : va_P D cls ([(o0, .inr (5, [.int th, .ref ib, .int (nI n), .ref pb, .int (nI nm), .ref qb, .int (nI no), .int ((ywr q 1 (nI n)).2.1), .int ((ywr q 1 (nI n)).2.2.1), .int ck, .int ((ywr q 1 (nI n)).1), .int ((ywr q 1 (nI n)).2.2.2.1), .int ((ywr q 1 (nI n)).2.2.2.2)])), (ib, .inl (cB, 8192, .inl f))]) H := hP
      have hD : va_D A ([(o0, .inr (5, [.int th, .ref ib, .int (nI n), .ref pb, .int (nI nm), .ref qb, .int (nI no), .int ((ywr q 1 (nI n)).2.1), .int ((ywr q 1 (nI n)).2.2.1), .int ck, .int ((ywr q 1 (nI n)).1), .int ((ywr q 1 (nI n)).2.2.2.1), .int ((ywr q 1 (nI n)).2.2.2.2)])), (ib, .inl (cB, 8192, .inl f))]) := hD
      refine lv_iconst (v := 0) hx hb d_Mo_next_29 (by decide) ?_
      exact fin _ _ _ _ _ _ d_Mo_next_30 hP hS (by simp only [ynx, ynS, if_pos (show q.2.1 ≤ 0 from c_1), if_pos (show q.1 = nI n from c_2)] <;> rfl) (by simp only [ynx, ynS, if_pos (show q.2.1 ≤ 0 from c_1), if_pos (show q.1 = nI n from c_2)] <;> rfl)
  · refine lv_iconst (v := 0) hx hb d_Mo_next_7 (by decide) ?_
    exact fin _ _ _ _ _ _ d_Mo_next_8 hP hS (by simp only [ynx, ynS, if_neg (show ¬ (q.2.1 ≤ 0) from c_1)] <;> rfl) (by simp only [ynx, ynS, if_neg (show ¬ (q.2.1 ≤ 0) from c_1)] <;> rfl)

set_option maxRecDepth 100000 in
set_option maxHeartbeats 4000000 in
/-- nextOr -/
theorem c_Mo_nextOr (l : Launch) (D : va_G) (cB cI cS : ClassId) (o0 ib pb qb : Nat) (th ck : Int32) (n nm no : Nat) (q : S5) (f : Nat → Int32) (m_ : Int32) (hn : n ≤ 8192) (hq : ok5 n q) : mI l y_Mo_nextOr b_Mo_nextOr 3 (some .int) 2 D cls [(cB, .byte), (cI, .int), (cS, .object "MapLumps$Span")] [.ref o0, .int m_] ([(o0, .inr (5, [.int th, .ref ib, .int (nI n), .ref pb, .int (nI nm), .ref qb, .int (nI no), .int q.2.1, .int q.2.2.1, .int ck, .int q.1, .int q.2.2.2.1, .int q.2.2.2.2])), (ib, .inl (cB, 8192, .inl f))]) ((yor f n q m_).1) ([(o0, .inr (5, [.int th, .ref ib, .int (nI n), .ref pb, .int (nI nm), .ref qb, .int (nI no), .int ((yor f n q m_).2.2.1), .int ((yor f n q m_).2.2.2.1), .int ck, .int ((yor f n q m_).2.1), .int ((yor f n q m_).2.2.2.2.1), .int ((yor f n q m_).2.2.2.2.2)])), (ib, .inl (cB, 8192, .inl f))]) := by
  refine pz_openI (by decide) (Nat.le_of_ble_eq_true rfl) ?_
  intro p e s m below meth c A ls Q X hN hK hP hD hS hA hl fin
  obtain ⟨hx, hb, hml, hown, hts⟩ := id X
  have hl : lv_has ls 3 [(0, .ref o0), (1, .int m_)] := hl
  refine lv_aload_n hx hb d_Mo_nextOr_0 rfl (lv_at hl 0 rfl) ?_
  refine lv_iconst (v := 0) hx hb d_Mo_nextOr_1 (by decide) ?_
  refine lv_sipush (v := 255) hx hb d_Mo_nextOr_2 (by decide) ?_
  refine pz_i (pz_rV (d := 1) (As := [.int 0, .int 255]) (rest := []) X hN (c_Mo_next l D cB cI cS o0 ib pb qb th ck n nm no q f 0 255 hn hq _) k_Mo_next w_486 ⟨by decide, by decide⟩ hK hP hD [0, 1] rfl rfl 0 rfl rfl rfl rfl hl.1 rfl (Nat.le_of_ble_eq_true rfl) d_Mo_nextOr_5 ⟨Nat.zero_le _, Nat.zero_le _⟩) hP hD hS hA [0, 1] rfl [o0, ib] rfl rfl (fun H locs hP hD hS => ?_)
  generalize eg_1 : ynx f n q 0 255 = g_1 at hP hD ⊢
  have hP : va_P D cls ([(o0, .inr (5, [.int th, .ref ib, .int (nI n), .ref pb, .int (nI nm), .ref qb, .int (nI no), .int g_1.2.2.1, .int g_1.2.2.2.1, .int ck, .int g_1.2.1, .int g_1.2.2.2.2.1, .int g_1.2.2.2.2.2])), (ib, .inl (cB, 8192, .inl f))]) H := hP
  have hD : va_D A ([(o0, .inr (5, [.int th, .ref ib, .int (nI n), .ref pb, .int (nI nm), .ref qb, .int (nI no), .int g_1.2.2.1, .int g_1.2.2.2.1, .int ck, .int g_1.2.1, .int g_1.2.2.2.2.1, .int g_1.2.2.2.2.2])), (ib, .inl (cB, 8192, .inl f))]) := hD
  have ok_g_1 : ok5 n g_1.2 := by rw [← eg_1]; exact ok5_nx hq _ _
  refine lv_istore_n (lv' := [(2, .int g_1.1), (0, .ref o0), (1, .int m_)]) hx hb d_Mo_nextOr_8 rfl hl (by decide) rfl (fun ls hl => ?_)
  refine lv_aload_n hx hb d_Mo_nextOr_9 rfl (lv_at hl 1 rfl) ?_
  refine va_get (D := D) (ci := 5) (v := .int g_1.2.2.1) (C := R_Mo) (T := T_Mo) (N := 13) hx hb hts i_Mo hown hK hP 0 rfl rfl 7 (by decide) (hts _ w_425) (fun _ h9 => h9) rfl d_Mo_nextOr_10 ?_
  refine lv_if_ne (tgt := 39) hx hb d_Mo_nextOr_13 (by decide) (fun c_2 => ?_) (fun c_2 => ?_)
  · refine lv_iload_n hx hb d_Mo_nextOr_39 rfl (lv_at hl 0 rfl) ?_
    exact fin _ _ _ _ _ _ d_Mo_nextOr_40 hP hS (by simp only [yor, eg_1, if_neg c_2]) (by simp only [yor, eg_1, if_neg c_2])
  · refine lv_iload_n hx hb d_Mo_nextOr_16 rfl (lv_at hl 0 rfl) ?_
    refine lv_iload_n hx hb d_Mo_nextOr_17 rfl (lv_at hl 2 rfl) ?_
    refine lv_icmp_lt (tgt := 39) hx hb d_Mo_nextOr_18 (by decide) (fun c_3 => ?_) (fun c_3 => ?_)
    · refine lv_iload_n hx hb d_Mo_nextOr_39 rfl (lv_at hl 0 rfl) ?_
      exact fin _ _ _ _ _ _ d_Mo_nextOr_40 hP hS (by simp only [yor, eg_1, if_pos c_2, if_pos c_3]) (by simp only [yor, eg_1, if_pos c_2, if_pos c_3])
    · refine lv_iload_n hx hb d_Mo_nextOr_21 rfl (lv_at hl 0 rfl) ?_
      refine lv_sipush (v := 255) hx hb d_Mo_nextOr_22 (by decide) ?_
      refine lv_icmp_eq (tgt := 39) hx hb d_Mo_nextOr_25 (by decide) (fun c_4 => ?_) (fun c_4 => ?_)
      · refine lv_iload_n hx hb d_Mo_nextOr_39 rfl (lv_at hl 0 rfl) ?_
        exact fin _ _ _ _ _ _ d_Mo_nextOr_40 hP hS (by simp only [yor, eg_1, if_pos c_2, if_neg c_3, if_pos c_4]) (by simp only [yor, eg_1, if_pos c_2, if_neg c_3, if_pos c_4])
      · refine lv_aload_n hx hb d_Mo_nextOr_28 rfl (lv_at hl 1 rfl) ?_
        refine lv_iconst (v := 3) hx hb d_Mo_nextOr_29 (by decide) ?_
        refine lv_aload_n hx hb d_Mo_nextOr_30 rfl (lv_at hl 1 rfl) ?_
        refine va_get (D := D) (ci := 5) (v := .int g_1.2.1) (C := R_Mo) (T := T_Mo) (N := 13) hx hb hts i_Mo hown hK hP 0 rfl rfl 10 (by decide) (hts _ w_428) (fun _ h9 => h9) rfl d_Mo_nextOr_31 ?_
        refine lv_iconst (v := 1) hx hb d_Mo_nextOr_34 (by decide) ?_
        refine lv_isub hx hb d_Mo_nextOr_35 ?_
        refine pz_v (pz_rV (d := 0) (As := [.int 3, .int (g_1.2.1 - 1)]) (rest := []) X hN (c_Mo_wrong l D cB cI cS o0 ib pb qb th ck n nm no g_1.2 3 (g_1.2.1 - 1) _) k_Mo_wrong w_490 ⟨by decide, by decide⟩ hK hP hD [0] rfl rfl 0 rfl rfl rfl rfl hl.1 rfl (Nat.le_of_ble_eq_true rfl) d_Mo_nextOr_36 ⟨Nat.zero_le _, Nat.zero_le _⟩) hP hD hS hA [0] rfl [o0] rfl rfl (fun H locs hP hD hS => ?_)
        have hP : va_P D cls ([(o0, .inr (5, [.int th, .ref ib, .int (nI n), .ref pb, .int (nI nm), .ref qb, .int (nI no), .int ((ywr g_1.2 3 (g_1.2.1 - 1)).2.1), .int ((ywr g_1.2 3 (g_1.2.1 - 1)).2.2.1), .int ck, .int ((ywr g_1.2 3 (g_1.2.1 - 1)).1), .int ((ywr g_1.2 3 (g_1.2.1 - 1)).2.2.2.1), .int ((ywr g_1.2 3 (g_1.2.1 - 1)).2.2.2.2)])), (ib, .inl (cB, 8192, .inl f))]) H := hP
        have hD : va_D A ([(o0, .inr (5, [.int th, .ref ib, .int (nI n), .ref pb, .int (nI nm), .ref qb, .int (nI no), .int ((ywr g_1.2 3 (g_1.2.1 - 1)).2.1), .int ((ywr g_1.2 3 (g_1.2.1 - 1)).2.2.1), .int ck, .int ((ywr g_1.2 3 (g_1.2.1 - 1)).1), .int ((ywr g_1.2 3 (g_1.2.1 - 1)).2.2.2.1), .int ((ywr g_1.2 3 (g_1.2.1 - 1)).2.2.2.2)])), (ib, .inl (cB, 8192, .inl f))]) := hD
        refine lv_iload_n hx hb d_Mo_nextOr_39 rfl (lv_at hl 0 rfl) ?_
        exact fin _ _ _ _ _ _ d_Mo_nextOr_40 hP hS (by simp only [yor, eg_1, if_pos c_2, if_neg c_3, if_neg c_4]) (by simp only [yor, eg_1, if_pos c_2, if_neg c_3, if_neg c_4])

set_option maxRecDepth 100000 in
set_option maxHeartbeats 4000000 in
/-- nextTwo -/
theorem c_Mo_nextTwo (l : Launch) (D : va_G) (cB cI cS : ClassId) (o0 ib pb qb : Nat) (th ck : Int32) (n nm no : Nat) (q : S5) (f : Nat → Int32) (lo hi : Int32) (hn : n ≤ 8192) (hq : ok5 n q) : mI l y_Mo_nextTwo b_Mo_nextTwo 5 (some .int) 2 D cls [(cB, .byte), (cI, .int), (cS, .object "MapLumps$Span")] [.ref o0, .int lo, .int hi] ([(o0, .inr (5, [.int th, .ref ib, .int (nI n), .ref pb, .int (nI nm), .ref qb, .int (nI no), .int q.2.1, .int q.2.2.1, .int ck, .int q.1, .int q.2.2.2.1, .int q.2.2.2.2])), (ib, .inl (cB, 8192, .inl f))]) ((ytw f n q lo hi).1) ([(o0, .inr (5, [.int th, .ref ib, .int (nI n), .ref pb, .int (nI nm), .ref qb, .int (nI no), .int ((ytw f n q lo hi).2.2.1), .int ((ytw f n q lo hi).2.2.2.1), .int ck, .int ((ytw f n q lo hi).2.1), .int ((ytw f n q lo hi).2.2.2.2.1), .int ((ytw f n q lo hi).2.2.2.2.2)])), (ib, .inl (cB, 8192, .inl f))]) := by
  refine pz_openI (by decide) (Nat.le_of_ble_eq_true rfl) ?_
  intro p e s m below meth c A ls Q X hN hK hP hD hS hA hl fin
  obtain ⟨hx, hb, hml, hown, hts⟩ := id X
  have hl : lv_has ls 5 [(0, .ref o0), (1, .int lo), (2, .int hi)] := hl
  refine lv_aload_n hx hb d_Mo_nextTwo_0 rfl (lv_at hl 0 rfl) ?_
  refine va_get (D := D) (ci := 5) (v := .int q.1) (C := R_Mo) (T := T_Mo) (N := 13) hx hb hts i_Mo hown hK hP 0 rfl rfl 10 (by decide) (hts _ w_428) (fun _ h9 => h9) rfl d_Mo_nextTwo_1 ?_
  refine lv_istore_n (lv' := [(3, .int q.1), (0, .ref o0), (1, .int lo), (2, .int hi)]) hx hb d_Mo_nextTwo_4 rfl hl (by decide) rfl (fun ls hl => ?_)
  refine lv_aload_n hx hb d_Mo_nextTwo_5 rfl (lv_at hl 1 rfl) ?_
  refine lv_iconst (v := 0) hx hb d_Mo_nextTwo_6 (by decide) ?_
  refine lv_sipush (v := 255) hx hb d_Mo_nextTwo_7 (by decide) ?_
  refine pz_i (pz_rV (d := 1) (As := [.int 0, .int 255]) (rest := []) X hN (c_Mo_next l D cB cI cS o0 ib pb qb th ck n nm no q f 0 255 hn hq _) k_Mo_next w_486 ⟨by decide, by decide⟩ hK hP hD [0, 1] rfl rfl 0 rfl rfl rfl rfl hl.1 rfl (Nat.le_of_ble_eq_true rfl) d_Mo_nextTwo_10 ⟨Nat.zero_le _, Nat.zero_le _⟩) hP hD hS hA [0, 1] rfl [o0, ib] rfl rfl (fun H locs hP hD hS => ?_)
  generalize eg_1 : ynx f n q 0 255 = g_1 at hP hD ⊢
  have hP : va_P D cls ([(o0, .inr (5, [.int th, .ref ib, .int (nI n), .ref pb, .int (nI nm), .ref qb, .int (nI no), .int g_1.2.2.1, .int g_1.2.2.2.1, .int ck, .int g_1.2.1, .int g_1.2.2.2.2.1, .int g_1.2.2.2.2.2])), (ib, .inl (cB, 8192, .inl f))]) H := hP
  have hD : va_D A ([(o0, .inr (5, [.int th, .ref ib, .int (nI n), .ref pb, .int (nI nm), .ref qb, .int (nI no), .int g_1.2.2.1, .int g_1.2.2.2.1, .int ck, .int g_1.2.1, .int g_1.2.2.2.2.1, .int g_1.2.2.2.2.2])), (ib, .inl (cB, 8192, .inl f))]) := hD
  have ok_g_1 : ok5 n g_1.2 := by rw [← eg_1]; exact ok5_nx hq _ _
  refine lv_sipush (v := 256) hx hb d_Mo_nextTwo_13 (by decide) ?_
  refine lv_imul hx hb d_Mo_nextTwo_16 ?_
  refine lv_istore (lv' := [(4, .int (g_1.1 * 256)), (3, .int q.1), (0, .ref o0), (1, .int lo), (2, .int hi)]) hx hb d_Mo_nextTwo_17 hl (by decide) rfl (fun ls hl => ?_)
  refine lv_iload hx hb d_Mo_nextTwo_19 (lv_at hl 0 rfl) ?_
  refine lv_aload_n hx hb d_Mo_nextTwo_21 rfl (lv_at hl 2 rfl) ?_
  refine lv_iconst (v := 0) hx hb d_Mo_nextTwo_22 (by decide) ?_
  refine lv_sipush (v := 255) hx hb d_Mo_nextTwo_23 (by decide) ?_
  refine pz_i (pz_rV (d := 1) (As := [.int 0, .int 255]) (rest := [.int (g_1.1 * 256)]) X hN (c_Mo_next l D cB cI cS o0 ib pb qb th ck n nm no g_1.2 f 0 255 hn ok_g_1 _) k_Mo_next w_486 ⟨by decide, by decide⟩ hK hP hD [0, 1] rfl rfl 0 rfl rfl rfl rfl hl.1 rfl (Nat.le_of_ble_eq_true rfl) d_Mo_nextTwo_26 ⟨Nat.zero_le _, Nat.zero_le _⟩) hP hD hS hA [0, 1] rfl [o0, ib] rfl rfl (fun H locs hP hD hS => ?_)
  generalize eg_2 : ynx f n g_1.2 0 255 = g_2 at hP hD ⊢
  have hP : va_P D cls ([(o0, .inr (5, [.int th, .ref ib, .int (nI n), .ref pb, .int (nI nm), .ref qb, .int (nI no), .int g_2.2.2.1, .int g_2.2.2.2.1, .int ck, .int g_2.2.1, .int g_2.2.2.2.2.1, .int g_2.2.2.2.2.2])), (ib, .inl (cB, 8192, .inl f))]) H := hP
  have hD : va_D A ([(o0, .inr (5, [.int th, .ref ib, .int (nI n), .ref pb, .int (nI nm), .ref qb, .int (nI no), .int g_2.2.2.1, .int g_2.2.2.2.1, .int ck, .int g_2.2.1, .int g_2.2.2.2.2.1, .int g_2.2.2.2.2.2])), (ib, .inl (cB, 8192, .inl f))]) := hD
  have ok_g_2 : ok5 n g_2.2 := by rw [← eg_2]; exact ok5_nx ok_g_1 _ _
  refine lv_iadd hx hb d_Mo_nextTwo_29 ?_
  refine lv_istore (lv' := [(4, .int ((g_1.1 * 256) + g_2.1)), (3, .int q.1), (0, .ref o0), (1, .int lo), (2, .int hi)]) hx hb d_Mo_nextTwo_30 hl (by decide) rfl (fun ls hl => ?_)
  refine lv_iload hx hb d_Mo_nextTwo_32 (lv_at hl 0 rfl) ?_
  refine lv_sipush (v := 32767) hx hb d_Mo_nextTwo_34 (by decide) ?_
  refine lv_icmp_le (tgt := 48) hx hb d_Mo_nextTwo_37 (by decide) (fun c_3 => ?_) (fun c_3 => ?_)
  · refine lv_iload hx hb d_Mo_nextTwo_48 (lv_at hl 0 rfl) ?_
    refine lv_istore (lv' := [(4, .int ((g_1.1 * 256) + g_2.1)), (3, .int q.1), (0, .ref o0), (1, .int lo), (2, .int hi)]) hx hb d_Mo_nextTwo_50 hl (by decide) rfl (fun ls hl => ?_)
    refine lv_aload_n hx hb d_Mo_nextTwo_52 rfl (lv_at hl 2 rfl) ?_
    refine va_get (D := D) (ci := 5) (v := .int g_2.2.2.1) (C := R_Mo) (T := T_Mo) (N := 13) hx hb hts i_Mo hown hK hP 0 rfl rfl 7 (by decide) (hts _ w_425) (fun _ h9 => h9) rfl d_Mo_nextTwo_53 ?_
    refine lv_if_ne (tgt := 77) hx hb d_Mo_nextTwo_56 (by decide) (fun c_4 => ?_) (fun c_4 => ?_)
    · refine lv_iload hx hb d_Mo_nextTwo_77 (lv_at hl 0 rfl) ?_
      exact fin _ _ _ _ _ _ d_Mo_nextTwo_79 hP hS (by simp only [ytw, ytv, yt2, yt1, w16, eg_1, eg_2, if_pos c_3, if_neg c_4]) (by simp only [ytw, ytv, yt2, yt1, w16, eg_1, eg_2, if_pos c_3, if_neg c_4])
    · refine lv_iload hx hb d_Mo_nextTwo_59 (lv_at hl 0 rfl) ?_
      refine lv_iload_n hx hb d_Mo_nextTwo_61 rfl (lv_at hl 3 rfl) ?_
      refine lv_icmp_lt (tgt := 71) hx hb d_Mo_nextTwo_62 (by decide) (fun c_5 => ?_) (fun c_5 => ?_)
      · refine lv_aload_n hx hb d_Mo_nextTwo_71 rfl (lv_at hl 2 rfl) ?_
        refine lv_iconst (v := 3) hx hb d_Mo_nextTwo_72 (by decide) ?_
        refine lv_iload_n hx hb d_Mo_nextTwo_73 rfl (lv_at hl 1 rfl) ?_
        refine pz_v (pz_rV (d := 0) (As := [.int 3, .int q.1]) (rest := []) X hN (c_Mo_wrong l D cB cI cS o0 ib pb qb th ck n nm no g_2.2 3 q.1 _) k_Mo_wrong w_490 ⟨by decide, by decide⟩ hK hP hD [0] rfl rfl 0 rfl rfl rfl rfl hl.1 rfl (Nat.le_of_ble_eq_true rfl) d_Mo_nextTwo_74 ⟨Nat.zero_le _, Nat.zero_le _⟩) hP hD hS hA [0] rfl [o0] rfl rfl (fun H locs hP hD hS => ?_)
        have hP : va_P D cls ([(o0, .inr (5, [.int th, .ref ib, .int (nI n), .ref pb, .int (nI nm), .ref qb, .int (nI no), .int ((ywr g_2.2 3 q.1).2.1), .int ((ywr g_2.2 3 q.1).2.2.1), .int ck, .int ((ywr g_2.2 3 q.1).1), .int ((ywr g_2.2 3 q.1).2.2.2.1), .int ((ywr g_2.2 3 q.1).2.2.2.2)])), (ib, .inl (cB, 8192, .inl f))]) H := hP
        have hD : va_D A ([(o0, .inr (5, [.int th, .ref ib, .int (nI n), .ref pb, .int (nI nm), .ref qb, .int (nI no), .int ((ywr g_2.2 3 q.1).2.1), .int ((ywr g_2.2 3 q.1).2.2.1), .int ck, .int ((ywr g_2.2 3 q.1).1), .int ((ywr g_2.2 3 q.1).2.2.2.1), .int ((ywr g_2.2 3 q.1).2.2.2.2)])), (ib, .inl (cB, 8192, .inl f))]) := hD
        refine lv_iload hx hb d_Mo_nextTwo_77 (lv_at hl 0 rfl) ?_
        exact fin _ _ _ _ _ _ d_Mo_nextTwo_79 hP hS (by simp only [ytw, ytv, yt2, yt1, w16, eg_1, eg_2, if_pos c_3, if_pos c_4, if_pos c_5]) (by simp only [ytw, ytv, yt2, yt1, w16, eg_1, eg_2, if_pos c_3, if_pos c_4, if_pos c_5])
      · refine lv_iload hx hb d_Mo_nextTwo_65 (lv_at hl 0 rfl) ?_
        refine lv_iload_n hx hb d_Mo_nextTwo_67 rfl (lv_at hl 4 rfl) ?_
        refine lv_icmp_le (tgt := 77) hx hb d_Mo_nextTwo_68 (by decide) (fun c_6 => ?_) (fun c_6 => ?_)
        · refine lv_iload hx hb d_Mo_nextTwo_77 (lv_at hl 0 rfl) ?_
          exact fin _ _ _ _ _ _ d_Mo_nextTwo_79 hP hS (by simp only [ytw, ytv, yt2, yt1, w16, eg_1, eg_2, if_pos c_3, if_pos c_4, if_neg c_5, if_pos c_6]) (by simp only [ytw, ytv, yt2, yt1, w16, eg_1, eg_2, if_pos c_3, if_pos c_4, if_neg c_5, if_pos c_6])
        · refine lv_aload_n hx hb d_Mo_nextTwo_71 rfl (lv_at hl 2 rfl) ?_
          refine lv_iconst (v := 3) hx hb d_Mo_nextTwo_72 (by decide) ?_
          refine lv_iload_n hx hb d_Mo_nextTwo_73 rfl (lv_at hl 1 rfl) ?_
          refine pz_v (pz_rV (d := 0) (As := [.int 3, .int q.1]) (rest := []) X hN (c_Mo_wrong l D cB cI cS o0 ib pb qb th ck n nm no g_2.2 3 q.1 _) k_Mo_wrong w_490 ⟨by decide, by decide⟩ hK hP hD [0] rfl rfl 0 rfl rfl rfl rfl hl.1 rfl (Nat.le_of_ble_eq_true rfl) d_Mo_nextTwo_74 ⟨Nat.zero_le _, Nat.zero_le _⟩) hP hD hS hA [0] rfl [o0] rfl rfl (fun H locs hP hD hS => ?_)
          have hP : va_P D cls ([(o0, .inr (5, [.int th, .ref ib, .int (nI n), .ref pb, .int (nI nm), .ref qb, .int (nI no), .int ((ywr g_2.2 3 q.1).2.1), .int ((ywr g_2.2 3 q.1).2.2.1), .int ck, .int ((ywr g_2.2 3 q.1).1), .int ((ywr g_2.2 3 q.1).2.2.2.1), .int ((ywr g_2.2 3 q.1).2.2.2.2)])), (ib, .inl (cB, 8192, .inl f))]) H := hP
          have hD : va_D A ([(o0, .inr (5, [.int th, .ref ib, .int (nI n), .ref pb, .int (nI nm), .ref qb, .int (nI no), .int ((ywr g_2.2 3 q.1).2.1), .int ((ywr g_2.2 3 q.1).2.2.1), .int ck, .int ((ywr g_2.2 3 q.1).1), .int ((ywr g_2.2 3 q.1).2.2.2.1), .int ((ywr g_2.2 3 q.1).2.2.2.2)])), (ib, .inl (cB, 8192, .inl f))]) := hD
          refine lv_iload hx hb d_Mo_nextTwo_77 (lv_at hl 0 rfl) ?_
          exact fin _ _ _ _ _ _ d_Mo_nextTwo_79 hP hS (by simp only [ytw, ytv, yt2, yt1, w16, eg_1, eg_2, if_pos c_3, if_pos c_4, if_neg c_5, if_neg c_6]) (by simp only [ytw, ytv, yt2, yt1, w16, eg_1, eg_2, if_pos c_3, if_pos c_4, if_neg c_5, if_neg c_6])
  · refine lv_iload hx hb d_Mo_nextTwo_40 (lv_at hl 0 rfl) ?_
    refine lv_ldc (v := 65536) hx hb hown (hts _ (w_502)) d_Mo_nextTwo_42 ?_
    refine lv_isub hx hb d_Mo_nextTwo_44 ?_
    refine lv_goto (tgt := 50) hx hb d_Mo_nextTwo_45 (by decide) ?_
    refine lv_istore (lv' := [(4, .int (((g_1.1 * 256) + g_2.1) - 65536)), (3, .int q.1), (0, .ref o0), (1, .int lo), (2, .int hi)]) hx hb d_Mo_nextTwo_50 hl (by decide) rfl (fun ls hl => ?_)
    refine lv_aload_n hx hb d_Mo_nextTwo_52 rfl (lv_at hl 2 rfl) ?_
    refine va_get (D := D) (ci := 5) (v := .int g_2.2.2.1) (C := R_Mo) (T := T_Mo) (N := 13) hx hb hts i_Mo hown hK hP 0 rfl rfl 7 (by decide) (hts _ w_425) (fun _ h9 => h9) rfl d_Mo_nextTwo_53 ?_
    refine lv_if_ne (tgt := 77) hx hb d_Mo_nextTwo_56 (by decide) (fun c_7 => ?_) (fun c_7 => ?_)
    · refine lv_iload hx hb d_Mo_nextTwo_77 (lv_at hl 0 rfl) ?_
      exact fin _ _ _ _ _ _ d_Mo_nextTwo_79 hP hS (by simp only [ytw, ytv, yt2, yt1, w16, eg_1, eg_2, if_neg c_3, if_neg c_7]) (by simp only [ytw, ytv, yt2, yt1, w16, eg_1, eg_2, if_neg c_3, if_neg c_7])
    · refine lv_iload hx hb d_Mo_nextTwo_59 (lv_at hl 0 rfl) ?_
      refine lv_iload_n hx hb d_Mo_nextTwo_61 rfl (lv_at hl 3 rfl) ?_
      refine lv_icmp_lt (tgt := 71) hx hb d_Mo_nextTwo_62 (by decide) (fun c_8 => ?_) (fun c_8 => ?_)
      · refine lv_aload_n hx hb d_Mo_nextTwo_71 rfl (lv_at hl 2 rfl) ?_
        refine lv_iconst (v := 3) hx hb d_Mo_nextTwo_72 (by decide) ?_
        refine lv_iload_n hx hb d_Mo_nextTwo_73 rfl (lv_at hl 1 rfl) ?_
        refine pz_v (pz_rV (d := 0) (As := [.int 3, .int q.1]) (rest := []) X hN (c_Mo_wrong l D cB cI cS o0 ib pb qb th ck n nm no g_2.2 3 q.1 _) k_Mo_wrong w_490 ⟨by decide, by decide⟩ hK hP hD [0] rfl rfl 0 rfl rfl rfl rfl hl.1 rfl (Nat.le_of_ble_eq_true rfl) d_Mo_nextTwo_74 ⟨Nat.zero_le _, Nat.zero_le _⟩) hP hD hS hA [0] rfl [o0] rfl rfl (fun H locs hP hD hS => ?_)
        have hP : va_P D cls ([(o0, .inr (5, [.int th, .ref ib, .int (nI n), .ref pb, .int (nI nm), .ref qb, .int (nI no), .int ((ywr g_2.2 3 q.1).2.1), .int ((ywr g_2.2 3 q.1).2.2.1), .int ck, .int ((ywr g_2.2 3 q.1).1), .int ((ywr g_2.2 3 q.1).2.2.2.1), .int ((ywr g_2.2 3 q.1).2.2.2.2)])), (ib, .inl (cB, 8192, .inl f))]) H := hP
        have hD : va_D A ([(o0, .inr (5, [.int th, .ref ib, .int (nI n), .ref pb, .int (nI nm), .ref qb, .int (nI no), .int ((ywr g_2.2 3 q.1).2.1), .int ((ywr g_2.2 3 q.1).2.2.1), .int ck, .int ((ywr g_2.2 3 q.1).1), .int ((ywr g_2.2 3 q.1).2.2.2.1), .int ((ywr g_2.2 3 q.1).2.2.2.2)])), (ib, .inl (cB, 8192, .inl f))]) := hD
        refine lv_iload hx hb d_Mo_nextTwo_77 (lv_at hl 0 rfl) ?_
        exact fin _ _ _ _ _ _ d_Mo_nextTwo_79 hP hS (by simp only [ytw, ytv, yt2, yt1, w16, eg_1, eg_2, if_neg c_3, if_pos c_7, if_pos c_8]) (by simp only [ytw, ytv, yt2, yt1, w16, eg_1, eg_2, if_neg c_3, if_pos c_7, if_pos c_8])
      · refine lv_iload hx hb d_Mo_nextTwo_65 (lv_at hl 0 rfl) ?_
        refine lv_iload_n hx hb d_Mo_nextTwo_67 rfl (lv_at hl 4 rfl) ?_
        refine lv_icmp_le (tgt := 77) hx hb d_Mo_nextTwo_68 (by decide) (fun c_9 => ?_) (fun c_9 => ?_)
        · refine lv_iload hx hb d_Mo_nextTwo_77 (lv_at hl 0 rfl) ?_
          exact fin _ _ _ _ _ _ d_Mo_nextTwo_79 hP hS (by simp only [ytw, ytv, yt2, yt1, w16, eg_1, eg_2, if_neg c_3, if_pos c_7, if_neg c_8, if_pos c_9]) (by simp only [ytw, ytv, yt2, yt1, w16, eg_1, eg_2, if_neg c_3, if_pos c_7, if_neg c_8, if_pos c_9])
        · refine lv_aload_n hx hb d_Mo_nextTwo_71 rfl (lv_at hl 2 rfl) ?_
          refine lv_iconst (v := 3) hx hb d_Mo_nextTwo_72 (by decide) ?_
          refine lv_iload_n hx hb d_Mo_nextTwo_73 rfl (lv_at hl 1 rfl) ?_
          refine pz_v (pz_rV (d := 0) (As := [.int 3, .int q.1]) (rest := []) X hN (c_Mo_wrong l D cB cI cS o0 ib pb qb th ck n nm no g_2.2 3 q.1 _) k_Mo_wrong w_490 ⟨by decide, by decide⟩ hK hP hD [0] rfl rfl 0 rfl rfl rfl rfl hl.1 rfl (Nat.le_of_ble_eq_true rfl) d_Mo_nextTwo_74 ⟨Nat.zero_le _, Nat.zero_le _⟩) hP hD hS hA [0] rfl [o0] rfl rfl (fun H locs hP hD hS => ?_)
          have hP : va_P D cls ([(o0, .inr (5, [.int th, .ref ib, .int (nI n), .ref pb, .int (nI nm), .ref qb, .int (nI no), .int ((ywr g_2.2 3 q.1).2.1), .int ((ywr g_2.2 3 q.1).2.2.1), .int ck, .int ((ywr g_2.2 3 q.1).1), .int ((ywr g_2.2 3 q.1).2.2.2.1), .int ((ywr g_2.2 3 q.1).2.2.2.2)])), (ib, .inl (cB, 8192, .inl f))]) H := hP
          have hD : va_D A ([(o0, .inr (5, [.int th, .ref ib, .int (nI n), .ref pb, .int (nI nm), .ref qb, .int (nI no), .int ((ywr g_2.2 3 q.1).2.1), .int ((ywr g_2.2 3 q.1).2.2.1), .int ck, .int ((ywr g_2.2 3 q.1).1), .int ((ywr g_2.2 3 q.1).2.2.2.1), .int ((ywr g_2.2 3 q.1).2.2.2.2)])), (ib, .inl (cB, 8192, .inl f))]) := hD
          refine lv_iload hx hb d_Mo_nextTwo_77 (lv_at hl 0 rfl) ?_
          exact fin _ _ _ _ _ _ d_Mo_nextTwo_79 hP hS (by simp only [ytw, ytv, yt2, yt1, w16, eg_1, eg_2, if_neg c_3, if_pos c_7, if_neg c_8, if_neg c_9]) (by simp only [ytw, ytv, yt2, yt1, w16, eg_1, eg_2, if_neg c_3, if_pos c_7, if_neg c_8, if_neg c_9])

set_option maxRecDepth 100000 in
set_option maxHeartbeats 4000000 in
/-- pair -/
theorem c_Mo_pair (l : Launch) (D : va_G) (cB cI cS : ClassId) (ib : Nat) (f : Nat → Int32) (a : Nat) (ha : a + 1 < 8192) : mI l y_Mo_pair b_Mo_pair 3 (some .int) 0 D cls [(cB, .byte), (cI, .int), (cS, .object "MapLumps$Span")] [.ref ib, .int (nI a)] ([(ib, .inl (cB, 8192, .inl f))]) (ypr f a) ([(ib, .inl (cB, 8192, .inl f))]) := by
  refine pz_openI (by decide) (Nat.le_of_ble_eq_true rfl) ?_
  intro p e s m below meth c A ls Q X hN hK hP hD hS hA hl fin
  obtain ⟨hx, hb, hml, hown, hts⟩ := id X
  have hl : lv_has ls 3 [(0, .ref ib), (1, .int (nI a))] := hl
  refine lv_aload_n hx hb d_Mo_pair_0 rfl (lv_at hl 0 rfl) ?_
  refine lv_iload_n hx hb d_Mo_pair_1 rfl (lv_at hl 1 rfl) ?_
  refine va_bald hx hb hK hP 0 0 rfl rfl (in_n (by omega) (by decide)) d_Mo_pair_2 ?_
  rw [nI_clamp (show a < 2 ^ 31 by omega)]
  refine lv_sipush (v := 255) hx hb d_Mo_pair_3 (by decide) ?_
  refine lv_iand hx hb d_Mo_pair_6 ?_
  refine lv_sipush (v := 256) hx hb d_Mo_pair_7 (by decide) ?_
  refine lv_imul hx hb d_Mo_pair_10 ?_
  refine lv_aload_n hx hb d_Mo_pair_11 rfl (lv_at hl 0 rfl) ?_
  refine lv_iload_n hx hb d_Mo_pair_12 rfl (lv_at hl 1 rfl) ?_
  refine lv_iconst (v := 1) hx hb d_Mo_pair_13 (by decide) ?_
  refine lv_iadd hx hb d_Mo_pair_14 ?_
  refine va_bald hx hb hK hP 0 0 rfl rfl ((by rw [nI_1]; exact in_n ha (by decide))) d_Mo_pair_15 ?_
  refine lv_sipush (v := 255) hx hb d_Mo_pair_16 (by decide) ?_
  refine lv_iand hx hb d_Mo_pair_19 ?_
  refine lv_iadd hx hb d_Mo_pair_20 ?_
  refine lv_istore_n (lv' := [(2, .int ((((f a) &&& 255) * 256) + ((f ((nI a) + 1).toNatClampNeg) &&& 255))), (0, .ref ib), (1, .int (nI a))]) hx hb d_Mo_pair_21 rfl hl (by decide) rfl (fun ls hl => ?_)
  refine lv_iload_n hx hb d_Mo_pair_22 rfl (lv_at hl 0 rfl) ?_
  refine lv_sipush (v := 32767) hx hb d_Mo_pair_23 (by decide) ?_
  refine lv_icmp_le (tgt := 36) hx hb d_Mo_pair_26 (by decide) (fun c_1 => ?_) (fun c_1 => ?_)
  · refine lv_iload_n hx hb d_Mo_pair_36 rfl (lv_at hl 0 rfl) ?_
    exact fin _ _ _ _ _ _ d_Mo_pair_37 hP hS (by simp only [ypr, w16]; rw [nI_1, nI_clamp (by omega)] at c_1; rw [nI_1, nI_clamp (by omega)]; simp only [if_pos c_1]) (rfl)
  · refine lv_iload_n hx hb d_Mo_pair_29 rfl (lv_at hl 0 rfl) ?_
    refine lv_ldc (v := 65536) hx hb hown (hts _ (w_502)) d_Mo_pair_30 ?_
    refine lv_isub hx hb d_Mo_pair_32 ?_
    refine lv_goto (tgt := 37) hx hb d_Mo_pair_33 (by decide) ?_
    exact fin _ _ _ _ _ _ d_Mo_pair_37 hP hS (by simp only [ypr, w16]; rw [nI_1, nI_clamp (by omega)] at c_1; rw [nI_1, nI_clamp (by omega)]; simp only [if_neg c_1]) (rfl)
