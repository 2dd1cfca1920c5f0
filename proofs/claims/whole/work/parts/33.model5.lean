set_option maxRecDepth 100000 in
set_option maxHeartbeats 4000000 in
/-- give -/
theorem c_Mo_give (l : Launch) (D : va_G) (cB cI cS : ClassId) (o0 ib pb qb : Nat) (th ck : Int32) (n nm no : Nat) (q : S5) (f : Nat → Int32) (v : Int64) (k : Int32) (hn : n ≤ 8192) : mI l y_Mo_give b_Mo_give 5 (some .boolean) 0 D cls [(cB, .byte), (cI, .int), (cS, .object "MapLumps$Span")] [.ref o0, .long v, .int k] ([(o0, .inr (5, [.int th, .ref ib, .int (nI n), .ref pb, .int (nI nm), .ref qb, .int (nI no), .int q.2.1, .int q.2.2.1, .int ck, .int q.1, .int q.2.2.2.1, .int q.2.2.2.2])), (ib, .inl (cB, 8192, .inl f))]) (ygZ n k) ([(o0, .inr (5, [.int 0, .ref ib, .int (nI (ygN n k)), .ref pb, .int (nI nm), .ref qb, .int (nI no), .int q.2.1, .int q.2.2.1, .int ck, .int q.1, .int q.2.2.2.1, .int q.2.2.2.2])), (ib, .inl (cB, 8192, .inl (ygF f n v k)))]) := by
  refine pz_openZ (by decide) (Nat.le_of_ble_eq_true rfl) ?_
  intro p e s m below meth c A ls Q X hN hK hP hD hS hA hl fin
  obtain ⟨hx, hb, hml, hown, hts⟩ := id X
  have hl : lv_has ls 5 [(0, .ref o0), (1, .long v), (3, .int k)] := hl
  refine lv_aload_n hx hb d_Mo_give_0 rfl (lv_at hl 0 rfl) ?_
  refine lv_iconst (v := 0) hx hb d_Mo_give_1 (by decide) ?_
  refine va_put (D := D) (ci := 5) (v := .int 0) (ty := (.int)) (C := R_Mo) (T := T_Mo) (N := 13) hx hb hts i_Mo ty_Mo tyok_Mo nm_Mo hown hK hP hD hS 0 rfl rfl 0 (by decide) (hts _ w_418) (fun _ h9 => h9) rfl (by decide +kernel) rfl rfl (Nat.le_of_ble_eq_true rfl) d_Mo_give_2 (fun H locs hP hD hS => ?_)
  have hP : va_P D cls ([(o0, .inr (5, [.int 0, .ref ib, .int (nI n), .ref pb, .int (nI nm), .ref qb, .int (nI no), .int q.2.1, .int q.2.2.1, .int ck, .int q.1, .int q.2.2.2.1, .int q.2.2.2.2])), (ib, .inl (cB, 8192, .inl f))]) H := hP
  have hD : va_D A ([(o0, .inr (5, [.int 0, .ref ib, .int (nI n), .ref pb, .int (nI nm), .ref qb, .int (nI no), .int q.2.1, .int q.2.2.1, .int ck, .int q.1, .int q.2.2.2.1, .int q.2.2.2.2])), (ib, .inl (cB, 8192, .inl f))]) := hD
  refine lv_iload_n hx hb d_Mo_give_5 rfl (lv_at hl 2 rfl) ?_
  refine lv_iconst (v := 1) hx hb d_Mo_give_6 (by decide) ?_
  refine lv_icmp_lt (tgt := 28) hx hb d_Mo_give_7 (by decide) (fun c_1 => ?_) (fun c_1 => ?_)
  · refine lv_iconst (v := 0) hx hb d_Mo_give_28 (by decide) ?_
    exact fin _ _ _ _ _ _ d_Mo_give_29 hP hS (by simp only [ygZ, if_pos c_1]) (by simp only [ygF, ygN, if_pos c_1]) rfl
  · refine lv_iload_n hx hb d_Mo_give_10 rfl (lv_at hl 2 rfl) ?_
    refine lv_bipush (v := 8) hx hb d_Mo_give_11 (by decide) ?_
    refine lv_icmp_gt (tgt := 28) hx hb d_Mo_give_13 (by decide) (fun c_2 => ?_) (fun c_2 => ?_)
    · refine lv_iconst (v := 0) hx hb d_Mo_give_28 (by decide) ?_
      exact fin _ _ _ _ _ _ d_Mo_give_29 hP hS (by simp only [ygZ, if_neg c_1, if_pos c_2]) (by simp only [ygF, ygN, if_neg c_1, if_pos c_2]) rfl
    · refine lv_aload_n hx hb d_Mo_give_16 rfl (lv_at hl 0 rfl) ?_
      refine va_get (D := D) (ci := 5) (v := .int (nI n)) (C := R_Mo) (T := T_Mo) (N := 13) hx hb hts i_Mo hown hK hP 0 rfl rfl 2 (by decide) (hts _ w_420) (fun _ h9 => h9) rfl d_Mo_give_17 ?_
      refine lv_iload_n hx hb d_Mo_give_20 rfl (lv_at hl 2 rfl) ?_
      refine lv_iadd hx hb d_Mo_give_21 ?_
      refine lv_sipush (v := 8192) hx hb d_Mo_give_22 (by decide) ?_
      refine lv_icmp_le (tgt := 30) hx hb d_Mo_give_25 (by decide) (fun c_3 => ?_) (fun c_3 => ?_)
      · refine lv_iload_n hx hb d_Mo_give_30 rfl (lv_at hl 2 rfl) ?_
        refine lv_iconst (v := 1) hx hb d_Mo_give_31 (by decide) ?_
        refine lv_isub hx hb d_Mo_give_32 ?_
        refine lv_istore (lv' := [(4, .int (k - 1)), (0, .ref o0), (1, .long v), (3, .int k)]) hx hb d_Mo_give_33 hl (by decide) rfl (fun ls hl => ?_)
        obtain ⟨K, rfl, hK1, hK2, hK3⟩ := yg_le hn c_1 c_2 c_3
        have lp_14 : ∀ (j14 : Nat) (fi : Nat → Int32) (ni : Nat) (ls : Array Slot) (H : Heap) (locs : List Loc), j14 + ni = n + K → ygl v K f n = ygl v j14 fi ni → va_P D cls ([(o0, .inr (5, [.int 0, .ref ib, .int (nI ni), .ref pb, .int (nI nm), .ref qb, .int (nI no), .int q.2.1, .int q.2.2.1, .int ck, .int q.1, .int q.2.2.2.1, .int q.2.2.2.2])), (ib, .inl (cB, 8192, .inl fi))]) H → va_D A ([(o0, .inr (5, [.int 0, .ref ib, .int (nI ni), .ref pb, .int (nI nm), .ref qb, .int (nI no), .int q.2.1, .int q.2.2.1, .int ck, .int q.1, .int q.2.2.2.1, .int q.2.2.2.2])), (ib, .inl (cB, 8192, .inl fi))]) → va_S A s.heap H locs → lv_has ls 5 [(0, .ref o0), (1, .long v), (3, .int (nI K)), (4, .int (nI j14 - 1))] → W p l e (rmd 0) s m ([.ref o0, .long v, .int (nI K)] : List Value).toArray below meth c H locs 0 0 Q (F0 m 35 ls []) := by
          intro j14
          induction j14 with
          | zero =>
            intro fi ni ls H locs hi he hP hD hS hl
            refine lv_iload hx hb d_Mo_give_35 (lv_at hl 3 rfl) ?_
            refine lv_if_lt (tgt := 74) hx hb d_Mo_give_37 (by decide) (fun c_4 => ?_) (fun c_4 => ?_)
            · refine lv_iconst (v := 1) hx hb d_Mo_give_74 (by decide) ?_
              exact fin _ _ _ _ _ _ d_Mo_give_75 hP hS (by simp only [ygZ, if_neg c_1, if_neg c_2, if_pos c_3]) (by simp only [ygN, ygF, if_neg c_1, if_neg c_2, if_pos c_3, nI_clamp (show K < 2 ^ 31 by omega)]; rw [he, show n + K = ni by omega]; rfl) rfl
            · exact absurd (by decide) c_4
          | succ j14 ih14 =>
            intro fi ni ls H locs hi he hP hD hS hl
            refine lv_iload hx hb d_Mo_give_35 (lv_at hl 3 rfl) ?_
            refine lv_if_lt (tgt := 74) hx hb d_Mo_give_37 (by decide) (fun c_5 => ?_) (fun c_5 => ?_)
            · exact absurd c_5 (by rw [nI_pred]; exact nI_pos (by omega))
            · refine lv_aload_n hx hb d_Mo_give_40 rfl (lv_at hl 0 rfl) ?_
              refine va_get (D := D) (ci := 5) (v := .ref ib) (C := R_Mo) (T := T_Mo) (N := 13) hx hb hts i_Mo hown hK hP 0 rfl rfl 1 (by decide) (hts _ w_419) (fun _ h9 => h9) rfl d_Mo_give_41 ?_
              refine lv_aload_n hx hb d_Mo_give_44 rfl (lv_at hl 0 rfl) ?_
              refine va_get (D := D) (ci := 5) (v := .int (nI ni)) (C := R_Mo) (T := T_Mo) (N := 13) hx hb hts i_Mo hown hK hP 0 rfl rfl 2 (by decide) (hts _ w_420) (fun _ h9 => h9) rfl d_Mo_give_45 ?_
              refine lv_lload_n hx hb d_Mo_give_48 rfl (lv_at hl 1 rfl) ?_
              refine lv_bipush (v := 8) hx hb d_Mo_give_49 (by decide) ?_
              refine lv_iload hx hb d_Mo_give_51 (lv_at hl 3 rfl) ?_
              refine lv_imul hx hb d_Mo_give_53 ?_
              refine lv_lshr hx hb d_Mo_give_54 rfl ?_
              refine lv_l2i hx hb d_Mo_give_55 rfl ?_
              refine lv_i2b hx hb d_Mo_give_56 rfl ?_
              refine va_bast hx hb hK hP hD hS 1 0 rfl rfl (in_n (by omega) (by decide)) d_Mo_give_57 (fun H locs hP hD hS => ?_)
              rw [nI_clamp (show ni < 2 ^ 31 by omega)] at hP hD
              have hP : va_P D cls ([(o0, .inr (5, [.int 0, .ref ib, .int (nI ni), .ref pb, .int (nI nm), .ref qb, .int (nI no), .int q.2.1, .int q.2.2.1, .int ck, .int q.1, .int q.2.2.2.1, .int q.2.2.2.2])), (ib, .inl (cB, 8192, .inl (upd fi ni (vp_nar .byte (((v >>> ((8 * (nI (j14 + 1) - 1)).toInt64 &&& 63)).toInt32).toInt8.toInt32)))))]) H := hP
              have hD : va_D A ([(o0, .inr (5, [.int 0, .ref ib, .int (nI ni), .ref pb, .int (nI nm), .ref qb, .int (nI no), .int q.2.1, .int q.2.2.1, .int ck, .int q.1, .int q.2.2.2.1, .int q.2.2.2.2])), (ib, .inl (cB, 8192, .inl (upd fi ni (vp_nar .byte (((v >>> ((8 * (nI (j14 + 1) - 1)).toInt64 &&& 63)).toInt32).toInt8.toInt32)))))]) := hD
              refine lv_aload_n hx hb d_Mo_give_58 rfl (lv_at hl 0 rfl) ?_
              refine lv_dup hx hb d_Mo_give_59 rfl ?_
              refine va_get (D := D) (ci := 5) (v := .int (nI ni)) (C := R_Mo) (T := T_Mo) (N := 13) hx hb hts i_Mo hown hK hP 0 rfl rfl 2 (by decide) (hts _ w_420) (fun _ h9 => h9) rfl d_Mo_give_60 ?_
              refine lv_iconst (v := 1) hx hb d_Mo_give_63 (by decide) ?_
              refine lv_iadd hx hb d_Mo_give_64 ?_
              rw [nI_1]
              refine va_put (D := D) (ci := 5) (v := .int (nI (ni + 1))) (ty := (.int)) (C := R_Mo) (T := T_Mo) (N := 13) hx hb hts i_Mo ty_Mo tyok_Mo nm_Mo hown hK hP hD hS 0 rfl rfl 2 (by decide) (hts _ w_420) (fun _ h9 => h9) rfl (by decide +kernel) rfl rfl (Nat.le_of_ble_eq_true rfl) d_Mo_give_65 (fun H locs hP hD hS => ?_)
              have hP : va_P D cls ([(o0, .inr (5, [.int 0, .ref ib, .int (nI (ni + 1)), .ref pb, .int (nI nm), .ref qb, .int (nI no), .int q.2.1, .int q.2.2.1, .int ck, .int q.1, .int q.2.2.2.1, .int q.2.2.2.2])), (ib, .inl (cB, 8192, .inl (upd fi ni (vp_nar .byte (((v >>> ((8 * (nI (j14 + 1) - 1)).toInt64 &&& 63)).toInt32).toInt8.toInt32)))))]) H := hP
              have hD : va_D A ([(o0, .inr (5, [.int 0, .ref ib, .int (nI (ni + 1)), .ref pb, .int (nI nm), .ref qb, .int (nI no), .int q.2.1, .int q.2.2.1, .int ck, .int q.1, .int q.2.2.2.1, .int q.2.2.2.2])), (ib, .inl (cB, 8192, .inl (upd fi ni (vp_nar .byte (((v >>> ((8 * (nI (j14 + 1) - 1)).toInt64 &&& 63)).toInt32).toInt8.toInt32)))))]) := hD
              refine lv_iinc (v := nI j14 - 1) (lv' := [(4, .int (nI j14 - 1)), (0, .ref o0), (1, .long v), (3, .int (nI K))]) hx hb d_Mo_give_68 hl (k := 3) rfl (dec1 _) (by decide) rfl (fun ls hl => ?_)
              refine lv_goto (tgt := 35) hx hb d_Mo_give_71 (by decide) ?_
              exact ih14 (upd fi ni (vp_nar .byte (((v >>> ((8 * (nI (j14 + 1) - 1)).toInt64 &&& 63)).toInt32).toInt8.toInt32))) (ni + 1) _ _ _ (by omega) (by rw [he]; rfl) hP hD hS (lv_sub hl [1, 2, 3, 0] rfl)
        exact lp_14 K f n _ _ _ (by omega) (rfl) hP hD hS (lv_sub hl [1, 2, 3, 0] rfl)
      · refine lv_iconst (v := 0) hx hb d_Mo_give_28 (by decide) ?_
        exact fin _ _ _ _ _ _ d_Mo_give_29 hP hS (by simp only [ygZ, if_neg c_1, if_neg c_2, if_neg c_3]) (by simp only [ygF, ygN, if_neg c_1, if_neg c_2, if_neg c_3]) rfl

set_option maxRecDepth 100000 in
set_option maxHeartbeats 4000000 in
/-- cut -/
theorem c_Mo_cut (l : Launch) (D : va_G) (cB cI cS : ClassId) (o0 ib pb qb : Nat) (th ck : Int32) (n nm no : Nat) (q : S5) (f : Nat → Int32) (k : Int32)  : mI l y_Mo_cut b_Mo_cut 2 (some .boolean) 0 D cls [(cB, .byte), (cI, .int), (cS, .object "MapLumps$Span")] [.ref o0, .int k] ([(o0, .inr (5, [.int th, .ref ib, .int (nI n), .ref pb, .int (nI nm), .ref qb, .int (nI no), .int q.2.1, .int q.2.2.1, .int ck, .int q.1, .int q.2.2.2.1, .int q.2.2.2.2])), (ib, .inl (cB, 8192, .inl f))]) (rsh n k) ([(o0, .inr (5, [.int 0, .ref ib, .int (nI (rshN n k)), .ref pb, .int (nI nm), .ref qb, .int (nI no), .int q.2.1, .int q.2.2.1, .int ck, .int q.1, .int q.2.2.2.1, .int q.2.2.2.2])), (ib, .inl (cB, 8192, .inl f))]) := by
  refine pz_openZ (by decide) (Nat.le_of_ble_eq_true rfl) ?_
  intro p e s m below meth c A ls Q X hN hK hP hD hS hA hl fin
  obtain ⟨hx, hb, hml, hown, hts⟩ := id X
  have hl : lv_has ls 2 [(0, .ref o0), (1, .int k)] := hl
  refine lv_aload_n hx hb d_Mo_cut_0 rfl (lv_at hl 0 rfl) ?_
  refine lv_iconst (v := 0) hx hb d_Mo_cut_1 (by decide) ?_
  refine va_put (D := D) (ci := 5) (v := .int 0) (ty := (.int)) (C := R_Mo) (T := T_Mo) (N := 13) hx hb hts i_Mo ty_Mo tyok_Mo nm_Mo hown hK hP hD hS 0 rfl rfl 0 (by decide) (hts _ w_418) (fun _ h9 => h9) rfl (by decide +kernel) rfl rfl (Nat.le_of_ble_eq_true rfl) d_Mo_cut_2 (fun H locs hP hD hS => ?_)
  have hP : va_P D cls ([(o0, .inr (5, [.int 0, .ref ib, .int (nI n), .ref pb, .int (nI nm), .ref qb, .int (nI no), .int q.2.1, .int q.2.2.1, .int ck, .int q.1, .int q.2.2.2.1, .int q.2.2.2.2])), (ib, .inl (cB, 8192, .inl f))]) H := hP
  have hD : va_D A ([(o0, .inr (5, [.int 0, .ref ib, .int (nI n), .ref pb, .int (nI nm), .ref qb, .int (nI no), .int q.2.1, .int q.2.2.1, .int ck, .int q.1, .int q.2.2.2.1, .int q.2.2.2.2])), (ib, .inl (cB, 8192, .inl f))]) := hD
  refine lv_iload_n hx hb d_Mo_cut_5 rfl (lv_at hl 1 rfl) ?_
  refine lv_if_lt (tgt := 17) hx hb d_Mo_cut_6 (by decide) (fun c_1 => ?_) (fun c_1 => ?_)
  · refine lv_iconst (v := 0) hx hb d_Mo_cut_17 (by decide) ?_
    exact fin _ _ _ _ _ _ d_Mo_cut_18 hP hS (by simp only [rsh, rshN, if_pos c_1]) (by simp only [rshN, if_pos c_1]) rfl
  · refine lv_iload_n hx hb d_Mo_cut_9 rfl (lv_at hl 1 rfl) ?_
    refine lv_aload_n hx hb d_Mo_cut_10 rfl (lv_at hl 0 rfl) ?_
    refine va_get (D := D) (ci := 5) (v := .int (nI n)) (C := R_Mo) (T := T_Mo) (N := 13) hx hb hts i_Mo hown hK hP 0 rfl rfl 2 (by decide) (hts _ w_420) (fun _ h9 => h9) rfl d_Mo_cut_11 ?_
    refine lv_icmp_le (tgt := 19) hx hb d_Mo_cut_14 (by decide) (fun c_2 => ?_) (fun c_2 => ?_)
    · refine lv_aload_n hx hb d_Mo_cut_19 rfl (lv_at hl 0 rfl) ?_
      refine lv_iload_n hx hb d_Mo_cut_20 rfl (lv_at hl 1 rfl) ?_
      refine va_put (D := D) (ci := 5) (v := .int k) (ty := (.int)) (C := R_Mo) (T := T_Mo) (N := 13) hx hb hts i_Mo ty_Mo tyok_Mo nm_Mo hown hK hP hD hS 0 rfl rfl 2 (by decide) (hts _ w_420) (fun _ h9 => h9) rfl (by decide +kernel) rfl rfl (Nat.le_of_ble_eq_true rfl) d_Mo_cut_21 (fun H locs hP hD hS => ?_)
      have hP : va_P D cls ([(o0, .inr (5, [.int 0, .ref ib, .int k, .ref pb, .int (nI nm), .ref qb, .int (nI no), .int q.2.1, .int q.2.2.1, .int ck, .int q.1, .int q.2.2.2.1, .int q.2.2.2.2])), (ib, .inl (cB, 8192, .inl f))]) H := hP
      have hD : va_D A ([(o0, .inr (5, [.int 0, .ref ib, .int k, .ref pb, .int (nI nm), .ref qb, .int (nI no), .int q.2.1, .int q.2.2.1, .int ck, .int q.1, .int q.2.2.2.1, .int q.2.2.2.2])), (ib, .inl (cB, 8192, .inl f))]) := hD
      refine lv_iconst (v := 1) hx hb d_Mo_cut_24 (by decide) ?_
      exact fin _ _ _ _ _ _ d_Mo_cut_25 hP hS (by simp only [rsh, rshN, if_neg c_1, if_pos c_2]) (by simp only [rshN, if_neg c_1, if_pos c_2]; rw [nI_cl c_1]) rfl
    · refine lv_iconst (v := 0) hx hb d_Mo_cut_17 (by decide) ?_
      exact fin _ _ _ _ _ _ d_Mo_cut_18 hP hS (by simp only [rsh, rshN, if_neg c_1, if_neg c_2]) (by simp only [rshN, if_neg c_1, if_neg c_2]) rfl

set_option maxRecDepth 100000 in
set_option maxHeartbeats 4000000 in
/-- poke -/
theorem c_Mo_poke (l : Launch) (D : va_G) (cB cI cS : ClassId) (o0 ib pb qb : Nat) (th ck : Int32) (n nm no : Nat) (q : S5) (f : Nat → Int32) (k b : Int32) (hn : n ≤ 8192) : mI l y_Mo_poke b_Mo_poke 3 (some .boolean) 0 D cls [(cB, .byte), (cI, .int), (cS, .object "MapLumps$Span")] [.ref o0, .int k, .int b] ([(o0, .inr (5, [.int th, .ref ib, .int (nI n), .ref pb, .int (nI nm), .ref qb, .int (nI no), .int q.2.1, .int q.2.2.1, .int ck, .int q.1, .int q.2.2.2.1, .int q.2.2.2.2])), (ib, .inl (cB, 8192, .inl f))]) (rput n k) ([(o0, .inr (5, [.int 0, .ref ib, .int (nI n), .ref pb, .int (nI nm), .ref qb, .int (nI no), .int q.2.1, .int q.2.2.1, .int ck, .int q.1, .int q.2.2.2.1, .int q.2.2.2.2])), (ib, .inl (cB, 8192, .inl (rputF f n k b)))]) := by
  refine pz_openZ (by decide) (Nat.le_of_ble_eq_true rfl) ?_
  intro p e s m below meth c A ls Q X hN hK hP hD hS hA hl fin
  obtain ⟨hx, hb, hml, hown, hts⟩ := id X
  have hl : lv_has ls 3 [(0, .ref o0), (1, .int k), (2, .int b)] := hl
  refine lv_aload_n hx hb d_Mo_poke_0 rfl (lv_at hl 0 rfl) ?_
  refine lv_iconst (v := 0) hx hb d_Mo_poke_1 (by decide) ?_
  refine va_put (D := D) (ci := 5) (v := .int 0) (ty := (.int)) (C := R_Mo) (T := T_Mo) (N := 13) hx hb hts i_Mo ty_Mo tyok_Mo nm_Mo hown hK hP hD hS 0 rfl rfl 0 (by decide) (hts _ w_418) (fun _ h9 => h9) rfl (by decide +kernel) rfl rfl (Nat.le_of_ble_eq_true rfl) d_Mo_poke_2 (fun H locs hP hD hS => ?_)
  have hP : va_P D cls ([(o0, .inr (5, [.int 0, .ref ib, .int (nI n), .ref pb, .int (nI nm), .ref qb, .int (nI no), .int q.2.1, .int q.2.2.1, .int ck, .int q.1, .int q.2.2.2.1, .int q.2.2.2.2])), (ib, .inl (cB, 8192, .inl f))]) H := hP
  have hD : va_D A ([(o0, .inr (5, [.int 0, .ref ib, .int (nI n), .ref pb, .int (nI nm), .ref qb, .int (nI no), .int q.2.1, .int q.2.2.1, .int ck, .int q.1, .int q.2.2.2.1, .int q.2.2.2.2])), (ib, .inl (cB, 8192, .inl f))]) := hD
  refine lv_iload_n hx hb d_Mo_poke_5 rfl (lv_at hl 1 rfl) ?_
  refine lv_if_lt (tgt := 17) hx hb d_Mo_poke_6 (by decide) (fun c_1 => ?_) (fun c_1 => ?_)
  · refine lv_iconst (v := 0) hx hb d_Mo_poke_17 (by decide) ?_
    exact fin _ _ _ _ _ _ d_Mo_poke_18 hP hS (by simp only [rput, rputF, pk_vb, if_pos c_1]) (by simp only [rput, rputF, pk_vb, if_pos c_1]) rfl
  · refine lv_iload_n hx hb d_Mo_poke_9 rfl (lv_at hl 1 rfl) ?_
    refine lv_aload_n hx hb d_Mo_poke_10 rfl (lv_at hl 0 rfl) ?_
    refine va_get (D := D) (ci := 5) (v := .int (nI n)) (C := R_Mo) (T := T_Mo) (N := 13) hx hb hts i_Mo hown hK hP 0 rfl rfl 2 (by decide) (hts _ w_420) (fun _ h9 => h9) rfl d_Mo_poke_11 ?_
    refine lv_icmp_lt (tgt := 19) hx hb d_Mo_poke_14 (by decide) (fun c_2 => ?_) (fun c_2 => ?_)
    · refine lv_aload_n hx hb d_Mo_poke_19 rfl (lv_at hl 0 rfl) ?_
      refine va_get (D := D) (ci := 5) (v := .ref ib) (C := R_Mo) (T := T_Mo) (N := 13) hx hb hts i_Mo hown hK hP 0 rfl rfl 1 (by decide) (hts _ w_419) (fun _ h9 => h9) rfl d_Mo_poke_20 ?_
      refine lv_iload_n hx hb d_Mo_poke_23 rfl (lv_at hl 1 rfl) ?_
      refine lv_iload_n hx hb d_Mo_poke_24 rfl (lv_at hl 2 rfl) ?_
      refine lv_i2b hx hb d_Mo_poke_25 rfl ?_
      refine va_bast hx hb hK hP hD hS 1 0 rfl rfl (in_b c_1 c_2 hn (by decide)) d_Mo_poke_26 (fun H locs hP hD hS => ?_)
      have hP : va_P D cls ([(o0, .inr (5, [.int 0, .ref ib, .int (nI n), .ref pb, .int (nI nm), .ref qb, .int (nI no), .int q.2.1, .int q.2.2.1, .int ck, .int q.1, .int q.2.2.2.1, .int q.2.2.2.2])), (ib, .inl (cB, 8192, .inl (upd f k.toNatClampNeg (vp_nar .byte b.toInt8.toInt32))))]) H := hP
      have hD : va_D A ([(o0, .inr (5, [.int 0, .ref ib, .int (nI n), .ref pb, .int (nI nm), .ref qb, .int (nI no), .int q.2.1, .int q.2.2.1, .int ck, .int q.1, .int q.2.2.2.1, .int q.2.2.2.2])), (ib, .inl (cB, 8192, .inl (upd f k.toNatClampNeg (vp_nar .byte b.toInt8.toInt32))))]) := hD
      refine lv_iconst (v := 1) hx hb d_Mo_poke_27 (by decide) ?_
      exact fin _ _ _ _ _ _ d_Mo_poke_28 hP hS (by simp only [rput, rputF, pk_vb, if_neg c_1, if_pos c_2]) (by simp only [rput, rputF, pk_vb, if_neg c_1, if_pos c_2]) rfl
    · refine lv_iconst (v := 0) hx hb d_Mo_poke_17 (by decide) ?_
      exact fin _ _ _ _ _ _ d_Mo_poke_18 hP hS (by simp only [rput, rputF, pk_vb, if_neg c_1, if_neg c_2]) (by simp only [rput, rputF, pk_vb, if_neg c_1, if_neg c_2]) rfl

set_option maxRecDepth 100000 in
set_option maxHeartbeats 4000000 in
/-- check -/
theorem c_Mo_check (l : Launch) (D : va_G) (cB cI cS : ClassId) (o0 ib pb qb : Nat) (th ck : Int32) (n nm no : Nat) (q : S5) (f : Nat → Int32) (hn : n ≤ 8192) : mI l y_Mo_check b_Mo_check 2 (some .boolean) 1 D cls [(cB, .byte), (cI, .int), (cS, .object "MapLumps$Span")] [.ref o0] ([(o0, .inr (5, [.int th, .ref ib, .int (nI n), .ref pb, .int (nI nm), .ref qb, .int (nI no), .int q.2.1, .int q.2.2.1, .int ck, .int q.1, .int q.2.2.2.1, .int q.2.2.2.2])), (ib, .inl (cB, 8192, .inl f))]) (ycZ n) ([(o0, .inr (5, [.int 0, .ref ib, .int (nI n), .ref pb, .int (nI nm), .ref qb, .int (nI no), .int ((ycQ f n q).2.1), .int ((ycQ f n q).2.2.1), .int ck, .int ((ycQ f n q).1), .int ((ycQ f n q).2.2.2.1), .int ((ycQ f n q).2.2.2.2)])), (ib, .inl (cB, 8192, .inl (ycF f n)))]) := by
  refine pz_openZ (by decide) (Nat.le_of_ble_eq_true rfl) ?_
  intro p e s m below meth c A ls Q X hN hK hP hD hS hA hl fin
  obtain ⟨hx, hb, hml, hown, hts⟩ := id X
  have hl : lv_has ls 2 [(0, .ref o0)] := hl
  refine lv_aload_n hx hb d_Mo_check_0 rfl (lv_at hl 0 rfl) ?_
  refine lv_iconst (v := 0) hx hb d_Mo_check_1 (by decide) ?_
  refine va_put (D := D) (ci := 5) (v := .int 0) (ty := (.int)) (C := R_Mo) (T := T_Mo) (N := 13) hx hb hts i_Mo ty_Mo tyok_Mo nm_Mo hown hK hP hD hS 0 rfl rfl 0 (by decide) (hts _ w_418) (fun _ h9 => h9) rfl (by decide +kernel) rfl rfl (Nat.le_of_ble_eq_true rfl) d_Mo_check_2 (fun H locs hP hD hS => ?_)
  have hP : va_P D cls ([(o0, .inr (5, [.int 0, .ref ib, .int (nI n), .ref pb, .int (nI nm), .ref qb, .int (nI no), .int q.2.1, .int q.2.2.1, .int ck, .int q.1, .int q.2.2.2.1, .int q.2.2.2.2])), (ib, .inl (cB, 8192, .inl f))]) H := hP
  have hD : va_D A ([(o0, .inr (5, [.int 0, .ref ib, .int (nI n), .ref pb, .int (nI nm), .ref qb, .int (nI no), .int q.2.1, .int q.2.2.1, .int ck, .int q.1, .int q.2.2.2.1, .int q.2.2.2.2])), (ib, .inl (cB, 8192, .inl f))]) := hD
  refine lv_aload_n hx hb d_Mo_check_5 rfl (lv_at hl 0 rfl) ?_
  refine va_get (D := D) (ci := 5) (v := .int (nI n)) (C := R_Mo) (T := T_Mo) (N := 13) hx hb hts i_Mo hown hK hP 0 rfl rfl 2 (by decide) (hts _ w_420) (fun _ h9 => h9) rfl d_Mo_check_6 ?_
  refine lv_iconst (v := 2) hx hb d_Mo_check_9 (by decide) ?_
  refine lv_icmp_ge (tgt := 15) hx hb d_Mo_check_10 (by decide) (fun c_1 => ?_) (fun c_1 => ?_)
  · have hZ : ycZ n = 1 := by simp only [ycZ, if_pos c_1]
    have hF : ycF f n = upd (upd f (n - 2) (vp_nar .byte (sum2 f (n - 2)).1.toInt8.toInt32)) (n - 2 + 1) (vp_nar .byte (sum2 f (n - 2)).2.toInt8.toInt32) := by simp only [ycF, if_pos c_1]
    have hQ : ycQ f n q = (q.1, q.2.1, q.2.2.1, (sum2 f (n - 2)).1, (sum2 f (n - 2)).2) := by simp only [ycQ, if_pos c_1]
    obtain ⟨M, eM⟩ := yc_ge hn c_1
    have e1 : nI n - 2 = nI M := by rw [eM]; exact ck_sub M
    have e3 : nI n - 1 = nI (M + 1) := by rw [eM]; exact yc_sub M
    have e2 : n - 2 = M := by omega
    rw [e2] at hF hQ
    refine lv_aload_n hx hb d_Mo_check_15 rfl (lv_at hl 0 rfl) ?_
    refine lv_iconst (v := 0) hx hb d_Mo_check_16 (by decide) ?_
    refine va_put (D := D) (ci := 5) (v := .int 0) (ty := (.int)) (C := R_Mo) (T := T_Mo) (N := 13) hx hb hts i_Mo ty_Mo tyok_Mo nm_Mo hown hK hP hD hS 0 rfl rfl 11 (by decide) (hts _ w_429) (fun _ h9 => h9) rfl (by decide +kernel) rfl rfl (Nat.le_of_ble_eq_true rfl) d_Mo_check_17 (fun H locs hP hD hS => ?_)
    have hP : va_P D cls ([(o0, .inr (5, [.int 0, .ref ib, .int (nI n), .ref pb, .int (nI nm), .ref qb, .int (nI no), .int q.2.1, .int q.2.2.1, .int ck, .int q.1, .int 0, .int q.2.2.2.2])), (ib, .inl (cB, 8192, .inl f))]) H := hP
    have hD : va_D A ([(o0, .inr (5, [.int 0, .ref ib, .int (nI n), .ref pb, .int (nI nm), .ref qb, .int (nI no), .int q.2.1, .int q.2.2.1, .int ck, .int q.1, .int 0, .int q.2.2.2.2])), (ib, .inl (cB, 8192, .inl f))]) := hD
    refine lv_aload_n hx hb d_Mo_check_20 rfl (lv_at hl 0 rfl) ?_
    refine lv_iconst (v := 0) hx hb d_Mo_check_21 (by decide) ?_
    refine va_put (D := D) (ci := 5) (v := .int 0) (ty := (.int)) (C := R_Mo) (T := T_Mo) (N := 13) hx hb hts i_Mo ty_Mo tyok_Mo nm_Mo hown hK hP hD hS 0 rfl rfl 12 (by decide) (hts _ w_430) (fun _ h9 => h9) rfl (by decide +kernel) rfl rfl (Nat.le_of_ble_eq_true rfl) d_Mo_check_22 (fun H locs hP hD hS => ?_)
    have hP : va_P D cls ([(o0, .inr (5, [.int 0, .ref ib, .int (nI n), .ref pb, .int (nI nm), .ref qb, .int (nI no), .int q.2.1, .int q.2.2.1, .int ck, .int q.1, .int 0, .int 0])), (ib, .inl (cB, 8192, .inl f))]) H := hP
    have hD : va_D A ([(o0, .inr (5, [.int 0, .ref ib, .int (nI n), .ref pb, .int (nI nm), .ref qb, .int (nI no), .int q.2.1, .int q.2.2.1, .int ck, .int q.1, .int 0, .int 0])), (ib, .inl (cB, 8192, .inl f))]) := hD
    refine lv_iconst (v := 0) hx hb d_Mo_check_25 (by decide) ?_
    refine lv_istore_n (lv' := [(1, .int 0), (0, .ref o0)]) hx hb d_Mo_check_26 rfl hl (by decide) rfl (fun ls hl => ?_)
    have lp_15 : ∀ (j15 : Nat) (i : Nat) (ls : Array Slot) (H : Heap) (locs : List Loc), j15 + i = M → va_P D cls ([(o0, .inr (5, [.int 0, .ref ib, .int (nI n), .ref pb, .int (nI nm), .ref qb, .int (nI no), .int q.2.1, .int q.2.2.1, .int ck, .int q.1, .int ((sum2 f i).1), .int ((sum2 f i).2)])), (ib, .inl (cB, 8192, .inl f))]) H → va_D A ([(o0, .inr (5, [.int 0, .ref ib, .int (nI n), .ref pb, .int (nI nm), .ref qb, .int (nI no), .int q.2.1, .int q.2.2.1, .int ck, .int q.1, .int ((sum2 f i).1), .int ((sum2 f i).2)])), (ib, .inl (cB, 8192, .inl f))]) → va_S A s.heap H locs → lv_has ls 2 [(0, .ref o0), (1, .int (nI i))] → W p l e (rmd 1) s m ([.ref o0] : List Value).toArray below meth c H locs 0 0 Q (F0 m 27 ls []) := by
      intro j15
      induction j15 with
      | zero =>
        intro i ls H locs hi hP hD hS hl
        refine lv_iload_n hx hb d_Mo_check_27 rfl (lv_at hl 1 rfl) ?_
        refine lv_aload_n hx hb d_Mo_check_28 rfl (lv_at hl 0 rfl) ?_
        refine va_get (D := D) (ci := 5) (v := .int (nI n)) (C := R_Mo) (T := T_Mo) (N := 13) hx hb hts i_Mo hown hK hP 0 rfl rfl 2 (by decide) (hts _ w_420) (fun _ h9 => h9) rfl d_Mo_check_29 ?_
        refine lv_iconst (v := 2) hx hb d_Mo_check_32 (by decide) ?_
        refine lv_isub hx hb d_Mo_check_33 ?_
        rw [e1]
        refine lv_icmp_ge (tgt := 57) hx hb d_Mo_check_34 (by decide) (fun c_2 => ?_) (fun c_2 => ?_)
        · refine lv_aload_n hx hb d_Mo_check_57 rfl (lv_at hl 0 rfl) ?_
          refine va_get (D := D) (ci := 5) (v := .ref ib) (C := R_Mo) (T := T_Mo) (N := 13) hx hb hts i_Mo hown hK hP 0 rfl rfl 1 (by decide) (hts _ w_419) (fun _ h9 => h9) rfl d_Mo_check_58 ?_
          refine lv_aload_n hx hb d_Mo_check_61 rfl (lv_at hl 0 rfl) ?_
          refine va_get (D := D) (ci := 5) (v := .int (nI n)) (C := R_Mo) (T := T_Mo) (N := 13) hx hb hts i_Mo hown hK hP 0 rfl rfl 2 (by decide) (hts _ w_420) (fun _ h9 => h9) rfl d_Mo_check_62 ?_
          refine lv_iconst (v := 2) hx hb d_Mo_check_65 (by decide) ?_
          refine lv_isub hx hb d_Mo_check_66 ?_
          rw [e1]
          refine lv_aload_n hx hb d_Mo_check_67 rfl (lv_at hl 0 rfl) ?_
          refine va_get (D := D) (ci := 5) (v := .int ((sum2 f i).1)) (C := R_Mo) (T := T_Mo) (N := 13) hx hb hts i_Mo hown hK hP 0 rfl rfl 11 (by decide) (hts _ w_429) (fun _ h9 => h9) rfl d_Mo_check_68 ?_
          refine lv_i2b hx hb d_Mo_check_71 rfl ?_
          refine va_bast hx hb hK hP hD hS 1 0 rfl rfl (in_n (by omega) (by decide)) d_Mo_check_72 (fun H locs hP hD hS => ?_)
          rw [nI_clamp (show M < 2 ^ 31 by omega)] at hP hD
          have hP : va_P D cls ([(o0, .inr (5, [.int 0, .ref ib, .int (nI n), .ref pb, .int (nI nm), .ref qb, .int (nI no), .int q.2.1, .int q.2.2.1, .int ck, .int q.1, .int ((sum2 f i).1), .int ((sum2 f i).2)])), (ib, .inl (cB, 8192, .inl (upd f M (vp_nar .byte (((sum2 f i).1).toInt8.toInt32)))))]) H := hP
          have hD : va_D A ([(o0, .inr (5, [.int 0, .ref ib, .int (nI n), .ref pb, .int (nI nm), .ref qb, .int (nI no), .int q.2.1, .int q.2.2.1, .int ck, .int q.1, .int ((sum2 f i).1), .int ((sum2 f i).2)])), (ib, .inl (cB, 8192, .inl (upd f M (vp_nar .byte (((sum2 f i).1).toInt8.toInt32)))))]) := hD
          refine lv_aload_n hx hb d_Mo_check_73 rfl (lv_at hl 0 rfl) ?_
          refine va_get (D := D) (ci := 5) (v := .ref ib) (C := R_Mo) (T := T_Mo) (N := 13) hx hb hts i_Mo hown hK hP 0 rfl rfl 1 (by decide) (hts _ w_419) (fun _ h9 => h9) rfl d_Mo_check_74 ?_
          refine lv_aload_n hx hb d_Mo_check_77 rfl (lv_at hl 0 rfl) ?_
          refine va_get (D := D) (ci := 5) (v := .int (nI n)) (C := R_Mo) (T := T_Mo) (N := 13) hx hb hts i_Mo hown hK hP 0 rfl rfl 2 (by decide) (hts _ w_420) (fun _ h9 => h9) rfl d_Mo_check_78 ?_
          refine lv_iconst (v := 1) hx hb d_Mo_check_81 (by decide) ?_
          refine lv_isub hx hb d_Mo_check_82 ?_
          rw [e3]
          refine lv_aload_n hx hb d_Mo_check_83 rfl (lv_at hl 0 rfl) ?_
          refine va_get (D := D) (ci := 5) (v := .int ((sum2 f i).2)) (C := R_Mo) (T := T_Mo) (N := 13) hx hb hts i_Mo hown hK hP 0 rfl rfl 12 (by decide) (hts _ w_430) (fun _ h9 => h9) rfl d_Mo_check_84 ?_
          refine lv_i2b hx hb d_Mo_check_87 rfl ?_
          refine va_bast hx hb hK hP hD hS 1 0 rfl rfl (in_n (by omega) (by decide)) d_Mo_check_88 (fun H locs hP hD hS => ?_)
          have hP : va_P D cls ([(o0, .inr (5, [.int 0, .ref ib, .int (nI n), .ref pb, .int (nI nm), .ref qb, .int (nI no), .int q.2.1, .int q.2.2.1, .int ck, .int q.1, .int ((sum2 f i).1), .int ((sum2 f i).2)])), (ib, .inl (cB, 8192, .inl (upd (upd f M (vp_nar .byte (((sum2 f i).1).toInt8.toInt32))) (nI (M + 1)).toNatClampNeg (vp_nar .byte (((sum2 f i).2).toInt8.toInt32)))))]) H := hP
          have hD : va_D A ([(o0, .inr (5, [.int 0, .ref ib, .int (nI n), .ref pb, .int (nI nm), .ref qb, .int (nI no), .int q.2.1, .int q.2.2.1, .int ck, .int q.1, .int ((sum2 f i).1), .int ((sum2 f i).2)])), (ib, .inl (cB, 8192, .inl (upd (upd f M (vp_nar .byte (((sum2 f i).1).toInt8.toInt32))) (nI (M + 1)).toNatClampNeg (vp_nar .byte (((sum2 f i).2).toInt8.toInt32)))))]) := hD
          refine lv_iconst (v := 1) hx hb d_Mo_check_89 (by decide) ?_
          exact fin _ _ _ _ _ _ d_Mo_check_90 hP hS (hZ.symm) (by rw [hF, hQ, show i = M by omega]; first | rfl | (rw [nI_clamp (show M + 1 < 2 ^ 31 by omega)])) rfl
        · exact (c_2 (by rw [nI_leI (by omega) (by omega)]; omega)).elim
      | succ j15 ih15 =>
        intro i ls H locs hi hP hD hS hl
        refine lv_iload_n hx hb d_Mo_check_27 rfl (lv_at hl 1 rfl) ?_
        refine lv_aload_n hx hb d_Mo_check_28 rfl (lv_at hl 0 rfl) ?_
        refine va_get (D := D) (ci := 5) (v := .int (nI n)) (C := R_Mo) (T := T_Mo) (N := 13) hx hb hts i_Mo hown hK hP 0 rfl rfl 2 (by decide) (hts _ w_420) (fun _ h9 => h9) rfl d_Mo_check_29 ?_
        refine lv_iconst (v := 2) hx hb d_Mo_check_32 (by decide) ?_
        refine lv_isub hx hb d_Mo_check_33 ?_
        rw [e1]
        refine lv_icmp_ge (tgt := 57) hx hb d_Mo_check_34 (by decide) (fun c_3 => ?_) (fun c_3 => ?_)
        · exact absurd c_3 (by rw [nI_leI (by omega) (by omega)]; omega)
        · refine lv_aload_n hx hb d_Mo_check_37 rfl (lv_at hl 0 rfl) ?_
          refine lv_aload_n hx hb d_Mo_check_38 rfl (lv_at hl 0 rfl) ?_
          refine va_get (D := D) (ci := 5) (v := .ref ib) (C := R_Mo) (T := T_Mo) (N := 13) hx hb hts i_Mo hown hK hP 0 rfl rfl 1 (by decide) (hts _ w_419) (fun _ h9 => h9) rfl d_Mo_check_39 ?_
          refine lv_iload_n hx hb d_Mo_check_42 rfl (lv_at hl 1 rfl) ?_
          refine va_bald hx hb hK hP 1 0 rfl rfl (in_n (by omega) (by decide)) d_Mo_check_43 ?_
          rw [nI_clamp (show i < 2 ^ 31 by omega)]
          refine lv_sipush (v := 255) hx hb d_Mo_check_44 (by decide) ?_
          refine lv_iand hx hb d_Mo_check_47 ?_
          refine pz_v (pz_rV (d := 0) (As := [.int ((f i) &&& 255)]) (rest := []) X hN (c_Mo_add l D cB cI cS o0 ib pb qb 0 ck n nm no (q.1, q.2.1, q.2.2.1, (sum2 f i).1, (sum2 f i).2) ((f i) &&& 255) _) k_Mo_add w_474 ⟨by decide, by decide⟩ hK hP hD [0] rfl rfl 0 rfl rfl rfl rfl hl.1 rfl (Nat.le_of_ble_eq_true rfl) d_Mo_check_48 ⟨Nat.zero_le _, Nat.zero_le _⟩) hP hD hS hA [0] rfl [o0] rfl rfl (fun H locs hP hD hS => ?_)
          have hP : va_P D cls ([(o0, .inr (5, [.int 0, .ref ib, .int (nI n), .ref pb, .int (nI nm), .ref qb, .int (nI no), .int ((yad (q.1, q.2.1, q.2.2.1, (sum2 f i).1, (sum2 f i).2) ((f i) &&& 255)).2.1), .int ((yad (q.1, q.2.1, q.2.2.1, (sum2 f i).1, (sum2 f i).2) ((f i) &&& 255)).2.2.1), .int ck, .int ((yad (q.1, q.2.1, q.2.2.1, (sum2 f i).1, (sum2 f i).2) ((f i) &&& 255)).1), .int ((yad (q.1, q.2.1, q.2.2.1, (sum2 f i).1, (sum2 f i).2) ((f i) &&& 255)).2.2.2.1), .int ((yad (q.1, q.2.1, q.2.2.1, (sum2 f i).1, (sum2 f i).2) ((f i) &&& 255)).2.2.2.2)])), (ib, .inl (cB, 8192, .inl f))]) H := hP
          have hD : va_D A ([(o0, .inr (5, [.int 0, .ref ib, .int (nI n), .ref pb, .int (nI nm), .ref qb, .int (nI no), .int ((yad (q.1, q.2.1, q.2.2.1, (sum2 f i).1, (sum2 f i).2) ((f i) &&& 255)).2.1), .int ((yad (q.1, q.2.1, q.2.2.1, (sum2 f i).1, (sum2 f i).2) ((f i) &&& 255)).2.2.1), .int ck, .int ((yad (q.1, q.2.1, q.2.2.1, (sum2 f i).1, (sum2 f i).2) ((f i) &&& 255)).1), .int ((yad (q.1, q.2.1, q.2.2.1, (sum2 f i).1, (sum2 f i).2) ((f i) &&& 255)).2.2.2.1), .int ((yad (q.1, q.2.1, q.2.2.1, (sum2 f i).1, (sum2 f i).2) ((f i) &&& 255)).2.2.2.2)])), (ib, .inl (cB, 8192, .inl f))]) := hD
          refine lv_iinc (v := nI (i + 1)) (lv' := [(1, .int (nI (i + 1))), (0, .ref o0)]) hx hb d_Mo_check_51 hl (k := 1) rfl (nI_1 i) (by decide) rfl (fun ls hl => ?_)
          refine lv_goto (tgt := 27) hx hb d_Mo_check_54 (by decide) ?_
          exact ih15 (i + 1) _ _ _ (by omega) hP hD hS (lv_sub hl [1, 0] rfl)
    exact lp_15 M 0 _ _ _ (by omega) hP hD hS (lv_sub hl [1, 0] rfl)
  · refine lv_iconst (v := 0) hx hb d_Mo_check_13 (by decide) ?_
    exact fin _ _ _ _ _ _ d_Mo_check_14 hP hS (by simp only [ycZ, if_neg c_1]) (by simp only [ycF, ycQ, if_neg c_1]) rfl

set_option maxRecDepth 100000 in
set_option maxHeartbeats 4000000 in
/-- read -/
theorem c_Mo_read (l : Launch) (D : va_G) (cB cI cS : ClassId) (o0 ib pb qb : Nat) (th ck : Int32) (n nm no : Nat) (q : S5) (f : Nat → Int32) (fm : Nat → Int32) (hn : n ≤ 8192) (hf : sb_Fit f) : mI l y_Mo_read b_Mo_read 2 (some .int) 5 D cls [(cB, .byte), (cI, .int), (cS, .object "MapLumps$Span")] [.ref o0] ([(o0, .inr (5, [.int th, .ref ib, .int (nI n), .ref pb, .int (nI nm), .ref qb, .int (nI no), .int q.2.1, .int q.2.2.1, .int ck, .int q.1, .int q.2.2.2.1, .int q.2.2.2.2])), (ib, .inl (cB, 8192, .inl f)), (pb, .inl (cB, 8192, .inl fm))]) ((yal f n yq0 (-1)).1.2.1) ([(o0, .inr (5, [.int 0, .ref ib, .int (nI n), .ref pb, .int (nI (if (yal f n yq0 (-1)).1.2.1 = 0 then n else nm)), .ref qb, .int (nI no), .int ((yal f n yq0 (-1)).1.2.1), .int ((yal f n yq0 (-1)).1.2.2.1), .int ((yal f n yq0 (-1)).2), .int ((yal f n yq0 (-1)).1.1), .int ((yal f n yq0 (-1)).1.2.2.2.1), .int ((yal f n yq0 (-1)).1.2.2.2.2)])), (ib, .inl (cB, 8192, .inl f)), (pb, .inl (cB, 8192, .inl (if (yal f n yq0 (-1)).1.2.1 = 0 then va_cpy f fm 0 0 n else fm)))]) := by
  refine pz_openI (by decide) (Nat.le_of_ble_eq_true rfl) ?_
  intro p e s m below meth c A ls Q X hN hK hP hD hS hA hl fin
  obtain ⟨hx, hb, hml, hown, hts⟩ := id X
  have hl : lv_has ls 2 [(0, .ref o0)] := hl
  refine lv_aload_n hx hb d_Mo_read_0 rfl (lv_at hl 0 rfl) ?_
  refine lv_iconst (v := 0) hx hb d_Mo_read_1 (by decide) ?_
  refine va_put (D := D) (ci := 5) (v := .int 0) (ty := (.int)) (C := R_Mo) (T := T_Mo) (N := 13) hx hb hts i_Mo ty_Mo tyok_Mo nm_Mo hown hK hP hD hS 0 rfl rfl 0 (by decide) (hts _ w_418) (fun _ h9 => h9) rfl (by decide +kernel) rfl rfl (Nat.le_of_ble_eq_true rfl) d_Mo_read_2 (fun H locs hP hD hS => ?_)
  have hP : va_P D cls ([(o0, .inr (5, [.int 0, .ref ib, .int (nI n), .ref pb, .int (nI nm), .ref qb, .int (nI no), .int q.2.1, .int q.2.2.1, .int ck, .int q.1, .int q.2.2.2.1, .int q.2.2.2.2])), (ib, .inl (cB, 8192, .inl f)), (pb, .inl (cB, 8192, .inl fm))]) H := hP
  have hD : va_D A ([(o0, .inr (5, [.int 0, .ref ib, .int (nI n), .ref pb, .int (nI nm), .ref qb, .int (nI no), .int q.2.1, .int q.2.2.1, .int ck, .int q.1, .int q.2.2.2.1, .int q.2.2.2.2])), (ib, .inl (cB, 8192, .inl f)), (pb, .inl (cB, 8192, .inl fm))]) := hD
  refine lv_aload_n hx hb d_Mo_read_5 rfl (lv_at hl 0 rfl) ?_
  refine lv_iconst (v := 0) hx hb d_Mo_read_6 (by decide) ?_
  refine va_put (D := D) (ci := 5) (v := .int 0) (ty := (.int)) (C := R_Mo) (T := T_Mo) (N := 13) hx hb hts i_Mo ty_Mo tyok_Mo nm_Mo hown hK hP hD hS 0 rfl rfl 10 (by decide) (hts _ w_428) (fun _ h9 => h9) rfl (by decide +kernel) rfl rfl (Nat.le_of_ble_eq_true rfl) d_Mo_read_7 (fun H locs hP hD hS => ?_)
  have hP : va_P D cls ([(o0, .inr (5, [.int 0, .ref ib, .int (nI n), .ref pb, .int (nI nm), .ref qb, .int (nI no), .int q.2.1, .int q.2.2.1, .int ck, .int 0, .int q.2.2.2.1, .int q.2.2.2.2])), (ib, .inl (cB, 8192, .inl f)), (pb, .inl (cB, 8192, .inl fm))]) H := hP
  have hD : va_D A ([(o0, .inr (5, [.int 0, .ref ib, .int (nI n), .ref pb, .int (nI nm), .ref qb, .int (nI no), .int q.2.1, .int q.2.2.1, .int ck, .int 0, .int q.2.2.2.1, .int q.2.2.2.2])), (ib, .inl (cB, 8192, .inl f)), (pb, .inl (cB, 8192, .inl fm))]) := hD
  refine lv_aload_n hx hb d_Mo_read_10 rfl (lv_at hl 0 rfl) ?_
  refine lv_iconst (v := 0) hx hb d_Mo_read_11 (by decide) ?_
  refine va_put (D := D) (ci := 5) (v := .int 0) (ty := (.int)) (C := R_Mo) (T := T_Mo) (N := 13) hx hb hts i_Mo ty_Mo tyok_Mo nm_Mo hown hK hP hD hS 0 rfl rfl 11 (by decide) (hts _ w_429) (fun _ h9 => h9) rfl (by decide +kernel) rfl rfl (Nat.le_of_ble_eq_true rfl) d_Mo_read_12 (fun H locs hP hD hS => ?_)
  have hP : va_P D cls ([(o0, .inr (5, [.int 0, .ref ib, .int (nI n), .ref pb, .int (nI nm), .ref qb, .int (nI no), .int q.2.1, .int q.2.2.1, .int ck, .int 0, .int 0, .int q.2.2.2.2])), (ib, .inl (cB, 8192, .inl f)), (pb, .inl (cB, 8192, .inl fm))]) H := hP
  have hD : va_D A ([(o0, .inr (5, [.int 0, .ref ib, .int (nI n), .ref pb, .int (nI nm), .ref qb, .int (nI no), .int q.2.1, .int q.2.2.1, .int ck, .int 0, .int 0, .int q.2.2.2.2])), (ib, .inl (cB, 8192, .inl f)), (pb, .inl (cB, 8192, .inl fm))]) := hD
  refine lv_aload_n hx hb d_Mo_read_15 rfl (lv_at hl 0 rfl) ?_
  refine lv_iconst (v := 0) hx hb d_Mo_read_16 (by decide) ?_
  refine va_put (D := D) (ci := 5) (v := .int 0) (ty := (.int)) (C := R_Mo) (T := T_Mo) (N := 13) hx hb hts i_Mo ty_Mo tyok_Mo nm_Mo hown hK hP hD hS 0 rfl rfl 12 (by decide) (hts _ w_430) (fun _ h9 => h9) rfl (by decide +kernel) rfl rfl (Nat.le_of_ble_eq_true rfl) d_Mo_read_17 (fun H locs hP hD hS => ?_)
  have hP : va_P D cls ([(o0, .inr (5, [.int 0, .ref ib, .int (nI n), .ref pb, .int (nI nm), .ref qb, .int (nI no), .int q.2.1, .int q.2.2.1, .int ck, .int 0, .int 0, .int 0])), (ib, .inl (cB, 8192, .inl f)), (pb, .inl (cB, 8192, .inl fm))]) H := hP
  have hD : va_D A ([(o0, .inr (5, [.int 0, .ref ib, .int (nI n), .ref pb, .int (nI nm), .ref qb, .int (nI no), .int q.2.1, .int q.2.2.1, .int ck, .int 0, .int 0, .int 0])), (ib, .inl (cB, 8192, .inl f)), (pb, .inl (cB, 8192, .inl fm))]) := hD
  refine lv_aload_n hx hb d_Mo_read_20 rfl (lv_at hl 0 rfl) ?_
  refine lv_iconst (v := 0) hx hb d_Mo_read_21 (by decide) ?_
  refine va_put (D := D) (ci := 5) (v := .int 0) (ty := (.int)) (C := R_Mo) (T := T_Mo) (N := 13) hx hb hts i_Mo ty_Mo tyok_Mo nm_Mo hown hK hP hD hS 0 rfl rfl 7 (by decide) (hts _ w_425) (fun _ h9 => h9) rfl (by decide +kernel) rfl rfl (Nat.le_of_ble_eq_true rfl) d_Mo_read_22 (fun H locs hP hD hS => ?_)
  have hP : va_P D cls ([(o0, .inr (5, [.int 0, .ref ib, .int (nI n), .ref pb, .int (nI nm), .ref qb, .int (nI no), .int 0, .int q.2.2.1, .int ck, .int 0, .int 0, .int 0])), (ib, .inl (cB, 8192, .inl f)), (pb, .inl (cB, 8192, .inl fm))]) H := hP
  have hD : va_D A ([(o0, .inr (5, [.int 0, .ref ib, .int (nI n), .ref pb, .int (nI nm), .ref qb, .int (nI no), .int 0, .int q.2.2.1, .int ck, .int 0, .int 0, .int 0])), (ib, .inl (cB, 8192, .inl f)), (pb, .inl (cB, 8192, .inl fm))]) := hD
  refine lv_aload_n hx hb d_Mo_read_25 rfl (lv_at hl 0 rfl) ?_
  refine lv_iconst (v := (-1)) hx hb d_Mo_read_26 (by decide) ?_
  refine va_put (D := D) (ci := 5) (v := .int (-1)) (ty := (.int)) (C := R_Mo) (T := T_Mo) (N := 13) hx hb hts i_Mo ty_Mo tyok_Mo nm_Mo hown hK hP hD hS 0 rfl rfl 8 (by decide) (hts _ w_426) (fun _ h9 => h9) rfl (by decide +kernel) rfl rfl (Nat.le_of_ble_eq_true rfl) d_Mo_read_27 (fun H locs hP hD hS => ?_)
  have hP : va_P D cls ([(o0, .inr (5, [.int 0, .ref ib, .int (nI n), .ref pb, .int (nI nm), .ref qb, .int (nI no), .int 0, .int (-1), .int ck, .int 0, .int 0, .int 0])), (ib, .inl (cB, 8192, .inl f)), (pb, .inl (cB, 8192, .inl fm))]) H := hP
  have hD : va_D A ([(o0, .inr (5, [.int 0, .ref ib, .int (nI n), .ref pb, .int (nI nm), .ref qb, .int (nI no), .int 0, .int (-1), .int ck, .int 0, .int 0, .int 0])), (ib, .inl (cB, 8192, .inl f)), (pb, .inl (cB, 8192, .inl fm))]) := hD
  refine lv_aload_n hx hb d_Mo_read_30 rfl (lv_at hl 0 rfl) ?_
  refine lv_iconst (v := (-1)) hx hb d_Mo_read_31 (by decide) ?_
  refine va_put (D := D) (ci := 5) (v := .int (-1)) (ty := (.int)) (C := R_Mo) (T := T_Mo) (N := 13) hx hb hts i_Mo ty_Mo tyok_Mo nm_Mo hown hK hP hD hS 0 rfl rfl 9 (by decide) (hts _ w_427) (fun _ h9 => h9) rfl (by decide +kernel) rfl rfl (Nat.le_of_ble_eq_true rfl) d_Mo_read_32 (fun H locs hP hD hS => ?_)
  have hP : va_P D cls ([(o0, .inr (5, [.int 0, .ref ib, .int (nI n), .ref pb, .int (nI nm), .ref qb, .int (nI no), .int 0, .int (-1), .int (-1), .int 0, .int 0, .int 0])), (ib, .inl (cB, 8192, .inl f)), (pb, .inl (cB, 8192, .inl fm))]) H := hP
  have hD : va_D A ([(o0, .inr (5, [.int 0, .ref ib, .int (nI n), .ref pb, .int (nI nm), .ref qb, .int (nI no), .int 0, .int (-1), .int (-1), .int 0, .int 0, .int 0])), (ib, .inl (cB, 8192, .inl f)), (pb, .inl (cB, 8192, .inl fm))]) := hD
  refine lv_aload_n hx hb d_Mo_read_35 rfl (lv_at hl 0 rfl) ?_
  refine pz_v (pz_rV (d := 4) (As := []) (rest := []) X hN (c_Mo_readAll l D cB cI cS o0 ib pb qb 0 (-1) n nm no yq0 f hn (okq0 _) _) k_Mo_readAll w_482 ⟨by decide, by decide⟩ hK hP hD [0, 1] rfl rfl 0 rfl rfl rfl rfl hl.1 rfl (Nat.le_of_ble_eq_true rfl) d_Mo_read_36 ⟨Nat.zero_le _, Nat.zero_le _⟩) hP hD hS hA [0, 1] rfl [o0, ib] rfl rfl (fun H locs hP hD hS => ?_)
  generalize eg_1 : yal f n yq0 (-1) = g_1 at hP hD ⊢
  have hP : va_P D cls ([(o0, .inr (5, [.int 0, .ref ib, .int (nI n), .ref pb, .int (nI nm), .ref qb, .int (nI no), .int g_1.1.2.1, .int g_1.1.2.2.1, .int g_1.2, .int g_1.1.1, .int g_1.1.2.2.2.1, .int g_1.1.2.2.2.2])), (ib, .inl (cB, 8192, .inl f)), (pb, .inl (cB, 8192, .inl fm))]) H := hP
  have hD : va_D A ([(o0, .inr (5, [.int 0, .ref ib, .int (nI n), .ref pb, .int (nI nm), .ref qb, .int (nI no), .int g_1.1.2.1, .int g_1.1.2.2.1, .int g_1.2, .int g_1.1.1, .int g_1.1.2.2.2.1, .int g_1.1.2.2.2.2])), (ib, .inl (cB, 8192, .inl f)), (pb, .inl (cB, 8192, .inl fm))]) := hD
  refine lv_aload_n hx hb d_Mo_read_39 rfl (lv_at hl 0 rfl) ?_
  refine va_get (D := D) (ci := 5) (v := .int g_1.1.2.1) (C := R_Mo) (T := T_Mo) (N := 13) hx hb hts i_Mo hown hK hP 0 rfl rfl 7 (by decide) (hts _ w_425) (fun _ h9 => h9) rfl d_Mo_read_40 ?_
  refine lv_if_ne (tgt := 82) hx hb d_Mo_read_43 (by decide) (fun c_2 => ?_) (fun c_2 => ?_)
  · refine lv_aload_n hx hb d_Mo_read_82 rfl (lv_at hl 0 rfl) ?_
    refine va_get (D := D) (ci := 5) (v := .int g_1.1.2.1) (C := R_Mo) (T := T_Mo) (N := 13) hx hb hts i_Mo hown hK hP 0 rfl rfl 7 (by decide) (hts _ w_425) (fun _ h9 => h9) rfl d_Mo_read_83 ?_
    exact fin _ _ _ _ _ _ d_Mo_read_86 hP hS (by rw [eg_1]) (by simp only [eg_1, if_neg c_2])
  · rw [← cpy_0 (f := f) (g := fm)] at hP hD
    have hP : va_P D cls ([(o0, .inr (5, [.int 0, .ref ib, .int (nI n), .ref pb, .int (nI nm), .ref qb, .int (nI no), .int g_1.1.2.1, .int g_1.1.2.2.1, .int g_1.2, .int g_1.1.1, .int g_1.1.2.2.2.1, .int g_1.1.2.2.2.2])), (ib, .inl (cB, 8192, .inl f)), (pb, .inl (cB, 8192, .inl (va_cpy f fm 0 0 0)))]) H := hP
    have hD : va_D A ([(o0, .inr (5, [.int 0, .ref ib, .int (nI n), .ref pb, .int (nI nm), .ref qb, .int (nI no), .int g_1.1.2.1, .int g_1.1.2.2.1, .int g_1.2, .int g_1.1.1, .int g_1.1.2.2.2.1, .int g_1.1.2.2.2.2])), (ib, .inl (cB, 8192, .inl f)), (pb, .inl (cB, 8192, .inl (va_cpy f fm 0 0 0)))]) := hD
    refine lv_iconst (v := 0) hx hb d_Mo_read_46 (by decide) ?_
    refine lv_istore_n (lv' := [(1, .int 0), (0, .ref o0)]) hx hb d_Mo_read_47 rfl hl (by decide) rfl (fun ls hl => ?_)
    have lp_16 : ∀ (j16 : Nat) (i : Nat) (ls : Array Slot) (H : Heap) (locs : List Loc), j16 + i = n → va_P D cls ([(o0, .inr (5, [.int 0, .ref ib, .int (nI n), .ref pb, .int (nI nm), .ref qb, .int (nI no), .int g_1.1.2.1, .int g_1.1.2.2.1, .int g_1.2, .int g_1.1.1, .int g_1.1.2.2.2.1, .int g_1.1.2.2.2.2])), (ib, .inl (cB, 8192, .inl f)), (pb, .inl (cB, 8192, .inl (va_cpy f fm 0 0 i)))]) H → va_D A ([(o0, .inr (5, [.int 0, .ref ib, .int (nI n), .ref pb, .int (nI nm), .ref qb, .int (nI no), .int g_1.1.2.1, .int g_1.1.2.2.1, .int g_1.2, .int g_1.1.1, .int g_1.1.2.2.2.1, .int g_1.1.2.2.2.2])), (ib, .inl (cB, 8192, .inl f)), (pb, .inl (cB, 8192, .inl (va_cpy f fm 0 0 i)))]) → va_S A s.heap H locs → lv_has ls 2 [(0, .ref o0), (1, .int (nI i))] → W p l e (rmd 5) s m ([.ref o0] : List Value).toArray below meth c H locs 0 0 Q (F0 m 48 ls []) := by
      intro j16
      induction j16 with
      | zero =>
        intro i ls H locs hi hP hD hS hl
        refine lv_iload_n hx hb d_Mo_read_48 rfl (lv_at hl 1 rfl) ?_
        refine lv_aload_n hx hb d_Mo_read_49 rfl (lv_at hl 0 rfl) ?_
        refine va_get (D := D) (ci := 5) (v := .int (nI n)) (C := R_Mo) (T := T_Mo) (N := 13) hx hb hts i_Mo hown hK hP 0 rfl rfl 2 (by decide) (hts _ w_420) (fun _ h9 => h9) rfl d_Mo_read_50 ?_
        refine lv_icmp_ge (tgt := 74) hx hb d_Mo_read_53 (by decide) (fun c_3 => ?_) (fun c_3 => ?_)
        · refine lv_aload_n hx hb d_Mo_read_74 rfl (lv_at hl 0 rfl) ?_
          refine lv_aload_n hx hb d_Mo_read_75 rfl (lv_at hl 0 rfl) ?_
          refine va_get (D := D) (ci := 5) (v := .int (nI n)) (C := R_Mo) (T := T_Mo) (N := 13) hx hb hts i_Mo hown hK hP 0 rfl rfl 2 (by decide) (hts _ w_420) (fun _ h9 => h9) rfl d_Mo_read_76 ?_
          refine va_put (D := D) (ci := 5) (v := .int (nI n)) (ty := (.int)) (C := R_Mo) (T := T_Mo) (N := 13) hx hb hts i_Mo ty_Mo tyok_Mo nm_Mo hown hK hP hD hS 0 rfl rfl 4 (by decide) (hts _ w_422) (fun _ h9 => h9) rfl (by decide +kernel) rfl rfl (Nat.le_of_ble_eq_true rfl) d_Mo_read_79 (fun H locs hP hD hS => ?_)
          have hP : va_P D cls ([(o0, .inr (5, [.int 0, .ref ib, .int (nI n), .ref pb, .int (nI n), .ref qb, .int (nI no), .int g_1.1.2.1, .int g_1.1.2.2.1, .int g_1.2, .int g_1.1.1, .int g_1.1.2.2.2.1, .int g_1.1.2.2.2.2])), (ib, .inl (cB, 8192, .inl f)), (pb, .inl (cB, 8192, .inl (va_cpy f fm 0 0 i)))]) H := hP
          have hD : va_D A ([(o0, .inr (5, [.int 0, .ref ib, .int (nI n), .ref pb, .int (nI n), .ref qb, .int (nI no), .int g_1.1.2.1, .int g_1.1.2.2.1, .int g_1.2, .int g_1.1.1, .int g_1.1.2.2.2.1, .int g_1.1.2.2.2.2])), (ib, .inl (cB, 8192, .inl f)), (pb, .inl (cB, 8192, .inl (va_cpy f fm 0 0 i)))]) := hD
          refine lv_aload_n hx hb d_Mo_read_82 rfl (lv_at hl 0 rfl) ?_
          refine va_get (D := D) (ci := 5) (v := .int g_1.1.2.1) (C := R_Mo) (T := T_Mo) (N := 13) hx hb hts i_Mo hown hK hP 0 rfl rfl 7 (by decide) (hts _ w_425) (fun _ h9 => h9) rfl d_Mo_read_83 ?_
          exact fin _ _ _ _ _ _ d_Mo_read_86 hP hS (by rw [eg_1]) (by rw [show i = n by omega]; simp only [eg_1, if_pos c_2, if_pos c_3])
        · exact (c_3 (by rw [nI_leI (by omega) (by omega)]; omega)).elim
      | succ j16 ih16 =>
        intro i ls H locs hi hP hD hS hl
        refine lv_iload_n hx hb d_Mo_read_48 rfl (lv_at hl 1 rfl) ?_
        refine lv_aload_n hx hb d_Mo_read_49 rfl (lv_at hl 0 rfl) ?_
        refine va_get (D := D) (ci := 5) (v := .int (nI n)) (C := R_Mo) (T := T_Mo) (N := 13) hx hb hts i_Mo hown hK hP 0 rfl rfl 2 (by decide) (hts _ w_420) (fun _ h9 => h9) rfl d_Mo_read_50 ?_
        refine lv_icmp_ge (tgt := 74) hx hb d_Mo_read_53 (by decide) (fun c_4 => ?_) (fun c_4 => ?_)
        · exact absurd c_4 (by rw [nI_leI (by omega) (by omega)]; omega)
        · refine lv_aload_n hx hb d_Mo_read_56 rfl (lv_at hl 0 rfl) ?_
          refine va_get (D := D) (ci := 5) (v := .ref pb) (C := R_Mo) (T := T_Mo) (N := 13) hx hb hts i_Mo hown hK hP 0 rfl rfl 3 (by decide) (hts _ w_421) (fun _ h9 => h9) rfl d_Mo_read_57 ?_
          refine lv_iload_n hx hb d_Mo_read_60 rfl (lv_at hl 1 rfl) ?_
          refine lv_aload_n hx hb d_Mo_read_61 rfl (lv_at hl 0 rfl) ?_
          refine va_get (D := D) (ci := 5) (v := .ref ib) (C := R_Mo) (T := T_Mo) (N := 13) hx hb hts i_Mo hown hK hP 0 rfl rfl 1 (by decide) (hts _ w_419) (fun _ h9 => h9) rfl d_Mo_read_62 ?_
          refine lv_iload_n hx hb d_Mo_read_65 rfl (lv_at hl 1 rfl) ?_
          refine va_bald hx hb hK hP 1 0 rfl rfl (in_n (by omega) (by decide)) d_Mo_read_66 ?_
          rw [nI_clamp (show i < 2 ^ 31 by omega)]
          refine va_bast hx hb hK hP hD hS 2 0 rfl rfl (in_n (by omega) (by decide)) d_Mo_read_67 (fun H locs hP hD hS => ?_)
          rw [nI_clamp (show i < 2 ^ 31 by omega)] at hP hD
          have hP : va_P D cls ([(o0, .inr (5, [.int 0, .ref ib, .int (nI n), .ref pb, .int (nI nm), .ref qb, .int (nI no), .int g_1.1.2.1, .int g_1.1.2.2.1, .int g_1.2, .int g_1.1.1, .int g_1.1.2.2.2.1, .int g_1.1.2.2.2.2])), (ib, .inl (cB, 8192, .inl f)), (pb, .inl (cB, 8192, .inl (upd (va_cpy f fm 0 0 i) i (vp_nar .byte (f i)))))]) H := hP
          have hD : va_D A ([(o0, .inr (5, [.int 0, .ref ib, .int (nI n), .ref pb, .int (nI nm), .ref qb, .int (nI no), .int g_1.1.2.1, .int g_1.1.2.2.1, .int g_1.2, .int g_1.1.1, .int g_1.1.2.2.2.1, .int g_1.1.2.2.2.2])), (ib, .inl (cB, 8192, .inl f)), (pb, .inl (cB, 8192, .inl (upd (va_cpy f fm 0 0 i) i (vp_nar .byte (f i)))))]) := hD
          rw [cpy_step hf] at hP hD
          have hP : va_P D cls ([(o0, .inr (5, [.int 0, .ref ib, .int (nI n), .ref pb, .int (nI nm), .ref qb, .int (nI no), .int g_1.1.2.1, .int g_1.1.2.2.1, .int g_1.2, .int g_1.1.1, .int g_1.1.2.2.2.1, .int g_1.1.2.2.2.2])), (ib, .inl (cB, 8192, .inl f)), (pb, .inl (cB, 8192, .inl (va_cpy f fm 0 0 (i + 1))))]) H := hP
          have hD : va_D A ([(o0, .inr (5, [.int 0, .ref ib, .int (nI n), .ref pb, .int (nI nm), .ref qb, .int (nI no), .int g_1.1.2.1, .int g_1.1.2.2.1, .int g_1.2, .int g_1.1.1, .int g_1.1.2.2.2.1, .int g_1.1.2.2.2.2])), (ib, .inl (cB, 8192, .inl f)), (pb, .inl (cB, 8192, .inl (va_cpy f fm 0 0 (i + 1))))]) := hD
          refine lv_iinc (v := nI (i + 1)) (lv' := [(1, .int (nI (i + 1))), (0, .ref o0)]) hx hb d_Mo_read_68 hl (k := 1) rfl (nI_1 i) (by decide) rfl (fun ls hl => ?_)
          refine lv_goto (tgt := 48) hx hb d_Mo_read_71 (by decide) ?_
          exact ih16 (i + 1) _ _ _ (by omega) hP hD hS (lv_sub hl [1, 0] rfl)
    exact lp_16 n 0 _ _ _ (by omega) hP hD hS (lv_sub hl [1, 0] rfl)

set_option maxRecDepth 100000 in
set_option maxHeartbeats 4000000 in
/-- write -/
theorem c_Mo_write (l : Launch) (D : va_G) (cB cI cS : ClassId) (o0 ib pb qb : Nat) (th ck : Int32) (n nm no : Nat) (q : S5) (fm fo : Nat → Int32) (hnm : nm ≤ 8192) (hf : sb_Fit fm) : mI l y_Mo_write b_Mo_write 2 (some .int) 0 D cls [(cB, .byte), (cI, .int), (cS, .object "MapLumps$Span")] [.ref o0] ([(o0, .inr (5, [.int th, .ref ib, .int (nI n), .ref pb, .int (nI nm), .ref qb, .int (nI no), .int q.2.1, .int q.2.2.1, .int ck, .int q.1, .int q.2.2.2.1, .int q.2.2.2.2])), (pb, .inl (cB, 8192, .inl fm)), (qb, .inl (cB, 8192, .inl fo))]) (if nI nm = 0 then -1 else nI nm) ([(o0, .inr (5, [.int 0, .ref ib, .int (nI n), .ref pb, .int (nI nm), .ref qb, .int (nI (if nI nm = 0 then no else nm)), .int q.2.1, .int q.2.2.1, .int ck, .int q.1, .int q.2.2.2.1, .int q.2.2.2.2])), (pb, .inl (cB, 8192, .inl fm)), (qb, .inl (cB, 8192, .inl (if nI nm = 0 then fo else va_cpy fm fo 0 0 nm)))]) := by
  refine pz_openI (by decide) (Nat.le_of_ble_eq_true rfl) ?_
  intro p e s m below meth c A ls Q X hN hK hP hD hS hA hl fin
  obtain ⟨hx, hb, hml, hown, hts⟩ := id X
  have hl : lv_has ls 2 [(0, .ref o0)] := hl
  refine lv_aload_n hx hb d_Mo_write_0 rfl (lv_at hl 0 rfl) ?_
  refine lv_iconst (v := 0) hx hb d_Mo_write_1 (by decide) ?_
  refine va_put (D := D) (ci := 5) (v := .int 0) (ty := (.int)) (C := R_Mo) (T := T_Mo) (N := 13) hx hb hts i_Mo ty_Mo tyok_Mo nm_Mo hown hK hP hD hS 0 rfl rfl 0 (by decide) (hts _ w_418) (fun _ h9 => h9) rfl (by decide +kernel) rfl rfl (Nat.le_of_ble_eq_true rfl) d_Mo_write_2 (fun H locs hP hD hS => ?_)
  have hP : va_P D cls ([(o0, .inr (5, [.int 0, .ref ib, .int (nI n), .ref pb, .int (nI nm), .ref qb, .int (nI no), .int q.2.1, .int q.2.2.1, .int ck, .int q.1, .int q.2.2.2.1, .int q.2.2.2.2])), (pb, .inl (cB, 8192, .inl fm)), (qb, .inl (cB, 8192, .inl fo))]) H := hP
  have hD : va_D A ([(o0, .inr (5, [.int 0, .ref ib, .int (nI n), .ref pb, .int (nI nm), .ref qb, .int (nI no), .int q.2.1, .int q.2.2.1, .int ck, .int q.1, .int q.2.2.2.1, .int q.2.2.2.2])), (pb, .inl (cB, 8192, .inl fm)), (qb, .inl (cB, 8192, .inl fo))]) := hD
  refine lv_aload_n hx hb d_Mo_write_5 rfl (lv_at hl 0 rfl) ?_
  refine va_get (D := D) (ci := 5) (v := .int (nI nm)) (C := R_Mo) (T := T_Mo) (N := 13) hx hb hts i_Mo hown hK hP 0 rfl rfl 4 (by decide) (hts _ w_422) (fun _ h9 => h9) rfl d_Mo_write_6 ?_
  refine lv_if_ne (tgt := 14) hx hb d_Mo_write_9 (by decide) (fun c_1 => ?_) (fun c_1 => ?_)
  · rw [← cpy_0 (f := fm) (g := fo)] at hP hD
    have hP : va_P D cls ([(o0, .inr (5, [.int 0, .ref ib, .int (nI n), .ref pb, .int (nI nm), .ref qb, .int (nI no), .int q.2.1, .int q.2.2.1, .int ck, .int q.1, .int q.2.2.2.1, .int q.2.2.2.2])), (pb, .inl (cB, 8192, .inl fm)), (qb, .inl (cB, 8192, .inl (va_cpy fm fo 0 0 0)))]) H := hP
    have hD : va_D A ([(o0, .inr (5, [.int 0, .ref ib, .int (nI n), .ref pb, .int (nI nm), .ref qb, .int (nI no), .int q.2.1, .int q.2.2.1, .int ck, .int q.1, .int q.2.2.2.1, .int q.2.2.2.2])), (pb, .inl (cB, 8192, .inl fm)), (qb, .inl (cB, 8192, .inl (va_cpy fm fo 0 0 0)))]) := hD
    refine lv_iconst (v := 0) hx hb d_Mo_write_14 (by decide) ?_
    refine lv_istore_n (lv' := [(1, .int 0), (0, .ref o0)]) hx hb d_Mo_write_15 rfl hl (by decide) rfl (fun ls hl => ?_)
    have lp_17 : ∀ (j17 : Nat) (i : Nat) (ls : Array Slot) (H : Heap) (locs : List Loc), j17 + i = nm → va_P D cls ([(o0, .inr (5, [.int 0, .ref ib, .int (nI n), .ref pb, .int (nI nm), .ref qb, .int (nI no), .int q.2.1, .int q.2.2.1, .int ck, .int q.1, .int q.2.2.2.1, .int q.2.2.2.2])), (pb, .inl (cB, 8192, .inl fm)), (qb, .inl (cB, 8192, .inl (va_cpy fm fo 0 0 i)))]) H → va_D A ([(o0, .inr (5, [.int 0, .ref ib, .int (nI n), .ref pb, .int (nI nm), .ref qb, .int (nI no), .int q.2.1, .int q.2.2.1, .int ck, .int q.1, .int q.2.2.2.1, .int q.2.2.2.2])), (pb, .inl (cB, 8192, .inl fm)), (qb, .inl (cB, 8192, .inl (va_cpy fm fo 0 0 i)))]) → va_S A s.heap H locs → lv_has ls 2 [(0, .ref o0), (1, .int (nI i))] → W p l e (rmd 0) s m ([.ref o0] : List Value).toArray below meth c H locs 0 0 Q (F0 m 16 ls []) := by
      intro j17
      induction j17 with
      | zero =>
        intro i ls H locs hi hP hD hS hl
        refine lv_iload_n hx hb d_Mo_write_16 rfl (lv_at hl 1 rfl) ?_
        refine lv_aload_n hx hb d_Mo_write_17 rfl (lv_at hl 0 rfl) ?_
        refine va_get (D := D) (ci := 5) (v := .int (nI nm)) (C := R_Mo) (T := T_Mo) (N := 13) hx hb hts i_Mo hown hK hP 0 rfl rfl 4 (by decide) (hts _ w_422) (fun _ h9 => h9) rfl d_Mo_write_18 ?_
        refine lv_icmp_ge (tgt := 42) hx hb d_Mo_write_21 (by decide) (fun c_2 => ?_) (fun c_2 => ?_)
        · refine lv_aload_n hx hb d_Mo_write_42 rfl (lv_at hl 0 rfl) ?_
          refine lv_aload_n hx hb d_Mo_write_43 rfl (lv_at hl 0 rfl) ?_
          refine va_get (D := D) (ci := 5) (v := .int (nI nm)) (C := R_Mo) (T := T_Mo) (N := 13) hx hb hts i_Mo hown hK hP 0 rfl rfl 4 (by decide) (hts _ w_422) (fun _ h9 => h9) rfl d_Mo_write_44 ?_
          refine va_put (D := D) (ci := 5) (v := .int (nI nm)) (ty := (.int)) (C := R_Mo) (T := T_Mo) (N := 13) hx hb hts i_Mo ty_Mo tyok_Mo nm_Mo hown hK hP hD hS 0 rfl rfl 6 (by decide) (hts _ w_424) (fun _ h9 => h9) rfl (by decide +kernel) rfl rfl (Nat.le_of_ble_eq_true rfl) d_Mo_write_47 (fun H locs hP hD hS => ?_)
          have hP : va_P D cls ([(o0, .inr (5, [.int 0, .ref ib, .int (nI n), .ref pb, .int (nI nm), .ref qb, .int (nI nm), .int q.2.1, .int q.2.2.1, .int ck, .int q.1, .int q.2.2.2.1, .int q.2.2.2.2])), (pb, .inl (cB, 8192, .inl fm)), (qb, .inl (cB, 8192, .inl (va_cpy fm fo 0 0 i)))]) H := hP
          have hD : va_D A ([(o0, .inr (5, [.int 0, .ref ib, .int (nI n), .ref pb, .int (nI nm), .ref qb, .int (nI nm), .int q.2.1, .int q.2.2.1, .int ck, .int q.1, .int q.2.2.2.1, .int q.2.2.2.2])), (pb, .inl (cB, 8192, .inl fm)), (qb, .inl (cB, 8192, .inl (va_cpy fm fo 0 0 i)))]) := hD
          refine lv_aload_n hx hb d_Mo_write_50 rfl (lv_at hl 0 rfl) ?_
          refine va_get (D := D) (ci := 5) (v := .int (nI nm)) (C := R_Mo) (T := T_Mo) (N := 13) hx hb hts i_Mo hown hK hP 0 rfl rfl 6 (by decide) (hts _ w_424) (fun _ h9 => h9) rfl d_Mo_write_51 ?_
          exact fin _ _ _ _ _ _ d_Mo_write_54 hP hS (by simp only [if_neg c_1, if_pos c_2]) (by rw [show i = nm by omega]; simp only [if_neg c_1, if_pos c_2])
        · exact (c_2 (by rw [nI_leI (by omega) (by omega)]; omega)).elim
      | succ j17 ih17 =>
        intro i ls H locs hi hP hD hS hl
        refine lv_iload_n hx hb d_Mo_write_16 rfl (lv_at hl 1 rfl) ?_
        refine lv_aload_n hx hb d_Mo_write_17 rfl (lv_at hl 0 rfl) ?_
        refine va_get (D := D) (ci := 5) (v := .int (nI nm)) (C := R_Mo) (T := T_Mo) (N := 13) hx hb hts i_Mo hown hK hP 0 rfl rfl 4 (by decide) (hts _ w_422) (fun _ h9 => h9) rfl d_Mo_write_18 ?_
        refine lv_icmp_ge (tgt := 42) hx hb d_Mo_write_21 (by decide) (fun c_3 => ?_) (fun c_3 => ?_)
        · exact absurd c_3 (by rw [nI_leI (by omega) (by omega)]; omega)
        · refine lv_aload_n hx hb d_Mo_write_24 rfl (lv_at hl 0 rfl) ?_
          refine va_get (D := D) (ci := 5) (v := .ref qb) (C := R_Mo) (T := T_Mo) (N := 13) hx hb hts i_Mo hown hK hP 0 rfl rfl 5 (by decide) (hts _ w_423) (fun _ h9 => h9) rfl d_Mo_write_25 ?_
          refine lv_iload_n hx hb d_Mo_write_28 rfl (lv_at hl 1 rfl) ?_
          refine lv_aload_n hx hb d_Mo_write_29 rfl (lv_at hl 0 rfl) ?_
          refine va_get (D := D) (ci := 5) (v := .ref pb) (C := R_Mo) (T := T_Mo) (N := 13) hx hb hts i_Mo hown hK hP 0 rfl rfl 3 (by decide) (hts _ w_421) (fun _ h9 => h9) rfl d_Mo_write_30 ?_
          refine lv_iload_n hx hb d_Mo_write_33 rfl (lv_at hl 1 rfl) ?_
          refine va_bald hx hb hK hP 1 0 rfl rfl (in_n (by omega) (by decide)) d_Mo_write_34 ?_
          rw [nI_clamp (show i < 2 ^ 31 by omega)]
          refine va_bast hx hb hK hP hD hS 2 0 rfl rfl (in_n (by omega) (by decide)) d_Mo_write_35 (fun H locs hP hD hS => ?_)
          rw [nI_clamp (show i < 2 ^ 31 by omega)] at hP hD
          have hP : va_P D cls ([(o0, .inr (5, [.int 0, .ref ib, .int (nI n), .ref pb, .int (nI nm), .ref qb, .int (nI no), .int q.2.1, .int q.2.2.1, .int ck, .int q.1, .int q.2.2.2.1, .int q.2.2.2.2])), (pb, .inl (cB, 8192, .inl fm)), (qb, .inl (cB, 8192, .inl (upd (va_cpy fm fo 0 0 i) i (vp_nar .byte (fm i)))))]) H := hP
          have hD : va_D A ([(o0, .inr (5, [.int 0, .ref ib, .int (nI n), .ref pb, .int (nI nm), .ref qb, .int (nI no), .int q.2.1, .int q.2.2.1, .int ck, .int q.1, .int q.2.2.2.1, .int q.2.2.2.2])), (pb, .inl (cB, 8192, .inl fm)), (qb, .inl (cB, 8192, .inl (upd (va_cpy fm fo 0 0 i) i (vp_nar .byte (fm i)))))]) := hD
          rw [cpy_step hf] at hP hD
          have hP : va_P D cls ([(o0, .inr (5, [.int 0, .ref ib, .int (nI n), .ref pb, .int (nI nm), .ref qb, .int (nI no), .int q.2.1, .int q.2.2.1, .int ck, .int q.1, .int q.2.2.2.1, .int q.2.2.2.2])), (pb, .inl (cB, 8192, .inl fm)), (qb, .inl (cB, 8192, .inl (va_cpy fm fo 0 0 (i + 1))))]) H := hP
          have hD : va_D A ([(o0, .inr (5, [.int 0, .ref ib, .int (nI n), .ref pb, .int (nI nm), .ref qb, .int (nI no), .int q.2.1, .int q.2.2.1, .int ck, .int q.1, .int q.2.2.2.1, .int q.2.2.2.2])), (pb, .inl (cB, 8192, .inl fm)), (qb, .inl (cB, 8192, .inl (va_cpy fm fo 0 0 (i + 1))))]) := hD
          refine lv_iinc (v := nI (i + 1)) (lv' := [(1, .int (nI (i + 1))), (0, .ref o0)]) hx hb d_Mo_write_36 hl (k := 1) rfl (nI_1 i) (by decide) rfl (fun ls hl => ?_)
          refine lv_goto (tgt := 16) hx hb d_Mo_write_39 (by decide) ?_
          exact ih17 (i + 1) _ _ _ (by omega) hP hD hS (lv_sub hl [1, 0] rfl)
    exact lp_17 nm 0 _ _ _ (by omega) hP hD hS (lv_sub hl [1, 0] rfl)
  · refine lv_iconst (v := (-1)) hx hb d_Mo_write_12 (by decide) ?_
    exact fin _ _ _ _ _ _ d_Mo_write_13 hP hS (by simp only [if_pos c_1]) (by simp only [if_pos c_1])

set_option maxRecDepth 100000 in
set_option maxHeartbeats 4000000 in
/-- byteAt -/
theorem c_Mo_byteAt (l : Launch) (D : va_G) (cB cI cS : ClassId) (o0 ib pb qb : Nat) (th ck : Int32) (n nm no : Nat) (q : S5) (f fo : Nat → Int32) (k into : Int32) (hn : n ≤ 8192) (hno : no ≤ 8192) : mI l y_Mo_byteAt b_Mo_byteAt 3 (some .int) 0 D cls [(cB, .byte), (cI, .int), (cS, .object "MapLumps$Span")] [.ref o0, .int k, .int into] ([(o0, .inr (5, [.int th, .ref ib, .int (nI n), .ref pb, .int (nI nm), .ref qb, .int (nI no), .int q.2.1, .int q.2.2.1, .int ck, .int q.1, .int q.2.2.2.1, .int q.2.2.2.2])), (ib, .inl (cB, 8192, .inl f)), (qb, .inl (cB, 8192, .inl fo))]) (ybA f n fo no k into) ([(o0, .inr (5, [.int 0, .ref ib, .int (nI n), .ref pb, .int (nI nm), .ref qb, .int (nI no), .int q.2.1, .int q.2.2.1, .int ck, .int q.1, .int q.2.2.2.1, .int q.2.2.2.2])), (ib, .inl (cB, 8192, .inl f)), (qb, .inl (cB, 8192, .inl fo))]) := by
  refine pz_openI (by decide) (Nat.le_of_ble_eq_true rfl) ?_
  intro p e s m below meth c A ls Q X hN hK hP hD hS hA hl fin
  obtain ⟨hx, hb, hml, hown, hts⟩ := id X
  have hl : lv_has ls 3 [(0, .ref o0), (1, .int k), (2, .int into)] := hl
  refine lv_aload_n hx hb d_Mo_byteAt_0 rfl (lv_at hl 0 rfl) ?_
  refine lv_iconst (v := 0) hx hb d_Mo_byteAt_1 (by decide) ?_
  refine va_put (D := D) (ci := 5) (v := .int 0) (ty := (.int)) (C := R_Mo) (T := T_Mo) (N := 13) hx hb hts i_Mo ty_Mo tyok_Mo nm_Mo hown hK hP hD hS 0 rfl rfl 0 (by decide) (hts _ w_418) (fun _ h9 => h9) rfl (by decide +kernel) rfl rfl (Nat.le_of_ble_eq_true rfl) d_Mo_byteAt_2 (fun H locs hP hD hS => ?_)
  have hP : va_P D cls ([(o0, .inr (5, [.int 0, .ref ib, .int (nI n), .ref pb, .int (nI nm), .ref qb, .int (nI no), .int q.2.1, .int q.2.2.1, .int ck, .int q.1, .int q.2.2.2.1, .int q.2.2.2.2])), (ib, .inl (cB, 8192, .inl f)), (qb, .inl (cB, 8192, .inl fo))]) H := hP
  have hD : va_D A ([(o0, .inr (5, [.int 0, .ref ib, .int (nI n), .ref pb, .int (nI nm), .ref qb, .int (nI no), .int q.2.1, .int q.2.2.1, .int ck, .int q.1, .int q.2.2.2.1, .int q.2.2.2.2])), (ib, .inl (cB, 8192, .inl f)), (qb, .inl (cB, 8192, .inl fo))]) := hD
  refine lv_iload_n hx hb d_Mo_byteAt_5 rfl (lv_at hl 1 rfl) ?_
  refine lv_if_lt (tgt := 28) hx hb d_Mo_byteAt_6 (by decide) (fun c_1 => ?_) (fun c_1 => ?_)
  · refine lv_iconst (v := (-1)) hx hb d_Mo_byteAt_28 (by decide) ?_
    exact fin _ _ _ _ _ _ d_Mo_byteAt_29 hP hS (by simp only [ybA, if_pos c_1]) (rfl)
  · refine lv_iload_n hx hb d_Mo_byteAt_9 rfl (lv_at hl 1 rfl) ?_
    refine lv_iload_n hx hb d_Mo_byteAt_10 rfl (lv_at hl 2 rfl) ?_
    refine lv_if_eq (tgt := 21) hx hb d_Mo_byteAt_11 (by decide) (fun c_2 => ?_) (fun c_2 => ?_)
    · refine lv_aload_n hx hb d_Mo_byteAt_21 rfl (lv_at hl 0 rfl) ?_
      refine va_get (D := D) (ci := 5) (v := .int (nI no)) (C := R_Mo) (T := T_Mo) (N := 13) hx hb hts i_Mo hown hK hP 0 rfl rfl 6 (by decide) (hts _ w_424) (fun _ h9 => h9) rfl d_Mo_byteAt_22 ?_
      refine lv_icmp_lt (tgt := 30) hx hb d_Mo_byteAt_25 (by decide) (fun c_3 => ?_) (fun c_3 => ?_)
      · refine lv_iload_n hx hb d_Mo_byteAt_30 rfl (lv_at hl 2 rfl) ?_
        refine lv_if_eq (tgt := 43) hx hb d_Mo_byteAt_31 (by decide) (fun c_4 => ?_) (fun c_4 => ?_)
        · refine lv_aload_n hx hb d_Mo_byteAt_43 rfl (lv_at hl 0 rfl) ?_
          refine va_get (D := D) (ci := 5) (v := .ref qb) (C := R_Mo) (T := T_Mo) (N := 13) hx hb hts i_Mo hown hK hP 0 rfl rfl 5 (by decide) (hts _ w_423) (fun _ h9 => h9) rfl d_Mo_byteAt_44 ?_
          refine lv_iload_n hx hb d_Mo_byteAt_47 rfl (lv_at hl 1 rfl) ?_
          refine va_bald hx hb hK hP 2 0 rfl rfl (in_b c_1 c_3 hno (by decide)) d_Mo_byteAt_48 ?_
          refine lv_sipush (v := 255) hx hb d_Mo_byteAt_49 (by decide) ?_
          refine lv_iand hx hb d_Mo_byteAt_52 ?_
          exact fin _ _ _ _ _ _ d_Mo_byteAt_53 hP hS (by simp only [ybA, if_neg c_1, if_pos c_2, if_pos c_3, if_pos c_4]) (rfl)
        · exact absurd c_2 c_4
      · refine lv_iconst (v := (-1)) hx hb d_Mo_byteAt_28 (by decide) ?_
        exact fin _ _ _ _ _ _ d_Mo_byteAt_29 hP hS (by simp only [ybA, if_neg c_1, if_pos c_2, if_neg c_3]) (rfl)
    · refine lv_aload_n hx hb d_Mo_byteAt_14 rfl (lv_at hl 0 rfl) ?_
      refine va_get (D := D) (ci := 5) (v := .int (nI n)) (C := R_Mo) (T := T_Mo) (N := 13) hx hb hts i_Mo hown hK hP 0 rfl rfl 2 (by decide) (hts _ w_420) (fun _ h9 => h9) rfl d_Mo_byteAt_15 ?_
      refine lv_goto (tgt := 25) hx hb d_Mo_byteAt_18 (by decide) ?_
      refine lv_icmp_lt (tgt := 30) hx hb d_Mo_byteAt_25 (by decide) (fun c_5 => ?_) (fun c_5 => ?_)
      · refine lv_iload_n hx hb d_Mo_byteAt_30 rfl (lv_at hl 2 rfl) ?_
        refine lv_if_eq (tgt := 43) hx hb d_Mo_byteAt_31 (by decide) (fun c_6 => ?_) (fun c_6 => ?_)
        · exact absurd c_6 c_2
        · refine lv_aload_n hx hb d_Mo_byteAt_34 rfl (lv_at hl 0 rfl) ?_
          refine va_get (D := D) (ci := 5) (v := .ref ib) (C := R_Mo) (T := T_Mo) (N := 13) hx hb hts i_Mo hown hK hP 0 rfl rfl 1 (by decide) (hts _ w_419) (fun _ h9 => h9) rfl d_Mo_byteAt_35 ?_
          refine lv_iload_n hx hb d_Mo_byteAt_38 rfl (lv_at hl 1 rfl) ?_
          refine va_bald hx hb hK hP 1 0 rfl rfl (in_b c_1 c_5 hn (by decide)) d_Mo_byteAt_39 ?_
          refine lv_goto (tgt := 49) hx hb d_Mo_byteAt_40 (by decide) ?_
          refine lv_sipush (v := 255) hx hb d_Mo_byteAt_49 (by decide) ?_
          refine lv_iand hx hb d_Mo_byteAt_52 ?_
          exact fin _ _ _ _ _ _ d_Mo_byteAt_53 hP hS (by simp only [ybA, if_neg c_1, if_neg c_2, if_pos c_5, if_neg c_6]) (rfl)
      · refine lv_iconst (v := (-1)) hx hb d_Mo_byteAt_28 (by decide) ?_
        exact fin _ _ _ _ _ _ d_Mo_byteAt_29 hP hS (by simp only [ybA, if_neg c_1, if_neg c_2, if_neg c_5]) (rfl)

set_option maxRecDepth 100000 in
set_option maxHeartbeats 4000000 in
/-- many -/
theorem c_Mo_many (l : Launch) (D : va_G) (cB cI cS : ClassId) (o0 ib pb qb : Nat) (th ck : Int32) (n nm no : Nat) (q : S5) (fm : Nat → Int32) (w_ : Nat) (hw : w_ < 8192) : mI l y_Mo_many b_Mo_many 2 (some .int) 0 D cls [(cB, .byte), (cI, .int), (cS, .object "MapLumps$Span")] [.ref o0, .int (nI w_)] ([(o0, .inr (5, [.int th, .ref ib, .int (nI n), .ref pb, .int (nI nm), .ref qb, .int (nI no), .int q.2.1, .int q.2.2.1, .int ck, .int q.1, .int q.2.2.2.1, .int q.2.2.2.2])), (pb, .inl (cB, 8192, .inl fm))]) (ymn fm nm w_) ([(o0, .inr (5, [.int th, .ref ib, .int (nI n), .ref pb, .int (nI nm), .ref qb, .int (nI no), .int q.2.1, .int q.2.2.1, .int ck, .int q.1, .int q.2.2.2.1, .int q.2.2.2.2])), (pb, .inl (cB, 8192, .inl fm))]) := by
  refine pz_openI (by decide) (Nat.le_of_ble_eq_true rfl) ?_
  intro p e s m below meth c A ls Q X hN hK hP hD hS hA hl fin
  obtain ⟨hx, hb, hml, hown, hts⟩ := id X
  have hl : lv_has ls 2 [(0, .ref o0), (1, .int (nI w_))] := hl
  refine lv_aload_n hx hb d_Mo_many_0 rfl (lv_at hl 0 rfl) ?_
  refine va_get (D := D) (ci := 5) (v := .int (nI nm)) (C := R_Mo) (T := T_Mo) (N := 13) hx hb hts i_Mo hown hK hP 0 rfl rfl 4 (by decide) (hts _ w_422) (fun _ h9 => h9) rfl d_Mo_many_1 ?_
  refine lv_if_ne (tgt := 11) hx hb d_Mo_many_4 (by decide) (fun c_1 => ?_) (fun c_1 => ?_)
  · refine lv_aload_n hx hb d_Mo_many_11 rfl (lv_at hl 0 rfl) ?_
    refine va_get (D := D) (ci := 5) (v := .ref pb) (C := R_Mo) (T := T_Mo) (N := 13) hx hb hts i_Mo hown hK hP 0 rfl rfl 3 (by decide) (hts _ w_421) (fun _ h9 => h9) rfl d_Mo_many_12 ?_
    refine lv_iload_n hx hb d_Mo_many_15 rfl (lv_at hl 1 rfl) ?_
    refine va_bald hx hb hK hP 1 0 rfl rfl (in_n hw (by decide)) d_Mo_many_16 ?_
    rw [nI_clamp (show w_ < 2 ^ 31 by omega)]
    refine lv_sipush (v := 255) hx hb d_Mo_many_17 (by decide) ?_
    refine lv_iand hx hb d_Mo_many_20 ?_
    exact fin _ _ _ _ _ _ d_Mo_many_21 hP hS (by simp only [ymn, if_neg c_1]) (rfl)
  · refine lv_iconst (v := 0) hx hb d_Mo_many_7 (by decide) ?_
    refine lv_goto (tgt := 21) hx hb d_Mo_many_8 (by decide) ?_
    exact fin _ _ _ _ _ _ d_Mo_many_21 hP hS (by simp only [ymn, if_pos c_1]) (rfl)
