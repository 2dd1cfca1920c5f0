set_option maxRecDepth 100000 in
set_option maxHeartbeats 4000000 in
/-- give -/
theorem c_Lu_give (l : Launch) (D : va_G) (cB cI cS : ClassId) (u0 r0 rw ow m0 : Nat) (rb : Nat) (f : Nat → Int32) (n : Nat) (v : Int64) (k : Int32) (hn : n ≤ 8192) : mI l y_Lu_give b_Lu_give 5 (some .boolean) 1 D cls [(cB, .byte), (cI, .int), (cS, .object "MapLumps$Span")] [.ref u0, .long v, .int k] ([(u0, .inr (0, [.ref r0, .ref rw, .ref ow, .ref m0])), (rw, .inr (3, [.ref rb, .int (nI n)])), (rb, .inl (cB, 8192, .inl f))]) (gvZ n k) ([(u0, .inr (0, [.ref r0, .ref rw, .ref ow, .ref m0])), (rw, .inr (3, [.ref rb, .int (nI (gvN n k))])), (rb, .inl (cB, 8192, .inl (gvF f n v k)))]) := by
  refine pz_openZ (by decide) (Nat.le_of_ble_eq_true rfl) ?_
  intro p e s m below meth c A ls Q X hN hK hP hD hS hA hl fin
  obtain ⟨hx, hb, hml, hown, hts⟩ := id X
  have hl : lv_has ls 5 [(0, .ref u0), (1, .long v), (3, .int k)] := hl
  refine lv_iload_n hx hb d_Lu_give_0 rfl (lv_at hl 2 rfl) ?_
  refine lv_iconst (v := 1) hx hb d_Lu_give_1 (by decide) ?_
  refine lv_icmp_lt (tgt := 22) hx hb d_Lu_give_2 (by decide) (fun c_1 => ?_) (fun c_1 => ?_)
  · refine lv_iconst (v := 0) hx hb d_Lu_give_22 (by decide) ?_
    exact fin _ _ _ _ _ _ d_Lu_give_23 hP hS (by simp only [gvZ, if_pos c_1]) (by simp only [gvF, gvN, if_pos c_1]) rfl
  · refine lv_iload_n hx hb d_Lu_give_5 rfl (lv_at hl 2 rfl) ?_
    refine lv_bipush (v := 8) hx hb d_Lu_give_6 (by decide) ?_
    refine lv_icmp_gt (tgt := 22) hx hb d_Lu_give_8 (by decide) (fun c_2 => ?_) (fun c_2 => ?_)
    · refine lv_iconst (v := 0) hx hb d_Lu_give_22 (by decide) ?_
      exact fin _ _ _ _ _ _ d_Lu_give_23 hP hS (by simp only [gvZ, if_neg c_1, if_pos c_2]) (by simp only [gvF, gvN, if_neg c_1, if_pos c_2]) rfl
    · refine lv_iload_n hx hb d_Lu_give_11 rfl (lv_at hl 2 rfl) ?_
      refine lv_aload_n hx hb d_Lu_give_12 rfl (lv_at hl 0 rfl) ?_
      refine va_get (D := D) (ci := 0) (v := .ref rw) (C := R_Lu) (T := T_Lu) (N := 4) hx hb hts i_Lu hown hK hP 0 rfl rfl 1 (by decide) (hts _ w_168) (fun _ h9 => h9) rfl d_Lu_give_13 ?_
      refine pz_i0 (pz_rV (d := 0) (As := []) (rest := [.int k]) X hN (c_Rw_free l D cB cI cS rw rb f n _) k_Rw_free w_184 ⟨by decide, by decide⟩ hK hP hD [1, 2] rfl rfl 1 rfl rfl rfl rfl hl.1 rfl (Nat.le_of_ble_eq_true rfl) d_Lu_give_16 ⟨Nat.zero_le _, Nat.zero_le _⟩) hP hD hS hA [1, 2] rfl (fun H locs hP hS => ?_)
      refine lv_icmp_le (tgt := 24) hx hb d_Lu_give_19 (by decide) (fun c_3 => ?_) (fun c_3 => ?_)
      · refine lv_iload_n hx hb d_Lu_give_24 rfl (lv_at hl 2 rfl) ?_
        refine lv_iconst (v := 1) hx hb d_Lu_give_25 (by decide) ?_
        refine lv_isub hx hb d_Lu_give_26 ?_
        refine lv_istore (lv' := [(4, .int (k - 1)), (0, .ref u0), (1, .long v), (3, .int k)]) hx hb d_Lu_give_27 hl (by decide) rfl (fun ls hl => ?_)
        obtain ⟨K, rfl, hK1, hK2, hK3⟩ := gv_le hn c_1 c_2 c_3
        have lp_11 : ∀ (j11 : Nat) (fi : Nat → Int32) (ni : Nat) (ls : Array Slot) (H : Heap) (locs : List Loc), j11 + ni = n + K → gvl v K f n = gvl v j11 fi ni → va_P D cls ([(u0, .inr (0, [.ref r0, .ref rw, .ref ow, .ref m0])), (rw, .inr (3, [.ref rb, .int (nI ni)])), (rb, .inl (cB, 8192, .inl fi))]) H → va_D A ([(u0, .inr (0, [.ref r0, .ref rw, .ref ow, .ref m0])), (rw, .inr (3, [.ref rb, .int (nI ni)])), (rb, .inl (cB, 8192, .inl fi))]) → va_S A s.heap H locs → lv_has ls 5 [(0, .ref u0), (1, .long v), (3, .int (nI K)), (4, .int (nI j11 - 1))] → W p l e (rmd 1) s m ([.ref u0, .long v, .int (nI K)] : List Value).toArray below meth c H locs 0 0 Q (F0 m 29 ls []) := by
          intro j11
          induction j11 with
          | zero =>
            intro fi ni ls H locs hi he hP hD hS hl
            refine lv_iload hx hb d_Lu_give_29 (lv_at hl 3 rfl) ?_
            refine lv_if_lt (tgt := 55) hx hb d_Lu_give_31 (by decide) (fun c_4 => ?_) (fun c_4 => ?_)
            · refine lv_iconst (v := 1) hx hb d_Lu_give_55 (by decide) ?_
              exact fin _ _ _ _ _ _ d_Lu_give_56 hP hS (by simp only [gvZ, if_neg c_1, if_neg c_2, if_pos c_3]) (by simp only [gvN, gvF, if_neg c_1, if_neg c_2, if_pos c_3, nI_clamp (show K < 2 ^ 31 by omega)]; rw [he, show n + K = ni by omega]; rfl) rfl
            · exact absurd (by decide) c_4
          | succ j11 ih11 =>
            intro fi ni ls H locs hi he hP hD hS hl
            refine lv_iload hx hb d_Lu_give_29 (lv_at hl 3 rfl) ?_
            refine lv_if_lt (tgt := 55) hx hb d_Lu_give_31 (by decide) (fun c_5 => ?_) (fun c_5 => ?_)
            · exact absurd c_5 (by rw [nI_pred]; exact nI_pos (by omega))
            · refine lv_aload_n hx hb d_Lu_give_34 rfl (lv_at hl 0 rfl) ?_
              refine va_get (D := D) (ci := 0) (v := .ref rw) (C := R_Lu) (T := T_Lu) (N := 4) hx hb hts i_Lu hown hK hP 0 rfl rfl 1 (by decide) (hts _ w_168) (fun _ h9 => h9) rfl d_Lu_give_35 ?_
              refine lv_lload_n hx hb d_Lu_give_38 rfl (lv_at hl 1 rfl) ?_
              refine lv_bipush (v := 8) hx hb d_Lu_give_39 (by decide) ?_
              refine lv_iload hx hb d_Lu_give_41 (lv_at hl 3 rfl) ?_
              refine lv_imul hx hb d_Lu_give_43 ?_
              refine lv_lushr hx hb d_Lu_give_44 rfl ?_
              refine lv_l2i hx hb d_Lu_give_45 rfl ?_
              refine pz_v (pz_rV (d := 0) (As := [.int (((v.toUInt64 >>> ((8 * (nI (j11 + 1) - 1)).toInt64.toUInt64 &&& Int64.toUInt64 63)).toInt64).toInt32)]) (rest := []) X hN (c_Rw_append l D cB cI cS rw rb fi ni (((v.toUInt64 >>> ((8 * (nI (j11 + 1) - 1)).toInt64.toUInt64 &&& Int64.toUInt64 63)).toInt64).toInt32) (show ni < 8192 by omega) _) k_Rw_append w_188 ⟨by decide, by decide⟩ hK hP hD [1, 2] rfl rfl 1 rfl rfl rfl rfl hl.1 rfl (Nat.le_of_ble_eq_true rfl) d_Lu_give_46 ⟨Nat.zero_le _, Nat.zero_le _⟩) hP hD hS hA [1, 2] rfl [rw, rb] rfl rfl (fun H locs hP hD hS => ?_)
              have hP : va_P D cls ([(u0, .inr (0, [.ref r0, .ref rw, .ref ow, .ref m0])), (rw, .inr (3, [.ref rb, .int (nI (ni + 1))])), (rb, .inl (cB, 8192, .inl (upd fi ni (((v.toUInt64 >>> ((8 * (nI (j11 + 1) - 1)).toInt64.toUInt64 &&& Int64.toUInt64 63)).toInt64).toInt32).toInt8.toInt32)))]) H := hP
              have hD : va_D A ([(u0, .inr (0, [.ref r0, .ref rw, .ref ow, .ref m0])), (rw, .inr (3, [.ref rb, .int (nI (ni + 1))])), (rb, .inl (cB, 8192, .inl (upd fi ni (((v.toUInt64 >>> ((8 * (nI (j11 + 1) - 1)).toInt64.toUInt64 &&& Int64.toUInt64 63)).toInt64).toInt32).toInt8.toInt32)))]) := hD
              refine lv_iinc (v := nI j11 - 1) (lv' := [(4, .int (nI j11 - 1)), (0, .ref u0), (1, .long v), (3, .int (nI K))]) hx hb d_Lu_give_49 hl (k := 3) rfl (dec1 _) (by decide) rfl (fun ls hl => ?_)
              refine lv_goto (tgt := 29) hx hb d_Lu_give_52 (by decide) ?_
              exact ih11 (upd fi ni (((v.toUInt64 >>> ((8 * (nI (j11 + 1) - 1)).toInt64.toUInt64 &&& Int64.toUInt64 63)).toInt64).toInt32).toInt8.toInt32) (ni + 1) _ _ _ (by omega) (by rw [he]; rfl) hP hD hS (lv_sub hl [1, 2, 3, 0] rfl)
        exact lp_11 K f n _ _ _ (by omega) (rfl) hP hD hS (lv_sub hl [1, 2, 3, 0] rfl)
      · refine lv_iconst (v := 0) hx hb d_Lu_give_22 (by decide) ?_
        exact fin _ _ _ _ _ _ d_Lu_give_23 hP hS (by simp only [gvZ, if_neg c_1, if_neg c_2, if_neg c_3]) (by simp only [gvF, gvN, if_neg c_1, if_neg c_2, if_neg c_3]) rfl

set_option maxRecDepth 100000 in
set_option maxHeartbeats 4000000 in
/-- cut -/
theorem c_Lu_cut (l : Launch) (D : va_G) (cB cI cS : ClassId) (u0 r0 rw ow m0 : Nat) (rb : Nat) (f : Nat → Int32) (n : Nat) (k : Int32)  : mI l y_Lu_cut b_Lu_cut 2 (some .boolean) 1 D cls [(cB, .byte), (cI, .int), (cS, .object "MapLumps$Span")] [.ref u0, .int k] ([(u0, .inr (0, [.ref r0, .ref rw, .ref ow, .ref m0])), (rw, .inr (3, [.ref rb, .int (nI n)])), (rb, .inl (cB, 8192, .inl f))]) (rsh n k) ([(u0, .inr (0, [.ref r0, .ref rw, .ref ow, .ref m0])), (rw, .inr (3, [.ref rb, .int (nI (rshN n k))])), (rb, .inl (cB, 8192, .inl f))]) := by
  refine pz_openZ (by decide) (Nat.le_of_ble_eq_true rfl) ?_
  intro p e s m below meth c A ls Q X hN hK hP hD hS hA hl fin
  obtain ⟨hx, hb, hml, hown, hts⟩ := id X
  have hl : lv_has ls 2 [(0, .ref u0), (1, .int k)] := hl
  refine lv_aload_n hx hb d_Lu_cut_0 rfl (lv_at hl 0 rfl) ?_
  refine va_get (D := D) (ci := 0) (v := .ref rw) (C := R_Lu) (T := T_Lu) (N := 4) hx hb hts i_Lu hown hK hP 0 rfl rfl 1 (by decide) (hts _ w_168) (fun _ h9 => h9) rfl d_Lu_cut_1 ?_
  refine lv_iload_n hx hb d_Lu_cut_4 rfl (lv_at hl 1 rfl) ?_
  refine pz_i (pz_rV (d := 0) (As := [.int k]) (rest := []) X hN (c_Rw_shorten l D cB cI cS rw rb f n k _) k_Rw_shorten w_196 ⟨by decide, by decide⟩ hK hP hD [1, 2] rfl rfl 1 rfl rfl rfl rfl hl.1 rfl (Nat.le_of_ble_eq_true rfl) d_Lu_cut_5 ⟨Nat.zero_le _, Nat.zero_le _⟩) hP hD hS hA [1, 2] rfl [rw, rb] rfl rfl (fun H locs hP hD hS => ?_)
  have hP : va_P D cls ([(u0, .inr (0, [.ref r0, .ref rw, .ref ow, .ref m0])), (rw, .inr (3, [.ref rb, .int (nI (rshN n k))])), (rb, .inl (cB, 8192, .inl f))]) H := hP
  have hD : va_D A ([(u0, .inr (0, [.ref r0, .ref rw, .ref ow, .ref m0])), (rw, .inr (3, [.ref rb, .int (nI (rshN n k))])), (rb, .inl (cB, 8192, .inl f))]) := hD
  exact fin _ _ _ _ _ _ d_Lu_cut_8 hP hS (rfl) (rfl) (rsh_z _ _)

set_option maxRecDepth 100000 in
set_option maxHeartbeats 4000000 in
/-- poke -/
theorem c_Lu_poke (l : Launch) (D : va_G) (cB cI cS : ClassId) (u0 r0 rw ow m0 : Nat) (rb : Nat) (f : Nat → Int32) (n : Nat) (k b : Int32) (hn : n ≤ 8192) : mI l y_Lu_poke b_Lu_poke 3 (some .boolean) 1 D cls [(cB, .byte), (cI, .int), (cS, .object "MapLumps$Span")] [.ref u0, .int k, .int b] ([(u0, .inr (0, [.ref r0, .ref rw, .ref ow, .ref m0])), (rw, .inr (3, [.ref rb, .int (nI n)])), (rb, .inl (cB, 8192, .inl f))]) (rput n k) ([(u0, .inr (0, [.ref r0, .ref rw, .ref ow, .ref m0])), (rw, .inr (3, [.ref rb, .int (nI n)])), (rb, .inl (cB, 8192, .inl (rputF f n k b)))]) := by
  refine pz_openZ (by decide) (Nat.le_of_ble_eq_true rfl) ?_
  intro p e s m below meth c A ls Q X hN hK hP hD hS hA hl fin
  obtain ⟨hx, hb, hml, hown, hts⟩ := id X
  have hl : lv_has ls 3 [(0, .ref u0), (1, .int k), (2, .int b)] := hl
  refine lv_aload_n hx hb d_Lu_poke_0 rfl (lv_at hl 0 rfl) ?_
  refine va_get (D := D) (ci := 0) (v := .ref rw) (C := R_Lu) (T := T_Lu) (N := 4) hx hb hts i_Lu hown hK hP 0 rfl rfl 1 (by decide) (hts _ w_168) (fun _ h9 => h9) rfl d_Lu_poke_1 ?_
  refine lv_iload_n hx hb d_Lu_poke_4 rfl (lv_at hl 1 rfl) ?_
  refine lv_iload_n hx hb d_Lu_poke_5 rfl (lv_at hl 2 rfl) ?_
  refine pz_i (pz_rV (d := 0) (As := [.int k, .int b]) (rest := []) X hN (c_Rw_put l D cB cI cS rw rb f n k b hn _) k_Rw_put w_204 ⟨by decide, by decide⟩ hK hP hD [1, 2] rfl rfl 1 rfl rfl rfl rfl hl.1 rfl (Nat.le_of_ble_eq_true rfl) d_Lu_poke_6 ⟨Nat.zero_le _, Nat.zero_le _⟩) hP hD hS hA [1, 2] rfl [rw, rb] rfl rfl (fun H locs hP hD hS => ?_)
  have hP : va_P D cls ([(u0, .inr (0, [.ref r0, .ref rw, .ref ow, .ref m0])), (rw, .inr (3, [.ref rb, .int (nI n)])), (rb, .inl (cB, 8192, .inl (rputF f n k b)))]) H := hP
  have hD : va_D A ([(u0, .inr (0, [.ref r0, .ref rw, .ref ow, .ref m0])), (rw, .inr (3, [.ref rb, .int (nI n)])), (rb, .inl (cB, 8192, .inl (rputF f n k b)))]) := hD
  exact fin _ _ _ _ _ _ d_Lu_poke_9 hP hS (rfl) (rfl) (rput_z _ _)

set_option maxRecDepth 100000 in
set_option maxHeartbeats 4000000 in
/-- write -/
theorem c_Lu_write (l : Launch) (D : va_G) (cB cI cS : ClassId) (u0 r0 rw ow m0 : Nat) (ob mt : Nat) (fo : Nat → Int32) (no : Nat) (mr mb : Nat) (pr mv mx ms mw ma mb_ mc_ : Int32) (fm : Nat → Int32) (nm : Nat) (hnm : nm ≤ 8192) (hf : sb_Fit fm) : mI l y_Lu_write b_Lu_write 1 (some .int) 2 D cls [(cB, .byte), (cI, .int), (cS, .object "MapLumps$Span")] [.ref u0] ([(u0, .inr (0, [.ref r0, .ref rw, .ref ow, .ref m0])), (ow, .inr (3, [.ref ob, .int (nI no)])), (ob, .inl (cB, 8192, .inl fo)), (m0, .inr (2, [.ref mr, .ref mt, .int pr, .int mv, .int mx, .int ms, .int mw, .int ma, .int mb_, .int mc_])), (mr, .inr (3, [.ref mb, .int (nI nm)])), (mb, .inl (cB, 8192, .inl fm))]) (if pr = 0 then -1 else nI nm) ([(u0, .inr (0, [.ref r0, .ref rw, .ref ow, .ref m0])), (ow, .inr (3, [.ref ob, .int (nI (if pr = 0 then no else nm))])), (ob, .inl (cB, 8192, .inl (if pr = 0 then fo else va_cpy fm fo 0 0 nm))), (m0, .inr (2, [.ref mr, .ref mt, .int pr, .int mv, .int mx, .int ms, .int mw, .int ma, .int mb_, .int mc_])), (mr, .inr (3, [.ref mb, .int (nI nm)])), (mb, .inl (cB, 8192, .inl fm))]) := by
  refine pz_openI (by decide) (Nat.le_of_ble_eq_true rfl) ?_
  intro p e s m below meth c A ls Q X hN hK hP hD hS hA hl fin
  obtain ⟨hx, hb, hml, hown, hts⟩ := id X
  have hl : lv_has ls 1 [(0, .ref u0)] := hl
  refine lv_aload_n hx hb d_Lu_write_0 rfl (lv_at hl 0 rfl) ?_
  refine va_get (D := D) (ci := 0) (v := .ref m0) (C := R_Lu) (T := T_Lu) (N := 4) hx hb hts i_Lu hown hK hP 0 rfl rfl 3 (by decide) (hts _ w_170) (fun _ h9 => h9) rfl d_Lu_write_1 ?_
  refine va_getN (D := D) (ci := 2) (v := .int pr) (C := R_Mp) (T := T_Mp) (N := 10) hx hb hts i_Mp hown hK hP 3 rfl rfl 2 (by decide) (nf_131 hN) (fun _ h9 => h9) rfl d_Lu_write_4 ?_
  refine lv_if_ne (tgt := 12) hx hb d_Lu_write_7 (by decide) (fun c_1 => ?_) (fun c_1 => ?_)
  · refine lv_aload_n hx hb d_Lu_write_12 rfl (lv_at hl 0 rfl) ?_
    refine va_get (D := D) (ci := 0) (v := .ref ow) (C := R_Lu) (T := T_Lu) (N := 4) hx hb hts i_Lu hown hK hP 0 rfl rfl 2 (by decide) (hts _ w_169) (fun _ h9 => h9) rfl d_Lu_write_13 ?_
    refine lv_aload_n hx hb d_Lu_write_16 rfl (lv_at hl 0 rfl) ?_
    refine va_get (D := D) (ci := 0) (v := .ref m0) (C := R_Lu) (T := T_Lu) (N := 4) hx hb hts i_Lu hown hK hP 0 rfl rfl 3 (by decide) (hts _ w_170) (fun _ h9 => h9) rfl d_Lu_write_17 ?_
    refine va_getN (D := D) (ci := 2) (v := .ref mr) (C := R_Mp) (T := T_Mp) (N := 10) hx hb hts i_Mp hown hK hP 3 rfl rfl 0 (by decide) (nf_128 hN) (fun _ h9 => h9) rfl d_Lu_write_20 ?_
    refine pz_v (pz_rV (d := 1) (As := [.ref mr]) (rest := []) X hN (c_Rw_copy l D cB cI cS ow ob mr mb fo fm no nm hnm hf _) k_Rw_copy w_360 ⟨by decide, by decide⟩ hK hP hD [1, 2, 4, 5] rfl rfl 1 rfl rfl rfl rfl hl.1 rfl (Nat.le_of_ble_eq_true rfl) d_Lu_write_23 ⟨Nat.zero_le _, Nat.zero_le _⟩) hP hD hS hA [1, 2, 4, 5] rfl [ow, ob, mr, mb] rfl rfl (fun H locs hP hD hS => ?_)
    have hP : va_P D cls ([(u0, .inr (0, [.ref r0, .ref rw, .ref ow, .ref m0])), (ow, .inr (3, [.ref ob, .int (nI nm)])), (ob, .inl (cB, 8192, .inl (va_cpy fm fo 0 0 nm))), (m0, .inr (2, [.ref mr, .ref mt, .int pr, .int mv, .int mx, .int ms, .int mw, .int ma, .int mb_, .int mc_])), (mr, .inr (3, [.ref mb, .int (nI nm)])), (mb, .inl (cB, 8192, .inl fm))]) H := hP
    have hD : va_D A ([(u0, .inr (0, [.ref r0, .ref rw, .ref ow, .ref m0])), (ow, .inr (3, [.ref ob, .int (nI nm)])), (ob, .inl (cB, 8192, .inl (va_cpy fm fo 0 0 nm))), (m0, .inr (2, [.ref mr, .ref mt, .int pr, .int mv, .int mx, .int ms, .int mw, .int ma, .int mb_, .int mc_])), (mr, .inr (3, [.ref mb, .int (nI nm)])), (mb, .inl (cB, 8192, .inl fm))]) := hD
    refine lv_aload_n hx hb d_Lu_write_26 rfl (lv_at hl 0 rfl) ?_
    refine va_get (D := D) (ci := 0) (v := .ref ow) (C := R_Lu) (T := T_Lu) (N := 4) hx hb hts i_Lu hown hK hP 0 rfl rfl 2 (by decide) (hts _ w_169) (fun _ h9 => h9) rfl d_Lu_write_27 ?_
    refine va_getN (D := D) (ci := 3) (v := .int (nI nm)) (C := R_Rw) (T := T_Rw) (N := 2) hx hb hts i_Rw hown hK hP 1 rfl rfl 1 (by decide) (nf_32 hN) (fun _ h9 => h9) rfl d_Lu_write_30 ?_
    exact fin _ _ _ _ _ _ d_Lu_write_33 hP hS (by simp only [if_neg c_1]) (by simp only [if_neg c_1])
  · refine lv_iconst (v := (-1)) hx hb d_Lu_write_10 (by decide) ?_
    exact fin _ _ _ _ _ _ d_Lu_write_11 hP hS (by simp only [if_pos c_1]) (by simp only [if_pos c_1])

set_option maxRecDepth 100000 in
set_option maxHeartbeats 4000000 in
/-- check -/
theorem c_Lu_check (l : Launch) (D : va_G) (cB cI cS : ClassId) (u0 r0 rw ow m0 : Nat) (rb : Nat) (f : Nat → Int32) (n : Nat) (hn : n ≤ 8192) : mI l y_Lu_check b_Lu_check 3 (some .boolean) 1 D cls [(cB, .byte), (cI, .int), (cS, .object "MapLumps$Span")] [.ref u0] ([(u0, .inr (0, [.ref r0, .ref rw, .ref ow, .ref m0])), (rw, .inr (3, [.ref rb, .int (nI n)])), (rb, .inl (cB, 8192, .inl f))]) (ckZ n) ([(u0, .inr (0, [.ref r0, .ref rw, .ref ow, .ref m0])), (rw, .inr (3, [.ref rb, .int (nI n)])), (rb, .inl (cB, 8192, .inl (ckF f n)))]) := by
  refine pz_openZ (by decide) (Nat.le_of_ble_eq_true rfl) ?_
  intro p e s m below meth c A ls Q X hN hK hP hD hS hA hl fin
  obtain ⟨hx, hb, hml, hown, hts⟩ := id X
  have hl : lv_has ls 3 [(0, .ref u0)] := hl
  refine lv_aload_n hx hb d_Lu_check_0 rfl (lv_at hl 0 rfl) ?_
  refine va_get (D := D) (ci := 0) (v := .ref rw) (C := R_Lu) (T := T_Lu) (N := 4) hx hb hts i_Lu hown hK hP 0 rfl rfl 1 (by decide) (hts _ w_168) (fun _ h9 => h9) rfl d_Lu_check_1 ?_
  refine va_getN (D := D) (ci := 3) (v := .int (nI n)) (C := R_Rw) (T := T_Rw) (N := 2) hx hb hts i_Rw hown hK hP 1 rfl rfl 1 (by decide) (nf_32 hN) (fun _ h9 => h9) rfl d_Lu_check_4 ?_
  refine lv_iconst (v := 2) hx hb d_Lu_check_7 (by decide) ?_
  refine lv_isub hx hb d_Lu_check_8 ?_
  refine lv_istore_n (lv' := [(1, .int ((nI n) - 2)), (0, .ref u0)]) hx hb d_Lu_check_9 rfl hl (by decide) rfl (fun ls hl => ?_)
  refine lv_iload_n hx hb d_Lu_check_10 rfl (lv_at hl 0 rfl) ?_
  refine lv_if_ge (tgt := 16) hx hb d_Lu_check_11 (by decide) (fun c_1 => ?_) (fun c_1 => ?_)
  · have hZ : ckZ n = 1 := by simp only [ckZ, if_pos c_1]
    have hF : ckF f n = rputF (rputF f n (nI (n - 2)) (ckD f n >>> ((8 : Int32) &&& 31))) n (nI (n - 2) + 1) (ckD f n) := by simp only [ckF, if_pos c_1]
    obtain ⟨M, eM⟩ := ck_ge hn c_1
    have e1 : nI n - 2 = nI M := by rw [eM]; exact ck_sub M
    have e2 : n - 2 = M := by omega
    rw [e1] at hl
    have hl : lv_has ls 3 [(1, .int (nI M)), (0, .ref u0)] := hl
    rw [ckD, e2] at hF
    refine lv_aload_n hx hb d_Lu_check_16 rfl (lv_at hl 1 rfl) ?_
    refine va_get (D := D) (ci := 0) (v := .ref rw) (C := R_Lu) (T := T_Lu) (N := 4) hx hb hts i_Lu hown hK hP 0 rfl rfl 1 (by decide) (hts _ w_168) (fun _ h9 => h9) rfl d_Lu_check_17 ?_
    refine lv_iload_n hx hb d_Lu_check_20 rfl (lv_at hl 0 rfl) ?_
    refine pz_i0 (pz_rV (d := 0) (As := [.int (nI M)]) (rest := []) X hN (c_Rw_sums l D cB cI cS rw rb f n M hn (show M ≤ n by omega) _) k_Rw_sums w_365 ⟨by decide, by decide⟩ hK hP hD [1, 2] rfl rfl 1 rfl rfl rfl rfl hl.1 rfl (Nat.le_of_ble_eq_true rfl) d_Lu_check_21 ⟨Nat.zero_le _, Nat.zero_le _⟩) hP hD hS hA [1, 2] rfl (fun H locs hP hS => ?_)
    refine lv_istore_n (lv' := [(2, .int (256 * (sum2 f M).1 + (sum2 f M).2)), (1, .int (nI M)), (0, .ref u0)]) hx hb d_Lu_check_24 rfl hl (by decide) rfl (fun ls hl => ?_)
    refine lv_aload_n hx hb d_Lu_check_25 rfl (lv_at hl 2 rfl) ?_
    refine va_get (D := D) (ci := 0) (v := .ref rw) (C := R_Lu) (T := T_Lu) (N := 4) hx hb hts i_Lu hown hK hP 0 rfl rfl 1 (by decide) (hts _ w_168) (fun _ h9 => h9) rfl d_Lu_check_26 ?_
    refine lv_iload_n hx hb d_Lu_check_29 rfl (lv_at hl 1 rfl) ?_
    refine lv_iload_n hx hb d_Lu_check_30 rfl (lv_at hl 0 rfl) ?_
    refine lv_bipush (v := 8) hx hb d_Lu_check_31 (by decide) ?_
    refine lv_ishr hx hb d_Lu_check_33 ?_
    refine pz_i (pz_rV (d := 0) (As := [.int (nI M), .int ((256 * (sum2 f M).1 + (sum2 f M).2) >>> (8 &&& 31))]) (rest := []) X hN (c_Rw_put l D cB cI cS rw rb f n (nI M) ((256 * (sum2 f M).1 + (sum2 f M).2) >>> (8 &&& 31)) hn _) k_Rw_put w_204 ⟨by decide, by decide⟩ hK hP hD [1, 2] rfl rfl 1 rfl rfl rfl rfl hl.1 rfl (Nat.le_of_ble_eq_true rfl) d_Lu_check_34 ⟨Nat.zero_le _, Nat.zero_le _⟩) hP hD hS hA [1, 2] rfl [rw, rb] rfl rfl (fun H locs hP hD hS => ?_)
    have hP : va_P D cls ([(u0, .inr (0, [.ref r0, .ref rw, .ref ow, .ref m0])), (rw, .inr (3, [.ref rb, .int (nI n)])), (rb, .inl (cB, 8192, .inl (rputF f n (nI M) ((256 * (sum2 f M).1 + (sum2 f M).2) >>> (8 &&& 31)))))]) H := hP
    have hD : va_D A ([(u0, .inr (0, [.ref r0, .ref rw, .ref ow, .ref m0])), (rw, .inr (3, [.ref rb, .int (nI n)])), (rb, .inl (cB, 8192, .inl (rputF f n (nI M) ((256 * (sum2 f M).1 + (sum2 f M).2) >>> (8 &&& 31)))))]) := hD
    refine lv_pop hx hb d_Lu_check_37 rfl ?_
    refine lv_aload_n hx hb d_Lu_check_38 rfl (lv_at hl 2 rfl) ?_
    refine va_get (D := D) (ci := 0) (v := .ref rw) (C := R_Lu) (T := T_Lu) (N := 4) hx hb hts i_Lu hown hK hP 0 rfl rfl 1 (by decide) (hts _ w_168) (fun _ h9 => h9) rfl d_Lu_check_39 ?_
    refine lv_iload_n hx hb d_Lu_check_42 rfl (lv_at hl 1 rfl) ?_
    refine lv_iconst (v := 1) hx hb d_Lu_check_43 (by decide) ?_
    refine lv_iadd hx hb d_Lu_check_44 ?_
    refine lv_iload_n hx hb d_Lu_check_45 rfl (lv_at hl 0 rfl) ?_
    refine pz_i (pz_rV (d := 0) (As := [.int ((nI M) + 1), .int (256 * (sum2 f M).1 + (sum2 f M).2)]) (rest := []) X hN (c_Rw_put l D cB cI cS rw rb (rputF f n (nI M) ((256 * (sum2 f M).1 + (sum2 f M).2) >>> (8 &&& 31))) n ((nI M) + 1) (256 * (sum2 f M).1 + (sum2 f M).2) hn _) k_Rw_put w_204 ⟨by decide, by decide⟩ hK hP hD [1, 2] rfl rfl 1 rfl rfl rfl rfl hl.1 rfl (Nat.le_of_ble_eq_true rfl) d_Lu_check_46 ⟨Nat.zero_le _, Nat.zero_le _⟩) hP hD hS hA [1, 2] rfl [rw, rb] rfl rfl (fun H locs hP hD hS => ?_)
    have hP : va_P D cls ([(u0, .inr (0, [.ref r0, .ref rw, .ref ow, .ref m0])), (rw, .inr (3, [.ref rb, .int (nI n)])), (rb, .inl (cB, 8192, .inl (rputF (rputF f n (nI M) ((256 * (sum2 f M).1 + (sum2 f M).2) >>> (8 &&& 31))) n ((nI M) + 1) (256 * (sum2 f M).1 + (sum2 f M).2))))]) H := hP
    have hD : va_D A ([(u0, .inr (0, [.ref r0, .ref rw, .ref ow, .ref m0])), (rw, .inr (3, [.ref rb, .int (nI n)])), (rb, .inl (cB, 8192, .inl (rputF (rputF f n (nI M) ((256 * (sum2 f M).1 + (sum2 f M).2) >>> (8 &&& 31))) n ((nI M) + 1) (256 * (sum2 f M).1 + (sum2 f M).2))))]) := hD
    refine lv_pop hx hb d_Lu_check_49 rfl ?_
    refine lv_iconst (v := 1) hx hb d_Lu_check_50 (by decide) ?_
    exact fin _ _ _ _ _ _ d_Lu_check_51 hP hS (hZ.symm) (by rw [hF]) rfl
  · refine lv_iconst (v := 0) hx hb d_Lu_check_14 (by decide) ?_
    exact fin _ _ _ _ _ _ d_Lu_check_15 hP hS (by simp only [ckZ, if_neg c_1]) (by simp only [ckF, if_neg c_1]) rfl

set_option maxRecDepth 100000 in
set_option maxHeartbeats 4000000 in
/-- byteAt -/
theorem c_Lu_byteAt (l : Launch) (D : va_G) (cB cI cS : ClassId) (u0 r0 rw ow m0 : Nat) (rb ob : Nat) (f fo : Nat → Int32) (n no : Nat) (k into : Int32) (hn : n ≤ 8192) (hno : no ≤ 8192) : mI l y_Lu_byteAt b_Lu_byteAt 3 (some .int) 1 D cls [(cB, .byte), (cI, .int), (cS, .object "MapLumps$Span")] [.ref u0, .int k, .int into] ([(u0, .inr (0, [.ref r0, .ref rw, .ref ow, .ref m0])), (rw, .inr (3, [.ref rb, .int (nI n)])), (rb, .inl (cB, 8192, .inl f)), (ow, .inr (3, [.ref ob, .int (nI no)])), (ob, .inl (cB, 8192, .inl fo))]) (bAt f n fo no k into) ([(u0, .inr (0, [.ref r0, .ref rw, .ref ow, .ref m0])), (rw, .inr (3, [.ref rb, .int (nI n)])), (rb, .inl (cB, 8192, .inl f)), (ow, .inr (3, [.ref ob, .int (nI no)])), (ob, .inl (cB, 8192, .inl fo))]) := by
  refine pz_openI (by decide) (Nat.le_of_ble_eq_true rfl) ?_
  intro p e s m below meth c A ls Q X hN hK hP hD hS hA hl fin
  obtain ⟨hx, hb, hml, hown, hts⟩ := id X
  have hl : lv_has ls 3 [(0, .ref u0), (1, .int k), (2, .int into)] := hl
  refine lv_iload_n hx hb d_Lu_byteAt_0 rfl (lv_at hl 2 rfl) ?_
  refine lv_if_eq (tgt := 15) hx hb d_Lu_byteAt_1 (by decide) (fun c_1 => ?_) (fun c_1 => ?_)
  · refine lv_aload_n hx hb d_Lu_byteAt_15 rfl (lv_at hl 0 rfl) ?_
    refine va_get (D := D) (ci := 0) (v := .ref ow) (C := R_Lu) (T := T_Lu) (N := 4) hx hb hts i_Lu hown hK hP 0 rfl rfl 2 (by decide) (hts _ w_169) (fun _ h9 => h9) rfl d_Lu_byteAt_16 ?_
    refine lv_iload_n hx hb d_Lu_byteAt_19 rfl (lv_at hl 1 rfl) ?_
    refine pz_i0 (pz_rV (d := 0) (As := [.int k]) (rest := []) X hN (c_Rw_get l D cB cI cS ow ob fo no k hno _) k_Rw_get w_370 ⟨by decide, by decide⟩ hK hP hD [3, 4] rfl rfl 3 rfl rfl rfl rfl hl.1 rfl (Nat.le_of_ble_eq_true rfl) d_Lu_byteAt_20 ⟨Nat.zero_le _, Nat.zero_le _⟩) hP hD hS hA [3, 4] rfl (fun H locs hP hS => ?_)
    exact fin _ _ _ _ _ _ d_Lu_byteAt_23 hP hS (by simp only [bAt, if_pos c_1]) (rfl)
  · refine lv_aload_n hx hb d_Lu_byteAt_4 rfl (lv_at hl 0 rfl) ?_
    refine va_get (D := D) (ci := 0) (v := .ref rw) (C := R_Lu) (T := T_Lu) (N := 4) hx hb hts i_Lu hown hK hP 0 rfl rfl 1 (by decide) (hts _ w_168) (fun _ h9 => h9) rfl d_Lu_byteAt_5 ?_
    refine lv_iload_n hx hb d_Lu_byteAt_8 rfl (lv_at hl 1 rfl) ?_
    refine pz_i0 (pz_rV (d := 0) (As := [.int k]) (rest := []) X hN (c_Rw_get l D cB cI cS rw rb f n k hn _) k_Rw_get w_370 ⟨by decide, by decide⟩ hK hP hD [1, 2] rfl rfl 1 rfl rfl rfl rfl hl.1 rfl (Nat.le_of_ble_eq_true rfl) d_Lu_byteAt_9 ⟨Nat.zero_le _, Nat.zero_le _⟩) hP hD hS hA [1, 2] rfl (fun H locs hP hS => ?_)
    refine lv_goto (tgt := 23) hx hb d_Lu_byteAt_12 (by decide) ?_
    exact fin _ _ _ _ _ _ d_Lu_byteAt_23 hP hS (by simp only [bAt, if_neg c_1]) (rfl)

set_option maxRecDepth 100000 in
set_option maxHeartbeats 4000000 in
/-- vertex -/
theorem c_Lu_vertex (l : Launch) (D : va_G) (cB cI cS : ClassId) (u0 r0 rw ow m0 : Nat) (mr mb mt : Nat) (pr mv mx ms mw ma mb_ mc_ : Int32) (fm : Nat → Int32) (nm : Nat) (k ac : Int32) (hnm : nm ≤ 8192) : mI l y_Lu_vertex b_Lu_vertex 3 (some .int) 2 D cls [(cB, .byte), (cI, .int), (cS, .object "MapLumps$Span")] [.ref u0, .int k, .int ac] ([(u0, .inr (0, [.ref r0, .ref rw, .ref ow, .ref m0])), (m0, .inr (2, [.ref mr, .ref mt, .int pr, .int mv, .int mx, .int ms, .int mw, .int ma, .int mb_, .int mc_])), (mr, .inr (3, [.ref mb, .int (nI nm)])), (mb, .inl (cB, 8192, .inl fm))]) (vxA fm nm mv k ac) ([(u0, .inr (0, [.ref r0, .ref rw, .ref ow, .ref m0])), (m0, .inr (2, [.ref mr, .ref mt, .int pr, .int mv, .int mx, .int ms, .int mw, .int ma, .int mb_, .int mc_])), (mr, .inr (3, [.ref mb, .int (nI nm)])), (mb, .inl (cB, 8192, .inl fm))]) := by
  refine pz_openI (by decide) (Nat.le_of_ble_eq_true rfl) ?_
  intro p e s m below meth c A ls Q X hN hK hP hD hS hA hl fin
  obtain ⟨hx, hb, hml, hown, hts⟩ := id X
  have hl : lv_has ls 3 [(0, .ref u0), (1, .int k), (2, .int ac)] := hl
  refine lv_iload_n hx hb d_Lu_vertex_0 rfl (lv_at hl 1 rfl) ?_
  refine lv_if_lt (tgt := 15) hx hb d_Lu_vertex_1 (by decide) (fun c_1 => ?_) (fun c_1 => ?_)
  · refine lv_ldc (v := 100000) hx hb hown (hts _ (w_375)) d_Lu_vertex_15 ?_
    exact fin _ _ _ _ _ _ d_Lu_vertex_17 hP hS (by simp only [vxA, if_pos c_1]) (rfl)
  · refine lv_iload_n hx hb d_Lu_vertex_4 rfl (lv_at hl 1 rfl) ?_
    refine lv_aload_n hx hb d_Lu_vertex_5 rfl (lv_at hl 0 rfl) ?_
    refine va_get (D := D) (ci := 0) (v := .ref m0) (C := R_Lu) (T := T_Lu) (N := 4) hx hb hts i_Lu hown hK hP 0 rfl rfl 3 (by decide) (hts _ w_170) (fun _ h9 => h9) rfl d_Lu_vertex_6 ?_
    refine va_getN (D := D) (ci := 2) (v := .int mv) (C := R_Mp) (T := T_Mp) (N := 10) hx hb hts i_Mp hown hK hP 1 rfl rfl 3 (by decide) (nf_133 hN) (fun _ h9 => h9) rfl d_Lu_vertex_9 ?_
    refine lv_icmp_lt (tgt := 18) hx hb d_Lu_vertex_12 (by decide) (fun c_2 => ?_) (fun c_2 => ?_)
    · refine lv_aload_n hx hb d_Lu_vertex_18 rfl (lv_at hl 0 rfl) ?_
      refine va_get (D := D) (ci := 0) (v := .ref m0) (C := R_Lu) (T := T_Lu) (N := 4) hx hb hts i_Lu hown hK hP 0 rfl rfl 3 (by decide) (hts _ w_170) (fun _ h9 => h9) rfl d_Lu_vertex_19 ?_
      refine va_getN (D := D) (ci := 2) (v := .ref mr) (C := R_Mp) (T := T_Mp) (N := 10) hx hb hts i_Mp hown hK hP 1 rfl rfl 0 (by decide) (nf_128 hN) (fun _ h9 => h9) rfl d_Lu_vertex_22 ?_
      refine lv_bipush (v := 7) hx hb d_Lu_vertex_25 (by decide) ?_
      refine lv_iconst (v := 4) hx hb d_Lu_vertex_27 (by decide) ?_
      refine lv_iload_n hx hb d_Lu_vertex_28 rfl (lv_at hl 1 rfl) ?_
      refine lv_imul hx hb d_Lu_vertex_29 ?_
      refine lv_iadd hx hb d_Lu_vertex_30 ?_
      refine lv_iload_n hx hb d_Lu_vertex_31 rfl (lv_at hl 2 rfl) ?_
      refine lv_if_eq (tgt := 39) hx hb d_Lu_vertex_32 (by decide) (fun c_3 => ?_) (fun c_3 => ?_)
      · refine lv_iconst (v := 2) hx hb d_Lu_vertex_39 (by decide) ?_
        refine lv_iadd hx hb d_Lu_vertex_40 ?_
        refine pz_i0 (pz_rV (d := 1) (As := [.int ((7 + (4 * k)) + 2)]) (rest := []) X hN (c_Rw_signed l D cB cI cS mr mb fm nm ((7 + (4 * k)) + 2) hnm _) k_Rw_signed w_376 ⟨by decide, by decide⟩ hK hP hD [2, 3] rfl rfl 2 rfl rfl rfl rfl hl.1 rfl (Nat.le_of_ble_eq_true rfl) d_Lu_vertex_41 ⟨Nat.zero_le _, Nat.zero_le _⟩) hP hD hS hA [2, 3] rfl (fun H locs hP hS => ?_)
        exact fin _ _ _ _ _ _ d_Lu_vertex_44 hP hS (by simp only [vxA, if_neg c_1, if_pos c_2, if_pos c_3]) (rfl)
      · refine lv_iconst (v := 0) hx hb d_Lu_vertex_35 (by decide) ?_
        refine lv_goto (tgt := 40) hx hb d_Lu_vertex_36 (by decide) ?_
        refine lv_iadd hx hb d_Lu_vertex_40 ?_
        refine pz_i0 (pz_rV (d := 1) (As := [.int ((7 + (4 * k)) + 0)]) (rest := []) X hN (c_Rw_signed l D cB cI cS mr mb fm nm ((7 + (4 * k)) + 0) hnm _) k_Rw_signed w_376 ⟨by decide, by decide⟩ hK hP hD [2, 3] rfl rfl 2 rfl rfl rfl rfl hl.1 rfl (Nat.le_of_ble_eq_true rfl) d_Lu_vertex_41 ⟨Nat.zero_le _, Nat.zero_le _⟩) hP hD hS hA [2, 3] rfl (fun H locs hP hS => ?_)
        exact fin _ _ _ _ _ _ d_Lu_vertex_44 hP hS (by simp only [vxA, if_neg c_1, if_pos c_2, if_neg c_3]) (rfl)
    · refine lv_ldc (v := 100000) hx hb hown (hts _ (w_375)) d_Lu_vertex_15 ?_
      exact fin _ _ _ _ _ _ d_Lu_vertex_17 hP hS (by simp only [vxA, if_neg c_1, if_neg c_2]) (rfl)

set_option maxRecDepth 100000 in
set_option maxHeartbeats 4000000 in
/-- sector -/
theorem c_Lu_sector (l : Launch) (D : va_G) (cB cI cS : ClassId) (u0 r0 rw ow m0 : Nat) (mr mb mt : Nat) (pr mv mx ms mw ma mb_ mc_ : Int32) (fm : Nat → Int32) (nm : Nat) (k what : Int32) (hnm : nm ≤ 8192) : mI l y_Lu_sector b_Lu_sector 4 (some .int) 2 D cls [(cB, .byte), (cI, .int), (cS, .object "MapLumps$Span")] [.ref u0, .int k, .int what] ([(u0, .inr (0, [.ref r0, .ref rw, .ref ow, .ref m0])), (m0, .inr (2, [.ref mr, .ref mt, .int pr, .int mv, .int mx, .int ms, .int mw, .int ma, .int mb_, .int mc_])), (mr, .inr (3, [.ref mb, .int (nI nm)])), (mb, .inl (cB, 8192, .inl fm))]) (scA fm nm ms ma k what) ([(u0, .inr (0, [.ref r0, .ref rw, .ref ow, .ref m0])), (m0, .inr (2, [.ref mr, .ref mt, .int pr, .int mv, .int mx, .int ms, .int mw, .int ma, .int mb_, .int mc_])), (mr, .inr (3, [.ref mb, .int (nI nm)])), (mb, .inl (cB, 8192, .inl fm))]) := by
  refine pz_openI (by decide) (Nat.le_of_ble_eq_true rfl) ?_
  intro p e s m below meth c A ls Q X hN hK hP hD hS hA hl fin
  obtain ⟨hx, hb, hml, hown, hts⟩ := id X
  have hl : lv_has ls 4 [(0, .ref u0), (1, .int k), (2, .int what)] := hl
  refine lv_iload_n hx hb d_Lu_sector_0 rfl (lv_at hl 1 rfl) ?_
  refine lv_if_lt (tgt := 25) hx hb d_Lu_sector_1 (by decide) (fun c_1 => ?_) (fun c_1 => ?_)
  · refine lv_ldc (v := 100000) hx hb hown (hts _ (w_375)) d_Lu_sector_25 ?_
    exact fin _ _ _ _ _ _ d_Lu_sector_27 hP hS (by simp only [scA, if_pos c_1]) (rfl)
  · refine lv_iload_n hx hb d_Lu_sector_4 rfl (lv_at hl 1 rfl) ?_
    refine lv_aload_n hx hb d_Lu_sector_5 rfl (lv_at hl 0 rfl) ?_
    refine va_get (D := D) (ci := 0) (v := .ref m0) (C := R_Lu) (T := T_Lu) (N := 4) hx hb hts i_Lu hown hK hP 0 rfl rfl 3 (by decide) (hts _ w_170) (fun _ h9 => h9) rfl d_Lu_sector_6 ?_
    refine va_getN (D := D) (ci := 2) (v := .int ms) (C := R_Mp) (T := T_Mp) (N := 10) hx hb hts i_Mp hown hK hP 1 rfl rfl 5 (by decide) (nf_137 hN) (fun _ h9 => h9) rfl d_Lu_sector_9 ?_
    refine lv_icmp_ge (tgt := 25) hx hb d_Lu_sector_12 (by decide) (fun c_2 => ?_) (fun c_2 => ?_)
    · refine lv_ldc (v := 100000) hx hb hown (hts _ (w_375)) d_Lu_sector_25 ?_
      exact fin _ _ _ _ _ _ d_Lu_sector_27 hP hS (by simp only [scA, if_neg c_1, if_pos c_2]) (rfl)
    · refine lv_iload_n hx hb d_Lu_sector_15 rfl (lv_at hl 2 rfl) ?_
      refine lv_if_lt (tgt := 25) hx hb d_Lu_sector_16 (by decide) (fun c_3 => ?_) (fun c_3 => ?_)
      · refine lv_ldc (v := 100000) hx hb hown (hts _ (w_375)) d_Lu_sector_25 ?_
        exact fin _ _ _ _ _ _ d_Lu_sector_27 hP hS (by simp only [scA, if_neg c_1, if_neg c_2, if_pos c_3]) (rfl)
      · refine lv_iload_n hx hb d_Lu_sector_19 rfl (lv_at hl 2 rfl) ?_
        refine lv_bipush (v := 6) hx hb d_Lu_sector_20 (by decide) ?_
        refine lv_icmp_le (tgt := 28) hx hb d_Lu_sector_22 (by decide) (fun c_4 => ?_) (fun c_4 => ?_)
        · refine lv_aload_n hx hb d_Lu_sector_28 rfl (lv_at hl 0 rfl) ?_
          refine va_get (D := D) (ci := 0) (v := .ref m0) (C := R_Lu) (T := T_Lu) (N := 4) hx hb hts i_Lu hown hK hP 0 rfl rfl 3 (by decide) (hts _ w_170) (fun _ h9 => h9) rfl d_Lu_sector_29 ?_
          refine va_getN (D := D) (ci := 2) (v := .int ma) (C := R_Mp) (T := T_Mp) (N := 10) hx hb hts i_Mp hown hK hP 1 rfl rfl 7 (by decide) (nf_141 hN) (fun _ h9 => h9) rfl d_Lu_sector_32 ?_
          refine lv_bipush (v := 9) hx hb d_Lu_sector_35 (by decide) ?_
          refine lv_iload_n hx hb d_Lu_sector_37 rfl (lv_at hl 1 rfl) ?_
          refine lv_imul hx hb d_Lu_sector_38 ?_
          refine lv_iadd hx hb d_Lu_sector_39 ?_
          refine lv_istore_n (lv' := [(3, .int (ma + (9 * k))), (0, .ref u0), (1, .int k), (2, .int what)]) hx hb d_Lu_sector_40 rfl hl (by decide) rfl (fun ls hl => ?_)
          refine lv_iload_n hx hb d_Lu_sector_41 rfl (lv_at hl 3 rfl) ?_
          refine lv_iconst (v := 2) hx hb d_Lu_sector_42 (by decide) ?_
          refine lv_icmp_ge (tgt := 64) hx hb d_Lu_sector_43 (by decide) (fun c_5 => ?_) (fun c_5 => ?_)
          · refine lv_aload_n hx hb d_Lu_sector_64 rfl (lv_at hl 1 rfl) ?_
            refine va_get (D := D) (ci := 0) (v := .ref m0) (C := R_Lu) (T := T_Lu) (N := 4) hx hb hts i_Lu hown hK hP 0 rfl rfl 3 (by decide) (hts _ w_170) (fun _ h9 => h9) rfl d_Lu_sector_65 ?_
            refine va_getN (D := D) (ci := 2) (v := .ref mr) (C := R_Mp) (T := T_Mp) (N := 10) hx hb hts i_Mp hown hK hP 1 rfl rfl 0 (by decide) (nf_128 hN) (fun _ h9 => h9) rfl d_Lu_sector_68 ?_
            refine lv_iload_n hx hb d_Lu_sector_71 rfl (lv_at hl 0 rfl) ?_
            refine lv_iconst (v := 2) hx hb d_Lu_sector_72 (by decide) ?_
            refine lv_iadd hx hb d_Lu_sector_73 ?_
            refine lv_iload_n hx hb d_Lu_sector_74 rfl (lv_at hl 3 rfl) ?_
            refine lv_iadd hx hb d_Lu_sector_75 ?_
            refine pz_i0 (pz_rV (d := 0) (As := [.int (((ma + (9 * k)) + 2) + what)]) (rest := []) X hN (c_Rw_get l D cB cI cS mr mb fm nm (((ma + (9 * k)) + 2) + what) hnm _) k_Rw_get w_370 ⟨by decide, by decide⟩ hK hP hD [2, 3] rfl rfl 2 rfl rfl rfl rfl hl.1 rfl (Nat.le_of_ble_eq_true rfl) d_Lu_sector_76 ⟨Nat.zero_le _, Nat.zero_le _⟩) hP hD hS hA [2, 3] rfl (fun H locs hP hS => ?_)
            exact fin _ _ _ _ _ _ d_Lu_sector_79 hP hS (by simp only [scA, if_neg c_1, if_neg c_2, if_neg c_3, if_pos c_4, if_pos c_5]) (rfl)
          · refine lv_aload_n hx hb d_Lu_sector_46 rfl (lv_at hl 1 rfl) ?_
            refine va_get (D := D) (ci := 0) (v := .ref m0) (C := R_Lu) (T := T_Lu) (N := 4) hx hb hts i_Lu hown hK hP 0 rfl rfl 3 (by decide) (hts _ w_170) (fun _ h9 => h9) rfl d_Lu_sector_47 ?_
            refine va_getN (D := D) (ci := 2) (v := .ref mr) (C := R_Mp) (T := T_Mp) (N := 10) hx hb hts i_Mp hown hK hP 1 rfl rfl 0 (by decide) (nf_128 hN) (fun _ h9 => h9) rfl d_Lu_sector_50 ?_
            refine lv_iload_n hx hb d_Lu_sector_53 rfl (lv_at hl 0 rfl) ?_
            refine lv_iconst (v := 2) hx hb d_Lu_sector_54 (by decide) ?_
            refine lv_iload_n hx hb d_Lu_sector_55 rfl (lv_at hl 3 rfl) ?_
            refine lv_imul hx hb d_Lu_sector_56 ?_
            refine lv_iadd hx hb d_Lu_sector_57 ?_
            refine pz_i0 (pz_rV (d := 1) (As := [.int ((ma + (9 * k)) + (2 * what))]) (rest := []) X hN (c_Rw_signed l D cB cI cS mr mb fm nm ((ma + (9 * k)) + (2 * what)) hnm _) k_Rw_signed w_376 ⟨by decide, by decide⟩ hK hP hD [2, 3] rfl rfl 2 rfl rfl rfl rfl hl.1 rfl (Nat.le_of_ble_eq_true rfl) d_Lu_sector_58 ⟨Nat.zero_le _, Nat.zero_le _⟩) hP hD hS hA [2, 3] rfl (fun H locs hP hS => ?_)
            refine lv_goto (tgt := 79) hx hb d_Lu_sector_61 (by decide) ?_
            exact fin _ _ _ _ _ _ d_Lu_sector_79 hP hS (by simp only [scA, if_neg c_1, if_neg c_2, if_neg c_3, if_pos c_4, if_neg c_5]) (rfl)
        · refine lv_ldc (v := 100000) hx hb hown (hts _ (w_375)) d_Lu_sector_25 ?_
          exact fin _ _ _ _ _ _ d_Lu_sector_27 hP hS (by simp only [scA, if_neg c_1, if_neg c_2, if_neg c_3, if_neg c_4]) (rfl)

set_option maxRecDepth 100000 in
set_option maxHeartbeats 4000000 in
/-- wall -/
theorem c_Lu_wall (l : Launch) (D : va_G) (cB cI cS : ClassId) (u0 r0 rw ow m0 : Nat) (mr mb mt : Nat) (pr mv mx ms mw ma mb_ mc_ : Int32) (fm : Nat → Int32) (nm : Nat) (k what : Int32) (hnm : nm ≤ 8192) : mI l y_Lu_wall b_Lu_wall 4 (some .int) 2 D cls [(cB, .byte), (cI, .int), (cS, .object "MapLumps$Span")] [.ref u0, .int k, .int what] ([(u0, .inr (0, [.ref r0, .ref rw, .ref ow, .ref m0])), (m0, .inr (2, [.ref mr, .ref mt, .int pr, .int mv, .int mx, .int ms, .int mw, .int ma, .int mb_, .int mc_])), (mr, .inr (3, [.ref mb, .int (nI nm)])), (mb, .inl (cB, 8192, .inl fm))]) (wlA fm nm mw mb_ k what) ([(u0, .inr (0, [.ref r0, .ref rw, .ref ow, .ref m0])), (m0, .inr (2, [.ref mr, .ref mt, .int pr, .int mv, .int mx, .int ms, .int mw, .int ma, .int mb_, .int mc_])), (mr, .inr (3, [.ref mb, .int (nI nm)])), (mb, .inl (cB, 8192, .inl fm))]) := by
  refine pz_openI (by decide) (Nat.le_of_ble_eq_true rfl) ?_
  intro p e s m below meth c A ls Q X hN hK hP hD hS hA hl fin
  obtain ⟨hx, hb, hml, hown, hts⟩ := id X
  have hl : lv_has ls 4 [(0, .ref u0), (1, .int k), (2, .int what)] := hl
  refine lv_iload_n hx hb d_Lu_wall_0 rfl (lv_at hl 1 rfl) ?_
  refine lv_if_lt (tgt := 25) hx hb d_Lu_wall_1 (by decide) (fun c_1 => ?_) (fun c_1 => ?_)
  · refine lv_iconst (v := (-1)) hx hb d_Lu_wall_25 (by decide) ?_
    exact fin _ _ _ _ _ _ d_Lu_wall_26 hP hS (by simp only [wlA, if_pos c_1]) (rfl)
  · refine lv_iload_n hx hb d_Lu_wall_4 rfl (lv_at hl 1 rfl) ?_
    refine lv_aload_n hx hb d_Lu_wall_5 rfl (lv_at hl 0 rfl) ?_
    refine va_get (D := D) (ci := 0) (v := .ref m0) (C := R_Lu) (T := T_Lu) (N := 4) hx hb hts i_Lu hown hK hP 0 rfl rfl 3 (by decide) (hts _ w_170) (fun _ h9 => h9) rfl d_Lu_wall_6 ?_
    refine va_getN (D := D) (ci := 2) (v := .int mw) (C := R_Mp) (T := T_Mp) (N := 10) hx hb hts i_Mp hown hK hP 1 rfl rfl 6 (by decide) (nf_139 hN) (fun _ h9 => h9) rfl d_Lu_wall_9 ?_
    refine lv_icmp_ge (tgt := 25) hx hb d_Lu_wall_12 (by decide) (fun c_2 => ?_) (fun c_2 => ?_)
    · refine lv_iconst (v := (-1)) hx hb d_Lu_wall_25 (by decide) ?_
      exact fin _ _ _ _ _ _ d_Lu_wall_26 hP hS (by simp only [wlA, if_neg c_1, if_pos c_2]) (rfl)
    · refine lv_iload_n hx hb d_Lu_wall_15 rfl (lv_at hl 2 rfl) ?_
      refine lv_if_lt (tgt := 25) hx hb d_Lu_wall_16 (by decide) (fun c_3 => ?_) (fun c_3 => ?_)
      · refine lv_iconst (v := (-1)) hx hb d_Lu_wall_25 (by decide) ?_
        exact fin _ _ _ _ _ _ d_Lu_wall_26 hP hS (by simp only [wlA, if_neg c_1, if_neg c_2, if_pos c_3]) (rfl)
      · refine lv_iload_n hx hb d_Lu_wall_19 rfl (lv_at hl 2 rfl) ?_
        refine lv_bipush (v := 14) hx hb d_Lu_wall_20 (by decide) ?_
        refine lv_icmp_le (tgt := 27) hx hb d_Lu_wall_22 (by decide) (fun c_4 => ?_) (fun c_4 => ?_)
        · refine lv_aload_n hx hb d_Lu_wall_27 rfl (lv_at hl 0 rfl) ?_
          refine va_get (D := D) (ci := 0) (v := .ref m0) (C := R_Lu) (T := T_Lu) (N := 4) hx hb hts i_Lu hown hK hP 0 rfl rfl 3 (by decide) (hts _ w_170) (fun _ h9 => h9) rfl d_Lu_wall_28 ?_
          refine va_getN (D := D) (ci := 2) (v := .int mb_) (C := R_Mp) (T := T_Mp) (N := 10) hx hb hts i_Mp hown hK hP 1 rfl rfl 8 (by decide) (nf_143 hN) (fun _ h9 => h9) rfl d_Lu_wall_31 ?_
          refine lv_bipush (v := 14) hx hb d_Lu_wall_34 (by decide) ?_
          refine lv_iload_n hx hb d_Lu_wall_36 rfl (lv_at hl 1 rfl) ?_
          refine lv_imul hx hb d_Lu_wall_37 ?_
          refine lv_iadd hx hb d_Lu_wall_38 ?_
          refine lv_istore_n (lv' := [(3, .int (mb_ + (14 * k))), (0, .ref u0), (1, .int k), (2, .int what)]) hx hb d_Lu_wall_39 rfl hl (by decide) rfl (fun ls hl => ?_)
          refine lv_iload_n hx hb d_Lu_wall_40 rfl (lv_at hl 3 rfl) ?_
          by_cases c_5 : what = 10
          · refine lv_lookup (x := what) (off := 27) (tgt := 68) hx hb d_Lu_wall_41 (by decide) (by rw [c_5]; rfl) (by decide) ?_
            refine lv_aload_n hx hb d_Lu_wall_68 rfl (lv_at hl 1 rfl) ?_
            refine va_get (D := D) (ci := 0) (v := .ref m0) (C := R_Lu) (T := T_Lu) (N := 4) hx hb hts i_Lu hown hK hP 0 rfl rfl 3 (by decide) (hts _ w_170) (fun _ h9 => h9) rfl d_Lu_wall_69 ?_
            refine va_getN (D := D) (ci := 2) (v := .ref mr) (C := R_Mp) (T := T_Mp) (N := 10) hx hb hts i_Mp hown hK hP 1 rfl rfl 0 (by decide) (nf_128 hN) (fun _ h9 => h9) rfl d_Lu_wall_72 ?_
            refine lv_iload_n hx hb d_Lu_wall_75 rfl (lv_at hl 0 rfl) ?_
            refine lv_bipush (v := 10) hx hb d_Lu_wall_76 (by decide) ?_
            refine lv_iadd hx hb d_Lu_wall_78 ?_
            refine pz_i0 (pz_rV (d := 0) (As := [.int ((mb_ + (14 * k)) + 10)]) (rest := []) X hN (c_Rw_get l D cB cI cS mr mb fm nm ((mb_ + (14 * k)) + 10) hnm _) k_Rw_get w_370 ⟨by decide, by decide⟩ hK hP hD [2, 3] rfl rfl 2 rfl rfl rfl rfl hl.1 rfl (Nat.le_of_ble_eq_true rfl) d_Lu_wall_79 ⟨Nat.zero_le _, Nat.zero_le _⟩) hP hD hS hA [2, 3] rfl (fun H locs hP hS => ?_)
            refine lv_iconst (v := 4) hx hb d_Lu_wall_82 (by decide) ?_
            refine lv_ishr hx hb d_Lu_wall_83 ?_
            exact fin _ _ _ _ _ _ d_Lu_wall_84 hP hS (by simp only [wlA, if_neg c_1, if_neg c_2, if_neg c_3, if_pos c_4, if_pos c_5]) (rfl)
          · by_cases c_6 : what = 11
            · refine lv_lookup (x := what) (off := 44) (tgt := 85) hx hb d_Lu_wall_41 (by decide) (by rw [c_6]; rfl) (by decide) ?_
              refine lv_aload_n hx hb d_Lu_wall_85 rfl (lv_at hl 1 rfl) ?_
              refine va_get (D := D) (ci := 0) (v := .ref m0) (C := R_Lu) (T := T_Lu) (N := 4) hx hb hts i_Lu hown hK hP 0 rfl rfl 3 (by decide) (hts _ w_170) (fun _ h9 => h9) rfl d_Lu_wall_86 ?_
              refine va_getN (D := D) (ci := 2) (v := .ref mr) (C := R_Mp) (T := T_Mp) (N := 10) hx hb hts i_Mp hown hK hP 1 rfl rfl 0 (by decide) (nf_128 hN) (fun _ h9 => h9) rfl d_Lu_wall_89 ?_
              refine lv_iload_n hx hb d_Lu_wall_92 rfl (lv_at hl 0 rfl) ?_
              refine lv_bipush (v := 10) hx hb d_Lu_wall_93 (by decide) ?_
              refine lv_iadd hx hb d_Lu_wall_95 ?_
              refine pz_i0 (pz_rV (d := 0) (As := [.int ((mb_ + (14 * k)) + 10)]) (rest := []) X hN (c_Rw_get l D cB cI cS mr mb fm nm ((mb_ + (14 * k)) + 10) hnm _) k_Rw_get w_370 ⟨by decide, by decide⟩ hK hP hD [2, 3] rfl rfl 2 rfl rfl rfl rfl hl.1 rfl (Nat.le_of_ble_eq_true rfl) d_Lu_wall_96 ⟨Nat.zero_le _, Nat.zero_le _⟩) hP hD hS hA [2, 3] rfl (fun H locs hP hS => ?_)
              refine lv_bipush (v := 15) hx hb d_Lu_wall_99 (by decide) ?_
              refine lv_iand hx hb d_Lu_wall_101 ?_
              exact fin _ _ _ _ _ _ d_Lu_wall_102 hP hS (by simp only [wlA, if_neg c_1, if_neg c_2, if_neg c_3, if_pos c_4, if_neg c_5, if_pos c_6]) (rfl)
            · refine lv_lookup (x := what) (off := 62) (tgt := 103) hx hb d_Lu_wall_41 (by decide) (by rw [lv_osw c_5 (by decide)]; rw [lv_osw c_6 (by decide)]; rfl) (by decide) ?_
              refine lv_aload_n hx hb d_Lu_wall_103 rfl (lv_at hl 1 rfl) ?_
              refine va_get (D := D) (ci := 0) (v := .ref m0) (C := R_Lu) (T := T_Lu) (N := 4) hx hb hts i_Lu hown hK hP 0 rfl rfl 3 (by decide) (hts _ w_170) (fun _ h9 => h9) rfl d_Lu_wall_104 ?_
              refine va_getN (D := D) (ci := 2) (v := .ref mr) (C := R_Mp) (T := T_Mp) (N := 10) hx hb hts i_Mp hown hK hP 1 rfl rfl 0 (by decide) (nf_128 hN) (fun _ h9 => h9) rfl d_Lu_wall_107 ?_
              refine lv_iload_n hx hb d_Lu_wall_110 rfl (lv_at hl 3 rfl) ?_
              refine lv_bipush (v := 10) hx hb d_Lu_wall_111 (by decide) ?_
              refine lv_icmp_ge (tgt := 122) hx hb d_Lu_wall_113 (by decide) (fun c_7 => ?_) (fun c_7 => ?_)
              · refine lv_iload_n hx hb d_Lu_wall_122 rfl (lv_at hl 0 rfl) ?_
                refine lv_iload_n hx hb d_Lu_wall_123 rfl (lv_at hl 3 rfl) ?_
                refine lv_iadd hx hb d_Lu_wall_124 ?_
                refine lv_iconst (v := 1) hx hb d_Lu_wall_125 (by decide) ?_
                refine lv_isub hx hb d_Lu_wall_126 ?_
                refine pz_i0 (pz_rV (d := 0) (As := [.int (((mb_ + (14 * k)) + what) - 1)]) (rest := []) X hN (c_Rw_get l D cB cI cS mr mb fm nm (((mb_ + (14 * k)) + what) - 1) hnm _) k_Rw_get w_370 ⟨by decide, by decide⟩ hK hP hD [2, 3] rfl rfl 2 rfl rfl rfl rfl hl.1 rfl (Nat.le_of_ble_eq_true rfl) d_Lu_wall_127 ⟨Nat.zero_le _, Nat.zero_le _⟩) hP hD hS hA [2, 3] rfl (fun H locs hP hS => ?_)
                exact fin _ _ _ _ _ _ d_Lu_wall_130 hP hS (by simp only [wlA, if_neg c_1, if_neg c_2, if_neg c_3, if_pos c_4, if_neg c_5, if_neg c_6, if_pos c_7]) (rfl)
              · refine lv_iload_n hx hb d_Lu_wall_116 rfl (lv_at hl 0 rfl) ?_
                refine lv_iload_n hx hb d_Lu_wall_117 rfl (lv_at hl 3 rfl) ?_
                refine lv_iadd hx hb d_Lu_wall_118 ?_
                refine lv_goto (tgt := 127) hx hb d_Lu_wall_119 (by decide) ?_
                refine pz_i0 (pz_rV (d := 0) (As := [.int ((mb_ + (14 * k)) + what)]) (rest := []) X hN (c_Rw_get l D cB cI cS mr mb fm nm ((mb_ + (14 * k)) + what) hnm _) k_Rw_get w_370 ⟨by decide, by decide⟩ hK hP hD [2, 3] rfl rfl 2 rfl rfl rfl rfl hl.1 rfl (Nat.le_of_ble_eq_true rfl) d_Lu_wall_127 ⟨Nat.zero_le _, Nat.zero_le _⟩) hP hD hS hA [2, 3] rfl (fun H locs hP hS => ?_)
                exact fin _ _ _ _ _ _ d_Lu_wall_130 hP hS (by simp only [wlA, if_neg c_1, if_neg c_2, if_neg c_3, if_pos c_4, if_neg c_5, if_neg c_6, if_neg c_7]) (rfl)
        · refine lv_iconst (v := (-1)) hx hb d_Lu_wall_25 (by decide) ?_
          exact fin _ _ _ _ _ _ d_Lu_wall_26 hP hS (by simp only [wlA, if_neg c_1, if_neg c_2, if_neg c_3, if_neg c_4]) (rfl)

set_option maxRecDepth 100000 in
set_option maxHeartbeats 4000000 in
/-- start -/
theorem c_Lu_start (l : Launch) (D : va_G) (cB cI cS : ClassId) (u0 r0 rw ow m0 : Nat) (mr mb mt : Nat) (pr mv mx ms mw ma mb_ mc_ : Int32) (fm : Nat → Int32) (nm : Nat) (what : Int32) (hnm : nm ≤ 8192) : mI l y_Lu_start b_Lu_start 2 (some .int) 2 D cls [(cB, .byte), (cI, .int), (cS, .object "MapLumps$Span")] [.ref u0, .int what] ([(u0, .inr (0, [.ref r0, .ref rw, .ref ow, .ref m0])), (m0, .inr (2, [.ref mr, .ref mt, .int pr, .int mv, .int mx, .int ms, .int mw, .int ma, .int mb_, .int mc_])), (mr, .inr (3, [.ref mb, .int (nI nm)])), (mb, .inl (cB, 8192, .inl fm))]) (stA fm nm pr mc_ what) ([(u0, .inr (0, [.ref r0, .ref rw, .ref ow, .ref m0])), (m0, .inr (2, [.ref mr, .ref mt, .int pr, .int mv, .int mx, .int ms, .int mw, .int ma, .int mb_, .int mc_])), (mr, .inr (3, [.ref mb, .int (nI nm)])), (mb, .inl (cB, 8192, .inl fm))]) := by
  refine pz_openI (by decide) (Nat.le_of_ble_eq_true rfl) ?_
  intro p e s m below meth c A ls Q X hN hK hP hD hS hA hl fin
  obtain ⟨hx, hb, hml, hown, hts⟩ := id X
  have hl : lv_has ls 2 [(0, .ref u0), (1, .int what)] := hl
  refine lv_aload_n hx hb d_Lu_start_0 rfl (lv_at hl 0 rfl) ?_
  refine va_get (D := D) (ci := 0) (v := .ref m0) (C := R_Lu) (T := T_Lu) (N := 4) hx hb hts i_Lu hown hK hP 0 rfl rfl 3 (by decide) (hts _ w_170) (fun _ h9 => h9) rfl d_Lu_start_1 ?_
  refine va_getN (D := D) (ci := 2) (v := .int pr) (C := R_Mp) (T := T_Mp) (N := 10) hx hb hts i_Mp hown hK hP 1 rfl rfl 2 (by decide) (nf_131 hN) (fun _ h9 => h9) rfl d_Lu_start_4 ?_
  refine lv_if_eq (tgt := 19) hx hb d_Lu_start_7 (by decide) (fun c_1 => ?_) (fun c_1 => ?_)
  · refine lv_ldc (v := 100000) hx hb hown (hts _ (w_375)) d_Lu_start_19 ?_
    exact fin _ _ _ _ _ _ d_Lu_start_21 hP hS (by simp only [stA, if_pos c_1]) (rfl)
  · refine lv_iload_n hx hb d_Lu_start_10 rfl (lv_at hl 1 rfl) ?_
    refine lv_if_lt (tgt := 19) hx hb d_Lu_start_11 (by decide) (fun c_2 => ?_) (fun c_2 => ?_)
    · refine lv_ldc (v := 100000) hx hb hown (hts _ (w_375)) d_Lu_start_19 ?_
      exact fin _ _ _ _ _ _ d_Lu_start_21 hP hS (by simp only [stA, if_neg c_1, if_pos c_2]) (rfl)
    · refine lv_iload_n hx hb d_Lu_start_14 rfl (lv_at hl 1 rfl) ?_
      refine lv_iconst (v := 3) hx hb d_Lu_start_15 (by decide) ?_
      refine lv_icmp_le (tgt := 22) hx hb d_Lu_start_16 (by decide) (fun c_3 => ?_) (fun c_3 => ?_)
      · refine lv_iload_n hx hb d_Lu_start_22 rfl (lv_at hl 1 rfl) ?_
        refine lv_iconst (v := 2) hx hb d_Lu_start_23 (by decide) ?_
        refine lv_icmp_ge (tgt := 51) hx hb d_Lu_start_24 (by decide) (fun c_4 => ?_) (fun c_4 => ?_)
        · refine lv_aload_n hx hb d_Lu_start_51 rfl (lv_at hl 0 rfl) ?_
          refine va_get (D := D) (ci := 0) (v := .ref m0) (C := R_Lu) (T := T_Lu) (N := 4) hx hb hts i_Lu hown hK hP 0 rfl rfl 3 (by decide) (hts _ w_170) (fun _ h9 => h9) rfl d_Lu_start_52 ?_
          refine va_getN (D := D) (ci := 2) (v := .ref mr) (C := R_Mp) (T := T_Mp) (N := 10) hx hb hts i_Mp hown hK hP 1 rfl rfl 0 (by decide) (nf_128 hN) (fun _ h9 => h9) rfl d_Lu_start_55 ?_
          refine lv_aload_n hx hb d_Lu_start_58 rfl (lv_at hl 0 rfl) ?_
          refine va_get (D := D) (ci := 0) (v := .ref m0) (C := R_Lu) (T := T_Lu) (N := 4) hx hb hts i_Lu hown hK hP 0 rfl rfl 3 (by decide) (hts _ w_170) (fun _ h9 => h9) rfl d_Lu_start_59 ?_
          refine va_getN (D := D) (ci := 2) (v := .int mc_) (C := R_Mp) (T := T_Mp) (N := 10) hx hb hts i_Mp hown hK hP 1 rfl rfl 9 (by decide) (nf_145 hN) (fun _ h9 => h9) rfl d_Lu_start_62 ?_
          refine lv_iconst (v := 2) hx hb d_Lu_start_65 (by decide) ?_
          refine lv_iadd hx hb d_Lu_start_66 ?_
          refine lv_iload_n hx hb d_Lu_start_67 rfl (lv_at hl 1 rfl) ?_
          refine lv_iadd hx hb d_Lu_start_68 ?_
          refine pz_i0 (pz_rV (d := 0) (As := [.int ((mc_ + 2) + what)]) (rest := []) X hN (c_Rw_get l D cB cI cS mr mb fm nm ((mc_ + 2) + what) hnm _) k_Rw_get w_370 ⟨by decide, by decide⟩ hK hP hD [2, 3] rfl rfl 2 rfl rfl rfl rfl hl.1 rfl (Nat.le_of_ble_eq_true rfl) d_Lu_start_69 ⟨Nat.zero_le _, Nat.zero_le _⟩) hP hD hS hA [2, 3] rfl (fun H locs hP hS => ?_)
          exact fin _ _ _ _ _ _ d_Lu_start_72 hP hS (by simp only [stA, if_neg c_1, if_neg c_2, if_pos c_3, if_pos c_4]) (rfl)
        · refine lv_aload_n hx hb d_Lu_start_27 rfl (lv_at hl 0 rfl) ?_
          refine va_get (D := D) (ci := 0) (v := .ref m0) (C := R_Lu) (T := T_Lu) (N := 4) hx hb hts i_Lu hown hK hP 0 rfl rfl 3 (by decide) (hts _ w_170) (fun _ h9 => h9) rfl d_Lu_start_28 ?_
          refine va_getN (D := D) (ci := 2) (v := .ref mr) (C := R_Mp) (T := T_Mp) (N := 10) hx hb hts i_Mp hown hK hP 1 rfl rfl 0 (by decide) (nf_128 hN) (fun _ h9 => h9) rfl d_Lu_start_31 ?_
          refine lv_aload_n hx hb d_Lu_start_34 rfl (lv_at hl 0 rfl) ?_
          refine va_get (D := D) (ci := 0) (v := .ref m0) (C := R_Lu) (T := T_Lu) (N := 4) hx hb hts i_Lu hown hK hP 0 rfl rfl 3 (by decide) (hts _ w_170) (fun _ h9 => h9) rfl d_Lu_start_35 ?_
          refine va_getN (D := D) (ci := 2) (v := .int mc_) (C := R_Mp) (T := T_Mp) (N := 10) hx hb hts i_Mp hown hK hP 1 rfl rfl 9 (by decide) (nf_145 hN) (fun _ h9 => h9) rfl d_Lu_start_38 ?_
          refine lv_iconst (v := 2) hx hb d_Lu_start_41 (by decide) ?_
          refine lv_iload_n hx hb d_Lu_start_42 rfl (lv_at hl 1 rfl) ?_
          refine lv_imul hx hb d_Lu_start_43 ?_
          refine lv_iadd hx hb d_Lu_start_44 ?_
          refine pz_i0 (pz_rV (d := 1) (As := [.int (mc_ + (2 * what))]) (rest := []) X hN (c_Rw_signed l D cB cI cS mr mb fm nm (mc_ + (2 * what)) hnm _) k_Rw_signed w_376 ⟨by decide, by decide⟩ hK hP hD [2, 3] rfl rfl 2 rfl rfl rfl rfl hl.1 rfl (Nat.le_of_ble_eq_true rfl) d_Lu_start_45 ⟨Nat.zero_le _, Nat.zero_le _⟩) hP hD hS hA [2, 3] rfl (fun H locs hP hS => ?_)
          refine lv_goto (tgt := 72) hx hb d_Lu_start_48 (by decide) ?_
          exact fin _ _ _ _ _ _ d_Lu_start_72 hP hS (by simp only [stA, if_neg c_1, if_neg c_2, if_pos c_3, if_neg c_4]) (rfl)
      · refine lv_ldc (v := 100000) hx hb hown (hts _ (w_375)) d_Lu_start_19 ?_
        exact fin _ _ _ _ _ _ d_Lu_start_21 hP hS (by simp only [stA, if_neg c_1, if_neg c_2, if_neg c_3]) (rfl)

set_option maxRecDepth 100000 in
set_option maxHeartbeats 4000000 in
/-- texture -/
theorem c_Lu_texture (l : Launch) (D : va_G) (cB cI cS : ClassId) (u0 r0 rw ow m0 : Nat) (mr mb mt : Nat) (pr mv mx ms mw ma mb_ mc_ : Int32) (fm : Nat → Int32) (nm : Nat) (g : Nat → Int32) (k what : Int32) (hnm : nm ≤ 8192) : mI l y_Lu_texture b_Lu_texture 3 (some .int) 3 D cls [(cB, .byte), (cI, .int), (cS, .object "MapLumps$Span")] [.ref u0, .int k, .int what] ([(u0, .inr (0, [.ref r0, .ref rw, .ref ow, .ref m0])), (m0, .inr (2, [.ref mr, .ref mt, .int pr, .int mv, .int mx, .int ms, .int mw, .int ma, .int mb_, .int mc_])), (mr, .inr (3, [.ref mb, .int (nI nm)])), (mb, .inl (cB, 8192, .inl fm)), (mt, .inl (cI, 16, .inl g))]) (txA fm nm g mx k what) ([(u0, .inr (0, [.ref r0, .ref rw, .ref ow, .ref m0])), (m0, .inr (2, [.ref mr, .ref mt, .int pr, .int mv, .int mx, .int ms, .int mw, .int ma, .int mb_, .int mc_])), (mr, .inr (3, [.ref mb, .int (nI nm)])), (mb, .inl (cB, 8192, .inl fm)), (mt, .inl (cI, 16, .inl g))]) := by
  refine pz_openI (by decide) (Nat.le_of_ble_eq_true rfl) ?_
  intro p e s m below meth c A ls Q X hN hK hP hD hS hA hl fin
  obtain ⟨hx, hb, hml, hown, hts⟩ := id X
  have hl : lv_has ls 3 [(0, .ref u0), (1, .int k), (2, .int what)] := hl
  refine lv_iload_n hx hb d_Lu_texture_0 rfl (lv_at hl 1 rfl) ?_
  refine lv_if_lt (tgt := 15) hx hb d_Lu_texture_1 (by decide) (fun c_1 => ?_) (fun c_1 => ?_)
  · refine lv_iconst (v := (-1)) hx hb d_Lu_texture_15 (by decide) ?_
    exact fin _ _ _ _ _ _ d_Lu_texture_16 hP hS (by simp only [txA, if_pos c_1]) (rfl)
  · refine lv_iload_n hx hb d_Lu_texture_4 rfl (lv_at hl 1 rfl) ?_
    refine lv_aload_n hx hb d_Lu_texture_5 rfl (lv_at hl 0 rfl) ?_
    refine va_get (D := D) (ci := 0) (v := .ref m0) (C := R_Lu) (T := T_Lu) (N := 4) hx hb hts i_Lu hown hK hP 0 rfl rfl 3 (by decide) (hts _ w_170) (fun _ h9 => h9) rfl d_Lu_texture_6 ?_
    refine va_getN (D := D) (ci := 2) (v := .int mx) (C := R_Mp) (T := T_Mp) (N := 10) hx hb hts i_Mp hown hK hP 1 rfl rfl 4 (by decide) (nf_135 hN) (fun _ h9 => h9) rfl d_Lu_texture_9 ?_
    refine lv_icmp_lt (tgt := 17) hx hb d_Lu_texture_12 (by decide) (fun c_2 => ?_) (fun c_2 => ?_)
    · refine lv_iload_n hx hb d_Lu_texture_17 rfl (lv_at hl 2 rfl) ?_
      by_cases c_3 : what = 0
      · refine lv_lookup (x := what) (off := 26) (tgt := 44) hx hb d_Lu_texture_18 (by decide) (by rw [c_3]; rfl) (by decide) ?_
        refine lv_aload_n hx hb d_Lu_texture_44 rfl (lv_at hl 0 rfl) ?_
        refine va_get (D := D) (ci := 0) (v := .ref m0) (C := R_Lu) (T := T_Lu) (N := 4) hx hb hts i_Lu hown hK hP 0 rfl rfl 3 (by decide) (hts _ w_170) (fun _ h9 => h9) rfl d_Lu_texture_45 ?_
        refine lv_iload_n hx hb d_Lu_texture_48 rfl (lv_at hl 1 rfl) ?_
        refine pz_i0 (pz_rV (d := 1) (As := [.int k]) (rest := []) X hN (c_Mp_width l D cB cI cS m0 mr mb mt pr mv mx ms mw ma mb_ mc_ fm nm g k hnm _) k_Mp_width w_386 ⟨by decide, by decide⟩ hK hP hD [1, 2, 3, 4] rfl rfl 1 rfl rfl rfl rfl hl.1 rfl (Nat.le_of_ble_eq_true rfl) d_Lu_texture_49 ⟨Nat.zero_le _, Nat.zero_le _⟩) hP hD hS hA [1, 2, 3, 4] rfl (fun H locs hP hS => ?_)
        exact fin _ _ _ _ _ _ d_Lu_texture_52 hP hS (by simp only [txA, if_neg c_1, if_pos c_2, if_pos c_3]) (rfl)
      · by_cases c_4 : what = 1
        · refine lv_lookup (x := what) (off := 35) (tgt := 53) hx hb d_Lu_texture_18 (by decide) (by rw [c_4]; rfl) (by decide) ?_
          refine lv_aload_n hx hb d_Lu_texture_53 rfl (lv_at hl 0 rfl) ?_
          refine va_get (D := D) (ci := 0) (v := .ref m0) (C := R_Lu) (T := T_Lu) (N := 4) hx hb hts i_Lu hown hK hP 0 rfl rfl 3 (by decide) (hts _ w_170) (fun _ h9 => h9) rfl d_Lu_texture_54 ?_
          refine lv_iload_n hx hb d_Lu_texture_57 rfl (lv_at hl 1 rfl) ?_
          refine pz_i0 (pz_rV (d := 1) (As := [.int k]) (rest := []) X hN (c_Mp_height l D cB cI cS m0 mr mb mt pr mv mx ms mw ma mb_ mc_ fm nm g k hnm _) k_Mp_height w_387 ⟨by decide, by decide⟩ hK hP hD [1, 2, 3, 4] rfl rfl 1 rfl rfl rfl rfl hl.1 rfl (Nat.le_of_ble_eq_true rfl) d_Lu_texture_58 ⟨Nat.zero_le _, Nat.zero_le _⟩) hP hD hS hA [1, 2, 3, 4] rfl (fun H locs hP hS => ?_)
          exact fin _ _ _ _ _ _ d_Lu_texture_61 hP hS (by simp only [txA, if_neg c_1, if_pos c_2, if_neg c_3, if_pos c_4]) (rfl)
        · refine lv_lookup (x := what) (off := 44) (tgt := 62) hx hb d_Lu_texture_18 (by decide) (by rw [lv_osw c_3 (by decide)]; rw [lv_osw c_4 (by decide)]; rfl) (by decide) ?_
          refine lv_iload_n hx hb d_Lu_texture_62 rfl (lv_at hl 2 rfl) ?_
          refine lv_if_ge (tgt := 70) hx hb d_Lu_texture_63 (by decide) (fun c_5 => ?_) (fun c_5 => ?_)
          · refine lv_aload_n hx hb d_Lu_texture_70 rfl (lv_at hl 0 rfl) ?_
            refine va_get (D := D) (ci := 0) (v := .ref m0) (C := R_Lu) (T := T_Lu) (N := 4) hx hb hts i_Lu hown hK hP 0 rfl rfl 3 (by decide) (hts _ w_170) (fun _ h9 => h9) rfl d_Lu_texture_71 ?_
            refine lv_iload_n hx hb d_Lu_texture_74 rfl (lv_at hl 1 rfl) ?_
            refine lv_iload_n hx hb d_Lu_texture_75 rfl (lv_at hl 2 rfl) ?_
            refine lv_iconst (v := 2) hx hb d_Lu_texture_76 (by decide) ?_
            refine lv_isub hx hb d_Lu_texture_77 ?_
            refine lv_iconst (v := 4) hx hb d_Lu_texture_78 (by decide) ?_
            refine lv_ishr hx hb d_Lu_texture_79 ?_
            refine lv_iload_n hx hb d_Lu_texture_80 rfl (lv_at hl 2 rfl) ?_
            refine lv_iconst (v := 2) hx hb d_Lu_texture_81 (by decide) ?_
            refine lv_isub hx hb d_Lu_texture_82 ?_
            refine lv_bipush (v := 15) hx hb d_Lu_texture_83 (by decide) ?_
            refine lv_iand hx hb d_Lu_texture_85 ?_
            refine pz_i0 (pz_rV (d := 2) (As := [.int k, .int ((what - 2) >>> (4 &&& 31)), .int ((what - 2) &&& 15)]) (rest := []) X hN (c_Mp_texel l D cB cI cS m0 mr mb mt pr mv mx ms mw ma mb_ mc_ fm nm g k ((what - 2) >>> (4 &&& 31)) ((what - 2) &&& 15) hnm _) k_Mp_texel w_388 ⟨by decide, by decide⟩ hK hP hD [1, 2, 3, 4] rfl rfl 1 rfl rfl rfl rfl hl.1 rfl (Nat.le_of_ble_eq_true rfl) d_Lu_texture_86 ⟨Nat.zero_le _, Nat.zero_le _⟩) hP hD hS hA [1, 2, 3, 4] rfl (fun H locs hP hS => ?_)
            exact fin _ _ _ _ _ _ d_Lu_texture_89 hP hS (by simp only [txA, if_neg c_1, if_pos c_2, if_neg c_3, if_neg c_4, if_pos c_5]) (rfl)
          · refine lv_iconst (v := (-1)) hx hb d_Lu_texture_66 (by decide) ?_
            refine lv_goto (tgt := 89) hx hb d_Lu_texture_67 (by decide) ?_
            exact fin _ _ _ _ _ _ d_Lu_texture_89 hP hS (by simp only [txA, if_neg c_1, if_pos c_2, if_neg c_3, if_neg c_4, if_neg c_5]) (rfl)
    · refine lv_iconst (v := (-1)) hx hb d_Lu_texture_15 (by decide) ?_
      exact fin _ _ _ _ _ _ d_Lu_texture_16 hP hS (by simp only [txA, if_neg c_1, if_neg c_2]) (rfl)

set_option maxRecDepth 100000 in
set_option maxHeartbeats 4000000 in
/-- look -/
theorem c_Lu_look (l : Launch) (D : va_G) (cB cI cS : ClassId) (u0 r0 rw ow m0 : Nat) (rb ob rx ry rs mt : Nat) (f fo : Nat → Int32) (n no : Nat) (nv nt ns nw wa fw : Int32) (q : S3) (mr mb : Nat) (pr mv mx ms mw ma mb_ mc_ : Int32) (fm : Nat → Int32) (nm : Nat) (g : Nat → Int32) (which : Int32)  : mI l y_Lu_look b_Lu_look 2 (some .int) 1 D cls [(cB, .byte), (cI, .int), (cS, .object "MapLumps$Span")] [.ref u0, .int which] ([(u0, .inr (0, [.ref r0, .ref rw, .ref ow, .ref m0])), (r0, .inr (1, [.ref rw, .ref rx, .ref ry, .ref rs, .int nv, .int nt, .int ns, .int nw, .int wa, .int q.1, .int q.2.1, .int q.2.2, .int fw])), (rw, .inr (3, [.ref rb, .int (nI n)])), (rb, .inl (cB, 8192, .inl f)), (ow, .inr (3, [.ref ob, .int (nI no)])), (ob, .inl (cB, 8192, .inl fo)), (m0, .inr (2, [.ref mr, .ref mt, .int pr, .int mv, .int mx, .int ms, .int mw, .int ma, .int mb_, .int mc_])), (mr, .inr (3, [.ref mb, .int (nI nm)])), (mb, .inl (cB, 8192, .inl fm)), (mt, .inl (cI, 16, .inl g))]) (lkA n no pr mv mx ms mw q.2.1 q.2.2 fw which) ([(u0, .inr (0, [.ref r0, .ref rw, .ref ow, .ref m0])), (r0, .inr (1, [.ref rw, .ref rx, .ref ry, .ref rs, .int nv, .int nt, .int ns, .int nw, .int wa, .int q.1, .int q.2.1, .int q.2.2, .int fw])), (rw, .inr (3, [.ref rb, .int (nI n)])), (rb, .inl (cB, 8192, .inl f)), (ow, .inr (3, [.ref ob, .int (nI no)])), (ob, .inl (cB, 8192, .inl fo)), (m0, .inr (2, [.ref mr, .ref mt, .int pr, .int mv, .int mx, .int ms, .int mw, .int ma, .int mb_, .int mc_])), (mr, .inr (3, [.ref mb, .int (nI nm)])), (mb, .inl (cB, 8192, .inl fm)), (mt, .inl (cI, 16, .inl g))]) := by
  refine pz_openI (by decide) (Nat.le_of_ble_eq_true rfl) ?_
  intro p e s m below meth c A ls Q X hN hK hP hD hS hA hl fin
  obtain ⟨hx, hb, hml, hown, hts⟩ := id X
  have hl : lv_has ls 2 [(0, .ref u0), (1, .int which)] := hl
  refine lv_iload_n hx hb d_Lu_look_0 rfl (lv_at hl 1 rfl) ?_
  by_cases c_1 : which = 0
  · refine lv_tableIn (x := which) (off := 51) (tgt := 52) hx hb d_Lu_look_1 (by rw [c_1]; decide) (by rw [c_1]; decide) (by rw [c_1]; rfl) (by decide) ?_
    refine lv_aload_n hx hb d_Lu_look_52 rfl (lv_at hl 0 rfl) ?_
    refine va_get (D := D) (ci := 0) (v := .ref rw) (C := R_Lu) (T := T_Lu) (N := 4) hx hb hts i_Lu hown hK hP 0 rfl rfl 1 (by decide) (hts _ w_168) (fun _ h9 => h9) rfl d_Lu_look_53 ?_
    refine va_getN (D := D) (ci := 3) (v := .int (nI n)) (C := R_Rw) (T := T_Rw) (N := 2) hx hb hts i_Rw hown hK hP 2 rfl rfl 1 (by decide) (nf_32 hN) (fun _ h9 => h9) rfl d_Lu_look_56 ?_
    exact fin _ _ _ _ _ _ d_Lu_look_59 hP hS (by simp only [lkA, if_pos c_1]) (rfl)
  · by_cases c_2 : which = 1
    · refine lv_tableIn (x := which) (off := 59) (tgt := 60) hx hb d_Lu_look_1 (by rw [c_2]; decide) (by rw [c_2]; decide) (by rw [c_2]; rfl) (by decide) ?_
      refine lv_aload_n hx hb d_Lu_look_60 rfl (lv_at hl 0 rfl) ?_
      refine va_get (D := D) (ci := 0) (v := .ref ow) (C := R_Lu) (T := T_Lu) (N := 4) hx hb hts i_Lu hown hK hP 0 rfl rfl 2 (by decide) (hts _ w_169) (fun _ h9 => h9) rfl d_Lu_look_61 ?_
      refine va_getN (D := D) (ci := 3) (v := .int (nI no)) (C := R_Rw) (T := T_Rw) (N := 2) hx hb hts i_Rw hown hK hP 4 rfl rfl 1 (by decide) (nf_32 hN) (fun _ h9 => h9) rfl d_Lu_look_64 ?_
      exact fin _ _ _ _ _ _ d_Lu_look_67 hP hS (by simp only [lkA, if_neg c_1, if_pos c_2]) (rfl)
    · by_cases c_3 : which = 2
      · refine lv_tableIn (x := which) (off := 67) (tgt := 68) hx hb d_Lu_look_1 (by rw [c_3]; decide) (by rw [c_3]; decide) (by rw [c_3]; rfl) (by decide) ?_
        refine lv_aload_n hx hb d_Lu_look_68 rfl (lv_at hl 0 rfl) ?_
        refine va_get (D := D) (ci := 0) (v := .ref m0) (C := R_Lu) (T := T_Lu) (N := 4) hx hb hts i_Lu hown hK hP 0 rfl rfl 3 (by decide) (hts _ w_170) (fun _ h9 => h9) rfl d_Lu_look_69 ?_
        refine lv_aload_n hx hb d_Lu_look_72 rfl (lv_at hl 0 rfl) ?_
        refine va_get (D := D) (ci := 0) (v := .ref m0) (C := R_Lu) (T := T_Lu) (N := 4) hx hb hts i_Lu hown hK hP 0 rfl rfl 3 (by decide) (hts _ w_170) (fun _ h9 => h9) rfl d_Lu_look_73 ?_
        refine va_getN (D := D) (ci := 2) (v := .int mv) (C := R_Mp) (T := T_Mp) (N := 10) hx hb hts i_Mp hown hK hP 6 rfl rfl 3 (by decide) (nf_133 hN) (fun _ h9 => h9) rfl d_Lu_look_76 ?_
        refine pz_i0 (pz_rV (d := 0) (As := [.int mv]) (rest := []) X hN (c_Mp_counted l D cB cI cS m0 mr mb mt pr mv mx ms mw ma mb_ mc_ fm nm g mv _) k_Mp_counted w_408 ⟨by decide, by decide⟩ hK hP hD [6, 7, 8, 9] rfl rfl 6 rfl rfl rfl rfl hl.1 rfl (Nat.le_of_ble_eq_true rfl) d_Lu_look_79 ⟨Nat.zero_le _, Nat.zero_le _⟩) hP hD hS hA [6, 7, 8, 9] rfl (fun H locs hP hS => ?_)
        exact fin _ _ _ _ _ _ d_Lu_look_82 hP hS (by simp only [lkA, if_neg c_1, if_neg c_2, if_pos c_3]) (rfl)
      · by_cases c_4 : which = 3
        · refine lv_tableIn (x := which) (off := 82) (tgt := 83) hx hb d_Lu_look_1 (by rw [c_4]; decide) (by rw [c_4]; decide) (by rw [c_4]; rfl) (by decide) ?_
          refine lv_aload_n hx hb d_Lu_look_83 rfl (lv_at hl 0 rfl) ?_
          refine va_get (D := D) (ci := 0) (v := .ref m0) (C := R_Lu) (T := T_Lu) (N := 4) hx hb hts i_Lu hown hK hP 0 rfl rfl 3 (by decide) (hts _ w_170) (fun _ h9 => h9) rfl d_Lu_look_84 ?_
          refine lv_aload_n hx hb d_Lu_look_87 rfl (lv_at hl 0 rfl) ?_
          refine va_get (D := D) (ci := 0) (v := .ref m0) (C := R_Lu) (T := T_Lu) (N := 4) hx hb hts i_Lu hown hK hP 0 rfl rfl 3 (by decide) (hts _ w_170) (fun _ h9 => h9) rfl d_Lu_look_88 ?_
          refine va_getN (D := D) (ci := 2) (v := .int mx) (C := R_Mp) (T := T_Mp) (N := 10) hx hb hts i_Mp hown hK hP 6 rfl rfl 4 (by decide) (nf_135 hN) (fun _ h9 => h9) rfl d_Lu_look_91 ?_
          refine pz_i0 (pz_rV (d := 0) (As := [.int mx]) (rest := []) X hN (c_Mp_counted l D cB cI cS m0 mr mb mt pr mv mx ms mw ma mb_ mc_ fm nm g mx _) k_Mp_counted w_408 ⟨by decide, by decide⟩ hK hP hD [6, 7, 8, 9] rfl rfl 6 rfl rfl rfl rfl hl.1 rfl (Nat.le_of_ble_eq_true rfl) d_Lu_look_94 ⟨Nat.zero_le _, Nat.zero_le _⟩) hP hD hS hA [6, 7, 8, 9] rfl (fun H locs hP hS => ?_)
          exact fin _ _ _ _ _ _ d_Lu_look_97 hP hS (by simp only [lkA, if_neg c_1, if_neg c_2, if_neg c_3, if_pos c_4]) (rfl)
        · by_cases c_5 : which = 4
          · refine lv_tableIn (x := which) (off := 97) (tgt := 98) hx hb d_Lu_look_1 (by rw [c_5]; decide) (by rw [c_5]; decide) (by rw [c_5]; rfl) (by decide) ?_
            refine lv_aload_n hx hb d_Lu_look_98 rfl (lv_at hl 0 rfl) ?_
            refine va_get (D := D) (ci := 0) (v := .ref m0) (C := R_Lu) (T := T_Lu) (N := 4) hx hb hts i_Lu hown hK hP 0 rfl rfl 3 (by decide) (hts _ w_170) (fun _ h9 => h9) rfl d_Lu_look_99 ?_
            refine lv_aload_n hx hb d_Lu_look_102 rfl (lv_at hl 0 rfl) ?_
            refine va_get (D := D) (ci := 0) (v := .ref m0) (C := R_Lu) (T := T_Lu) (N := 4) hx hb hts i_Lu hown hK hP 0 rfl rfl 3 (by decide) (hts _ w_170) (fun _ h9 => h9) rfl d_Lu_look_103 ?_
            refine va_getN (D := D) (ci := 2) (v := .int ms) (C := R_Mp) (T := T_Mp) (N := 10) hx hb hts i_Mp hown hK hP 6 rfl rfl 5 (by decide) (nf_137 hN) (fun _ h9 => h9) rfl d_Lu_look_106 ?_
            refine pz_i0 (pz_rV (d := 0) (As := [.int ms]) (rest := []) X hN (c_Mp_counted l D cB cI cS m0 mr mb mt pr mv mx ms mw ma mb_ mc_ fm nm g ms _) k_Mp_counted w_408 ⟨by decide, by decide⟩ hK hP hD [6, 7, 8, 9] rfl rfl 6 rfl rfl rfl rfl hl.1 rfl (Nat.le_of_ble_eq_true rfl) d_Lu_look_109 ⟨Nat.zero_le _, Nat.zero_le _⟩) hP hD hS hA [6, 7, 8, 9] rfl (fun H locs hP hS => ?_)
            exact fin _ _ _ _ _ _ d_Lu_look_112 hP hS (by simp only [lkA, if_neg c_1, if_neg c_2, if_neg c_3, if_neg c_4, if_pos c_5]) (rfl)
          · by_cases c_6 : which = 5
            · refine lv_tableIn (x := which) (off := 112) (tgt := 113) hx hb d_Lu_look_1 (by rw [c_6]; decide) (by rw [c_6]; decide) (by rw [c_6]; rfl) (by decide) ?_
              refine lv_aload_n hx hb d_Lu_look_113 rfl (lv_at hl 0 rfl) ?_
              refine va_get (D := D) (ci := 0) (v := .ref m0) (C := R_Lu) (T := T_Lu) (N := 4) hx hb hts i_Lu hown hK hP 0 rfl rfl 3 (by decide) (hts _ w_170) (fun _ h9 => h9) rfl d_Lu_look_114 ?_
              refine lv_aload_n hx hb d_Lu_look_117 rfl (lv_at hl 0 rfl) ?_
              refine va_get (D := D) (ci := 0) (v := .ref m0) (C := R_Lu) (T := T_Lu) (N := 4) hx hb hts i_Lu hown hK hP 0 rfl rfl 3 (by decide) (hts _ w_170) (fun _ h9 => h9) rfl d_Lu_look_118 ?_
              refine va_getN (D := D) (ci := 2) (v := .int mw) (C := R_Mp) (T := T_Mp) (N := 10) hx hb hts i_Mp hown hK hP 6 rfl rfl 6 (by decide) (nf_139 hN) (fun _ h9 => h9) rfl d_Lu_look_121 ?_
              refine pz_i0 (pz_rV (d := 0) (As := [.int mw]) (rest := []) X hN (c_Mp_counted l D cB cI cS m0 mr mb mt pr mv mx ms mw ma mb_ mc_ fm nm g mw _) k_Mp_counted w_408 ⟨by decide, by decide⟩ hK hP hD [6, 7, 8, 9] rfl rfl 6 rfl rfl rfl rfl hl.1 rfl (Nat.le_of_ble_eq_true rfl) d_Lu_look_124 ⟨Nat.zero_le _, Nat.zero_le _⟩) hP hD hS hA [6, 7, 8, 9] rfl (fun H locs hP hS => ?_)
              exact fin _ _ _ _ _ _ d_Lu_look_127 hP hS (by simp only [lkA, if_neg c_1, if_neg c_2, if_neg c_3, if_neg c_4, if_neg c_5, if_pos c_6]) (rfl)
            · by_cases c_7 : which = 6
              · refine lv_tableIn (x := which) (off := 127) (tgt := 128) hx hb d_Lu_look_1 (by rw [c_7]; decide) (by rw [c_7]; decide) (by rw [c_7]; rfl) (by decide) ?_
                refine lv_aload_n hx hb d_Lu_look_128 rfl (lv_at hl 0 rfl) ?_
                refine va_get (D := D) (ci := 0) (v := .ref r0) (C := R_Lu) (T := T_Lu) (N := 4) hx hb hts i_Lu hown hK hP 0 rfl rfl 0 (by decide) (hts _ w_167) (fun _ h9 => h9) rfl d_Lu_look_129 ?_
                refine va_getN (D := D) (ci := 1) (v := .int q.2.1) (C := R_Rd) (T := T_Rd) (N := 13) hx hb hts i_Rd hown hK hP 1 rfl rfl 10 (by decide) (nf_85 hN) (fun _ h9 => h9) rfl d_Lu_look_132 ?_
                exact fin _ _ _ _ _ _ d_Lu_look_135 hP hS (by simp only [lkA, if_neg c_1, if_neg c_2, if_neg c_3, if_neg c_4, if_neg c_5, if_neg c_6, if_pos c_7]) (rfl)
              · by_cases c_8 : which = 7
                · refine lv_tableIn (x := which) (off := 135) (tgt := 136) hx hb d_Lu_look_1 (by rw [c_8]; decide) (by rw [c_8]; decide) (by rw [c_8]; rfl) (by decide) ?_
                  refine lv_aload_n hx hb d_Lu_look_136 rfl (lv_at hl 0 rfl) ?_
                  refine va_get (D := D) (ci := 0) (v := .ref r0) (C := R_Lu) (T := T_Lu) (N := 4) hx hb hts i_Lu hown hK hP 0 rfl rfl 0 (by decide) (hts _ w_167) (fun _ h9 => h9) rfl d_Lu_look_137 ?_
                  refine va_getN (D := D) (ci := 1) (v := .int q.2.2) (C := R_Rd) (T := T_Rd) (N := 13) hx hb hts i_Rd hown hK hP 1 rfl rfl 11 (by decide) (nf_87 hN) (fun _ h9 => h9) rfl d_Lu_look_140 ?_
                  exact fin _ _ _ _ _ _ d_Lu_look_143 hP hS (by simp only [lkA, if_neg c_1, if_neg c_2, if_neg c_3, if_neg c_4, if_neg c_5, if_neg c_6, if_neg c_7, if_pos c_8]) (rfl)
                · by_cases c_9 : which = 8
                  · refine lv_tableIn (x := which) (off := 143) (tgt := 144) hx hb d_Lu_look_1 (by rw [c_9]; decide) (by rw [c_9]; decide) (by rw [c_9]; rfl) (by decide) ?_
                    refine lv_aload_n hx hb d_Lu_look_144 rfl (lv_at hl 0 rfl) ?_
                    refine va_get (D := D) (ci := 0) (v := .ref r0) (C := R_Lu) (T := T_Lu) (N := 4) hx hb hts i_Lu hown hK hP 0 rfl rfl 0 (by decide) (hts _ w_167) (fun _ h9 => h9) rfl d_Lu_look_145 ?_
                    refine va_getN (D := D) (ci := 1) (v := .int fw) (C := R_Rd) (T := T_Rd) (N := 13) hx hb hts i_Rd hown hK hP 1 rfl rfl 12 (by decide) (nf_89 hN) (fun _ h9 => h9) rfl d_Lu_look_148 ?_
                    exact fin _ _ _ _ _ _ d_Lu_look_151 hP hS (by simp only [lkA, if_neg c_1, if_neg c_2, if_neg c_3, if_neg c_4, if_neg c_5, if_neg c_6, if_neg c_7, if_neg c_8, if_pos c_9]) (rfl)
                  · refine lv_tableOut (x := which) (tgt := 152) hx hb d_Lu_look_1 (by have h0 := lv_neT c_1 (a := 0) (by decide); have h1 := lv_neT c_2 (a := 1) (by decide); have h2 := lv_neT c_3 (a := 2) (by decide); have h3 := lv_neT c_4 (a := 3) (by decide); have h4 := lv_neT c_5 (a := 4) (by decide); have h5 := lv_neT c_6 (a := 5) (by decide); have h6 := lv_neT c_7 (a := 6) (by decide); have h7 := lv_neT c_8 (a := 7) (by decide); have h8 := lv_neT c_9 (a := 8) (by decide); omega) (by decide) ?_
                    refine lv_iconst (v := (-1)) hx hb d_Lu_look_152 (by decide) ?_
                    exact fin _ _ _ _ _ _ d_Lu_look_153 hP hS (by simp only [lkA, if_neg c_1, if_neg c_2, if_neg c_3, if_neg c_4, if_neg c_5, if_neg c_6, if_neg c_7, if_neg c_8, if_neg c_9]) (rfl)
