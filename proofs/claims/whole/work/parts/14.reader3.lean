set_option maxRecDepth 100000 in
set_option maxHeartbeats 4000000 in
/-- Reader.passVertices -/
theorem c_Rd_passVertices (l : Launch) (D : va_G) (cB cI cS : ClassId) (r0 rw rx ry rs rb : Nat) (nv nt ns nw wa fw : Int32) (q : S3) (f : Nat → Int32) (n : Nat) (xs ys : Nat → Int32) (hn : n ≤ 8192) : mV l y_Rd_passVertices b_Rd_passVertices 3 (none) 3 D cls [(cB, .byte), (cI, .int), (cS, .object "MapLumps$Span")] [.ref r0] ([(r0, .inr (1, [.ref rw, .ref rx, .ref ry, .ref rs, .int nv, .int nt, .int ns, .int nw, .int wa, .int q.1, .int q.2.1, .int q.2.2, .int fw])), (rw, .inr (3, [.ref rb, .int (nI n)])), (rb, .inl (cB, 8192, .inl f)), (rx, .inl (cI, 128, .inl xs)), (ry, .inl (cI, 128, .inl ys))]) ([(r0, .inr (1, [.ref rw, .ref rx, .ref ry, .ref rs, .int nv, .int nt, .int ns, .int nw, .int wa, .int ((vlp f n nv 128 0 (q, xs, ys)).1.1), .int ((vlp f n nv 128 0 (q, xs, ys)).1.2.1), .int ((vlp f n nv 128 0 (q, xs, ys)).1.2.2), .int fw])), (rw, .inr (3, [.ref rb, .int (nI n)])), (rb, .inl (cB, 8192, .inl f)), (rx, .inl (cI, 128, .inl ((vlp f n nv 128 0 (q, xs, ys)).2.1))), (ry, .inl (cI, 128, .inl ((vlp f n nv 128 0 (q, xs, ys)).2.2)))]) := by
  refine pz_openV (by decide) (Nat.le_of_ble_eq_true rfl) ?_
  intro p e s m below meth c A ls Q X hN hK hP hD hS hA hl fin
  obtain ⟨hx, hb, hml, hown, hts⟩ := id X
  have hl : lv_has ls 3 [(0, .ref r0)] := hl
  refine lv_iconst (v := 0) hx hb d_Rd_passVertices_0 (by decide) ?_
  refine lv_istore_n (lv' := [(1, .int 0), (0, .ref r0)]) hx hb d_Rd_passVertices_1 rfl hl (by decide) rfl (fun ls hl => ?_)
  have lp_3 : ∀ (j3 : Nat) (k : Nat) (z : SV) (ls : Array Slot) (H : Heap) (locs : List Loc), j3 + k = 128 → vlp f n nv 128 0 (q, xs, ys) = vlp f n nv j3 k z → va_P D cls ([(r0, .inr (1, [.ref rw, .ref rx, .ref ry, .ref rs, .int nv, .int nt, .int ns, .int nw, .int wa, .int z.1.1, .int z.1.2.1, .int z.1.2.2, .int fw])), (rw, .inr (3, [.ref rb, .int (nI n)])), (rb, .inl (cB, 8192, .inl f)), (rx, .inl (cI, 128, .inl z.2.1)), (ry, .inl (cI, 128, .inl z.2.2))]) H → va_D A ([(r0, .inr (1, [.ref rw, .ref rx, .ref ry, .ref rs, .int nv, .int nt, .int ns, .int nw, .int wa, .int z.1.1, .int z.1.2.1, .int z.1.2.2, .int fw])), (rw, .inr (3, [.ref rb, .int (nI n)])), (rb, .inl (cB, 8192, .inl f)), (rx, .inl (cI, 128, .inl z.2.1)), (ry, .inl (cI, 128, .inl z.2.2))]) → va_S A s.heap H locs → lv_has ls 3 [(0, .ref r0), (1, .int (nI k))] → W p l e (rmd 3) s m ([.ref r0] : List Value).toArray below meth c H locs 0 0 Q (F0 m 2 ls []) := by
    intro j3
    induction j3 with
    | zero =>
      intro k z ls H locs hi he hP hD hS hl
      refine lv_iload_n hx hb d_Rd_passVertices_2 rfl (lv_at hl 1 rfl) ?_
      refine lv_aload_n hx hb d_Rd_passVertices_3 rfl (lv_at hl 0 rfl) ?_
      refine va_get (D := D) (ci := 1) (v := .int nv) (C := R_Rd) (T := T_Rd) (N := 13) hx hb hts i_Rd hown hK hP 0 rfl rfl 4 (by decide) (hts _ w_78) (fun _ h9 => h9) rfl d_Rd_passVertices_4 ?_
      refine lv_icmp_ge (tgt := 83) hx hb d_Rd_passVertices_7 (by decide) (fun c_1 => ?_) (fun c_1 => ?_)
      · exact fin _ _ _ _ _ d_Rd_passVertices_83 hP hS (by rw [he]; simp only [vlp, if_pos c_1])
      · refine lv_iload_n hx hb d_Rd_passVertices_10 rfl (lv_at hl 1 rfl) ?_
        refine lv_aload_n hx hb d_Rd_passVertices_11 rfl (lv_at hl 0 rfl) ?_
        refine va_get (D := D) (ci := 1) (v := .ref rx) (C := R_Rd) (T := T_Rd) (N := 13) hx hb hts i_Rd hown hK hP 0 rfl rfl 1 (by decide) (hts _ w_75) (fun _ h9 => h9) rfl d_Rd_passVertices_12 ?_
        refine va_alen hx hb hK hP 3 1 rfl rfl (v := 128) rfl d_Rd_passVertices_15 ?_
        refine lv_icmp_ge (tgt := 83) hx hb d_Rd_passVertices_16 (by decide) (fun c_2 => ?_) (fun c_2 => ?_)
        · exact fin _ _ _ _ _ d_Rd_passVertices_83 hP hS (by rw [he]; simp only [vlp, if_neg c_1, if_pos c_2])
        · exact (c_2 (show nI 128 ≤ nI k by rw [nI_leI (by omega) (by omega)]; omega)).elim
    | succ j3 ih3 =>
      intro k z ls H locs hi he hP hD hS hl
      refine lv_iload_n hx hb d_Rd_passVertices_2 rfl (lv_at hl 1 rfl) ?_
      refine lv_aload_n hx hb d_Rd_passVertices_3 rfl (lv_at hl 0 rfl) ?_
      refine va_get (D := D) (ci := 1) (v := .int nv) (C := R_Rd) (T := T_Rd) (N := 13) hx hb hts i_Rd hown hK hP 0 rfl rfl 4 (by decide) (hts _ w_78) (fun _ h9 => h9) rfl d_Rd_passVertices_4 ?_
      refine lv_icmp_ge (tgt := 83) hx hb d_Rd_passVertices_7 (by decide) (fun c_3 => ?_) (fun c_3 => ?_)
      · exact fin _ _ _ _ _ d_Rd_passVertices_83 hP hS (by rw [he]; simp only [vlp, if_pos c_3])
      · refine lv_iload_n hx hb d_Rd_passVertices_10 rfl (lv_at hl 1 rfl) ?_
        refine lv_aload_n hx hb d_Rd_passVertices_11 rfl (lv_at hl 0 rfl) ?_
        refine va_get (D := D) (ci := 1) (v := .ref rx) (C := R_Rd) (T := T_Rd) (N := 13) hx hb hts i_Rd hown hK hP 0 rfl rfl 1 (by decide) (hts _ w_75) (fun _ h9 => h9) rfl d_Rd_passVertices_12 ?_
        refine va_alen hx hb hK hP 3 1 rfl rfl (v := 128) rfl d_Rd_passVertices_15 ?_
        refine lv_icmp_ge (tgt := 83) hx hb d_Rd_passVertices_16 (by decide) (fun c_4 => ?_) (fun c_4 => ?_)
        · exact absurd c_4 (show ¬ nI 128 ≤ nI k by rw [nI_leI (by omega) (by omega)]; omega)
        · refine lv_aload_n hx hb d_Rd_passVertices_19 rfl (lv_at hl 0 rfl) ?_
          refine va_get (D := D) (ci := 1) (v := .int z.1.2.1) (C := R_Rd) (T := T_Rd) (N := 13) hx hb hts i_Rd hown hK hP 0 rfl rfl 10 (by decide) (hts _ w_84) (fun _ h9 => h9) rfl d_Rd_passVertices_20 ?_
          refine lv_if_ne (tgt := 83) hx hb d_Rd_passVertices_23 (by decide) (fun c_5 => ?_) (fun c_5 => ?_)
          · exact fin _ _ _ _ _ d_Rd_passVertices_83 hP hS (by rw [he]; simp only [vlp, if_neg c_3, if_neg c_4, if_neg c_5])
          · refine lv_aload_n hx hb d_Rd_passVertices_26 rfl (lv_at hl 0 rfl) ?_
            refine va_get (D := D) (ci := 1) (v := .ref rx) (C := R_Rd) (T := T_Rd) (N := 13) hx hb hts i_Rd hown hK hP 0 rfl rfl 1 (by decide) (hts _ w_75) (fun _ h9 => h9) rfl d_Rd_passVertices_27 ?_
            refine lv_iload_n hx hb d_Rd_passVertices_30 rfl (lv_at hl 1 rfl) ?_
            refine lv_aload_n hx hb d_Rd_passVertices_31 rfl (lv_at hl 0 rfl) ?_
            refine lv_sipush (v := (-32768)) hx hb d_Rd_passVertices_32 (by decide) ?_
            refine lv_sipush (v := 32767) hx hb d_Rd_passVertices_35 (by decide) ?_
            refine pz_i (pz_rV (d := 2) (As := [.int (-32768), .int 32767]) (rest := [.int (nI k), .ref rx]) X hN (c_Rd_wide l D cB cI cS r0 rw rx ry rs rb nv nt ns nw wa fw z.1 f n (-32768) 32767 hn _) k_Rd_wide w_248 ⟨by decide, by decide⟩ hK hP hD [0, 1, 2] rfl rfl 0 rfl rfl rfl rfl hl.1 rfl (Nat.le_of_ble_eq_true rfl) d_Rd_passVertices_38 ⟨Nat.zero_le _, Nat.zero_le _⟩) hP hD hS hA [0, 1, 2] rfl [r0, rw, rb] rfl rfl (fun H locs hP hD hS => ?_)
            generalize eg_6 : wd f n z.1 (-32768) 32767 = g_6 at hP hD ⊢
            have hP : va_P D cls ([(r0, .inr (1, [.ref rw, .ref rx, .ref ry, .ref rs, .int nv, .int nt, .int ns, .int nw, .int wa, .int g_6.2.1, .int g_6.2.2.1, .int g_6.2.2.2, .int fw])), (rw, .inr (3, [.ref rb, .int (nI n)])), (rb, .inl (cB, 8192, .inl f)), (rx, .inl (cI, 128, .inl z.2.1)), (ry, .inl (cI, 128, .inl z.2.2))]) H := hP
            have hD : va_D A ([(r0, .inr (1, [.ref rw, .ref rx, .ref ry, .ref rs, .int nv, .int nt, .int ns, .int nw, .int wa, .int g_6.2.1, .int g_6.2.2.1, .int g_6.2.2.2, .int fw])), (rw, .inr (3, [.ref rb, .int (nI n)])), (rb, .inl (cB, 8192, .inl f)), (rx, .inl (cI, 128, .inl z.2.1)), (ry, .inl (cI, 128, .inl z.2.2))]) := hD
            refine va_iast hx hb hK hP hD hS 3 1 rfl rfl (in_n (by omega) (by decide)) d_Rd_passVertices_41 (fun H locs hP hD hS => ?_)
            rw [nI_clamp (show k < 2 ^ 31 by omega)] at hP hD
            have hP : va_P D cls ([(r0, .inr (1, [.ref rw, .ref rx, .ref ry, .ref rs, .int nv, .int nt, .int ns, .int nw, .int wa, .int g_6.2.1, .int g_6.2.2.1, .int g_6.2.2.2, .int fw])), (rw, .inr (3, [.ref rb, .int (nI n)])), (rb, .inl (cB, 8192, .inl f)), (rx, .inl (cI, 128, .inl (upd z.2.1 k g_6.1))), (ry, .inl (cI, 128, .inl z.2.2))]) H := hP
            have hD : va_D A ([(r0, .inr (1, [.ref rw, .ref rx, .ref ry, .ref rs, .int nv, .int nt, .int ns, .int nw, .int wa, .int g_6.2.1, .int g_6.2.2.1, .int g_6.2.2.2, .int fw])), (rw, .inr (3, [.ref rb, .int (nI n)])), (rb, .inl (cB, 8192, .inl f)), (rx, .inl (cI, 128, .inl (upd z.2.1 k g_6.1))), (ry, .inl (cI, 128, .inl z.2.2))]) := hD
            refine lv_aload_n hx hb d_Rd_passVertices_42 rfl (lv_at hl 0 rfl) ?_
            refine va_get (D := D) (ci := 1) (v := .int g_6.2.1) (C := R_Rd) (T := T_Rd) (N := 13) hx hb hts i_Rd hown hK hP 0 rfl rfl 9 (by decide) (hts _ w_83) (fun _ h9 => h9) rfl d_Rd_passVertices_43 ?_
            refine lv_istore_n (lv' := [(2, .int g_6.2.1), (0, .ref r0), (1, .int (nI k))]) hx hb d_Rd_passVertices_46 rfl hl (by decide) rfl (fun ls hl => ?_)
            refine lv_aload_n hx hb d_Rd_passVertices_47 rfl (lv_at hl 1 rfl) ?_
            refine va_get (D := D) (ci := 1) (v := .ref ry) (C := R_Rd) (T := T_Rd) (N := 13) hx hb hts i_Rd hown hK hP 0 rfl rfl 2 (by decide) (hts _ w_76) (fun _ h9 => h9) rfl d_Rd_passVertices_48 ?_
            refine lv_iload_n hx hb d_Rd_passVertices_51 rfl (lv_at hl 2 rfl) ?_
            refine lv_aload_n hx hb d_Rd_passVertices_52 rfl (lv_at hl 1 rfl) ?_
            refine lv_sipush (v := (-32768)) hx hb d_Rd_passVertices_53 (by decide) ?_
            refine lv_sipush (v := 32767) hx hb d_Rd_passVertices_56 (by decide) ?_
            refine pz_i (pz_rV (d := 2) (As := [.int (-32768), .int 32767]) (rest := [.int (nI k), .ref ry]) X hN (c_Rd_wide l D cB cI cS r0 rw rx ry rs rb nv nt ns nw wa fw g_6.2 f n (-32768) 32767 hn _) k_Rd_wide w_248 ⟨by decide, by decide⟩ hK hP hD [0, 1, 2] rfl rfl 0 rfl rfl rfl rfl hl.1 rfl (Nat.le_of_ble_eq_true rfl) d_Rd_passVertices_59 ⟨Nat.zero_le _, Nat.zero_le _⟩) hP hD hS hA [0, 1, 2] rfl [r0, rw, rb] rfl rfl (fun H locs hP hD hS => ?_)
            generalize eg_7 : wd f n g_6.2 (-32768) 32767 = g_7 at hP hD ⊢
            have hP : va_P D cls ([(r0, .inr (1, [.ref rw, .ref rx, .ref ry, .ref rs, .int nv, .int nt, .int ns, .int nw, .int wa, .int g_7.2.1, .int g_7.2.2.1, .int g_7.2.2.2, .int fw])), (rw, .inr (3, [.ref rb, .int (nI n)])), (rb, .inl (cB, 8192, .inl f)), (rx, .inl (cI, 128, .inl (upd z.2.1 k g_6.1))), (ry, .inl (cI, 128, .inl z.2.2))]) H := hP
            have hD : va_D A ([(r0, .inr (1, [.ref rw, .ref rx, .ref ry, .ref rs, .int nv, .int nt, .int ns, .int nw, .int wa, .int g_7.2.1, .int g_7.2.2.1, .int g_7.2.2.2, .int fw])), (rw, .inr (3, [.ref rb, .int (nI n)])), (rb, .inl (cB, 8192, .inl f)), (rx, .inl (cI, 128, .inl (upd z.2.1 k g_6.1))), (ry, .inl (cI, 128, .inl z.2.2))]) := hD
            refine va_iast hx hb hK hP hD hS 4 1 rfl rfl (in_n (by omega) (by decide)) d_Rd_passVertices_62 (fun H locs hP hD hS => ?_)
            rw [nI_clamp (show k < 2 ^ 31 by omega)] at hP hD
            have hP : va_P D cls ([(r0, .inr (1, [.ref rw, .ref rx, .ref ry, .ref rs, .int nv, .int nt, .int ns, .int nw, .int wa, .int g_7.2.1, .int g_7.2.2.1, .int g_7.2.2.2, .int fw])), (rw, .inr (3, [.ref rb, .int (nI n)])), (rb, .inl (cB, 8192, .inl f)), (rx, .inl (cI, 128, .inl (upd z.2.1 k g_6.1))), (ry, .inl (cI, 128, .inl (upd z.2.2 k g_7.1)))]) H := hP
            have hD : va_D A ([(r0, .inr (1, [.ref rw, .ref rx, .ref ry, .ref rs, .int nv, .int nt, .int ns, .int nw, .int wa, .int g_7.2.1, .int g_7.2.2.1, .int g_7.2.2.2, .int fw])), (rw, .inr (3, [.ref rb, .int (nI n)])), (rb, .inl (cB, 8192, .inl f)), (rx, .inl (cI, 128, .inl (upd z.2.1 k g_6.1))), (ry, .inl (cI, 128, .inl (upd z.2.2 k g_7.1)))]) := hD
            refine lv_aload_n hx hb d_Rd_passVertices_63 rfl (lv_at hl 1 rfl) ?_
            refine lv_iload_n hx hb d_Rd_passVertices_64 rfl (lv_at hl 2 rfl) ?_
            refine pz_i0 (pz_rV (d := 0) (As := [.int (nI k)]) (rest := []) X hN (c_Rd_isTaken l D cB cI cS r0 rw rx ry rs nv nt ns nw wa fw g_7.2 (upd z.2.1 k g_6.1) (upd z.2.2 k g_7.1) k (by omega) _) k_Rd_isTaken w_253 ⟨by decide, by decide⟩ hK hP hD [0, 3, 4] rfl rfl 0 rfl rfl rfl rfl hl.1 rfl (Nat.le_of_ble_eq_true rfl) d_Rd_passVertices_65 ⟨Nat.zero_le _, Nat.zero_le _⟩) hP hD hS hA [0, 3, 4] rfl (fun H locs hP hS => ?_)
            refine lv_if_eq (tgt := 77) hx hb d_Rd_passVertices_68 (by decide) (fun c_8 => ?_) (fun c_8 => ?_)
            · refine lv_iinc (v := nI (k + 1)) (lv' := [(1, .int (nI (k + 1))), (2, .int g_6.2.1), (0, .ref r0)]) hx hb d_Rd_passVertices_77 hl (k := 2) rfl (nI_1 k) (by decide) rfl (fun ls hl => ?_)
              refine lv_goto (tgt := 2) hx hb d_Rd_passVertices_80 (by decide) ?_
              exact ih3 (k + 1) (g_7.2, upd z.2.1 k g_6.1, upd z.2.2 k g_7.1) _ _ _ (by omega) (by rw [he, vlp]; simp only [vst, vs1, vs2, eg_6, eg_7, if_neg c_3, if_neg c_4, if_pos c_5, if_pos c_8]) hP hD hS (lv_sub hl [2, 0] rfl)
            · refine lv_aload_n hx hb d_Rd_passVertices_71 rfl (lv_at hl 1 rfl) ?_
              refine lv_iconst (v := 3) hx hb d_Rd_passVertices_72 (by decide) ?_
              refine lv_iload_n hx hb d_Rd_passVertices_73 rfl (lv_at hl 0 rfl) ?_
              refine pz_v (pz_rV (d := 0) (As := [.int 3, .int g_6.2.1]) (rest := []) X hN (c_Rd_fail l D cB cI cS r0 rw rx ry rs nv nt ns nw wa fw g_7.2 3 g_6.2.1 _) k_Rd_fail w_232 ⟨by decide, by decide⟩ hK hP hD [0] rfl rfl 0 rfl rfl rfl rfl hl.1 rfl (Nat.le_of_ble_eq_true rfl) d_Rd_passVertices_74 ⟨Nat.zero_le _, Nat.zero_le _⟩) hP hD hS hA [0] rfl [r0] rfl rfl (fun H locs hP hD hS => ?_)
              have hP : va_P D cls ([(r0, .inr (1, [.ref rw, .ref rx, .ref ry, .ref rs, .int nv, .int nt, .int ns, .int nw, .int wa, .int ((fl g_7.2 3 g_6.2.1).1), .int ((fl g_7.2 3 g_6.2.1).2.1), .int ((fl g_7.2 3 g_6.2.1).2.2), .int fw])), (rw, .inr (3, [.ref rb, .int (nI n)])), (rb, .inl (cB, 8192, .inl f)), (rx, .inl (cI, 128, .inl (upd z.2.1 k g_6.1))), (ry, .inl (cI, 128, .inl (upd z.2.2 k g_7.1)))]) H := hP
              have hD : va_D A ([(r0, .inr (1, [.ref rw, .ref rx, .ref ry, .ref rs, .int nv, .int nt, .int ns, .int nw, .int wa, .int ((fl g_7.2 3 g_6.2.1).1), .int ((fl g_7.2 3 g_6.2.1).2.1), .int ((fl g_7.2 3 g_6.2.1).2.2), .int fw])), (rw, .inr (3, [.ref rb, .int (nI n)])), (rb, .inl (cB, 8192, .inl f)), (rx, .inl (cI, 128, .inl (upd z.2.1 k g_6.1))), (ry, .inl (cI, 128, .inl (upd z.2.2 k g_7.1)))]) := hD
              refine lv_iinc (v := nI (k + 1)) (lv' := [(1, .int (nI (k + 1))), (2, .int g_6.2.1), (0, .ref r0)]) hx hb d_Rd_passVertices_77 hl (k := 2) rfl (nI_1 k) (by decide) rfl (fun ls hl => ?_)
              refine lv_goto (tgt := 2) hx hb d_Rd_passVertices_80 (by decide) ?_
              exact ih3 (k + 1) ((fl g_7.2 3 g_6.2.1), upd z.2.1 k g_6.1, upd z.2.2 k g_7.1) _ _ _ (by omega) (by rw [he, vlp]; simp only [vst, vs1, vs2, eg_6, eg_7, if_neg c_3, if_neg c_4, if_pos c_5, if_neg c_8]) hP hD hS (lv_sub hl [2, 0] rfl)
  exact lp_3 128 0 (q, xs, ys) _ _ _ (by omega) (rfl) hP hD hS (lv_sub hl [1, 0] rfl)

set_option maxRecDepth 100000 in
set_option maxHeartbeats 4000000 in
/-- Reader.passSectors -/
theorem c_Rd_passSectors (l : Launch) (D : va_G) (cB cI cS : ClassId) (r0 rw rx ry rs rb : Nat) (nv nt nw wa fw : Int32) (q : S3) (f : Nat → Int32) (n : Nat) (U : Nat) (hn : n ≤ 8192) (hU : U ≤ 32) : mV l y_Rd_passSectors b_Rd_passSectors 3 (none) 3 D cls [(cB, .byte), (cI, .int), (cS, .object "MapLumps$Span")] [.ref r0] ([(r0, .inr (1, [.ref rw, .ref rx, .ref ry, .ref rs, .int nv, .int nt, .int (nI U), .int nw, .int wa, .int q.1, .int q.2.1, .int q.2.2, .int fw])), (rw, .inr (3, [.ref rb, .int (nI n)])), (rb, .inl (cB, 8192, .inl f))]) ([(r0, .inr (1, [.ref rw, .ref rx, .ref ry, .ref rs, .int nv, .int nt, .int (nI U), .int nw, .int wa, .int ((scl f n nt U q).1), .int ((scl f n nt U q).2.1), .int ((scl f n nt U q).2.2), .int fw])), (rw, .inr (3, [.ref rb, .int (nI n)])), (rb, .inl (cB, 8192, .inl f))]) := by
  refine pz_openV (by decide) (Nat.le_of_ble_eq_true rfl) ?_
  intro p e s m below meth c A ls Q X hN hK hP hD hS hA hl fin
  obtain ⟨hx, hb, hml, hown, hts⟩ := id X
  have hl : lv_has ls 3 [(0, .ref r0)] := hl
  refine lv_iconst (v := 0) hx hb d_Rd_passSectors_0 (by decide) ?_
  refine lv_istore_n (lv' := [(1, .int 0), (0, .ref r0)]) hx hb d_Rd_passSectors_1 rfl hl (by decide) rfl (fun ls hl => ?_)
  have lp_4 : ∀ (j4 : Nat) (k : Nat) (z : S3) (ls : Array Slot) (H : Heap) (locs : List Loc), j4 + k = U → scl f n nt U q = scl f n nt j4 z → va_P D cls ([(r0, .inr (1, [.ref rw, .ref rx, .ref ry, .ref rs, .int nv, .int nt, .int (nI U), .int nw, .int wa, .int z.1, .int z.2.1, .int z.2.2, .int fw])), (rw, .inr (3, [.ref rb, .int (nI n)])), (rb, .inl (cB, 8192, .inl f))]) H → va_D A ([(r0, .inr (1, [.ref rw, .ref rx, .ref ry, .ref rs, .int nv, .int nt, .int (nI U), .int nw, .int wa, .int z.1, .int z.2.1, .int z.2.2, .int fw])), (rw, .inr (3, [.ref rb, .int (nI n)])), (rb, .inl (cB, 8192, .inl f))]) → va_S A s.heap H locs → lv_has ls 3 [(0, .ref r0), (1, .int (nI k))] → W p l e (rmd 3) s m ([.ref r0] : List Value).toArray below meth c H locs 0 0 Q (F0 m 2 ls []) := by
    intro j4
    induction j4 with
    | zero =>
      intro k z ls H locs hi he hP hD hS hl
      refine lv_iload_n hx hb d_Rd_passSectors_2 rfl (lv_at hl 1 rfl) ?_
      refine lv_aload_n hx hb d_Rd_passSectors_3 rfl (lv_at hl 0 rfl) ?_
      refine va_get (D := D) (ci := 1) (v := .int (nI U)) (C := R_Rd) (T := T_Rd) (N := 13) hx hb hts i_Rd hown hK hP 0 rfl rfl 6 (by decide) (hts _ w_80) (fun _ h9 => h9) rfl d_Rd_passSectors_4 ?_
      refine lv_icmp_ge (tgt := 92) hx hb d_Rd_passSectors_7 (by decide) (fun c_1 => ?_) (fun c_1 => ?_)
      · exact fin _ _ _ _ _ d_Rd_passSectors_92 hP hS (by rw [he]; simp only [scl, if_pos c_1])
      · exact (c_1 (by rw [nI_leI (by omega) (by omega)]; omega)).elim
    | succ j4 ih4 =>
      intro k z ls H locs hi he hP hD hS hl
      refine lv_iload_n hx hb d_Rd_passSectors_2 rfl (lv_at hl 1 rfl) ?_
      refine lv_aload_n hx hb d_Rd_passSectors_3 rfl (lv_at hl 0 rfl) ?_
      refine va_get (D := D) (ci := 1) (v := .int (nI U)) (C := R_Rd) (T := T_Rd) (N := 13) hx hb hts i_Rd hown hK hP 0 rfl rfl 6 (by decide) (hts _ w_80) (fun _ h9 => h9) rfl d_Rd_passSectors_4 ?_
      refine lv_icmp_ge (tgt := 92) hx hb d_Rd_passSectors_7 (by decide) (fun c_2 => ?_) (fun c_2 => ?_)
      · exact absurd c_2 (by rw [nI_leI (by omega) (by omega)]; omega)
      · refine lv_aload_n hx hb d_Rd_passSectors_10 rfl (lv_at hl 0 rfl) ?_
        refine va_get (D := D) (ci := 1) (v := .int z.2.1) (C := R_Rd) (T := T_Rd) (N := 13) hx hb hts i_Rd hown hK hP 0 rfl rfl 10 (by decide) (hts _ w_84) (fun _ h9 => h9) rfl d_Rd_passSectors_11 ?_
        refine lv_if_ne (tgt := 92) hx hb d_Rd_passSectors_14 (by decide) (fun c_3 => ?_) (fun c_3 => ?_)
        · exact fin _ _ _ _ _ d_Rd_passSectors_92 hP hS (by rw [he]; simp only [scl, if_neg c_2, if_neg c_3])
        · refine lv_aload_n hx hb d_Rd_passSectors_17 rfl (lv_at hl 0 rfl) ?_
          refine lv_sipush (v := (-1024)) hx hb d_Rd_passSectors_18 (by decide) ?_
          refine lv_sipush (v := 1024) hx hb d_Rd_passSectors_21 (by decide) ?_
          refine pz_i (pz_rV (d := 2) (As := [.int (-1024), .int 1024]) (rest := []) X hN (c_Rd_wide l D cB cI cS r0 rw rx ry rs rb nv nt (nI U) nw wa fw z f n (-1024) 1024 hn _) k_Rd_wide w_248 ⟨by decide, by decide⟩ hK hP hD [0, 1, 2] rfl rfl 0 rfl rfl rfl rfl hl.1 rfl (Nat.le_of_ble_eq_true rfl) d_Rd_passSectors_24 ⟨Nat.zero_le _, Nat.zero_le _⟩) hP hD hS hA [0, 1, 2] rfl [r0, rw, rb] rfl rfl (fun H locs hP hD hS => ?_)
          generalize eg_4 : wd f n z (-1024) 1024 = g_4 at hP hD ⊢
          have hP : va_P D cls ([(r0, .inr (1, [.ref rw, .ref rx, .ref ry, .ref rs, .int nv, .int nt, .int (nI U), .int nw, .int wa, .int g_4.2.1, .int g_4.2.2.1, .int g_4.2.2.2, .int fw])), (rw, .inr (3, [.ref rb, .int (nI n)])), (rb, .inl (cB, 8192, .inl f))]) H := hP
          have hD : va_D A ([(r0, .inr (1, [.ref rw, .ref rx, .ref ry, .ref rs, .int nv, .int nt, .int (nI U), .int nw, .int wa, .int g_4.2.1, .int g_4.2.2.1, .int g_4.2.2.2, .int fw])), (rw, .inr (3, [.ref rb, .int (nI n)])), (rb, .inl (cB, 8192, .inl f))]) := hD
          refine lv_istore_n (lv' := [(2, .int g_4.1), (0, .ref r0), (1, .int (nI k))]) hx hb d_Rd_passSectors_27 rfl hl (by decide) rfl (fun ls hl => ?_)
          refine lv_aload_n hx hb d_Rd_passSectors_28 rfl (lv_at hl 1 rfl) ?_
          refine lv_iload_n hx hb d_Rd_passSectors_29 rfl (lv_at hl 0 rfl) ?_
          refine lv_iconst (v := 1) hx hb d_Rd_passSectors_30 (by decide) ?_
          refine lv_iadd hx hb d_Rd_passSectors_31 ?_
          refine lv_sipush (v := 1024) hx hb d_Rd_passSectors_32 (by decide) ?_
          refine pz_i (pz_rV (d := 2) (As := [.int (g_4.1 + 1), .int 1024]) (rest := []) X hN (c_Rd_wide l D cB cI cS r0 rw rx ry rs rb nv nt (nI U) nw wa fw g_4.2 f n (g_4.1 + 1) 1024 hn _) k_Rd_wide w_248 ⟨by decide, by decide⟩ hK hP hD [0, 1, 2] rfl rfl 0 rfl rfl rfl rfl hl.1 rfl (Nat.le_of_ble_eq_true rfl) d_Rd_passSectors_35 ⟨Nat.zero_le _, Nat.zero_le _⟩) hP hD hS hA [0, 1, 2] rfl [r0, rw, rb] rfl rfl (fun H locs hP hD hS => ?_)
          generalize eg_5 : wd f n g_4.2 (g_4.1 + 1) 1024 = g_5 at hP hD ⊢
          have hP : va_P D cls ([(r0, .inr (1, [.ref rw, .ref rx, .ref ry, .ref rs, .int nv, .int nt, .int (nI U), .int nw, .int wa, .int g_5.2.1, .int g_5.2.2.1, .int g_5.2.2.2, .int fw])), (rw, .inr (3, [.ref rb, .int (nI n)])), (rb, .inl (cB, 8192, .inl f))]) H := hP
          have hD : va_D A ([(r0, .inr (1, [.ref rw, .ref rx, .ref ry, .ref rs, .int nv, .int nt, .int (nI U), .int nw, .int wa, .int g_5.2.1, .int g_5.2.2.1, .int g_5.2.2.2, .int fw])), (rw, .inr (3, [.ref rb, .int (nI n)])), (rb, .inl (cB, 8192, .inl f))]) := hD
          refine lv_pop hx hb d_Rd_passSectors_38 rfl ?_
          refine lv_aload_n hx hb d_Rd_passSectors_39 rfl (lv_at hl 1 rfl) ?_
          refine lv_iconst (v := 0) hx hb d_Rd_passSectors_40 (by decide) ?_
          refine lv_aload_n hx hb d_Rd_passSectors_41 rfl (lv_at hl 1 rfl) ?_
          refine va_get (D := D) (ci := 1) (v := .int nt) (C := R_Rd) (T := T_Rd) (N := 13) hx hb hts i_Rd hown hK hP 0 rfl rfl 5 (by decide) (hts _ w_79) (fun _ h9 => h9) rfl d_Rd_passSectors_42 ?_
          refine lv_iconst (v := 1) hx hb d_Rd_passSectors_45 (by decide) ?_
          refine lv_isub hx hb d_Rd_passSectors_46 ?_
          refine pz_i (pz_rV (d := 2) (As := [.int 0, .int (nt - 1)]) (rest := []) X hN (c_Rd_small l D cB cI cS r0 rw rx ry rs rb nv nt (nI U) nw wa fw g_5.2 f n 0 (nt - 1) hn _) k_Rd_small w_236 ⟨by decide, by decide⟩ hK hP hD [0, 1, 2] rfl rfl 0 rfl rfl rfl rfl hl.1 rfl (Nat.le_of_ble_eq_true rfl) d_Rd_passSectors_47 ⟨Nat.zero_le _, Nat.zero_le _⟩) hP hD hS hA [0, 1, 2] rfl [r0, rw, rb] rfl rfl (fun H locs hP hD hS => ?_)
          generalize eg_6 : sm f n g_5.2 0 (nt - 1) = g_6 at hP hD ⊢
          have hP : va_P D cls ([(r0, .inr (1, [.ref rw, .ref rx, .ref ry, .ref rs, .int nv, .int nt, .int (nI U), .int nw, .int wa, .int g_6.2.1, .int g_6.2.2.1, .int g_6.2.2.2, .int fw])), (rw, .inr (3, [.ref rb, .int (nI n)])), (rb, .inl (cB, 8192, .inl f))]) H := hP
          have hD : va_D A ([(r0, .inr (1, [.ref rw, .ref rx, .ref ry, .ref rs, .int nv, .int nt, .int (nI U), .int nw, .int wa, .int g_6.2.1, .int g_6.2.2.1, .int g_6.2.2.2, .int fw])), (rw, .inr (3, [.ref rb, .int (nI n)])), (rb, .inl (cB, 8192, .inl f))]) := hD
          refine lv_pop hx hb d_Rd_passSectors_50 rfl ?_
          refine lv_aload_n hx hb d_Rd_passSectors_51 rfl (lv_at hl 1 rfl) ?_
          refine lv_aload_n hx hb d_Rd_passSectors_52 rfl (lv_at hl 1 rfl) ?_
          refine va_get (D := D) (ci := 1) (v := .int nt) (C := R_Rd) (T := T_Rd) (N := 13) hx hb hts i_Rd hown hK hP 0 rfl rfl 5 (by decide) (hts _ w_79) (fun _ h9 => h9) rfl d_Rd_passSectors_53 ?_
          refine lv_iconst (v := 1) hx hb d_Rd_passSectors_56 (by decide) ?_
          refine lv_isub hx hb d_Rd_passSectors_57 ?_
          refine pz_i (pz_rV (d := 2) (As := [.int (nt - 1)]) (rest := []) X hN (c_Rd_smallOrAbsent l D cB cI cS r0 rw rx ry rs rb nv nt (nI U) nw wa fw g_6.2 f n (nt - 1) hn _) k_Rd_smallOrAbsent w_265 ⟨by decide, by decide⟩ hK hP hD [0, 1, 2] rfl rfl 0 rfl rfl rfl rfl hl.1 rfl (Nat.le_of_ble_eq_true rfl) d_Rd_passSectors_58 ⟨Nat.zero_le _, Nat.zero_le _⟩) hP hD hS hA [0, 1, 2] rfl [r0, rw, rb] rfl rfl (fun H locs hP hD hS => ?_)
          generalize eg_7 : sa f n g_6.2 (nt - 1) = g_7 at hP hD ⊢
          have hP : va_P D cls ([(r0, .inr (1, [.ref rw, .ref rx, .ref ry, .ref rs, .int nv, .int nt, .int (nI U), .int nw, .int wa, .int g_7.2.1, .int g_7.2.2.1, .int g_7.2.2.2, .int fw])), (rw, .inr (3, [.ref rb, .int (nI n)])), (rb, .inl (cB, 8192, .inl f))]) H := hP
          have hD : va_D A ([(r0, .inr (1, [.ref rw, .ref rx, .ref ry, .ref rs, .int nv, .int nt, .int (nI U), .int nw, .int wa, .int g_7.2.1, .int g_7.2.2.1, .int g_7.2.2.2, .int fw])), (rw, .inr (3, [.ref rb, .int (nI n)])), (rb, .inl (cB, 8192, .inl f))]) := hD
          refine lv_pop hx hb d_Rd_passSectors_61 rfl ?_
          refine lv_aload_n hx hb d_Rd_passSectors_62 rfl (lv_at hl 1 rfl) ?_
          refine lv_iconst (v := 0) hx hb d_Rd_passSectors_63 (by decide) ?_
          refine lv_bipush (v := 15) hx hb d_Rd_passSectors_64 (by decide) ?_
          refine pz_i (pz_rV (d := 2) (As := [.int 0, .int 15]) (rest := []) X hN (c_Rd_small l D cB cI cS r0 rw rx ry rs rb nv nt (nI U) nw wa fw g_7.2 f n 0 15 hn _) k_Rd_small w_236 ⟨by decide, by decide⟩ hK hP hD [0, 1, 2] rfl rfl 0 rfl rfl rfl rfl hl.1 rfl (Nat.le_of_ble_eq_true rfl) d_Rd_passSectors_66 ⟨Nat.zero_le _, Nat.zero_le _⟩) hP hD hS hA [0, 1, 2] rfl [r0, rw, rb] rfl rfl (fun H locs hP hD hS => ?_)
          generalize eg_8 : sm f n g_7.2 0 15 = g_8 at hP hD ⊢
          have hP : va_P D cls ([(r0, .inr (1, [.ref rw, .ref rx, .ref ry, .ref rs, .int nv, .int nt, .int (nI U), .int nw, .int wa, .int g_8.2.1, .int g_8.2.2.1, .int g_8.2.2.2, .int fw])), (rw, .inr (3, [.ref rb, .int (nI n)])), (rb, .inl (cB, 8192, .inl f))]) H := hP
          have hD : va_D A ([(r0, .inr (1, [.ref rw, .ref rx, .ref ry, .ref rs, .int nv, .int nt, .int (nI U), .int nw, .int wa, .int g_8.2.1, .int g_8.2.2.1, .int g_8.2.2.2, .int fw])), (rw, .inr (3, [.ref rb, .int (nI n)])), (rb, .inl (cB, 8192, .inl f))]) := hD
          refine lv_pop hx hb d_Rd_passSectors_69 rfl ?_
          refine lv_aload_n hx hb d_Rd_passSectors_70 rfl (lv_at hl 1 rfl) ?_
          refine lv_iconst (v := 0) hx hb d_Rd_passSectors_71 (by decide) ?_
          refine lv_iconst (v := 3) hx hb d_Rd_passSectors_72 (by decide) ?_
          refine pz_i (pz_rV (d := 2) (As := [.int 0, .int 3]) (rest := []) X hN (c_Rd_small l D cB cI cS r0 rw rx ry rs rb nv nt (nI U) nw wa fw g_8.2 f n 0 3 hn _) k_Rd_small w_236 ⟨by decide, by decide⟩ hK hP hD [0, 1, 2] rfl rfl 0 rfl rfl rfl rfl hl.1 rfl (Nat.le_of_ble_eq_true rfl) d_Rd_passSectors_73 ⟨Nat.zero_le _, Nat.zero_le _⟩) hP hD hS hA [0, 1, 2] rfl [r0, rw, rb] rfl rfl (fun H locs hP hD hS => ?_)
          generalize eg_9 : sm f n g_8.2 0 3 = g_9 at hP hD ⊢
          have hP : va_P D cls ([(r0, .inr (1, [.ref rw, .ref rx, .ref ry, .ref rs, .int nv, .int nt, .int (nI U), .int nw, .int wa, .int g_9.2.1, .int g_9.2.2.1, .int g_9.2.2.2, .int fw])), (rw, .inr (3, [.ref rb, .int (nI n)])), (rb, .inl (cB, 8192, .inl f))]) H := hP
          have hD : va_D A ([(r0, .inr (1, [.ref rw, .ref rx, .ref ry, .ref rs, .int nv, .int nt, .int (nI U), .int nw, .int wa, .int g_9.2.1, .int g_9.2.2.1, .int g_9.2.2.2, .int fw])), (rw, .inr (3, [.ref rb, .int (nI n)])), (rb, .inl (cB, 8192, .inl f))]) := hD
          refine lv_pop hx hb d_Rd_passSectors_76 rfl ?_
          refine lv_aload_n hx hb d_Rd_passSectors_77 rfl (lv_at hl 1 rfl) ?_
          refine lv_iconst (v := 0) hx hb d_Rd_passSectors_78 (by decide) ?_
          refine lv_sipush (v := 255) hx hb d_Rd_passSectors_79 (by decide) ?_
          refine pz_i (pz_rV (d := 2) (As := [.int 0, .int 255]) (rest := []) X hN (c_Rd_small l D cB cI cS r0 rw rx ry rs rb nv nt (nI U) nw wa fw g_9.2 f n 0 255 hn _) k_Rd_small w_236 ⟨by decide, by decide⟩ hK hP hD [0, 1, 2] rfl rfl 0 rfl rfl rfl rfl hl.1 rfl (Nat.le_of_ble_eq_true rfl) d_Rd_passSectors_82 ⟨Nat.zero_le _, Nat.zero_le _⟩) hP hD hS hA [0, 1, 2] rfl [r0, rw, rb] rfl rfl (fun H locs hP hD hS => ?_)
          generalize eg_10 : sm f n g_9.2 0 255 = g_10 at hP hD ⊢
          have hP : va_P D cls ([(r0, .inr (1, [.ref rw, .ref rx, .ref ry, .ref rs, .int nv, .int nt, .int (nI U), .int nw, .int wa, .int g_10.2.1, .int g_10.2.2.1, .int g_10.2.2.2, .int fw])), (rw, .inr (3, [.ref rb, .int (nI n)])), (rb, .inl (cB, 8192, .inl f))]) H := hP
          have hD : va_D A ([(r0, .inr (1, [.ref rw, .ref rx, .ref ry, .ref rs, .int nv, .int nt, .int (nI U), .int nw, .int wa, .int g_10.2.1, .int g_10.2.2.1, .int g_10.2.2.2, .int fw])), (rw, .inr (3, [.ref rb, .int (nI n)])), (rb, .inl (cB, 8192, .inl f))]) := hD
          refine lv_pop hx hb d_Rd_passSectors_85 rfl ?_
          refine lv_iinc (v := nI (k + 1)) (lv' := [(1, .int (nI (k + 1))), (2, .int g_4.1), (0, .ref r0)]) hx hb d_Rd_passSectors_86 hl (k := 2) rfl (nI_1 k) (by decide) rfl (fun ls hl => ?_)
          refine lv_goto (tgt := 2) hx hb d_Rd_passSectors_89 (by decide) ?_
          exact ih4 (k + 1) g_10.2 _ _ _ (by omega) (by rw [he, scl]; simp only [sc7, sc6, sc5, sc4, sc3, sc2, sc1, eg_4, eg_5, eg_6, eg_7, eg_8, eg_9, eg_10, if_neg c_2, if_pos c_3]) hP hD hS (lv_sub hl [2, 0] rfl)
  exact lp_4 U 0 q _ _ _ (by omega) (rfl) hP hD hS (lv_sub hl [1, 0] rfl)

theorem txB (f : Nat → Int32) (n : Nat) (z : S3) : ∃ B : Nat, B ≤ 256 ∧ txw (tx1 f n z).1 * txw (tx2 f n z).1 = nI B := by
  obtain ⟨a, ha, ea⟩ := sm_rng f n z 4 (by omega)
  obtain ⟨b, hb, eb⟩ := sm_rng f n (tx1 f n z).2 4 (by omega)
  have e1 : (tx1 f n z).1 = nI a := ea
  have e2 : (tx2 f n z).1 = nI b := eb
  rw [e1, e2]
  exact txC a (by omega) b (by omega)

set_option maxRecDepth 100000 in
set_option maxHeartbeats 4000000 in
/-- Reader.passTextures -/
theorem c_Rd_passTextures (l : Launch) (D : va_G) (cB cI cS : ClassId) (r0 rw rx ry rs rb : Nat) (nv ns nw wa fw : Int32) (q : S3) (f : Nat → Int32) (n : Nat) (U : Nat) (hn : n ≤ 8192) (hU : U ≤ 16) : mV l y_Rd_passTextures b_Rd_passTextures 5 (none) 3 D cls [(cB, .byte), (cI, .int), (cS, .object "MapLumps$Span")] [.ref r0] ([(r0, .inr (1, [.ref rw, .ref rx, .ref ry, .ref rs, .int nv, .int (nI U), .int ns, .int nw, .int wa, .int q.1, .int q.2.1, .int q.2.2, .int fw])), (rw, .inr (3, [.ref rb, .int (nI n)])), (rb, .inl (cB, 8192, .inl f))]) ([(r0, .inr (1, [.ref rw, .ref rx, .ref ry, .ref rs, .int nv, .int (nI U), .int ns, .int nw, .int wa, .int ((txl f n U q).1), .int ((txl f n U q).2.1), .int ((txl f n U q).2.2), .int fw])), (rw, .inr (3, [.ref rb, .int (nI n)])), (rb, .inl (cB, 8192, .inl f))]) := by
  refine pz_openV (by decide) (Nat.le_of_ble_eq_true rfl) ?_
  intro p e s m below meth c A ls Q X hN hK hP hD hS hA hl fin
  obtain ⟨hx, hb, hml, hown, hts⟩ := id X
  have hl : lv_has ls 5 [(0, .ref r0)] := hl
  refine lv_iconst (v := 0) hx hb d_Rd_passTextures_0 (by decide) ?_
  refine lv_istore_n (lv' := [(1, .int 0), (0, .ref r0)]) hx hb d_Rd_passTextures_1 rfl hl (by decide) rfl (fun ls hl => ?_)
  have lp_5 : ∀ (j5 : Nat) (k : Nat) (z : S3) (ls : Array Slot) (H : Heap) (locs : List Loc), j5 + k = U → txl f n U q = txl f n j5 z → va_P D cls ([(r0, .inr (1, [.ref rw, .ref rx, .ref ry, .ref rs, .int nv, .int (nI U), .int ns, .int nw, .int wa, .int z.1, .int z.2.1, .int z.2.2, .int fw])), (rw, .inr (3, [.ref rb, .int (nI n)])), (rb, .inl (cB, 8192, .inl f))]) H → va_D A ([(r0, .inr (1, [.ref rw, .ref rx, .ref ry, .ref rs, .int nv, .int (nI U), .int ns, .int nw, .int wa, .int z.1, .int z.2.1, .int z.2.2, .int fw])), (rw, .inr (3, [.ref rb, .int (nI n)])), (rb, .inl (cB, 8192, .inl f))]) → va_S A s.heap H locs → lv_has ls 5 [(0, .ref r0), (1, .int (nI k))] → W p l e (rmd 3) s m ([.ref r0] : List Value).toArray below meth c H locs 0 0 Q (F0 m 2 ls []) := by
    intro j5
    induction j5 with
    | zero =>
      intro k z ls H locs hi he hP hD hS hl
      refine lv_iload_n hx hb d_Rd_passTextures_2 rfl (lv_at hl 1 rfl) ?_
      refine lv_aload_n hx hb d_Rd_passTextures_3 rfl (lv_at hl 0 rfl) ?_
      refine va_get (D := D) (ci := 1) (v := .int (nI U)) (C := R_Rd) (T := T_Rd) (N := 13) hx hb hts i_Rd hown hK hP 0 rfl rfl 5 (by decide) (hts _ w_79) (fun _ h9 => h9) rfl d_Rd_passTextures_4 ?_
      refine lv_icmp_ge (tgt := 73) hx hb d_Rd_passTextures_7 (by decide) (fun c_1 => ?_) (fun c_1 => ?_)
      · exact fin _ _ _ _ _ d_Rd_passTextures_73 hP hS (by rw [he]; simp only [txl, if_pos c_1])
      · exact (c_1 (by rw [nI_leI (by omega) (by omega)]; omega)).elim
    | succ j5 ih5 =>
      intro k z ls H locs hi he hP hD hS hl
      refine lv_iload_n hx hb d_Rd_passTextures_2 rfl (lv_at hl 1 rfl) ?_
      refine lv_aload_n hx hb d_Rd_passTextures_3 rfl (lv_at hl 0 rfl) ?_
      refine va_get (D := D) (ci := 1) (v := .int (nI U)) (C := R_Rd) (T := T_Rd) (N := 13) hx hb hts i_Rd hown hK hP 0 rfl rfl 5 (by decide) (hts _ w_79) (fun _ h9 => h9) rfl d_Rd_passTextures_4 ?_
      refine lv_icmp_ge (tgt := 73) hx hb d_Rd_passTextures_7 (by decide) (fun c_2 => ?_) (fun c_2 => ?_)
      · exact absurd c_2 (by rw [nI_leI (by omega) (by omega)]; omega)
      · refine lv_aload_n hx hb d_Rd_passTextures_10 rfl (lv_at hl 0 rfl) ?_
        refine va_get (D := D) (ci := 1) (v := .int z.2.1) (C := R_Rd) (T := T_Rd) (N := 13) hx hb hts i_Rd hown hK hP 0 rfl rfl 10 (by decide) (hts _ w_84) (fun _ h9 => h9) rfl d_Rd_passTextures_11 ?_
        refine lv_if_ne (tgt := 73) hx hb d_Rd_passTextures_14 (by decide) (fun c_3 => ?_) (fun c_3 => ?_)
        · exact fin _ _ _ _ _ d_Rd_passTextures_73 hP hS (by rw [he]; simp only [txl, if_neg c_2, if_neg c_3])
        · refine lv_iconst (v := 1) hx hb d_Rd_passTextures_17 (by decide) ?_
          refine lv_aload_n hx hb d_Rd_passTextures_18 rfl (lv_at hl 0 rfl) ?_
          refine lv_iconst (v := 0) hx hb d_Rd_passTextures_19 (by decide) ?_
          refine lv_iconst (v := 4) hx hb d_Rd_passTextures_20 (by decide) ?_
          refine pz_i (pz_rV (d := 2) (As := [.int 0, .int 4]) (rest := [.int 1]) X hN (c_Rd_small l D cB cI cS r0 rw rx ry rs rb nv (nI U) ns nw wa fw z f n 0 4 hn _) k_Rd_small w_236 ⟨by decide, by decide⟩ hK hP hD [0, 1, 2] rfl rfl 0 rfl rfl rfl rfl hl.1 rfl (Nat.le_of_ble_eq_true rfl) d_Rd_passTextures_21 ⟨Nat.zero_le _, Nat.zero_le _⟩) hP hD hS hA [0, 1, 2] rfl [r0, rw, rb] rfl rfl (fun H locs hP hD hS => ?_)
          generalize eg_4 : sm f n z 0 4 = g_4 at hP hD ⊢
          have hP : va_P D cls ([(r0, .inr (1, [.ref rw, .ref rx, .ref ry, .ref rs, .int nv, .int (nI U), .int ns, .int nw, .int wa, .int g_4.2.1, .int g_4.2.2.1, .int g_4.2.2.2, .int fw])), (rw, .inr (3, [.ref rb, .int (nI n)])), (rb, .inl (cB, 8192, .inl f))]) H := hP
          have hD : va_D A ([(r0, .inr (1, [.ref rw, .ref rx, .ref ry, .ref rs, .int nv, .int (nI U), .int ns, .int nw, .int wa, .int g_4.2.1, .int g_4.2.2.1, .int g_4.2.2.2, .int fw])), (rw, .inr (3, [.ref rb, .int (nI n)])), (rb, .inl (cB, 8192, .inl f))]) := hD
          refine lv_ishl hx hb d_Rd_passTextures_24 ?_
          refine lv_istore_n (lv' := [(2, .int (1 <<< (g_4.1 &&& 31))), (0, .ref r0), (1, .int (nI k))]) hx hb d_Rd_passTextures_25 rfl hl (by decide) rfl (fun ls hl => ?_)
          refine lv_iconst (v := 1) hx hb d_Rd_passTextures_26 (by decide) ?_
          refine lv_aload_n hx hb d_Rd_passTextures_27 rfl (lv_at hl 1 rfl) ?_
          refine lv_iconst (v := 0) hx hb d_Rd_passTextures_28 (by decide) ?_
          refine lv_iconst (v := 4) hx hb d_Rd_passTextures_29 (by decide) ?_
          refine pz_i (pz_rV (d := 2) (As := [.int 0, .int 4]) (rest := [.int 1]) X hN (c_Rd_small l D cB cI cS r0 rw rx ry rs rb nv (nI U) ns nw wa fw g_4.2 f n 0 4 hn _) k_Rd_small w_236 ⟨by decide, by decide⟩ hK hP hD [0, 1, 2] rfl rfl 0 rfl rfl rfl rfl hl.1 rfl (Nat.le_of_ble_eq_true rfl) d_Rd_passTextures_30 ⟨Nat.zero_le _, Nat.zero_le _⟩) hP hD hS hA [0, 1, 2] rfl [r0, rw, rb] rfl rfl (fun H locs hP hD hS => ?_)
          generalize eg_5 : sm f n g_4.2 0 4 = g_5 at hP hD ⊢
          have hP : va_P D cls ([(r0, .inr (1, [.ref rw, .ref rx, .ref ry, .ref rs, .int nv, .int (nI U), .int ns, .int nw, .int wa, .int g_5.2.1, .int g_5.2.2.1, .int g_5.2.2.2, .int fw])), (rw, .inr (3, [.ref rb, .int (nI n)])), (rb, .inl (cB, 8192, .inl f))]) H := hP
          have hD : va_D A ([(r0, .inr (1, [.ref rw, .ref rx, .ref ry, .ref rs, .int nv, .int (nI U), .int ns, .int nw, .int wa, .int g_5.2.1, .int g_5.2.2.1, .int g_5.2.2.2, .int fw])), (rw, .inr (3, [.ref rb, .int (nI n)])), (rb, .inl (cB, 8192, .inl f))]) := hD
          refine lv_ishl hx hb d_Rd_passTextures_33 ?_
          refine lv_istore_n (lv' := [(3, .int (1 <<< (g_5.1 &&& 31))), (2, .int (1 <<< (g_4.1 &&& 31))), (0, .ref r0), (1, .int (nI k))]) hx hb d_Rd_passTextures_34 rfl hl (by decide) rfl (fun ls hl => ?_)
          refine lv_iconst (v := 0) hx hb d_Rd_passTextures_35 (by decide) ?_
          refine lv_istore (lv' := [(4, .int 0), (3, .int (1 <<< (g_5.1 &&& 31))), (2, .int (1 <<< (g_4.1 &&& 31))), (0, .ref r0), (1, .int (nI k))]) hx hb d_Rd_passTextures_36 hl (by decide) rfl (fun ls hl => ?_)
          obtain ⟨B, hB, eB⟩ := txB f n z
          have hq2 : txs f n z = txi f n B g_5.2 := by simp only [txs, tx1, tx2, eg_4, eg_5, if_neg c_2, if_pos c_3]; rw [show txw g_4.1 * txw g_5.1 = nI B from by rw [← eB]; simp only [tx1, tx2, eg_4, eg_5, if_neg c_2, if_pos c_3], nI_clamp (by omega)]
          have eB2 : (1 <<< (g_4.1 &&& 31)) * (1 <<< (g_5.1 &&& 31)) = nI B := by rw [← eB]; simp only [tx1, tx2, eg_4, eg_5, if_neg c_2, if_pos c_3]; rfl
          have lp_6 : ∀ (j6 : Nat) (i : Nat) (y : S3) (ls : Array Slot) (H : Heap) (locs : List Loc), j6 + i = B → txi f n B g_5.2 = txi f n j6 y → va_P D cls ([(r0, .inr (1, [.ref rw, .ref rx, .ref ry, .ref rs, .int nv, .int (nI U), .int ns, .int nw, .int wa, .int y.1, .int y.2.1, .int y.2.2, .int fw])), (rw, .inr (3, [.ref rb, .int (nI n)])), (rb, .inl (cB, 8192, .inl f))]) H → va_D A ([(r0, .inr (1, [.ref rw, .ref rx, .ref ry, .ref rs, .int nv, .int (nI U), .int ns, .int nw, .int wa, .int y.1, .int y.2.1, .int y.2.2, .int fw])), (rw, .inr (3, [.ref rb, .int (nI n)])), (rb, .inl (cB, 8192, .inl f))]) → va_S A s.heap H locs → lv_has ls 5 [(0, .ref r0), (1, .int (nI k)), (2, .int (1 <<< (g_4.1 &&& 31))), (3, .int (1 <<< (g_5.1 &&& 31))), (4, .int (nI i))] → W p l e (rmd 3) s m ([.ref r0] : List Value).toArray below meth c H locs 0 0 Q (F0 m 38 ls []) := by
            intro j6
            induction j6 with
            | zero =>
              intro i y ls H locs hi2 he2 hP hD hS hl
              refine lv_iload hx hb d_Rd_passTextures_38 (lv_at hl 4 rfl) ?_
              refine lv_iload_n hx hb d_Rd_passTextures_40 rfl (lv_at hl 2 rfl) ?_
              refine lv_iload_n hx hb d_Rd_passTextures_41 rfl (lv_at hl 3 rfl) ?_
              refine lv_imul hx hb d_Rd_passTextures_42 ?_
              refine lv_icmp_ge (tgt := 67) hx hb d_Rd_passTextures_43 (by decide) (fun c_6 => ?_) (fun c_6 => ?_)
              · refine lv_iinc (v := nI (k + 1)) (lv' := [(1, .int (nI (k + 1))), (0, .ref r0), (2, .int (1 <<< (g_4.1 &&& 31))), (3, .int (1 <<< (g_5.1 &&& 31))), (4, .int (nI i))]) hx hb d_Rd_passTextures_67 hl (k := 1) rfl (nI_1 k) (by decide) rfl (fun ls hl => ?_)
                refine lv_goto (tgt := 2) hx hb d_Rd_passTextures_70 (by decide) ?_
                exact ih5 (k + 1) y _ _ _ (by omega) (by rw [he, txl]; simp only [eg_4, eg_5, if_neg c_2, if_pos c_3, if_pos c_6]; exact congrArg (txl f n j5) (hq2.trans (he2.trans (by simp only [txi, eg_4, eg_5, if_neg c_2, if_pos c_3, if_pos c_6])))) hP hD hS (lv_sub hl [1, 0] rfl)
              · exact (c_6 (by rw [eB2, nI_leI (by omega) (by omega)]; omega)).elim
            | succ j6 ih6 =>
              intro i y ls H locs hi2 he2 hP hD hS hl
              refine lv_iload hx hb d_Rd_passTextures_38 (lv_at hl 4 rfl) ?_
              refine lv_iload_n hx hb d_Rd_passTextures_40 rfl (lv_at hl 2 rfl) ?_
              refine lv_iload_n hx hb d_Rd_passTextures_41 rfl (lv_at hl 3 rfl) ?_
              refine lv_imul hx hb d_Rd_passTextures_42 ?_
              refine lv_icmp_ge (tgt := 67) hx hb d_Rd_passTextures_43 (by decide) (fun c_7 => ?_) (fun c_7 => ?_)
              · exact absurd c_7 (by rw [eB2, nI_leI (by omega) (by omega)]; omega)
              · refine lv_aload_n hx hb d_Rd_passTextures_46 rfl (lv_at hl 0 rfl) ?_
                refine va_get (D := D) (ci := 1) (v := .int y.2.1) (C := R_Rd) (T := T_Rd) (N := 13) hx hb hts i_Rd hown hK hP 0 rfl rfl 10 (by decide) (hts _ w_84) (fun _ h9 => h9) rfl d_Rd_passTextures_47 ?_
                refine lv_if_ne (tgt := 67) hx hb d_Rd_passTextures_50 (by decide) (fun c_8 => ?_) (fun c_8 => ?_)
                · refine lv_iinc (v := nI (k + 1)) (lv' := [(1, .int (nI (k + 1))), (0, .ref r0), (2, .int (1 <<< (g_4.1 &&& 31))), (3, .int (1 <<< (g_5.1 &&& 31))), (4, .int (nI i))]) hx hb d_Rd_passTextures_67 hl (k := 1) rfl (nI_1 k) (by decide) rfl (fun ls hl => ?_)
                  refine lv_goto (tgt := 2) hx hb d_Rd_passTextures_70 (by decide) ?_
                  exact ih5 (k + 1) y _ _ _ (by omega) (by rw [he, txl]; simp only [eg_4, eg_5, if_neg c_2, if_pos c_3, if_neg c_7, if_neg c_8]; exact congrArg (txl f n j5) (hq2.trans (he2.trans (by simp only [txi, eg_4, eg_5, if_neg c_2, if_pos c_3, if_neg c_7, if_neg c_8])))) hP hD hS (lv_sub hl [1, 0] rfl)
                · refine lv_aload_n hx hb d_Rd_passTextures_53 rfl (lv_at hl 0 rfl) ?_
                  refine lv_iconst (v := 0) hx hb d_Rd_passTextures_54 (by decide) ?_
                  refine lv_bipush (v := 15) hx hb d_Rd_passTextures_55 (by decide) ?_
                  refine pz_i (pz_rV (d := 2) (As := [.int 0, .int 15]) (rest := []) X hN (c_Rd_small l D cB cI cS r0 rw rx ry rs rb nv (nI U) ns nw wa fw y f n 0 15 hn _) k_Rd_small w_236 ⟨by decide, by decide⟩ hK hP hD [0, 1, 2] rfl rfl 0 rfl rfl rfl rfl hl.1 rfl (Nat.le_of_ble_eq_true rfl) d_Rd_passTextures_57 ⟨Nat.zero_le _, Nat.zero_le _⟩) hP hD hS hA [0, 1, 2] rfl [r0, rw, rb] rfl rfl (fun H locs hP hD hS => ?_)
                  generalize eg_9 : sm f n y 0 15 = g_9 at hP hD ⊢
                  have hP : va_P D cls ([(r0, .inr (1, [.ref rw, .ref rx, .ref ry, .ref rs, .int nv, .int (nI U), .int ns, .int nw, .int wa, .int g_9.2.1, .int g_9.2.2.1, .int g_9.2.2.2, .int fw])), (rw, .inr (3, [.ref rb, .int (nI n)])), (rb, .inl (cB, 8192, .inl f))]) H := hP
                  have hD : va_D A ([(r0, .inr (1, [.ref rw, .ref rx, .ref ry, .ref rs, .int nv, .int (nI U), .int ns, .int nw, .int wa, .int g_9.2.1, .int g_9.2.2.1, .int g_9.2.2.2, .int fw])), (rw, .inr (3, [.ref rb, .int (nI n)])), (rb, .inl (cB, 8192, .inl f))]) := hD
                  refine lv_pop hx hb d_Rd_passTextures_60 rfl ?_
                  refine lv_iinc (v := nI (i + 1)) (lv' := [(4, .int (nI (i + 1))), (0, .ref r0), (1, .int (nI k)), (2, .int (1 <<< (g_4.1 &&& 31))), (3, .int (1 <<< (g_5.1 &&& 31)))]) hx hb d_Rd_passTextures_61 hl (k := 4) rfl (nI_1 i) (by decide) rfl (fun ls hl => ?_)
                  refine lv_goto (tgt := 38) hx hb d_Rd_passTextures_64 (by decide) ?_
                  exact ih6 (i + 1) g_9.2 _ _ _ (by omega) (by rw [he2, txi]; simp only [eg_4, eg_5, eg_9, if_neg c_2, if_pos c_3, if_neg c_7, if_pos c_8]) hP hD hS (lv_sub hl [1, 2, 3, 4, 0] rfl)
          exact lp_6 B 0 g_5.2 _ _ _ (by omega) (rfl) hP hD hS (lv_sub hl [3, 4, 2, 1, 0] rfl)
  exact lp_5 U 0 q _ _ _ (by omega) (rfl) hP hD hS (lv_sub hl [1, 0] rfl)

set_option maxRecDepth 100000 in
set_option maxHeartbeats 4000000 in
/-- Reader.passEnd -/
theorem c_Rd_passEnd (l : Launch) (D : va_G) (cB cI cS : ClassId) (r0 rw rx ry rs rb : Nat) (nv nt ns nw wa fw : Int32) (P : Nat) (q2 : Int32 × Int32) (f : Nat → Int32) (n : Nat) (hn : n ≤ 8192) (hPn : P ≤ n) : mV l y_Rd_passEnd b_Rd_passEnd 2 (none) 3 D cls [(cB, .byte), (cI, .int), (cS, .object "MapLumps$Span")] [.ref r0] ([(r0, .inr (1, [.ref rw, .ref rx, .ref ry, .ref rs, .int nv, .int nt, .int ns, .int nw, .int wa, .int (nI P), .int q2.1, .int q2.2, .int fw])), (rw, .inr (3, [.ref rb, .int (nI n)])), (rb, .inl (cB, 8192, .inl f))]) ([(r0, .inr (1, [.ref rw, .ref rx, .ref ry, .ref rs, .int nv, .int nt, .int ns, .int nw, .int wa, .int ((enS f n (nI P, q2)).1), .int ((enS f n (nI P, q2)).2.1), .int ((enS f n (nI P, q2)).2.2), .int fw])), (rw, .inr (3, [.ref rb, .int (nI n)])), (rb, .inl (cB, 8192, .inl f))]) := by
  refine pz_openV (by decide) (Nat.le_of_ble_eq_true rfl) ?_
  intro p e s m below meth c A ls Q X hN hK hP hD hS hA hl fin
  obtain ⟨hx, hb, hml, hown, hts⟩ := id X
  have hl : lv_has ls 2 [(0, .ref r0)] := hl
  refine lv_aload_n hx hb d_Rd_passEnd_0 rfl (lv_at hl 0 rfl) ?_
  refine va_get (D := D) (ci := 1) (v := .ref rw) (C := R_Rd) (T := T_Rd) (N := 13) hx hb hts i_Rd hown hK hP 0 rfl rfl 0 (by decide) (hts _ w_73) (fun _ h9 => h9) rfl d_Rd_passEnd_1 ?_
  refine lv_aload_n hx hb d_Rd_passEnd_4 rfl (lv_at hl 0 rfl) ?_
  refine va_get (D := D) (ci := 1) (v := .int (nI P)) (C := R_Rd) (T := T_Rd) (N := 13) hx hb hts i_Rd hown hK hP 0 rfl rfl 9 (by decide) (hts _ w_83) (fun _ h9 => h9) rfl d_Rd_passEnd_5 ?_
  refine pz_i0 (pz_rV (d := 0) (As := [.int (nI P)]) (rest := []) X hN (c_Rw_sums l D cB cI cS rw rb f n P hn hPn _) k_Rw_sums w_299 ⟨by decide, by decide⟩ hK hP hD [1, 2] rfl rfl 1 rfl rfl rfl rfl hl.1 rfl (Nat.le_of_ble_eq_true rfl) d_Rd_passEnd_8 ⟨Nat.zero_le _, Nat.zero_le _⟩) hP hD hS hA [1, 2] rfl (fun H locs hP hS => ?_)
  refine lv_istore_n (lv' := [(1, .int (256 * (sum2 f P).1 + (sum2 f P).2)), (0, .ref r0)]) hx hb d_Rd_passEnd_11 rfl hl (by decide) rfl (fun ls hl => ?_)
  refine lv_aload_n hx hb d_Rd_passEnd_12 rfl (lv_at hl 1 rfl) ?_
  refine lv_iload_n hx hb d_Rd_passEnd_13 rfl (lv_at hl 0 rfl) ?_
  refine lv_bipush (v := 8) hx hb d_Rd_passEnd_14 (by decide) ?_
  refine lv_ishr hx hb d_Rd_passEnd_16 ?_
  refine lv_iconst (v := 4) hx hb d_Rd_passEnd_17 (by decide) ?_
  refine pz_v (pz_rV (d := 2) (As := [.int ((256 * (sum2 f P).1 + (sum2 f P).2) >>> (8 &&& 31)), .int 4]) (rest := []) X hN (c_Rd_expect l D cB cI cS r0 rw rx ry rs rb nv nt ns nw wa fw (nI P, q2.1, q2.2) f n ((256 * (sum2 f P).1 + (sum2 f P).2) >>> (8 &&& 31)) 4 hn _) k_Rd_expect w_220 ⟨by decide, by decide⟩ hK hP hD [0, 1, 2] rfl rfl 0 rfl rfl rfl rfl hl.1 rfl (Nat.le_of_ble_eq_true rfl) d_Rd_passEnd_18 ⟨Nat.zero_le _, Nat.zero_le _⟩) hP hD hS hA [0, 1, 2] rfl [r0, rw, rb] rfl rfl (fun H locs hP hD hS => ?_)
  generalize eg_1 : ex f n (nI P, q2.1, q2.2) ((256 * (sum2 f P).1 + (sum2 f P).2) >>> (8 &&& 31)) 4 = g_1 at hP hD ⊢
  have hP : va_P D cls ([(r0, .inr (1, [.ref rw, .ref rx, .ref ry, .ref rs, .int nv, .int nt, .int ns, .int nw, .int wa, .int g_1.1, .int g_1.2.1, .int g_1.2.2, .int fw])), (rw, .inr (3, [.ref rb, .int (nI n)])), (rb, .inl (cB, 8192, .inl f))]) H := hP
  have hD : va_D A ([(r0, .inr (1, [.ref rw, .ref rx, .ref ry, .ref rs, .int nv, .int nt, .int ns, .int nw, .int wa, .int g_1.1, .int g_1.2.1, .int g_1.2.2, .int fw])), (rw, .inr (3, [.ref rb, .int (nI n)])), (rb, .inl (cB, 8192, .inl f))]) := hD
  refine lv_aload_n hx hb d_Rd_passEnd_21 rfl (lv_at hl 1 rfl) ?_
  refine lv_iload_n hx hb d_Rd_passEnd_22 rfl (lv_at hl 0 rfl) ?_
  refine lv_sipush (v := 255) hx hb d_Rd_passEnd_23 (by decide) ?_
  refine lv_iand hx hb d_Rd_passEnd_26 ?_
  refine lv_iconst (v := 4) hx hb d_Rd_passEnd_27 (by decide) ?_
  refine pz_v (pz_rV (d := 2) (As := [.int ((256 * (sum2 f P).1 + (sum2 f P).2) &&& 255), .int 4]) (rest := []) X hN (c_Rd_expect l D cB cI cS r0 rw rx ry rs rb nv nt ns nw wa fw g_1 f n ((256 * (sum2 f P).1 + (sum2 f P).2) &&& 255) 4 hn _) k_Rd_expect w_220 ⟨by decide, by decide⟩ hK hP hD [0, 1, 2] rfl rfl 0 rfl rfl rfl rfl hl.1 rfl (Nat.le_of_ble_eq_true rfl) d_Rd_passEnd_28 ⟨Nat.zero_le _, Nat.zero_le _⟩) hP hD hS hA [0, 1, 2] rfl [r0, rw, rb] rfl rfl (fun H locs hP hD hS => ?_)
  generalize eg_2 : ex f n g_1 ((256 * (sum2 f P).1 + (sum2 f P).2) &&& 255) 4 = g_2 at hP hD ⊢
  have hP : va_P D cls ([(r0, .inr (1, [.ref rw, .ref rx, .ref ry, .ref rs, .int nv, .int nt, .int ns, .int nw, .int wa, .int g_2.1, .int g_2.2.1, .int g_2.2.2, .int fw])), (rw, .inr (3, [.ref rb, .int (nI n)])), (rb, .inl (cB, 8192, .inl f))]) H := hP
  have hD : va_D A ([(r0, .inr (1, [.ref rw, .ref rx, .ref ry, .ref rs, .int nv, .int nt, .int ns, .int nw, .int wa, .int g_2.1, .int g_2.2.1, .int g_2.2.2, .int fw])), (rw, .inr (3, [.ref rb, .int (nI n)])), (rb, .inl (cB, 8192, .inl f))]) := hD
  refine lv_aload_n hx hb d_Rd_passEnd_31 rfl (lv_at hl 1 rfl) ?_
  refine va_get (D := D) (ci := 1) (v := .int g_2.1) (C := R_Rd) (T := T_Rd) (N := 13) hx hb hts i_Rd hown hK hP 0 rfl rfl 9 (by decide) (hts _ w_83) (fun _ h9 => h9) rfl d_Rd_passEnd_32 ?_
  refine lv_aload_n hx hb d_Rd_passEnd_35 rfl (lv_at hl 1 rfl) ?_
  refine va_get (D := D) (ci := 1) (v := .ref rw) (C := R_Rd) (T := T_Rd) (N := 13) hx hb hts i_Rd hown hK hP 0 rfl rfl 0 (by decide) (hts _ w_73) (fun _ h9 => h9) rfl d_Rd_passEnd_36 ?_
  refine va_getN (D := D) (ci := 3) (v := .int (nI n)) (C := R_Rw) (T := T_Rw) (N := 2) hx hb hts i_Rw hown hK hP 1 rfl rfl 1 (by decide) (nf_33 hN) (fun _ h9 => h9) rfl d_Rd_passEnd_39 ?_
  refine lv_icmp_ge (tgt := 54) hx hb d_Rd_passEnd_42 (by decide) (fun c_3 => ?_) (fun c_3 => ?_)
  · exact fin _ _ _ _ _ d_Rd_passEnd_54 hP hS (by simp only [enS, en2, enD, nI_clamp (show P < 2 ^ 31 by omega), eg_1, eg_2, if_pos c_3])
  · refine lv_aload_n hx hb d_Rd_passEnd_45 rfl (lv_at hl 1 rfl) ?_
    refine lv_iconst (v := 5) hx hb d_Rd_passEnd_46 (by decide) ?_
    refine lv_aload_n hx hb d_Rd_passEnd_47 rfl (lv_at hl 1 rfl) ?_
    refine va_get (D := D) (ci := 1) (v := .int g_2.1) (C := R_Rd) (T := T_Rd) (N := 13) hx hb hts i_Rd hown hK hP 0 rfl rfl 9 (by decide) (hts _ w_83) (fun _ h9 => h9) rfl d_Rd_passEnd_48 ?_
    refine pz_v (pz_rV (d := 0) (As := [.int 5, .int g_2.1]) (rest := []) X hN (c_Rd_fail l D cB cI cS r0 rw rx ry rs nv nt ns nw wa fw g_2 5 g_2.1 _) k_Rd_fail w_232 ⟨by decide, by decide⟩ hK hP hD [0] rfl rfl 0 rfl rfl rfl rfl hl.1 rfl (Nat.le_of_ble_eq_true rfl) d_Rd_passEnd_51 ⟨Nat.zero_le _, Nat.zero_le _⟩) hP hD hS hA [0] rfl [r0] rfl rfl (fun H locs hP hD hS => ?_)
    have hP : va_P D cls ([(r0, .inr (1, [.ref rw, .ref rx, .ref ry, .ref rs, .int nv, .int nt, .int ns, .int nw, .int wa, .int ((fl g_2 5 g_2.1).1), .int ((fl g_2 5 g_2.1).2.1), .int ((fl g_2 5 g_2.1).2.2), .int fw])), (rw, .inr (3, [.ref rb, .int (nI n)])), (rb, .inl (cB, 8192, .inl f))]) H := hP
    have hD : va_D A ([(r0, .inr (1, [.ref rw, .ref rx, .ref ry, .ref rs, .int nv, .int nt, .int ns, .int nw, .int wa, .int ((fl g_2 5 g_2.1).1), .int ((fl g_2 5 g_2.1).2.1), .int ((fl g_2 5 g_2.1).2.2), .int fw])), (rw, .inr (3, [.ref rb, .int (nI n)])), (rb, .inl (cB, 8192, .inl f))]) := hD
    exact fin _ _ _ _ _ d_Rd_passEnd_54 hP hS (by simp only [enS, en2, enD, nI_clamp (show P < 2 ^ 31 by omega), eg_1, eg_2, if_neg c_3])
