set_option maxRecDepth 100000 in
set_option maxHeartbeats 4000000 in
/-- readVertex -/
theorem c_Mo_readVertex (l : Launch) (D : va_G) (cB cI cS : ClassId) (o0 ib pb qb : Nat) (th ck : Int32) (n nm no : Nat) (q : S5) (f : Nat → Int32) (k : Nat) (hn : n ≤ 8192) (hq : ok5 n q) (hk : k ≤ 256) : mV l y_Mo_readVertex b_Mo_readVertex 6 (none) 3 D cls [(cB, .byte), (cI, .int), (cS, .object "MapLumps$Span")] [.ref o0, .int (nI k)] ([(o0, .inr (5, [.int th, .ref ib, .int (nI n), .ref pb, .int (nI nm), .ref qb, .int (nI no), .int q.2.1, .int q.2.2.1, .int ck, .int q.1, .int q.2.2.2.1, .int q.2.2.2.2])), (ib, .inl (cB, 8192, .inl f))]) ([(o0, .inr (5, [.int th, .ref ib, .int (nI n), .ref pb, .int (nI nm), .ref qb, .int (nI no), .int ((yvx f n k q).2.1), .int ((yvx f n k q).2.2.1), .int ck, .int ((yvx f n k q).1), .int ((yvx f n k q).2.2.2.1), .int ((yvx f n k q).2.2.2.2)])), (ib, .inl (cB, 8192, .inl f))]) := by
  refine pz_openV (by decide) (Nat.le_of_ble_eq_true rfl) ?_
  intro p e s m below meth c A ls Q X hN hK hP hD hS hA hl fin
  obtain ⟨hx, hb, hml, hown, hts⟩ := id X
  have hl : lv_has ls 6 [(0, .ref o0), (1, .int (nI k))] := hl
  refine lv_aload_n hx hb d_Mo_readVertex_0 rfl (lv_at hl 0 rfl) ?_
  refine lv_sipush (v := (-32768)) hx hb d_Mo_readVertex_1 (by decide) ?_
  refine lv_sipush (v := 32767) hx hb d_Mo_readVertex_4 (by decide) ?_
  refine pz_i (pz_rV (d := 2) (As := [.int (-32768), .int 32767]) (rest := []) X hN (c_Mo_nextTwo l D cB cI cS o0 ib pb qb th ck n nm no q f (-32768) 32767 hn hq _) k_Mo_nextTwo w_498 ⟨by decide, by decide⟩ hK hP hD [0, 1] rfl rfl 0 rfl rfl rfl rfl hl.1 rfl (Nat.le_of_ble_eq_true rfl) d_Mo_readVertex_7 ⟨Nat.zero_le _, Nat.zero_le _⟩) hP hD hS hA [0, 1] rfl [o0, ib] rfl rfl (fun H locs hP hD hS => ?_)
  generalize eg_1 : ytw f n q (-32768) 32767 = g_1 at hP hD ⊢
  have hP : va_P D cls ([(o0, .inr (5, [.int th, .ref ib, .int (nI n), .ref pb, .int (nI nm), .ref qb, .int (nI no), .int g_1.2.2.1, .int g_1.2.2.2.1, .int ck, .int g_1.2.1, .int g_1.2.2.2.2.1, .int g_1.2.2.2.2.2])), (ib, .inl (cB, 8192, .inl f))]) H := hP
  have hD : va_D A ([(o0, .inr (5, [.int th, .ref ib, .int (nI n), .ref pb, .int (nI nm), .ref qb, .int (nI no), .int g_1.2.2.1, .int g_1.2.2.2.1, .int ck, .int g_1.2.1, .int g_1.2.2.2.2.1, .int g_1.2.2.2.2.2])), (ib, .inl (cB, 8192, .inl f))]) := hD
  have ok_g_1 : ok5 n g_1.2 := by rw [← eg_1]; exact ok5_tw hq _ _
  refine lv_istore_n (lv' := [(2, .int g_1.1), (0, .ref o0), (1, .int (nI k))]) hx hb d_Mo_readVertex_10 rfl hl (by decide) rfl (fun ls hl => ?_)
  refine lv_aload_n hx hb d_Mo_readVertex_11 rfl (lv_at hl 1 rfl) ?_
  refine va_get (D := D) (ci := 5) (v := .int g_1.2.1) (C := R_Mo) (T := T_Mo) (N := 13) hx hb hts i_Mo hown hK hP 0 rfl rfl 10 (by decide) (hts _ w_428) (fun _ h9 => h9) rfl d_Mo_readVertex_12 ?_
  refine lv_istore_n (lv' := [(3, .int g_1.2.1), (2, .int g_1.1), (0, .ref o0), (1, .int (nI k))]) hx hb d_Mo_readVertex_15 rfl hl (by decide) rfl (fun ls hl => ?_)
  refine lv_aload_n hx hb d_Mo_readVertex_16 rfl (lv_at hl 2 rfl) ?_
  refine lv_sipush (v := (-32768)) hx hb d_Mo_readVertex_17 (by decide) ?_
  refine lv_sipush (v := 32767) hx hb d_Mo_readVertex_20 (by decide) ?_
  refine pz_i (pz_rV (d := 2) (As := [.int (-32768), .int 32767]) (rest := []) X hN (c_Mo_nextTwo l D cB cI cS o0 ib pb qb th ck n nm no g_1.2 f (-32768) 32767 hn ok_g_1 _) k_Mo_nextTwo w_498 ⟨by decide, by decide⟩ hK hP hD [0, 1] rfl rfl 0 rfl rfl rfl rfl hl.1 rfl (Nat.le_of_ble_eq_true rfl) d_Mo_readVertex_23 ⟨Nat.zero_le _, Nat.zero_le _⟩) hP hD hS hA [0, 1] rfl [o0, ib] rfl rfl (fun H locs hP hD hS => ?_)
  generalize eg_2 : ytw f n g_1.2 (-32768) 32767 = g_2 at hP hD ⊢
  have hP : va_P D cls ([(o0, .inr (5, [.int th, .ref ib, .int (nI n), .ref pb, .int (nI nm), .ref qb, .int (nI no), .int g_2.2.2.1, .int g_2.2.2.2.1, .int ck, .int g_2.2.1, .int g_2.2.2.2.2.1, .int g_2.2.2.2.2.2])), (ib, .inl (cB, 8192, .inl f))]) H := hP
  have hD : va_D A ([(o0, .inr (5, [.int th, .ref ib, .int (nI n), .ref pb, .int (nI nm), .ref qb, .int (nI no), .int g_2.2.2.1, .int g_2.2.2.2.1, .int ck, .int g_2.2.1, .int g_2.2.2.2.2.1, .int g_2.2.2.2.2.2])), (ib, .inl (cB, 8192, .inl f))]) := hD
  have ok_g_2 : ok5 n g_2.2 := by rw [← eg_2]; exact ok5_tw ok_g_1 _ _
  refine lv_istore (lv' := [(4, .int g_2.1), (3, .int g_1.2.1), (2, .int g_1.1), (0, .ref o0), (1, .int (nI k))]) hx hb d_Mo_readVertex_26 hl (by decide) rfl (fun ls hl => ?_)
  refine lv_iconst (v := 0) hx hb d_Mo_readVertex_28 (by decide) ?_
  refine lv_istore (lv' := [(5, .int 0), (4, .int g_2.1), (3, .int g_1.2.1), (2, .int g_1.1), (0, .ref o0), (1, .int (nI k))]) hx hb d_Mo_readVertex_29 hl (by decide) rfl (fun ls hl => ?_)
  have lp_1 : ∀ (j1 : Nat) (o : Nat) (z : S5) (ls : Array Slot) (H : Heap) (locs : List Loc), j1 + o = k → yvl f g_1.1 g_2.1 g_1.2.1 k 0 g_2.2 = yvl f g_1.1 g_2.1 g_1.2.1 j1 o z → va_P D cls ([(o0, .inr (5, [.int th, .ref ib, .int (nI n), .ref pb, .int (nI nm), .ref qb, .int (nI no), .int z.2.1, .int z.2.2.1, .int ck, .int z.1, .int z.2.2.2.1, .int z.2.2.2.2])), (ib, .inl (cB, 8192, .inl f))]) H → va_D A ([(o0, .inr (5, [.int th, .ref ib, .int (nI n), .ref pb, .int (nI nm), .ref qb, .int (nI no), .int z.2.1, .int z.2.2.1, .int ck, .int z.1, .int z.2.2.2.1, .int z.2.2.2.2])), (ib, .inl (cB, 8192, .inl f))]) → va_S A s.heap H locs → lv_has ls 6 [(0, .ref o0), (1, .int (nI k)), (2, .int g_1.1), (3, .int g_1.2.1), (4, .int g_2.1), (5, .int (nI o))] → W p l e (rmd 3) s m ([.ref o0, .int (nI k)] : List Value).toArray below meth c H locs 0 0 Q (F0 m 31 ls []) := by
    intro j1
    induction j1 with
    | zero =>
      intro o z ls H locs hi he hP hD hS hl
      refine lv_iload hx hb d_Mo_readVertex_31 (lv_at hl 5 rfl) ?_
      refine lv_iload_n hx hb d_Mo_readVertex_33 rfl (lv_at hl 1 rfl) ?_
      refine lv_icmp_ge (tgt := 93) hx hb d_Mo_readVertex_34 (by decide) (fun c_3 => ?_) (fun c_3 => ?_)
      · exact fin _ _ _ _ _ d_Mo_readVertex_93 hP hS (by simp only [yvx, yv2, yv1, eg_1, eg_2]; rw [he]; simp only [yvl, if_pos c_3])
      · exact (c_3 (by rw [nI_leI (by omega) (by omega)]; omega)).elim
    | succ j1 ih1 =>
      intro o z ls H locs hi he hP hD hS hl
      refine lv_iload hx hb d_Mo_readVertex_31 (lv_at hl 5 rfl) ?_
      refine lv_iload_n hx hb d_Mo_readVertex_33 rfl (lv_at hl 1 rfl) ?_
      refine lv_icmp_ge (tgt := 93) hx hb d_Mo_readVertex_34 (by decide) (fun c_4 => ?_) (fun c_4 => ?_)
      · exact absurd c_4 (by rw [nI_leI (by omega) (by omega)]; omega)
      · refine lv_aload_n hx hb d_Mo_readVertex_37 rfl (lv_at hl 0 rfl) ?_
        refine va_get (D := D) (ci := 5) (v := .int z.2.1) (C := R_Mo) (T := T_Mo) (N := 13) hx hb hts i_Mo hown hK hP 0 rfl rfl 7 (by decide) (hts _ w_425) (fun _ h9 => h9) rfl d_Mo_readVertex_38 ?_
        refine lv_if_ne (tgt := 93) hx hb d_Mo_readVertex_41 (by decide) (fun c_5 => ?_) (fun c_5 => ?_)
        · exact fin _ _ _ _ _ d_Mo_readVertex_93 hP hS (by simp only [yvx, yv2, yv1, eg_1, eg_2]; rw [he]; simp only [yvl, if_neg c_4, if_neg c_5])
        · refine lv_aload_n hx hb d_Mo_readVertex_44 rfl (lv_at hl 0 rfl) ?_
          refine va_get (D := D) (ci := 5) (v := .ref ib) (C := R_Mo) (T := T_Mo) (N := 13) hx hb hts i_Mo hown hK hP 0 rfl rfl 1 (by decide) (hts _ w_419) (fun _ h9 => h9) rfl d_Mo_readVertex_45 ?_
          refine lv_bipush (v := 7) hx hb d_Mo_readVertex_48 (by decide) ?_
          refine lv_iconst (v := 4) hx hb d_Mo_readVertex_50 (by decide) ?_
          refine lv_iload hx hb d_Mo_readVertex_51 (lv_at hl 5 rfl) ?_
          refine lv_imul hx hb d_Mo_readVertex_53 ?_
          refine lv_iadd hx hb d_Mo_readVertex_54 ?_
          rw [nx7]
          refine pz_i0 (pz_rS (d := 0) (As := [.ref ib, .int (nI (7 + 4 * o))]) (rest := []) X hN (c_Mo_pair l D cB cI cS ib f (7 + 4 * o) (by omega) _) k_Mo_pair w_503 ⟨by decide, by decide⟩ hK hP hD [1] rfl rfl rfl hl.1 rfl (Nat.le_of_ble_eq_true rfl) d_Mo_readVertex_55 ⟨Nat.zero_le _, Nat.zero_le _⟩) hP hD hS hA [1] rfl (fun H locs hP hS => ?_)
          refine lv_iload_n hx hb d_Mo_readVertex_58 rfl (lv_at hl 2 rfl) ?_
          refine lv_icmp_ne (tgt := 87) hx hb d_Mo_readVertex_59 (by decide) (fun c_6 => ?_) (fun c_6 => ?_)
          · refine lv_iinc (v := nI (o + 1)) (lv' := [(5, .int (nI (o + 1))), (0, .ref o0), (1, .int (nI k)), (2, .int g_1.1), (3, .int g_1.2.1), (4, .int g_2.1)]) hx hb d_Mo_readVertex_87 hl (k := 5) rfl (nI_1 o) (by decide) rfl (fun ls hl => ?_)
            refine lv_goto (tgt := 31) hx hb d_Mo_readVertex_90 (by decide) ?_
            exact ih1 (o + 1) z _ _ _ (by omega) (by rw [he, yvl]; simp only [eg_1, eg_2, if_neg c_4, if_pos c_5, if_neg c_6]) hP hD hS (lv_sub hl [1, 2, 3, 4, 5, 0] rfl)
          · refine lv_aload_n hx hb d_Mo_readVertex_62 rfl (lv_at hl 0 rfl) ?_
            refine va_get (D := D) (ci := 5) (v := .ref ib) (C := R_Mo) (T := T_Mo) (N := 13) hx hb hts i_Mo hown hK hP 0 rfl rfl 1 (by decide) (hts _ w_419) (fun _ h9 => h9) rfl d_Mo_readVertex_63 ?_
            refine lv_bipush (v := 9) hx hb d_Mo_readVertex_66 (by decide) ?_
            refine lv_iconst (v := 4) hx hb d_Mo_readVertex_68 (by decide) ?_
            refine lv_iload hx hb d_Mo_readVertex_69 (lv_at hl 5 rfl) ?_
            refine lv_imul hx hb d_Mo_readVertex_71 ?_
            refine lv_iadd hx hb d_Mo_readVertex_72 ?_
            rw [nx9]
            refine pz_i0 (pz_rS (d := 0) (As := [.ref ib, .int (nI (9 + 4 * o))]) (rest := []) X hN (c_Mo_pair l D cB cI cS ib f (9 + 4 * o) (by omega) _) k_Mo_pair w_503 ⟨by decide, by decide⟩ hK hP hD [1] rfl rfl rfl hl.1 rfl (Nat.le_of_ble_eq_true rfl) d_Mo_readVertex_73 ⟨Nat.zero_le _, Nat.zero_le _⟩) hP hD hS hA [1] rfl (fun H locs hP hS => ?_)
            refine lv_iload hx hb d_Mo_readVertex_76 (lv_at hl 4 rfl) ?_
            refine lv_icmp_ne (tgt := 87) hx hb d_Mo_readVertex_78 (by decide) (fun c_7 => ?_) (fun c_7 => ?_)
            · refine lv_iinc (v := nI (o + 1)) (lv' := [(5, .int (nI (o + 1))), (0, .ref o0), (1, .int (nI k)), (2, .int g_1.1), (3, .int g_1.2.1), (4, .int g_2.1)]) hx hb d_Mo_readVertex_87 hl (k := 5) rfl (nI_1 o) (by decide) rfl (fun ls hl => ?_)
              refine lv_goto (tgt := 31) hx hb d_Mo_readVertex_90 (by decide) ?_
              exact ih1 (o + 1) z _ _ _ (by omega) (by rw [he, yvl]; simp only [eg_1, eg_2, if_neg c_4, if_pos c_5, if_pos c_6, if_neg c_7]) hP hD hS (lv_sub hl [1, 2, 3, 4, 5, 0] rfl)
            · refine lv_aload_n hx hb d_Mo_readVertex_81 rfl (lv_at hl 0 rfl) ?_
              refine lv_iconst (v := 3) hx hb d_Mo_readVertex_82 (by decide) ?_
              refine lv_iload_n hx hb d_Mo_readVertex_83 rfl (lv_at hl 3 rfl) ?_
              refine pz_v (pz_rV (d := 0) (As := [.int 3, .int g_1.2.1]) (rest := []) X hN (c_Mo_wrong l D cB cI cS o0 ib pb qb th ck n nm no z 3 g_1.2.1 _) k_Mo_wrong w_490 ⟨by decide, by decide⟩ hK hP hD [0] rfl rfl 0 rfl rfl rfl rfl hl.1 rfl (Nat.le_of_ble_eq_true rfl) d_Mo_readVertex_84 ⟨Nat.zero_le _, Nat.zero_le _⟩) hP hD hS hA [0] rfl [o0] rfl rfl (fun H locs hP hD hS => ?_)
              have hP : va_P D cls ([(o0, .inr (5, [.int th, .ref ib, .int (nI n), .ref pb, .int (nI nm), .ref qb, .int (nI no), .int ((ywr z 3 g_1.2.1).2.1), .int ((ywr z 3 g_1.2.1).2.2.1), .int ck, .int ((ywr z 3 g_1.2.1).1), .int ((ywr z 3 g_1.2.1).2.2.2.1), .int ((ywr z 3 g_1.2.1).2.2.2.2)])), (ib, .inl (cB, 8192, .inl f))]) H := hP
              have hD : va_D A ([(o0, .inr (5, [.int th, .ref ib, .int (nI n), .ref pb, .int (nI nm), .ref qb, .int (nI no), .int ((ywr z 3 g_1.2.1).2.1), .int ((ywr z 3 g_1.2.1).2.2.1), .int ck, .int ((ywr z 3 g_1.2.1).1), .int ((ywr z 3 g_1.2.1).2.2.2.1), .int ((ywr z 3 g_1.2.1).2.2.2.2)])), (ib, .inl (cB, 8192, .inl f))]) := hD
              refine lv_iinc (v := nI (o + 1)) (lv' := [(5, .int (nI (o + 1))), (0, .ref o0), (1, .int (nI k)), (2, .int g_1.1), (3, .int g_1.2.1), (4, .int g_2.1)]) hx hb d_Mo_readVertex_87 hl (k := 5) rfl (nI_1 o) (by decide) rfl (fun ls hl => ?_)
              refine lv_goto (tgt := 31) hx hb d_Mo_readVertex_90 (by decide) ?_
              exact ih1 (o + 1) (ywr z 3 g_1.2.1) _ _ _ (by omega) (by rw [he, yvl]; simp only [eg_1, eg_2, if_neg c_4, if_pos c_5, if_pos c_6, if_pos c_7]) hP hD hS (lv_sub hl [1, 2, 3, 4, 5, 0] rfl)
  exact lp_1 k 0 g_2.2 _ _ _ (by omega) (rfl) hP hD hS (lv_sub hl [4, 5, 3, 2, 1, 0] rfl)

set_option maxRecDepth 100000 in
set_option maxHeartbeats 4000000 in
/-- readTexture -/
theorem c_Mo_readTexture (l : Launch) (D : va_G) (cB cI cS : ClassId) (o0 ib pb qb : Nat) (th ck : Int32) (n nm no : Nat) (q : S5) (f : Nat → Int32) (hn : n ≤ 8192) (hq : ok5 n q) : mV l y_Mo_readTexture b_Mo_readTexture 5 (none) 2 D cls [(cB, .byte), (cI, .int), (cS, .object "MapLumps$Span")] [.ref o0] ([(o0, .inr (5, [.int th, .ref ib, .int (nI n), .ref pb, .int (nI nm), .ref qb, .int (nI no), .int q.2.1, .int q.2.2.1, .int ck, .int q.1, .int q.2.2.2.1, .int q.2.2.2.2])), (ib, .inl (cB, 8192, .inl f))]) ([(o0, .inr (5, [.int th, .ref ib, .int (nI n), .ref pb, .int (nI nm), .ref qb, .int (nI no), .int ((yxt f n q).2.1), .int ((yxt f n q).2.2.1), .int ck, .int ((yxt f n q).1), .int ((yxt f n q).2.2.2.1), .int ((yxt f n q).2.2.2.2)])), (ib, .inl (cB, 8192, .inl f))]) := by
  refine pz_openV (by decide) (Nat.le_of_ble_eq_true rfl) ?_
  intro p e s m below meth c A ls Q X hN hK hP hD hS hA hl fin
  obtain ⟨hx, hb, hml, hown, hts⟩ := id X
  have hl : lv_has ls 5 [(0, .ref o0)] := hl
  refine lv_aload_n hx hb d_Mo_readTexture_0 rfl (lv_at hl 0 rfl) ?_
  refine lv_iconst (v := 0) hx hb d_Mo_readTexture_1 (by decide) ?_
  refine lv_iconst (v := 4) hx hb d_Mo_readTexture_2 (by decide) ?_
  refine pz_i (pz_rV (d := 1) (As := [.int 0, .int 4]) (rest := []) X hN (c_Mo_next l D cB cI cS o0 ib pb qb th ck n nm no q f 0 4 hn hq _) k_Mo_next w_486 ⟨by decide, by decide⟩ hK hP hD [0, 1] rfl rfl 0 rfl rfl rfl rfl hl.1 rfl (Nat.le_of_ble_eq_true rfl) d_Mo_readTexture_3 ⟨Nat.zero_le _, Nat.zero_le _⟩) hP hD hS hA [0, 1] rfl [o0, ib] rfl rfl (fun H locs hP hD hS => ?_)
  generalize eg_1 : ynx f n q 0 4 = g_1 at hP hD ⊢
  have hP : va_P D cls ([(o0, .inr (5, [.int th, .ref ib, .int (nI n), .ref pb, .int (nI nm), .ref qb, .int (nI no), .int g_1.2.2.1, .int g_1.2.2.2.1, .int ck, .int g_1.2.1, .int g_1.2.2.2.2.1, .int g_1.2.2.2.2.2])), (ib, .inl (cB, 8192, .inl f))]) H := hP
  have hD : va_D A ([(o0, .inr (5, [.int th, .ref ib, .int (nI n), .ref pb, .int (nI nm), .ref qb, .int (nI no), .int g_1.2.2.1, .int g_1.2.2.2.1, .int ck, .int g_1.2.1, .int g_1.2.2.2.2.1, .int g_1.2.2.2.2.2])), (ib, .inl (cB, 8192, .inl f))]) := hD
  have ok_g_1 : ok5 n g_1.2 := by rw [← eg_1]; exact ok5_nx hq _ _
  refine lv_istore_n (lv' := [(1, .int g_1.1), (0, .ref o0)]) hx hb d_Mo_readTexture_6 rfl hl (by decide) rfl (fun ls hl => ?_)
  refine lv_aload_n hx hb d_Mo_readTexture_7 rfl (lv_at hl 1 rfl) ?_
  refine lv_iconst (v := 0) hx hb d_Mo_readTexture_8 (by decide) ?_
  refine lv_iconst (v := 4) hx hb d_Mo_readTexture_9 (by decide) ?_
  refine pz_i (pz_rV (d := 1) (As := [.int 0, .int 4]) (rest := []) X hN (c_Mo_next l D cB cI cS o0 ib pb qb th ck n nm no g_1.2 f 0 4 hn ok_g_1 _) k_Mo_next w_486 ⟨by decide, by decide⟩ hK hP hD [0, 1] rfl rfl 0 rfl rfl rfl rfl hl.1 rfl (Nat.le_of_ble_eq_true rfl) d_Mo_readTexture_10 ⟨Nat.zero_le _, Nat.zero_le _⟩) hP hD hS hA [0, 1] rfl [o0, ib] rfl rfl (fun H locs hP hD hS => ?_)
  generalize eg_2 : ynx f n g_1.2 0 4 = g_2 at hP hD ⊢
  have hP : va_P D cls ([(o0, .inr (5, [.int th, .ref ib, .int (nI n), .ref pb, .int (nI nm), .ref qb, .int (nI no), .int g_2.2.2.1, .int g_2.2.2.2.1, .int ck, .int g_2.2.1, .int g_2.2.2.2.2.1, .int g_2.2.2.2.2.2])), (ib, .inl (cB, 8192, .inl f))]) H := hP
  have hD : va_D A ([(o0, .inr (5, [.int th, .ref ib, .int (nI n), .ref pb, .int (nI nm), .ref qb, .int (nI no), .int g_2.2.2.1, .int g_2.2.2.2.1, .int ck, .int g_2.2.1, .int g_2.2.2.2.2.1, .int g_2.2.2.2.2.2])), (ib, .inl (cB, 8192, .inl f))]) := hD
  have ok_g_2 : ok5 n g_2.2 := by rw [← eg_2]; exact ok5_nx ok_g_1 _ _
  refine lv_istore_n (lv' := [(2, .int g_2.1), (1, .int g_1.1), (0, .ref o0)]) hx hb d_Mo_readTexture_13 rfl hl (by decide) rfl (fun ls hl => ?_)
  refine lv_iconst (v := 0) hx hb d_Mo_readTexture_14 (by decide) ?_
  refine lv_istore_n (lv' := [(3, .int 0), (2, .int g_2.1), (1, .int g_1.1), (0, .ref o0)]) hx hb d_Mo_readTexture_15 rfl hl (by decide) rfl (fun ls hl => ?_)
  obtain ⟨B, eB⟩ : ∃ B : Int32, B = 1 <<< ((g_1.1 + g_2.1) &&& 31) := ⟨_, rfl⟩
  have hBl := cl_lt B
  have hB2 : yxt f n q = yxi f n B.toNatClampNeg g_2.2 := by simp only [yxt, yxB, yx2, yx1, eg_1, eg_2, eB]
  have lp_2 : ∀ (j2 : Nat) (i : Nat) (z : S5) (ls : Array Slot) (H : Heap) (locs : List Loc), j2 + i = B.toNatClampNeg → ok5 n z → yxi f n B.toNatClampNeg g_2.2 = yxi f n j2 z → va_P D cls ([(o0, .inr (5, [.int th, .ref ib, .int (nI n), .ref pb, .int (nI nm), .ref qb, .int (nI no), .int z.2.1, .int z.2.2.1, .int ck, .int z.1, .int z.2.2.2.1, .int z.2.2.2.2])), (ib, .inl (cB, 8192, .inl f))]) H → va_D A ([(o0, .inr (5, [.int th, .ref ib, .int (nI n), .ref pb, .int (nI nm), .ref qb, .int (nI no), .int z.2.1, .int z.2.2.1, .int ck, .int z.1, .int z.2.2.2.1, .int z.2.2.2.2])), (ib, .inl (cB, 8192, .inl f))]) → va_S A s.heap H locs → lv_has ls 5 [(0, .ref o0), (1, .int g_1.1), (2, .int g_2.1), (3, .int (nI i))] → W p l e (rmd 2) s m ([.ref o0] : List Value).toArray below meth c H locs 0 0 Q (F0 m 16 ls []) := by
    intro j2
    induction j2 with
    | zero =>
      intro i z ls H locs hi hz he hP hD hS hl
      refine lv_iload_n hx hb d_Mo_readTexture_16 rfl (lv_at hl 3 rfl) ?_
      refine lv_iconst (v := 1) hx hb d_Mo_readTexture_17 (by decide) ?_
      refine lv_iload_n hx hb d_Mo_readTexture_18 rfl (lv_at hl 1 rfl) ?_
      refine lv_iload_n hx hb d_Mo_readTexture_19 rfl (lv_at hl 2 rfl) ?_
      refine lv_iadd hx hb d_Mo_readTexture_20 ?_
      refine lv_ishl hx hb d_Mo_readTexture_21 ?_
      refine lv_icmp_ge (tgt := 47) hx hb d_Mo_readTexture_22 (by decide) (fun c_3 => ?_) (fun c_3 => ?_)
      · exact fin _ _ _ _ _ d_Mo_readTexture_47 hP hS (by rw [hB2, he]; simp only [yxi, if_pos c_3])
      · exact (c_3 (by rw [← eB, le_nI (by omega)]; omega)).elim
    | succ j2 ih2 =>
      intro i z ls H locs hi hz he hP hD hS hl
      refine lv_iload_n hx hb d_Mo_readTexture_16 rfl (lv_at hl 3 rfl) ?_
      refine lv_iconst (v := 1) hx hb d_Mo_readTexture_17 (by decide) ?_
      refine lv_iload_n hx hb d_Mo_readTexture_18 rfl (lv_at hl 1 rfl) ?_
      refine lv_iload_n hx hb d_Mo_readTexture_19 rfl (lv_at hl 2 rfl) ?_
      refine lv_iadd hx hb d_Mo_readTexture_20 ?_
      refine lv_ishl hx hb d_Mo_readTexture_21 ?_
      refine lv_icmp_ge (tgt := 47) hx hb d_Mo_readTexture_22 (by decide) (fun c_4 => ?_) (fun c_4 => ?_)
      · exact absurd c_4 (by rw [← eB, le_nI (by omega)]; omega)
      · refine lv_aload_n hx hb d_Mo_readTexture_25 rfl (lv_at hl 0 rfl) ?_
        refine va_get (D := D) (ci := 5) (v := .int z.2.1) (C := R_Mo) (T := T_Mo) (N := 13) hx hb hts i_Mo hown hK hP 0 rfl rfl 7 (by decide) (hts _ w_425) (fun _ h9 => h9) rfl d_Mo_readTexture_26 ?_
        refine lv_if_ne (tgt := 47) hx hb d_Mo_readTexture_29 (by decide) (fun c_5 => ?_) (fun c_5 => ?_)
        · exact fin _ _ _ _ _ d_Mo_readTexture_47 hP hS (by rw [hB2, he]; simp only [yxi, if_neg c_4, if_neg c_5])
        · refine lv_aload_n hx hb d_Mo_readTexture_32 rfl (lv_at hl 0 rfl) ?_
          refine lv_iconst (v := 0) hx hb d_Mo_readTexture_33 (by decide) ?_
          refine lv_bipush (v := 15) hx hb d_Mo_readTexture_34 (by decide) ?_
          refine pz_i (pz_rV (d := 1) (As := [.int 0, .int 15]) (rest := []) X hN (c_Mo_next l D cB cI cS o0 ib pb qb th ck n nm no z f 0 15 hn hz _) k_Mo_next w_486 ⟨by decide, by decide⟩ hK hP hD [0, 1] rfl rfl 0 rfl rfl rfl rfl hl.1 rfl (Nat.le_of_ble_eq_true rfl) d_Mo_readTexture_36 ⟨Nat.zero_le _, Nat.zero_le _⟩) hP hD hS hA [0, 1] rfl [o0, ib] rfl rfl (fun H locs hP hD hS => ?_)
          generalize eg_6 : ynx f n z 0 15 = g_6 at hP hD ⊢
          have hP : va_P D cls ([(o0, .inr (5, [.int th, .ref ib, .int (nI n), .ref pb, .int (nI nm), .ref qb, .int (nI no), .int g_6.2.2.1, .int g_6.2.2.2.1, .int ck, .int g_6.2.1, .int g_6.2.2.2.2.1, .int g_6.2.2.2.2.2])), (ib, .inl (cB, 8192, .inl f))]) H := hP
          have hD : va_D A ([(o0, .inr (5, [.int th, .ref ib, .int (nI n), .ref pb, .int (nI nm), .ref qb, .int (nI no), .int g_6.2.2.1, .int g_6.2.2.2.1, .int ck, .int g_6.2.1, .int g_6.2.2.2.2.1, .int g_6.2.2.2.2.2])), (ib, .inl (cB, 8192, .inl f))]) := hD
          have ok_g_6 : ok5 n g_6.2 := by rw [← eg_6]; exact ok5_nx hz _ _
          refine lv_istore (lv' := [(4, .int g_6.1), (0, .ref o0), (1, .int g_1.1), (2, .int g_2.1), (3, .int (nI i))]) hx hb d_Mo_readTexture_39 hl (by decide) rfl (fun ls hl => ?_)
          refine lv_iinc (v := nI (i + 1)) (lv' := [(3, .int (nI (i + 1))), (4, .int g_6.1), (0, .ref o0), (1, .int g_1.1), (2, .int g_2.1)]) hx hb d_Mo_readTexture_41 hl (k := 4) rfl (nI_1 i) (by decide) rfl (fun ls hl => ?_)
          refine lv_goto (tgt := 16) hx hb d_Mo_readTexture_44 (by decide) ?_
          exact ih2 (i + 1) g_6.2 _ _ _ (by omega) (ok_g_6) (by rw [he, yxi]; simp only [eg_1, eg_2, eg_6, if_neg c_4, if_pos c_5]) hP hD hS (lv_sub hl [2, 3, 4, 0] rfl)
  exact lp_2 B.toNatClampNeg 0 g_2.2 _ _ _ (by omega) (ok_g_2) (rfl) hP hD hS (lv_sub hl [3, 2, 1, 0] rfl)

set_option maxRecDepth 100000 in
set_option maxHeartbeats 4000000 in
/-- readSector -/
theorem c_Mo_readSector (l : Launch) (D : va_G) (cB cI cS : ClassId) (o0 ib pb qb : Nat) (th ck : Int32) (n nm no : Nat) (q : S5) (f : Nat → Int32) (t : Int32) (hn : n ≤ 8192) (hq : ok5 n q) : mV l y_Mo_readSector b_Mo_readSector 10 (none) 3 D cls [(cB, .byte), (cI, .int), (cS, .object "MapLumps$Span")] [.ref o0, .int t] ([(o0, .inr (5, [.int th, .ref ib, .int (nI n), .ref pb, .int (nI nm), .ref qb, .int (nI no), .int q.2.1, .int q.2.2.1, .int ck, .int q.1, .int q.2.2.2.1, .int q.2.2.2.2])), (ib, .inl (cB, 8192, .inl f))]) ([(o0, .inr (5, [.int th, .ref ib, .int (nI n), .ref pb, .int (nI nm), .ref qb, .int (nI no), .int ((ysc f n t q).2.1), .int ((ysc f n t q).2.2.1), .int ck, .int ((ysc f n t q).1), .int ((ysc f n t q).2.2.2.1), .int ((ysc f n t q).2.2.2.2)])), (ib, .inl (cB, 8192, .inl f))]) := by
  refine pz_openV (by decide) (Nat.le_of_ble_eq_true rfl) ?_
  intro p e s m below meth c A ls Q X hN hK hP hD hS hA hl fin
  obtain ⟨hx, hb, hml, hown, hts⟩ := id X
  have hl : lv_has ls 10 [(0, .ref o0), (1, .int t)] := hl
  refine lv_aload_n hx hb d_Mo_readSector_0 rfl (lv_at hl 0 rfl) ?_
  refine lv_sipush (v := (-1024)) hx hb d_Mo_readSector_1 (by decide) ?_
  refine lv_sipush (v := 1024) hx hb d_Mo_readSector_4 (by decide) ?_
  refine pz_i (pz_rV (d := 2) (As := [.int (-1024), .int 1024]) (rest := []) X hN (c_Mo_nextTwo l D cB cI cS o0 ib pb qb th ck n nm no q f (-1024) 1024 hn hq _) k_Mo_nextTwo w_498 ⟨by decide, by decide⟩ hK hP hD [0, 1] rfl rfl 0 rfl rfl rfl rfl hl.1 rfl (Nat.le_of_ble_eq_true rfl) d_Mo_readSector_7 ⟨Nat.zero_le _, Nat.zero_le _⟩) hP hD hS hA [0, 1] rfl [o0, ib] rfl rfl (fun H locs hP hD hS => ?_)
  generalize eg_1 : ytw f n q (-1024) 1024 = g_1 at hP hD ⊢
  have hP : va_P D cls ([(o0, .inr (5, [.int th, .ref ib, .int (nI n), .ref pb, .int (nI nm), .ref qb, .int (nI no), .int g_1.2.2.1, .int g_1.2.2.2.1, .int ck, .int g_1.2.1, .int g_1.2.2.2.2.1, .int g_1.2.2.2.2.2])), (ib, .inl (cB, 8192, .inl f))]) H := hP
  have hD : va_D A ([(o0, .inr (5, [.int th, .ref ib, .int (nI n), .ref pb, .int (nI nm), .ref qb, .int (nI no), .int g_1.2.2.1, .int g_1.2.2.2.1, .int ck, .int g_1.2.1, .int g_1.2.2.2.2.1, .int g_1.2.2.2.2.2])), (ib, .inl (cB, 8192, .inl f))]) := hD
  have ok_g_1 : ok5 n g_1.2 := by rw [← eg_1]; exact ok5_tw hq _ _
  refine lv_istore_n (lv' := [(2, .int g_1.1), (0, .ref o0), (1, .int t)]) hx hb d_Mo_readSector_10 rfl hl (by decide) rfl (fun ls hl => ?_)
  refine lv_aload_n hx hb d_Mo_readSector_11 rfl (lv_at hl 1 rfl) ?_
  refine va_get (D := D) (ci := 5) (v := .int g_1.2.1) (C := R_Mo) (T := T_Mo) (N := 13) hx hb hts i_Mo hown hK hP 0 rfl rfl 10 (by decide) (hts _ w_428) (fun _ h9 => h9) rfl d_Mo_readSector_12 ?_
  refine lv_istore_n (lv' := [(3, .int g_1.2.1), (2, .int g_1.1), (0, .ref o0), (1, .int t)]) hx hb d_Mo_readSector_15 rfl hl (by decide) rfl (fun ls hl => ?_)
  refine lv_aload_n hx hb d_Mo_readSector_16 rfl (lv_at hl 2 rfl) ?_
  refine lv_sipush (v := (-1024)) hx hb d_Mo_readSector_17 (by decide) ?_
  refine lv_sipush (v := 1024) hx hb d_Mo_readSector_20 (by decide) ?_
  refine pz_i (pz_rV (d := 2) (As := [.int (-1024), .int 1024]) (rest := []) X hN (c_Mo_nextTwo l D cB cI cS o0 ib pb qb th ck n nm no g_1.2 f (-1024) 1024 hn ok_g_1 _) k_Mo_nextTwo w_498 ⟨by decide, by decide⟩ hK hP hD [0, 1] rfl rfl 0 rfl rfl rfl rfl hl.1 rfl (Nat.le_of_ble_eq_true rfl) d_Mo_readSector_23 ⟨Nat.zero_le _, Nat.zero_le _⟩) hP hD hS hA [0, 1] rfl [o0, ib] rfl rfl (fun H locs hP hD hS => ?_)
  generalize eg_2 : ytw f n g_1.2 (-1024) 1024 = g_2 at hP hD ⊢
  have hP : va_P D cls ([(o0, .inr (5, [.int th, .ref ib, .int (nI n), .ref pb, .int (nI nm), .ref qb, .int (nI no), .int g_2.2.2.1, .int g_2.2.2.2.1, .int ck, .int g_2.2.1, .int g_2.2.2.2.2.1, .int g_2.2.2.2.2.2])), (ib, .inl (cB, 8192, .inl f))]) H := hP
  have hD : va_D A ([(o0, .inr (5, [.int th, .ref ib, .int (nI n), .ref pb, .int (nI nm), .ref qb, .int (nI no), .int g_2.2.2.1, .int g_2.2.2.2.1, .int ck, .int g_2.2.1, .int g_2.2.2.2.2.1, .int g_2.2.2.2.2.2])), (ib, .inl (cB, 8192, .inl f))]) := hD
  have ok_g_2 : ok5 n g_2.2 := by rw [← eg_2]; exact ok5_tw ok_g_1 _ _
  refine lv_istore (lv' := [(4, .int g_2.1), (3, .int g_1.2.1), (2, .int g_1.1), (0, .ref o0), (1, .int t)]) hx hb d_Mo_readSector_26 hl (by decide) rfl (fun ls hl => ?_)
  refine lv_aload_n hx hb d_Mo_readSector_28 rfl (lv_at hl 3 rfl) ?_
  refine va_get (D := D) (ci := 5) (v := .int g_2.2.2.1) (C := R_Mo) (T := T_Mo) (N := 13) hx hb hts i_Mo hown hK hP 0 rfl rfl 7 (by decide) (hts _ w_425) (fun _ h9 => h9) rfl d_Mo_readSector_29 ?_
  refine lv_if_ne (tgt := 47) hx hb d_Mo_readSector_32 (by decide) (fun c_3 => ?_) (fun c_3 => ?_)
  · refine lv_aload_n hx hb d_Mo_readSector_47 rfl (lv_at hl 3 rfl) ?_
    refine lv_iconst (v := 0) hx hb d_Mo_readSector_48 (by decide) ?_
    refine lv_iload_n hx hb d_Mo_readSector_49 rfl (lv_at hl 4 rfl) ?_
    refine lv_iconst (v := 1) hx hb d_Mo_readSector_50 (by decide) ?_
    refine lv_isub hx hb d_Mo_readSector_51 ?_
    refine pz_i (pz_rV (d := 1) (As := [.int 0, .int (t - 1)]) (rest := []) X hN (c_Mo_next l D cB cI cS o0 ib pb qb th ck n nm no g_2.2 f 0 (t - 1) hn ok_g_2 _) k_Mo_next w_486 ⟨by decide, by decide⟩ hK hP hD [0, 1] rfl rfl 0 rfl rfl rfl rfl hl.1 rfl (Nat.le_of_ble_eq_true rfl) d_Mo_readSector_52 ⟨Nat.zero_le _, Nat.zero_le _⟩) hP hD hS hA [0, 1] rfl [o0, ib] rfl rfl (fun H locs hP hD hS => ?_)
    generalize eg_4 : ynx f n g_2.2 0 (t - 1) = g_4 at hP hD ⊢
    have hP : va_P D cls ([(o0, .inr (5, [.int th, .ref ib, .int (nI n), .ref pb, .int (nI nm), .ref qb, .int (nI no), .int g_4.2.2.1, .int g_4.2.2.2.1, .int ck, .int g_4.2.1, .int g_4.2.2.2.2.1, .int g_4.2.2.2.2.2])), (ib, .inl (cB, 8192, .inl f))]) H := hP
    have hD : va_D A ([(o0, .inr (5, [.int th, .ref ib, .int (nI n), .ref pb, .int (nI nm), .ref qb, .int (nI no), .int g_4.2.2.1, .int g_4.2.2.2.1, .int ck, .int g_4.2.1, .int g_4.2.2.2.2.1, .int g_4.2.2.2.2.2])), (ib, .inl (cB, 8192, .inl f))]) := hD
    have ok_g_4 : ok5 n g_4.2 := by rw [← eg_4]; exact ok5_nx ok_g_2 _ _
    refine lv_istore (lv' := [(5, .int g_4.1), (4, .int g_2.1), (3, .int g_1.2.1), (2, .int g_1.1), (0, .ref o0), (1, .int t)]) hx hb d_Mo_readSector_55 hl (by decide) rfl (fun ls hl => ?_)
    refine lv_aload_n hx hb d_Mo_readSector_57 rfl (lv_at hl 4 rfl) ?_
    refine lv_iload_n hx hb d_Mo_readSector_58 rfl (lv_at hl 5 rfl) ?_
    refine pz_i (pz_rV (d := 2) (As := [.int t]) (rest := []) X hN (c_Mo_nextOr l D cB cI cS o0 ib pb qb th ck n nm no g_4.2 f t hn ok_g_4 _) k_Mo_nextOr w_514 ⟨by decide, by decide⟩ hK hP hD [0, 1] rfl rfl 0 rfl rfl rfl rfl hl.1 rfl (Nat.le_of_ble_eq_true rfl) d_Mo_readSector_59 ⟨Nat.zero_le _, Nat.zero_le _⟩) hP hD hS hA [0, 1] rfl [o0, ib] rfl rfl (fun H locs hP hD hS => ?_)
    generalize eg_5 : yor f n g_4.2 t = g_5 at hP hD ⊢
    have hP : va_P D cls ([(o0, .inr (5, [.int th, .ref ib, .int (nI n), .ref pb, .int (nI nm), .ref qb, .int (nI no), .int g_5.2.2.1, .int g_5.2.2.2.1, .int ck, .int g_5.2.1, .int g_5.2.2.2.2.1, .int g_5.2.2.2.2.2])), (ib, .inl (cB, 8192, .inl f))]) H := hP
    have hD : va_D A ([(o0, .inr (5, [.int th, .ref ib, .int (nI n), .ref pb, .int (nI nm), .ref qb, .int (nI no), .int g_5.2.2.1, .int g_5.2.2.2.1, .int ck, .int g_5.2.1, .int g_5.2.2.2.2.1, .int g_5.2.2.2.2.2])), (ib, .inl (cB, 8192, .inl f))]) := hD
    have ok_g_5 : ok5 n g_5.2 := by rw [← eg_5]; exact ok5_or ok_g_4 _
    refine lv_istore (lv' := [(6, .int g_5.1), (5, .int g_4.1), (4, .int g_2.1), (3, .int g_1.2.1), (2, .int g_1.1), (0, .ref o0), (1, .int t)]) hx hb d_Mo_readSector_62 hl (by decide) rfl (fun ls hl => ?_)
    refine lv_aload_n hx hb d_Mo_readSector_64 rfl (lv_at hl 5 rfl) ?_
    refine lv_iconst (v := 0) hx hb d_Mo_readSector_65 (by decide) ?_
    refine lv_bipush (v := 15) hx hb d_Mo_readSector_66 (by decide) ?_
    refine pz_i (pz_rV (d := 1) (As := [.int 0, .int 15]) (rest := []) X hN (c_Mo_next l D cB cI cS o0 ib pb qb th ck n nm no g_5.2 f 0 15 hn ok_g_5 _) k_Mo_next w_486 ⟨by decide, by decide⟩ hK hP hD [0, 1] rfl rfl 0 rfl rfl rfl rfl hl.1 rfl (Nat.le_of_ble_eq_true rfl) d_Mo_readSector_68 ⟨Nat.zero_le _, Nat.zero_le _⟩) hP hD hS hA [0, 1] rfl [o0, ib] rfl rfl (fun H locs hP hD hS => ?_)
    generalize eg_6 : ynx f n g_5.2 0 15 = g_6 at hP hD ⊢
    have hP : va_P D cls ([(o0, .inr (5, [.int th, .ref ib, .int (nI n), .ref pb, .int (nI nm), .ref qb, .int (nI no), .int g_6.2.2.1, .int g_6.2.2.2.1, .int ck, .int g_6.2.1, .int g_6.2.2.2.2.1, .int g_6.2.2.2.2.2])), (ib, .inl (cB, 8192, .inl f))]) H := hP
    have hD : va_D A ([(o0, .inr (5, [.int th, .ref ib, .int (nI n), .ref pb, .int (nI nm), .ref qb, .int (nI no), .int g_6.2.2.1, .int g_6.2.2.2.1, .int ck, .int g_6.2.1, .int g_6.2.2.2.2.1, .int g_6.2.2.2.2.2])), (ib, .inl (cB, 8192, .inl f))]) := hD
    have ok_g_6 : ok5 n g_6.2 := by rw [← eg_6]; exact ok5_nx ok_g_5 _ _
    refine lv_istore (lv' := [(7, .int g_6.1), (6, .int g_5.1), (5, .int g_4.1), (4, .int g_2.1), (3, .int g_1.2.1), (2, .int g_1.1), (0, .ref o0), (1, .int t)]) hx hb d_Mo_readSector_71 hl (by decide) rfl (fun ls hl => ?_)
    refine lv_aload_n hx hb d_Mo_readSector_73 rfl (lv_at hl 6 rfl) ?_
    refine lv_iconst (v := 0) hx hb d_Mo_readSector_74 (by decide) ?_
    refine lv_iconst (v := 3) hx hb d_Mo_readSector_75 (by decide) ?_
    refine pz_i (pz_rV (d := 1) (As := [.int 0, .int 3]) (rest := []) X hN (c_Mo_next l D cB cI cS o0 ib pb qb th ck n nm no g_6.2 f 0 3 hn ok_g_6 _) k_Mo_next w_486 ⟨by decide, by decide⟩ hK hP hD [0, 1] rfl rfl 0 rfl rfl rfl rfl hl.1 rfl (Nat.le_of_ble_eq_true rfl) d_Mo_readSector_76 ⟨Nat.zero_le _, Nat.zero_le _⟩) hP hD hS hA [0, 1] rfl [o0, ib] rfl rfl (fun H locs hP hD hS => ?_)
    generalize eg_7 : ynx f n g_6.2 0 3 = g_7 at hP hD ⊢
    have hP : va_P D cls ([(o0, .inr (5, [.int th, .ref ib, .int (nI n), .ref pb, .int (nI nm), .ref qb, .int (nI no), .int g_7.2.2.1, .int g_7.2.2.2.1, .int ck, .int g_7.2.1, .int g_7.2.2.2.2.1, .int g_7.2.2.2.2.2])), (ib, .inl (cB, 8192, .inl f))]) H := hP
    have hD : va_D A ([(o0, .inr (5, [.int th, .ref ib, .int (nI n), .ref pb, .int (nI nm), .ref qb, .int (nI no), .int g_7.2.2.1, .int g_7.2.2.2.1, .int ck, .int g_7.2.1, .int g_7.2.2.2.2.1, .int g_7.2.2.2.2.2])), (ib, .inl (cB, 8192, .inl f))]) := hD
    have ok_g_7 : ok5 n g_7.2 := by rw [← eg_7]; exact ok5_nx ok_g_6 _ _
    refine lv_istore (lv' := [(8, .int g_7.1), (7, .int g_6.1), (6, .int g_5.1), (5, .int g_4.1), (4, .int g_2.1), (3, .int g_1.2.1), (2, .int g_1.1), (0, .ref o0), (1, .int t)]) hx hb d_Mo_readSector_79 hl (by decide) rfl (fun ls hl => ?_)
    refine lv_aload_n hx hb d_Mo_readSector_81 rfl (lv_at hl 7 rfl) ?_
    refine lv_iconst (v := 0) hx hb d_Mo_readSector_82 (by decide) ?_
    refine lv_sipush (v := 255) hx hb d_Mo_readSector_83 (by decide) ?_
    refine pz_i (pz_rV (d := 1) (As := [.int 0, .int 255]) (rest := []) X hN (c_Mo_next l D cB cI cS o0 ib pb qb th ck n nm no g_7.2 f 0 255 hn ok_g_7 _) k_Mo_next w_486 ⟨by decide, by decide⟩ hK hP hD [0, 1] rfl rfl 0 rfl rfl rfl rfl hl.1 rfl (Nat.le_of_ble_eq_true rfl) d_Mo_readSector_86 ⟨Nat.zero_le _, Nat.zero_le _⟩) hP hD hS hA [0, 1] rfl [o0, ib] rfl rfl (fun H locs hP hD hS => ?_)
    generalize eg_8 : ynx f n g_7.2 0 255 = g_8 at hP hD ⊢
    have hP : va_P D cls ([(o0, .inr (5, [.int th, .ref ib, .int (nI n), .ref pb, .int (nI nm), .ref qb, .int (nI no), .int g_8.2.2.1, .int g_8.2.2.2.1, .int ck, .int g_8.2.1, .int g_8.2.2.2.2.1, .int g_8.2.2.2.2.2])), (ib, .inl (cB, 8192, .inl f))]) H := hP
    have hD : va_D A ([(o0, .inr (5, [.int th, .ref ib, .int (nI n), .ref pb, .int (nI nm), .ref qb, .int (nI no), .int g_8.2.2.1, .int g_8.2.2.2.1, .int ck, .int g_8.2.1, .int g_8.2.2.2.2.1, .int g_8.2.2.2.2.2])), (ib, .inl (cB, 8192, .inl f))]) := hD
    have ok_g_8 : ok5 n g_8.2 := by rw [← eg_8]; exact ok5_nx ok_g_7 _ _
    refine lv_istore (lv' := [(9, .int g_8.1), (8, .int g_7.1), (7, .int g_6.1), (6, .int g_5.1), (5, .int g_4.1), (4, .int g_2.1), (3, .int g_1.2.1), (2, .int g_1.1), (0, .ref o0), (1, .int t)]) hx hb d_Mo_readSector_89 hl (by decide) rfl (fun ls hl => ?_)
    exact fin _ _ _ _ _ d_Mo_readSector_91 hP hS (by simp only [ysc, ys7, ys6, ys5, ys4, ys3, ys2, ys1, eg_1, eg_2, eg_4, eg_5, eg_6, eg_7, eg_8, if_neg c_3])
  · refine lv_iload hx hb d_Mo_readSector_35 (lv_at hl 0 rfl) ?_
    refine lv_iload_n hx hb d_Mo_readSector_37 rfl (lv_at hl 2 rfl) ?_
    refine lv_icmp_gt (tgt := 47) hx hb d_Mo_readSector_38 (by decide) (fun c_9 => ?_) (fun c_9 => ?_)
    · refine lv_aload_n hx hb d_Mo_readSector_47 rfl (lv_at hl 3 rfl) ?_
      refine lv_iconst (v := 0) hx hb d_Mo_readSector_48 (by decide) ?_
      refine lv_iload_n hx hb d_Mo_readSector_49 rfl (lv_at hl 4 rfl) ?_
      refine lv_iconst (v := 1) hx hb d_Mo_readSector_50 (by decide) ?_
      refine lv_isub hx hb d_Mo_readSector_51 ?_
      refine pz_i (pz_rV (d := 1) (As := [.int 0, .int (t - 1)]) (rest := []) X hN (c_Mo_next l D cB cI cS o0 ib pb qb th ck n nm no g_2.2 f 0 (t - 1) hn ok_g_2 _) k_Mo_next w_486 ⟨by decide, by decide⟩ hK hP hD [0, 1] rfl rfl 0 rfl rfl rfl rfl hl.1 rfl (Nat.le_of_ble_eq_true rfl) d_Mo_readSector_52 ⟨Nat.zero_le _, Nat.zero_le _⟩) hP hD hS hA [0, 1] rfl [o0, ib] rfl rfl (fun H locs hP hD hS => ?_)
      generalize eg_10 : ynx f n g_2.2 0 (t - 1) = g_10 at hP hD ⊢
      have hP : va_P D cls ([(o0, .inr (5, [.int th, .ref ib, .int (nI n), .ref pb, .int (nI nm), .ref qb, .int (nI no), .int g_10.2.2.1, .int g_10.2.2.2.1, .int ck, .int g_10.2.1, .int g_10.2.2.2.2.1, .int g_10.2.2.2.2.2])), (ib, .inl (cB, 8192, .inl f))]) H := hP
      have hD : va_D A ([(o0, .inr (5, [.int th, .ref ib, .int (nI n), .ref pb, .int (nI nm), .ref qb, .int (nI no), .int g_10.2.2.1, .int g_10.2.2.2.1, .int ck, .int g_10.2.1, .int g_10.2.2.2.2.1, .int g_10.2.2.2.2.2])), (ib, .inl (cB, 8192, .inl f))]) := hD
      have ok_g_10 : ok5 n g_10.2 := by rw [← eg_10]; exact ok5_nx ok_g_2 _ _
      refine lv_istore (lv' := [(5, .int g_10.1), (4, .int g_2.1), (3, .int g_1.2.1), (2, .int g_1.1), (0, .ref o0), (1, .int t)]) hx hb d_Mo_readSector_55 hl (by decide) rfl (fun ls hl => ?_)
      refine lv_aload_n hx hb d_Mo_readSector_57 rfl (lv_at hl 4 rfl) ?_
      refine lv_iload_n hx hb d_Mo_readSector_58 rfl (lv_at hl 5 rfl) ?_
      refine pz_i (pz_rV (d := 2) (As := [.int t]) (rest := []) X hN (c_Mo_nextOr l D cB cI cS o0 ib pb qb th ck n nm no g_10.2 f t hn ok_g_10 _) k_Mo_nextOr w_514 ⟨by decide, by decide⟩ hK hP hD [0, 1] rfl rfl 0 rfl rfl rfl rfl hl.1 rfl (Nat.le_of_ble_eq_true rfl) d_Mo_readSector_59 ⟨Nat.zero_le _, Nat.zero_le _⟩) hP hD hS hA [0, 1] rfl [o0, ib] rfl rfl (fun H locs hP hD hS => ?_)
      generalize eg_11 : yor f n g_10.2 t = g_11 at hP hD ⊢
      have hP : va_P D cls ([(o0, .inr (5, [.int th, .ref ib, .int (nI n), .ref pb, .int (nI nm), .ref qb, .int (nI no), .int g_11.2.2.1, .int g_11.2.2.2.1, .int ck, .int g_11.2.1, .int g_11.2.2.2.2.1, .int g_11.2.2.2.2.2])), (ib, .inl (cB, 8192, .inl f))]) H := hP
      have hD : va_D A ([(o0, .inr (5, [.int th, .ref ib, .int (nI n), .ref pb, .int (nI nm), .ref qb, .int (nI no), .int g_11.2.2.1, .int g_11.2.2.2.1, .int ck, .int g_11.2.1, .int g_11.2.2.2.2.1, .int g_11.2.2.2.2.2])), (ib, .inl (cB, 8192, .inl f))]) := hD
      have ok_g_11 : ok5 n g_11.2 := by rw [← eg_11]; exact ok5_or ok_g_10 _
      refine lv_istore (lv' := [(6, .int g_11.1), (5, .int g_10.1), (4, .int g_2.1), (3, .int g_1.2.1), (2, .int g_1.1), (0, .ref o0), (1, .int t)]) hx hb d_Mo_readSector_62 hl (by decide) rfl (fun ls hl => ?_)
      refine lv_aload_n hx hb d_Mo_readSector_64 rfl (lv_at hl 5 rfl) ?_
      refine lv_iconst (v := 0) hx hb d_Mo_readSector_65 (by decide) ?_
      refine lv_bipush (v := 15) hx hb d_Mo_readSector_66 (by decide) ?_
      refine pz_i (pz_rV (d := 1) (As := [.int 0, .int 15]) (rest := []) X hN (c_Mo_next l D cB cI cS o0 ib pb qb th ck n nm no g_11.2 f 0 15 hn ok_g_11 _) k_Mo_next w_486 ⟨by decide, by decide⟩ hK hP hD [0, 1] rfl rfl 0 rfl rfl rfl rfl hl.1 rfl (Nat.le_of_ble_eq_true rfl) d_Mo_readSector_68 ⟨Nat.zero_le _, Nat.zero_le _⟩) hP hD hS hA [0, 1] rfl [o0, ib] rfl rfl (fun H locs hP hD hS => ?_)
      generalize eg_12 : ynx f n g_11.2 0 15 = g_12 at hP hD ⊢
      have hP : va_P D cls ([(o0, .inr (5, [.int th, .ref ib, .int (nI n), .ref pb, .int (nI nm), .ref qb, .int (nI no), .int g_12.2.2.1, .int g_12.2.2.2.1, .int ck, .int g_12.2.1, .int g_12.2.2.2.2.1, .int g_12.2.2.2.2.2])), (ib, .inl (cB, 8192, .inl f))]) H := hP
      have hD : va_D A ([(o0, .inr (5, [.int th, .ref ib, .int (nI n), .ref pb, .int (nI nm), .ref qb, .int (nI no), .int g_12.2.2.1, .int g_12.2.2.2.1, .int ck, .int g_12.2.1, .int g_12.2.2.2.2.1, .int g_12.2.2.2.2.2])), (ib, .inl (cB, 8192, .inl f))]) := hD
      have ok_g_12 : ok5 n g_12.2 := by rw [← eg_12]; exact ok5_nx ok_g_11 _ _
      refine lv_istore (lv' := [(7, .int g_12.1), (6, .int g_11.1), (5, .int g_10.1), (4, .int g_2.1), (3, .int g_1.2.1), (2, .int g_1.1), (0, .ref o0), (1, .int t)]) hx hb d_Mo_readSector_71 hl (by decide) rfl (fun ls hl => ?_)
      refine lv_aload_n hx hb d_Mo_readSector_73 rfl (lv_at hl 6 rfl) ?_
      refine lv_iconst (v := 0) hx hb d_Mo_readSector_74 (by decide) ?_
      refine lv_iconst (v := 3) hx hb d_Mo_readSector_75 (by decide) ?_
      refine pz_i (pz_rV (d := 1) (As := [.int 0, .int 3]) (rest := []) X hN (c_Mo_next l D cB cI cS o0 ib pb qb th ck n nm no g_12.2 f 0 3 hn ok_g_12 _) k_Mo_next w_486 ⟨by decide, by decide⟩ hK hP hD [0, 1] rfl rfl 0 rfl rfl rfl rfl hl.1 rfl (Nat.le_of_ble_eq_true rfl) d_Mo_readSector_76 ⟨Nat.zero_le _, Nat.zero_le _⟩) hP hD hS hA [0, 1] rfl [o0, ib] rfl rfl (fun H locs hP hD hS => ?_)
      generalize eg_13 : ynx f n g_12.2 0 3 = g_13 at hP hD ⊢
      have hP : va_P D cls ([(o0, .inr (5, [.int th, .ref ib, .int (nI n), .ref pb, .int (nI nm), .ref qb, .int (nI no), .int g_13.2.2.1, .int g_13.2.2.2.1, .int ck, .int g_13.2.1, .int g_13.2.2.2.2.1, .int g_13.2.2.2.2.2])), (ib, .inl (cB, 8192, .inl f))]) H := hP
      have hD : va_D A ([(o0, .inr (5, [.int th, .ref ib, .int (nI n), .ref pb, .int (nI nm), .ref qb, .int (nI no), .int g_13.2.2.1, .int g_13.2.2.2.1, .int ck, .int g_13.2.1, .int g_13.2.2.2.2.1, .int g_13.2.2.2.2.2])), (ib, .inl (cB, 8192, .inl f))]) := hD
      have ok_g_13 : ok5 n g_13.2 := by rw [← eg_13]; exact ok5_nx ok_g_12 _ _
      refine lv_istore (lv' := [(8, .int g_13.1), (7, .int g_12.1), (6, .int g_11.1), (5, .int g_10.1), (4, .int g_2.1), (3, .int g_1.2.1), (2, .int g_1.1), (0, .ref o0), (1, .int t)]) hx hb d_Mo_readSector_79 hl (by decide) rfl (fun ls hl => ?_)
      refine lv_aload_n hx hb d_Mo_readSector_81 rfl (lv_at hl 7 rfl) ?_
      refine lv_iconst (v := 0) hx hb d_Mo_readSector_82 (by decide) ?_
      refine lv_sipush (v := 255) hx hb d_Mo_readSector_83 (by decide) ?_
      refine pz_i (pz_rV (d := 1) (As := [.int 0, .int 255]) (rest := []) X hN (c_Mo_next l D cB cI cS o0 ib pb qb th ck n nm no g_13.2 f 0 255 hn ok_g_13 _) k_Mo_next w_486 ⟨by decide, by decide⟩ hK hP hD [0, 1] rfl rfl 0 rfl rfl rfl rfl hl.1 rfl (Nat.le_of_ble_eq_true rfl) d_Mo_readSector_86 ⟨Nat.zero_le _, Nat.zero_le _⟩) hP hD hS hA [0, 1] rfl [o0, ib] rfl rfl (fun H locs hP hD hS => ?_)
      generalize eg_14 : ynx f n g_13.2 0 255 = g_14 at hP hD ⊢
      have hP : va_P D cls ([(o0, .inr (5, [.int th, .ref ib, .int (nI n), .ref pb, .int (nI nm), .ref qb, .int (nI no), .int g_14.2.2.1, .int g_14.2.2.2.1, .int ck, .int g_14.2.1, .int g_14.2.2.2.2.1, .int g_14.2.2.2.2.2])), (ib, .inl (cB, 8192, .inl f))]) H := hP
      have hD : va_D A ([(o0, .inr (5, [.int th, .ref ib, .int (nI n), .ref pb, .int (nI nm), .ref qb, .int (nI no), .int g_14.2.2.1, .int g_14.2.2.2.1, .int ck, .int g_14.2.1, .int g_14.2.2.2.2.1, .int g_14.2.2.2.2.2])), (ib, .inl (cB, 8192, .inl f))]) := hD
      have ok_g_14 : ok5 n g_14.2 := by rw [← eg_14]; exact ok5_nx ok_g_13 _ _
      refine lv_istore (lv' := [(9, .int g_14.1), (8, .int g_13.1), (7, .int g_12.1), (6, .int g_11.1), (5, .int g_10.1), (4, .int g_2.1), (3, .int g_1.2.1), (2, .int g_1.1), (0, .ref o0), (1, .int t)]) hx hb d_Mo_readSector_89 hl (by decide) rfl (fun ls hl => ?_)
      exact fin _ _ _ _ _ d_Mo_readSector_91 hP hS (by simp only [ysc, ys7, ys6, ys5, ys4, ys3, ys2, ys1, eg_1, eg_2, eg_10, eg_11, eg_12, eg_13, eg_14, if_pos c_3, if_pos c_9])
    · refine lv_aload_n hx hb d_Mo_readSector_41 rfl (lv_at hl 3 rfl) ?_
      refine lv_iconst (v := 3) hx hb d_Mo_readSector_42 (by decide) ?_
      refine lv_iload_n hx hb d_Mo_readSector_43 rfl (lv_at hl 1 rfl) ?_
      refine pz_v (pz_rV (d := 0) (As := [.int 3, .int g_1.2.1]) (rest := []) X hN (c_Mo_wrong l D cB cI cS o0 ib pb qb th ck n nm no g_2.2 3 g_1.2.1 _) k_Mo_wrong w_490 ⟨by decide, by decide⟩ hK hP hD [0] rfl rfl 0 rfl rfl rfl rfl hl.1 rfl (Nat.le_of_ble_eq_true rfl) d_Mo_readSector_44 ⟨Nat.zero_le _, Nat.zero_le _⟩) hP hD hS hA [0] rfl [o0] rfl rfl (fun H locs hP hD hS => ?_)
      have hP : va_P D cls ([(o0, .inr (5, [.int th, .ref ib, .int (nI n), .ref pb, .int (nI nm), .ref qb, .int (nI no), .int ((ywr g_2.2 3 g_1.2.1).2.1), .int ((ywr g_2.2 3 g_1.2.1).2.2.1), .int ck, .int ((ywr g_2.2 3 g_1.2.1).1), .int ((ywr g_2.2 3 g_1.2.1).2.2.2.1), .int ((ywr g_2.2 3 g_1.2.1).2.2.2.2)])), (ib, .inl (cB, 8192, .inl f))]) H := hP
      have hD : va_D A ([(o0, .inr (5, [.int th, .ref ib, .int (nI n), .ref pb, .int (nI nm), .ref qb, .int (nI no), .int ((ywr g_2.2 3 g_1.2.1).2.1), .int ((ywr g_2.2 3 g_1.2.1).2.2.1), .int ck, .int ((ywr g_2.2 3 g_1.2.1).1), .int ((ywr g_2.2 3 g_1.2.1).2.2.2.1), .int ((ywr g_2.2 3 g_1.2.1).2.2.2.2)])), (ib, .inl (cB, 8192, .inl f))]) := hD
      refine lv_aload_n hx hb d_Mo_readSector_47 rfl (lv_at hl 3 rfl) ?_
      refine lv_iconst (v := 0) hx hb d_Mo_readSector_48 (by decide) ?_
      refine lv_iload_n hx hb d_Mo_readSector_49 rfl (lv_at hl 4 rfl) ?_
      refine lv_iconst (v := 1) hx hb d_Mo_readSector_50 (by decide) ?_
      refine lv_isub hx hb d_Mo_readSector_51 ?_
      refine pz_i (pz_rV (d := 1) (As := [.int 0, .int (t - 1)]) (rest := []) X hN (c_Mo_next l D cB cI cS o0 ib pb qb th ck n nm no (ywr g_2.2 3 g_1.2.1) f 0 (t - 1) hn (ok5_wr ok_g_2 _ _) _) k_Mo_next w_486 ⟨by decide, by decide⟩ hK hP hD [0, 1] rfl rfl 0 rfl rfl rfl rfl hl.1 rfl (Nat.le_of_ble_eq_true rfl) d_Mo_readSector_52 ⟨Nat.zero_le _, Nat.zero_le _⟩) hP hD hS hA [0, 1] rfl [o0, ib] rfl rfl (fun H locs hP hD hS => ?_)
      generalize eg_15 : ynx f n (ywr g_2.2 3 g_1.2.1) 0 (t - 1) = g_15 at hP hD ⊢
      have hP : va_P D cls ([(o0, .inr (5, [.int th, .ref ib, .int (nI n), .ref pb, .int (nI nm), .ref qb, .int (nI no), .int g_15.2.2.1, .int g_15.2.2.2.1, .int ck, .int g_15.2.1, .int g_15.2.2.2.2.1, .int g_15.2.2.2.2.2])), (ib, .inl (cB, 8192, .inl f))]) H := hP
      have hD : va_D A ([(o0, .inr (5, [.int th, .ref ib, .int (nI n), .ref pb, .int (nI nm), .ref qb, .int (nI no), .int g_15.2.2.1, .int g_15.2.2.2.1, .int ck, .int g_15.2.1, .int g_15.2.2.2.2.1, .int g_15.2.2.2.2.2])), (ib, .inl (cB, 8192, .inl f))]) := hD
      have ok_g_15 : ok5 n g_15.2 := by rw [← eg_15]; exact ok5_nx (ok5_wr ok_g_2 _ _) _ _
      refine lv_istore (lv' := [(5, .int g_15.1), (4, .int g_2.1), (3, .int g_1.2.1), (2, .int g_1.1), (0, .ref o0), (1, .int t)]) hx hb d_Mo_readSector_55 hl (by decide) rfl (fun ls hl => ?_)
      refine lv_aload_n hx hb d_Mo_readSector_57 rfl (lv_at hl 4 rfl) ?_
      refine lv_iload_n hx hb d_Mo_readSector_58 rfl (lv_at hl 5 rfl) ?_
      refine pz_i (pz_rV (d := 2) (As := [.int t]) (rest := []) X hN (c_Mo_nextOr l D cB cI cS o0 ib pb qb th ck n nm no g_15.2 f t hn ok_g_15 _) k_Mo_nextOr w_514 ⟨by decide, by decide⟩ hK hP hD [0, 1] rfl rfl 0 rfl rfl rfl rfl hl.1 rfl (Nat.le_of_ble_eq_true rfl) d_Mo_readSector_59 ⟨Nat.zero_le _, Nat.zero_le _⟩) hP hD hS hA [0, 1] rfl [o0, ib] rfl rfl (fun H locs hP hD hS => ?_)
      generalize eg_16 : yor f n g_15.2 t = g_16 at hP hD ⊢
      have hP : va_P D cls ([(o0, .inr (5, [.int th, .ref ib, .int (nI n), .ref pb, .int (nI nm), .ref qb, .int (nI no), .int g_16.2.2.1, .int g_16.2.2.2.1, .int ck, .int g_16.2.1, .int g_16.2.2.2.2.1, .int g_16.2.2.2.2.2])), (ib, .inl (cB, 8192, .inl f))]) H := hP
      have hD : va_D A ([(o0, .inr (5, [.int th, .ref ib, .int (nI n), .ref pb, .int (nI nm), .ref qb, .int (nI no), .int g_16.2.2.1, .int g_16.2.2.2.1, .int ck, .int g_16.2.1, .int g_16.2.2.2.2.1, .int g_16.2.2.2.2.2])), (ib, .inl (cB, 8192, .inl f))]) := hD
      have ok_g_16 : ok5 n g_16.2 := by rw [← eg_16]; exact ok5_or ok_g_15 _
      refine lv_istore (lv' := [(6, .int g_16.1), (5, .int g_15.1), (4, .int g_2.1), (3, .int g_1.2.1), (2, .int g_1.1), (0, .ref o0), (1, .int t)]) hx hb d_Mo_readSector_62 hl (by decide) rfl (fun ls hl => ?_)
      refine lv_aload_n hx hb d_Mo_readSector_64 rfl (lv_at hl 5 rfl) ?_
      refine lv_iconst (v := 0) hx hb d_Mo_readSector_65 (by decide) ?_
      refine lv_bipush (v := 15) hx hb d_Mo_readSector_66 (by decide) ?_
      refine pz_i (pz_rV (d := 1) (As := [.int 0, .int 15]) (rest := []) X hN (c_Mo_next l D cB cI cS o0 ib pb qb th ck n nm no g_16.2 f 0 15 hn ok_g_16 _) k_Mo_next w_486 ⟨by decide, by decide⟩ hK hP hD [0, 1] rfl rfl 0 rfl rfl rfl rfl hl.1 rfl (Nat.le_of_ble_eq_true rfl) d_Mo_readSector_68 ⟨Nat.zero_le _, Nat.zero_le _⟩) hP hD hS hA [0, 1] rfl [o0, ib] rfl rfl (fun H locs hP hD hS => ?_)
      generalize eg_17 : ynx f n g_16.2 0 15 = g_17 at hP hD ⊢
      have hP : va_P D cls ([(o0, .inr (5, [.int th, .ref ib, .int (nI n), .ref pb, .int (nI nm), .ref qb, .int (nI no), .int g_17.2.2.1, .int g_17.2.2.2.1, .int ck, .int g_17.2.1, .int g_17.2.2.2.2.1, .int g_17.2.2.2.2.2])), (ib, .inl (cB, 8192, .inl f))]) H := hP
      have hD : va_D A ([(o0, .inr (5, [.int th, .ref ib, .int (nI n), .ref pb, .int (nI nm), .ref qb, .int (nI no), .int g_17.2.2.1, .int g_17.2.2.2.1, .int ck, .int g_17.2.1, .int g_17.2.2.2.2.1, .int g_17.2.2.2.2.2])), (ib, .inl (cB, 8192, .inl f))]) := hD
      have ok_g_17 : ok5 n g_17.2 := by rw [← eg_17]; exact ok5_nx ok_g_16 _ _
      refine lv_istore (lv' := [(7, .int g_17.1), (6, .int g_16.1), (5, .int g_15.1), (4, .int g_2.1), (3, .int g_1.2.1), (2, .int g_1.1), (0, .ref o0), (1, .int t)]) hx hb d_Mo_readSector_71 hl (by decide) rfl (fun ls hl => ?_)
      refine lv_aload_n hx hb d_Mo_readSector_73 rfl (lv_at hl 6 rfl) ?_
      refine lv_iconst (v := 0) hx hb d_Mo_readSector_74 (by decide) ?_
      refine lv_iconst (v := 3) hx hb d_Mo_readSector_75 (by decide) ?_
      refine pz_i (pz_rV (d := 1) (As := [.int 0, .int 3]) (rest := []) X hN (c_Mo_next l D cB cI cS o0 ib pb qb th ck n nm no g_17.2 f 0 3 hn ok_g_17 _) k_Mo_next w_486 ⟨by decide, by decide⟩ hK hP hD [0, 1] rfl rfl 0 rfl rfl rfl rfl hl.1 rfl (Nat.le_of_ble_eq_true rfl) d_Mo_readSector_76 ⟨Nat.zero_le _, Nat.zero_le _⟩) hP hD hS hA [0, 1] rfl [o0, ib] rfl rfl (fun H locs hP hD hS => ?_)
      generalize eg_18 : ynx f n g_17.2 0 3 = g_18 at hP hD ⊢
      have hP : va_P D cls ([(o0, .inr (5, [.int th, .ref ib, .int (nI n), .ref pb, .int (nI nm), .ref qb, .int (nI no), .int g_18.2.2.1, .int g_18.2.2.2.1, .int ck, .int g_18.2.1, .int g_18.2.2.2.2.1, .int g_18.2.2.2.2.2])), (ib, .inl (cB, 8192, .inl f))]) H := hP
      have hD : va_D A ([(o0, .inr (5, [.int th, .ref ib, .int (nI n), .ref pb, .int (nI nm), .ref qb, .int (nI no), .int g_18.2.2.1, .int g_18.2.2.2.1, .int ck, .int g_18.2.1, .int g_18.2.2.2.2.1, .int g_18.2.2.2.2.2])), (ib, .inl (cB, 8192, .inl f))]) := hD
      have ok_g_18 : ok5 n g_18.2 := by rw [← eg_18]; exact ok5_nx ok_g_17 _ _
      refine lv_istore (lv' := [(8, .int g_18.1), (7, .int g_17.1), (6, .int g_16.1), (5, .int g_15.1), (4, .int g_2.1), (3, .int g_1.2.1), (2, .int g_1.1), (0, .ref o0), (1, .int t)]) hx hb d_Mo_readSector_79 hl (by decide) rfl (fun ls hl => ?_)
      refine lv_aload_n hx hb d_Mo_readSector_81 rfl (lv_at hl 7 rfl) ?_
      refine lv_iconst (v := 0) hx hb d_Mo_readSector_82 (by decide) ?_
      refine lv_sipush (v := 255) hx hb d_Mo_readSector_83 (by decide) ?_
      refine pz_i (pz_rV (d := 1) (As := [.int 0, .int 255]) (rest := []) X hN (c_Mo_next l D cB cI cS o0 ib pb qb th ck n nm no g_18.2 f 0 255 hn ok_g_18 _) k_Mo_next w_486 ⟨by decide, by decide⟩ hK hP hD [0, 1] rfl rfl 0 rfl rfl rfl rfl hl.1 rfl (Nat.le_of_ble_eq_true rfl) d_Mo_readSector_86 ⟨Nat.zero_le _, Nat.zero_le _⟩) hP hD hS hA [0, 1] rfl [o0, ib] rfl rfl (fun H locs hP hD hS => ?_)
      generalize eg_19 : ynx f n g_18.2 0 255 = g_19 at hP hD ⊢
      have hP : va_P D cls ([(o0, .inr (5, [.int th, .ref ib, .int (nI n), .ref pb, .int (nI nm), .ref qb, .int (nI no), .int g_19.2.2.1, .int g_19.2.2.2.1, .int ck, .int g_19.2.1, .int g_19.2.2.2.2.1, .int g_19.2.2.2.2.2])), (ib, .inl (cB, 8192, .inl f))]) H := hP
      have hD : va_D A ([(o0, .inr (5, [.int th, .ref ib, .int (nI n), .ref pb, .int (nI nm), .ref qb, .int (nI no), .int g_19.2.2.1, .int g_19.2.2.2.1, .int ck, .int g_19.2.1, .int g_19.2.2.2.2.1, .int g_19.2.2.2.2.2])), (ib, .inl (cB, 8192, .inl f))]) := hD
      have ok_g_19 : ok5 n g_19.2 := by rw [← eg_19]; exact ok5_nx ok_g_18 _ _
      refine lv_istore (lv' := [(9, .int g_19.1), (8, .int g_18.1), (7, .int g_17.1), (6, .int g_16.1), (5, .int g_15.1), (4, .int g_2.1), (3, .int g_1.2.1), (2, .int g_1.1), (0, .ref o0), (1, .int t)]) hx hb d_Mo_readSector_89 hl (by decide) rfl (fun ls hl => ?_)
      exact fin _ _ _ _ _ d_Mo_readSector_91 hP hS (by simp only [ysc, ys7, ys6, ys5, ys4, ys3, ys2, ys1, eg_1, eg_2, eg_15, eg_16, eg_17, eg_18, eg_19, if_pos c_3, if_neg c_9])

set_option maxRecDepth 100000 in
set_option maxHeartbeats 4000000 in
/-- readWall -/
theorem c_Mo_readWall (l : Launch) (D : va_G) (cB cI cS : ClassId) (o0 ib pb qb : Nat) (th ck : Int32) (n nm no : Nat) (q : S5) (f : Nat → Int32) (v t s_ : Int32) (hn : n ≤ 8192) (hq : ok5 n q) : mV l y_Mo_readWall b_Mo_readWall 12 (none) 3 D cls [(cB, .byte), (cI, .int), (cS, .object "MapLumps$Span")] [.ref o0, .int v, .int t, .int s_] ([(o0, .inr (5, [.int th, .ref ib, .int (nI n), .ref pb, .int (nI nm), .ref qb, .int (nI no), .int q.2.1, .int q.2.2.1, .int ck, .int q.1, .int q.2.2.2.1, .int q.2.2.2.2])), (ib, .inl (cB, 8192, .inl f))]) ([(o0, .inr (5, [.int th, .ref ib, .int (nI n), .ref pb, .int (nI nm), .ref qb, .int (nI no), .int ((ywa f n v t s_ q).2.1), .int ((ywa f n v t s_ q).2.2.1), .int ck, .int ((ywa f n v t s_ q).1), .int ((ywa f n v t s_ q).2.2.2.1), .int ((ywa f n v t s_ q).2.2.2.2)])), (ib, .inl (cB, 8192, .inl f))]) := by
  refine pz_openV (by decide) (Nat.le_of_ble_eq_true rfl) ?_
  intro p e s m below meth c A ls Q X hN hK hP hD hS hA hl fin
  obtain ⟨hx, hb, hml, hown, hts⟩ := id X
  have hl : lv_has ls 12 [(0, .ref o0), (1, .int v), (2, .int t), (3, .int s_)] := hl
  refine lv_aload_n hx hb d_Mo_readWall_0 rfl (lv_at hl 0 rfl) ?_
  refine lv_iconst (v := 0) hx hb d_Mo_readWall_1 (by decide) ?_
  refine lv_iload_n hx hb d_Mo_readWall_2 rfl (lv_at hl 1 rfl) ?_
  refine lv_iconst (v := 1) hx hb d_Mo_readWall_3 (by decide) ?_
  refine lv_isub hx hb d_Mo_readWall_4 ?_
  refine pz_i (pz_rV (d := 1) (As := [.int 0, .int (v - 1)]) (rest := []) X hN (c_Mo_next l D cB cI cS o0 ib pb qb th ck n nm no q f 0 (v - 1) hn hq _) k_Mo_next w_486 ⟨by decide, by decide⟩ hK hP hD [0, 1] rfl rfl 0 rfl rfl rfl rfl hl.1 rfl (Nat.le_of_ble_eq_true rfl) d_Mo_readWall_5 ⟨Nat.zero_le _, Nat.zero_le _⟩) hP hD hS hA [0, 1] rfl [o0, ib] rfl rfl (fun H locs hP hD hS => ?_)
  generalize eg_1 : ynx f n q 0 (v - 1) = g_1 at hP hD ⊢
  have hP : va_P D cls ([(o0, .inr (5, [.int th, .ref ib, .int (nI n), .ref pb, .int (nI nm), .ref qb, .int (nI no), .int g_1.2.2.1, .int g_1.2.2.2.1, .int ck, .int g_1.2.1, .int g_1.2.2.2.2.1, .int g_1.2.2.2.2.2])), (ib, .inl (cB, 8192, .inl f))]) H := hP
  have hD : va_D A ([(o0, .inr (5, [.int th, .ref ib, .int (nI n), .ref pb, .int (nI nm), .ref qb, .int (nI no), .int g_1.2.2.1, .int g_1.2.2.2.1, .int ck, .int g_1.2.1, .int g_1.2.2.2.2.1, .int g_1.2.2.2.2.2])), (ib, .inl (cB, 8192, .inl f))]) := hD
  have ok_g_1 : ok5 n g_1.2 := by rw [← eg_1]; exact ok5_nx hq _ _
  refine lv_istore (lv' := [(4, .int g_1.1), (0, .ref o0), (1, .int v), (2, .int t), (3, .int s_)]) hx hb d_Mo_readWall_8 hl (by decide) rfl (fun ls hl => ?_)
  refine lv_aload_n hx hb d_Mo_readWall_10 rfl (lv_at hl 1 rfl) ?_
  refine lv_iconst (v := 0) hx hb d_Mo_readWall_11 (by decide) ?_
  refine lv_iload_n hx hb d_Mo_readWall_12 rfl (lv_at hl 2 rfl) ?_
  refine lv_iconst (v := 1) hx hb d_Mo_readWall_13 (by decide) ?_
  refine lv_isub hx hb d_Mo_readWall_14 ?_
  refine pz_i (pz_rV (d := 1) (As := [.int 0, .int (v - 1)]) (rest := []) X hN (c_Mo_next l D cB cI cS o0 ib pb qb th ck n nm no g_1.2 f 0 (v - 1) hn ok_g_1 _) k_Mo_next w_486 ⟨by decide, by decide⟩ hK hP hD [0, 1] rfl rfl 0 rfl rfl rfl rfl hl.1 rfl (Nat.le_of_ble_eq_true rfl) d_Mo_readWall_15 ⟨Nat.zero_le _, Nat.zero_le _⟩) hP hD hS hA [0, 1] rfl [o0, ib] rfl rfl (fun H locs hP hD hS => ?_)
  generalize eg_2 : ynx f n g_1.2 0 (v - 1) = g_2 at hP hD ⊢
  have hP : va_P D cls ([(o0, .inr (5, [.int th, .ref ib, .int (nI n), .ref pb, .int (nI nm), .ref qb, .int (nI no), .int g_2.2.2.1, .int g_2.2.2.2.1, .int ck, .int g_2.2.1, .int g_2.2.2.2.2.1, .int g_2.2.2.2.2.2])), (ib, .inl (cB, 8192, .inl f))]) H := hP
  have hD : va_D A ([(o0, .inr (5, [.int th, .ref ib, .int (nI n), .ref pb, .int (nI nm), .ref qb, .int (nI no), .int g_2.2.2.1, .int g_2.2.2.2.1, .int ck, .int g_2.2.1, .int g_2.2.2.2.2.1, .int g_2.2.2.2.2.2])), (ib, .inl (cB, 8192, .inl f))]) := hD
  have ok_g_2 : ok5 n g_2.2 := by rw [← eg_2]; exact ok5_nx ok_g_1 _ _
  refine lv_istore (lv' := [(5, .int g_2.1), (4, .int g_1.1), (0, .ref o0), (1, .int v), (2, .int t), (3, .int s_)]) hx hb d_Mo_readWall_18 hl (by decide) rfl (fun ls hl => ?_)
  refine lv_aload_n hx hb d_Mo_readWall_20 rfl (lv_at hl 2 rfl) ?_
  refine va_get (D := D) (ci := 5) (v := .int g_2.2.2.1) (C := R_Mo) (T := T_Mo) (N := 13) hx hb hts i_Mo hown hK hP 0 rfl rfl 7 (by decide) (hts _ w_425) (fun _ h9 => h9) rfl d_Mo_readWall_21 ?_
  refine lv_if_ne (tgt := 45) hx hb d_Mo_readWall_24 (by decide) (fun c_3 => ?_) (fun c_3 => ?_)
  · refine lv_aload_n hx hb d_Mo_readWall_45 rfl (lv_at hl 2 rfl) ?_
    refine lv_iconst (v := 0) hx hb d_Mo_readWall_46 (by decide) ?_
    refine lv_iload_n hx hb d_Mo_readWall_47 rfl (lv_at hl 5 rfl) ?_
    refine lv_iconst (v := 1) hx hb d_Mo_readWall_48 (by decide) ?_
    refine lv_isub hx hb d_Mo_readWall_49 ?_
    refine pz_i (pz_rV (d := 1) (As := [.int 0, .int (s_ - 1)]) (rest := []) X hN (c_Mo_next l D cB cI cS o0 ib pb qb th ck n nm no g_2.2 f 0 (s_ - 1) hn ok_g_2 _) k_Mo_next w_486 ⟨by decide, by decide⟩ hK hP hD [0, 1] rfl rfl 0 rfl rfl rfl rfl hl.1 rfl (Nat.le_of_ble_eq_true rfl) d_Mo_readWall_50 ⟨Nat.zero_le _, Nat.zero_le _⟩) hP hD hS hA [0, 1] rfl [o0, ib] rfl rfl (fun H locs hP hD hS => ?_)
    generalize eg_4 : ynx f n g_2.2 0 (s_ - 1) = g_4 at hP hD ⊢
    have hP : va_P D cls ([(o0, .inr (5, [.int th, .ref ib, .int (nI n), .ref pb, .int (nI nm), .ref qb, .int (nI no), .int g_4.2.2.1, .int g_4.2.2.2.1, .int ck, .int g_4.2.1, .int g_4.2.2.2.2.1, .int g_4.2.2.2.2.2])), (ib, .inl (cB, 8192, .inl f))]) H := hP
    have hD : va_D A ([(o0, .inr (5, [.int th, .ref ib, .int (nI n), .ref pb, .int (nI nm), .ref qb, .int (nI no), .int g_4.2.2.1, .int g_4.2.2.2.1, .int ck, .int g_4.2.1, .int g_4.2.2.2.2.1, .int g_4.2.2.2.2.2])), (ib, .inl (cB, 8192, .inl f))]) := hD
    have ok_g_4 : ok5 n g_4.2 := by rw [← eg_4]; exact ok5_nx ok_g_2 _ _
    refine lv_istore (lv' := [(6, .int g_4.1), (5, .int g_2.1), (4, .int g_1.1), (0, .ref o0), (1, .int v), (2, .int t), (3, .int s_)]) hx hb d_Mo_readWall_53 hl (by decide) rfl (fun ls hl => ?_)
    refine lv_aload_n hx hb d_Mo_readWall_55 rfl (lv_at hl 3 rfl) ?_
    refine lv_iload_n hx hb d_Mo_readWall_56 rfl (lv_at hl 6 rfl) ?_
    refine pz_i (pz_rV (d := 2) (As := [.int s_]) (rest := []) X hN (c_Mo_nextOr l D cB cI cS o0 ib pb qb th ck n nm no g_4.2 f s_ hn ok_g_4 _) k_Mo_nextOr w_514 ⟨by decide, by decide⟩ hK hP hD [0, 1] rfl rfl 0 rfl rfl rfl rfl hl.1 rfl (Nat.le_of_ble_eq_true rfl) d_Mo_readWall_57 ⟨Nat.zero_le _, Nat.zero_le _⟩) hP hD hS hA [0, 1] rfl [o0, ib] rfl rfl (fun H locs hP hD hS => ?_)
    generalize eg_5 : yor f n g_4.2 s_ = g_5 at hP hD ⊢
    have hP : va_P D cls ([(o0, .inr (5, [.int th, .ref ib, .int (nI n), .ref pb, .int (nI nm), .ref qb, .int (nI no), .int g_5.2.2.1, .int g_5.2.2.2.1, .int ck, .int g_5.2.1, .int g_5.2.2.2.2.1, .int g_5.2.2.2.2.2])), (ib, .inl (cB, 8192, .inl f))]) H := hP
    have hD : va_D A ([(o0, .inr (5, [.int th, .ref ib, .int (nI n), .ref pb, .int (nI nm), .ref qb, .int (nI no), .int g_5.2.2.1, .int g_5.2.2.2.1, .int ck, .int g_5.2.1, .int g_5.2.2.2.2.1, .int g_5.2.2.2.2.2])), (ib, .inl (cB, 8192, .inl f))]) := hD
    have ok_g_5 : ok5 n g_5.2 := by rw [← eg_5]; exact ok5_or ok_g_4 _
    refine lv_istore (lv' := [(7, .int g_5.1), (6, .int g_4.1), (5, .int g_2.1), (4, .int g_1.1), (0, .ref o0), (1, .int v), (2, .int t), (3, .int s_)]) hx hb d_Mo_readWall_60 hl (by decide) rfl (fun ls hl => ?_)
    refine lv_iconst (v := 0) hx hb d_Mo_readWall_62 (by decide) ?_
    refine lv_istore (lv' := [(8, .int 0), (7, .int g_5.1), (6, .int g_4.1), (5, .int g_2.1), (4, .int g_1.1), (0, .ref o0), (1, .int v), (2, .int t), (3, .int s_)]) hx hb d_Mo_readWall_63 hl (by decide) rfl (fun ls hl => ?_)
    have hw6 : yw6 f n v t s_ q = ywt f n t g_5.1 6 0 g_5.2 := by simp only [yw6, yw5, yw4, yw3, yw2, yw1, eg_1, eg_2, eg_4, eg_5, if_neg c_3]
    have lp_3 : ∀ (j3 : Nat) (k : Nat) (z : S5) (ls : Array Slot) (H : Heap) (locs : List Loc), j3 + k = 6 → ok5 n z → ywt f n t g_5.1 6 0 g_5.2 = ywt f n t g_5.1 j3 k z → va_P D cls ([(o0, .inr (5, [.int th, .ref ib, .int (nI n), .ref pb, .int (nI nm), .ref qb, .int (nI no), .int z.2.1, .int z.2.2.1, .int ck, .int z.1, .int z.2.2.2.1, .int z.2.2.2.2])), (ib, .inl (cB, 8192, .inl f))]) H → va_D A ([(o0, .inr (5, [.int th, .ref ib, .int (nI n), .ref pb, .int (nI nm), .ref qb, .int (nI no), .int z.2.1, .int z.2.2.1, .int ck, .int z.1, .int z.2.2.2.1, .int z.2.2.2.2])), (ib, .inl (cB, 8192, .inl f))]) → va_S A s.heap H locs → lv_has ls 12 [(0, .ref o0), (1, .int v), (2, .int t), (3, .int s_), (7, .int g_5.1), (8, .int (nI k))] → W p l e (rmd 3) s m ([.ref o0, .int v, .int t, .int s_] : List Value).toArray below meth c H locs 0 0 Q (F0 m 65 ls []) := by
      intro j3
      induction j3 with
      | zero =>
        intro k z ls H locs hi hz he hP hD hS hl
        refine lv_iload hx hb d_Mo_readWall_65 (lv_at hl 5 rfl) ?_
        refine lv_bipush (v := 6) hx hb d_Mo_readWall_67 (by decide) ?_
        refine lv_icmp_ge (tgt := 125) hx hb d_Mo_readWall_69 (by decide) (fun c_6 => ?_) (fun c_6 => ?_)
        · refine lv_aload_n hx hb d_Mo_readWall_125 rfl (lv_at hl 0 rfl) ?_
          refine lv_iconst (v := 0) hx hb d_Mo_readWall_126 (by decide) ?_
          refine lv_sipush (v := 255) hx hb d_Mo_readWall_127 (by decide) ?_
          refine pz_i (pz_rV (d := 1) (As := [.int 0, .int 255]) (rest := []) X hN (c_Mo_next l D cB cI cS o0 ib pb qb th ck n nm no z f 0 255 hn hz _) k_Mo_next w_486 ⟨by decide, by decide⟩ hK hP hD [0, 1] rfl rfl 0 rfl rfl rfl rfl hl.1 rfl (Nat.le_of_ble_eq_true rfl) d_Mo_readWall_130 ⟨Nat.zero_le _, Nat.zero_le _⟩) hP hD hS hA [0, 1] rfl [o0, ib] rfl rfl (fun H locs hP hD hS => ?_)
          generalize eg_7 : ynx f n z 0 255 = g_7 at hP hD ⊢
          have hP : va_P D cls ([(o0, .inr (5, [.int th, .ref ib, .int (nI n), .ref pb, .int (nI nm), .ref qb, .int (nI no), .int g_7.2.2.1, .int g_7.2.2.2.1, .int ck, .int g_7.2.1, .int g_7.2.2.2.2.1, .int g_7.2.2.2.2.2])), (ib, .inl (cB, 8192, .inl f))]) H := hP
          have hD : va_D A ([(o0, .inr (5, [.int th, .ref ib, .int (nI n), .ref pb, .int (nI nm), .ref qb, .int (nI no), .int g_7.2.2.1, .int g_7.2.2.2.1, .int ck, .int g_7.2.1, .int g_7.2.2.2.2.1, .int g_7.2.2.2.2.2])), (ib, .inl (cB, 8192, .inl f))]) := hD
          have ok_g_7 : ok5 n g_7.2 := by rw [← eg_7]; exact ok5_nx hz _ _
          refine lv_istore (lv' := [(8, .int g_7.1), (0, .ref o0), (1, .int v), (2, .int t), (3, .int s_), (7, .int g_5.1)]) hx hb d_Mo_readWall_133 hl (by decide) rfl (fun ls hl => ?_)
          refine lv_aload_n hx hb d_Mo_readWall_135 rfl (lv_at hl 1 rfl) ?_
          refine lv_iconst (v := 0) hx hb d_Mo_readWall_136 (by decide) ?_
          refine lv_iconst (v := 3) hx hb d_Mo_readWall_137 (by decide) ?_
          refine pz_i (pz_rV (d := 1) (As := [.int 0, .int 3]) (rest := []) X hN (c_Mo_next l D cB cI cS o0 ib pb qb th ck n nm no g_7.2 f 0 3 hn ok_g_7 _) k_Mo_next w_486 ⟨by decide, by decide⟩ hK hP hD [0, 1] rfl rfl 0 rfl rfl rfl rfl hl.1 rfl (Nat.le_of_ble_eq_true rfl) d_Mo_readWall_138 ⟨Nat.zero_le _, Nat.zero_le _⟩) hP hD hS hA [0, 1] rfl [o0, ib] rfl rfl (fun H locs hP hD hS => ?_)
          generalize eg_8 : ynx f n g_7.2 0 3 = g_8 at hP hD ⊢
          have hP : va_P D cls ([(o0, .inr (5, [.int th, .ref ib, .int (nI n), .ref pb, .int (nI nm), .ref qb, .int (nI no), .int g_8.2.2.1, .int g_8.2.2.2.1, .int ck, .int g_8.2.1, .int g_8.2.2.2.2.1, .int g_8.2.2.2.2.2])), (ib, .inl (cB, 8192, .inl f))]) H := hP
          have hD : va_D A ([(o0, .inr (5, [.int th, .ref ib, .int (nI n), .ref pb, .int (nI nm), .ref qb, .int (nI no), .int g_8.2.2.1, .int g_8.2.2.2.1, .int ck, .int g_8.2.1, .int g_8.2.2.2.2.1, .int g_8.2.2.2.2.2])), (ib, .inl (cB, 8192, .inl f))]) := hD
          have ok_g_8 : ok5 n g_8.2 := by rw [← eg_8]; exact ok5_nx ok_g_7 _ _
          refine lv_istore (lv' := [(9, .int g_8.1), (8, .int g_7.1), (0, .ref o0), (1, .int v), (2, .int t), (3, .int s_), (7, .int g_5.1)]) hx hb d_Mo_readWall_141 hl (by decide) rfl (fun ls hl => ?_)
          refine lv_aload_n hx hb d_Mo_readWall_143 rfl (lv_at hl 2 rfl) ?_
          refine lv_iconst (v := 0) hx hb d_Mo_readWall_144 (by decide) ?_
          refine lv_iconst (v := 5) hx hb d_Mo_readWall_145 (by decide) ?_
          refine pz_i (pz_rV (d := 1) (As := [.int 0, .int 5]) (rest := []) X hN (c_Mo_next l D cB cI cS o0 ib pb qb th ck n nm no g_8.2 f 0 5 hn ok_g_8 _) k_Mo_next w_486 ⟨by decide, by decide⟩ hK hP hD [0, 1] rfl rfl 0 rfl rfl rfl rfl hl.1 rfl (Nat.le_of_ble_eq_true rfl) d_Mo_readWall_146 ⟨Nat.zero_le _, Nat.zero_le _⟩) hP hD hS hA [0, 1] rfl [o0, ib] rfl rfl (fun H locs hP hD hS => ?_)
          generalize eg_9 : ynx f n g_8.2 0 5 = g_9 at hP hD ⊢
          have hP : va_P D cls ([(o0, .inr (5, [.int th, .ref ib, .int (nI n), .ref pb, .int (nI nm), .ref qb, .int (nI no), .int g_9.2.2.1, .int g_9.2.2.2.1, .int ck, .int g_9.2.1, .int g_9.2.2.2.2.1, .int g_9.2.2.2.2.2])), (ib, .inl (cB, 8192, .inl f))]) H := hP
          have hD : va_D A ([(o0, .inr (5, [.int th, .ref ib, .int (nI n), .ref pb, .int (nI nm), .ref qb, .int (nI no), .int g_9.2.2.1, .int g_9.2.2.2.1, .int ck, .int g_9.2.1, .int g_9.2.2.2.2.1, .int g_9.2.2.2.2.2])), (ib, .inl (cB, 8192, .inl f))]) := hD
          have ok_g_9 : ok5 n g_9.2 := by rw [← eg_9]; exact ok5_nx ok_g_8 _ _
          refine lv_istore (lv' := [(10, .int g_9.1), (9, .int g_8.1), (8, .int g_7.1), (0, .ref o0), (1, .int v), (2, .int t), (3, .int s_), (7, .int g_5.1)]) hx hb d_Mo_readWall_149 hl (by decide) rfl (fun ls hl => ?_)
          refine lv_aload_n hx hb d_Mo_readWall_151 rfl (lv_at hl 3 rfl) ?_
          refine lv_iconst (v := 0) hx hb d_Mo_readWall_152 (by decide) ?_
          refine lv_sipush (v := 255) hx hb d_Mo_readWall_153 (by decide) ?_
          refine pz_i (pz_rV (d := 1) (As := [.int 0, .int 255]) (rest := []) X hN (c_Mo_next l D cB cI cS o0 ib pb qb th ck n nm no g_9.2 f 0 255 hn ok_g_9 _) k_Mo_next w_486 ⟨by decide, by decide⟩ hK hP hD [0, 1] rfl rfl 0 rfl rfl rfl rfl hl.1 rfl (Nat.le_of_ble_eq_true rfl) d_Mo_readWall_156 ⟨Nat.zero_le _, Nat.zero_le _⟩) hP hD hS hA [0, 1] rfl [o0, ib] rfl rfl (fun H locs hP hD hS => ?_)
          generalize eg_10 : ynx f n g_9.2 0 255 = g_10 at hP hD ⊢
          have hP : va_P D cls ([(o0, .inr (5, [.int th, .ref ib, .int (nI n), .ref pb, .int (nI nm), .ref qb, .int (nI no), .int g_10.2.2.1, .int g_10.2.2.2.1, .int ck, .int g_10.2.1, .int g_10.2.2.2.2.1, .int g_10.2.2.2.2.2])), (ib, .inl (cB, 8192, .inl f))]) H := hP
          have hD : va_D A ([(o0, .inr (5, [.int th, .ref ib, .int (nI n), .ref pb, .int (nI nm), .ref qb, .int (nI no), .int g_10.2.2.1, .int g_10.2.2.2.1, .int ck, .int g_10.2.1, .int g_10.2.2.2.2.1, .int g_10.2.2.2.2.2])), (ib, .inl (cB, 8192, .inl f))]) := hD
          have ok_g_10 : ok5 n g_10.2 := by rw [← eg_10]; exact ok5_nx ok_g_9 _ _
          refine lv_istore (lv' := [(11, .int g_10.1), (10, .int g_9.1), (9, .int g_8.1), (8, .int g_7.1), (0, .ref o0), (1, .int v), (2, .int t), (3, .int s_), (7, .int g_5.1)]) hx hb d_Mo_readWall_159 hl (by decide) rfl (fun ls hl => ?_)
          exact fin _ _ _ _ _ d_Mo_readWall_161 hP hS (by simp only [ywa]; rw [hw6, he]; simp only [ywt, eg_7, eg_8, eg_9, eg_10])
        · exact (c_6 (show nI 6 ≤ nI k by rw [nI_leI (by omega) (by omega)]; omega)).elim
      | succ j3 ih3 =>
        intro k z ls H locs hi hz he hP hD hS hl
        refine lv_iload hx hb d_Mo_readWall_65 (lv_at hl 5 rfl) ?_
        refine lv_bipush (v := 6) hx hb d_Mo_readWall_67 (by decide) ?_
        refine lv_icmp_ge (tgt := 125) hx hb d_Mo_readWall_69 (by decide) (fun c_11 => ?_) (fun c_11 => ?_)
        · exact absurd c_11 (show ¬ nI 6 ≤ nI k by rw [nI_leI (by omega) (by omega)]; omega)
        · refine lv_aload_n hx hb d_Mo_readWall_72 rfl (lv_at hl 0 rfl) ?_
          refine lv_iload_n hx hb d_Mo_readWall_73 rfl (lv_at hl 2 rfl) ?_
          refine pz_i (pz_rV (d := 2) (As := [.int t]) (rest := []) X hN (c_Mo_nextOr l D cB cI cS o0 ib pb qb th ck n nm no z f t hn hz _) k_Mo_nextOr w_514 ⟨by decide, by decide⟩ hK hP hD [0, 1] rfl rfl 0 rfl rfl rfl rfl hl.1 rfl (Nat.le_of_ble_eq_true rfl) d_Mo_readWall_74 ⟨Nat.zero_le _, Nat.zero_le _⟩) hP hD hS hA [0, 1] rfl [o0, ib] rfl rfl (fun H locs hP hD hS => ?_)
          generalize eg_12 : yor f n z t = g_12 at hP hD ⊢
          have hP : va_P D cls ([(o0, .inr (5, [.int th, .ref ib, .int (nI n), .ref pb, .int (nI nm), .ref qb, .int (nI no), .int g_12.2.2.1, .int g_12.2.2.2.1, .int ck, .int g_12.2.1, .int g_12.2.2.2.2.1, .int g_12.2.2.2.2.2])), (ib, .inl (cB, 8192, .inl f))]) H := hP
          have hD : va_D A ([(o0, .inr (5, [.int th, .ref ib, .int (nI n), .ref pb, .int (nI nm), .ref qb, .int (nI no), .int g_12.2.2.1, .int g_12.2.2.2.1, .int ck, .int g_12.2.1, .int g_12.2.2.2.2.1, .int g_12.2.2.2.2.2])), (ib, .inl (cB, 8192, .inl f))]) := hD
          have ok_g_12 : ok5 n g_12.2 := by rw [← eg_12]; exact ok5_or hz _
          refine lv_istore (lv' := [(9, .int g_12.1), (0, .ref o0), (1, .int v), (2, .int t), (3, .int s_), (7, .int g_5.1), (8, .int (nI k))]) hx hb d_Mo_readWall_77 hl (by decide) rfl (fun ls hl => ?_)
          refine lv_aload_n hx hb d_Mo_readWall_79 rfl (lv_at hl 1 rfl) ?_
          refine va_get (D := D) (ci := 5) (v := .int g_12.2.2.1) (C := R_Mo) (T := T_Mo) (N := 13) hx hb hts i_Mo hown hK hP 0 rfl rfl 7 (by decide) (hts _ w_425) (fun _ h9 => h9) rfl d_Mo_readWall_80 ?_
          refine lv_if_ne (tgt := 119) hx hb d_Mo_readWall_83 (by decide) (fun c_13 => ?_) (fun c_13 => ?_)
          · refine lv_iinc (v := nI (k + 1)) (lv' := [(8, .int (nI (k + 1))), (9, .int g_12.1), (0, .ref o0), (1, .int v), (2, .int t), (3, .int s_), (7, .int g_5.1)]) hx hb d_Mo_readWall_119 hl (k := 6) rfl (nI_1 k) (by decide) rfl (fun ls hl => ?_)
            refine lv_goto (tgt := 65) hx hb d_Mo_readWall_122 (by decide) ?_
            exact ih3 (k + 1) g_12.2 _ _ _ (by omega) (ok_g_12) (by rw [he, ywt]; simp only [yws, eg_1, eg_2, eg_4, eg_5, eg_12, if_neg c_3, if_neg c_11, if_neg c_13]) hP hD hS (lv_sub hl [2, 3, 4, 5, 6, 0] rfl)
          · refine lv_iload hx hb d_Mo_readWall_86 (lv_at hl 6 rfl) ?_
            refine lv_iconst (v := 2) hx hb d_Mo_readWall_88 (by decide) ?_
            refine lv_icmp_le (tgt := 119) hx hb d_Mo_readWall_89 (by decide) (fun c_14 => ?_) (fun c_14 => ?_)
            · refine lv_iinc (v := nI (k + 1)) (lv' := [(8, .int (nI (k + 1))), (9, .int g_12.1), (0, .ref o0), (1, .int v), (2, .int t), (3, .int s_), (7, .int g_5.1)]) hx hb d_Mo_readWall_119 hl (k := 6) rfl (nI_1 k) (by decide) rfl (fun ls hl => ?_)
              refine lv_goto (tgt := 65) hx hb d_Mo_readWall_122 (by decide) ?_
              exact ih3 (k + 1) g_12.2 _ _ _ (by omega) (ok_g_12) (by rw [he, ywt]; simp only [yws, eg_1, eg_2, eg_4, eg_5, eg_12, if_neg c_3, if_neg c_11, if_pos c_13, if_pos c_14]) hP hD hS (lv_sub hl [2, 3, 4, 5, 6, 0] rfl)
            · refine lv_iload hx hb d_Mo_readWall_92 (lv_at hl 5 rfl) ?_
              refine lv_sipush (v := 255) hx hb d_Mo_readWall_94 (by decide) ?_
              refine lv_icmp_ne (tgt := 119) hx hb d_Mo_readWall_97 (by decide) (fun c_15 => ?_) (fun c_15 => ?_)
              · refine lv_iinc (v := nI (k + 1)) (lv' := [(8, .int (nI (k + 1))), (9, .int g_12.1), (0, .ref o0), (1, .int v), (2, .int t), (3, .int s_), (7, .int g_5.1)]) hx hb d_Mo_readWall_119 hl (k := 6) rfl (nI_1 k) (by decide) rfl (fun ls hl => ?_)
                refine lv_goto (tgt := 65) hx hb d_Mo_readWall_122 (by decide) ?_
                exact ih3 (k + 1) g_12.2 _ _ _ (by omega) (ok_g_12) (by rw [he, ywt]; simp only [yws, eg_1, eg_2, eg_4, eg_5, eg_12, if_neg c_3, if_neg c_11, if_pos c_13, if_neg c_14, if_neg c_15]) hP hD hS (lv_sub hl [2, 3, 4, 5, 6, 0] rfl)
              · refine lv_iload hx hb d_Mo_readWall_100 (lv_at hl 0 rfl) ?_
                refine lv_sipush (v := 255) hx hb d_Mo_readWall_102 (by decide) ?_
                refine lv_icmp_eq (tgt := 119) hx hb d_Mo_readWall_105 (by decide) (fun c_16 => ?_) (fun c_16 => ?_)
                · refine lv_iinc (v := nI (k + 1)) (lv' := [(8, .int (nI (k + 1))), (9, .int g_12.1), (0, .ref o0), (1, .int v), (2, .int t), (3, .int s_), (7, .int g_5.1)]) hx hb d_Mo_readWall_119 hl (k := 6) rfl (nI_1 k) (by decide) rfl (fun ls hl => ?_)
                  refine lv_goto (tgt := 65) hx hb d_Mo_readWall_122 (by decide) ?_
                  exact ih3 (k + 1) g_12.2 _ _ _ (by omega) (ok_g_12) (by rw [he, ywt]; simp only [yws, eg_1, eg_2, eg_4, eg_5, eg_12, if_neg c_3, if_neg c_11, if_pos c_13, if_neg c_14, if_pos c_15, if_pos c_16]) hP hD hS (lv_sub hl [2, 3, 4, 5, 6, 0] rfl)
                · refine lv_aload_n hx hb d_Mo_readWall_108 rfl (lv_at hl 1 rfl) ?_
                  refine lv_iconst (v := 3) hx hb d_Mo_readWall_109 (by decide) ?_
                  refine lv_aload_n hx hb d_Mo_readWall_110 rfl (lv_at hl 1 rfl) ?_
                  refine va_get (D := D) (ci := 5) (v := .int g_12.2.1) (C := R_Mo) (T := T_Mo) (N := 13) hx hb hts i_Mo hown hK hP 0 rfl rfl 10 (by decide) (hts _ w_428) (fun _ h9 => h9) rfl d_Mo_readWall_111 ?_
                  refine lv_iconst (v := 1) hx hb d_Mo_readWall_114 (by decide) ?_
                  refine lv_isub hx hb d_Mo_readWall_115 ?_
                  refine pz_v (pz_rV (d := 0) (As := [.int 3, .int (g_12.2.1 - 1)]) (rest := []) X hN (c_Mo_wrong l D cB cI cS o0 ib pb qb th ck n nm no g_12.2 3 (g_12.2.1 - 1) _) k_Mo_wrong w_490 ⟨by decide, by decide⟩ hK hP hD [0] rfl rfl 0 rfl rfl rfl rfl hl.1 rfl (Nat.le_of_ble_eq_true rfl) d_Mo_readWall_116 ⟨Nat.zero_le _, Nat.zero_le _⟩) hP hD hS hA [0] rfl [o0] rfl rfl (fun H locs hP hD hS => ?_)
                  have hP : va_P D cls ([(o0, .inr (5, [.int th, .ref ib, .int (nI n), .ref pb, .int (nI nm), .ref qb, .int (nI no), .int ((ywr g_12.2 3 (g_12.2.1 - 1)).2.1), .int ((ywr g_12.2 3 (g_12.2.1 - 1)).2.2.1), .int ck, .int ((ywr g_12.2 3 (g_12.2.1 - 1)).1), .int ((ywr g_12.2 3 (g_12.2.1 - 1)).2.2.2.1), .int ((ywr g_12.2 3 (g_12.2.1 - 1)).2.2.2.2)])), (ib, .inl (cB, 8192, .inl f))]) H := hP
                  have hD : va_D A ([(o0, .inr (5, [.int th, .ref ib, .int (nI n), .ref pb, .int (nI nm), .ref qb, .int (nI no), .int ((ywr g_12.2 3 (g_12.2.1 - 1)).2.1), .int ((ywr g_12.2 3 (g_12.2.1 - 1)).2.2.1), .int ck, .int ((ywr g_12.2 3 (g_12.2.1 - 1)).1), .int ((ywr g_12.2 3 (g_12.2.1 - 1)).2.2.2.1), .int ((ywr g_12.2 3 (g_12.2.1 - 1)).2.2.2.2)])), (ib, .inl (cB, 8192, .inl f))]) := hD
                  refine lv_iinc (v := nI (k + 1)) (lv' := [(8, .int (nI (k + 1))), (9, .int g_12.1), (0, .ref o0), (1, .int v), (2, .int t), (3, .int s_), (7, .int g_5.1)]) hx hb d_Mo_readWall_119 hl (k := 6) rfl (nI_1 k) (by decide) rfl (fun ls hl => ?_)
                  refine lv_goto (tgt := 65) hx hb d_Mo_readWall_122 (by decide) ?_
                  exact ih3 (k + 1) (ywr g_12.2 3 (g_12.2.1 - 1)) _ _ _ (by omega) ((ok5_wr ok_g_12 _ _)) (by rw [he, ywt]; simp only [yws, eg_1, eg_2, eg_4, eg_5, eg_12, if_neg c_3, if_neg c_11, if_pos c_13, if_neg c_14, if_pos c_15, if_neg c_16]) hP hD hS (lv_sub hl [2, 3, 4, 5, 6, 0] rfl)
    exact lp_3 6 0 g_5.2 _ _ _ (by omega) (ok_g_5) (rfl) hP hD hS (lv_sub hl [5, 6, 7, 8, 1, 0] rfl)
  · refine lv_iload hx hb d_Mo_readWall_27 (lv_at hl 1 rfl) ?_
    refine lv_iload hx hb d_Mo_readWall_29 (lv_at hl 0 rfl) ?_
    refine lv_icmp_ne (tgt := 45) hx hb d_Mo_readWall_31 (by decide) (fun c_17 => ?_) (fun c_17 => ?_)
    · refine lv_aload_n hx hb d_Mo_readWall_45 rfl (lv_at hl 2 rfl) ?_
      refine lv_iconst (v := 0) hx hb d_Mo_readWall_46 (by decide) ?_
      refine lv_iload_n hx hb d_Mo_readWall_47 rfl (lv_at hl 5 rfl) ?_
      refine lv_iconst (v := 1) hx hb d_Mo_readWall_48 (by decide) ?_
      refine lv_isub hx hb d_Mo_readWall_49 ?_
      refine pz_i (pz_rV (d := 1) (As := [.int 0, .int (s_ - 1)]) (rest := []) X hN (c_Mo_next l D cB cI cS o0 ib pb qb th ck n nm no g_2.2 f 0 (s_ - 1) hn ok_g_2 _) k_Mo_next w_486 ⟨by decide, by decide⟩ hK hP hD [0, 1] rfl rfl 0 rfl rfl rfl rfl hl.1 rfl (Nat.le_of_ble_eq_true rfl) d_Mo_readWall_50 ⟨Nat.zero_le _, Nat.zero_le _⟩) hP hD hS hA [0, 1] rfl [o0, ib] rfl rfl (fun H locs hP hD hS => ?_)
      generalize eg_18 : ynx f n g_2.2 0 (s_ - 1) = g_18 at hP hD ⊢
      have hP : va_P D cls ([(o0, .inr (5, [.int th, .ref ib, .int (nI n), .ref pb, .int (nI nm), .ref qb, .int (nI no), .int g_18.2.2.1, .int g_18.2.2.2.1, .int ck, .int g_18.2.1, .int g_18.2.2.2.2.1, .int g_18.2.2.2.2.2])), (ib, .inl (cB, 8192, .inl f))]) H := hP
      have hD : va_D A ([(o0, .inr (5, [.int th, .ref ib, .int (nI n), .ref pb, .int (nI nm), .ref qb, .int (nI no), .int g_18.2.2.1, .int g_18.2.2.2.1, .int ck, .int g_18.2.1, .int g_18.2.2.2.2.1, .int g_18.2.2.2.2.2])), (ib, .inl (cB, 8192, .inl f))]) := hD
      have ok_g_18 : ok5 n g_18.2 := by rw [← eg_18]; exact ok5_nx ok_g_2 _ _
      refine lv_istore (lv' := [(6, .int g_18.1), (5, .int g_2.1), (4, .int g_1.1), (0, .ref o0), (1, .int v), (2, .int t), (3, .int s_)]) hx hb d_Mo_readWall_53 hl (by decide) rfl (fun ls hl => ?_)
      refine lv_aload_n hx hb d_Mo_readWall_55 rfl (lv_at hl 3 rfl) ?_
      refine lv_iload_n hx hb d_Mo_readWall_56 rfl (lv_at hl 6 rfl) ?_
      refine pz_i (pz_rV (d := 2) (As := [.int s_]) (rest := []) X hN (c_Mo_nextOr l D cB cI cS o0 ib pb qb th ck n nm no g_18.2 f s_ hn ok_g_18 _) k_Mo_nextOr w_514 ⟨by decide, by decide⟩ hK hP hD [0, 1] rfl rfl 0 rfl rfl rfl rfl hl.1 rfl (Nat.le_of_ble_eq_true rfl) d_Mo_readWall_57 ⟨Nat.zero_le _, Nat.zero_le _⟩) hP hD hS hA [0, 1] rfl [o0, ib] rfl rfl (fun H locs hP hD hS => ?_)
      generalize eg_19 : yor f n g_18.2 s_ = g_19 at hP hD ⊢
      have hP : va_P D cls ([(o0, .inr (5, [.int th, .ref ib, .int (nI n), .ref pb, .int (nI nm), .ref qb, .int (nI no), .int g_19.2.2.1, .int g_19.2.2.2.1, .int ck, .int g_19.2.1, .int g_19.2.2.2.2.1, .int g_19.2.2.2.2.2])), (ib, .inl (cB, 8192, .inl f))]) H := hP
      have hD : va_D A ([(o0, .inr (5, [.int th, .ref ib, .int (nI n), .ref pb, .int (nI nm), .ref qb, .int (nI no), .int g_19.2.2.1, .int g_19.2.2.2.1, .int ck, .int g_19.2.1, .int g_19.2.2.2.2.1, .int g_19.2.2.2.2.2])), (ib, .inl (cB, 8192, .inl f))]) := hD
      have ok_g_19 : ok5 n g_19.2 := by rw [← eg_19]; exact ok5_or ok_g_18 _
      refine lv_istore (lv' := [(7, .int g_19.1), (6, .int g_18.1), (5, .int g_2.1), (4, .int g_1.1), (0, .ref o0), (1, .int v), (2, .int t), (3, .int s_)]) hx hb d_Mo_readWall_60 hl (by decide) rfl (fun ls hl => ?_)
      refine lv_iconst (v := 0) hx hb d_Mo_readWall_62 (by decide) ?_
      refine lv_istore (lv' := [(8, .int 0), (7, .int g_19.1), (6, .int g_18.1), (5, .int g_2.1), (4, .int g_1.1), (0, .ref o0), (1, .int v), (2, .int t), (3, .int s_)]) hx hb d_Mo_readWall_63 hl (by decide) rfl (fun ls hl => ?_)
      have hw6 : yw6 f n v t s_ q = ywt f n t g_19.1 6 0 g_19.2 := by simp only [yw6, yw5, yw4, yw3, yw2, yw1, eg_1, eg_2, eg_18, eg_19, if_pos c_3, if_neg c_17]
      have lp_4 : ∀ (j4 : Nat) (k : Nat) (z : S5) (ls : Array Slot) (H : Heap) (locs : List Loc), j4 + k = 6 → ok5 n z → ywt f n t g_19.1 6 0 g_19.2 = ywt f n t g_19.1 j4 k z → va_P D cls ([(o0, .inr (5, [.int th, .ref ib, .int (nI n), .ref pb, .int (nI nm), .ref qb, .int (nI no), .int z.2.1, .int z.2.2.1, .int ck, .int z.1, .int z.2.2.2.1, .int z.2.2.2.2])), (ib, .inl (cB, 8192, .inl f))]) H → va_D A ([(o0, .inr (5, [.int th, .ref ib, .int (nI n), .ref pb, .int (nI nm), .ref qb, .int (nI no), .int z.2.1, .int z.2.2.1, .int ck, .int z.1, .int z.2.2.2.1, .int z.2.2.2.2])), (ib, .inl (cB, 8192, .inl f))]) → va_S A s.heap H locs → lv_has ls 12 [(0, .ref o0), (1, .int v), (2, .int t), (3, .int s_), (7, .int g_19.1), (8, .int (nI k))] → W p l e (rmd 3) s m ([.ref o0, .int v, .int t, .int s_] : List Value).toArray below meth c H locs 0 0 Q (F0 m 65 ls []) := by
        intro j4
        induction j4 with
        | zero =>
          intro k z ls H locs hi hz he hP hD hS hl
          refine lv_iload hx hb d_Mo_readWall_65 (lv_at hl 5 rfl) ?_
          refine lv_bipush (v := 6) hx hb d_Mo_readWall_67 (by decide) ?_
          refine lv_icmp_ge (tgt := 125) hx hb d_Mo_readWall_69 (by decide) (fun c_20 => ?_) (fun c_20 => ?_)
          · refine lv_aload_n hx hb d_Mo_readWall_125 rfl (lv_at hl 0 rfl) ?_
            refine lv_iconst (v := 0) hx hb d_Mo_readWall_126 (by decide) ?_
            refine lv_sipush (v := 255) hx hb d_Mo_readWall_127 (by decide) ?_
            refine pz_i (pz_rV (d := 1) (As := [.int 0, .int 255]) (rest := []) X hN (c_Mo_next l D cB cI cS o0 ib pb qb th ck n nm no z f 0 255 hn hz _) k_Mo_next w_486 ⟨by decide, by decide⟩ hK hP hD [0, 1] rfl rfl 0 rfl rfl rfl rfl hl.1 rfl (Nat.le_of_ble_eq_true rfl) d_Mo_readWall_130 ⟨Nat.zero_le _, Nat.zero_le _⟩) hP hD hS hA [0, 1] rfl [o0, ib] rfl rfl (fun H locs hP hD hS => ?_)
            generalize eg_21 : ynx f n z 0 255 = g_21 at hP hD ⊢
            have hP : va_P D cls ([(o0, .inr (5, [.int th, .ref ib, .int (nI n), .ref pb, .int (nI nm), .ref qb, .int (nI no), .int g_21.2.2.1, .int g_21.2.2.2.1, .int ck, .int g_21.2.1, .int g_21.2.2.2.2.1, .int g_21.2.2.2.2.2])), (ib, .inl (cB, 8192, .inl f))]) H := hP
            have hD : va_D A ([(o0, .inr (5, [.int th, .ref ib, .int (nI n), .ref pb, .int (nI nm), .ref qb, .int (nI no), .int g_21.2.2.1, .int g_21.2.2.2.1, .int ck, .int g_21.2.1, .int g_21.2.2.2.2.1, .int g_21.2.2.2.2.2])), (ib, .inl (cB, 8192, .inl f))]) := hD
            have ok_g_21 : ok5 n g_21.2 := by rw [← eg_21]; exact ok5_nx hz _ _
            refine lv_istore (lv' := [(8, .int g_21.1), (0, .ref o0), (1, .int v), (2, .int t), (3, .int s_), (7, .int g_19.1)]) hx hb d_Mo_readWall_133 hl (by decide) rfl (fun ls hl => ?_)
            refine lv_aload_n hx hb d_Mo_readWall_135 rfl (lv_at hl 1 rfl) ?_
            refine lv_iconst (v := 0) hx hb d_Mo_readWall_136 (by decide) ?_
            refine lv_iconst (v := 3) hx hb d_Mo_readWall_137 (by decide) ?_
            refine pz_i (pz_rV (d := 1) (As := [.int 0, .int 3]) (rest := []) X hN (c_Mo_next l D cB cI cS o0 ib pb qb th ck n nm no g_21.2 f 0 3 hn ok_g_21 _) k_Mo_next w_486 ⟨by decide, by decide⟩ hK hP hD [0, 1] rfl rfl 0 rfl rfl rfl rfl hl.1 rfl (Nat.le_of_ble_eq_true rfl) d_Mo_readWall_138 ⟨Nat.zero_le _, Nat.zero_le _⟩) hP hD hS hA [0, 1] rfl [o0, ib] rfl rfl (fun H locs hP hD hS => ?_)
            generalize eg_22 : ynx f n g_21.2 0 3 = g_22 at hP hD ⊢
            have hP : va_P D cls ([(o0, .inr (5, [.int th, .ref ib, .int (nI n), .ref pb, .int (nI nm), .ref qb, .int (nI no), .int g_22.2.2.1, .int g_22.2.2.2.1, .int ck, .int g_22.2.1, .int g_22.2.2.2.2.1, .int g_22.2.2.2.2.2])), (ib, .inl (cB, 8192, .inl f))]) H := hP
            have hD : va_D A ([(o0, .inr (5, [.int th, .ref ib, .int (nI n), .ref pb, .int (nI nm), .ref qb, .int (nI no), .int g_22.2.2.1, .int g_22.2.2.2.1, .int ck, .int g_22.2.1, .int g_22.2.2.2.2.1, .int g_22.2.2.2.2.2])), (ib, .inl (cB, 8192, .inl f))]) := hD
            have ok_g_22 : ok5 n g_22.2 := by rw [← eg_22]; exact ok5_nx ok_g_21 _ _
            refine lv_istore (lv' := [(9, .int g_22.1), (8, .int g_21.1), (0, .ref o0), (1, .int v), (2, .int t), (3, .int s_), (7, .int g_19.1)]) hx hb d_Mo_readWall_141 hl (by decide) rfl (fun ls hl => ?_)
            refine lv_aload_n hx hb d_Mo_readWall_143 rfl (lv_at hl 2 rfl) ?_
            refine lv_iconst (v := 0) hx hb d_Mo_readWall_144 (by decide) ?_
            refine lv_iconst (v := 5) hx hb d_Mo_readWall_145 (by decide) ?_
            refine pz_i (pz_rV (d := 1) (As := [.int 0, .int 5]) (rest := []) X hN (c_Mo_next l D cB cI cS o0 ib pb qb th ck n nm no g_22.2 f 0 5 hn ok_g_22 _) k_Mo_next w_486 ⟨by decide, by decide⟩ hK hP hD [0, 1] rfl rfl 0 rfl rfl rfl rfl hl.1 rfl (Nat.le_of_ble_eq_true rfl) d_Mo_readWall_146 ⟨Nat.zero_le _, Nat.zero_le _⟩) hP hD hS hA [0, 1] rfl [o0, ib] rfl rfl (fun H locs hP hD hS => ?_)
            generalize eg_23 : ynx f n g_22.2 0 5 = g_23 at hP hD ⊢
            have hP : va_P D cls ([(o0, .inr (5, [.int th, .ref ib, .int (nI n), .ref pb, .int (nI nm), .ref qb, .int (nI no), .int g_23.2.2.1, .int g_23.2.2.2.1, .int ck, .int g_23.2.1, .int g_23.2.2.2.2.1, .int g_23.2.2.2.2.2])), (ib, .inl (cB, 8192, .inl f))]) H := hP
            have hD : va_D A ([(o0, .inr (5, [.int th, .ref ib, .int (nI n), .ref pb, .int (nI nm), .ref qb, .int (nI no), .int g_23.2.2.1, .int g_23.2.2.2.1, .int ck, .int g_23.2.1, .int g_23.2.2.2.2.1, .int g_23.2.2.2.2.2])), (ib, .inl (cB, 8192, .inl f))]) := hD
            have ok_g_23 : ok5 n g_23.2 := by rw [← eg_23]; exact ok5_nx ok_g_22 _ _
            refine lv_istore (lv' := [(10, .int g_23.1), (9, .int g_22.1), (8, .int g_21.1), (0, .ref o0), (1, .int v), (2, .int t), (3, .int s_), (7, .int g_19.1)]) hx hb d_Mo_readWall_149 hl (by decide) rfl (fun ls hl => ?_)
            refine lv_aload_n hx hb d_Mo_readWall_151 rfl (lv_at hl 3 rfl) ?_
            refine lv_iconst (v := 0) hx hb d_Mo_readWall_152 (by decide) ?_
            refine lv_sipush (v := 255) hx hb d_Mo_readWall_153 (by decide) ?_
            refine pz_i (pz_rV (d := 1) (As := [.int 0, .int 255]) (rest := []) X hN (c_Mo_next l D cB cI cS o0 ib pb qb th ck n nm no g_23.2 f 0 255 hn ok_g_23 _) k_Mo_next w_486 ⟨by decide, by decide⟩ hK hP hD [0, 1] rfl rfl 0 rfl rfl rfl rfl hl.1 rfl (Nat.le_of_ble_eq_true rfl) d_Mo_readWall_156 ⟨Nat.zero_le _, Nat.zero_le _⟩) hP hD hS hA [0, 1] rfl [o0, ib] rfl rfl (fun H locs hP hD hS => ?_)
            generalize eg_24 : ynx f n g_23.2 0 255 = g_24 at hP hD ⊢
            have hP : va_P D cls ([(o0, .inr (5, [.int th, .ref ib, .int (nI n), .ref pb, .int (nI nm), .ref qb, .int (nI no), .int g_24.2.2.1, .int g_24.2.2.2.1, .int ck, .int g_24.2.1, .int g_24.2.2.2.2.1, .int g_24.2.2.2.2.2])), (ib, .inl (cB, 8192, .inl f))]) H := hP
            have hD : va_D A ([(o0, .inr (5, [.int th, .ref ib, .int (nI n), .ref pb, .int (nI nm), .ref qb, .int (nI no), .int g_24.2.2.1, .int g_24.2.2.2.1, .int ck, .int g_24.2.1, .int g_24.2.2.2.2.1, .int g_24.2.2.2.2.2])), (ib, .inl (cB, 8192, .inl f))]) := hD
            have ok_g_24 : ok5 n g_24.2 := by rw [← eg_24]; exact ok5_nx ok_g_23 _ _
            refine lv_istore (lv' := [(11, .int g_24.1), (10, .int g_23.1), (9, .int g_22.1), (8, .int g_21.1), (0, .ref o0), (1, .int v), (2, .int t), (3, .int s_), (7, .int g_19.1)]) hx hb d_Mo_readWall_159 hl (by decide) rfl (fun ls hl => ?_)
            exact fin _ _ _ _ _ d_Mo_readWall_161 hP hS (by simp only [ywa]; rw [hw6, he]; simp only [ywt, eg_21, eg_22, eg_23, eg_24])
          · exact (c_20 (show nI 6 ≤ nI k by rw [nI_leI (by omega) (by omega)]; omega)).elim
        | succ j4 ih4 =>
          intro k z ls H locs hi hz he hP hD hS hl
          refine lv_iload hx hb d_Mo_readWall_65 (lv_at hl 5 rfl) ?_
          refine lv_bipush (v := 6) hx hb d_Mo_readWall_67 (by decide) ?_
          refine lv_icmp_ge (tgt := 125) hx hb d_Mo_readWall_69 (by decide) (fun c_25 => ?_) (fun c_25 => ?_)
          · exact absurd c_25 (show ¬ nI 6 ≤ nI k by rw [nI_leI (by omega) (by omega)]; omega)
          · refine lv_aload_n hx hb d_Mo_readWall_72 rfl (lv_at hl 0 rfl) ?_
            refine lv_iload_n hx hb d_Mo_readWall_73 rfl (lv_at hl 2 rfl) ?_
            refine pz_i (pz_rV (d := 2) (As := [.int t]) (rest := []) X hN (c_Mo_nextOr l D cB cI cS o0 ib pb qb th ck n nm no z f t hn hz _) k_Mo_nextOr w_514 ⟨by decide, by decide⟩ hK hP hD [0, 1] rfl rfl 0 rfl rfl rfl rfl hl.1 rfl (Nat.le_of_ble_eq_true rfl) d_Mo_readWall_74 ⟨Nat.zero_le _, Nat.zero_le _⟩) hP hD hS hA [0, 1] rfl [o0, ib] rfl rfl (fun H locs hP hD hS => ?_)
            generalize eg_26 : yor f n z t = g_26 at hP hD ⊢
            have hP : va_P D cls ([(o0, .inr (5, [.int th, .ref ib, .int (nI n), .ref pb, .int (nI nm), .ref qb, .int (nI no), .int g_26.2.2.1, .int g_26.2.2.2.1, .int ck, .int g_26.2.1, .int g_26.2.2.2.2.1, .int g_26.2.2.2.2.2])), (ib, .inl (cB, 8192, .inl f))]) H := hP
            have hD : va_D A ([(o0, .inr (5, [.int th, .ref ib, .int (nI n), .ref pb, .int (nI nm), .ref qb, .int (nI no), .int g_26.2.2.1, .int g_26.2.2.2.1, .int ck, .int g_26.2.1, .int g_26.2.2.2.2.1, .int g_26.2.2.2.2.2])), (ib, .inl (cB, 8192, .inl f))]) := hD
            have ok_g_26 : ok5 n g_26.2 := by rw [← eg_26]; exact ok5_or hz _
            refine lv_istore (lv' := [(9, .int g_26.1), (0, .ref o0), (1, .int v), (2, .int t), (3, .int s_), (7, .int g_19.1), (8, .int (nI k))]) hx hb d_Mo_readWall_77 hl (by decide) rfl (fun ls hl => ?_)
            refine lv_aload_n hx hb d_Mo_readWall_79 rfl (lv_at hl 1 rfl) ?_
            refine va_get (D := D) (ci := 5) (v := .int g_26.2.2.1) (C := R_Mo) (T := T_Mo) (N := 13) hx hb hts i_Mo hown hK hP 0 rfl rfl 7 (by decide) (hts _ w_425) (fun _ h9 => h9) rfl d_Mo_readWall_80 ?_
            refine lv_if_ne (tgt := 119) hx hb d_Mo_readWall_83 (by decide) (fun c_27 => ?_) (fun c_27 => ?_)
            · refine lv_iinc (v := nI (k + 1)) (lv' := [(8, .int (nI (k + 1))), (9, .int g_26.1), (0, .ref o0), (1, .int v), (2, .int t), (3, .int s_), (7, .int g_19.1)]) hx hb d_Mo_readWall_119 hl (k := 6) rfl (nI_1 k) (by decide) rfl (fun ls hl => ?_)
              refine lv_goto (tgt := 65) hx hb d_Mo_readWall_122 (by decide) ?_
              exact ih4 (k + 1) g_26.2 _ _ _ (by omega) (ok_g_26) (by rw [he, ywt]; simp only [yws, eg_1, eg_2, eg_18, eg_19, eg_26, if_pos c_3, if_neg c_17, if_neg c_25, if_neg c_27]) hP hD hS (lv_sub hl [2, 3, 4, 5, 6, 0] rfl)
            · refine lv_iload hx hb d_Mo_readWall_86 (lv_at hl 6 rfl) ?_
              refine lv_iconst (v := 2) hx hb d_Mo_readWall_88 (by decide) ?_
              refine lv_icmp_le (tgt := 119) hx hb d_Mo_readWall_89 (by decide) (fun c_28 => ?_) (fun c_28 => ?_)
              · refine lv_iinc (v := nI (k + 1)) (lv' := [(8, .int (nI (k + 1))), (9, .int g_26.1), (0, .ref o0), (1, .int v), (2, .int t), (3, .int s_), (7, .int g_19.1)]) hx hb d_Mo_readWall_119 hl (k := 6) rfl (nI_1 k) (by decide) rfl (fun ls hl => ?_)
                refine lv_goto (tgt := 65) hx hb d_Mo_readWall_122 (by decide) ?_
                exact ih4 (k + 1) g_26.2 _ _ _ (by omega) (ok_g_26) (by rw [he, ywt]; simp only [yws, eg_1, eg_2, eg_18, eg_19, eg_26, if_pos c_3, if_neg c_17, if_neg c_25, if_pos c_27, if_pos c_28]) hP hD hS (lv_sub hl [2, 3, 4, 5, 6, 0] rfl)
              · refine lv_iload hx hb d_Mo_readWall_92 (lv_at hl 5 rfl) ?_
                refine lv_sipush (v := 255) hx hb d_Mo_readWall_94 (by decide) ?_
                refine lv_icmp_ne (tgt := 119) hx hb d_Mo_readWall_97 (by decide) (fun c_29 => ?_) (fun c_29 => ?_)
                · refine lv_iinc (v := nI (k + 1)) (lv' := [(8, .int (nI (k + 1))), (9, .int g_26.1), (0, .ref o0), (1, .int v), (2, .int t), (3, .int s_), (7, .int g_19.1)]) hx hb d_Mo_readWall_119 hl (k := 6) rfl (nI_1 k) (by decide) rfl (fun ls hl => ?_)
                  refine lv_goto (tgt := 65) hx hb d_Mo_readWall_122 (by decide) ?_
                  exact ih4 (k + 1) g_26.2 _ _ _ (by omega) (ok_g_26) (by rw [he, ywt]; simp only [yws, eg_1, eg_2, eg_18, eg_19, eg_26, if_pos c_3, if_neg c_17, if_neg c_25, if_pos c_27, if_neg c_28, if_neg c_29]) hP hD hS (lv_sub hl [2, 3, 4, 5, 6, 0] rfl)
                · refine lv_iload hx hb d_Mo_readWall_100 (lv_at hl 0 rfl) ?_
                  refine lv_sipush (v := 255) hx hb d_Mo_readWall_102 (by decide) ?_
                  refine lv_icmp_eq (tgt := 119) hx hb d_Mo_readWall_105 (by decide) (fun c_30 => ?_) (fun c_30 => ?_)
                  · refine lv_iinc (v := nI (k + 1)) (lv' := [(8, .int (nI (k + 1))), (9, .int g_26.1), (0, .ref o0), (1, .int v), (2, .int t), (3, .int s_), (7, .int g_19.1)]) hx hb d_Mo_readWall_119 hl (k := 6) rfl (nI_1 k) (by decide) rfl (fun ls hl => ?_)
                    refine lv_goto (tgt := 65) hx hb d_Mo_readWall_122 (by decide) ?_
                    exact ih4 (k + 1) g_26.2 _ _ _ (by omega) (ok_g_26) (by rw [he, ywt]; simp only [yws, eg_1, eg_2, eg_18, eg_19, eg_26, if_pos c_3, if_neg c_17, if_neg c_25, if_pos c_27, if_neg c_28, if_pos c_29, if_pos c_30]) hP hD hS (lv_sub hl [2, 3, 4, 5, 6, 0] rfl)
                  · refine lv_aload_n hx hb d_Mo_readWall_108 rfl (lv_at hl 1 rfl) ?_
                    refine lv_iconst (v := 3) hx hb d_Mo_readWall_109 (by decide) ?_
                    refine lv_aload_n hx hb d_Mo_readWall_110 rfl (lv_at hl 1 rfl) ?_
                    refine va_get (D := D) (ci := 5) (v := .int g_26.2.1) (C := R_Mo) (T := T_Mo) (N := 13) hx hb hts i_Mo hown hK hP 0 rfl rfl 10 (by decide) (hts _ w_428) (fun _ h9 => h9) rfl d_Mo_readWall_111 ?_
                    refine lv_iconst (v := 1) hx hb d_Mo_readWall_114 (by decide) ?_
                    refine lv_isub hx hb d_Mo_readWall_115 ?_
                    refine pz_v (pz_rV (d := 0) (As := [.int 3, .int (g_26.2.1 - 1)]) (rest := []) X hN (c_Mo_wrong l D cB cI cS o0 ib pb qb th ck n nm no g_26.2 3 (g_26.2.1 - 1) _) k_Mo_wrong w_490 ⟨by decide, by decide⟩ hK hP hD [0] rfl rfl 0 rfl rfl rfl rfl hl.1 rfl (Nat.le_of_ble_eq_true rfl) d_Mo_readWall_116 ⟨Nat.zero_le _, Nat.zero_le _⟩) hP hD hS hA [0] rfl [o0] rfl rfl (fun H locs hP hD hS => ?_)
                    have hP : va_P D cls ([(o0, .inr (5, [.int th, .ref ib, .int (nI n), .ref pb, .int (nI nm), .ref qb, .int (nI no), .int ((ywr g_26.2 3 (g_26.2.1 - 1)).2.1), .int ((ywr g_26.2 3 (g_26.2.1 - 1)).2.2.1), .int ck, .int ((ywr g_26.2 3 (g_26.2.1 - 1)).1), .int ((ywr g_26.2 3 (g_26.2.1 - 1)).2.2.2.1), .int ((ywr g_26.2 3 (g_26.2.1 - 1)).2.2.2.2)])), (ib, .inl (cB, 8192, .inl f))]) H := hP
                    have hD : va_D A ([(o0, .inr (5, [.int th, .ref ib, .int (nI n), .ref pb, .int (nI nm), .ref qb, .int (nI no), .int ((ywr g_26.2 3 (g_26.2.1 - 1)).2.1), .int ((ywr g_26.2 3 (g_26.2.1 - 1)).2.2.1), .int ck, .int ((ywr g_26.2 3 (g_26.2.1 - 1)).1), .int ((ywr g_26.2 3 (g_26.2.1 - 1)).2.2.2.1), .int ((ywr g_26.2 3 (g_26.2.1 - 1)).2.2.2.2)])), (ib, .inl (cB, 8192, .inl f))]) := hD
                    refine lv_iinc (v := nI (k + 1)) (lv' := [(8, .int (nI (k + 1))), (9, .int g_26.1), (0, .ref o0), (1, .int v), (2, .int t), (3, .int s_), (7, .int g_19.1)]) hx hb d_Mo_readWall_119 hl (k := 6) rfl (nI_1 k) (by decide) rfl (fun ls hl => ?_)
                    refine lv_goto (tgt := 65) hx hb d_Mo_readWall_122 (by decide) ?_
                    exact ih4 (k + 1) (ywr g_26.2 3 (g_26.2.1 - 1)) _ _ _ (by omega) ((ok5_wr ok_g_26 _ _)) (by rw [he, ywt]; simp only [yws, eg_1, eg_2, eg_18, eg_19, eg_26, if_pos c_3, if_neg c_17, if_neg c_25, if_pos c_27, if_neg c_28, if_pos c_29, if_neg c_30]) hP hD hS (lv_sub hl [2, 3, 4, 5, 6, 0] rfl)
      exact lp_4 6 0 g_19.2 _ _ _ (by omega) (ok_g_19) (rfl) hP hD hS (lv_sub hl [5, 6, 7, 8, 1, 0] rfl)
    · refine lv_aload_n hx hb d_Mo_readWall_34 rfl (lv_at hl 2 rfl) ?_
      refine lv_iconst (v := 3) hx hb d_Mo_readWall_35 (by decide) ?_
      refine lv_aload_n hx hb d_Mo_readWall_36 rfl (lv_at hl 2 rfl) ?_
      refine va_get (D := D) (ci := 5) (v := .int g_2.2.1) (C := R_Mo) (T := T_Mo) (N := 13) hx hb hts i_Mo hown hK hP 0 rfl rfl 10 (by decide) (hts _ w_428) (fun _ h9 => h9) rfl d_Mo_readWall_37 ?_
      refine lv_iconst (v := 1) hx hb d_Mo_readWall_40 (by decide) ?_
      refine lv_isub hx hb d_Mo_readWall_41 ?_
      refine pz_v (pz_rV (d := 0) (As := [.int 3, .int (g_2.2.1 - 1)]) (rest := []) X hN (c_Mo_wrong l D cB cI cS o0 ib pb qb th ck n nm no g_2.2 3 (g_2.2.1 - 1) _) k_Mo_wrong w_490 ⟨by decide, by decide⟩ hK hP hD [0] rfl rfl 0 rfl rfl rfl rfl hl.1 rfl (Nat.le_of_ble_eq_true rfl) d_Mo_readWall_42 ⟨Nat.zero_le _, Nat.zero_le _⟩) hP hD hS hA [0] rfl [o0] rfl rfl (fun H locs hP hD hS => ?_)
      have hP : va_P D cls ([(o0, .inr (5, [.int th, .ref ib, .int (nI n), .ref pb, .int (nI nm), .ref qb, .int (nI no), .int ((ywr g_2.2 3 (g_2.2.1 - 1)).2.1), .int ((ywr g_2.2 3 (g_2.2.1 - 1)).2.2.1), .int ck, .int ((ywr g_2.2 3 (g_2.2.1 - 1)).1), .int ((ywr g_2.2 3 (g_2.2.1 - 1)).2.2.2.1), .int ((ywr g_2.2 3 (g_2.2.1 - 1)).2.2.2.2)])), (ib, .inl (cB, 8192, .inl f))]) H := hP
      have hD : va_D A ([(o0, .inr (5, [.int th, .ref ib, .int (nI n), .ref pb, .int (nI nm), .ref qb, .int (nI no), .int ((ywr g_2.2 3 (g_2.2.1 - 1)).2.1), .int ((ywr g_2.2 3 (g_2.2.1 - 1)).2.2.1), .int ck, .int ((ywr g_2.2 3 (g_2.2.1 - 1)).1), .int ((ywr g_2.2 3 (g_2.2.1 - 1)).2.2.2.1), .int ((ywr g_2.2 3 (g_2.2.1 - 1)).2.2.2.2)])), (ib, .inl (cB, 8192, .inl f))]) := hD
      refine lv_aload_n hx hb d_Mo_readWall_45 rfl (lv_at hl 2 rfl) ?_
      refine lv_iconst (v := 0) hx hb d_Mo_readWall_46 (by decide) ?_
      refine lv_iload_n hx hb d_Mo_readWall_47 rfl (lv_at hl 5 rfl) ?_
      refine lv_iconst (v := 1) hx hb d_Mo_readWall_48 (by decide) ?_
      refine lv_isub hx hb d_Mo_readWall_49 ?_
      refine pz_i (pz_rV (d := 1) (As := [.int 0, .int (s_ - 1)]) (rest := []) X hN (c_Mo_next l D cB cI cS o0 ib pb qb th ck n nm no (ywr g_2.2 3 (g_2.2.1 - 1)) f 0 (s_ - 1) hn (ok5_wr ok_g_2 _ _) _) k_Mo_next w_486 ⟨by decide, by decide⟩ hK hP hD [0, 1] rfl rfl 0 rfl rfl rfl rfl hl.1 rfl (Nat.le_of_ble_eq_true rfl) d_Mo_readWall_50 ⟨Nat.zero_le _, Nat.zero_le _⟩) hP hD hS hA [0, 1] rfl [o0, ib] rfl rfl (fun H locs hP hD hS => ?_)
      generalize eg_31 : ynx f n (ywr g_2.2 3 (g_2.2.1 - 1)) 0 (s_ - 1) = g_31 at hP hD ⊢
      have hP : va_P D cls ([(o0, .inr (5, [.int th, .ref ib, .int (nI n), .ref pb, .int (nI nm), .ref qb, .int (nI no), .int g_31.2.2.1, .int g_31.2.2.2.1, .int ck, .int g_31.2.1, .int g_31.2.2.2.2.1, .int g_31.2.2.2.2.2])), (ib, .inl (cB, 8192, .inl f))]) H := hP
      have hD : va_D A ([(o0, .inr (5, [.int th, .ref ib, .int (nI n), .ref pb, .int (nI nm), .ref qb, .int (nI no), .int g_31.2.2.1, .int g_31.2.2.2.1, .int ck, .int g_31.2.1, .int g_31.2.2.2.2.1, .int g_31.2.2.2.2.2])), (ib, .inl (cB, 8192, .inl f))]) := hD
      have ok_g_31 : ok5 n g_31.2 := by rw [← eg_31]; exact ok5_nx (ok5_wr ok_g_2 _ _) _ _
      refine lv_istore (lv' := [(6, .int g_31.1), (5, .int g_2.1), (4, .int g_1.1), (0, .ref o0), (1, .int v), (2, .int t), (3, .int s_)]) hx hb d_Mo_readWall_53 hl (by decide) rfl (fun ls hl => ?_)
      refine lv_aload_n hx hb d_Mo_readWall_55 rfl (lv_at hl 3 rfl) ?_
      refine lv_iload_n hx hb d_Mo_readWall_56 rfl (lv_at hl 6 rfl) ?_
      refine pz_i (pz_rV (d := 2) (As := [.int s_]) (rest := []) X hN (c_Mo_nextOr l D cB cI cS o0 ib pb qb th ck n nm no g_31.2 f s_ hn ok_g_31 _) k_Mo_nextOr w_514 ⟨by decide, by decide⟩ hK hP hD [0, 1] rfl rfl 0 rfl rfl rfl rfl hl.1 rfl (Nat.le_of_ble_eq_true rfl) d_Mo_readWall_57 ⟨Nat.zero_le _, Nat.zero_le _⟩) hP hD hS hA [0, 1] rfl [o0, ib] rfl rfl (fun H locs hP hD hS => ?_)
      generalize eg_32 : yor f n g_31.2 s_ = g_32 at hP hD ⊢
      have hP : va_P D cls ([(o0, .inr (5, [.int th, .ref ib, .int (nI n), .ref pb, .int (nI nm), .ref qb, .int (nI no), .int g_32.2.2.1, .int g_32.2.2.2.1, .int ck, .int g_32.2.1, .int g_32.2.2.2.2.1, .int g_32.2.2.2.2.2])), (ib, .inl (cB, 8192, .inl f))]) H := hP
      have hD : va_D A ([(o0, .inr (5, [.int th, .ref ib, .int (nI n), .ref pb, .int (nI nm), .ref qb, .int (nI no), .int g_32.2.2.1, .int g_32.2.2.2.1, .int ck, .int g_32.2.1, .int g_32.2.2.2.2.1, .int g_32.2.2.2.2.2])), (ib, .inl (cB, 8192, .inl f))]) := hD
      have ok_g_32 : ok5 n g_32.2 := by rw [← eg_32]; exact ok5_or ok_g_31 _
      refine lv_istore (lv' := [(7, .int g_32.1), (6, .int g_31.1), (5, .int g_2.1), (4, .int g_1.1), (0, .ref o0), (1, .int v), (2, .int t), (3, .int s_)]) hx hb d_Mo_readWall_60 hl (by decide) rfl (fun ls hl => ?_)
      refine lv_iconst (v := 0) hx hb d_Mo_readWall_62 (by decide) ?_
      refine lv_istore (lv' := [(8, .int 0), (7, .int g_32.1), (6, .int g_31.1), (5, .int g_2.1), (4, .int g_1.1), (0, .ref o0), (1, .int v), (2, .int t), (3, .int s_)]) hx hb d_Mo_readWall_63 hl (by decide) rfl (fun ls hl => ?_)
      have hw6 : yw6 f n v t s_ q = ywt f n t g_32.1 6 0 g_32.2 := by simp only [yw6, yw5, yw4, yw3, yw2, yw1, eg_1, eg_2, eg_31, eg_32, if_pos c_3, if_pos c_17]
      have lp_5 : ∀ (j5 : Nat) (k : Nat) (z : S5) (ls : Array Slot) (H : Heap) (locs : List Loc), j5 + k = 6 → ok5 n z → ywt f n t g_32.1 6 0 g_32.2 = ywt f n t g_32.1 j5 k z → va_P D cls ([(o0, .inr (5, [.int th, .ref ib, .int (nI n), .ref pb, .int (nI nm), .ref qb, .int (nI no), .int z.2.1, .int z.2.2.1, .int ck, .int z.1, .int z.2.2.2.1, .int z.2.2.2.2])), (ib, .inl (cB, 8192, .inl f))]) H → va_D A ([(o0, .inr (5, [.int th, .ref ib, .int (nI n), .ref pb, .int (nI nm), .ref qb, .int (nI no), .int z.2.1, .int z.2.2.1, .int ck, .int z.1, .int z.2.2.2.1, .int z.2.2.2.2])), (ib, .inl (cB, 8192, .inl f))]) → va_S A s.heap H locs → lv_has ls 12 [(0, .ref o0), (1, .int v), (2, .int t), (3, .int s_), (7, .int g_32.1), (8, .int (nI k))] → W p l e (rmd 3) s m ([.ref o0, .int v, .int t, .int s_] : List Value).toArray below meth c H locs 0 0 Q (F0 m 65 ls []) := by
        intro j5
        induction j5 with
        | zero =>
          intro k z ls H locs hi hz he hP hD hS hl
          refine lv_iload hx hb d_Mo_readWall_65 (lv_at hl 5 rfl) ?_
          refine lv_bipush (v := 6) hx hb d_Mo_readWall_67 (by decide) ?_
          refine lv_icmp_ge (tgt := 125) hx hb d_Mo_readWall_69 (by decide) (fun c_33 => ?_) (fun c_33 => ?_)
          · refine lv_aload_n hx hb d_Mo_readWall_125 rfl (lv_at hl 0 rfl) ?_
            refine lv_iconst (v := 0) hx hb d_Mo_readWall_126 (by decide) ?_
            refine lv_sipush (v := 255) hx hb d_Mo_readWall_127 (by decide) ?_
            refine pz_i (pz_rV (d := 1) (As := [.int 0, .int 255]) (rest := []) X hN (c_Mo_next l D cB cI cS o0 ib pb qb th ck n nm no z f 0 255 hn hz _) k_Mo_next w_486 ⟨by decide, by decide⟩ hK hP hD [0, 1] rfl rfl 0 rfl rfl rfl rfl hl.1 rfl (Nat.le_of_ble_eq_true rfl) d_Mo_readWall_130 ⟨Nat.zero_le _, Nat.zero_le _⟩) hP hD hS hA [0, 1] rfl [o0, ib] rfl rfl (fun H locs hP hD hS => ?_)
            generalize eg_34 : ynx f n z 0 255 = g_34 at hP hD ⊢
            have hP : va_P D cls ([(o0, .inr (5, [.int th, .ref ib, .int (nI n), .ref pb, .int (nI nm), .ref qb, .int (nI no), .int g_34.2.2.1, .int g_34.2.2.2.1, .int ck, .int g_34.2.1, .int g_34.2.2.2.2.1, .int g_34.2.2.2.2.2])), (ib, .inl (cB, 8192, .inl f))]) H := hP
            have hD : va_D A ([(o0, .inr (5, [.int th, .ref ib, .int (nI n), .ref pb, .int (nI nm), .ref qb, .int (nI no), .int g_34.2.2.1, .int g_34.2.2.2.1, .int ck, .int g_34.2.1, .int g_34.2.2.2.2.1, .int g_34.2.2.2.2.2])), (ib, .inl (cB, 8192, .inl f))]) := hD
            have ok_g_34 : ok5 n g_34.2 := by rw [← eg_34]; exact ok5_nx hz _ _
            refine lv_istore (lv' := [(8, .int g_34.1), (0, .ref o0), (1, .int v), (2, .int t), (3, .int s_), (7, .int g_32.1)]) hx hb d_Mo_readWall_133 hl (by decide) rfl (fun ls hl => ?_)
            refine lv_aload_n hx hb d_Mo_readWall_135 rfl (lv_at hl 1 rfl) ?_
            refine lv_iconst (v := 0) hx hb d_Mo_readWall_136 (by decide) ?_
            refine lv_iconst (v := 3) hx hb d_Mo_readWall_137 (by decide) ?_
            refine pz_i (pz_rV (d := 1) (As := [.int 0, .int 3]) (rest := []) X hN (c_Mo_next l D cB cI cS o0 ib pb qb th ck n nm no g_34.2 f 0 3 hn ok_g_34 _) k_Mo_next w_486 ⟨by decide, by decide⟩ hK hP hD [0, 1] rfl rfl 0 rfl rfl rfl rfl hl.1 rfl (Nat.le_of_ble_eq_true rfl) d_Mo_readWall_138 ⟨Nat.zero_le _, Nat.zero_le _⟩) hP hD hS hA [0, 1] rfl [o0, ib] rfl rfl (fun H locs hP hD hS => ?_)
            generalize eg_35 : ynx f n g_34.2 0 3 = g_35 at hP hD ⊢
            have hP : va_P D cls ([(o0, .inr (5, [.int th, .ref ib, .int (nI n), .ref pb, .int (nI nm), .ref qb, .int (nI no), .int g_35.2.2.1, .int g_35.2.2.2.1, .int ck, .int g_35.2.1, .int g_35.2.2.2.2.1, .int g_35.2.2.2.2.2])), (ib, .inl (cB, 8192, .inl f))]) H := hP
            have hD : va_D A ([(o0, .inr (5, [.int th, .ref ib, .int (nI n), .ref pb, .int (nI nm), .ref qb, .int (nI no), .int g_35.2.2.1, .int g_35.2.2.2.1, .int ck, .int g_35.2.1, .int g_35.2.2.2.2.1, .int g_35.2.2.2.2.2])), (ib, .inl (cB, 8192, .inl f))]) := hD
            have ok_g_35 : ok5 n g_35.2 := by rw [← eg_35]; exact ok5_nx ok_g_34 _ _
            refine lv_istore (lv' := [(9, .int g_35.1), (8, .int g_34.1), (0, .ref o0), (1, .int v), (2, .int t), (3, .int s_), (7, .int g_32.1)]) hx hb d_Mo_readWall_141 hl (by decide) rfl (fun ls hl => ?_)
            refine lv_aload_n hx hb d_Mo_readWall_143 rfl (lv_at hl 2 rfl) ?_
            refine lv_iconst (v := 0) hx hb d_Mo_readWall_144 (by decide) ?_
            refine lv_iconst (v := 5) hx hb d_Mo_readWall_145 (by decide) ?_
            refine pz_i (pz_rV (d := 1) (As := [.int 0, .int 5]) (rest := []) X hN (c_Mo_next l D cB cI cS o0 ib pb qb th ck n nm no g_35.2 f 0 5 hn ok_g_35 _) k_Mo_next w_486 ⟨by decide, by decide⟩ hK hP hD [0, 1] rfl rfl 0 rfl rfl rfl rfl hl.1 rfl (Nat.le_of_ble_eq_true rfl) d_Mo_readWall_146 ⟨Nat.zero_le _, Nat.zero_le _⟩) hP hD hS hA [0, 1] rfl [o0, ib] rfl rfl (fun H locs hP hD hS => ?_)
            generalize eg_36 : ynx f n g_35.2 0 5 = g_36 at hP hD ⊢
            have hP : va_P D cls ([(o0, .inr (5, [.int th, .ref ib, .int (nI n), .ref pb, .int (nI nm), .ref qb, .int (nI no), .int g_36.2.2.1, .int g_36.2.2.2.1, .int ck, .int g_36.2.1, .int g_36.2.2.2.2.1, .int g_36.2.2.2.2.2])), (ib, .inl (cB, 8192, .inl f))]) H := hP
            have hD : va_D A ([(o0, .inr (5, [.int th, .ref ib, .int (nI n), .ref pb, .int (nI nm), .ref qb, .int (nI no), .int g_36.2.2.1, .int g_36.2.2.2.1, .int ck, .int g_36.2.1, .int g_36.2.2.2.2.1, .int g_36.2.2.2.2.2])), (ib, .inl (cB, 8192, .inl f))]) := hD
            have ok_g_36 : ok5 n g_36.2 := by rw [← eg_36]; exact ok5_nx ok_g_35 _ _
            refine lv_istore (lv' := [(10, .int g_36.1), (9, .int g_35.1), (8, .int g_34.1), (0, .ref o0), (1, .int v), (2, .int t), (3, .int s_), (7, .int g_32.1)]) hx hb d_Mo_readWall_149 hl (by decide) rfl (fun ls hl => ?_)
            refine lv_aload_n hx hb d_Mo_readWall_151 rfl (lv_at hl 3 rfl) ?_
            refine lv_iconst (v := 0) hx hb d_Mo_readWall_152 (by decide) ?_
            refine lv_sipush (v := 255) hx hb d_Mo_readWall_153 (by decide) ?_
            refine pz_i (pz_rV (d := 1) (As := [.int 0, .int 255]) (rest := []) X hN (c_Mo_next l D cB cI cS o0 ib pb qb th ck n nm no g_36.2 f 0 255 hn ok_g_36 _) k_Mo_next w_486 ⟨by decide, by decide⟩ hK hP hD [0, 1] rfl rfl 0 rfl rfl rfl rfl hl.1 rfl (Nat.le_of_ble_eq_true rfl) d_Mo_readWall_156 ⟨Nat.zero_le _, Nat.zero_le _⟩) hP hD hS hA [0, 1] rfl [o0, ib] rfl rfl (fun H locs hP hD hS => ?_)
            generalize eg_37 : ynx f n g_36.2 0 255 = g_37 at hP hD ⊢
            have hP : va_P D cls ([(o0, .inr (5, [.int th, .ref ib, .int (nI n), .ref pb, .int (nI nm), .ref qb, .int (nI no), .int g_37.2.2.1, .int g_37.2.2.2.1, .int ck, .int g_37.2.1, .int g_37.2.2.2.2.1, .int g_37.2.2.2.2.2])), (ib, .inl (cB, 8192, .inl f))]) H := hP
            have hD : va_D A ([(o0, .inr (5, [.int th, .ref ib, .int (nI n), .ref pb, .int (nI nm), .ref qb, .int (nI no), .int g_37.2.2.1, .int g_37.2.2.2.1, .int ck, .int g_37.2.1, .int g_37.2.2.2.2.1, .int g_37.2.2.2.2.2])), (ib, .inl (cB, 8192, .inl f))]) := hD
            have ok_g_37 : ok5 n g_37.2 := by rw [← eg_37]; exact ok5_nx ok_g_36 _ _
            refine lv_istore (lv' := [(11, .int g_37.1), (10, .int g_36.1), (9, .int g_35.1), (8, .int g_34.1), (0, .ref o0), (1, .int v), (2, .int t), (3, .int s_), (7, .int g_32.1)]) hx hb d_Mo_readWall_159 hl (by decide) rfl (fun ls hl => ?_)
            exact fin _ _ _ _ _ d_Mo_readWall_161 hP hS (by simp only [ywa]; rw [hw6, he]; simp only [ywt, eg_34, eg_35, eg_36, eg_37])
          · exact (c_33 (show nI 6 ≤ nI k by rw [nI_leI (by omega) (by omega)]; omega)).elim
        | succ j5 ih5 =>
          intro k z ls H locs hi hz he hP hD hS hl
          refine lv_iload hx hb d_Mo_readWall_65 (lv_at hl 5 rfl) ?_
          refine lv_bipush (v := 6) hx hb d_Mo_readWall_67 (by decide) ?_
          refine lv_icmp_ge (tgt := 125) hx hb d_Mo_readWall_69 (by decide) (fun c_38 => ?_) (fun c_38 => ?_)
          · exact absurd c_38 (show ¬ nI 6 ≤ nI k by rw [nI_leI (by omega) (by omega)]; omega)
          · refine lv_aload_n hx hb d_Mo_readWall_72 rfl (lv_at hl 0 rfl) ?_
            refine lv_iload_n hx hb d_Mo_readWall_73 rfl (lv_at hl 2 rfl) ?_
            refine pz_i (pz_rV (d := 2) (As := [.int t]) (rest := []) X hN (c_Mo_nextOr l D cB cI cS o0 ib pb qb th ck n nm no z f t hn hz _) k_Mo_nextOr w_514 ⟨by decide, by decide⟩ hK hP hD [0, 1] rfl rfl 0 rfl rfl rfl rfl hl.1 rfl (Nat.le_of_ble_eq_true rfl) d_Mo_readWall_74 ⟨Nat.zero_le _, Nat.zero_le _⟩) hP hD hS hA [0, 1] rfl [o0, ib] rfl rfl (fun H locs hP hD hS => ?_)
            generalize eg_39 : yor f n z t = g_39 at hP hD ⊢
            have hP : va_P D cls ([(o0, .inr (5, [.int th, .ref ib, .int (nI n), .ref pb, .int (nI nm), .ref qb, .int (nI no), .int g_39.2.2.1, .int g_39.2.2.2.1, .int ck, .int g_39.2.1, .int g_39.2.2.2.2.1, .int g_39.2.2.2.2.2])), (ib, .inl (cB, 8192, .inl f))]) H := hP
            have hD : va_D A ([(o0, .inr (5, [.int th, .ref ib, .int (nI n), .ref pb, .int (nI nm), .ref qb, .int (nI no), .int g_39.2.2.1, .int g_39.2.2.2.1, .int ck, .int g_39.2.1, .int g_39.2.2.2.2.1, .int g_39.2.2.2.2.2])), (ib, .inl (cB, 8192, .inl f))]) := hD
            have ok_g_39 : ok5 n g_39.2 := by rw [← eg_39]; exact ok5_or hz _
            refine lv_istore (lv' := [(9, .int g_39.1), (0, .ref o0), (1, .int v), (2, .int t), (3, .int s_), (7, .int g_32.1), (8, .int (nI k))]) hx hb d_Mo_readWall_77 hl (by decide) rfl (fun ls hl => ?_)
            refine lv_aload_n hx hb d_Mo_readWall_79 rfl (lv_at hl 1 rfl) ?_
            refine va_get (D := D) (ci := 5) (v := .int g_39.2.2.1) (C := R_Mo) (T := T_Mo) (N := 13) hx hb hts i_Mo hown hK hP 0 rfl rfl 7 (by decide) (hts _ w_425) (fun _ h9 => h9) rfl d_Mo_readWall_80 ?_
            refine lv_if_ne (tgt := 119) hx hb d_Mo_readWall_83 (by decide) (fun c_40 => ?_) (fun c_40 => ?_)
            · refine lv_iinc (v := nI (k + 1)) (lv' := [(8, .int (nI (k + 1))), (9, .int g_39.1), (0, .ref o0), (1, .int v), (2, .int t), (3, .int s_), (7, .int g_32.1)]) hx hb d_Mo_readWall_119 hl (k := 6) rfl (nI_1 k) (by decide) rfl (fun ls hl => ?_)
              refine lv_goto (tgt := 65) hx hb d_Mo_readWall_122 (by decide) ?_
              exact ih5 (k + 1) g_39.2 _ _ _ (by omega) (ok_g_39) (by rw [he, ywt]; simp only [yws, eg_1, eg_2, eg_31, eg_32, eg_39, if_pos c_3, if_pos c_17, if_neg c_38, if_neg c_40]) hP hD hS (lv_sub hl [2, 3, 4, 5, 6, 0] rfl)
            · refine lv_iload hx hb d_Mo_readWall_86 (lv_at hl 6 rfl) ?_
              refine lv_iconst (v := 2) hx hb d_Mo_readWall_88 (by decide) ?_
              refine lv_icmp_le (tgt := 119) hx hb d_Mo_readWall_89 (by decide) (fun c_41 => ?_) (fun c_41 => ?_)
              · refine lv_iinc (v := nI (k + 1)) (lv' := [(8, .int (nI (k + 1))), (9, .int g_39.1), (0, .ref o0), (1, .int v), (2, .int t), (3, .int s_), (7, .int g_32.1)]) hx hb d_Mo_readWall_119 hl (k := 6) rfl (nI_1 k) (by decide) rfl (fun ls hl => ?_)
                refine lv_goto (tgt := 65) hx hb d_Mo_readWall_122 (by decide) ?_
                exact ih5 (k + 1) g_39.2 _ _ _ (by omega) (ok_g_39) (by rw [he, ywt]; simp only [yws, eg_1, eg_2, eg_31, eg_32, eg_39, if_pos c_3, if_pos c_17, if_neg c_38, if_pos c_40, if_pos c_41]) hP hD hS (lv_sub hl [2, 3, 4, 5, 6, 0] rfl)
              · refine lv_iload hx hb d_Mo_readWall_92 (lv_at hl 5 rfl) ?_
                refine lv_sipush (v := 255) hx hb d_Mo_readWall_94 (by decide) ?_
                refine lv_icmp_ne (tgt := 119) hx hb d_Mo_readWall_97 (by decide) (fun c_42 => ?_) (fun c_42 => ?_)
                · refine lv_iinc (v := nI (k + 1)) (lv' := [(8, .int (nI (k + 1))), (9, .int g_39.1), (0, .ref o0), (1, .int v), (2, .int t), (3, .int s_), (7, .int g_32.1)]) hx hb d_Mo_readWall_119 hl (k := 6) rfl (nI_1 k) (by decide) rfl (fun ls hl => ?_)
                  refine lv_goto (tgt := 65) hx hb d_Mo_readWall_122 (by decide) ?_
                  exact ih5 (k + 1) g_39.2 _ _ _ (by omega) (ok_g_39) (by rw [he, ywt]; simp only [yws, eg_1, eg_2, eg_31, eg_32, eg_39, if_pos c_3, if_pos c_17, if_neg c_38, if_pos c_40, if_neg c_41, if_neg c_42]) hP hD hS (lv_sub hl [2, 3, 4, 5, 6, 0] rfl)
                · refine lv_iload hx hb d_Mo_readWall_100 (lv_at hl 0 rfl) ?_
                  refine lv_sipush (v := 255) hx hb d_Mo_readWall_102 (by decide) ?_
                  refine lv_icmp_eq (tgt := 119) hx hb d_Mo_readWall_105 (by decide) (fun c_43 => ?_) (fun c_43 => ?_)
                  · refine lv_iinc (v := nI (k + 1)) (lv' := [(8, .int (nI (k + 1))), (9, .int g_39.1), (0, .ref o0), (1, .int v), (2, .int t), (3, .int s_), (7, .int g_32.1)]) hx hb d_Mo_readWall_119 hl (k := 6) rfl (nI_1 k) (by decide) rfl (fun ls hl => ?_)
                    refine lv_goto (tgt := 65) hx hb d_Mo_readWall_122 (by decide) ?_
                    exact ih5 (k + 1) g_39.2 _ _ _ (by omega) (ok_g_39) (by rw [he, ywt]; simp only [yws, eg_1, eg_2, eg_31, eg_32, eg_39, if_pos c_3, if_pos c_17, if_neg c_38, if_pos c_40, if_neg c_41, if_pos c_42, if_pos c_43]) hP hD hS (lv_sub hl [2, 3, 4, 5, 6, 0] rfl)
                  · refine lv_aload_n hx hb d_Mo_readWall_108 rfl (lv_at hl 1 rfl) ?_
                    refine lv_iconst (v := 3) hx hb d_Mo_readWall_109 (by decide) ?_
                    refine lv_aload_n hx hb d_Mo_readWall_110 rfl (lv_at hl 1 rfl) ?_
                    refine va_get (D := D) (ci := 5) (v := .int g_39.2.1) (C := R_Mo) (T := T_Mo) (N := 13) hx hb hts i_Mo hown hK hP 0 rfl rfl 10 (by decide) (hts _ w_428) (fun _ h9 => h9) rfl d_Mo_readWall_111 ?_
                    refine lv_iconst (v := 1) hx hb d_Mo_readWall_114 (by decide) ?_
                    refine lv_isub hx hb d_Mo_readWall_115 ?_
                    refine pz_v (pz_rV (d := 0) (As := [.int 3, .int (g_39.2.1 - 1)]) (rest := []) X hN (c_Mo_wrong l D cB cI cS o0 ib pb qb th ck n nm no g_39.2 3 (g_39.2.1 - 1) _) k_Mo_wrong w_490 ⟨by decide, by decide⟩ hK hP hD [0] rfl rfl 0 rfl rfl rfl rfl hl.1 rfl (Nat.le_of_ble_eq_true rfl) d_Mo_readWall_116 ⟨Nat.zero_le _, Nat.zero_le _⟩) hP hD hS hA [0] rfl [o0] rfl rfl (fun H locs hP hD hS => ?_)
                    have hP : va_P D cls ([(o0, .inr (5, [.int th, .ref ib, .int (nI n), .ref pb, .int (nI nm), .ref qb, .int (nI no), .int ((ywr g_39.2 3 (g_39.2.1 - 1)).2.1), .int ((ywr g_39.2 3 (g_39.2.1 - 1)).2.2.1), .int ck, .int ((ywr g_39.2 3 (g_39.2.1 - 1)).1), .int ((ywr g_39.2 3 (g_39.2.1 - 1)).2.2.2.1), .int ((ywr g_39.2 3 (g_39.2.1 - 1)).2.2.2.2)])), (ib, .inl (cB, 8192, .inl f))]) H := hP
                    have hD : va_D A ([(o0, .inr (5, [.int th, .ref ib, .int (nI n), .ref pb, .int (nI nm), .ref qb, .int (nI no), .int ((ywr g_39.2 3 (g_39.2.1 - 1)).2.1), .int ((ywr g_39.2 3 (g_39.2.1 - 1)).2.2.1), .int ck, .int ((ywr g_39.2 3 (g_39.2.1 - 1)).1), .int ((ywr g_39.2 3 (g_39.2.1 - 1)).2.2.2.1), .int ((ywr g_39.2 3 (g_39.2.1 - 1)).2.2.2.2)])), (ib, .inl (cB, 8192, .inl f))]) := hD
                    refine lv_iinc (v := nI (k + 1)) (lv' := [(8, .int (nI (k + 1))), (9, .int g_39.1), (0, .ref o0), (1, .int v), (2, .int t), (3, .int s_), (7, .int g_32.1)]) hx hb d_Mo_readWall_119 hl (k := 6) rfl (nI_1 k) (by decide) rfl (fun ls hl => ?_)
                    refine lv_goto (tgt := 65) hx hb d_Mo_readWall_122 (by decide) ?_
                    exact ih5 (k + 1) (ywr g_39.2 3 (g_39.2.1 - 1)) _ _ _ (by omega) ((ok5_wr ok_g_39 _ _)) (by rw [he, ywt]; simp only [yws, eg_1, eg_2, eg_31, eg_32, eg_39, if_pos c_3, if_pos c_17, if_neg c_38, if_pos c_40, if_neg c_41, if_pos c_42, if_neg c_43]) hP hD hS (lv_sub hl [2, 3, 4, 5, 6, 0] rfl)
      exact lp_5 6 0 g_32.2 _ _ _ (by omega) (ok_g_32) (rfl) hP hD hS (lv_sub hl [5, 6, 7, 8, 1, 0] rfl)

set_option maxRecDepth 100000 in
set_option maxHeartbeats 4000000 in
/-- readCheck -/
theorem c_Mo_readCheck (l : Launch) (D : va_G) (cB cI cS : ClassId) (o0 ib pb qb : Nat) (th ck : Int32) (n nm no : Nat) (q : S5) (f : Nat → Int32) (due : Int32) (hn : n ≤ 8192) (hq : ok5 n q) : mV l y_Mo_readCheck b_Mo_readCheck 4 (none) 2 D cls [(cB, .byte), (cI, .int), (cS, .object "MapLumps$Span")] [.ref o0, .int due] ([(o0, .inr (5, [.int th, .ref ib, .int (nI n), .ref pb, .int (nI nm), .ref qb, .int (nI no), .int q.2.1, .int q.2.2.1, .int ck, .int q.1, .int q.2.2.2.1, .int q.2.2.2.2])), (ib, .inl (cB, 8192, .inl f))]) ([(o0, .inr (5, [.int th, .ref ib, .int (nI n), .ref pb, .int (nI nm), .ref qb, .int (nI no), .int ((yck f n due q).2.1), .int ((yck f n due q).2.2.1), .int ck, .int ((yck f n due q).1), .int ((yck f n due q).2.2.2.1), .int ((yck f n due q).2.2.2.2)])), (ib, .inl (cB, 8192, .inl f))]) := by
  refine pz_openV (by decide) (Nat.le_of_ble_eq_true rfl) ?_
  intro p e s m below meth c A ls Q X hN hK hP hD hS hA hl fin
  obtain ⟨hx, hb, hml, hown, hts⟩ := id X
  have hl : lv_has ls 4 [(0, .ref o0), (1, .int due)] := hl
  refine lv_aload_n hx hb d_Mo_readCheck_0 rfl (lv_at hl 0 rfl) ?_
  refine va_get (D := D) (ci := 5) (v := .int q.1) (C := R_Mo) (T := T_Mo) (N := 13) hx hb hts i_Mo hown hK hP 0 rfl rfl 10 (by decide) (hts _ w_428) (fun _ h9 => h9) rfl d_Mo_readCheck_1 ?_
  refine lv_istore_n (lv' := [(2, .int q.1), (0, .ref o0), (1, .int due)]) hx hb d_Mo_readCheck_4 rfl hl (by decide) rfl (fun ls hl => ?_)
  refine lv_aload_n hx hb d_Mo_readCheck_5 rfl (lv_at hl 1 rfl) ?_
  refine lv_iconst (v := 0) hx hb d_Mo_readCheck_6 (by decide) ?_
  refine lv_sipush (v := 255) hx hb d_Mo_readCheck_7 (by decide) ?_
  refine pz_i (pz_rV (d := 1) (As := [.int 0, .int 255]) (rest := []) X hN (c_Mo_next l D cB cI cS o0 ib pb qb th ck n nm no q f 0 255 hn hq _) k_Mo_next w_486 ⟨by decide, by decide⟩ hK hP hD [0, 1] rfl rfl 0 rfl rfl rfl rfl hl.1 rfl (Nat.le_of_ble_eq_true rfl) d_Mo_readCheck_10 ⟨Nat.zero_le _, Nat.zero_le _⟩) hP hD hS hA [0, 1] rfl [o0, ib] rfl rfl (fun H locs hP hD hS => ?_)
  generalize eg_1 : ynx f n q 0 255 = g_1 at hP hD ⊢
  have hP : va_P D cls ([(o0, .inr (5, [.int th, .ref ib, .int (nI n), .ref pb, .int (nI nm), .ref qb, .int (nI no), .int g_1.2.2.1, .int g_1.2.2.2.1, .int ck, .int g_1.2.1, .int g_1.2.2.2.2.1, .int g_1.2.2.2.2.2])), (ib, .inl (cB, 8192, .inl f))]) H := hP
  have hD : va_D A ([(o0, .inr (5, [.int th, .ref ib, .int (nI n), .ref pb, .int (nI nm), .ref qb, .int (nI no), .int g_1.2.2.1, .int g_1.2.2.2.1, .int ck, .int g_1.2.1, .int g_1.2.2.2.2.1, .int g_1.2.2.2.2.2])), (ib, .inl (cB, 8192, .inl f))]) := hD
  have ok_g_1 : ok5 n g_1.2 := by rw [← eg_1]; exact ok5_nx hq _ _
  refine lv_istore_n (lv' := [(3, .int g_1.1), (2, .int q.1), (0, .ref o0), (1, .int due)]) hx hb d_Mo_readCheck_13 rfl hl (by decide) rfl (fun ls hl => ?_)
  refine lv_aload_n hx hb d_Mo_readCheck_14 rfl (lv_at hl 2 rfl) ?_
  refine va_get (D := D) (ci := 5) (v := .int g_1.2.2.1) (C := R_Mo) (T := T_Mo) (N := 13) hx hb hts i_Mo hown hK hP 0 rfl rfl 7 (by decide) (hts _ w_425) (fun _ h9 => h9) rfl d_Mo_readCheck_15 ?_
  refine lv_if_ne (tgt := 32) hx hb d_Mo_readCheck_18 (by decide) (fun c_2 => ?_) (fun c_2 => ?_)
  · exact fin _ _ _ _ _ d_Mo_readCheck_32 hP hS (by simp only [yck, eg_1, if_neg c_2])
  · refine lv_iload_n hx hb d_Mo_readCheck_21 rfl (lv_at hl 0 rfl) ?_
    refine lv_iload_n hx hb d_Mo_readCheck_22 rfl (lv_at hl 3 rfl) ?_
    refine lv_icmp_eq (tgt := 32) hx hb d_Mo_readCheck_23 (by decide) (fun c_3 => ?_) (fun c_3 => ?_)
    · exact fin _ _ _ _ _ d_Mo_readCheck_32 hP hS (by simp only [yck, eg_1, if_pos c_2, if_pos c_3])
    · refine lv_aload_n hx hb d_Mo_readCheck_26 rfl (lv_at hl 2 rfl) ?_
      refine lv_iconst (v := 4) hx hb d_Mo_readCheck_27 (by decide) ?_
      refine lv_iload_n hx hb d_Mo_readCheck_28 rfl (lv_at hl 1 rfl) ?_
      refine pz_v (pz_rV (d := 0) (As := [.int 4, .int q.1]) (rest := []) X hN (c_Mo_wrong l D cB cI cS o0 ib pb qb th ck n nm no g_1.2 4 q.1 _) k_Mo_wrong w_490 ⟨by decide, by decide⟩ hK hP hD [0] rfl rfl 0 rfl rfl rfl rfl hl.1 rfl (Nat.le_of_ble_eq_true rfl) d_Mo_readCheck_29 ⟨Nat.zero_le _, Nat.zero_le _⟩) hP hD hS hA [0] rfl [o0] rfl rfl (fun H locs hP hD hS => ?_)
      have hP : va_P D cls ([(o0, .inr (5, [.int th, .ref ib, .int (nI n), .ref pb, .int (nI nm), .ref qb, .int (nI no), .int ((ywr g_1.2 4 q.1).2.1), .int ((ywr g_1.2 4 q.1).2.2.1), .int ck, .int ((ywr g_1.2 4 q.1).1), .int ((ywr g_1.2 4 q.1).2.2.2.1), .int ((ywr g_1.2 4 q.1).2.2.2.2)])), (ib, .inl (cB, 8192, .inl f))]) H := hP
      have hD : va_D A ([(o0, .inr (5, [.int th, .ref ib, .int (nI n), .ref pb, .int (nI nm), .ref qb, .int (nI no), .int ((ywr g_1.2 4 q.1).2.1), .int ((ywr g_1.2 4 q.1).2.2.1), .int ck, .int ((ywr g_1.2 4 q.1).1), .int ((ywr g_1.2 4 q.1).2.2.2.1), .int ((ywr g_1.2 4 q.1).2.2.2.2)])), (ib, .inl (cB, 8192, .inl f))]) := hD
      exact fin _ _ _ _ _ d_Mo_readCheck_32 hP hS (by simp only [yck, eg_1, if_pos c_2, if_neg c_3])
