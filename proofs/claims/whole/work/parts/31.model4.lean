set_option maxRecDepth 100000 in
set_option maxHeartbeats 4000000 in
/-- readAll -/
theorem c_Mo_readAll (l : Launch) (D : va_G) (cB cI cS : ClassId) (o0 ib pb qb : Nat) (th ck : Int32) (n nm no : Nat) (q : S5) (f : Nat → Int32) (hn : n ≤ 8192) (hq : ok5 n q) : mV l y_Mo_readAll b_Mo_readAll 14 (none) 4 D cls [(cB, .byte), (cI, .int), (cS, .object "MapLumps$Span")] [.ref o0] ([(o0, .inr (5, [.int th, .ref ib, .int (nI n), .ref pb, .int (nI nm), .ref qb, .int (nI no), .int q.2.1, .int q.2.2.1, .int ck, .int q.1, .int q.2.2.2.1, .int q.2.2.2.2])), (ib, .inl (cB, 8192, .inl f))]) ([(o0, .inr (5, [.int th, .ref ib, .int (nI n), .ref pb, .int (nI nm), .ref qb, .int (nI no), .int ((yal f n q ck).1.2.1), .int ((yal f n q ck).1.2.2.1), .int ((yal f n q ck).2), .int ((yal f n q ck).1.1), .int ((yal f n q ck).1.2.2.2.1), .int ((yal f n q ck).1.2.2.2.2)])), (ib, .inl (cB, 8192, .inl f))]) := by
  refine pz_openV (by decide) (Nat.le_of_ble_eq_true rfl) ?_
  intro p e s m below meth c A ls Q X hN hK hP hD hS hA hl fin
  obtain ⟨hx, hb, hml, hown, hts⟩ := id X
  have hl : lv_has ls 14 [(0, .ref o0)] := hl
  refine lv_iconst (v := 0) hx hb d_Mo_readAll_0 (by decide) ?_
  have j314 : ∀ (z : S5) (Fz : Nat) (Wn : Nat) (ls : Array Slot) (H : Heap) (locs : List Loc), Wn ≤ 255 → (z.2.1 = 0 → Fz + 14 * Wn ≤ 8192) → yal f n q ck = yk2 f Fz Wn 0 (z, ck) → va_P D cls ([(o0, .inr (5, [.int th, .ref ib, .int (nI n), .ref pb, .int (nI nm), .ref qb, .int (nI no), .int z.2.1, .int z.2.2.1, .int ck, .int z.1, .int z.2.2.2.1, .int z.2.2.2.2])), (ib, .inl (cB, 8192, .inl f))]) H → va_D A ([(o0, .inr (5, [.int th, .ref ib, .int (nI n), .ref pb, .int (nI nm), .ref qb, .int (nI no), .int z.2.1, .int z.2.2.1, .int ck, .int z.1, .int z.2.2.2.1, .int z.2.2.2.2])), (ib, .inl (cB, 8192, .inl f))]) → va_S A s.heap H locs → lv_has ls 14 [(0, .ref o0), (4, .int (nI Wn)), (5, .int (nI Fz))] → W p l e (rmd 4) s m ([.ref o0] : List Value).toArray below meth c H locs 0 0 Q (F0 m 314 ls []) := by
    intro z Fz Wn ls H locs hW_ hF he hP hD hS hl
    refine lv_iconst (v := 0) hx hb d_Mo_readAll_314 (by decide) ?_
    refine lv_istore (lv' := [(12, .int 0), (0, .ref o0), (4, .int (nI Wn)), (5, .int (nI Fz))]) hx hb d_Mo_readAll_315 hl (by decide) rfl (fun ls hl => ?_)
    have lp_6 : ∀ (j6 : Nat) (w_ : Nat) (y : SY) (ls : Array Slot) (H : Heap) (locs : List Loc), j6 + w_ = Wn → (y.1.2.1 = 0 → Fz + 14 * Wn ≤ 8192) → yk2 f Fz Wn 0 (z, ck) = yk2 f Fz j6 w_ y → va_P D cls ([(o0, .inr (5, [.int th, .ref ib, .int (nI n), .ref pb, .int (nI nm), .ref qb, .int (nI no), .int y.1.2.1, .int y.1.2.2.1, .int y.2, .int y.1.1, .int y.1.2.2.2.1, .int y.1.2.2.2.2])), (ib, .inl (cB, 8192, .inl f))]) H → va_D A ([(o0, .inr (5, [.int th, .ref ib, .int (nI n), .ref pb, .int (nI nm), .ref qb, .int (nI no), .int y.1.2.1, .int y.1.2.2.1, .int y.2, .int y.1.1, .int y.1.2.2.2.1, .int y.1.2.2.2.2])), (ib, .inl (cB, 8192, .inl f))]) → va_S A s.heap H locs → lv_has ls 14 [(0, .ref o0), (4, .int (nI Wn)), (5, .int (nI Fz)), (12, .int (nI w_))] → W p l e (rmd 4) s m ([.ref o0] : List Value).toArray below meth c H locs 0 0 Q (F0 m 317 ls []) := by
      intro j6
      induction j6 with
      | zero =>
        intro w_ y ls H locs hi2 hFy he2 hP hD hS hl
        refine lv_iload hx hb d_Mo_readAll_317 (lv_at hl 3 rfl) ?_
        refine lv_iload hx hb d_Mo_readAll_319 (lv_at hl 1 rfl) ?_
        refine lv_icmp_ge (tgt := 403) hx hb d_Mo_readAll_321 (by decide) (fun c_1 => ?_) (fun c_1 => ?_)
        · exact fin _ _ _ _ _ d_Mo_readAll_403 hP hS (by rw [he, he2]; simp only [yk2, if_pos c_1])
        · exact (c_1 (by rw [nI_leI (by omega) (by omega)]; omega)).elim
      | succ j6 ih6 =>
        intro w_ y ls H locs hi2 hFy he2 hP hD hS hl
        refine lv_iload hx hb d_Mo_readAll_317 (lv_at hl 3 rfl) ?_
        refine lv_iload hx hb d_Mo_readAll_319 (lv_at hl 1 rfl) ?_
        refine lv_icmp_ge (tgt := 403) hx hb d_Mo_readAll_321 (by decide) (fun c_2 => ?_) (fun c_2 => ?_)
        · exact absurd c_2 (by rw [nI_leI (by omega) (by omega)]; omega)
        · refine lv_aload_n hx hb d_Mo_readAll_324 rfl (lv_at hl 0 rfl) ?_
          refine va_get (D := D) (ci := 5) (v := .int y.1.2.1) (C := R_Mo) (T := T_Mo) (N := 13) hx hb hts i_Mo hown hK hP 0 rfl rfl 7 (by decide) (hts _ w_425) (fun _ h9 => h9) rfl d_Mo_readAll_325 ?_
          refine lv_if_ne (tgt := 403) hx hb d_Mo_readAll_328 (by decide) (fun c_3 => ?_) (fun c_3 => ?_)
          · exact fin _ _ _ _ _ d_Mo_readAll_403 hP hS (by rw [he, he2]; simp only [yk2, if_neg c_2, if_neg c_3])
          · refine lv_iconst (v := 0) hx hb d_Mo_readAll_331 (by decide) ?_
            refine lv_istore (lv' := [(13, .int 0), (0, .ref o0), (4, .int (nI Wn)), (5, .int (nI Fz)), (12, .int (nI w_))]) hx hb d_Mo_readAll_332 hl (by decide) rfl (fun ls hl => ?_)
            have hB : Fz + 14 * Wn ≤ 8192 := hFy c_3
            have lp_7 : ∀ (j7 : Nat) (v_ : Nat) (x : SY) (ls : Array Slot) (H : Heap) (locs : List Loc), j7 + v_ = w_ → yk1 f Fz w_ w_ 0 y = yk1 f Fz w_ j7 v_ x → va_P D cls ([(o0, .inr (5, [.int th, .ref ib, .int (nI n), .ref pb, .int (nI nm), .ref qb, .int (nI no), .int x.1.2.1, .int x.1.2.2.1, .int x.2, .int x.1.1, .int x.1.2.2.2.1, .int x.1.2.2.2.2])), (ib, .inl (cB, 8192, .inl f))]) H → va_D A ([(o0, .inr (5, [.int th, .ref ib, .int (nI n), .ref pb, .int (nI nm), .ref qb, .int (nI no), .int x.1.2.1, .int x.1.2.2.1, .int x.2, .int x.1.1, .int x.1.2.2.2.1, .int x.1.2.2.2.2])), (ib, .inl (cB, 8192, .inl f))]) → va_S A s.heap H locs → lv_has ls 14 [(0, .ref o0), (4, .int (nI Wn)), (5, .int (nI Fz)), (12, .int (nI w_)), (13, .int (nI v_))] → W p l e (rmd 4) s m ([.ref o0] : List Value).toArray below meth c H locs 0 0 Q (F0 m 334 ls []) := by
              intro j7
              induction j7 with
              | zero =>
                intro v_ x ls H locs hi3 he3 hP hD hS hl
                refine lv_iload hx hb d_Mo_readAll_334 (lv_at hl 4 rfl) ?_
                refine lv_iload hx hb d_Mo_readAll_336 (lv_at hl 3 rfl) ?_
                refine lv_icmp_ge (tgt := 397) hx hb d_Mo_readAll_338 (by decide) (fun c_4 => ?_) (fun c_4 => ?_)
                · refine lv_iinc (v := nI (w_ + 1)) (lv' := [(12, .int (nI (w_ + 1))), (0, .ref o0), (4, .int (nI Wn)), (5, .int (nI Fz)), (13, .int (nI v_))]) hx hb d_Mo_readAll_397 hl (k := 3) rfl (nI_1 w_) (by decide) rfl (fun ls hl => ?_)
                  refine lv_goto (tgt := 317) hx hb d_Mo_readAll_400 (by decide) ?_
                  exact ih6 (w_ + 1) (x.1, x.2) _ _ _ (by omega) (fun _ => hB) (by rw [he2, yk2]; simp only [if_neg c_2, if_pos c_3, if_pos c_4]; exact congrArg (yk2 f Fz j6 (w_ + 1)) (he3.trans (by simp only [yk1, if_neg c_2, if_pos c_3, if_pos c_4]))) hP hD hS (lv_sub hl [1, 2, 3, 0] rfl)
                · exact (c_4 (by rw [nI_leI (by omega) (by omega)]; omega)).elim
              | succ j7 ih7 =>
                intro v_ x ls H locs hi3 he3 hP hD hS hl
                refine lv_iload hx hb d_Mo_readAll_334 (lv_at hl 4 rfl) ?_
                refine lv_iload hx hb d_Mo_readAll_336 (lv_at hl 3 rfl) ?_
                refine lv_icmp_ge (tgt := 397) hx hb d_Mo_readAll_338 (by decide) (fun c_5 => ?_) (fun c_5 => ?_)
                · exact absurd c_5 (by rw [nI_leI (by omega) (by omega)]; omega)
                · refine lv_aload_n hx hb d_Mo_readAll_341 rfl (lv_at hl 0 rfl) ?_
                  refine va_get (D := D) (ci := 5) (v := .int x.1.2.1) (C := R_Mo) (T := T_Mo) (N := 13) hx hb hts i_Mo hown hK hP 0 rfl rfl 7 (by decide) (hts _ w_425) (fun _ h9 => h9) rfl d_Mo_readAll_342 ?_
                  refine lv_if_ne (tgt := 397) hx hb d_Mo_readAll_345 (by decide) (fun c_6 => ?_) (fun c_6 => ?_)
                  · refine lv_iinc (v := nI (w_ + 1)) (lv' := [(12, .int (nI (w_ + 1))), (0, .ref o0), (4, .int (nI Wn)), (5, .int (nI Fz)), (13, .int (nI v_))]) hx hb d_Mo_readAll_397 hl (k := 3) rfl (nI_1 w_) (by decide) rfl (fun ls hl => ?_)
                    refine lv_goto (tgt := 317) hx hb d_Mo_readAll_400 (by decide) ?_
                    exact ih6 (w_ + 1) (x.1, x.2) _ _ _ (by omega) (fun _ => hB) (by rw [he2, yk2]; simp only [if_neg c_2, if_pos c_3, if_neg c_5, if_neg c_6]; exact congrArg (yk2 f Fz j6 (w_ + 1)) (he3.trans (by simp only [yk1, if_neg c_2, if_pos c_3, if_neg c_5, if_neg c_6]))) hP hD hS (lv_sub hl [1, 2, 3, 0] rfl)
                  · refine lv_aload_n hx hb d_Mo_readAll_348 rfl (lv_at hl 0 rfl) ?_
                    refine lv_iload hx hb d_Mo_readAll_349 (lv_at hl 2 rfl) ?_
                    refine lv_bipush (v := 14) hx hb d_Mo_readAll_351 (by decide) ?_
                    refine lv_iload hx hb d_Mo_readAll_353 (lv_at hl 4 rfl) ?_
                    refine lv_imul hx hb d_Mo_readAll_355 ?_
                    refine lv_iadd hx hb d_Mo_readAll_356 ?_
                    refine lv_iload hx hb d_Mo_readAll_357 (lv_at hl 2 rfl) ?_
                    refine lv_bipush (v := 14) hx hb d_Mo_readAll_359 (by decide) ?_
                    refine lv_iload hx hb d_Mo_readAll_361 (lv_at hl 3 rfl) ?_
                    refine lv_imul hx hb d_Mo_readAll_363 ?_
                    refine lv_iadd hx hb d_Mo_readAll_364 ?_
                    rw [n14, n14]
                    refine pz_i0 (pz_rV (d := 3) (As := [.int (nI (Fz + 14 * v_)), .int (nI (Fz + 14 * w_))]) (rest := []) X hN (c_Mo_touch l D cB cI cS o0 ib pb qb th x.2 n nm no x.1 f (Fz + 14 * v_) (Fz + 14 * w_) (by omega) (by first | omega | exact yb_lt _ _) _) k_Mo_touch w_526 ⟨by decide, by decide⟩ hK hP hD [0, 1] rfl rfl 0 rfl rfl rfl rfl hl.1 rfl (Nat.le_of_ble_eq_true rfl) d_Mo_readAll_365 ⟨Nat.zero_le _, Nat.zero_le _⟩) hP hD hS hA [0, 1] rfl (fun H locs hP hS => ?_)
                    refine lv_if_eq (tgt := 391) hx hb d_Mo_readAll_368 (by decide) (fun c_7 => ?_) (fun c_7 => ?_)
                    · refine lv_iinc (v := nI (v_ + 1)) (lv' := [(13, .int (nI (v_ + 1))), (0, .ref o0), (4, .int (nI Wn)), (5, .int (nI Fz)), (12, .int (nI w_))]) hx hb d_Mo_readAll_391 hl (k := 4) rfl (nI_1 v_) (by decide) rfl (fun ls hl => ?_)
                      refine lv_goto (tgt := 334) hx hb d_Mo_readAll_394 (by decide) ?_
                      exact ih7 (v_ + 1) (x.1, x.2) _ _ _ (by omega) (by rw [he3, yk1]; simp only [if_neg c_2, if_pos c_3, if_neg c_5, if_pos c_6, if_pos c_7]) hP hD hS (lv_sub hl [1, 2, 3, 4, 0] rfl)
                    · refine lv_aload_n hx hb d_Mo_readAll_371 rfl (lv_at hl 0 rfl) ?_
                      refine lv_bipush (v := 6) hx hb d_Mo_readAll_372 (by decide) ?_
                      refine lv_iload hx hb d_Mo_readAll_374 (lv_at hl 2 rfl) ?_
                      refine lv_bipush (v := 14) hx hb d_Mo_readAll_376 (by decide) ?_
                      refine lv_iload hx hb d_Mo_readAll_378 (lv_at hl 3 rfl) ?_
                      refine lv_imul hx hb d_Mo_readAll_380 ?_
                      refine lv_iadd hx hb d_Mo_readAll_381 ?_
                      refine pz_v (pz_rV (d := 0) (As := [.int 6, .int ((nI Fz) + (14 * (nI w_)))]) (rest := []) X hN (c_Mo_wrong l D cB cI cS o0 ib pb qb th x.2 n nm no x.1 6 ((nI Fz) + (14 * (nI w_))) _) k_Mo_wrong w_490 ⟨by decide, by decide⟩ hK hP hD [0] rfl rfl 0 rfl rfl rfl rfl hl.1 rfl (Nat.le_of_ble_eq_true rfl) d_Mo_readAll_382 ⟨Nat.zero_le _, Nat.zero_le _⟩) hP hD hS hA [0] rfl [o0] rfl rfl (fun H locs hP hD hS => ?_)
                      have hP : va_P D cls ([(o0, .inr (5, [.int th, .ref ib, .int (nI n), .ref pb, .int (nI nm), .ref qb, .int (nI no), .int ((ywr x.1 6 ((nI Fz) + (14 * (nI w_)))).2.1), .int ((ywr x.1 6 ((nI Fz) + (14 * (nI w_)))).2.2.1), .int x.2, .int ((ywr x.1 6 ((nI Fz) + (14 * (nI w_)))).1), .int ((ywr x.1 6 ((nI Fz) + (14 * (nI w_)))).2.2.2.1), .int ((ywr x.1 6 ((nI Fz) + (14 * (nI w_)))).2.2.2.2)])), (ib, .inl (cB, 8192, .inl f))]) H := hP
                      have hD : va_D A ([(o0, .inr (5, [.int th, .ref ib, .int (nI n), .ref pb, .int (nI nm), .ref qb, .int (nI no), .int ((ywr x.1 6 ((nI Fz) + (14 * (nI w_)))).2.1), .int ((ywr x.1 6 ((nI Fz) + (14 * (nI w_)))).2.2.1), .int x.2, .int ((ywr x.1 6 ((nI Fz) + (14 * (nI w_)))).1), .int ((ywr x.1 6 ((nI Fz) + (14 * (nI w_)))).2.2.2.1), .int ((ywr x.1 6 ((nI Fz) + (14 * (nI w_)))).2.2.2.2)])), (ib, .inl (cB, 8192, .inl f))]) := hD
                      refine lv_aload_n hx hb d_Mo_readAll_385 rfl (lv_at hl 0 rfl) ?_
                      refine lv_iload hx hb d_Mo_readAll_386 (lv_at hl 3 rfl) ?_
                      refine va_put (D := D) (ci := 5) (v := .int (nI w_)) (ty := (.int)) (C := R_Mo) (T := T_Mo) (N := 13) hx hb hts i_Mo ty_Mo tyok_Mo nm_Mo hown hK hP hD hS 0 rfl rfl 9 (by decide) (hts _ w_427) (fun _ h9 => h9) rfl (by decide +kernel) rfl rfl (Nat.le_of_ble_eq_true rfl) d_Mo_readAll_388 (fun H locs hP hD hS => ?_)
                      have hP : va_P D cls ([(o0, .inr (5, [.int th, .ref ib, .int (nI n), .ref pb, .int (nI nm), .ref qb, .int (nI no), .int ((ywr x.1 6 ((nI Fz) + (14 * (nI w_)))).2.1), .int ((ywr x.1 6 ((nI Fz) + (14 * (nI w_)))).2.2.1), .int (nI w_), .int ((ywr x.1 6 ((nI Fz) + (14 * (nI w_)))).1), .int ((ywr x.1 6 ((nI Fz) + (14 * (nI w_)))).2.2.2.1), .int ((ywr x.1 6 ((nI Fz) + (14 * (nI w_)))).2.2.2.2)])), (ib, .inl (cB, 8192, .inl f))]) H := hP
                      have hD : va_D A ([(o0, .inr (5, [.int th, .ref ib, .int (nI n), .ref pb, .int (nI nm), .ref qb, .int (nI no), .int ((ywr x.1 6 ((nI Fz) + (14 * (nI w_)))).2.1), .int ((ywr x.1 6 ((nI Fz) + (14 * (nI w_)))).2.2.1), .int (nI w_), .int ((ywr x.1 6 ((nI Fz) + (14 * (nI w_)))).1), .int ((ywr x.1 6 ((nI Fz) + (14 * (nI w_)))).2.2.2.1), .int ((ywr x.1 6 ((nI Fz) + (14 * (nI w_)))).2.2.2.2)])), (ib, .inl (cB, 8192, .inl f))]) := hD
                      refine lv_iinc (v := nI (v_ + 1)) (lv' := [(13, .int (nI (v_ + 1))), (0, .ref o0), (4, .int (nI Wn)), (5, .int (nI Fz)), (12, .int (nI w_))]) hx hb d_Mo_readAll_391 hl (k := 4) rfl (nI_1 v_) (by decide) rfl (fun ls hl => ?_)
                      refine lv_goto (tgt := 334) hx hb d_Mo_readAll_394 (by decide) ?_
                      exact ih7 (v_ + 1) ((ywr x.1 6 ((nI Fz) + (14 * (nI w_)))), nI w_) _ _ _ (by omega) (by rw [he3, yk1]; simp only [if_neg c_2, if_pos c_3, if_neg c_5, if_pos c_6, if_neg c_7]) hP hD hS (lv_sub hl [1, 2, 3, 4, 0] rfl)
            exact lp_7 w_ 0 y _ _ _ (by omega) (rfl) hP hD hS (lv_sub hl [1, 2, 3, 4, 0] rfl)
    exact lp_6 Wn 0 (z, ck) _ _ _ (by omega) (hF) (rfl) hP hD hS (lv_sub hl [1, 2, 3, 0] rfl)
  have j220 : ∀ (s3 : Int32) (z : S5) (Fz : Nat) (Wn : Nat) (ls : Array Slot) (H : Heap) (locs : List Loc), ok5 n z → Wn ≤ 255 → (z.2.1 = 0 → Fz + 14 * Wn ≤ 8192) → yal f n q ck = yk2 f Fz Wn 0 (yen f n s3 z, ck) → va_P D cls ([(o0, .inr (5, [.int th, .ref ib, .int (nI n), .ref pb, .int (nI nm), .ref qb, .int (nI no), .int z.2.1, .int z.2.2.1, .int ck, .int z.1, .int z.2.2.2.1, .int z.2.2.2.2])), (ib, .inl (cB, 8192, .inl f))]) H → va_D A ([(o0, .inr (5, [.int th, .ref ib, .int (nI n), .ref pb, .int (nI nm), .ref qb, .int (nI no), .int z.2.1, .int z.2.2.1, .int ck, .int z.1, .int z.2.2.2.1, .int z.2.2.2.2])), (ib, .inl (cB, 8192, .inl f))]) → va_S A s.heap H locs → lv_has ls 14 [(0, .ref o0), (3, .int s3), (4, .int (nI Wn)), (5, .int (nI Fz))] → W p l e (rmd 4) s m ([.ref o0] : List Value).toArray below meth c H locs 0 0 Q (F0 m 220 ls []) := by
    intro s3 z Fz Wn ls H locs hz hW_ hF he hP hD hS hl
    refine lv_aload_n hx hb d_Mo_readAll_220 rfl (lv_at hl 0 rfl) ?_
    refine lv_sipush (v := (-32768)) hx hb d_Mo_readAll_221 (by decide) ?_
    refine lv_sipush (v := 32767) hx hb d_Mo_readAll_224 (by decide) ?_
    refine pz_i (pz_rV (d := 2) (As := [.int (-32768), .int 32767]) (rest := []) X hN (c_Mo_nextTwo l D cB cI cS o0 ib pb qb th ck n nm no z f (-32768) 32767 hn hz _) k_Mo_nextTwo w_498 ⟨by decide, by decide⟩ hK hP hD [0, 1] rfl rfl 0 rfl rfl rfl rfl hl.1 rfl (Nat.le_of_ble_eq_true rfl) d_Mo_readAll_227 ⟨Nat.zero_le _, Nat.zero_le _⟩) hP hD hS hA [0, 1] rfl [o0, ib] rfl rfl (fun H locs hP hD hS => ?_)
    generalize eg_8 : ytw f n z (-32768) 32767 = g_8 at hP hD ⊢
    have hP : va_P D cls ([(o0, .inr (5, [.int th, .ref ib, .int (nI n), .ref pb, .int (nI nm), .ref qb, .int (nI no), .int g_8.2.2.1, .int g_8.2.2.2.1, .int ck, .int g_8.2.1, .int g_8.2.2.2.2.1, .int g_8.2.2.2.2.2])), (ib, .inl (cB, 8192, .inl f))]) H := hP
    have hD : va_D A ([(o0, .inr (5, [.int th, .ref ib, .int (nI n), .ref pb, .int (nI nm), .ref qb, .int (nI no), .int g_8.2.2.1, .int g_8.2.2.2.1, .int ck, .int g_8.2.1, .int g_8.2.2.2.2.1, .int g_8.2.2.2.2.2])), (ib, .inl (cB, 8192, .inl f))]) := hD
    have ok_g_8 : ok5 n g_8.2 := by rw [← eg_8]; exact ok5_tw hz _ _
    refine lv_istore (lv' := [(6, .int g_8.1), (0, .ref o0), (3, .int s3), (4, .int (nI Wn)), (5, .int (nI Fz))]) hx hb d_Mo_readAll_230 hl (by decide) rfl (fun ls hl => ?_)
    refine lv_aload_n hx hb d_Mo_readAll_232 rfl (lv_at hl 1 rfl) ?_
    refine lv_sipush (v := (-32768)) hx hb d_Mo_readAll_233 (by decide) ?_
    refine lv_sipush (v := 32767) hx hb d_Mo_readAll_236 (by decide) ?_
    refine pz_i (pz_rV (d := 2) (As := [.int (-32768), .int 32767]) (rest := []) X hN (c_Mo_nextTwo l D cB cI cS o0 ib pb qb th ck n nm no g_8.2 f (-32768) 32767 hn ok_g_8 _) k_Mo_nextTwo w_498 ⟨by decide, by decide⟩ hK hP hD [0, 1] rfl rfl 0 rfl rfl rfl rfl hl.1 rfl (Nat.le_of_ble_eq_true rfl) d_Mo_readAll_239 ⟨Nat.zero_le _, Nat.zero_le _⟩) hP hD hS hA [0, 1] rfl [o0, ib] rfl rfl (fun H locs hP hD hS => ?_)
    generalize eg_9 : ytw f n g_8.2 (-32768) 32767 = g_9 at hP hD ⊢
    have hP : va_P D cls ([(o0, .inr (5, [.int th, .ref ib, .int (nI n), .ref pb, .int (nI nm), .ref qb, .int (nI no), .int g_9.2.2.1, .int g_9.2.2.2.1, .int ck, .int g_9.2.1, .int g_9.2.2.2.2.1, .int g_9.2.2.2.2.2])), (ib, .inl (cB, 8192, .inl f))]) H := hP
    have hD : va_D A ([(o0, .inr (5, [.int th, .ref ib, .int (nI n), .ref pb, .int (nI nm), .ref qb, .int (nI no), .int g_9.2.2.1, .int g_9.2.2.2.1, .int ck, .int g_9.2.1, .int g_9.2.2.2.2.1, .int g_9.2.2.2.2.2])), (ib, .inl (cB, 8192, .inl f))]) := hD
    have ok_g_9 : ok5 n g_9.2 := by rw [← eg_9]; exact ok5_tw ok_g_8 _ _
    refine lv_istore (lv' := [(7, .int g_9.1), (6, .int g_8.1), (0, .ref o0), (3, .int s3), (4, .int (nI Wn)), (5, .int (nI Fz))]) hx hb d_Mo_readAll_242 hl (by decide) rfl (fun ls hl => ?_)
    refine lv_aload_n hx hb d_Mo_readAll_244 rfl (lv_at hl 2 rfl) ?_
    refine lv_iconst (v := 0) hx hb d_Mo_readAll_245 (by decide) ?_
    refine lv_bipush (v := 63) hx hb d_Mo_readAll_246 (by decide) ?_
    refine pz_i (pz_rV (d := 1) (As := [.int 0, .int 63]) (rest := []) X hN (c_Mo_next l D cB cI cS o0 ib pb qb th ck n nm no g_9.2 f 0 63 hn ok_g_9 _) k_Mo_next w_486 ⟨by decide, by decide⟩ hK hP hD [0, 1] rfl rfl 0 rfl rfl rfl rfl hl.1 rfl (Nat.le_of_ble_eq_true rfl) d_Mo_readAll_248 ⟨Nat.zero_le _, Nat.zero_le _⟩) hP hD hS hA [0, 1] rfl [o0, ib] rfl rfl (fun H locs hP hD hS => ?_)
    generalize eg_10 : ynx f n g_9.2 0 63 = g_10 at hP hD ⊢
    have hP : va_P D cls ([(o0, .inr (5, [.int th, .ref ib, .int (nI n), .ref pb, .int (nI nm), .ref qb, .int (nI no), .int g_10.2.2.1, .int g_10.2.2.2.1, .int ck, .int g_10.2.1, .int g_10.2.2.2.2.1, .int g_10.2.2.2.2.2])), (ib, .inl (cB, 8192, .inl f))]) H := hP
    have hD : va_D A ([(o0, .inr (5, [.int th, .ref ib, .int (nI n), .ref pb, .int (nI nm), .ref qb, .int (nI no), .int g_10.2.2.1, .int g_10.2.2.2.1, .int ck, .int g_10.2.1, .int g_10.2.2.2.2.1, .int g_10.2.2.2.2.2])), (ib, .inl (cB, 8192, .inl f))]) := hD
    have ok_g_10 : ok5 n g_10.2 := by rw [← eg_10]; exact ok5_nx ok_g_9 _ _
    refine lv_istore (lv' := [(8, .int g_10.1), (7, .int g_9.1), (6, .int g_8.1), (0, .ref o0), (3, .int s3), (4, .int (nI Wn)), (5, .int (nI Fz))]) hx hb d_Mo_readAll_251 hl (by decide) rfl (fun ls hl => ?_)
    refine lv_aload_n hx hb d_Mo_readAll_253 rfl (lv_at hl 3 rfl) ?_
    refine lv_iconst (v := 0) hx hb d_Mo_readAll_254 (by decide) ?_
    refine lv_iload_n hx hb d_Mo_readAll_255 rfl (lv_at hl 4 rfl) ?_
    refine lv_iconst (v := 1) hx hb d_Mo_readAll_256 (by decide) ?_
    refine lv_isub hx hb d_Mo_readAll_257 ?_
    refine pz_i (pz_rV (d := 1) (As := [.int 0, .int (s3 - 1)]) (rest := []) X hN (c_Mo_next l D cB cI cS o0 ib pb qb th ck n nm no g_10.2 f 0 (s3 - 1) hn ok_g_10 _) k_Mo_next w_486 ⟨by decide, by decide⟩ hK hP hD [0, 1] rfl rfl 0 rfl rfl rfl rfl hl.1 rfl (Nat.le_of_ble_eq_true rfl) d_Mo_readAll_258 ⟨Nat.zero_le _, Nat.zero_le _⟩) hP hD hS hA [0, 1] rfl [o0, ib] rfl rfl (fun H locs hP hD hS => ?_)
    generalize eg_11 : ynx f n g_10.2 0 (s3 - 1) = g_11 at hP hD ⊢
    have hP : va_P D cls ([(o0, .inr (5, [.int th, .ref ib, .int (nI n), .ref pb, .int (nI nm), .ref qb, .int (nI no), .int g_11.2.2.1, .int g_11.2.2.2.1, .int ck, .int g_11.2.1, .int g_11.2.2.2.2.1, .int g_11.2.2.2.2.2])), (ib, .inl (cB, 8192, .inl f))]) H := hP
    have hD : va_D A ([(o0, .inr (5, [.int th, .ref ib, .int (nI n), .ref pb, .int (nI nm), .ref qb, .int (nI no), .int g_11.2.2.1, .int g_11.2.2.2.1, .int ck, .int g_11.2.1, .int g_11.2.2.2.2.1, .int g_11.2.2.2.2.2])), (ib, .inl (cB, 8192, .inl f))]) := hD
    have ok_g_11 : ok5 n g_11.2 := by rw [← eg_11]; exact ok5_nx ok_g_10 _ _
    refine lv_istore (lv' := [(9, .int g_11.1), (8, .int g_10.1), (7, .int g_9.1), (6, .int g_8.1), (0, .ref o0), (3, .int s3), (4, .int (nI Wn)), (5, .int (nI Fz))]) hx hb d_Mo_readAll_261 hl (by decide) rfl (fun ls hl => ?_)
    refine lv_aload_n hx hb d_Mo_readAll_263 rfl (lv_at hl 4 rfl) ?_
    refine va_get (D := D) (ci := 5) (v := .int g_11.2.2.2.2.1) (C := R_Mo) (T := T_Mo) (N := 13) hx hb hts i_Mo hown hK hP 0 rfl rfl 11 (by decide) (hts _ w_429) (fun _ h9 => h9) rfl d_Mo_readAll_264 ?_
    refine lv_istore (lv' := [(10, .int g_11.2.2.2.2.1), (9, .int g_11.1), (8, .int g_10.1), (7, .int g_9.1), (6, .int g_8.1), (0, .ref o0), (3, .int s3), (4, .int (nI Wn)), (5, .int (nI Fz))]) hx hb d_Mo_readAll_267 hl (by decide) rfl (fun ls hl => ?_)
    refine lv_aload_n hx hb d_Mo_readAll_269 rfl (lv_at hl 5 rfl) ?_
    refine va_get (D := D) (ci := 5) (v := .int g_11.2.2.2.2.2) (C := R_Mo) (T := T_Mo) (N := 13) hx hb hts i_Mo hown hK hP 0 rfl rfl 12 (by decide) (hts _ w_430) (fun _ h9 => h9) rfl d_Mo_readAll_270 ?_
    refine lv_istore (lv' := [(11, .int g_11.2.2.2.2.2), (10, .int g_11.2.2.2.2.1), (9, .int g_11.1), (8, .int g_10.1), (7, .int g_9.1), (6, .int g_8.1), (0, .ref o0), (3, .int s3), (4, .int (nI Wn)), (5, .int (nI Fz))]) hx hb d_Mo_readAll_273 hl (by decide) rfl (fun ls hl => ?_)
    refine lv_aload_n hx hb d_Mo_readAll_275 rfl (lv_at hl 6 rfl) ?_
    refine lv_iload hx hb d_Mo_readAll_276 (lv_at hl 1 rfl) ?_
    refine pz_v (pz_rV (d := 2) (As := [.int g_11.2.2.2.2.1]) (rest := []) X hN (c_Mo_readCheck l D cB cI cS o0 ib pb qb th ck n nm no g_11.2 f g_11.2.2.2.2.1 hn ok_g_11 _) k_Mo_readCheck w_522 ⟨by decide, by decide⟩ hK hP hD [0, 1] rfl rfl 0 rfl rfl rfl rfl hl.1 rfl (Nat.le_of_ble_eq_true rfl) d_Mo_readAll_278 ⟨Nat.zero_le _, Nat.zero_le _⟩) hP hD hS hA [0, 1] rfl [o0, ib] rfl rfl (fun H locs hP hD hS => ?_)
    generalize eg_12 : yck f n g_11.2.2.2.2.1 g_11.2 = g_12 at hP hD ⊢
    have hP : va_P D cls ([(o0, .inr (5, [.int th, .ref ib, .int (nI n), .ref pb, .int (nI nm), .ref qb, .int (nI no), .int g_12.2.1, .int g_12.2.2.1, .int ck, .int g_12.1, .int g_12.2.2.2.1, .int g_12.2.2.2.2])), (ib, .inl (cB, 8192, .inl f))]) H := hP
    have hD : va_D A ([(o0, .inr (5, [.int th, .ref ib, .int (nI n), .ref pb, .int (nI nm), .ref qb, .int (nI no), .int g_12.2.1, .int g_12.2.2.1, .int ck, .int g_12.1, .int g_12.2.2.2.1, .int g_12.2.2.2.2])), (ib, .inl (cB, 8192, .inl f))]) := hD
    have ok_g_12 : ok5 n g_12 := by rw [← eg_12]; exact ok5_ck ok_g_11
    refine lv_aload_n hx hb d_Mo_readAll_281 rfl (lv_at hl 6 rfl) ?_
    refine lv_iload hx hb d_Mo_readAll_282 (lv_at hl 0 rfl) ?_
    refine pz_v (pz_rV (d := 2) (As := [.int g_11.2.2.2.2.2]) (rest := []) X hN (c_Mo_readCheck l D cB cI cS o0 ib pb qb th ck n nm no g_12 f g_11.2.2.2.2.2 hn ok_g_12 _) k_Mo_readCheck w_522 ⟨by decide, by decide⟩ hK hP hD [0, 1] rfl rfl 0 rfl rfl rfl rfl hl.1 rfl (Nat.le_of_ble_eq_true rfl) d_Mo_readAll_284 ⟨Nat.zero_le _, Nat.zero_le _⟩) hP hD hS hA [0, 1] rfl [o0, ib] rfl rfl (fun H locs hP hD hS => ?_)
    generalize eg_13 : yck f n g_11.2.2.2.2.2 g_12 = g_13 at hP hD ⊢
    have hP : va_P D cls ([(o0, .inr (5, [.int th, .ref ib, .int (nI n), .ref pb, .int (nI nm), .ref qb, .int (nI no), .int g_13.2.1, .int g_13.2.2.1, .int ck, .int g_13.1, .int g_13.2.2.2.1, .int g_13.2.2.2.2])), (ib, .inl (cB, 8192, .inl f))]) H := hP
    have hD : va_D A ([(o0, .inr (5, [.int th, .ref ib, .int (nI n), .ref pb, .int (nI nm), .ref qb, .int (nI no), .int g_13.2.1, .int g_13.2.2.1, .int ck, .int g_13.1, .int g_13.2.2.2.1, .int g_13.2.2.2.2])), (ib, .inl (cB, 8192, .inl f))]) := hD
    have ok_g_13 : ok5 n g_13 := by rw [← eg_13]; exact ok5_ck ok_g_12
    refine lv_aload_n hx hb d_Mo_readAll_287 rfl (lv_at hl 6 rfl) ?_
    refine va_get (D := D) (ci := 5) (v := .int g_13.2.1) (C := R_Mo) (T := T_Mo) (N := 13) hx hb hts i_Mo hown hK hP 0 rfl rfl 7 (by decide) (hts _ w_425) (fun _ h9 => h9) rfl d_Mo_readAll_288 ?_
    refine lv_if_ne (tgt := 314) hx hb d_Mo_readAll_291 (by decide) (fun c_14 => ?_) (fun c_14 => ?_)
    · have eQ : yen f n s3 z = g_13 := by simp only [yen, ye6, ye5, ye4, eg_8, eg_9, eg_10, eg_11, eg_12, eg_13, if_neg c_14]
      exact j314 g_13 Fz Wn _ _ _ (hW_) (fun h => hF (adv_en (f := f) (n := n) (s := s3) (by rw [eQ]; exact h))) (by rw [he, eQ]) hP hD hS (lv_sub hl [6, 8, 9] rfl)
    · refine lv_aload_n hx hb d_Mo_readAll_294 rfl (lv_at hl 6 rfl) ?_
      refine va_get (D := D) (ci := 5) (v := .int g_13.1) (C := R_Mo) (T := T_Mo) (N := 13) hx hb hts i_Mo hown hK hP 0 rfl rfl 10 (by decide) (hts _ w_428) (fun _ h9 => h9) rfl d_Mo_readAll_295 ?_
      refine lv_aload_n hx hb d_Mo_readAll_298 rfl (lv_at hl 6 rfl) ?_
      refine va_get (D := D) (ci := 5) (v := .int (nI n)) (C := R_Mo) (T := T_Mo) (N := 13) hx hb hts i_Mo hown hK hP 0 rfl rfl 2 (by decide) (hts _ w_420) (fun _ h9 => h9) rfl d_Mo_readAll_299 ?_
      refine lv_icmp_ge (tgt := 314) hx hb d_Mo_readAll_302 (by decide) (fun c_15 => ?_) (fun c_15 => ?_)
      · have eQ : yen f n s3 z = g_13 := by simp only [yen, ye6, ye5, ye4, eg_8, eg_9, eg_10, eg_11, eg_12, eg_13, if_pos c_14, if_pos c_15]
        exact j314 g_13 Fz Wn _ _ _ (hW_) (fun h => hF (adv_en (f := f) (n := n) (s := s3) (by rw [eQ]; exact h))) (by rw [he, eQ]) hP hD hS (lv_sub hl [6, 8, 9] rfl)
      · refine lv_aload_n hx hb d_Mo_readAll_305 rfl (lv_at hl 6 rfl) ?_
        refine lv_iconst (v := 5) hx hb d_Mo_readAll_306 (by decide) ?_
        refine lv_aload_n hx hb d_Mo_readAll_307 rfl (lv_at hl 6 rfl) ?_
        refine va_get (D := D) (ci := 5) (v := .int g_13.1) (C := R_Mo) (T := T_Mo) (N := 13) hx hb hts i_Mo hown hK hP 0 rfl rfl 10 (by decide) (hts _ w_428) (fun _ h9 => h9) rfl d_Mo_readAll_308 ?_
        refine pz_v (pz_rV (d := 0) (As := [.int 5, .int g_13.1]) (rest := []) X hN (c_Mo_wrong l D cB cI cS o0 ib pb qb th ck n nm no g_13 5 g_13.1 _) k_Mo_wrong w_490 ⟨by decide, by decide⟩ hK hP hD [0] rfl rfl 0 rfl rfl rfl rfl hl.1 rfl (Nat.le_of_ble_eq_true rfl) d_Mo_readAll_311 ⟨Nat.zero_le _, Nat.zero_le _⟩) hP hD hS hA [0] rfl [o0] rfl rfl (fun H locs hP hD hS => ?_)
        have hP : va_P D cls ([(o0, .inr (5, [.int th, .ref ib, .int (nI n), .ref pb, .int (nI nm), .ref qb, .int (nI no), .int ((ywr g_13 5 g_13.1).2.1), .int ((ywr g_13 5 g_13.1).2.2.1), .int ck, .int ((ywr g_13 5 g_13.1).1), .int ((ywr g_13 5 g_13.1).2.2.2.1), .int ((ywr g_13 5 g_13.1).2.2.2.2)])), (ib, .inl (cB, 8192, .inl f))]) H := hP
        have hD : va_D A ([(o0, .inr (5, [.int th, .ref ib, .int (nI n), .ref pb, .int (nI nm), .ref qb, .int (nI no), .int ((ywr g_13 5 g_13.1).2.1), .int ((ywr g_13 5 g_13.1).2.2.1), .int ck, .int ((ywr g_13 5 g_13.1).1), .int ((ywr g_13 5 g_13.1).2.2.2.1), .int ((ywr g_13 5 g_13.1).2.2.2.2)])), (ib, .inl (cB, 8192, .inl f))]) := hD
        have eQ : yen f n s3 z = (ywr g_13 5 g_13.1) := by simp only [yen, ye6, ye5, ye4, eg_8, eg_9, eg_10, eg_11, eg_12, eg_13, if_pos c_14, if_neg c_15]
        exact j314 (ywr g_13 5 g_13.1) Fz Wn _ _ _ (hW_) (fun h => hF (adv_en (f := f) (n := n) (s := s3) (by rw [eQ]; exact h))) (by rw [he, eQ]) hP hD hS (lv_sub hl [6, 8, 9] rfl)
  have j184 : ∀ (v1 : Int32) (t2 : Int32) (s3 : Int32) (Wn : Nat) (z : S5) (ls : Array Slot) (H : Heap) (locs : List Loc), ok5 n z → Wn ≤ 255 → yal f n q ck = yk2 f z.1.toNatClampNeg Wn 0 (yen f n s3 (ywl f n v1 t2 s3 Wn z), ck) → va_P D cls ([(o0, .inr (5, [.int th, .ref ib, .int (nI n), .ref pb, .int (nI nm), .ref qb, .int (nI no), .int z.2.1, .int z.2.2.1, .int ck, .int z.1, .int z.2.2.2.1, .int z.2.2.2.2])), (ib, .inl (cB, 8192, .inl f))]) H → va_D A ([(o0, .inr (5, [.int th, .ref ib, .int (nI n), .ref pb, .int (nI nm), .ref qb, .int (nI no), .int z.2.1, .int z.2.2.1, .int ck, .int z.1, .int z.2.2.2.1, .int z.2.2.2.2])), (ib, .inl (cB, 8192, .inl f))]) → va_S A s.heap H locs → lv_has ls 14 [(0, .ref o0), (1, .int v1), (2, .int t2), (3, .int s3), (4, .int (nI Wn))] → W p l e (rmd 4) s m ([.ref o0] : List Value).toArray below meth c H locs 0 0 Q (F0 m 184 ls []) := by
    intro v1 t2 s3 Wn z ls H locs hz hW_ he hP hD hS hl
    obtain ⟨Fz, hF0, eF0⟩ := id hz
    refine lv_aload_n hx hb d_Mo_readAll_184 rfl (lv_at hl 0 rfl) ?_
    refine va_get (D := D) (ci := 5) (v := .int z.1) (C := R_Mo) (T := T_Mo) (N := 13) hx hb hts i_Mo hown hK hP 0 rfl rfl 10 (by decide) (hts _ w_428) (fun _ h9 => h9) rfl d_Mo_readAll_185 ?_
    refine lv_istore (lv' := [(5, .int z.1), (0, .ref o0), (1, .int v1), (2, .int t2), (3, .int s3), (4, .int (nI Wn))]) hx hb d_Mo_readAll_188 hl (by decide) rfl (fun ls hl => ?_)
    rw [eF0] at hl
    have hl : lv_has ls 14 [(5, .int (nI Fz)), (0, .ref o0), (1, .int v1), (2, .int t2), (3, .int s3), (4, .int (nI Wn))] := hl
    refine lv_iconst (v := 0) hx hb d_Mo_readAll_190 (by decide) ?_
    refine lv_istore (lv' := [(6, .int 0), (5, .int (nI Fz)), (0, .ref o0), (1, .int v1), (2, .int t2), (3, .int s3), (4, .int (nI Wn))]) hx hb d_Mo_readAll_191 hl (by decide) rfl (fun ls hl => ?_)
    have lp_8 : ∀ (j8 : Nat) (k : Nat) (y : S5) (ls : Array Slot) (H : Heap) (locs : List Loc), j8 + k = Wn → ok5 n y → (y.2.1 = 0 → y.1 = nI (Fz + 14 * k)) → ywl f n v1 t2 s3 Wn z = ywl f n v1 t2 s3 j8 y → va_P D cls ([(o0, .inr (5, [.int th, .ref ib, .int (nI n), .ref pb, .int (nI nm), .ref qb, .int (nI no), .int y.2.1, .int y.2.2.1, .int ck, .int y.1, .int y.2.2.2.1, .int y.2.2.2.2])), (ib, .inl (cB, 8192, .inl f))]) H → va_D A ([(o0, .inr (5, [.int th, .ref ib, .int (nI n), .ref pb, .int (nI nm), .ref qb, .int (nI no), .int y.2.1, .int y.2.2.1, .int ck, .int y.1, .int y.2.2.2.1, .int y.2.2.2.2])), (ib, .inl (cB, 8192, .inl f))]) → va_S A s.heap H locs → lv_has ls 14 [(0, .ref o0), (1, .int v1), (2, .int t2), (3, .int s3), (4, .int (nI Wn)), (5, .int (nI Fz)), (6, .int (nI k))] → W p l e (rmd 4) s m ([.ref o0] : List Value).toArray below meth c H locs 0 0 Q (F0 m 193 ls []) := by
      intro j8
      induction j8 with
      | zero =>
        intro k y ls H locs hi hy hadv he2 hP hD hS hl
        refine lv_iload hx hb d_Mo_readAll_193 (lv_at hl 6 rfl) ?_
        refine lv_iload hx hb d_Mo_readAll_195 (lv_at hl 4 rfl) ?_
        refine lv_icmp_ge (tgt := 220) hx hb d_Mo_readAll_197 (by decide) (fun c_16 => ?_) (fun c_16 => ?_)
        · exact j220 s3 y Fz Wn _ _ _ (hy) (hW_) (fun h => by have h5 := wl_le hn hy (hadv h) (by omega) (by omega); rw [show k = Wn by omega] at h5; exact h5) (by rw [he, he2, eF0, nI_clamp (show Fz < 2 ^ 31 by omega)]; simp only [ywl, if_pos c_16]) hP hD hS (lv_sub hl [0, 3, 4, 5] rfl)
        · exact (c_16 (by rw [nI_leI (by omega) (by omega)]; omega)).elim
      | succ j8 ih8 =>
        intro k y ls H locs hi hy hadv he2 hP hD hS hl
        refine lv_iload hx hb d_Mo_readAll_193 (lv_at hl 6 rfl) ?_
        refine lv_iload hx hb d_Mo_readAll_195 (lv_at hl 4 rfl) ?_
        refine lv_icmp_ge (tgt := 220) hx hb d_Mo_readAll_197 (by decide) (fun c_17 => ?_) (fun c_17 => ?_)
        · exact absurd c_17 (by rw [nI_leI (by omega) (by omega)]; omega)
        · refine lv_aload_n hx hb d_Mo_readAll_200 rfl (lv_at hl 0 rfl) ?_
          refine va_get (D := D) (ci := 5) (v := .int y.2.1) (C := R_Mo) (T := T_Mo) (N := 13) hx hb hts i_Mo hown hK hP 0 rfl rfl 7 (by decide) (hts _ w_425) (fun _ h9 => h9) rfl d_Mo_readAll_201 ?_
          refine lv_if_ne (tgt := 220) hx hb d_Mo_readAll_204 (by decide) (fun c_18 => ?_) (fun c_18 => ?_)
          · exact j220 s3 y Fz Wn _ _ _ (hy) (hW_) (fun h => absurd h c_18) (by rw [he, he2, eF0, nI_clamp (show Fz < 2 ^ 31 by omega)]; simp only [ywl, if_neg c_17, if_neg c_18]) hP hD hS (lv_sub hl [0, 3, 4, 5] rfl)
          · refine lv_aload_n hx hb d_Mo_readAll_207 rfl (lv_at hl 0 rfl) ?_
            refine lv_iload_n hx hb d_Mo_readAll_208 rfl (lv_at hl 1 rfl) ?_
            refine lv_iload_n hx hb d_Mo_readAll_209 rfl (lv_at hl 2 rfl) ?_
            refine lv_iload_n hx hb d_Mo_readAll_210 rfl (lv_at hl 3 rfl) ?_
            refine pz_v (pz_rV (d := 3) (As := [.int v1, .int t2, .int s3]) (rest := []) X hN (c_Mo_readWall l D cB cI cS o0 ib pb qb th ck n nm no y f v1 t2 s3 hn hy _) k_Mo_readWall w_518 ⟨by decide, by decide⟩ hK hP hD [0, 1] rfl rfl 0 rfl rfl rfl rfl hl.1 rfl (Nat.le_of_ble_eq_true rfl) d_Mo_readAll_211 ⟨Nat.zero_le _, Nat.zero_le _⟩) hP hD hS hA [0, 1] rfl [o0, ib] rfl rfl (fun H locs hP hD hS => ?_)
            generalize eg_19 : ywa f n v1 t2 s3 y = g_19 at hP hD ⊢
            have hP : va_P D cls ([(o0, .inr (5, [.int th, .ref ib, .int (nI n), .ref pb, .int (nI nm), .ref qb, .int (nI no), .int g_19.2.1, .int g_19.2.2.1, .int ck, .int g_19.1, .int g_19.2.2.2.1, .int g_19.2.2.2.2])), (ib, .inl (cB, 8192, .inl f))]) H := hP
            have hD : va_D A ([(o0, .inr (5, [.int th, .ref ib, .int (nI n), .ref pb, .int (nI nm), .ref qb, .int (nI no), .int g_19.2.1, .int g_19.2.2.1, .int ck, .int g_19.1, .int g_19.2.2.2.1, .int g_19.2.2.2.2])), (ib, .inl (cB, 8192, .inl f))]) := hD
            have ok_g_19 : ok5 n g_19 := by rw [← eg_19]; exact ok5_wa hy
            refine lv_iinc (v := nI (k + 1)) (lv' := [(6, .int (nI (k + 1))), (0, .ref o0), (1, .int v1), (2, .int t2), (3, .int s3), (4, .int (nI Wn)), (5, .int (nI Fz))]) hx hb d_Mo_readAll_214 hl (k := 6) rfl (nI_1 k) (by decide) rfl (fun ls hl => ?_)
            refine lv_goto (tgt := 193) hx hb d_Mo_readAll_217 (by decide) ?_
            exact ih8 (k + 1) g_19 _ _ _ (by omega) (ok_g_19) (fun h => by rw [← eg_19] at h ⊢; have a1 := adv_wa h; exact (a1.2.trans ((congrArg (· + 14) (hadv a1.1)).trans ((nI_add _ 14).trans (congrArg nI (by omega)))))) (by rw [he2, ywl]; simp only [eg_19, if_neg c_17, if_pos c_18]) hP hD hS (lv_sub hl [1, 2, 3, 4, 5, 6, 0] rfl)
    exact lp_8 Wn 0 z _ _ _ (by omega) (hz) (fun _ => eF0) (rfl) hP hD hS (lv_sub hl [2, 3, 4, 5, 6, 1, 0] rfl)
  have j157 : ∀ (v1 : Int32) (t2 : Int32) (Sx : Nat) (Wn : Nat) (z : S5) (ls : Array Slot) (H : Heap) (locs : List Loc), ok5 n z → Sx ≤ 255 → Wn ≤ 255 → yal f n q ck = yk2 f (yss f n t2 Sx z).1.toNatClampNeg Wn 0 (yen f n (nI Sx) (ywl f n v1 t2 (nI Sx) Wn (yss f n t2 Sx z)), ck) → va_P D cls ([(o0, .inr (5, [.int th, .ref ib, .int (nI n), .ref pb, .int (nI nm), .ref qb, .int (nI no), .int z.2.1, .int z.2.2.1, .int ck, .int z.1, .int z.2.2.2.1, .int z.2.2.2.2])), (ib, .inl (cB, 8192, .inl f))]) H → va_D A ([(o0, .inr (5, [.int th, .ref ib, .int (nI n), .ref pb, .int (nI nm), .ref qb, .int (nI no), .int z.2.1, .int z.2.2.1, .int ck, .int z.1, .int z.2.2.2.1, .int z.2.2.2.2])), (ib, .inl (cB, 8192, .inl f))]) → va_S A s.heap H locs → lv_has ls 14 [(0, .ref o0), (1, .int v1), (2, .int t2), (3, .int (nI Sx)), (4, .int (nI Wn))] → W p l e (rmd 4) s m ([.ref o0] : List Value).toArray below meth c H locs 0 0 Q (F0 m 157 ls []) := by
    intro v1 t2 Sx Wn z ls H locs hz hS_ hW_ he hP hD hS hl
    refine lv_iconst (v := 0) hx hb d_Mo_readAll_157 (by decide) ?_
    refine lv_istore (lv' := [(5, .int 0), (0, .ref o0), (1, .int v1), (2, .int t2), (3, .int (nI Sx)), (4, .int (nI Wn))]) hx hb d_Mo_readAll_158 hl (by decide) rfl (fun ls hl => ?_)
    have lp_9 : ∀ (j9 : Nat) (k : Nat) (y : S5) (ls : Array Slot) (H : Heap) (locs : List Loc), j9 + k = Sx → ok5 n y → yss f n t2 Sx z = yss f n t2 j9 y → va_P D cls ([(o0, .inr (5, [.int th, .ref ib, .int (nI n), .ref pb, .int (nI nm), .ref qb, .int (nI no), .int y.2.1, .int y.2.2.1, .int ck, .int y.1, .int y.2.2.2.1, .int y.2.2.2.2])), (ib, .inl (cB, 8192, .inl f))]) H → va_D A ([(o0, .inr (5, [.int th, .ref ib, .int (nI n), .ref pb, .int (nI nm), .ref qb, .int (nI no), .int y.2.1, .int y.2.2.1, .int ck, .int y.1, .int y.2.2.2.1, .int y.2.2.2.2])), (ib, .inl (cB, 8192, .inl f))]) → va_S A s.heap H locs → lv_has ls 14 [(0, .ref o0), (1, .int v1), (2, .int t2), (3, .int (nI Sx)), (4, .int (nI Wn)), (5, .int (nI k))] → W p l e (rmd 4) s m ([.ref o0] : List Value).toArray below meth c H locs 0 0 Q (F0 m 160 ls []) := by
      intro j9
      induction j9 with
      | zero =>
        intro k y ls H locs hi hy he2 hP hD hS hl
        refine lv_iload hx hb d_Mo_readAll_160 (lv_at hl 5 rfl) ?_
        refine lv_iload_n hx hb d_Mo_readAll_162 rfl (lv_at hl 3 rfl) ?_
        refine lv_icmp_ge (tgt := 184) hx hb d_Mo_readAll_163 (by decide) (fun c_20 => ?_) (fun c_20 => ?_)
        · exact j184 v1 t2 (nI Sx) Wn y _ _ _ (hy) (hW_) (by rw [he, he2]; simp only [yss, if_pos c_20]) hP hD hS (lv_sub hl [0, 1, 2, 3, 4] rfl)
        · exact (c_20 (by rw [nI_leI (by omega) (by omega)]; omega)).elim
      | succ j9 ih9 =>
        intro k y ls H locs hi hy he2 hP hD hS hl
        refine lv_iload hx hb d_Mo_readAll_160 (lv_at hl 5 rfl) ?_
        refine lv_iload_n hx hb d_Mo_readAll_162 rfl (lv_at hl 3 rfl) ?_
        refine lv_icmp_ge (tgt := 184) hx hb d_Mo_readAll_163 (by decide) (fun c_21 => ?_) (fun c_21 => ?_)
        · exact absurd c_21 (by rw [nI_leI (by omega) (by omega)]; omega)
        · refine lv_aload_n hx hb d_Mo_readAll_166 rfl (lv_at hl 0 rfl) ?_
          refine va_get (D := D) (ci := 5) (v := .int y.2.1) (C := R_Mo) (T := T_Mo) (N := 13) hx hb hts i_Mo hown hK hP 0 rfl rfl 7 (by decide) (hts _ w_425) (fun _ h9 => h9) rfl d_Mo_readAll_167 ?_
          refine lv_if_ne (tgt := 184) hx hb d_Mo_readAll_170 (by decide) (fun c_22 => ?_) (fun c_22 => ?_)
          · exact j184 v1 t2 (nI Sx) Wn y _ _ _ (hy) (hW_) (by rw [he, he2]; simp only [yss, if_neg c_21, if_neg c_22]) hP hD hS (lv_sub hl [0, 1, 2, 3, 4] rfl)
          · refine lv_aload_n hx hb d_Mo_readAll_173 rfl (lv_at hl 0 rfl) ?_
            refine lv_iload_n hx hb d_Mo_readAll_174 rfl (lv_at hl 2 rfl) ?_
            refine pz_v (pz_rV (d := 3) (As := [.int t2]) (rest := []) X hN (c_Mo_readSector l D cB cI cS o0 ib pb qb th ck n nm no y f t2 hn hy _) k_Mo_readSector w_510 ⟨by decide, by decide⟩ hK hP hD [0, 1] rfl rfl 0 rfl rfl rfl rfl hl.1 rfl (Nat.le_of_ble_eq_true rfl) d_Mo_readAll_175 ⟨Nat.zero_le _, Nat.zero_le _⟩) hP hD hS hA [0, 1] rfl [o0, ib] rfl rfl (fun H locs hP hD hS => ?_)
            generalize eg_23 : ysc f n t2 y = g_23 at hP hD ⊢
            have hP : va_P D cls ([(o0, .inr (5, [.int th, .ref ib, .int (nI n), .ref pb, .int (nI nm), .ref qb, .int (nI no), .int g_23.2.1, .int g_23.2.2.1, .int ck, .int g_23.1, .int g_23.2.2.2.1, .int g_23.2.2.2.2])), (ib, .inl (cB, 8192, .inl f))]) H := hP
            have hD : va_D A ([(o0, .inr (5, [.int th, .ref ib, .int (nI n), .ref pb, .int (nI nm), .ref qb, .int (nI no), .int g_23.2.1, .int g_23.2.2.1, .int ck, .int g_23.1, .int g_23.2.2.2.1, .int g_23.2.2.2.2])), (ib, .inl (cB, 8192, .inl f))]) := hD
            have ok_g_23 : ok5 n g_23 := by rw [← eg_23]; exact ok5_sc hy
            refine lv_iinc (v := nI (k + 1)) (lv' := [(5, .int (nI (k + 1))), (0, .ref o0), (1, .int v1), (2, .int t2), (3, .int (nI Sx)), (4, .int (nI Wn))]) hx hb d_Mo_readAll_178 hl (k := 5) rfl (nI_1 k) (by decide) rfl (fun ls hl => ?_)
            refine lv_goto (tgt := 160) hx hb d_Mo_readAll_181 (by decide) ?_
            exact ih9 (k + 1) g_23 _ _ _ (by omega) (ok_g_23) (by rw [he2, yss]; simp only [eg_23, if_neg c_21, if_pos c_22]) hP hD hS (lv_sub hl [1, 2, 3, 4, 5, 0] rfl)
    exact lp_9 Sx 0 z _ _ _ (by omega) (hz) (rfl) hP hD hS (lv_sub hl [1, 2, 3, 4, 5, 0] rfl)
  have j131 : ∀ (v1 : Int32) (T : Nat) (Sx : Nat) (Wn : Nat) (z : S5) (ls : Array Slot) (H : Heap) (locs : List Loc), ok5 n z → T ≤ 255 → Sx ≤ 255 → Wn ≤ 255 → yal f n q ck = yk2 f (yss f n (nI T) Sx (yts f n T z)).1.toNatClampNeg Wn 0 (yen f n (nI Sx) (ywl f n v1 (nI T) (nI Sx) Wn (yss f n (nI T) Sx (yts f n T z))), ck) → va_P D cls ([(o0, .inr (5, [.int th, .ref ib, .int (nI n), .ref pb, .int (nI nm), .ref qb, .int (nI no), .int z.2.1, .int z.2.2.1, .int ck, .int z.1, .int z.2.2.2.1, .int z.2.2.2.2])), (ib, .inl (cB, 8192, .inl f))]) H → va_D A ([(o0, .inr (5, [.int th, .ref ib, .int (nI n), .ref pb, .int (nI nm), .ref qb, .int (nI no), .int z.2.1, .int z.2.2.1, .int ck, .int z.1, .int z.2.2.2.1, .int z.2.2.2.2])), (ib, .inl (cB, 8192, .inl f))]) → va_S A s.heap H locs → lv_has ls 14 [(0, .ref o0), (1, .int v1), (2, .int (nI T)), (3, .int (nI Sx)), (4, .int (nI Wn))] → W p l e (rmd 4) s m ([.ref o0] : List Value).toArray below meth c H locs 0 0 Q (F0 m 131 ls []) := by
    intro v1 T Sx Wn z ls H locs hz hT_ hS_ hW_ he hP hD hS hl
    refine lv_iconst (v := 0) hx hb d_Mo_readAll_131 (by decide) ?_
    refine lv_istore (lv' := [(5, .int 0), (0, .ref o0), (1, .int v1), (2, .int (nI T)), (3, .int (nI Sx)), (4, .int (nI Wn))]) hx hb d_Mo_readAll_132 hl (by decide) rfl (fun ls hl => ?_)
    have lp_10 : ∀ (j10 : Nat) (k : Nat) (y : S5) (ls : Array Slot) (H : Heap) (locs : List Loc), j10 + k = T → ok5 n y → yts f n T z = yts f n j10 y → va_P D cls ([(o0, .inr (5, [.int th, .ref ib, .int (nI n), .ref pb, .int (nI nm), .ref qb, .int (nI no), .int y.2.1, .int y.2.2.1, .int ck, .int y.1, .int y.2.2.2.1, .int y.2.2.2.2])), (ib, .inl (cB, 8192, .inl f))]) H → va_D A ([(o0, .inr (5, [.int th, .ref ib, .int (nI n), .ref pb, .int (nI nm), .ref qb, .int (nI no), .int y.2.1, .int y.2.2.1, .int ck, .int y.1, .int y.2.2.2.1, .int y.2.2.2.2])), (ib, .inl (cB, 8192, .inl f))]) → va_S A s.heap H locs → lv_has ls 14 [(0, .ref o0), (1, .int v1), (2, .int (nI T)), (3, .int (nI Sx)), (4, .int (nI Wn)), (5, .int (nI k))] → W p l e (rmd 4) s m ([.ref o0] : List Value).toArray below meth c H locs 0 0 Q (F0 m 134 ls []) := by
      intro j10
      induction j10 with
      | zero =>
        intro k y ls H locs hi hy he2 hP hD hS hl
        refine lv_iload hx hb d_Mo_readAll_134 (lv_at hl 5 rfl) ?_
        refine lv_iload_n hx hb d_Mo_readAll_136 rfl (lv_at hl 2 rfl) ?_
        refine lv_icmp_ge (tgt := 157) hx hb d_Mo_readAll_137 (by decide) (fun c_24 => ?_) (fun c_24 => ?_)
        · exact j157 v1 (nI T) Sx Wn y _ _ _ (hy) (hS_) (hW_) (by rw [he, he2]; simp only [yts, if_pos c_24]) hP hD hS (lv_sub hl [0, 1, 2, 3, 4] rfl)
        · exact (c_24 (by rw [nI_leI (by omega) (by omega)]; omega)).elim
      | succ j10 ih10 =>
        intro k y ls H locs hi hy he2 hP hD hS hl
        refine lv_iload hx hb d_Mo_readAll_134 (lv_at hl 5 rfl) ?_
        refine lv_iload_n hx hb d_Mo_readAll_136 rfl (lv_at hl 2 rfl) ?_
        refine lv_icmp_ge (tgt := 157) hx hb d_Mo_readAll_137 (by decide) (fun c_25 => ?_) (fun c_25 => ?_)
        · exact absurd c_25 (by rw [nI_leI (by omega) (by omega)]; omega)
        · refine lv_aload_n hx hb d_Mo_readAll_140 rfl (lv_at hl 0 rfl) ?_
          refine va_get (D := D) (ci := 5) (v := .int y.2.1) (C := R_Mo) (T := T_Mo) (N := 13) hx hb hts i_Mo hown hK hP 0 rfl rfl 7 (by decide) (hts _ w_425) (fun _ h9 => h9) rfl d_Mo_readAll_141 ?_
          refine lv_if_ne (tgt := 157) hx hb d_Mo_readAll_144 (by decide) (fun c_26 => ?_) (fun c_26 => ?_)
          · exact j157 v1 (nI T) Sx Wn y _ _ _ (hy) (hS_) (hW_) (by rw [he, he2]; simp only [yts, if_neg c_25, if_neg c_26]) hP hD hS (lv_sub hl [0, 1, 2, 3, 4] rfl)
          · refine lv_aload_n hx hb d_Mo_readAll_147 rfl (lv_at hl 0 rfl) ?_
            refine pz_v (pz_rV (d := 2) (As := []) (rest := []) X hN (c_Mo_readTexture l D cB cI cS o0 ib pb qb th ck n nm no y f  hn hy _) k_Mo_readTexture w_506 ⟨by decide, by decide⟩ hK hP hD [0, 1] rfl rfl 0 rfl rfl rfl rfl hl.1 rfl (Nat.le_of_ble_eq_true rfl) d_Mo_readAll_148 ⟨Nat.zero_le _, Nat.zero_le _⟩) hP hD hS hA [0, 1] rfl [o0, ib] rfl rfl (fun H locs hP hD hS => ?_)
            generalize eg_27 : yxt f n y = g_27 at hP hD ⊢
            have hP : va_P D cls ([(o0, .inr (5, [.int th, .ref ib, .int (nI n), .ref pb, .int (nI nm), .ref qb, .int (nI no), .int g_27.2.1, .int g_27.2.2.1, .int ck, .int g_27.1, .int g_27.2.2.2.1, .int g_27.2.2.2.2])), (ib, .inl (cB, 8192, .inl f))]) H := hP
            have hD : va_D A ([(o0, .inr (5, [.int th, .ref ib, .int (nI n), .ref pb, .int (nI nm), .ref qb, .int (nI no), .int g_27.2.1, .int g_27.2.2.1, .int ck, .int g_27.1, .int g_27.2.2.2.1, .int g_27.2.2.2.2])), (ib, .inl (cB, 8192, .inl f))]) := hD
            have ok_g_27 : ok5 n g_27 := by rw [← eg_27]; exact ok5_xt hy
            refine lv_iinc (v := nI (k + 1)) (lv' := [(5, .int (nI (k + 1))), (0, .ref o0), (1, .int v1), (2, .int (nI T)), (3, .int (nI Sx)), (4, .int (nI Wn))]) hx hb d_Mo_readAll_151 hl (k := 5) rfl (nI_1 k) (by decide) rfl (fun ls hl => ?_)
            refine lv_goto (tgt := 134) hx hb d_Mo_readAll_154 (by decide) ?_
            exact ih10 (k + 1) g_27 _ _ _ (by omega) (ok_g_27) (by rw [he2, yts]; simp only [eg_27, if_neg c_25, if_pos c_26]) hP hD hS (lv_sub hl [1, 2, 3, 4, 5, 0] rfl)
    exact lp_10 T 0 z _ _ _ (by omega) (hz) (rfl) hP hD hS (lv_sub hl [1, 2, 3, 4, 5, 0] rfl)
  have j103 : ∀ (V : Nat) (T : Nat) (Sx : Nat) (Wn : Nat) (z : S5) (ls : Array Slot) (H : Heap) (locs : List Loc), ok5 n z → V ≤ 255 → T ≤ 255 → Sx ≤ 255 → Wn ≤ 255 → yal f n q ck = yk2 f (yss f n (nI T) Sx (yts f n T (yvs f n V 0 z))).1.toNatClampNeg Wn 0 (yen f n (nI Sx) (ywl f n (nI V) (nI T) (nI Sx) Wn (yss f n (nI T) Sx (yts f n T (yvs f n V 0 z)))), ck) → va_P D cls ([(o0, .inr (5, [.int th, .ref ib, .int (nI n), .ref pb, .int (nI nm), .ref qb, .int (nI no), .int z.2.1, .int z.2.2.1, .int ck, .int z.1, .int z.2.2.2.1, .int z.2.2.2.2])), (ib, .inl (cB, 8192, .inl f))]) H → va_D A ([(o0, .inr (5, [.int th, .ref ib, .int (nI n), .ref pb, .int (nI nm), .ref qb, .int (nI no), .int z.2.1, .int z.2.2.1, .int ck, .int z.1, .int z.2.2.2.1, .int z.2.2.2.2])), (ib, .inl (cB, 8192, .inl f))]) → va_S A s.heap H locs → lv_has ls 14 [(0, .ref o0), (1, .int (nI V)), (2, .int (nI T)), (3, .int (nI Sx)), (4, .int (nI Wn))] → W p l e (rmd 4) s m ([.ref o0] : List Value).toArray below meth c H locs 0 0 Q (F0 m 103 ls []) := by
    intro V T Sx Wn z ls H locs hz hV_ hT_ hS_ hW_ he hP hD hS hl
    refine lv_iconst (v := 0) hx hb d_Mo_readAll_103 (by decide) ?_
    refine lv_istore (lv' := [(5, .int 0), (0, .ref o0), (1, .int (nI V)), (2, .int (nI T)), (3, .int (nI Sx)), (4, .int (nI Wn))]) hx hb d_Mo_readAll_104 hl (by decide) rfl (fun ls hl => ?_)
    have lp_11 : ∀ (j11 : Nat) (k : Nat) (y : S5) (ls : Array Slot) (H : Heap) (locs : List Loc), j11 + k = V → ok5 n y → yvs f n V 0 z = yvs f n j11 k y → va_P D cls ([(o0, .inr (5, [.int th, .ref ib, .int (nI n), .ref pb, .int (nI nm), .ref qb, .int (nI no), .int y.2.1, .int y.2.2.1, .int ck, .int y.1, .int y.2.2.2.1, .int y.2.2.2.2])), (ib, .inl (cB, 8192, .inl f))]) H → va_D A ([(o0, .inr (5, [.int th, .ref ib, .int (nI n), .ref pb, .int (nI nm), .ref qb, .int (nI no), .int y.2.1, .int y.2.2.1, .int ck, .int y.1, .int y.2.2.2.1, .int y.2.2.2.2])), (ib, .inl (cB, 8192, .inl f))]) → va_S A s.heap H locs → lv_has ls 14 [(0, .ref o0), (1, .int (nI V)), (2, .int (nI T)), (3, .int (nI Sx)), (4, .int (nI Wn)), (5, .int (nI k))] → W p l e (rmd 4) s m ([.ref o0] : List Value).toArray below meth c H locs 0 0 Q (F0 m 106 ls []) := by
      intro j11
      induction j11 with
      | zero =>
        intro k y ls H locs hi hy he2 hP hD hS hl
        refine lv_iload hx hb d_Mo_readAll_106 (lv_at hl 5 rfl) ?_
        refine lv_iload_n hx hb d_Mo_readAll_108 rfl (lv_at hl 1 rfl) ?_
        refine lv_icmp_ge (tgt := 131) hx hb d_Mo_readAll_109 (by decide) (fun c_28 => ?_) (fun c_28 => ?_)
        · exact j131 (nI V) T Sx Wn y _ _ _ (hy) (hT_) (hS_) (hW_) (by rw [he, he2]; simp only [yvs, if_pos c_28]) hP hD hS (lv_sub hl [0, 1, 2, 3, 4] rfl)
        · exact (c_28 (by rw [nI_leI (by omega) (by omega)]; omega)).elim
      | succ j11 ih11 =>
        intro k y ls H locs hi hy he2 hP hD hS hl
        refine lv_iload hx hb d_Mo_readAll_106 (lv_at hl 5 rfl) ?_
        refine lv_iload_n hx hb d_Mo_readAll_108 rfl (lv_at hl 1 rfl) ?_
        refine lv_icmp_ge (tgt := 131) hx hb d_Mo_readAll_109 (by decide) (fun c_29 => ?_) (fun c_29 => ?_)
        · exact absurd c_29 (by rw [nI_leI (by omega) (by omega)]; omega)
        · refine lv_aload_n hx hb d_Mo_readAll_112 rfl (lv_at hl 0 rfl) ?_
          refine va_get (D := D) (ci := 5) (v := .int y.2.1) (C := R_Mo) (T := T_Mo) (N := 13) hx hb hts i_Mo hown hK hP 0 rfl rfl 7 (by decide) (hts _ w_425) (fun _ h9 => h9) rfl d_Mo_readAll_113 ?_
          refine lv_if_ne (tgt := 131) hx hb d_Mo_readAll_116 (by decide) (fun c_30 => ?_) (fun c_30 => ?_)
          · exact j131 (nI V) T Sx Wn y _ _ _ (hy) (hT_) (hS_) (hW_) (by rw [he, he2]; simp only [yvs, if_neg c_29, if_neg c_30]) hP hD hS (lv_sub hl [0, 1, 2, 3, 4] rfl)
          · refine lv_aload_n hx hb d_Mo_readAll_119 rfl (lv_at hl 0 rfl) ?_
            refine lv_iload hx hb d_Mo_readAll_120 (lv_at hl 5 rfl) ?_
            refine pz_v (pz_rV (d := 3) (As := [.int (nI k)]) (rest := []) X hN (c_Mo_readVertex l D cB cI cS o0 ib pb qb th ck n nm no y f k hn hy (by omega) _) k_Mo_readVertex w_494 ⟨by decide, by decide⟩ hK hP hD [0, 1] rfl rfl 0 rfl rfl rfl rfl hl.1 rfl (Nat.le_of_ble_eq_true rfl) d_Mo_readAll_122 ⟨Nat.zero_le _, Nat.zero_le _⟩) hP hD hS hA [0, 1] rfl [o0, ib] rfl rfl (fun H locs hP hD hS => ?_)
            generalize eg_31 : yvx f n k y = g_31 at hP hD ⊢
            have hP : va_P D cls ([(o0, .inr (5, [.int th, .ref ib, .int (nI n), .ref pb, .int (nI nm), .ref qb, .int (nI no), .int g_31.2.1, .int g_31.2.2.1, .int ck, .int g_31.1, .int g_31.2.2.2.1, .int g_31.2.2.2.2])), (ib, .inl (cB, 8192, .inl f))]) H := hP
            have hD : va_D A ([(o0, .inr (5, [.int th, .ref ib, .int (nI n), .ref pb, .int (nI nm), .ref qb, .int (nI no), .int g_31.2.1, .int g_31.2.2.1, .int ck, .int g_31.1, .int g_31.2.2.2.1, .int g_31.2.2.2.2])), (ib, .inl (cB, 8192, .inl f))]) := hD
            have ok_g_31 : ok5 n g_31 := by rw [← eg_31]; exact ok5_vx hy
            refine lv_iinc (v := nI (k + 1)) (lv' := [(5, .int (nI (k + 1))), (0, .ref o0), (1, .int (nI V)), (2, .int (nI T)), (3, .int (nI Sx)), (4, .int (nI Wn))]) hx hb d_Mo_readAll_125 hl (k := 5) rfl (nI_1 k) (by decide) rfl (fun ls hl => ?_)
            refine lv_goto (tgt := 106) hx hb d_Mo_readAll_128 (by decide) ?_
            exact ih11 (k + 1) g_31 _ _ _ (by omega) (ok_g_31) (by rw [he2, yvs]; simp only [eg_31, if_neg c_29, if_pos c_30]) hP hD hS (lv_sub hl [1, 2, 3, 4, 5, 0] rfl)
    exact lp_11 V 0 z _ _ _ (by omega) (hz) (rfl) hP hD hS (lv_sub hl [1, 2, 3, 4, 5, 0] rfl)
  have j68 : ∀ (z : S5) (ls : Array Slot) (H : Heap) (locs : List Loc), ok5 n z → yal f n q ck = yrs f n z ck → va_P D cls ([(o0, .inr (5, [.int th, .ref ib, .int (nI n), .ref pb, .int (nI nm), .ref qb, .int (nI no), .int z.2.1, .int z.2.2.1, .int ck, .int z.1, .int z.2.2.2.1, .int z.2.2.2.2])), (ib, .inl (cB, 8192, .inl f))]) H → va_D A ([(o0, .inr (5, [.int th, .ref ib, .int (nI n), .ref pb, .int (nI nm), .ref qb, .int (nI no), .int z.2.1, .int z.2.2.1, .int ck, .int z.1, .int z.2.2.2.1, .int z.2.2.2.2])), (ib, .inl (cB, 8192, .inl f))]) → va_S A s.heap H locs → lv_has ls 14 [(0, .ref o0)] → W p l e (rmd 4) s m ([.ref o0] : List Value).toArray below meth c H locs 0 0 Q (F0 m 68 ls []) := by
    intro z ls H locs hz he hP hD hS hl
    refine lv_aload_n hx hb d_Mo_readAll_68 rfl (lv_at hl 0 rfl) ?_
    refine lv_iconst (v := 0) hx hb d_Mo_readAll_69 (by decide) ?_
    refine lv_sipush (v := 128) hx hb d_Mo_readAll_70 (by decide) ?_
    refine pz_i (pz_rV (d := 1) (As := [.int 0, .int 128]) (rest := []) X hN (c_Mo_next l D cB cI cS o0 ib pb qb th ck n nm no z f 0 128 hn hz _) k_Mo_next w_486 ⟨by decide, by decide⟩ hK hP hD [0, 1] rfl rfl 0 rfl rfl rfl rfl hl.1 rfl (Nat.le_of_ble_eq_true rfl) d_Mo_readAll_73 ⟨Nat.zero_le _, Nat.zero_le _⟩) hP hD hS hA [0, 1] rfl [o0, ib] rfl rfl (fun H locs hP hD hS => ?_)
    generalize eg_32 : ynx f n z 0 128 = g_32 at hP hD ⊢
    have hP : va_P D cls ([(o0, .inr (5, [.int th, .ref ib, .int (nI n), .ref pb, .int (nI nm), .ref qb, .int (nI no), .int g_32.2.2.1, .int g_32.2.2.2.1, .int ck, .int g_32.2.1, .int g_32.2.2.2.2.1, .int g_32.2.2.2.2.2])), (ib, .inl (cB, 8192, .inl f))]) H := hP
    have hD : va_D A ([(o0, .inr (5, [.int th, .ref ib, .int (nI n), .ref pb, .int (nI nm), .ref qb, .int (nI no), .int g_32.2.2.1, .int g_32.2.2.2.1, .int ck, .int g_32.2.1, .int g_32.2.2.2.2.1, .int g_32.2.2.2.2.2])), (ib, .inl (cB, 8192, .inl f))]) := hD
    have ok_g_32 : ok5 n g_32.2 := by rw [← eg_32]; exact ok5_nx hz _ _
    refine lv_istore_n (lv' := [(1, .int g_32.1), (0, .ref o0)]) hx hb d_Mo_readAll_76 rfl hl (by decide) rfl (fun ls hl => ?_)
    refine lv_aload_n hx hb d_Mo_readAll_77 rfl (lv_at hl 1 rfl) ?_
    refine lv_iconst (v := 0) hx hb d_Mo_readAll_78 (by decide) ?_
    refine lv_bipush (v := 16) hx hb d_Mo_readAll_79 (by decide) ?_
    refine pz_i (pz_rV (d := 1) (As := [.int 0, .int 16]) (rest := []) X hN (c_Mo_next l D cB cI cS o0 ib pb qb th ck n nm no g_32.2 f 0 16 hn ok_g_32 _) k_Mo_next w_486 ⟨by decide, by decide⟩ hK hP hD [0, 1] rfl rfl 0 rfl rfl rfl rfl hl.1 rfl (Nat.le_of_ble_eq_true rfl) d_Mo_readAll_81 ⟨Nat.zero_le _, Nat.zero_le _⟩) hP hD hS hA [0, 1] rfl [o0, ib] rfl rfl (fun H locs hP hD hS => ?_)
    generalize eg_33 : ynx f n g_32.2 0 16 = g_33 at hP hD ⊢
    have hP : va_P D cls ([(o0, .inr (5, [.int th, .ref ib, .int (nI n), .ref pb, .int (nI nm), .ref qb, .int (nI no), .int g_33.2.2.1, .int g_33.2.2.2.1, .int ck, .int g_33.2.1, .int g_33.2.2.2.2.1, .int g_33.2.2.2.2.2])), (ib, .inl (cB, 8192, .inl f))]) H := hP
    have hD : va_D A ([(o0, .inr (5, [.int th, .ref ib, .int (nI n), .ref pb, .int (nI nm), .ref qb, .int (nI no), .int g_33.2.2.1, .int g_33.2.2.2.1, .int ck, .int g_33.2.1, .int g_33.2.2.2.2.1, .int g_33.2.2.2.2.2])), (ib, .inl (cB, 8192, .inl f))]) := hD
    have ok_g_33 : ok5 n g_33.2 := by rw [← eg_33]; exact ok5_nx ok_g_32 _ _
    refine lv_istore_n (lv' := [(2, .int g_33.1), (1, .int g_32.1), (0, .ref o0)]) hx hb d_Mo_readAll_84 rfl hl (by decide) rfl (fun ls hl => ?_)
    refine lv_aload_n hx hb d_Mo_readAll_85 rfl (lv_at hl 2 rfl) ?_
    refine lv_iconst (v := 1) hx hb d_Mo_readAll_86 (by decide) ?_
    refine lv_bipush (v := 32) hx hb d_Mo_readAll_87 (by decide) ?_
    refine pz_i (pz_rV (d := 1) (As := [.int 1, .int 32]) (rest := []) X hN (c_Mo_next l D cB cI cS o0 ib pb qb th ck n nm no g_33.2 f 1 32 hn ok_g_33 _) k_Mo_next w_486 ⟨by decide, by decide⟩ hK hP hD [0, 1] rfl rfl 0 rfl rfl rfl rfl hl.1 rfl (Nat.le_of_ble_eq_true rfl) d_Mo_readAll_89 ⟨Nat.zero_le _, Nat.zero_le _⟩) hP hD hS hA [0, 1] rfl [o0, ib] rfl rfl (fun H locs hP hD hS => ?_)
    generalize eg_34 : ynx f n g_33.2 1 32 = g_34 at hP hD ⊢
    have hP : va_P D cls ([(o0, .inr (5, [.int th, .ref ib, .int (nI n), .ref pb, .int (nI nm), .ref qb, .int (nI no), .int g_34.2.2.1, .int g_34.2.2.2.1, .int ck, .int g_34.2.1, .int g_34.2.2.2.2.1, .int g_34.2.2.2.2.2])), (ib, .inl (cB, 8192, .inl f))]) H := hP
    have hD : va_D A ([(o0, .inr (5, [.int th, .ref ib, .int (nI n), .ref pb, .int (nI nm), .ref qb, .int (nI no), .int g_34.2.2.1, .int g_34.2.2.2.1, .int ck, .int g_34.2.1, .int g_34.2.2.2.2.1, .int g_34.2.2.2.2.2])), (ib, .inl (cB, 8192, .inl f))]) := hD
    have ok_g_34 : ok5 n g_34.2 := by rw [← eg_34]; exact ok5_nx ok_g_33 _ _
    refine lv_istore_n (lv' := [(3, .int g_34.1), (2, .int g_33.1), (1, .int g_32.1), (0, .ref o0)]) hx hb d_Mo_readAll_92 rfl hl (by decide) rfl (fun ls hl => ?_)
    refine lv_aload_n hx hb d_Mo_readAll_93 rfl (lv_at hl 3 rfl) ?_
    refine lv_iconst (v := 0) hx hb d_Mo_readAll_94 (by decide) ?_
    refine lv_sipush (v := 128) hx hb d_Mo_readAll_95 (by decide) ?_
    refine pz_i (pz_rV (d := 1) (As := [.int 0, .int 128]) (rest := []) X hN (c_Mo_next l D cB cI cS o0 ib pb qb th ck n nm no g_34.2 f 0 128 hn ok_g_34 _) k_Mo_next w_486 ⟨by decide, by decide⟩ hK hP hD [0, 1] rfl rfl 0 rfl rfl rfl rfl hl.1 rfl (Nat.le_of_ble_eq_true rfl) d_Mo_readAll_98 ⟨Nat.zero_le _, Nat.zero_le _⟩) hP hD hS hA [0, 1] rfl [o0, ib] rfl rfl (fun H locs hP hD hS => ?_)
    generalize eg_35 : ynx f n g_34.2 0 128 = g_35 at hP hD ⊢
    have hP : va_P D cls ([(o0, .inr (5, [.int th, .ref ib, .int (nI n), .ref pb, .int (nI nm), .ref qb, .int (nI no), .int g_35.2.2.1, .int g_35.2.2.2.1, .int ck, .int g_35.2.1, .int g_35.2.2.2.2.1, .int g_35.2.2.2.2.2])), (ib, .inl (cB, 8192, .inl f))]) H := hP
    have hD : va_D A ([(o0, .inr (5, [.int th, .ref ib, .int (nI n), .ref pb, .int (nI nm), .ref qb, .int (nI no), .int g_35.2.2.1, .int g_35.2.2.2.1, .int ck, .int g_35.2.1, .int g_35.2.2.2.2.1, .int g_35.2.2.2.2.2])), (ib, .inl (cB, 8192, .inl f))]) := hD
    have ok_g_35 : ok5 n g_35.2 := by rw [← eg_35]; exact ok5_nx ok_g_34 _ _
    refine lv_istore (lv' := [(4, .int g_35.1), (3, .int g_34.1), (2, .int g_33.1), (1, .int g_32.1), (0, .ref o0)]) hx hb d_Mo_readAll_101 hl (by decide) rfl (fun ls hl => ?_)
    obtain ⟨V, hV_, eV_⟩ := ynx_b f n z 0 128
    rw [eg_32] at eV_
    rw [eV_] at hl
    obtain ⟨T, hT_, eT_⟩ := ynx_b f n g_32.2 0 16
    rw [eg_33] at eT_
    rw [eT_] at hl
    obtain ⟨Sx, hS_, eS_⟩ := ynx_b f n g_33.2 1 32
    rw [eg_34] at eS_
    rw [eS_] at hl
    obtain ⟨Wn, hW_, eW_⟩ := ynx_b f n g_34.2 0 128
    rw [eg_35] at eW_
    rw [eW_] at hl
    exact j103 V T Sx Wn g_35.2 _ _ _ (ok_g_35) (hV_) (hT_) (hS_) (hW_) (by rw [he]; simp only [yrs, ya9, ya8, ya7, ya6, ya5, ya4, ya3, ya2, ya1, eg_32, eg_33, eg_34, eg_35, eV_, eT_, eS_, eW_, nI_clamp (show V < 2 ^ 31 by omega), nI_clamp (show T < 2 ^ 31 by omega), nI_clamp (show Sx < 2 ^ 31 by omega), nI_clamp (show Wn < 2 ^ 31 by omega)]) hP hD hS (lv_sub hl [4, 3, 2, 1, 0] rfl)
  refine lv_istore_n (lv' := [(1, .int 0), (0, .ref o0)]) hx hb d_Mo_readAll_1 rfl hl (by decide) rfl (fun ls hl => ?_)
  have lp_12 : ∀ (j12 : Nat) (k : Nat) (z : S5) (ls : Array Slot) (H : Heap) (locs : List Loc), j12 + k = 3 → ok5 n z → yml f n 3 0 q = yml f n j12 k z → va_P D cls ([(o0, .inr (5, [.int th, .ref ib, .int (nI n), .ref pb, .int (nI nm), .ref qb, .int (nI no), .int z.2.1, .int z.2.2.1, .int ck, .int z.1, .int z.2.2.2.1, .int z.2.2.2.2])), (ib, .inl (cB, 8192, .inl f))]) H → va_D A ([(o0, .inr (5, [.int th, .ref ib, .int (nI n), .ref pb, .int (nI nm), .ref qb, .int (nI no), .int z.2.1, .int z.2.2.1, .int ck, .int z.1, .int z.2.2.2.1, .int z.2.2.2.2])), (ib, .inl (cB, 8192, .inl f))]) → va_S A s.heap H locs → lv_has ls 14 [(0, .ref o0), (1, .int (nI k))] → W p l e (rmd 4) s m ([.ref o0] : List Value).toArray below meth c H locs 0 0 Q (F0 m 2 ls []) := by
    intro j12
    induction j12 with
    | zero =>
      intro k z ls H locs hi hz he hP hD hS hl
      refine lv_iload_n hx hb d_Mo_readAll_2 rfl (lv_at hl 1 rfl) ?_
      refine lv_iconst (v := 3) hx hb d_Mo_readAll_3 (by decide) ?_
      refine lv_icmp_ge (tgt := 68) hx hb d_Mo_readAll_4 (by decide) (fun c_36 => ?_) (fun c_36 => ?_)
      · exact j68 z _ _ _ (hz) (by rw [yal, he]; simp only [yml, if_pos c_36]) hP hD hS (lv_sub hl [0] rfl)
      · exact (c_36 (show nI 3 ≤ nI k by rw [nI_leI (by omega) (by omega)]; omega)).elim
    | succ j12 ih12 =>
      intro k z ls H locs hi hz he hP hD hS hl
      refine lv_iload_n hx hb d_Mo_readAll_2 rfl (lv_at hl 1 rfl) ?_
      refine lv_iconst (v := 3) hx hb d_Mo_readAll_3 (by decide) ?_
      refine lv_icmp_ge (tgt := 68) hx hb d_Mo_readAll_4 (by decide) (fun c_37 => ?_) (fun c_37 => ?_)
      · exact absurd c_37 (show ¬ nI 3 ≤ nI k by rw [nI_leI (by omega) (by omega)]; omega)
      · refine lv_aload_n hx hb d_Mo_readAll_7 rfl (lv_at hl 0 rfl) ?_
        refine va_get (D := D) (ci := 5) (v := .int z.2.1) (C := R_Mo) (T := T_Mo) (N := 13) hx hb hts i_Mo hown hK hP 0 rfl rfl 7 (by decide) (hts _ w_425) (fun _ h9 => h9) rfl d_Mo_readAll_8 ?_
        refine lv_if_ne (tgt := 68) hx hb d_Mo_readAll_11 (by decide) (fun c_38 => ?_) (fun c_38 => ?_)
        · exact j68 z _ _ _ (hz) (by rw [yal, he]; simp only [yml, if_neg c_37, if_neg c_38]) hP hD hS (lv_sub hl [0] rfl)
        · refine lv_iload_n hx hb d_Mo_readAll_14 rfl (lv_at hl 1 rfl) ?_
          refine lv_if_ne (tgt := 23) hx hb d_Mo_readAll_15 (by decide) (fun c_39 => ?_) (fun c_39 => ?_)
          · refine lv_iload_n hx hb d_Mo_readAll_23 rfl (lv_at hl 1 rfl) ?_
            refine lv_iconst (v := 1) hx hb d_Mo_readAll_24 (by decide) ?_
            refine lv_icmp_ne (tgt := 33) hx hb d_Mo_readAll_25 (by decide) (fun c_40 => ?_) (fun c_40 => ?_)
            · refine lv_iconst (v := 1) hx hb d_Mo_readAll_33 (by decide) ?_
              refine lv_istore_n (lv' := [(2, .int 1), (0, .ref o0), (1, .int (nI k))]) hx hb d_Mo_readAll_34 rfl hl (by decide) rfl (fun ls hl => ?_)
              refine lv_aload_n hx hb d_Mo_readAll_35 rfl (lv_at hl 1 rfl) ?_
              refine lv_iconst (v := 0) hx hb d_Mo_readAll_36 (by decide) ?_
              refine lv_sipush (v := 255) hx hb d_Mo_readAll_37 (by decide) ?_
              refine pz_i (pz_rV (d := 1) (As := [.int 0, .int 255]) (rest := []) X hN (c_Mo_next l D cB cI cS o0 ib pb qb th ck n nm no z f 0 255 hn hz _) k_Mo_next w_486 ⟨by decide, by decide⟩ hK hP hD [0, 1] rfl rfl 0 rfl rfl rfl rfl hl.1 rfl (Nat.le_of_ble_eq_true rfl) d_Mo_readAll_40 ⟨Nat.zero_le _, Nat.zero_le _⟩) hP hD hS hA [0, 1] rfl [o0, ib] rfl rfl (fun H locs hP hD hS => ?_)
              generalize eg_41 : ynx f n z 0 255 = g_41 at hP hD ⊢
              have hP : va_P D cls ([(o0, .inr (5, [.int th, .ref ib, .int (nI n), .ref pb, .int (nI nm), .ref qb, .int (nI no), .int g_41.2.2.1, .int g_41.2.2.2.1, .int ck, .int g_41.2.1, .int g_41.2.2.2.2.1, .int g_41.2.2.2.2.2])), (ib, .inl (cB, 8192, .inl f))]) H := hP
              have hD : va_D A ([(o0, .inr (5, [.int th, .ref ib, .int (nI n), .ref pb, .int (nI nm), .ref qb, .int (nI no), .int g_41.2.2.1, .int g_41.2.2.2.1, .int ck, .int g_41.2.1, .int g_41.2.2.2.2.1, .int g_41.2.2.2.2.2])), (ib, .inl (cB, 8192, .inl f))]) := hD
              have ok_g_41 : ok5 n g_41.2 := by rw [← eg_41]; exact ok5_nx hz _ _
              refine lv_istore_n (lv' := [(3, .int g_41.1), (2, .int 1), (0, .ref o0), (1, .int (nI k))]) hx hb d_Mo_readAll_43 rfl hl (by decide) rfl (fun ls hl => ?_)
              refine lv_aload_n hx hb d_Mo_readAll_44 rfl (lv_at hl 2 rfl) ?_
              refine va_get (D := D) (ci := 5) (v := .int g_41.2.2.1) (C := R_Mo) (T := T_Mo) (N := 13) hx hb hts i_Mo hown hK hP 0 rfl rfl 7 (by decide) (hts _ w_425) (fun _ h9 => h9) rfl d_Mo_readAll_45 ?_
              refine lv_if_ne (tgt := 62) hx hb d_Mo_readAll_48 (by decide) (fun c_42 => ?_) (fun c_42 => ?_)
              · refine lv_iinc (v := nI (k + 1)) (lv' := [(1, .int (nI (k + 1))), (3, .int g_41.1), (2, .int 1), (0, .ref o0)]) hx hb d_Mo_readAll_62 hl (k := 3) rfl (nI_1 k) (by decide) rfl (fun ls hl => ?_)
                refine lv_goto (tgt := 2) hx hb d_Mo_readAll_65 (by decide) ?_
                exact ih12 (k + 1) g_41.2 _ _ _ (by omega) (ok_g_41) (by rw [he, yml]; simp only [yms, ymd, eg_41, if_neg c_37, if_pos c_38, if_neg c_39, if_neg c_40, if_neg c_42]) hP hD hS (lv_sub hl [3, 0] rfl)
              · refine lv_iload_n hx hb d_Mo_readAll_51 rfl (lv_at hl 0 rfl) ?_
                refine lv_iload_n hx hb d_Mo_readAll_52 rfl (lv_at hl 1 rfl) ?_
                refine lv_icmp_eq (tgt := 62) hx hb d_Mo_readAll_53 (by decide) (fun c_43 => ?_) (fun c_43 => ?_)
                · refine lv_iinc (v := nI (k + 1)) (lv' := [(1, .int (nI (k + 1))), (3, .int g_41.1), (2, .int 1), (0, .ref o0)]) hx hb d_Mo_readAll_62 hl (k := 3) rfl (nI_1 k) (by decide) rfl (fun ls hl => ?_)
                  refine lv_goto (tgt := 2) hx hb d_Mo_readAll_65 (by decide) ?_
                  exact ih12 (k + 1) g_41.2 _ _ _ (by omega) (ok_g_41) (by rw [he, yml]; simp only [yms, ymd, eg_41, if_neg c_37, if_pos c_38, if_neg c_39, if_neg c_40, if_pos c_42, if_pos c_43]) hP hD hS (lv_sub hl [3, 0] rfl)
                · refine lv_aload_n hx hb d_Mo_readAll_56 rfl (lv_at hl 2 rfl) ?_
                  refine lv_iconst (v := 2) hx hb d_Mo_readAll_57 (by decide) ?_
                  refine lv_iload_n hx hb d_Mo_readAll_58 rfl (lv_at hl 3 rfl) ?_
                  refine pz_v (pz_rV (d := 0) (As := [.int 2, .int (nI k)]) (rest := []) X hN (c_Mo_wrong l D cB cI cS o0 ib pb qb th ck n nm no g_41.2 2 (nI k) _) k_Mo_wrong w_490 ⟨by decide, by decide⟩ hK hP hD [0] rfl rfl 0 rfl rfl rfl rfl hl.1 rfl (Nat.le_of_ble_eq_true rfl) d_Mo_readAll_59 ⟨Nat.zero_le _, Nat.zero_le _⟩) hP hD hS hA [0] rfl [o0] rfl rfl (fun H locs hP hD hS => ?_)
                  have hP : va_P D cls ([(o0, .inr (5, [.int th, .ref ib, .int (nI n), .ref pb, .int (nI nm), .ref qb, .int (nI no), .int ((ywr g_41.2 2 (nI k)).2.1), .int ((ywr g_41.2 2 (nI k)).2.2.1), .int ck, .int ((ywr g_41.2 2 (nI k)).1), .int ((ywr g_41.2 2 (nI k)).2.2.2.1), .int ((ywr g_41.2 2 (nI k)).2.2.2.2)])), (ib, .inl (cB, 8192, .inl f))]) H := hP
                  have hD : va_D A ([(o0, .inr (5, [.int th, .ref ib, .int (nI n), .ref pb, .int (nI nm), .ref qb, .int (nI no), .int ((ywr g_41.2 2 (nI k)).2.1), .int ((ywr g_41.2 2 (nI k)).2.2.1), .int ck, .int ((ywr g_41.2 2 (nI k)).1), .int ((ywr g_41.2 2 (nI k)).2.2.2.1), .int ((ywr g_41.2 2 (nI k)).2.2.2.2)])), (ib, .inl (cB, 8192, .inl f))]) := hD
                  refine lv_iinc (v := nI (k + 1)) (lv' := [(1, .int (nI (k + 1))), (3, .int g_41.1), (2, .int 1), (0, .ref o0)]) hx hb d_Mo_readAll_62 hl (k := 3) rfl (nI_1 k) (by decide) rfl (fun ls hl => ?_)
                  refine lv_goto (tgt := 2) hx hb d_Mo_readAll_65 (by decide) ?_
                  exact ih12 (k + 1) (ywr g_41.2 2 (nI k)) _ _ _ (by omega) ((ok5_wr ok_g_41 _ _)) (by rw [he, yml]; simp only [yms, ymd, eg_41, if_neg c_37, if_pos c_38, if_neg c_39, if_neg c_40, if_pos c_42, if_neg c_43]) hP hD hS (lv_sub hl [3, 0] rfl)
            · refine lv_bipush (v := 72) hx hb d_Mo_readAll_28 (by decide) ?_
              refine lv_goto (tgt := 34) hx hb d_Mo_readAll_30 (by decide) ?_
              refine lv_istore_n (lv' := [(2, .int 72), (0, .ref o0), (1, .int (nI k))]) hx hb d_Mo_readAll_34 rfl hl (by decide) rfl (fun ls hl => ?_)
              refine lv_aload_n hx hb d_Mo_readAll_35 rfl (lv_at hl 1 rfl) ?_
              refine lv_iconst (v := 0) hx hb d_Mo_readAll_36 (by decide) ?_
              refine lv_sipush (v := 255) hx hb d_Mo_readAll_37 (by decide) ?_
              refine pz_i (pz_rV (d := 1) (As := [.int 0, .int 255]) (rest := []) X hN (c_Mo_next l D cB cI cS o0 ib pb qb th ck n nm no z f 0 255 hn hz _) k_Mo_next w_486 ⟨by decide, by decide⟩ hK hP hD [0, 1] rfl rfl 0 rfl rfl rfl rfl hl.1 rfl (Nat.le_of_ble_eq_true rfl) d_Mo_readAll_40 ⟨Nat.zero_le _, Nat.zero_le _⟩) hP hD hS hA [0, 1] rfl [o0, ib] rfl rfl (fun H locs hP hD hS => ?_)
              generalize eg_44 : ynx f n z 0 255 = g_44 at hP hD ⊢
              have hP : va_P D cls ([(o0, .inr (5, [.int th, .ref ib, .int (nI n), .ref pb, .int (nI nm), .ref qb, .int (nI no), .int g_44.2.2.1, .int g_44.2.2.2.1, .int ck, .int g_44.2.1, .int g_44.2.2.2.2.1, .int g_44.2.2.2.2.2])), (ib, .inl (cB, 8192, .inl f))]) H := hP
              have hD : va_D A ([(o0, .inr (5, [.int th, .ref ib, .int (nI n), .ref pb, .int (nI nm), .ref qb, .int (nI no), .int g_44.2.2.1, .int g_44.2.2.2.1, .int ck, .int g_44.2.1, .int g_44.2.2.2.2.1, .int g_44.2.2.2.2.2])), (ib, .inl (cB, 8192, .inl f))]) := hD
              have ok_g_44 : ok5 n g_44.2 := by rw [← eg_44]; exact ok5_nx hz _ _
              refine lv_istore_n (lv' := [(3, .int g_44.1), (2, .int 72), (0, .ref o0), (1, .int (nI k))]) hx hb d_Mo_readAll_43 rfl hl (by decide) rfl (fun ls hl => ?_)
              refine lv_aload_n hx hb d_Mo_readAll_44 rfl (lv_at hl 2 rfl) ?_
              refine va_get (D := D) (ci := 5) (v := .int g_44.2.2.1) (C := R_Mo) (T := T_Mo) (N := 13) hx hb hts i_Mo hown hK hP 0 rfl rfl 7 (by decide) (hts _ w_425) (fun _ h9 => h9) rfl d_Mo_readAll_45 ?_
              refine lv_if_ne (tgt := 62) hx hb d_Mo_readAll_48 (by decide) (fun c_45 => ?_) (fun c_45 => ?_)
              · refine lv_iinc (v := nI (k + 1)) (lv' := [(1, .int (nI (k + 1))), (3, .int g_44.1), (2, .int 72), (0, .ref o0)]) hx hb d_Mo_readAll_62 hl (k := 3) rfl (nI_1 k) (by decide) rfl (fun ls hl => ?_)
                refine lv_goto (tgt := 2) hx hb d_Mo_readAll_65 (by decide) ?_
                exact ih12 (k + 1) g_44.2 _ _ _ (by omega) (ok_g_44) (by rw [he, yml]; simp only [yms, ymd, eg_44, if_neg c_37, if_pos c_38, if_neg c_39, if_pos c_40, if_neg c_45]) hP hD hS (lv_sub hl [3, 0] rfl)
              · refine lv_iload_n hx hb d_Mo_readAll_51 rfl (lv_at hl 0 rfl) ?_
                refine lv_iload_n hx hb d_Mo_readAll_52 rfl (lv_at hl 1 rfl) ?_
                refine lv_icmp_eq (tgt := 62) hx hb d_Mo_readAll_53 (by decide) (fun c_46 => ?_) (fun c_46 => ?_)
                · refine lv_iinc (v := nI (k + 1)) (lv' := [(1, .int (nI (k + 1))), (3, .int g_44.1), (2, .int 72), (0, .ref o0)]) hx hb d_Mo_readAll_62 hl (k := 3) rfl (nI_1 k) (by decide) rfl (fun ls hl => ?_)
                  refine lv_goto (tgt := 2) hx hb d_Mo_readAll_65 (by decide) ?_
                  exact ih12 (k + 1) g_44.2 _ _ _ (by omega) (ok_g_44) (by rw [he, yml]; simp only [yms, ymd, eg_44, if_neg c_37, if_pos c_38, if_neg c_39, if_pos c_40, if_pos c_45, if_pos c_46]) hP hD hS (lv_sub hl [3, 0] rfl)
                · refine lv_aload_n hx hb d_Mo_readAll_56 rfl (lv_at hl 2 rfl) ?_
                  refine lv_iconst (v := 2) hx hb d_Mo_readAll_57 (by decide) ?_
                  refine lv_iload_n hx hb d_Mo_readAll_58 rfl (lv_at hl 3 rfl) ?_
                  refine pz_v (pz_rV (d := 0) (As := [.int 2, .int (nI k)]) (rest := []) X hN (c_Mo_wrong l D cB cI cS o0 ib pb qb th ck n nm no g_44.2 2 (nI k) _) k_Mo_wrong w_490 ⟨by decide, by decide⟩ hK hP hD [0] rfl rfl 0 rfl rfl rfl rfl hl.1 rfl (Nat.le_of_ble_eq_true rfl) d_Mo_readAll_59 ⟨Nat.zero_le _, Nat.zero_le _⟩) hP hD hS hA [0] rfl [o0] rfl rfl (fun H locs hP hD hS => ?_)
                  have hP : va_P D cls ([(o0, .inr (5, [.int th, .ref ib, .int (nI n), .ref pb, .int (nI nm), .ref qb, .int (nI no), .int ((ywr g_44.2 2 (nI k)).2.1), .int ((ywr g_44.2 2 (nI k)).2.2.1), .int ck, .int ((ywr g_44.2 2 (nI k)).1), .int ((ywr g_44.2 2 (nI k)).2.2.2.1), .int ((ywr g_44.2 2 (nI k)).2.2.2.2)])), (ib, .inl (cB, 8192, .inl f))]) H := hP
                  have hD : va_D A ([(o0, .inr (5, [.int th, .ref ib, .int (nI n), .ref pb, .int (nI nm), .ref qb, .int (nI no), .int ((ywr g_44.2 2 (nI k)).2.1), .int ((ywr g_44.2 2 (nI k)).2.2.1), .int ck, .int ((ywr g_44.2 2 (nI k)).1), .int ((ywr g_44.2 2 (nI k)).2.2.2.1), .int ((ywr g_44.2 2 (nI k)).2.2.2.2)])), (ib, .inl (cB, 8192, .inl f))]) := hD
                  refine lv_iinc (v := nI (k + 1)) (lv' := [(1, .int (nI (k + 1))), (3, .int g_44.1), (2, .int 72), (0, .ref o0)]) hx hb d_Mo_readAll_62 hl (k := 3) rfl (nI_1 k) (by decide) rfl (fun ls hl => ?_)
                  refine lv_goto (tgt := 2) hx hb d_Mo_readAll_65 (by decide) ?_
                  exact ih12 (k + 1) (ywr g_44.2 2 (nI k)) _ _ _ (by omega) ((ok5_wr ok_g_44 _ _)) (by rw [he, yml]; simp only [yms, ymd, eg_44, if_neg c_37, if_pos c_38, if_neg c_39, if_pos c_40, if_pos c_45, if_neg c_46]) hP hD hS (lv_sub hl [3, 0] rfl)
          · refine lv_bipush (v := 77) hx hb d_Mo_readAll_18 (by decide) ?_
            refine lv_goto (tgt := 34) hx hb d_Mo_readAll_20 (by decide) ?_
            refine lv_istore_n (lv' := [(2, .int 77), (0, .ref o0), (1, .int (nI k))]) hx hb d_Mo_readAll_34 rfl hl (by decide) rfl (fun ls hl => ?_)
            refine lv_aload_n hx hb d_Mo_readAll_35 rfl (lv_at hl 1 rfl) ?_
            refine lv_iconst (v := 0) hx hb d_Mo_readAll_36 (by decide) ?_
            refine lv_sipush (v := 255) hx hb d_Mo_readAll_37 (by decide) ?_
            refine pz_i (pz_rV (d := 1) (As := [.int 0, .int 255]) (rest := []) X hN (c_Mo_next l D cB cI cS o0 ib pb qb th ck n nm no z f 0 255 hn hz _) k_Mo_next w_486 ⟨by decide, by decide⟩ hK hP hD [0, 1] rfl rfl 0 rfl rfl rfl rfl hl.1 rfl (Nat.le_of_ble_eq_true rfl) d_Mo_readAll_40 ⟨Nat.zero_le _, Nat.zero_le _⟩) hP hD hS hA [0, 1] rfl [o0, ib] rfl rfl (fun H locs hP hD hS => ?_)
            generalize eg_47 : ynx f n z 0 255 = g_47 at hP hD ⊢
            have hP : va_P D cls ([(o0, .inr (5, [.int th, .ref ib, .int (nI n), .ref pb, .int (nI nm), .ref qb, .int (nI no), .int g_47.2.2.1, .int g_47.2.2.2.1, .int ck, .int g_47.2.1, .int g_47.2.2.2.2.1, .int g_47.2.2.2.2.2])), (ib, .inl (cB, 8192, .inl f))]) H := hP
            have hD : va_D A ([(o0, .inr (5, [.int th, .ref ib, .int (nI n), .ref pb, .int (nI nm), .ref qb, .int (nI no), .int g_47.2.2.1, .int g_47.2.2.2.1, .int ck, .int g_47.2.1, .int g_47.2.2.2.2.1, .int g_47.2.2.2.2.2])), (ib, .inl (cB, 8192, .inl f))]) := hD
            have ok_g_47 : ok5 n g_47.2 := by rw [← eg_47]; exact ok5_nx hz _ _
            refine lv_istore_n (lv' := [(3, .int g_47.1), (2, .int 77), (0, .ref o0), (1, .int (nI k))]) hx hb d_Mo_readAll_43 rfl hl (by decide) rfl (fun ls hl => ?_)
            refine lv_aload_n hx hb d_Mo_readAll_44 rfl (lv_at hl 2 rfl) ?_
            refine va_get (D := D) (ci := 5) (v := .int g_47.2.2.1) (C := R_Mo) (T := T_Mo) (N := 13) hx hb hts i_Mo hown hK hP 0 rfl rfl 7 (by decide) (hts _ w_425) (fun _ h9 => h9) rfl d_Mo_readAll_45 ?_
            refine lv_if_ne (tgt := 62) hx hb d_Mo_readAll_48 (by decide) (fun c_48 => ?_) (fun c_48 => ?_)
            · refine lv_iinc (v := nI (k + 1)) (lv' := [(1, .int (nI (k + 1))), (3, .int g_47.1), (2, .int 77), (0, .ref o0)]) hx hb d_Mo_readAll_62 hl (k := 3) rfl (nI_1 k) (by decide) rfl (fun ls hl => ?_)
              refine lv_goto (tgt := 2) hx hb d_Mo_readAll_65 (by decide) ?_
              exact ih12 (k + 1) g_47.2 _ _ _ (by omega) (ok_g_47) (by rw [he, yml]; simp only [yms, ymd, eg_47, if_neg c_37, if_pos c_38, if_pos c_39, if_neg c_48]) hP hD hS (lv_sub hl [3, 0] rfl)
            · refine lv_iload_n hx hb d_Mo_readAll_51 rfl (lv_at hl 0 rfl) ?_
              refine lv_iload_n hx hb d_Mo_readAll_52 rfl (lv_at hl 1 rfl) ?_
              refine lv_icmp_eq (tgt := 62) hx hb d_Mo_readAll_53 (by decide) (fun c_49 => ?_) (fun c_49 => ?_)
              · refine lv_iinc (v := nI (k + 1)) (lv' := [(1, .int (nI (k + 1))), (3, .int g_47.1), (2, .int 77), (0, .ref o0)]) hx hb d_Mo_readAll_62 hl (k := 3) rfl (nI_1 k) (by decide) rfl (fun ls hl => ?_)
                refine lv_goto (tgt := 2) hx hb d_Mo_readAll_65 (by decide) ?_
                exact ih12 (k + 1) g_47.2 _ _ _ (by omega) (ok_g_47) (by rw [he, yml]; simp only [yms, ymd, eg_47, if_neg c_37, if_pos c_38, if_pos c_39, if_pos c_48, if_pos c_49]) hP hD hS (lv_sub hl [3, 0] rfl)
              · refine lv_aload_n hx hb d_Mo_readAll_56 rfl (lv_at hl 2 rfl) ?_
                refine lv_iconst (v := 2) hx hb d_Mo_readAll_57 (by decide) ?_
                refine lv_iload_n hx hb d_Mo_readAll_58 rfl (lv_at hl 3 rfl) ?_
                refine pz_v (pz_rV (d := 0) (As := [.int 2, .int (nI k)]) (rest := []) X hN (c_Mo_wrong l D cB cI cS o0 ib pb qb th ck n nm no g_47.2 2 (nI k) _) k_Mo_wrong w_490 ⟨by decide, by decide⟩ hK hP hD [0] rfl rfl 0 rfl rfl rfl rfl hl.1 rfl (Nat.le_of_ble_eq_true rfl) d_Mo_readAll_59 ⟨Nat.zero_le _, Nat.zero_le _⟩) hP hD hS hA [0] rfl [o0] rfl rfl (fun H locs hP hD hS => ?_)
                have hP : va_P D cls ([(o0, .inr (5, [.int th, .ref ib, .int (nI n), .ref pb, .int (nI nm), .ref qb, .int (nI no), .int ((ywr g_47.2 2 (nI k)).2.1), .int ((ywr g_47.2 2 (nI k)).2.2.1), .int ck, .int ((ywr g_47.2 2 (nI k)).1), .int ((ywr g_47.2 2 (nI k)).2.2.2.1), .int ((ywr g_47.2 2 (nI k)).2.2.2.2)])), (ib, .inl (cB, 8192, .inl f))]) H := hP
                have hD : va_D A ([(o0, .inr (5, [.int th, .ref ib, .int (nI n), .ref pb, .int (nI nm), .ref qb, .int (nI no), .int ((ywr g_47.2 2 (nI k)).2.1), .int ((ywr g_47.2 2 (nI k)).2.2.1), .int ck, .int ((ywr g_47.2 2 (nI k)).1), .int ((ywr g_47.2 2 (nI k)).2.2.2.1), .int ((ywr g_47.2 2 (nI k)).2.2.2.2)])), (ib, .inl (cB, 8192, .inl f))]) := hD
                refine lv_iinc (v := nI (k + 1)) (lv' := [(1, .int (nI (k + 1))), (3, .int g_47.1), (2, .int 77), (0, .ref o0)]) hx hb d_Mo_readAll_62 hl (k := 3) rfl (nI_1 k) (by decide) rfl (fun ls hl => ?_)
                refine lv_goto (tgt := 2) hx hb d_Mo_readAll_65 (by decide) ?_
                exact ih12 (k + 1) (ywr g_47.2 2 (nI k)) _ _ _ (by omega) ((ok5_wr ok_g_47 _ _)) (by rw [he, yml]; simp only [yms, ymd, eg_47, if_neg c_37, if_pos c_38, if_pos c_39, if_pos c_48, if_neg c_49]) hP hD hS (lv_sub hl [3, 0] rfl)
  exact lp_12 3 0 q _ _ _ (by omega) (hq) (rfl) hP hD hS (lv_sub hl [1, 0] rfl)
