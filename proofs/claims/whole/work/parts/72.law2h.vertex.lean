set_option maxRecDepth 100000 in
set_option maxHeartbeats 4000000 in
/-- the call vertex -/
theorem lw_vertex {p : Program} {e : Env} {s : State} {m : MethodId} {below : List Frame} {meth : Method} {c : Code} (l : Launch) {b L : Nat} {sx : Nat → Int32} (hL : L ≤ 2048) (C0 : lw_At p s m meth c b L sx) (hN : pzN s) (D : va_G) (cB cI cS : ClassId) (u0 r0 rw rb rx ry rs ow ob m0 mr mb mt o0 ib pb qb : Nat) (ad : Nat → Nat) (hK : va_K D cls [(cB, .byte), (cI, .int), (cS, .object "MapLumps$Span")] s) (i : Nat) (hi : i + 4 ≤ L) (next : NX p l e s m b below meth c D cB cI cS u0 r0 rw rb rx ry rs ow ob m0 mr mb mt o0 ib pb qb ad (i + 4)) (f : Nat → Int32) (n : Nat) (fo : Nat → Int32) (no : Nat) (fm : Nat → Int32) (nm : Nat) (nv nt ns nw wa fw : Int32) (q : S3) (vx vy : Nat → Int32) (sp : Nat → E4) (pr mv mx ms mw ma mb_ mc_ : Int32) (g : Nat → Int32) (th ck : Int32) (z : S5) (H : Heap) (locs : List Loc) (ls : Array Slot) (hI : LI f n no fm nm fw q pr mv mx ms mw ma mb_ mc_ g ck z) (hP : va_P D cls (LWd cB cI cS u0 r0 rw rb rx ry rs ow ob m0 mr mb mt o0 ib pb qb ad f n fo no fm nm nv nt ns nw wa fw q vx vy sp pr mv mx ms mw ma mb_ mc_ g th ck z) H) (hD : va_D (fun x : Nat => s.heap.size ≤ x) (LWd cB cI cS u0 r0 rw rb rx ry rs ow ob m0 mr mb mt o0 ib pb qb ad f n fo no fm nm nv nt ns nw wa fw q vx vy sp pr mv mx ms mw ma mb_ mc_ g th ck z)) (hS : va_S (fun x : Nat => s.heap.size ≤ x) s.heap H locs) (hl : lv_has ls 4 [(3, .int (nI i)), (2, .ref o0), (1, .ref u0), (0, .ref b)]) : W p l e room_1 s m #[Value.ref b] below meth c H locs 145 50622 (lw_Z below #[Value.ref b] s) (F0 m 307 ls []) := by
  obtain ⟨hx, hb, hr, hml, hown, hts0, hX, hbl, hlocks, hgv⟩ := id C0
  have hts : ∀ w ∈ gw, w.before #[Value.ref b] s = true := fun w h => hts0 w (gw_tbl h)
  have hown : s.vm.findClass "MapLumpsLaw" = some m.cls := hown
  have X : CallFix p m c code 4 s #[Value.ref b] gw "MapLumpsLaw" := ⟨hx, hb, hml, hown, hts⟩
  have hA : ∀ x : Nat, s.heap.size ≤ x → (fun x : Nat => s.heap.size ≤ x) x := fun _ h => h
  have hbA : ¬ (fun x : Nat => s.heap.size ≤ x) b := Nat.not_le.mpr hbl
  obtain ⟨hn, hno, hnm, hf, hfm, h21, h22, hfw, hM⟩ := id hI
  have hP : va_P D cls ([(u0, .inr (0, [.ref r0, .ref rw, .ref ow, .ref m0])), (r0, .inr (1, [.ref rw, .ref rx, .ref ry, .ref rs, .int nv, .int nt, .int ns, .int nw, .int wa, .int q.1, .int q.2.1, .int q.2.2, .int fw])), (rw, .inr (3, [.ref rb, .int (nI n)])), (rb, .inl (cB, 8192, .inl f)), (rx, .inl (cI, 128, .inl vx)), (ry, .inl (cI, 128, .inl vy)), (rs, .inl (cS, 128, .inr (.inr (.inr (.inr (fun i => some (ad i))))))), (ow, .inr (3, [.ref ob, .int (nI no)])), (ob, .inl (cB, 8192, .inl fo)), (m0, .inr (2, [.ref mr, .ref mt, .int pr, .int mv, .int mx, .int ms, .int mw, .int ma, .int mb_, .int mc_])), (mr, .inr (3, [.ref mb, .int (nI nm)])), (mb, .inl (cB, 8192, .inl fm)), (mt, .inl (cI, 16, .inl g)), (o0, .inr (5, [.int th, .ref ib, .int (nI n), .ref pb, .int (nI nm), .ref qb, .int (nI no), .int z.2.1, .int z.2.2.1, .int ck, .int z.1, .int z.2.2.2.1, .int z.2.2.2.2])), (ib, .inl (cB, 8192, .inl f)), (pb, .inl (cB, 8192, .inl fm)), (qb, .inl (cB, 8192, .inl fo))] ++ spw ad sp) H := hP
  have hD : va_D (fun x : Nat => s.heap.size ≤ x) ([(u0, .inr (0, [.ref r0, .ref rw, .ref ow, .ref m0])), (r0, .inr (1, [.ref rw, .ref rx, .ref ry, .ref rs, .int nv, .int nt, .int ns, .int nw, .int wa, .int q.1, .int q.2.1, .int q.2.2, .int fw])), (rw, .inr (3, [.ref rb, .int (nI n)])), (rb, .inl (cB, 8192, .inl f)), (rx, .inl (cI, 128, .inl vx)), (ry, .inl (cI, 128, .inl vy)), (rs, .inl (cS, 128, .inr (.inr (.inr (.inr (fun i => some (ad i))))))), (ow, .inr (3, [.ref ob, .int (nI no)])), (ob, .inl (cB, 8192, .inl fo)), (m0, .inr (2, [.ref mr, .ref mt, .int pr, .int mv, .int mx, .int ms, .int mw, .int ma, .int mb_, .int mc_])), (mr, .inr (3, [.ref mb, .int (nI nm)])), (mb, .inl (cB, 8192, .inl fm)), (mt, .inl (cI, 16, .inl g)), (o0, .inr (5, [.int th, .ref ib, .int (nI n), .ref pb, .int (nI nm), .ref qb, .int (nI no), .int z.2.1, .int z.2.2.1, .int ck, .int z.1, .int z.2.2.2.1, .int z.2.2.2.2])), (ib, .inl (cB, 8192, .inl f)), (pb, .inl (cB, 8192, .inl fm)), (qb, .inl (cB, 8192, .inl fo))] ++ spw ad sp) := hD
  refine lv_aload_n hx hb d_Lw_law_307 rfl (lv_at hl 2 rfl) ?_
  refine lv_aload_n hx hb d_Lw_law_308 rfl (lv_at hl 3 rfl) ?_
  refine lv_iload_n hx hb d_Lw_law_309 rfl (lv_at hl 0 rfl) ?_
  refine lv_iconst (v := 1) hx hb d_Lw_law_310 (by decide) ?_
  refine lv_iadd hx hb d_Lw_law_311 ?_
  refine va_sld hx hb hX hbl hbA hS (i := nI i + 1) (lw_in (k := 1) hi hL (by omega)) d_Lw_law_312 ?_
  refine lv_aload_n hx hb d_Lw_law_313 rfl (lv_at hl 3 rfl) ?_
  refine lv_iload_n hx hb d_Lw_law_314 rfl (lv_at hl 0 rfl) ?_
  refine lv_iconst (v := 2) hx hb d_Lw_law_315 (by decide) ?_
  refine lv_iadd hx hb d_Lw_law_316 ?_
  refine va_sld hx hb hX hbl hbA hS (i := nI i + 2) (lw_in (k := 2) hi hL (by omega)) d_Lw_law_317 ?_
  refine lv_if_eq (tgt := 325) hx hb d_Lw_law_318 (by decide) (fun c_1 => ?_) (fun c_1 => ?_)
  · refine lv_iconst (v := 0) hx hb d_Lw_law_325 (by decide) ?_
    refine pz_i0 (pz_rV (d := 2) (As := [.int (sx ((nI i) + 1).toNatClampNeg), .int 0]) (rest := []) X hN (c_Lu_vertex l D cB cI cS u0 r0 rw ow m0 mr mb mt pr mv mx ms mw ma mb_ mc_ fm nm (sx ((nI i) + 1).toNatClampNeg) 0 hnm _) k_Lu_vertex w_371 ⟨by decide, by decide⟩ hK hP hD [0, 9, 10, 11] rfl rfl 0 rfl rfl rfl rfl hl.1 rfl (Nat.le_of_ble_eq_true rfl) d_Lw_law_326 ⟨by decide, by decide⟩) hP hD hS hA [0, 9, 10, 11] rfl (fun H locs hP hS => ?_)
    refine lv_aload_n hx hb d_Lw_law_329 rfl (lv_at hl 1 rfl) ?_
    refine lv_aload_n hx hb d_Lw_law_330 rfl (lv_at hl 3 rfl) ?_
    refine lv_iload_n hx hb d_Lw_law_331 rfl (lv_at hl 0 rfl) ?_
    refine lv_iconst (v := 1) hx hb d_Lw_law_332 (by decide) ?_
    refine lv_iadd hx hb d_Lw_law_333 ?_
    refine va_sld hx hb hX hbl hbA hS (i := nI i + 1) (lw_in (k := 1) hi hL (by omega)) d_Lw_law_334 ?_
    refine lv_aload_n hx hb d_Lw_law_335 rfl (lv_at hl 3 rfl) ?_
    refine lv_iload_n hx hb d_Lw_law_336 rfl (lv_at hl 0 rfl) ?_
    refine lv_iconst (v := 2) hx hb d_Lw_law_337 (by decide) ?_
    refine lv_iadd hx hb d_Lw_law_338 ?_
    refine va_sld hx hb hX hbl hbA hS (i := nI i + 2) (lw_in (k := 2) hi hL (by omega)) d_Lw_law_339 ?_
    refine lv_if_eq (tgt := 347) hx hb d_Lw_law_340 (by decide) (fun c_2 => ?_) (fun c_2 => ?_)
    · refine lv_iconst (v := 0) hx hb d_Lw_law_347 (by decide) ?_
      refine pz_i (pz_rV (d := 2) (As := [.int (sx ((nI i) + 1).toNatClampNeg), .int 0]) (rest := [.int (vxA fm nm mv (sx ((nI i) + 1).toNatClampNeg) 0)]) X hN (c_Mo_vertex l D cB cI cS o0 ib pb qb th ck n nm no z fm (sx ((nI i) + 1).toNatClampNeg) 0 _) k_Mo_vertex w_553 ⟨by decide, by decide⟩ hK hP hD [13, 15] rfl rfl 13 rfl rfl rfl rfl hl.1 rfl (Nat.le_of_ble_eq_true rfl) d_Lw_law_348 ⟨by decide, by decide⟩) hP hD hS hA [13, 15] rfl [o0, pb] rfl rfl (fun H locs hP hD hS => ?_)
      have hP : va_P D cls ([(u0, .inr (0, [.ref r0, .ref rw, .ref ow, .ref m0])), (r0, .inr (1, [.ref rw, .ref rx, .ref ry, .ref rs, .int nv, .int nt, .int ns, .int nw, .int wa, .int q.1, .int q.2.1, .int q.2.2, .int fw])), (rw, .inr (3, [.ref rb, .int (nI n)])), (rb, .inl (cB, 8192, .inl f)), (rx, .inl (cI, 128, .inl vx)), (ry, .inl (cI, 128, .inl vy)), (rs, .inl (cS, 128, .inr (.inr (.inr (.inr (fun i => some (ad i))))))), (ow, .inr (3, [.ref ob, .int (nI no)])), (ob, .inl (cB, 8192, .inl fo)), (m0, .inr (2, [.ref mr, .ref mt, .int pr, .int mv, .int mx, .int ms, .int mw, .int ma, .int mb_, .int mc_])), (mr, .inr (3, [.ref mb, .int (nI nm)])), (mb, .inl (cB, 8192, .inl fm)), (mt, .inl (cI, 16, .inl g)), (o0, .inr (5, [.int 0, .ref ib, .int (nI n), .ref pb, .int (nI nm), .ref qb, .int (nI no), .int z.2.1, .int z.2.2.1, .int ck, .int z.1, .int z.2.2.2.1, .int z.2.2.2.2])), (ib, .inl (cB, 8192, .inl f)), (pb, .inl (cB, 8192, .inl fm)), (qb, .inl (cB, 8192, .inl fo))] ++ spw ad sp) H := hP
      have hD : va_D (fun x : Nat => s.heap.size ≤ x) ([(u0, .inr (0, [.ref r0, .ref rw, .ref ow, .ref m0])), (r0, .inr (1, [.ref rw, .ref rx, .ref ry, .ref rs, .int nv, .int nt, .int ns, .int nw, .int wa, .int q.1, .int q.2.1, .int q.2.2, .int fw])), (rw, .inr (3, [.ref rb, .int (nI n)])), (rb, .inl (cB, 8192, .inl f)), (rx, .inl (cI, 128, .inl vx)), (ry, .inl (cI, 128, .inl vy)), (rs, .inl (cS, 128, .inr (.inr (.inr (.inr (fun i => some (ad i))))))), (ow, .inr (3, [.ref ob, .int (nI no)])), (ob, .inl (cB, 8192, .inl fo)), (m0, .inr (2, [.ref mr, .ref mt, .int pr, .int mv, .int mx, .int ms, .int mw, .int ma, .int mb_, .int mc_])), (mr, .inr (3, [.ref mb, .int (nI nm)])), (mb, .inl (cB, 8192, .inl fm)), (mt, .inl (cI, 16, .inl g)), (o0, .inr (5, [.int 0, .ref ib, .int (nI n), .ref pb, .int (nI nm), .ref qb, .int (nI no), .int z.2.1, .int z.2.2.1, .int ck, .int z.1, .int z.2.2.2.1, .int z.2.2.2.2])), (ib, .inl (cB, 8192, .inl f)), (pb, .inl (cB, 8192, .inl fm)), (qb, .inl (cB, 8192, .inl fo))] ++ spw ad sp) := hD
      refine lv_icmp_eq (tgt := 501) hx hb d_Lw_law_351 (by decide) (fun c_3 => ?_) (fun c_3 => ?_)
      · refine lv_iinc (v := nI (i + 4)) (lv' := [(3, .int (nI (i + 4))), (2, .ref o0), (1, .ref u0), (0, .ref b)]) hx hb d_Lw_law_501 hl (k := 0) rfl (nI_add i 4) (by decide) rfl (fun ls hl => ?_)
        refine lv_goto (tgt := 18) hx hb d_Lw_law_504 (by decide) ?_
        exact next f n fo no fm nm nv nt ns nw wa fw q vx vy sp pr mv mx ms mw ma mb_ mc_ g 0 ck z _ _ _ hI hP hD hS (lv_sub hl [0, 1, 2, 3] rfl)
      · exact (c_3 (eq_vx hM _ _)).elim
    · exact absurd c_1 c_2
  · refine lv_iconst (v := 1) hx hb d_Lw_law_321 (by decide) ?_
    refine lv_goto (tgt := 326) hx hb d_Lw_law_322 (by decide) ?_
    refine pz_i0 (pz_rV (d := 2) (As := [.int (sx ((nI i) + 1).toNatClampNeg), .int 1]) (rest := []) X hN (c_Lu_vertex l D cB cI cS u0 r0 rw ow m0 mr mb mt pr mv mx ms mw ma mb_ mc_ fm nm (sx ((nI i) + 1).toNatClampNeg) 1 hnm _) k_Lu_vertex w_371 ⟨by decide, by decide⟩ hK hP hD [0, 9, 10, 11] rfl rfl 0 rfl rfl rfl rfl hl.1 rfl (Nat.le_of_ble_eq_true rfl) d_Lw_law_326 ⟨by decide, by decide⟩) hP hD hS hA [0, 9, 10, 11] rfl (fun H locs hP hS => ?_)
    refine lv_aload_n hx hb d_Lw_law_329 rfl (lv_at hl 1 rfl) ?_
    refine lv_aload_n hx hb d_Lw_law_330 rfl (lv_at hl 3 rfl) ?_
    refine lv_iload_n hx hb d_Lw_law_331 rfl (lv_at hl 0 rfl) ?_
    refine lv_iconst (v := 1) hx hb d_Lw_law_332 (by decide) ?_
    refine lv_iadd hx hb d_Lw_law_333 ?_
    refine va_sld hx hb hX hbl hbA hS (i := nI i + 1) (lw_in (k := 1) hi hL (by omega)) d_Lw_law_334 ?_
    refine lv_aload_n hx hb d_Lw_law_335 rfl (lv_at hl 3 rfl) ?_
    refine lv_iload_n hx hb d_Lw_law_336 rfl (lv_at hl 0 rfl) ?_
    refine lv_iconst (v := 2) hx hb d_Lw_law_337 (by decide) ?_
    refine lv_iadd hx hb d_Lw_law_338 ?_
    refine va_sld hx hb hX hbl hbA hS (i := nI i + 2) (lw_in (k := 2) hi hL (by omega)) d_Lw_law_339 ?_
    refine lv_if_eq (tgt := 347) hx hb d_Lw_law_340 (by decide) (fun c_4 => ?_) (fun c_4 => ?_)
    · exact absurd c_4 c_1
    · refine lv_iconst (v := 1) hx hb d_Lw_law_343 (by decide) ?_
      refine lv_goto (tgt := 348) hx hb d_Lw_law_344 (by decide) ?_
      refine pz_i (pz_rV (d := 2) (As := [.int (sx ((nI i) + 1).toNatClampNeg), .int 1]) (rest := [.int (vxA fm nm mv (sx ((nI i) + 1).toNatClampNeg) 1)]) X hN (c_Mo_vertex l D cB cI cS o0 ib pb qb th ck n nm no z fm (sx ((nI i) + 1).toNatClampNeg) 1 _) k_Mo_vertex w_553 ⟨by decide, by decide⟩ hK hP hD [13, 15] rfl rfl 13 rfl rfl rfl rfl hl.1 rfl (Nat.le_of_ble_eq_true rfl) d_Lw_law_348 ⟨by decide, by decide⟩) hP hD hS hA [13, 15] rfl [o0, pb] rfl rfl (fun H locs hP hD hS => ?_)
      have hP : va_P D cls ([(u0, .inr (0, [.ref r0, .ref rw, .ref ow, .ref m0])), (r0, .inr (1, [.ref rw, .ref rx, .ref ry, .ref rs, .int nv, .int nt, .int ns, .int nw, .int wa, .int q.1, .int q.2.1, .int q.2.2, .int fw])), (rw, .inr (3, [.ref rb, .int (nI n)])), (rb, .inl (cB, 8192, .inl f)), (rx, .inl (cI, 128, .inl vx)), (ry, .inl (cI, 128, .inl vy)), (rs, .inl (cS, 128, .inr (.inr (.inr (.inr (fun i => some (ad i))))))), (ow, .inr (3, [.ref ob, .int (nI no)])), (ob, .inl (cB, 8192, .inl fo)), (m0, .inr (2, [.ref mr, .ref mt, .int pr, .int mv, .int mx, .int ms, .int mw, .int ma, .int mb_, .int mc_])), (mr, .inr (3, [.ref mb, .int (nI nm)])), (mb, .inl (cB, 8192, .inl fm)), (mt, .inl (cI, 16, .inl g)), (o0, .inr (5, [.int 0, .ref ib, .int (nI n), .ref pb, .int (nI nm), .ref qb, .int (nI no), .int z.2.1, .int z.2.2.1, .int ck, .int z.1, .int z.2.2.2.1, .int z.2.2.2.2])), (ib, .inl (cB, 8192, .inl f)), (pb, .inl (cB, 8192, .inl fm)), (qb, .inl (cB, 8192, .inl fo))] ++ spw ad sp) H := hP
      have hD : va_D (fun x : Nat => s.heap.size ≤ x) ([(u0, .inr (0, [.ref r0, .ref rw, .ref ow, .ref m0])), (r0, .inr (1, [.ref rw, .ref rx, .ref ry, .ref rs, .int nv, .int nt, .int ns, .int nw, .int wa, .int q.1, .int q.2.1, .int q.2.2, .int fw])), (rw, .inr (3, [.ref rb, .int (nI n)])), (rb, .inl (cB, 8192, .inl f)), (rx, .inl (cI, 128, .inl vx)), (ry, .inl (cI, 128, .inl vy)), (rs, .inl (cS, 128, .inr (.inr (.inr (.inr (fun i => some (ad i))))))), (ow, .inr (3, [.ref ob, .int (nI no)])), (ob, .inl (cB, 8192, .inl fo)), (m0, .inr (2, [.ref mr, .ref mt, .int pr, .int mv, .int mx, .int ms, .int mw, .int ma, .int mb_, .int mc_])), (mr, .inr (3, [.ref mb, .int (nI nm)])), (mb, .inl (cB, 8192, .inl fm)), (mt, .inl (cI, 16, .inl g)), (o0, .inr (5, [.int 0, .ref ib, .int (nI n), .ref pb, .int (nI nm), .ref qb, .int (nI no), .int z.2.1, .int z.2.2.1, .int ck, .int z.1, .int z.2.2.2.1, .int z.2.2.2.2])), (ib, .inl (cB, 8192, .inl f)), (pb, .inl (cB, 8192, .inl fm)), (qb, .inl (cB, 8192, .inl fo))] ++ spw ad sp) := hD
      refine lv_icmp_eq (tgt := 501) hx hb d_Lw_law_351 (by decide) (fun c_5 => ?_) (fun c_5 => ?_)
      · refine lv_iinc (v := nI (i + 4)) (lv' := [(3, .int (nI (i + 4))), (2, .ref o0), (1, .ref u0), (0, .ref b)]) hx hb d_Lw_law_501 hl (k := 0) rfl (nI_add i 4) (by decide) rfl (fun ls hl => ?_)
        refine lv_goto (tgt := 18) hx hb d_Lw_law_504 (by decide) ?_
        exact next f n fo no fm nm nv nt ns nw wa fw q vx vy sp pr mv mx ms mw ma mb_ mc_ g 0 ck z _ _ _ hI hP hD hS (lv_sub hl [0, 1, 2, 3] rfl)
      · exact (c_5 (eq_vx hM _ _)).elim
