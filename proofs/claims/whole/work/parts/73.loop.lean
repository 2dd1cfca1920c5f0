set_option maxRecDepth 100000 in
set_option maxHeartbeats 4000000 in
/-- THE LAW's LOOP -/
theorem law_loop {p : Program} {e : Env} {s : State} {m : MethodId} {below : List Frame} {meth : Method} {c : Code} (l : Launch) {b L : Nat} {sx : Nat → Int32} (hL : L ≤ 2048) (C0 : lw_At p s m meth c b L sx) (hN : pzN s) (D : va_G) (cB cI cS : ClassId) (u0 r0 rw rb rx ry rs ow ob m0 mr mb mt o0 ib pb qb : Nat) (ad : Nat → Nat) (hK : va_K D cls [(cB, .byte), (cI, .int), (cS, .object "MapLumps$Span")] s) : ∀ (j i : Nat), i ≤ L → L < i + 4 * j → NX p l e s m b below meth c D cB cI cS u0 r0 rw rb rx ry rs ow ob m0 mr mb mt o0 ib pb qb ad i := by
  obtain ⟨hx, hb, hr, hml, hown, hts0, hX, hbl, hlocks, hgv⟩ := id C0
  have hts : ∀ w ∈ gw, w.before #[Value.ref b] s = true := fun w h => hts0 w (gw_tbl h)
  have hown : s.vm.findClass "MapLumpsLaw" = some m.cls := hown
  have X : CallFix p m c code 4 s #[Value.ref b] gw "MapLumpsLaw" := ⟨hx, hb, hml, hown, hts⟩
  have hA : ∀ x : Nat, s.heap.size ≤ x → (fun x : Nat => s.heap.size ≤ x) x := fun _ h => h
  have hbA : ¬ (fun x : Nat => s.heap.size ≤ x) b := Nat.not_le.mpr hbl
  intro j
  induction j with
  | zero =>
    intro i h1 h2
    exact absurd h2 (by omega)
  | succ j ih =>
    intro i h1 h2
    intro f n fo no fm nm nv nt ns nw wa fw q vx vy sp pr mv mx ms mw ma mb_ mc_ g th ck z H locs ls hI hP hD hS hl
    refine lv_iload_n hx hb d_Lw_law_18 rfl (lv_at hl 0 rfl) ?_
    refine lv_aload_n hx hb d_Lw_law_19 rfl (lv_at hl 3 rfl) ?_
    refine va_slen hx hb hX hbl hbA hS d_Lw_law_20 ?_
    refine lv_iconst (v := 4) hx hb d_Lw_law_21 (by decide) ?_
    refine lv_isub hx hb d_Lw_law_22 ?_
    refine lv_icmp_gt (tgt := 507) hx hb d_Lw_law_23 (by decide) (fun c_1 => ?_) (fun c_1 => ?_)
    · refine lv_iconst (v := 1) hx hb d_Lw_law_507 (by decide) ?_
      refine va_forget (fun x hq => hS.2.2 x hq) ?_
      refine W.widen (k := 600000) (n := 7302250) (by omega) (by omega) ?_
      exact lw_ret hx hb hr hlocks d_Lw_law_508
    · have hi : i + 4 ≤ L := by
        rcases Nat.lt_or_ge L (i + 4) with w | w
        · exact absurd ((lw_lt h1 hL).mpr w) c_1
        · exact w
      have next := ih (i + 4) (by omega) (by omega)
      refine lv_aload_n hx hb d_Lw_law_26 rfl (lv_at hl 3 rfl) ?_
      refine lv_iload_n hx hb d_Lw_law_27 rfl (lv_at hl 0 rfl) ?_
      refine va_sld hx hb hX hbl hbA hS (i := nI i) (vp_in_nI (by omega) (by omega)) d_Lw_law_28 ?_
      refine lv_bipush (v := 15) hx hb d_Lw_law_29 (by decide) ?_
      refine lv_iand hx hb d_Lw_law_31 ?_
      refine lv_topi (fun xk exk => ?_)
      by_cases k_0 : xk = 0
      · refine lv_tableIn (x := xk) (off := 68) (tgt := 100) hx hb d_Lw_law_32 (by rw [k_0]; decide) (by rw [k_0]; decide) (by rw [k_0]; rfl) (by decide) ?_
        exact lw_give l hL C0 hN D cB cI cS u0 r0 rw rb rx ry rs ow ob m0 mr mb mt o0 ib pb qb ad hK i hi next f n fo no fm nm nv nt ns nw wa fw q vx vy sp pr mv mx ms mw ma mb_ mc_ g th ck z H locs ls hI hP hD hS hl
      by_cases k_1 : xk = 1
      · refine lv_tableIn (x := xk) (off := 131) (tgt := 163) hx hb d_Lw_law_32 (by rw [k_1]; decide) (by rw [k_1]; decide) (by rw [k_1]; rfl) (by decide) ?_
        exact lw_cut l hL C0 hN D cB cI cS u0 r0 rw rb rx ry rs ow ob m0 mr mb mt o0 ib pb qb ad hK i hi next f n fo no fm nm nv nt ns nw wa fw q vx vy sp pr mv mx ms mw ma mb_ mc_ g th ck z H locs ls hI hP hD hS hl
      by_cases k_2 : xk = 2
      · refine lv_tableIn (x := xk) (off := 154) (tgt := 186) hx hb d_Lw_law_32 (by rw [k_2]; decide) (by rw [k_2]; decide) (by rw [k_2]; rfl) (by decide) ?_
        exact lw_poke l hL C0 hN D cB cI cS u0 r0 rw rb rx ry rs ow ob m0 mr mb mt o0 ib pb qb ad hK i hi next f n fo no fm nm nv nt ns nw wa fw q vx vy sp pr mv mx ms mw ma mb_ mc_ g th ck z H locs ls hI hP hD hS hl
      by_cases k_3 : xk = 3
      · refine lv_tableIn (x := xk) (off := 187) (tgt := 219) hx hb d_Lw_law_32 (by rw [k_3]; decide) (by rw [k_3]; decide) (by rw [k_3]; rfl) (by decide) ?_
        exact lw_read l hL C0 hN D cB cI cS u0 r0 rw rb rx ry rs ow ob m0 mr mb mt o0 ib pb qb ad hK i hi next f n fo no fm nm nv nt ns nw wa fw q vx vy sp pr mv mx ms mw ma mb_ mc_ g th ck z H locs ls hI hP hD hS hl
      by_cases k_4 : xk = 4
      · refine lv_tableIn (x := xk) (off := 200) (tgt := 232) hx hb d_Lw_law_32 (by rw [k_4]; decide) (by rw [k_4]; decide) (by rw [k_4]; rfl) (by decide) ?_
        exact lw_write l hL C0 hN D cB cI cS u0 r0 rw rb rx ry rs ow ob m0 mr mb mt o0 ib pb qb ad hK i hi next f n fo no fm nm nv nt ns nw wa fw q vx vy sp pr mv mx ms mw ma mb_ mc_ g th ck z H locs ls hI hP hD hS hl
      by_cases k_5 : xk = 5
      · refine lv_tableIn (x := xk) (off := 213) (tgt := 245) hx hb d_Lw_law_32 (by rw [k_5]; decide) (by rw [k_5]; decide) (by rw [k_5]; rfl) (by decide) ?_
        exact lw_check l hL C0 hN D cB cI cS u0 r0 rw rb rx ry rs ow ob m0 mr mb mt o0 ib pb qb ad hK i hi next f n fo no fm nm nv nt ns nw wa fw q vx vy sp pr mv mx ms mw ma mb_ mc_ g th ck z H locs ls hI hP hD hS hl
      by_cases k_6 : xk = 6
      · refine lv_tableIn (x := xk) (off := 226) (tgt := 258) hx hb d_Lw_law_32 (by rw [k_6]; decide) (by rw [k_6]; decide) (by rw [k_6]; rfl) (by decide) ?_
        exact lw_byteAt l hL C0 hN D cB cI cS u0 r0 rw rb rx ry rs ow ob m0 mr mb mt o0 ib pb qb ad hK i hi next f n fo no fm nm nv nt ns nw wa fw q vx vy sp pr mv mx ms mw ma mb_ mc_ g th ck z H locs ls hI hP hD hS hl
      by_cases k_7 : xk = 7
      · refine lv_tableIn (x := xk) (off := 275) (tgt := 307) hx hb d_Lw_law_32 (by rw [k_7]; decide) (by rw [k_7]; decide) (by rw [k_7]; rfl) (by decide) ?_
        exact lw_vertex l hL C0 hN D cB cI cS u0 r0 rw rb rx ry rs ow ob m0 mr mb mt o0 ib pb qb ad hK i hi next f n fo no fm nm nv nt ns nw wa fw q vx vy sp pr mv mx ms mw ma mb_ mc_ g th ck z H locs ls hI hP hD hS hl
      by_cases k_8 : xk = 8
      · refine lv_tableIn (x := xk) (off := 324) (tgt := 356) hx hb d_Lw_law_32 (by rw [k_8]; decide) (by rw [k_8]; decide) (by rw [k_8]; rfl) (by decide) ?_
        exact lw_texture l hL C0 hN D cB cI cS u0 r0 rw rb rx ry rs ow ob m0 mr mb mt o0 ib pb qb ad hK i hi next f n fo no fm nm nv nt ns nw wa fw q vx vy sp pr mv mx ms mw ma mb_ mc_ g th ck z H locs ls hI hP hD hS hl
      by_cases k_9 : xk = 9
      · refine lv_tableIn (x := xk) (off := 357) (tgt := 389) hx hb d_Lw_law_32 (by rw [k_9]; decide) (by rw [k_9]; decide) (by rw [k_9]; rfl) (by decide) ?_
        exact lw_sector l hL C0 hN D cB cI cS u0 r0 rw rb rx ry rs ow ob m0 mr mb mt o0 ib pb qb ad hK i hi next f n fo no fm nm nv nt ns nw wa fw q vx vy sp pr mv mx ms mw ma mb_ mc_ g th ck z H locs ls hI hP hD hS hl
      by_cases k_10 : xk = 10
      · refine lv_tableIn (x := xk) (off := 390) (tgt := 422) hx hb d_Lw_law_32 (by rw [k_10]; decide) (by rw [k_10]; decide) (by rw [k_10]; rfl) (by decide) ?_
        exact lw_wall l hL C0 hN D cB cI cS u0 r0 rw rb rx ry rs ow ob m0 mr mb mt o0 ib pb qb ad hK i hi next f n fo no fm nm nv nt ns nw wa fw q vx vy sp pr mv mx ms mw ma mb_ mc_ g th ck z H locs ls hI hP hD hS hl
      by_cases k_11 : xk = 11
      · refine lv_tableIn (x := xk) (off := 423) (tgt := 455) hx hb d_Lw_law_32 (by rw [k_11]; decide) (by rw [k_11]; decide) (by rw [k_11]; rfl) (by decide) ?_
        exact lw_start l hL C0 hN D cB cI cS u0 r0 rw rb rx ry rs ow ob m0 mr mb mt o0 ib pb qb ad hK i hi next f n fo no fm nm nv nt ns nw wa fw q vx vy sp pr mv mx ms mw ma mb_ mc_ g th ck z H locs ls hI hP hD hS hl
      by_cases k_12 : xk = 12
      · refine lv_tableIn (x := xk) (off := 446) (tgt := 478) hx hb d_Lw_law_32 (by rw [k_12]; decide) (by rw [k_12]; decide) (by rw [k_12]; rfl) (by decide) ?_
        exact lw_look l hL C0 hN D cB cI cS u0 r0 rw rb rx ry rs ow ob m0 mr mb mt o0 ib pb qb ad hK i hi next f n fo no fm nm nv nt ns nw wa fw q vx vy sp pr mv mx ms mw ma mb_ mc_ g th ck z H locs ls hI hP hD hS hl
      refine lv_tableOut (x := xk) (tgt := 501) hx hb d_Lw_law_32 (by have h0 := lv_neT k_0 (a := 0) (by decide); have h1 := lv_neT k_1 (a := 1) (by decide); have h2 := lv_neT k_2 (a := 2) (by decide); have h3 := lv_neT k_3 (a := 3) (by decide); have h4 := lv_neT k_4 (a := 4) (by decide); have h5 := lv_neT k_5 (a := 5) (by decide); have h6 := lv_neT k_6 (a := 6) (by decide); have h7 := lv_neT k_7 (a := 7) (by decide); have h8 := lv_neT k_8 (a := 8) (by decide); have h9 := lv_neT k_9 (a := 9) (by decide); have h10 := lv_neT k_10 (a := 10) (by decide); have h11 := lv_neT k_11 (a := 11) (by decide); have h12 := lv_neT k_12 (a := 12) (by decide); omega) (by decide) ?_
      refine lv_iinc (v := nI (i + 4)) (lv' := [(3, .int (nI (i + 4))), (2, .ref o0), (1, .ref u0), (0, .ref b)]) hx hb d_Lw_law_501 hl (k := 0) rfl (nI_add i 4) (by decide) rfl (fun ls hl => ?_)
      refine lv_goto (tgt := 18) hx hb d_Lw_law_504 (by decide) ?_
      exact next f n fo no fm nm nv nt ns nw wa fw q vx vy sp pr mv mx ms mw ma mb_ mc_ g th ck z _ _ _ hI hP hD hS hl
