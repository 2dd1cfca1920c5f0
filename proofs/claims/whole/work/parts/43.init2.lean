set_option maxRecDepth 100000 in
set_option maxHeartbeats 4000000 in
/-- RoomMap() -/
theorem c_Mp_init (l : Launch) (D : va_G) (cB cI cS : ClassId) (m0 : Nat) : mC l y_Mp_init b_Mp_init 1 2 3 8210 D cls [(cB, .byte), (cI, .int), (cS, .object "MapLumps$Span")] [.ref m0] ([(m0, .inr (2, [.null, .null, .int 0, .int 0, .int 0, .int 0, .int 0, .int 0, .int 0, .int 0]))]) (fun (u : Nat × Nat × Nat) => [(m0, .inr (2, [.ref u.1, .ref u.2.2, .int 0, .int 0, .int 0, .int 0, .int 0, .int 0, .int 0, .int 0])), (u.1, .inr (3, [.ref u.2.1, .int 0])), (u.2.1, .inl (cB, 8192, .inl (fun _ => 0))), (u.2.2, .inl (cI, 16, .inl (fun _ => 0)))]) := by
  refine pz_openC (by decide) rfl (Nat.le_of_ble_eq_true rfl) ?_
  intro p e s m below meth c A ls Q X hN hin hK hP hD hS hA hl fin
  obtain ⟨hx, hb, hml, hown, hts⟩ := id X
  have hl : lv_has ls 1 [(0, .ref m0)] := hl
  refine lv_aload_n hx hb d_Mp_init_0 rfl (lv_at hl 0 rfl) ?_
  refine W.objInit hx hb hown (hts _ w_124) (hts _ w_16) (hts _ w_17) rfl (hl.1.trans hml.symm) rfl d_Mp_init_1 (by decide) (Nat.le_of_ble_eq_true rfl) ?_
  refine W.eq (g2 := F0 m 4 ls []) rfl ?_
  refine lv_aload_n hx hb d_Mp_init_4 rfl (lv_at hl 0 rfl) ?_
  refine va_new (ci := 3) (fs := [.null, .int 0]) (C := R_Rw) (T := T_Rw) (N := 2) hx hb hts i_Rw ty_Rw tyok_Rw hown (hts _ w_125) (hts _ w_25) (hts _ w_3) hK hP hD hS hA rfl df_Rw (by decide) (by decide) d_Mp_init_5 (fun mr H hP hD hS => ?_)
  have hP : va_P D cls ([(m0, .inr (2, [.null, .null, .int 0, .int 0, .int 0, .int 0, .int 0, .int 0, .int 0, .int 0])), (mr, .inr (3, [.null, .int 0]))]) H := hP
  have hD : va_D A ([(m0, .inr (2, [.null, .null, .int 0, .int 0, .int 0, .int 0, .int 0, .int 0, .int 0, .int 0])), (mr, .inr (3, [.null, .int 0]))]) := hD
  refine lv_dup hx hb d_Mp_init_8 rfl ?_
  refine pz_c (pz_rIN (d := 1) (rest := [.ref mr, .ref m0]) X hN (c_Rw_init l D cB cI cS mr _) k_Rw_init (nk_126 hN) ⟨by decide, by decide⟩ hK hP hD [1] rfl rfl hl.1 rfl (Nat.le_of_ble_eq_true rfl) d_Mp_init_9 ⟨by decide, by decide⟩) hP hD hS hA [1] [0] rfl (wr := [(m0, .inr (2, [.null, .null, .int 0, .int 0, .int 0, .int 0, .int 0, .int 0, .int 0, .int 0]))]) rfl (by decide) (by decide) (fun mb H locs hP hD hS => ?_)
  have hP : va_P D cls ([(m0, .inr (2, [.null, .null, .int 0, .int 0, .int 0, .int 0, .int 0, .int 0, .int 0, .int 0])), (mr, .inr (3, [.ref mb, .int 0])), (mb, .inl (cB, 8192, .inl (fun _ => 0)))]) H := hP
  have hD : va_D A ([(m0, .inr (2, [.null, .null, .int 0, .int 0, .int 0, .int 0, .int 0, .int 0, .int 0, .int 0])), (mr, .inr (3, [.ref mb, .int 0])), (mb, .inl (cB, 8192, .inl (fun _ => 0)))]) := hD
  refine va_putF (D := D) (ci := 2) (v := .ref mr) (ty := (.object "MapLumps$Row")) (C := R_Mp) (T := T_Mp) (N := 10) hx hb hts i_Mp ty_Mp tyok_Mp nm_Mp hown hK hP hD hS 0 rfl rfl 0 (by decide) (hts _ w_127) (fun _ h9 => h9) rfl hin rfl (by decide +kernel) rfl rfl (Nat.le_of_ble_eq_true rfl) d_Mp_init_12 (fun H locs hP hD hS => ?_)
  have hP : va_P D cls ([(m0, .inr (2, [.ref mr, .null, .int 0, .int 0, .int 0, .int 0, .int 0, .int 0, .int 0, .int 0])), (mr, .inr (3, [.ref mb, .int 0])), (mb, .inl (cB, 8192, .inl (fun _ => 0)))]) H := hP
  have hD : va_D A ([(m0, .inr (2, [.ref mr, .null, .int 0, .int 0, .int 0, .int 0, .int 0, .int 0, .int 0, .int 0])), (mr, .inr (3, [.ref mb, .int 0])), (mb, .inl (cB, 8192, .inl (fun _ => 0)))]) := hD
  refine lv_aload_n hx hb d_Mp_init_15 rfl (lv_at hl 0 rfl) ?_
  refine lv_bipush (v := 16) hx hb d_Mp_init_16 (by decide) ?_
  refine pz_newI (N' := 16) hx hb (hts _ w_72) hK 1 rfl hP hD hS hA (by decide) (by decide) (by decide) (by decide) (by decide) d_Mp_init_18 (fun mt H hP hD hS => ?_)
  have hP : va_P D cls ([(m0, .inr (2, [.ref mr, .null, .int 0, .int 0, .int 0, .int 0, .int 0, .int 0, .int 0, .int 0])), (mr, .inr (3, [.ref mb, .int 0])), (mb, .inl (cB, 8192, .inl (fun _ => 0))), (mt, .inl (cI, 16, .inl (fun _ => 0)))]) H := hP
  have hD : va_D A ([(m0, .inr (2, [.ref mr, .null, .int 0, .int 0, .int 0, .int 0, .int 0, .int 0, .int 0, .int 0])), (mr, .inr (3, [.ref mb, .int 0])), (mb, .inl (cB, 8192, .inl (fun _ => 0))), (mt, .inl (cI, 16, .inl (fun _ => 0)))]) := hD
  refine va_putF (D := D) (ci := 2) (v := .ref mt) (ty := (.array .int)) (C := R_Mp) (T := T_Mp) (N := 10) hx hb hts i_Mp ty_Mp tyok_Mp nm_Mp hown hK hP hD hS 0 rfl rfl 1 (by decide) (hts _ w_129) (fun _ h9 => h9) rfl hin rfl (by decide +kernel) rfl rfl (Nat.le_of_ble_eq_true rfl) d_Mp_init_20 (fun H locs hP hD hS => ?_)
  have hP : va_P D cls ([(m0, .inr (2, [.ref mr, .ref mt, .int 0, .int 0, .int 0, .int 0, .int 0, .int 0, .int 0, .int 0])), (mr, .inr (3, [.ref mb, .int 0])), (mb, .inl (cB, 8192, .inl (fun _ => 0))), (mt, .inl (cI, 16, .inl (fun _ => 0)))]) H := hP
  have hD : va_D A ([(m0, .inr (2, [.ref mr, .ref mt, .int 0, .int 0, .int 0, .int 0, .int 0, .int 0, .int 0, .int 0])), (mr, .inr (3, [.ref mb, .int 0])), (mb, .inl (cB, 8192, .inl (fun _ => 0))), (mt, .inl (cI, 16, .inl (fun _ => 0)))]) := hD
  exact fin _ _ _ _ _ ((mr, mb, mt)) d_Mp_init_23 hP hD hS rfl
