/-! the start: what the tables say -/
theorem tb1 {w : Cond} (i : Nat) (h : tables_1_1[i]? = some w) : w ∈ lw_tbl := List.mem_append_right _ (List.mem_append_left _ (List.mem_of_getElem? h))
theorem nwF_tb : ∀ q ∈ nwF, Cond.fieldLinkNest q.1 q.2.1 q.2.2.1 q.2.2.2.1 q.2.2.2.2.1 q.2.2.2.2.2 ∈ lw_tbl := List.forall_mem_cons.mpr ⟨tb1 32 rfl, List.forall_mem_cons.mpr ⟨tb1 33 rfl, List.forall_mem_cons.mpr ⟨tb1 74 rfl, List.forall_mem_cons.mpr ⟨tb1 85 rfl, List.forall_mem_cons.mpr ⟨tb1 87 rfl, List.forall_mem_cons.mpr ⟨tb1 89 rfl, List.forall_mem_cons.mpr ⟨tb1 128 rfl, List.forall_mem_cons.mpr ⟨tb1 131 rfl, List.forall_mem_cons.mpr ⟨tb1 133 rfl, List.forall_mem_cons.mpr ⟨tb1 135 rfl, List.forall_mem_cons.mpr ⟨tb1 137 rfl, List.forall_mem_cons.mpr ⟨tb1 139 rfl, List.forall_mem_cons.mpr ⟨tb1 141 rfl, List.forall_mem_cons.mpr ⟨tb1 143 rfl, List.forall_mem_cons.mpr ⟨tb1 145 rfl, fun _ h => absurd h List.not_mem_nil⟩⟩⟩⟩⟩⟩⟩⟩⟩⟩⟩⟩⟩⟩⟩
theorem nwM_tb : ∀ q ∈ nwM, Cond.methodLinkNest q.1 q.2.1 q.2.2.1 q.2.2.2 ∈ lw_tbl := List.forall_mem_cons.mpr ⟨tb1 26 rfl, List.forall_mem_cons.mpr ⟨tb1 43 rfl, List.forall_mem_cons.mpr ⟨tb1 118 rfl, List.forall_mem_cons.mpr ⟨tb1 121 rfl, List.forall_mem_cons.mpr ⟨tb1 126 rfl, fun _ h => absurd h List.not_mem_nil⟩⟩⟩⟩⟩
theorem pzN_of {s : State} {args : Array Value} (hts0 : ∀ w ∈ lw_tbl, w.before args s = true) : pzN s := ⟨fun q hq => va_Nw.of rfl (hts0 _ (nwF_tb q hq)), fun q hq => va_Nw.of rfl (hts0 _ (nwM_tb q hq)), va_AO.of (hts0 _ (tb1 41 rfl))⟩
theorem vaK_of {s : State} {args : Array Value} (hts0 : ∀ w ∈ lw_tbl, w.before args s = true) : ∃ (D : va_G) (cB cI cS : ClassId), va_K D cls [(cB, .byte), (cI, .int), (cS, .object "MapLumps$Span")] s := by
  have hts : ∀ w ∈ gw, w.before args s = true := fun w h => hts0 w (gw_tbl h)
  obtain ⟨c0, iS0, hKn0⟩ := u_known (C := R_Lu) (T := T_Lu) (N := 4) (n := 4) hts i_Lu (hts _ w_11)
  obtain ⟨c1, iS1, hKn1⟩ := u_known (C := R_Rd) (T := T_Rd) (N := 13) (n := 13) hts i_Rd (hts _ w_19)
  obtain ⟨c2, iS2, hKn2⟩ := u_known (C := R_Mp) (T := T_Mp) (N := 10) (n := 10) hts i_Mp (hts _ w_120)
  obtain ⟨c3, iS3, hKn3⟩ := u_known (C := R_Rw) (T := T_Rw) (N := 2) (n := 2) hts i_Rw (hts _ w_25)
  obtain ⟨c4, iS4, hKn4⟩ := u_known (C := R_Sp) (T := T_Sp) (N := 8) (n := 8) hts i_Sp (hts _ w_42)
  obtain ⟨c5, iS5, hKn5⟩ := u_known (C := R_Mo) (T := T_Mo) (N := 13) (n := 13) hts i_Mo (hts _ w_413)
  obtain ⟨bC, bk, bcomp, b1, b2, b3⟩ := Cond.arrayClass_spec (hts _ w_39)
  obtain ⟨iC, ik, icomp, i1, i2, i3⟩ := Cond.arrayClass_spec (hts _ w_72)
  obtain ⟨scomp, sC, sk, s1, -, s2, s3, s4⟩ := Cond.arrayOver_spec (hts0 _ (tb1 41 rfl))
  refine ⟨(fun k => if k = 0 then c0 else if k = 1 then c1 else if k = 2 then c2 else if k = 3 then c3 else if k = 4 then c4 else c5, fun k => if k = 0 then iS0 else if k = 1 then iS1 else if k = 2 then iS2 else if k = 3 then iS3 else if k = 4 then iS4 else iS5), bC, iC, sC, ?_, ?_⟩
  · intro k q hq
    match k, hq with
    | 0, hq => cases hq; exact hKn0
    | 1, hq => cases hq; exact hKn1
    | 2, hq => cases hq; exact hKn2
    | 3, hq => cases hq; exact hKn3
    | 4, hq => cases hq; exact hKn4
    | 5, hq => cases hq; exact hKn5
    | k + 6, hq => simp [cls] at hq
  · intro k q hq
    match k, hq with
    | 0, hq => cases hq; exact ⟨fun n z => ⟨fun k h => (by cases h), bk, b2, bcomp, b3⟩, b1⟩
    | 1, hq => cases hq; exact ⟨fun n z => ⟨fun k h => (by cases h), ik, i2, icomp, i3⟩, i1⟩
    | 2, hq => cases hq; exact ⟨fun n z => ⟨fun k h => (by cases h), sk, s2, scomp, s3⟩, sk, scomp, s2, s3, s1, s4⟩
    | k + 3, hq => simp at hq
